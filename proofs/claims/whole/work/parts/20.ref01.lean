section
def f_X12_isIn  (p1 p2 p3 : Int32) : Int32 :=
  (if p1 < p2 then
  (0 : Int32)
  else
  (if p3 < p1 then
  (0 : Int32)
  else
  (1 : Int32)))
set_option maxHeartbeats 4000000 in
set_option maxRecDepth 100000 in
theorem c_X12_isIn   {μ : Mem} {p1 p2 p3 : Int32}  : Cn yX12_isIn cX12_isIn 4 (some .boolean) 1 0 0 [.ref 0, .int p1, .int p2, .int p3] shR μ (eqP (some (f_X12_isIn p1 p2 p3)) shR μ) := by
  obtain ⟨r, h⟩ : ∃ r, f_X12_isIn p1 p2 p3 = r := ⟨_, rfl⟩
  rw [h]
  refine cn_of (own := RX12) (ini := false) (loc := [some (.ref 0), some (.int p1), some (.int p2), some (.int p3)]) rfl (by decide) (fun q => by cases q) (Nat.le_of_ble_eq_true rfl) (by rfl) rfl ?_
  unfold f_X12_isIn at h
  refine ev_iload_n dX12_isIn_0 rfl ?_
  refine ev_iload_n dX12_isIn_1 rfl ?_
  refine ev_icmp_lt (tgt := 14) dX12_isIn_2 (by decide) (fun hc1 => ?_) (fun hc1 => ?_)
  · replace h := ite_t hc1 h
    refine ev_iconst (v := (0 : Int32)) dX12_isIn_14 (by decide) ?_
    exact ev_iret rfl rfl (by decide) (by decide) dX12_isIn_15 (eqP_P h)
  · replace h := ite_f hc1 h
    refine ev_iload_n dX12_isIn_5 rfl ?_
    refine ev_iload_n dX12_isIn_6 rfl ?_
    refine ev_icmp_gt (tgt := 14) dX12_isIn_7 (by decide) (fun hc2 => ?_) (fun hc2 => ?_)
    · replace h := ite_t hc2 h
      refine ev_iconst (v := (0 : Int32)) dX12_isIn_14 (by decide) ?_
      exact ev_iret rfl rfl (by decide) (by decide) dX12_isIn_15 (eqP_P h)
    · replace h := ite_f hc2 h
      refine ev_iconst (v := (1 : Int32)) dX12_isIn_10 (by decide) ?_
      refine ev_goto (tgt := 15) dX12_isIn_11 (by decide) ?_
      exact ev_iret rfl rfl (by decide) (by decide) dX12_isIn_15 (eqP_P h)
def f_X12_held  (p1 p2 p3 : Int32) : Int32 :=
  (if p2 ≤ p1 then
  (if p1 ≤ p3 then
  p1
  else
  p3)
  else
  p2)
set_option maxHeartbeats 4000000 in
set_option maxRecDepth 100000 in
theorem c_X12_held   {μ : Mem} {p1 p2 p3 : Int32}  : Cn yX12_held cX12_held 4 (some .int) 1 0 0 [.ref 0, .int p1, .int p2, .int p3] shR μ (eqP (some (f_X12_held p1 p2 p3)) shR μ) := by
  obtain ⟨r, h⟩ : ∃ r, f_X12_held p1 p2 p3 = r := ⟨_, rfl⟩
  rw [h]
  refine cn_of (own := RX12) (ini := false) (loc := [some (.ref 0), some (.int p1), some (.int p2), some (.int p3)]) rfl (by decide) (fun q => by cases q) (Nat.le_of_ble_eq_true rfl) (by rfl) rfl ?_
  unfold f_X12_held at h
  refine ev_iload_n dX12_held_0 rfl ?_
  refine ev_iload_n dX12_held_1 rfl ?_
  refine ev_icmp_ge (tgt := 9) dX12_held_2 (by decide) (fun hc1 => ?_) (fun hc1 => ?_)
  · replace h := ite_t hc1 h
    refine ev_iload_n dX12_held_9 rfl ?_
    refine ev_iload_n dX12_held_10 rfl ?_
    refine ev_icmp_le (tgt := 18) dX12_held_11 (by decide) (fun hc2 => ?_) (fun hc2 => ?_)
    · replace h := ite_t hc2 h
      refine ev_iload_n dX12_held_18 rfl ?_
      exact ev_iret rfl rfl (by decide) (by decide) dX12_held_19 (eqP_P h)
    · replace h := ite_f hc2 h
      refine ev_iload_n dX12_held_14 rfl ?_
      refine ev_goto (tgt := 19) dX12_held_15 (by decide) ?_
      exact ev_iret rfl rfl (by decide) (by decide) dX12_held_19 (eqP_P h)
  · replace h := ite_f hc1 h
    refine ev_iload_n dX12_held_5 rfl ?_
    refine ev_goto (tgt := 19) dX12_held_6 (by decide) ?_
    exact ev_iret rfl rfl (by decide) (by decide) dX12_held_19 (eqP_P h)
def f_X12_greater  (p1 p2 : Int32) : Int32 :=
  (if p1 ≤ p2 then
  p2
  else
  p1)
set_option maxHeartbeats 4000000 in
set_option maxRecDepth 100000 in
theorem c_X12_greater   {μ : Mem} {p1 p2 : Int32}  : Cn yX12_greater cX12_greater 3 (some .int) 1 0 0 [.ref 0, .int p1, .int p2] shR μ (eqP (some (f_X12_greater p1 p2)) shR μ) := by
  obtain ⟨r, h⟩ : ∃ r, f_X12_greater p1 p2 = r := ⟨_, rfl⟩
  rw [h]
  refine cn_of (own := RX12) (ini := false) (loc := [some (.ref 0), some (.int p1), some (.int p2)]) rfl (by decide) (fun q => by cases q) (Nat.le_of_ble_eq_true rfl) (by rfl) rfl ?_
  unfold f_X12_greater at h
  refine ev_iload_n dX12_greater_0 rfl ?_
  refine ev_iload_n dX12_greater_1 rfl ?_
  refine ev_icmp_le (tgt := 9) dX12_greater_2 (by decide) (fun hc1 => ?_) (fun hc1 => ?_)
  · replace h := ite_t hc1 h
    refine ev_iload_n dX12_greater_9 rfl ?_
    exact ev_iret rfl rfl (by decide) (by decide) dX12_greater_10 (eqP_P h)
  · replace h := ite_f hc1 h
    refine ev_iload_n dX12_greater_5 rfl ?_
    refine ev_goto (tgt := 10) dX12_greater_6 (by decide) ?_
    exact ev_iret rfl rfl (by decide) (by decide) dX12_greater_10 (eqP_P h)
def f_X12_lesser  (p1 p2 : Int32) : Int32 :=
  (if p2 ≤ p1 then
  p2
  else
  p1)
set_option maxHeartbeats 4000000 in
set_option maxRecDepth 100000 in
theorem c_X12_lesser   {μ : Mem} {p1 p2 : Int32}  : Cn yX12_lesser cX12_lesser 3 (some .int) 1 0 0 [.ref 0, .int p1, .int p2] shR μ (eqP (some (f_X12_lesser p1 p2)) shR μ) := by
  obtain ⟨r, h⟩ : ∃ r, f_X12_lesser p1 p2 = r := ⟨_, rfl⟩
  rw [h]
  refine cn_of (own := RX12) (ini := false) (loc := [some (.ref 0), some (.int p1), some (.int p2)]) rfl (by decide) (fun q => by cases q) (Nat.le_of_ble_eq_true rfl) (by rfl) rfl ?_
  unfold f_X12_lesser at h
  refine ev_iload_n dX12_lesser_0 rfl ?_
  refine ev_iload_n dX12_lesser_1 rfl ?_
  refine ev_icmp_ge (tgt := 9) dX12_lesser_2 (by decide) (fun hc1 => ?_) (fun hc1 => ?_)
  · replace h := ite_t hc1 h
    refine ev_iload_n dX12_lesser_9 rfl ?_
    exact ev_iret rfl rfl (by decide) (by decide) dX12_lesser_10 (eqP_P h)
  · replace h := ite_f hc1 h
    refine ev_iload_n dX12_lesser_5 rfl ?_
    refine ev_goto (tgt := 10) dX12_lesser_6 (by decide) ?_
    exact ev_iret rfl rfl (by decide) (by decide) dX12_lesser_10 (eqP_P h)
def f_X12_apart  (p1 p2 : Int32) : Int32 :=
  (if p1 ≤ p2 then
  (p2 - p1)
  else
  (p1 - p2))
set_option maxHeartbeats 4000000 in
set_option maxRecDepth 100000 in
theorem c_X12_apart   {μ : Mem} {p1 p2 : Int32}  : Cn yX12_apart cX12_apart 3 (some .int) 1 0 0 [.ref 0, .int p1, .int p2] shR μ (eqP (some (f_X12_apart p1 p2)) shR μ) := by
  obtain ⟨r, h⟩ : ∃ r, f_X12_apart p1 p2 = r := ⟨_, rfl⟩
  rw [h]
  refine cn_of (own := RX12) (ini := false) (loc := [some (.ref 0), some (.int p1), some (.int p2)]) rfl (by decide) (fun q => by cases q) (Nat.le_of_ble_eq_true rfl) (by rfl) rfl ?_
  unfold f_X12_apart at h
  refine ev_iload_n dX12_apart_0 rfl ?_
  refine ev_iload_n dX12_apart_1 rfl ?_
  refine ev_icmp_le (tgt := 11) dX12_apart_2 (by decide) (fun hc1 => ?_) (fun hc1 => ?_)
  · replace h := ite_t hc1 h
    refine ev_iload_n dX12_apart_11 rfl ?_
    refine ev_iload_n dX12_apart_12 rfl ?_
    refine ev_isub dX12_apart_13 ?_
    exact ev_iret rfl rfl (by decide) (by decide) dX12_apart_14 (eqP_P h)
  · replace h := ite_f hc1 h
    refine ev_iload_n dX12_apart_5 rfl ?_
    refine ev_iload_n dX12_apart_6 rfl ?_
    refine ev_isub dX12_apart_7 ?_
    refine ev_goto (tgt := 14) dX12_apart_8 (by decide) ?_
    exact ev_iret rfl rfl (by decide) (by decide) dX12_apart_14 (eqP_P h)
def f_X12_onesOf_L4 (G : Nat) (μ : Mem)  : Nat → Int32 → Int32 → Option Int32
  | 0, _, _ => none
  | g + 1, v2, v3 =>
  (if v3 = (0 : Int32) then
  some v2
  else
  (f_X12_onesOf_L4 G μ g) (v2 + (1 : Int32)) (v3 &&& (v3 - (1 : Int32))))
set_option maxHeartbeats 4000000 in
set_option maxRecDepth 100000 in
theorem f_X12_onesOf_L4_ok  {G : Nat} {μ : Mem} {r : Int32}    : ∀ (g : Nat) (v2 v3 : Int32), f_X12_onesOf_L4 G μ g v2 v3 = some r → Ev RX12 cX12_onesOf 4 (some .int) false 1 0 0 (eqP (some r) shR μ) 4 [none, none, some (.int v2), some (.int v3)] [] shR μ 0 0 := by
  intro g
  induction g with
  | zero =>
    intro v2 v3 h
    cases h
  | succ g ih =>
    intro v2 v3 h
    rw [f_X12_onesOf_L4] at h
    refine ev_iload_n dX12_onesOf_4 rfl ?_
    refine ev_if_eq (tgt := 21) dX12_onesOf_5 (by decide) (fun hc1 => ?_) (fun hc1 => ?_)
    · replace h := ite_t hc1 h
      refine ev_iload_n dX12_onesOf_21 rfl ?_
      exact ev_iret rfl rfl (by decide) (by decide) dX12_onesOf_22 (eqP_O h)
    · replace h := ite_f hc1 h
      refine ev_iload_n dX12_onesOf_8 rfl ?_
      refine ev_iconst (v := (1 : Int32)) dX12_onesOf_9 (by decide) ?_
      refine ev_iadd dX12_onesOf_10 ?_
      refine ev_istore_n (loc' := [_, _, _, _]) dX12_onesOf_11 rfl (by decide) (by rfl) ?_
      refine ev_iload_n dX12_onesOf_12 rfl ?_
      refine ev_iload_n dX12_onesOf_13 rfl ?_
      refine ev_iconst (v := (1 : Int32)) dX12_onesOf_14 (by decide) ?_
      refine ev_isub dX12_onesOf_15 ?_
      refine ev_iand dX12_onesOf_16 ?_
      refine ev_istore_n (loc' := [_, _, _, _]) dX12_onesOf_17 rfl (by decide) (by rfl) ?_
      refine ev_goto (tgt := 4) dX12_onesOf_18 (by decide) ?_
      exact ev_lt (ih _ _ h) ⟨rfl, ⟨rfl, trivial⟩⟩
def f_X12_onesOf (G : Nat) (μ : Mem) (p1 : Int32) : Option Int32 :=
  f_X12_onesOf_L4 G μ G (0 : Int32) p1
set_option maxHeartbeats 4000000 in
set_option maxRecDepth 100000 in
theorem c_X12_onesOf  {G : Nat} {μ : Mem}  {p1 : Int32} {r : Int32}  (h : f_X12_onesOf G μ p1 = some r) : Cn yX12_onesOf cX12_onesOf 4 (some .int) 1 0 0 [.ref 0, .int p1] shR μ (eqP (some r) shR μ) := by
  refine cn_of (own := RX12) (ini := false) (loc := [some (.ref 0), some (.int p1), none, none]) rfl (by decide) (fun q => by cases q) (Nat.le_of_ble_eq_true rfl) (by rfl) rfl ?_
  unfold f_X12_onesOf at h
  refine ev_iconst (v := (0 : Int32)) dX12_onesOf_0 (by decide) ?_
  refine ev_istore_n (loc' := [_, _, _, _]) dX12_onesOf_1 rfl (by decide) (by rfl) ?_
  refine ev_iload_n dX12_onesOf_2 rfl ?_
  refine ev_istore_n (loc' := [_, _, _, _]) dX12_onesOf_3 rfl (by decide) (by rfl) ?_
  exact ev_lt (f_X12_onesOf_L4_ok _ _ _ h) ⟨rfl, ⟨rfl, trivial⟩⟩
def f_X12_has  (p1 p2 : Int32) : Int32 :=
  (if ((sr p1 p2) &&& (1 : Int32)) = (1 : Int32) then
  (1 : Int32)
  else
  (0 : Int32))
set_option maxHeartbeats 4000000 in
set_option maxRecDepth 100000 in
theorem c_X12_has   {μ : Mem} {p1 p2 : Int32}  : Cn yX12_has cX12_has 3 (some .boolean) 1 0 0 [.ref 0, .int p1, .int p2] shR μ (eqP (some (f_X12_has p1 p2)) shR μ) := by
  obtain ⟨r, h⟩ : ∃ r, f_X12_has p1 p2 = r := ⟨_, rfl⟩
  rw [h]
  refine cn_of (own := RX12) (ini := false) (loc := [some (.ref 0), some (.int p1), some (.int p2)]) rfl (by decide) (fun q => by cases q) (Nat.le_of_ble_eq_true rfl) (by rfl) rfl ?_
  unfold f_X12_has at h
  refine ev_iload_n dX12_has_0 rfl ?_
  refine ev_iload_n dX12_has_1 rfl ?_
  refine ev_ishr dX12_has_2 ?_
  refine ev_iconst (v := (1 : Int32)) dX12_has_3 (by decide) ?_
  refine ev_iand dX12_has_4 ?_
  refine ev_iconst (v := (1 : Int32)) dX12_has_5 (by decide) ?_
  refine ev_icmp_ne (tgt := 13) dX12_has_6 (by decide) (fun hc1 => ?_) (fun hc1 => ?_)
  · replace h := ite_f hc1 h
    refine ev_iconst (v := (0 : Int32)) dX12_has_13 (by decide) ?_
    exact ev_iret rfl rfl (by decide) (by decide) dX12_has_14 (eqP_P h)
  · replace h := ite_t hc1 h
    refine ev_iconst (v := (1 : Int32)) dX12_has_9 (by decide) ?_
    refine ev_goto (tgt := 14) dX12_has_10 (by decide) ?_
    exact ev_iret rfl rfl (by decide) (by decide) dX12_has_14 (eqP_P h)
def f_X12_keepsAhead_L55 (G : Nat)  : Nat → Int32 → Mem → Option Mem
  | 0, _, _ => none
  | g + 1, v1, μ =>
  (if (49 : Int32) ≤ v1 then
  (let m3 := wr μ 0 3 ((μ 0 3) + (1 : Int32))
  some m3)
  else
  chk v1 49 (chk (((49 : Int32) * (μ 0 3)) + v1) 294 (let m5 := wr μ 2 (ix (((49 : Int32) * (μ 0 3)) + v1)) (μ 1 (ix v1))
  (f_X12_keepsAhead_L55 G g) (v1 + (1 : Int32)) m5)))
set_option maxHeartbeats 4000000 in
set_option maxRecDepth 100000 in
theorem f_X12_keepsAhead_L55_ok  {G : Nat} {μr : Mem}    : ∀ (g : Nat) (v1 : Int32) (μ : Mem), f_X12_keepsAhead_L55 G g v1 μ = some μr → Ev RX12 cX12_keepsAhead 2 none false 1 0 0 (eqP none shR μr) 55 [some (.ref 0), some (.int v1)] [] shR μ 0 0 := by
  intro g
  induction g with
  | zero =>
    intro v1 μ h
    cases h
  | succ g ih =>
    intro v1 μ h
    rw [f_X12_keepsAhead_L55] at h
    refine ev_iload_n dX12_keepsAhead_55 rfl ?_
    refine ev_bipush (v := (49 : Int32)) dX12_keepsAhead_56 (by decide) ?_
    refine ev_icmp_ge (tgt := 87) dX12_keepsAhead_58 (by decide) (fun hc2 => ?_) (fun hc2 => ?_)
    · replace h := ite_t hc2 h
      refine ev_aload_n dX12_keepsAhead_87 rfl ?_
      refine ev_aload_n dX12_keepsAhead_88 rfl ?_
      refine ev_getI fr_X12_152 shR_0 rfl dX12_keepsAhead_89 ?_
      refine ev_iconst (v := (1 : Int32)) dX12_keepsAhead_92 (by decide) ?_
      refine ev_iadd dX12_keepsAhead_93 ?_
      refine ev_putI fr_X12_152 shR_0 rfl rfl rfl dX12_keepsAhead_94 ?_
      exact ev_vret rfl (by decide) (by decide) dX12_keepsAhead_97 (eqP_V h)
    · replace h := ite_f hc2 h
      refine ev_aload_n dX12_keepsAhead_61 rfl ?_
      refine ev_getR fr_X12_13 shR_0 rfl dX12_keepsAhead_62 ?_
      refine ev_bipush (v := (49 : Int32)) dX12_keepsAhead_65 (by decide) ?_
      refine ev_aload_n dX12_keepsAhead_67 rfl ?_
      refine ev_getI fr_X12_152 shR_0 rfl dX12_keepsAhead_68 ?_
      refine ev_imul dX12_keepsAhead_71 ?_
      refine ev_iload_n dX12_keepsAhead_72 rfl ?_
      refine ev_iadd dX12_keepsAhead_73 ?_
      refine ev_aload_n dX12_keepsAhead_74 rfl ?_
      refine ev_getR fr_X12_7 shR_0 rfl dX12_keepsAhead_75 ?_
      refine ev_iload_n dX12_keepsAhead_78 rfl ?_
      obtain ⟨hi4, h⟩ := chk_t h
      refine ev_iald shR_1 hi4 dX12_keepsAhead_79 ?_
      obtain ⟨hi6, h⟩ := chk_t h
      refine ev_iast shR_2 hi6 dX12_keepsAhead_80 ?_
      refine ev_iinc (cq := (1 : Int32)) (loc' := [_, _]) dX12_keepsAhead_81 rfl (by decide) rfl (by decide) (by rfl) ?_
      refine ev_goto (tgt := 55) dX12_keepsAhead_84 (by decide) ?_
      exact ev_lt (ih _ _ h) ⟨rfl, ⟨rfl, trivial⟩⟩
def f_X12_keepsAhead_j53 (G : Nat)  (μ : Mem) : Option Mem :=
  f_X12_keepsAhead_L55 G G (0 : Int32) μ
set_option maxHeartbeats 4000000 in
set_option maxRecDepth 100000 in
theorem f_X12_keepsAhead_j53_ok  {G : Nat} {μr : Mem}    {μ : Mem} (h : f_X12_keepsAhead_j53 G μ = some μr) : Ev RX12 cX12_keepsAhead 2 none false 1 0 0 (eqP none shR μr) 53 [some (.ref 0), none] [] shR μ 0 0 := by
  unfold f_X12_keepsAhead_j53 at h
  refine ev_iconst (v := (0 : Int32)) dX12_keepsAhead_53 (by decide) ?_
  refine ev_istore_n (loc' := [_, _]) dX12_keepsAhead_54 rfl (by decide) (by rfl) ?_
  exact ev_lt (f_X12_keepsAhead_L55_ok _ _ _ h) ⟨rfl, ⟨rfl, trivial⟩⟩
def f_X12_keepsAhead_L21 (G : Nat) (k21_53 : Mem → Option Mem) : Nat → Int32 → Mem → Option Mem
  | 0, _, _ => none
  | g + 1, v1, μ =>
  (if ((49 : Int32) * (μ 0 3)) ≤ v1 then
  k21_53  μ
  else
  chk (v1 + (49 : Int32)) 294 (chk v1 294 (let m10 := wr μ 2 (ix v1) (μ 2 (ix (v1 + (49 : Int32))))
  (f_X12_keepsAhead_L21 G k21_53 g) (v1 + (1 : Int32)) m10)))
set_option maxHeartbeats 4000000 in
set_option maxRecDepth 100000 in
theorem f_X12_keepsAhead_L21_ok  {G : Nat} {μr : Mem}  {k21_53 : Mem → Option Mem} (hk21_53 : ∀ (m : Mem), k21_53 m = some μr → Ev RX12 cX12_keepsAhead 2 none false 1 0 0 (eqP none shR μr) 53 [some (.ref 0), none] [] shR m 0 0) : ∀ (g : Nat) (v1 : Int32) (μ : Mem), f_X12_keepsAhead_L21 G k21_53 g v1 μ = some μr → Ev RX12 cX12_keepsAhead 2 none false 1 0 0 (eqP none shR μr) 21 [some (.ref 0), some (.int v1)] [] shR μ 0 0 := by
  intro g
  induction g with
  | zero =>
    intro v1 μ h
    cases h
  | succ g ih =>
    intro v1 μ h
    rw [f_X12_keepsAhead_L21] at h
    refine ev_iload_n dX12_keepsAhead_21 rfl ?_
    refine ev_bipush (v := (49 : Int32)) dX12_keepsAhead_22 (by decide) ?_
    refine ev_aload_n dX12_keepsAhead_24 rfl ?_
    refine ev_getI fr_X12_152 shR_0 rfl dX12_keepsAhead_25 ?_
    refine ev_imul dX12_keepsAhead_28 ?_
    refine ev_icmp_ge (tgt := 53) dX12_keepsAhead_29 (by decide) (fun hc8 => ?_) (fun hc8 => ?_)
    · replace h := ite_t hc8 h
      exact ev_lt (hk21_53 _ h) ⟨rfl, trivial⟩
    · replace h := ite_f hc8 h
      refine ev_aload_n dX12_keepsAhead_32 rfl ?_
      refine ev_getR fr_X12_13 shR_0 rfl dX12_keepsAhead_33 ?_
      refine ev_iload_n dX12_keepsAhead_36 rfl ?_
      refine ev_aload_n dX12_keepsAhead_37 rfl ?_
      refine ev_getR fr_X12_13 shR_0 rfl dX12_keepsAhead_38 ?_
      refine ev_iload_n dX12_keepsAhead_41 rfl ?_
      refine ev_bipush (v := (49 : Int32)) dX12_keepsAhead_42 (by decide) ?_
      refine ev_iadd dX12_keepsAhead_44 ?_
      obtain ⟨hi9, h⟩ := chk_t h
      refine ev_iald shR_2 hi9 dX12_keepsAhead_45 ?_
      obtain ⟨hi11, h⟩ := chk_t h
      refine ev_iast shR_2 hi11 dX12_keepsAhead_46 ?_
      refine ev_iinc (cq := (1 : Int32)) (loc' := [_, _]) dX12_keepsAhead_47 rfl (by decide) rfl (by decide) (by rfl) ?_
      refine ev_goto (tgt := 21) dX12_keepsAhead_50 (by decide) ?_
      exact ev_lt (ih _ _ h) ⟨rfl, ⟨rfl, trivial⟩⟩
def f_X12_keepsAhead (G : Nat) (μ : Mem) : Option Mem :=
  (if (μ 0 3) = (6 : Int32) then
  (let m7 := wr μ 0 3 ((μ 0 3) - (1 : Int32))
  f_X12_keepsAhead_L21 G (f_X12_keepsAhead_j53 G) G (0 : Int32) m7)
  else
  f_X12_keepsAhead_j53 G  μ)
set_option maxHeartbeats 4000000 in
set_option maxRecDepth 100000 in
theorem c_X12_keepsAhead  {G : Nat} {μ : Mem} {μr : Mem}  (h : f_X12_keepsAhead G μ = some μr) : Cn yX12_keepsAhead cX12_keepsAhead 2 none 1 0 0 [.ref 0] shR μ (eqP none shR μr) := by
  refine cn_of (own := RX12) (ini := false) (loc := [some (.ref 0), none]) rfl (by decide) (fun q => by cases q) (Nat.le_of_ble_eq_true rfl) (by rfl) rfl ?_
  unfold f_X12_keepsAhead at h
  refine ev_aload_n dX12_keepsAhead_0 rfl ?_
  refine ev_getI fr_X12_152 shR_0 rfl dX12_keepsAhead_1 ?_
  refine ev_bipush (v := (6 : Int32)) dX12_keepsAhead_4 (by decide) ?_
  refine ev_icmp_ne (tgt := 53) dX12_keepsAhead_6 (by decide) (fun hc1 => ?_) (fun hc1 => ?_)
  · replace h := ite_f hc1 h
    exact ev_lt (f_X12_keepsAhead_j53_ok h) ⟨rfl, trivial⟩
  · replace h := ite_t hc1 h
    refine ev_aload_n dX12_keepsAhead_9 rfl ?_
    refine ev_aload_n dX12_keepsAhead_10 rfl ?_
    refine ev_getI fr_X12_152 shR_0 rfl dX12_keepsAhead_11 ?_
    refine ev_iconst (v := (1 : Int32)) dX12_keepsAhead_14 (by decide) ?_
    refine ev_isub dX12_keepsAhead_15 ?_
    refine ev_putI fr_X12_152 shR_0 rfl rfl rfl dX12_keepsAhead_16 ?_
    refine ev_iconst (v := (0 : Int32)) dX12_keepsAhead_19 (by decide) ?_
    refine ev_istore_n (loc' := [_, _]) dX12_keepsAhead_20 rfl (by decide) (by rfl) ?_
    exact ev_lt (f_X12_keepsAhead_L21_ok (fun _ hh => f_X12_keepsAhead_j53_ok hh) _ _ _ h) ⟨rfl, ⟨rfl, trivial⟩⟩
def f_X12_undo_L26 (G : Nat)  : Nat → Int32 → Mem → Option (Int32 × Mem)
  | 0, _, _ => none
  | g + 1, v1, μ =>
  (if (49 : Int32) ≤ v1 then
  some ((1 : Int32), μ)
  else
  chk (((49 : Int32) * (μ 0 3)) + v1) 294 (chk v1 49 (let m6 := wr μ 1 (ix v1) (μ 2 (ix (((49 : Int32) * (μ 0 3)) + v1)))
  (f_X12_undo_L26 G g) (v1 + (1 : Int32)) m6)))
set_option maxHeartbeats 4000000 in
set_option maxRecDepth 100000 in
theorem f_X12_undo_L26_ok  {G : Nat} {r : Int32} {μr : Mem}    : ∀ (g : Nat) (v1 : Int32) (μ : Mem), f_X12_undo_L26 G g v1 μ = some (r, μr) → Ev RX12 cX12_undo 2 (some .boolean) false 1 0 0 (eqP (some r) shR μr) 26 [some (.ref 0), some (.int v1)] [] shR μ 0 0 := by
  intro g
  induction g with
  | zero =>
    intro v1 μ h
    cases h
  | succ g ih =>
    intro v1 μ h
    rw [f_X12_undo_L26] at h
    refine ev_iload_n dX12_undo_26 rfl ?_
    refine ev_bipush (v := (49 : Int32)) dX12_undo_27 (by decide) ?_
    refine ev_icmp_ge (tgt := 58) dX12_undo_29 (by decide) (fun hc4 => ?_) (fun hc4 => ?_)
    · replace h := ite_t hc4 h
      refine ev_iconst (v := (1 : Int32)) dX12_undo_58 (by decide) ?_
      exact ev_iret rfl rfl (by decide) (by decide) dX12_undo_59 (eqP_E h)
    · replace h := ite_f hc4 h
      refine ev_aload_n dX12_undo_32 rfl ?_
      refine ev_getR fr_X12_7 shR_0 rfl dX12_undo_33 ?_
      refine ev_iload_n dX12_undo_36 rfl ?_
      refine ev_aload_n dX12_undo_37 rfl ?_
      refine ev_getR fr_X12_13 shR_0 rfl dX12_undo_38 ?_
      refine ev_bipush (v := (49 : Int32)) dX12_undo_41 (by decide) ?_
      refine ev_aload_n dX12_undo_43 rfl ?_
      refine ev_getI fr_X12_152 shR_0 rfl dX12_undo_44 ?_
      refine ev_imul dX12_undo_47 ?_
      refine ev_iload_n dX12_undo_48 rfl ?_
      refine ev_iadd dX12_undo_49 ?_
      obtain ⟨hi5, h⟩ := chk_t h
      refine ev_iald shR_2 hi5 dX12_undo_50 ?_
      obtain ⟨hi7, h⟩ := chk_t h
      refine ev_iast shR_1 hi7 dX12_undo_51 ?_
      refine ev_iinc (cq := (1 : Int32)) (loc' := [_, _]) dX12_undo_52 rfl (by decide) rfl (by decide) (by rfl) ?_
      refine ev_goto (tgt := 26) dX12_undo_55 (by decide) ?_
      exact ev_lt (ih _ _ h) ⟨rfl, ⟨rfl, trivial⟩⟩
def f_X12_undo (G : Nat) (μ : Mem) : Option (Int32 × Mem) :=
  (let m1 := wr μ 0 0 (0 : Int32)
  (if (m1 0 3) = (0 : Int32) then
  some ((0 : Int32), m1)
  else
  (let m3 := wr m1 0 3 ((m1 0 3) - (1 : Int32))
  f_X12_undo_L26 G G (0 : Int32) m3)))
set_option maxHeartbeats 4000000 in
set_option maxRecDepth 100000 in
theorem c_X12_undo  {G : Nat} {μ : Mem} {r : Int32} {μr : Mem}  (h : f_X12_undo G μ = some (r, μr)) : Cn yX12_undo cX12_undo 2 (some .boolean) 1 0 0 [.ref 0] shR μ (eqP (some r) shR μr) := by
  refine cn_of (own := RX12) (ini := false) (loc := [some (.ref 0), none]) rfl (by decide) (fun q => by cases q) (Nat.le_of_ble_eq_true rfl) (by rfl) rfl ?_
  unfold f_X12_undo at h
  refine ev_aload_n dX12_undo_0 rfl ?_
  refine ev_iconst (v := (0 : Int32)) dX12_undo_1 (by decide) ?_
  refine ev_putI fr_X12_149 shR_0 rfl rfl rfl dX12_undo_2 ?_
  refine ev_aload_n dX12_undo_5 rfl ?_
  refine ev_getI fr_X12_152 shR_0 rfl dX12_undo_6 ?_
  refine ev_if_ne (tgt := 14) dX12_undo_9 (by decide) (fun hc2 => ?_) (fun hc2 => ?_)
  · replace h := ite_f hc2 h
    refine ev_aload_n dX12_undo_14 rfl ?_
    refine ev_aload_n dX12_undo_15 rfl ?_
    refine ev_getI fr_X12_152 shR_0 rfl dX12_undo_16 ?_
    refine ev_iconst (v := (1 : Int32)) dX12_undo_19 (by decide) ?_
    refine ev_isub dX12_undo_20 ?_
    refine ev_putI fr_X12_152 shR_0 rfl rfl rfl dX12_undo_21 ?_
    refine ev_iconst (v := (0 : Int32)) dX12_undo_24 (by decide) ?_
    refine ev_istore_n (loc' := [_, _]) dX12_undo_25 rfl (by decide) (by rfl) ?_
    exact ev_lt (f_X12_undo_L26_ok _ _ _ h) ⟨rfl, ⟨rfl, trivial⟩⟩
  · replace h := ite_t hc2 h
    refine ev_iconst (v := (0 : Int32)) dX12_undo_12 (by decide) ?_
    exact ev_iret rfl rfl (by decide) (by decide) dX12_undo_13 (eqP_E h)
def f_X12_thinks_L2 (G : Nat)  : Nat → Int32 → Mem → Option Mem
  | 0, _, _ => none
  | g + 1, v1, μ =>
  (if (49 : Int32) ≤ v1 then
  (let m2 := wr μ 0 5 (1 : Int32)
  some m2)
  else
  chk v1 49 (chk v1 49 (let m4 := wr μ 3 (ix v1) (μ 1 (ix v1))
  (f_X12_thinks_L2 G g) (v1 + (1 : Int32)) m4)))
set_option maxHeartbeats 4000000 in
set_option maxRecDepth 100000 in
theorem f_X12_thinks_L2_ok  {G : Nat} {μr : Mem}    : ∀ (g : Nat) (v1 : Int32) (μ : Mem), f_X12_thinks_L2 G g v1 μ = some μr → Ev RX12 cX12_thinks 2 none false 1 0 0 (eqP none shR μr) 2 [some (.ref 0), some (.int v1)] [] shR μ 0 0 := by
  intro g
  induction g with
  | zero =>
    intro v1 μ h
    cases h
  | succ g ih =>
    intro v1 μ h
    rw [f_X12_thinks_L2] at h
    refine ev_iload_n dX12_thinks_2 rfl ?_
    refine ev_bipush (v := (49 : Int32)) dX12_thinks_3 (by decide) ?_
    refine ev_icmp_ge (tgt := 26) dX12_thinks_5 (by decide) (fun hc1 => ?_) (fun hc1 => ?_)
    · replace h := ite_t hc1 h
      refine ev_aload_n dX12_thinks_26 rfl ?_
      refine ev_iconst (v := (1 : Int32)) dX12_thinks_27 (by decide) ?_
      refine ev_putI fr_X12_155 shR_0 rfl rfl rfl dX12_thinks_28 ?_
      exact ev_vret rfl (by decide) (by decide) dX12_thinks_31 (eqP_V h)
    · replace h := ite_f hc1 h
      refine ev_aload_n dX12_thinks_8 rfl ?_
      refine ev_getR fr_X12_16 shR_0 rfl dX12_thinks_9 ?_
      refine ev_iload_n dX12_thinks_12 rfl ?_
      refine ev_aload_n dX12_thinks_13 rfl ?_
      refine ev_getR fr_X12_7 shR_0 rfl dX12_thinks_14 ?_
      refine ev_iload_n dX12_thinks_17 rfl ?_
      obtain ⟨hi3, h⟩ := chk_t h
      refine ev_iald shR_1 hi3 dX12_thinks_18 ?_
      obtain ⟨hi5, h⟩ := chk_t h
      refine ev_iast shR_3 hi5 dX12_thinks_19 ?_
      refine ev_iinc (cq := (1 : Int32)) (loc' := [_, _]) dX12_thinks_20 rfl (by decide) rfl (by decide) (by rfl) ?_
      refine ev_goto (tgt := 2) dX12_thinks_23 (by decide) ?_
      exact ev_lt (ih _ _ h) ⟨rfl, ⟨rfl, trivial⟩⟩
def f_X12_thinks (G : Nat) (μ : Mem) : Option Mem :=
  f_X12_thinks_L2 G G (0 : Int32) μ
set_option maxHeartbeats 4000000 in
set_option maxRecDepth 100000 in
theorem c_X12_thinks  {G : Nat} {μ : Mem} {μr : Mem}  (h : f_X12_thinks G μ = some μr) : Cn yX12_thinks cX12_thinks 2 none 1 0 0 [.ref 0] shR μ (eqP none shR μr) := by
  refine cn_of (own := RX12) (ini := false) (loc := [some (.ref 0), none]) rfl (by decide) (fun q => by cases q) (Nat.le_of_ble_eq_true rfl) (by rfl) rfl ?_
  unfold f_X12_thinks at h
  refine ev_iconst (v := (0 : Int32)) dX12_thinks_0 (by decide) ?_
  refine ev_istore_n (loc' := [_, _]) dX12_thinks_1 rfl (by decide) (by rfl) ?_
  exact ev_lt (f_X12_thinks_L2_ok _ _ _ h) ⟨rfl, ⟨rfl, trivial⟩⟩
def f_X12_endsThought_L2 (G : Nat)  : Nat → Int32 → Mem → Option Mem
  | 0, _, _ => none
  | g + 1, v1, μ =>
  (if (49 : Int32) ≤ v1 then
  (let m2 := wr μ 0 5 (0 : Int32)
  some m2)
  else
  chk v1 49 (chk v1 49 (let m4 := wr μ 1 (ix v1) (μ 3 (ix v1))
  (f_X12_endsThought_L2 G g) (v1 + (1 : Int32)) m4)))
set_option maxHeartbeats 4000000 in
set_option maxRecDepth 100000 in
theorem f_X12_endsThought_L2_ok  {G : Nat} {μr : Mem}    : ∀ (g : Nat) (v1 : Int32) (μ : Mem), f_X12_endsThought_L2 G g v1 μ = some μr → Ev RX12 cX12_endsThought 2 none false 1 0 0 (eqP none shR μr) 2 [some (.ref 0), some (.int v1)] [] shR μ 0 0 := by
  intro g
  induction g with
  | zero =>
    intro v1 μ h
    cases h
  | succ g ih =>
    intro v1 μ h
    rw [f_X12_endsThought_L2] at h
    refine ev_iload_n dX12_endsThought_2 rfl ?_
    refine ev_bipush (v := (49 : Int32)) dX12_endsThought_3 (by decide) ?_
    refine ev_icmp_ge (tgt := 26) dX12_endsThought_5 (by decide) (fun hc1 => ?_) (fun hc1 => ?_)
    · replace h := ite_t hc1 h
      refine ev_aload_n dX12_endsThought_26 rfl ?_
      refine ev_iconst (v := (0 : Int32)) dX12_endsThought_27 (by decide) ?_
      refine ev_putI fr_X12_155 shR_0 rfl rfl rfl dX12_endsThought_28 ?_
      exact ev_vret rfl (by decide) (by decide) dX12_endsThought_31 (eqP_V h)
    · replace h := ite_f hc1 h
      refine ev_aload_n dX12_endsThought_8 rfl ?_
      refine ev_getR fr_X12_7 shR_0 rfl dX12_endsThought_9 ?_
      refine ev_iload_n dX12_endsThought_12 rfl ?_
      refine ev_aload_n dX12_endsThought_13 rfl ?_
      refine ev_getR fr_X12_16 shR_0 rfl dX12_endsThought_14 ?_
      refine ev_iload_n dX12_endsThought_17 rfl ?_
      obtain ⟨hi3, h⟩ := chk_t h
      refine ev_iald shR_3 hi3 dX12_endsThought_18 ?_
      obtain ⟨hi5, h⟩ := chk_t h
      refine ev_iast shR_1 hi5 dX12_endsThought_19 ?_
      refine ev_iinc (cq := (1 : Int32)) (loc' := [_, _]) dX12_endsThought_20 rfl (by decide) rfl (by decide) (by rfl) ?_
      refine ev_goto (tgt := 2) dX12_endsThought_23 (by decide) ?_
      exact ev_lt (ih _ _ h) ⟨rfl, ⟨rfl, trivial⟩⟩
def f_X12_endsThought (G : Nat) (μ : Mem) : Option Mem :=
  f_X12_endsThought_L2 G G (0 : Int32) μ
set_option maxHeartbeats 4000000 in
set_option maxRecDepth 100000 in
theorem c_X12_endsThought  {G : Nat} {μ : Mem} {μr : Mem}  (h : f_X12_endsThought G μ = some μr) : Cn yX12_endsThought cX12_endsThought 2 none 1 0 0 [.ref 0] shR μ (eqP none shR μr) := by
  refine cn_of (own := RX12) (ini := false) (loc := [some (.ref 0), none]) rfl (by decide) (fun q => by cases q) (Nat.le_of_ble_eq_true rfl) (by rfl) rfl ?_
  unfold f_X12_endsThought at h
  refine ev_iconst (v := (0 : Int32)) dX12_endsThought_0 (by decide) ?_
  refine ev_istore_n (loc' := [_, _]) dX12_endsThought_1 rfl (by decide) (by rfl) ?_
  exact ev_lt (f_X12_endsThought_L2_ok _ _ _ h) ⟨rfl, ⟨rfl, trivial⟩⟩
def f_X12_state (G : Nat) (p1 : Int32) (μ : Mem) : Option (Int32 × Mem) :=
  (let m1 := wr μ 0 0 (0 : Int32)
  (let m2 := wr m1 1 1 p1
  (let m3 := wr m2 0 3 (0 : Int32)
  some ((m1 1 1), m3))))
set_option maxHeartbeats 4000000 in
set_option maxRecDepth 100000 in
theorem c_X12_state  {G : Nat} {μ : Mem} {p1 : Int32} {r : Int32} {μr : Mem}  (h : f_X12_state G p1 μ = some (r, μr)) : Cn yX12_state cX12_state 3 (some .int) 1 0 0 [.ref 0, .int p1] shR μ (eqP (some r) shR μr) := by
  refine cn_of (own := RX12) (ini := false) (loc := [some (.ref 0), some (.int p1), none]) rfl (by decide) (fun q => by cases q) (Nat.le_of_ble_eq_true rfl) (by rfl) rfl ?_
  unfold f_X12_state at h
  refine ev_aload_n dX12_state_0 rfl ?_
  refine ev_iconst (v := (0 : Int32)) dX12_state_1 (by decide) ?_
  refine ev_putI fr_X12_149 shR_0 rfl rfl rfl dX12_state_2 ?_
  refine ev_aload_n dX12_state_5 rfl ?_
  refine ev_getR fr_X12_7 shR_0 rfl dX12_state_6 ?_
  refine ev_iconst (v := (1 : Int32)) dX12_state_9 (by decide) ?_
  refine ev_ialdL (j := 1) shR_1 (by decide) (vpl _ _ (by decide)) dX12_state_10 ?_
  refine ev_istore_n (loc' := [_, _, _]) dX12_state_11 rfl (by decide) (by rfl) ?_
  refine ev_aload_n dX12_state_12 rfl ?_
  refine ev_getR fr_X12_7 shR_0 rfl dX12_state_13 ?_
  refine ev_iconst (v := (1 : Int32)) dX12_state_16 (by decide) ?_
  refine ev_iload_n dX12_state_17 rfl ?_
  refine ev_iastL (j := 1) shR_1 (by decide) (vpl _ _ (by decide)) dX12_state_18 ?_
  refine ev_aload_n dX12_state_19 rfl ?_
  refine ev_iconst (v := (0 : Int32)) dX12_state_20 (by decide) ?_
  refine ev_putI fr_X12_152 shR_0 rfl rfl rfl dX12_state_21 ?_
  refine ev_iload_n dX12_state_24 rfl ?_
  exact ev_iret rfl rfl (by decide) (by decide) dX12_state_25 (eqP_E h)
def f_X12_draw (G : Nat) (p1 : Int32) (μ : Mem) : Option (Int32 × Mem) :=
  (let m1 := wr μ 1 1 (((1664525 : Int32) * (μ 1 1)) + (1013904223 : Int32))
  dvk p1 (some ((irm (su (m1 1 1) (8 : Int32)) p1), m1)))
set_option maxHeartbeats 4000000 in
set_option maxRecDepth 100000 in
theorem c_X12_draw  {G : Nat} {μ : Mem} {p1 : Int32} {r : Int32} {μr : Mem}  (h : f_X12_draw G p1 μ = some (r, μr)) : Cn yX12_draw cX12_draw 2 (some .int) 1 0 0 [.ref 0, .int p1] shR μ (eqP (some r) shR μr) := by
  refine cn_of (own := RX12) (ini := false) (loc := [some (.ref 0), some (.int p1)]) rfl (by decide) (fun q => by cases q) (Nat.le_of_ble_eq_true rfl) (by rfl) rfl ?_
  unfold f_X12_draw at h
  refine ev_aload_n dX12_draw_0 rfl ?_
  refine ev_getR fr_X12_7 shR_0 rfl dX12_draw_1 ?_
  refine ev_iconst (v := (1 : Int32)) dX12_draw_4 (by decide) ?_
  refine ev_ldc dX12_draw_5 kc_X12_159 ?_
  refine ev_aload_n dX12_draw_7 rfl ?_
  refine ev_getR fr_X12_7 shR_0 rfl dX12_draw_8 ?_
  refine ev_iconst (v := (1 : Int32)) dX12_draw_11 (by decide) ?_
  refine ev_ialdL (j := 1) shR_1 (by decide) (vpl _ _ (by decide)) dX12_draw_12 ?_
  refine ev_imul dX12_draw_13 ?_
  refine ev_ldc dX12_draw_14 kc_X12_160 ?_
  refine ev_iadd dX12_draw_16 ?_
  refine ev_iastL (j := 1) shR_1 (by decide) (vpl _ _ (by decide)) dX12_draw_17 ?_
  refine ev_aload_n dX12_draw_18 rfl ?_
  refine ev_getR fr_X12_7 shR_0 rfl dX12_draw_19 ?_
  refine ev_iconst (v := (1 : Int32)) dX12_draw_22 (by decide) ?_
  refine ev_ialdL (j := 1) shR_1 (by decide) (vpl _ _ (by decide)) dX12_draw_23 ?_
  refine ev_bipush (v := (8 : Int32)) dX12_draw_24 (by decide) ?_
  refine ev_iushr dX12_draw_26 ?_
  refine ev_iload_n dX12_draw_27 rfl ?_
  obtain ⟨hz2, h⟩ := dvk_t h
  refine ev_irem dX12_draw_28 hz2 ?_
  exact ev_iret rfl rfl (by decide) (by decide) dX12_draw_29 (eqP_E h)
def f_X12_isWoman (μ : Mem) (p1 : Int32) : Int32 :=
  (if p1 < (0 : Int32) then
  (0 : Int32)
  else
  (if (μ 0 6) ≤ p1 then
  (0 : Int32)
  else
  (1 : Int32)))
set_option maxHeartbeats 4000000 in
set_option maxRecDepth 100000 in
theorem c_X12_isWoman  {μ : Mem}  {p1 : Int32}  : Cn yX12_isWoman cX12_isWoman 2 (some .boolean) 1 0 0 [.ref 0, .int p1] shR μ (eqP (some (f_X12_isWoman μ p1)) shR μ) := by
  obtain ⟨r, h⟩ : ∃ r, f_X12_isWoman μ p1 = r := ⟨_, rfl⟩
  rw [h]
  refine cn_of (own := RX12) (ini := false) (loc := [some (.ref 0), some (.int p1)]) rfl (by decide) (fun q => by cases q) (Nat.le_of_ble_eq_true rfl) (by rfl) rfl ?_
  unfold f_X12_isWoman at h
  refine ev_iload_n dX12_isWoman_0 rfl ?_
  refine ev_if_lt (tgt := 16) dX12_isWoman_1 (by decide) (fun hc1 => ?_) (fun hc1 => ?_)
  · replace h := ite_t hc1 h
    refine ev_iconst (v := (0 : Int32)) dX12_isWoman_16 (by decide) ?_
    exact ev_iret rfl rfl (by decide) (by decide) dX12_isWoman_17 (eqP_P h)
  · replace h := ite_f hc1 h
    refine ev_iload_n dX12_isWoman_4 rfl ?_
    refine ev_aload_n dX12_isWoman_5 rfl ?_
    refine ev_getI fr_X12_161 shR_0 rfl dX12_isWoman_6 ?_
    refine ev_icmp_ge (tgt := 16) dX12_isWoman_9 (by decide) (fun hc2 => ?_) (fun hc2 => ?_)
    · replace h := ite_t hc2 h
      refine ev_iconst (v := (0 : Int32)) dX12_isWoman_16 (by decide) ?_
      exact ev_iret rfl rfl (by decide) (by decide) dX12_isWoman_17 (eqP_P h)
    · replace h := ite_f hc2 h
      refine ev_iconst (v := (1 : Int32)) dX12_isWoman_12 (by decide) ?_
      refine ev_goto (tgt := 17) dX12_isWoman_13 (by decide) ?_
      exact ev_iret rfl rfl (by decide) (by decide) dX12_isWoman_17 (eqP_P h)
def f_X12_isGroom (μ : Mem) (p1 : Int32) : Int32 :=
  (if p1 < (0 : Int32) then
  (0 : Int32)
  else
  (if (μ 0 7) ≤ p1 then
  (0 : Int32)
  else
  (1 : Int32)))
set_option maxHeartbeats 4000000 in
set_option maxRecDepth 100000 in
theorem c_X12_isGroom  {μ : Mem}  {p1 : Int32}  : Cn yX12_isGroom cX12_isGroom 2 (some .boolean) 1 0 0 [.ref 0, .int p1] shR μ (eqP (some (f_X12_isGroom μ p1)) shR μ) := by
  obtain ⟨r, h⟩ : ∃ r, f_X12_isGroom μ p1 = r := ⟨_, rfl⟩
  rw [h]
  refine cn_of (own := RX12) (ini := false) (loc := [some (.ref 0), some (.int p1)]) rfl (by decide) (fun q => by cases q) (Nat.le_of_ble_eq_true rfl) (by rfl) rfl ?_
  unfold f_X12_isGroom at h
  refine ev_iload_n dX12_isGroom_0 rfl ?_
  refine ev_if_lt (tgt := 16) dX12_isGroom_1 (by decide) (fun hc1 => ?_) (fun hc1 => ?_)
  · replace h := ite_t hc1 h
    refine ev_iconst (v := (0 : Int32)) dX12_isGroom_16 (by decide) ?_
    exact ev_iret rfl rfl (by decide) (by decide) dX12_isGroom_17 (eqP_P h)
  · replace h := ite_f hc1 h
    refine ev_iload_n dX12_isGroom_4 rfl ?_
    refine ev_aload_n dX12_isGroom_5 rfl ?_
    refine ev_getI fr_X12_164 shR_0 rfl dX12_isGroom_6 ?_
    refine ev_icmp_ge (tgt := 16) dX12_isGroom_9 (by decide) (fun hc2 => ?_) (fun hc2 => ?_)
    · replace h := ite_t hc2 h
      refine ev_iconst (v := (0 : Int32)) dX12_isGroom_16 (by decide) ?_
      exact ev_iret rfl rfl (by decide) (by decide) dX12_isGroom_17 (eqP_P h)
    · replace h := ite_f hc2 h
      refine ev_iconst (v := (1 : Int32)) dX12_isGroom_12 (by decide) ?_
      refine ev_goto (tgt := 17) dX12_isGroom_13 (by decide) ?_
      exact ev_iret rfl rfl (by decide) (by decide) dX12_isGroom_17 (eqP_P h)
def f_X12_wifeOf (G : Nat) (μ : Mem) (p1 : Int32) : Option Int32 :=
  chk ((17 : Int32) + p1) 49 (some ((μ 1 (ix ((17 : Int32) + p1))) - (1 : Int32)))
set_option maxHeartbeats 4000000 in
set_option maxRecDepth 100000 in
theorem c_X12_wifeOf  {G : Nat} {μ : Mem}  {p1 : Int32} {r : Int32}  (h : f_X12_wifeOf G μ p1 = some r) : Cn yX12_wifeOf cX12_wifeOf 2 (some .int) 1 0 0 [.ref 0, .int p1] shR μ (eqP (some r) shR μ) := by
  refine cn_of (own := RX12) (ini := false) (loc := [some (.ref 0), some (.int p1)]) rfl (by decide) (fun q => by cases q) (Nat.le_of_ble_eq_true rfl) (by rfl) rfl ?_
  unfold f_X12_wifeOf at h
  refine ev_aload_n dX12_wifeOf_0 rfl ?_
  refine ev_getR fr_X12_7 shR_0 rfl dX12_wifeOf_1 ?_
  refine ev_bipush (v := (17 : Int32)) dX12_wifeOf_4 (by decide) ?_
  refine ev_iload_n dX12_wifeOf_6 rfl ?_
  refine ev_iadd dX12_wifeOf_7 ?_
  obtain ⟨hi1, h⟩ := chk_t h
  refine ev_iald shR_1 hi1 dX12_wifeOf_8 ?_
  refine ev_iconst (v := (1 : Int32)) dX12_wifeOf_9 (by decide) ?_
  refine ev_isub dX12_wifeOf_10 ?_
  exact ev_iret rfl rfl (by decide) (by decide) dX12_wifeOf_11 (eqP_O h)
def f_X12_isFree (G : Nat) (μ : Mem) (p1 : Int32) : Option Int32 :=
  chk ((5 : Int32) + p1) 49 ((if (μ 1 (ix ((5 : Int32) + p1))) = (0 : Int32) then
  some (1 : Int32)
  else
  some (0 : Int32)))
set_option maxHeartbeats 4000000 in
set_option maxRecDepth 100000 in
theorem c_X12_isFree  {G : Nat} {μ : Mem}  {p1 : Int32} {r : Int32}  (h : f_X12_isFree G μ p1 = some r) : Cn yX12_isFree cX12_isFree 2 (some .boolean) 1 0 0 [.ref 0, .int p1] shR μ (eqP (some r) shR μ) := by
  refine cn_of (own := RX12) (ini := false) (loc := [some (.ref 0), some (.int p1)]) rfl (by decide) (fun q => by cases q) (Nat.le_of_ble_eq_true rfl) (by rfl) rfl ?_
  unfold f_X12_isFree at h
  refine ev_aload_n dX12_isFree_0 rfl ?_
  refine ev_getR fr_X12_7 shR_0 rfl dX12_isFree_1 ?_
  refine ev_iconst (v := (5 : Int32)) dX12_isFree_4 (by decide) ?_
  refine ev_iload_n dX12_isFree_5 rfl ?_
  refine ev_iadd dX12_isFree_6 ?_
  obtain ⟨hi1, h⟩ := chk_t h
  refine ev_iald shR_1 hi1 dX12_isFree_7 ?_
  refine ev_if_ne (tgt := 15) dX12_isFree_8 (by decide) (fun hc2 => ?_) (fun hc2 => ?_)
  · replace h := ite_f hc2 h
    refine ev_iconst (v := (0 : Int32)) dX12_isFree_15 (by decide) ?_
    exact ev_iret rfl rfl (by decide) (by decide) dX12_isFree_16 (eqP_O h)
  · replace h := ite_t hc2 h
    refine ev_iconst (v := (1 : Int32)) dX12_isFree_11 (by decide) ?_
    refine ev_goto (tgt := 16) dX12_isFree_12 (by decide) ?_
    exact ev_iret rfl rfl (by decide) (by decide) dX12_isFree_16 (eqP_O h)
def f_X12_woman (G : Nat) (p1 p2 p3 : Int32) (μ : Mem) : Option (Int32 × Mem) :=
  (let m1 := wr μ 0 0 (0 : Int32)
  (if (f_X12_isIn p1 (0 : Int32) (9 : Int32)) = (0 : Int32) then
  some ((-1 : Int32), m1)
  else
  (if (f_X12_isIn p2 (0 : Int32) (9 : Int32)) = (0 : Int32) then
  some ((-1 : Int32), m1)
  else
  (if (f_X12_isIn p3 (0 : Int32) (9 : Int32)) = (0 : Int32) then
  some ((-1 : Int32), m1)
  else
  (if (m1 0 6) = (12 : Int32) then
  some ((-1 : Int32), m1)
  else
  chk (m1 0 6) 12 (let m6 := wr m1 4 (ix (m1 0 6)) p1
  chk (m6 0 6) 12 (let m8 := wr m6 5 (ix (m6 0 6)) p2
  chk (m8 0 6) 12 (let m10 := wr m8 6 (ix (m8 0 6)) p3
  chk ((5 : Int32) + (m10 0 6)) 49 (let m12 := wr m10 1 (ix ((5 : Int32) + (m10 0 6))) (0 : Int32)
  (let m14 := wr m12 1 4 ((m12 1 4) &&& ((sl (1 : Int32) (m12 0 6)) ^^^ (-1 : Int32)))
  (let m15 := wr m14 0 6 ((m14 0 6) + (1 : Int32))
  (let m16 := wr m15 0 3 (0 : Int32)
  some (((m16 0 6) - (1 : Int32)), m16)))))))))))))
set_option maxHeartbeats 4000000 in
set_option maxRecDepth 100000 in
theorem c_X12_woman  {G : Nat} {μ : Mem} {p1 p2 p3 : Int32} {r : Int32} {μr : Mem}  (h : f_X12_woman G p1 p2 p3 μ = some (r, μr)) : Cn yX12_woman cX12_woman 4 (some .int) 2 0 0 [.ref 0, .int p1, .int p2, .int p3] shR μ (eqP (some r) shR μr) := by
  refine cn_of (own := RX12) (ini := false) (loc := [some (.ref 0), some (.int p1), some (.int p2), some (.int p3)]) rfl (by decide) (fun q => by cases q) (Nat.le_of_ble_eq_true rfl) (by rfl) rfl ?_
  unfold f_X12_woman at h
  refine ev_aload_n dX12_woman_0 rfl ?_
  refine ev_iconst (v := (0 : Int32)) dX12_woman_1 (by decide) ?_
  refine ev_putI fr_X12_149 shR_0 rfl rfl rfl dX12_woman_2 ?_
  refine ev_aload_n dX12_woman_5 rfl ?_
  refine ev_iload_n dX12_woman_6 rfl ?_
  refine ev_iconst (v := (0 : Int32)) dX12_woman_7 (by decide) ?_
  refine ev_bipush (v := (9 : Int32)) dX12_woman_8 (by decide) ?_
  refine ev_cVi mv_X12_167 dX12_woman_10 c_X12_isIn rfl shR_0 rfl rfl (Nat.le_of_ble_eq_true rfl) (by rfl) (Nat.le_of_ble_eq_true rfl) (Nat.le_of_ble_eq_true rfl) (Nat.le_of_ble_eq_true rfl) ?_
  refine ev_if_eq (tgt := 47) dX12_woman_13 (by decide) (fun hc2 => ?_) (fun hc2 => ?_)
  · replace h := ite_t hc2 h
    refine ev_iconst (v := (-1 : Int32)) dX12_woman_47 (by decide) ?_
    exact ev_iret rfl rfl (by decide) (by decide) dX12_woman_48 (eqP_E h)
  · replace h := ite_f hc2 h
    refine ev_aload_n dX12_woman_16 rfl ?_
    refine ev_iload_n dX12_woman_17 rfl ?_
    refine ev_iconst (v := (0 : Int32)) dX12_woman_18 (by decide) ?_
    refine ev_bipush (v := (9 : Int32)) dX12_woman_19 (by decide) ?_
    refine ev_cVi mv_X12_167 dX12_woman_21 c_X12_isIn rfl shR_0 rfl rfl (Nat.le_of_ble_eq_true rfl) (by rfl) (Nat.le_of_ble_eq_true rfl) (Nat.le_of_ble_eq_true rfl) (Nat.le_of_ble_eq_true rfl) ?_
    refine ev_if_eq (tgt := 47) dX12_woman_24 (by decide) (fun hc3 => ?_) (fun hc3 => ?_)
    · replace h := ite_t hc3 h
      refine ev_iconst (v := (-1 : Int32)) dX12_woman_47 (by decide) ?_
      exact ev_iret rfl rfl (by decide) (by decide) dX12_woman_48 (eqP_E h)
    · replace h := ite_f hc3 h
      refine ev_aload_n dX12_woman_27 rfl ?_
      refine ev_iload_n dX12_woman_28 rfl ?_
      refine ev_iconst (v := (0 : Int32)) dX12_woman_29 (by decide) ?_
      refine ev_bipush (v := (9 : Int32)) dX12_woman_30 (by decide) ?_
      refine ev_cVi mv_X12_167 dX12_woman_32 c_X12_isIn rfl shR_0 rfl rfl (Nat.le_of_ble_eq_true rfl) (by rfl) (Nat.le_of_ble_eq_true rfl) (Nat.le_of_ble_eq_true rfl) (Nat.le_of_ble_eq_true rfl) ?_
      refine ev_if_eq (tgt := 47) dX12_woman_35 (by decide) (fun hc4 => ?_) (fun hc4 => ?_)
      · replace h := ite_t hc4 h
        refine ev_iconst (v := (-1 : Int32)) dX12_woman_47 (by decide) ?_
        exact ev_iret rfl rfl (by decide) (by decide) dX12_woman_48 (eqP_E h)
      · replace h := ite_f hc4 h
        refine ev_aload_n dX12_woman_38 rfl ?_
        refine ev_getI fr_X12_161 shR_0 rfl dX12_woman_39 ?_
        refine ev_bipush (v := (12 : Int32)) dX12_woman_42 (by decide) ?_
        refine ev_icmp_ne (tgt := 49) dX12_woman_44 (by decide) (fun hc5 => ?_) (fun hc5 => ?_)
        · replace h := ite_f hc5 h
          refine ev_aload_n dX12_woman_49 rfl ?_
          refine ev_getR fr_X12_19 shR_0 rfl dX12_woman_50 ?_
          refine ev_aload_n dX12_woman_53 rfl ?_
          refine ev_getI fr_X12_161 shR_0 rfl dX12_woman_54 ?_
          refine ev_iload_n dX12_woman_57 rfl ?_
          obtain ⟨hi7, h⟩ := chk_t h
          refine ev_iast shR_4 hi7 dX12_woman_58 ?_
          refine ev_aload_n dX12_woman_59 rfl ?_
          refine ev_getR fr_X12_22 shR_0 rfl dX12_woman_60 ?_
          refine ev_aload_n dX12_woman_63 rfl ?_
          refine ev_getI fr_X12_161 shR_0 rfl dX12_woman_64 ?_
          refine ev_iload_n dX12_woman_67 rfl ?_
          obtain ⟨hi9, h⟩ := chk_t h
          refine ev_iast shR_5 hi9 dX12_woman_68 ?_
          refine ev_aload_n dX12_woman_69 rfl ?_
          refine ev_getR fr_X12_25 shR_0 rfl dX12_woman_70 ?_
          refine ev_aload_n dX12_woman_73 rfl ?_
          refine ev_getI fr_X12_161 shR_0 rfl dX12_woman_74 ?_
          refine ev_iload_n dX12_woman_77 rfl ?_
          obtain ⟨hi11, h⟩ := chk_t h
          refine ev_iast shR_6 hi11 dX12_woman_78 ?_
          refine ev_aload_n dX12_woman_79 rfl ?_
          refine ev_getR fr_X12_7 shR_0 rfl dX12_woman_80 ?_
          refine ev_iconst (v := (5 : Int32)) dX12_woman_83 (by decide) ?_
          refine ev_aload_n dX12_woman_84 rfl ?_
          refine ev_getI fr_X12_161 shR_0 rfl dX12_woman_85 ?_
          refine ev_iadd dX12_woman_88 ?_
          refine ev_iconst (v := (0 : Int32)) dX12_woman_89 (by decide) ?_
          obtain ⟨hi13, h⟩ := chk_t h
          refine ev_iast shR_1 hi13 dX12_woman_90 ?_
          refine ev_aload_n dX12_woman_91 rfl ?_
          refine ev_getR fr_X12_7 shR_0 rfl dX12_woman_92 ?_
          refine ev_iconst (v := (4 : Int32)) dX12_woman_95 (by decide) ?_
          refine ev_aload_n dX12_woman_96 rfl ?_
          refine ev_getR fr_X12_7 shR_0 rfl dX12_woman_97 ?_
          refine ev_iconst (v := (4 : Int32)) dX12_woman_100 (by decide) ?_
          refine ev_ialdL (j := 4) shR_1 (by decide) (vpl _ _ (by decide)) dX12_woman_101 ?_
          refine ev_iconst (v := (1 : Int32)) dX12_woman_102 (by decide) ?_
          refine ev_aload_n dX12_woman_103 rfl ?_
          refine ev_getI fr_X12_161 shR_0 rfl dX12_woman_104 ?_
          refine ev_ishl dX12_woman_107 ?_
          refine ev_iconst (v := (-1 : Int32)) dX12_woman_108 (by decide) ?_
          refine ev_ixor dX12_woman_109 ?_
          refine ev_iand dX12_woman_110 ?_
          refine ev_iastL (j := 4) shR_1 (by decide) (vpl _ _ (by decide)) dX12_woman_111 ?_
          refine ev_aload_n dX12_woman_112 rfl ?_
          refine ev_aload_n dX12_woman_113 rfl ?_
          refine ev_getI fr_X12_161 shR_0 rfl dX12_woman_114 ?_
          refine ev_iconst (v := (1 : Int32)) dX12_woman_117 (by decide) ?_
          refine ev_iadd dX12_woman_118 ?_
          refine ev_putI fr_X12_161 shR_0 rfl rfl rfl dX12_woman_119 ?_
          refine ev_aload_n dX12_woman_122 rfl ?_
          refine ev_iconst (v := (0 : Int32)) dX12_woman_123 (by decide) ?_
          refine ev_putI fr_X12_152 shR_0 rfl rfl rfl dX12_woman_124 ?_
          refine ev_aload_n dX12_woman_127 rfl ?_
          refine ev_getI fr_X12_161 shR_0 rfl dX12_woman_128 ?_
          refine ev_iconst (v := (1 : Int32)) dX12_woman_131 (by decide) ?_
          refine ev_isub dX12_woman_132 ?_
          exact ev_iret rfl rfl (by decide) (by decide) dX12_woman_133 (eqP_E h)
        · replace h := ite_t hc5 h
          refine ev_iconst (v := (-1 : Int32)) dX12_woman_47 (by decide) ?_
          exact ev_iret rfl rfl (by decide) (by decide) dX12_woman_48 (eqP_E h)
def f_X12_groom (G : Nat) (p1 p2 : Int32) (μ : Mem) : Option (Int32 × Mem) :=
  (let m1 := wr μ 0 0 (0 : Int32)
  (if (f_X12_isIn p1 (0 : Int32) (9 : Int32)) = (0 : Int32) then
  some ((-1 : Int32), m1)
  else
  (if (f_X12_isWoman m1 p2) = (0 : Int32) then
  some ((-1 : Int32), m1)
  else
  (if (m1 0 7) = (8 : Int32) then
  some ((-1 : Int32), m1)
  else
  chk (m1 0 7) 8 (let m5 := wr m1 7 (ix (m1 0 7)) p1
  chk (m5 0 7) 8 (let m7 := wr m5 8 (ix (m5 0 7)) p2
  chk ((17 : Int32) + (m7 0 7)) 49 (let m9 := wr m7 1 (ix ((17 : Int32) + (m7 0 7))) (0 : Int32)
  chk ((25 : Int32) + (m9 0 7)) 49 (let m11 := wr m9 1 (ix ((25 : Int32) + (m9 0 7))) (0 : Int32)
  chk ((33 : Int32) + (m11 0 7)) 49 (let m13 := wr m11 1 (ix ((33 : Int32) + (m11 0 7))) (0 : Int32)
  chk ((41 : Int32) + (m13 0 7)) 49 (let m15 := wr m13 1 (ix ((41 : Int32) + (m13 0 7))) (0 : Int32)
  (let m17 := wr m15 0 7 ((m15 0 7) + (1 : Int32))
  (let m18 := wr m17 0 3 (0 : Int32)
  some (((m18 0 7) - (1 : Int32)), m18)))))))))))))
set_option maxHeartbeats 4000000 in
set_option maxRecDepth 100000 in
theorem c_X12_groom  {G : Nat} {μ : Mem} {p1 p2 : Int32} {r : Int32} {μr : Mem}  (h : f_X12_groom G p1 p2 μ = some (r, μr)) : Cn yX12_groom cX12_groom 3 (some .int) 2 0 0 [.ref 0, .int p1, .int p2] shR μ (eqP (some r) shR μr) := by
  refine cn_of (own := RX12) (ini := false) (loc := [some (.ref 0), some (.int p1), some (.int p2)]) rfl (by decide) (fun q => by cases q) (Nat.le_of_ble_eq_true rfl) (by rfl) rfl ?_
  unfold f_X12_groom at h
  refine ev_aload_n dX12_groom_0 rfl ?_
  refine ev_iconst (v := (0 : Int32)) dX12_groom_1 (by decide) ?_
  refine ev_putI fr_X12_149 shR_0 rfl rfl rfl dX12_groom_2 ?_
  refine ev_aload_n dX12_groom_5 rfl ?_
  refine ev_iload_n dX12_groom_6 rfl ?_
  refine ev_iconst (v := (0 : Int32)) dX12_groom_7 (by decide) ?_
  refine ev_bipush (v := (9 : Int32)) dX12_groom_8 (by decide) ?_
  refine ev_cVi mv_X12_167 dX12_groom_10 c_X12_isIn rfl shR_0 rfl rfl (Nat.le_of_ble_eq_true rfl) (by rfl) (Nat.le_of_ble_eq_true rfl) (Nat.le_of_ble_eq_true rfl) (Nat.le_of_ble_eq_true rfl) ?_
  refine ev_if_eq (tgt := 33) dX12_groom_13 (by decide) (fun hc2 => ?_) (fun hc2 => ?_)
  · replace h := ite_t hc2 h
    refine ev_iconst (v := (-1 : Int32)) dX12_groom_33 (by decide) ?_
    exact ev_iret rfl rfl (by decide) (by decide) dX12_groom_34 (eqP_E h)
  · replace h := ite_f hc2 h
    refine ev_aload_n dX12_groom_16 rfl ?_
    refine ev_iload_n dX12_groom_17 rfl ?_
    refine ev_cVi mv_X12_171 dX12_groom_18 c_X12_isWoman rfl shR_0 rfl rfl (Nat.le_of_ble_eq_true rfl) (by rfl) (Nat.le_of_ble_eq_true rfl) (Nat.le_of_ble_eq_true rfl) (Nat.le_of_ble_eq_true rfl) ?_
    refine ev_if_eq (tgt := 33) dX12_groom_21 (by decide) (fun hc3 => ?_) (fun hc3 => ?_)
    · replace h := ite_t hc3 h
      refine ev_iconst (v := (-1 : Int32)) dX12_groom_33 (by decide) ?_
      exact ev_iret rfl rfl (by decide) (by decide) dX12_groom_34 (eqP_E h)
    · replace h := ite_f hc3 h
      refine ev_aload_n dX12_groom_24 rfl ?_
      refine ev_getI fr_X12_164 shR_0 rfl dX12_groom_25 ?_
      refine ev_bipush (v := (8 : Int32)) dX12_groom_28 (by decide) ?_
      refine ev_icmp_ne (tgt := 35) dX12_groom_30 (by decide) (fun hc4 => ?_) (fun hc4 => ?_)
      · replace h := ite_f hc4 h
        refine ev_aload_n dX12_groom_35 rfl ?_
        refine ev_getR fr_X12_28 shR_0 rfl dX12_groom_36 ?_
        refine ev_aload_n dX12_groom_39 rfl ?_
        refine ev_getI fr_X12_164 shR_0 rfl dX12_groom_40 ?_
        refine ev_iload_n dX12_groom_43 rfl ?_
        obtain ⟨hi6, h⟩ := chk_t h
        refine ev_iast shR_7 hi6 dX12_groom_44 ?_
        refine ev_aload_n dX12_groom_45 rfl ?_
        refine ev_getR fr_X12_31 shR_0 rfl dX12_groom_46 ?_
        refine ev_aload_n dX12_groom_49 rfl ?_
        refine ev_getI fr_X12_164 shR_0 rfl dX12_groom_50 ?_
        refine ev_iload_n dX12_groom_53 rfl ?_
        obtain ⟨hi8, h⟩ := chk_t h
        refine ev_iast shR_8 hi8 dX12_groom_54 ?_
        refine ev_aload_n dX12_groom_55 rfl ?_
        refine ev_getR fr_X12_7 shR_0 rfl dX12_groom_56 ?_
        refine ev_bipush (v := (17 : Int32)) dX12_groom_59 (by decide) ?_
        refine ev_aload_n dX12_groom_61 rfl ?_
        refine ev_getI fr_X12_164 shR_0 rfl dX12_groom_62 ?_
        refine ev_iadd dX12_groom_65 ?_
        refine ev_iconst (v := (0 : Int32)) dX12_groom_66 (by decide) ?_
        obtain ⟨hi10, h⟩ := chk_t h
        refine ev_iast shR_1 hi10 dX12_groom_67 ?_
        refine ev_aload_n dX12_groom_68 rfl ?_
        refine ev_getR fr_X12_7 shR_0 rfl dX12_groom_69 ?_
        refine ev_bipush (v := (25 : Int32)) dX12_groom_72 (by decide) ?_
        refine ev_aload_n dX12_groom_74 rfl ?_
        refine ev_getI fr_X12_164 shR_0 rfl dX12_groom_75 ?_
        refine ev_iadd dX12_groom_78 ?_
        refine ev_iconst (v := (0 : Int32)) dX12_groom_79 (by decide) ?_
        obtain ⟨hi12, h⟩ := chk_t h
        refine ev_iast shR_1 hi12 dX12_groom_80 ?_
        refine ev_aload_n dX12_groom_81 rfl ?_
        refine ev_getR fr_X12_7 shR_0 rfl dX12_groom_82 ?_
        refine ev_bipush (v := (33 : Int32)) dX12_groom_85 (by decide) ?_
        refine ev_aload_n dX12_groom_87 rfl ?_
        refine ev_getI fr_X12_164 shR_0 rfl dX12_groom_88 ?_
        refine ev_iadd dX12_groom_91 ?_
        refine ev_iconst (v := (0 : Int32)) dX12_groom_92 (by decide) ?_
        obtain ⟨hi14, h⟩ := chk_t h
        refine ev_iast shR_1 hi14 dX12_groom_93 ?_
        refine ev_aload_n dX12_groom_94 rfl ?_
        refine ev_getR fr_X12_7 shR_0 rfl dX12_groom_95 ?_
        refine ev_bipush (v := (41 : Int32)) dX12_groom_98 (by decide) ?_
        refine ev_aload_n dX12_groom_100 rfl ?_
        refine ev_getI fr_X12_164 shR_0 rfl dX12_groom_101 ?_
        refine ev_iadd dX12_groom_104 ?_
        refine ev_iconst (v := (0 : Int32)) dX12_groom_105 (by decide) ?_
        obtain ⟨hi16, h⟩ := chk_t h
        refine ev_iast shR_1 hi16 dX12_groom_106 ?_
        refine ev_aload_n dX12_groom_107 rfl ?_
        refine ev_aload_n dX12_groom_108 rfl ?_
        refine ev_getI fr_X12_164 shR_0 rfl dX12_groom_109 ?_
        refine ev_iconst (v := (1 : Int32)) dX12_groom_112 (by decide) ?_
        refine ev_iadd dX12_groom_113 ?_
        refine ev_putI fr_X12_164 shR_0 rfl rfl rfl dX12_groom_114 ?_
        refine ev_aload_n dX12_groom_117 rfl ?_
        refine ev_iconst (v := (0 : Int32)) dX12_groom_118 (by decide) ?_
        refine ev_putI fr_X12_152 shR_0 rfl rfl rfl dX12_groom_119 ?_
        refine ev_aload_n dX12_groom_122 rfl ?_
        refine ev_getI fr_X12_164 shR_0 rfl dX12_groom_123 ?_
        refine ev_iconst (v := (1 : Int32)) dX12_groom_126 (by decide) ?_
        refine ev_isub dX12_groom_127 ?_
        exact ev_iret rfl rfl (by decide) (by decide) dX12_groom_128 (eqP_E h)
      · replace h := ite_t hc4 h
        refine ev_iconst (v := (-1 : Int32)) dX12_groom_33 (by decide) ?_
        exact ev_iret rfl rfl (by decide) (by decide) dX12_groom_34 (eqP_E h)
def f_X12_canSet_j74 (μ : Mem)  (v1 v3 : Int32) : Int32 :=
  (if v1 = (5 : Int32) then
  (if (f_X12_isIn v3 (-99 : Int32) (99 : Int32)) = (0 : Int32) then
  (0 : Int32)
  else
  (1 : Int32))
  else
  (0 : Int32))
set_option maxHeartbeats 4000000 in
set_option maxRecDepth 100000 in
theorem f_X12_canSet_j74_ok  {μ : Mem} {r : Int32}    {v1 v3 : Int32}  (h : f_X12_canSet_j74 μ v1 v3 = r) : Ev RX12 cX12_canSet 4 (some .boolean) false 2 0 0 (eqP (some r) shR μ) 74 [some (.ref 0), some (.int v1), none, some (.int v3)] [] shR μ 0 0 := by
  unfold f_X12_canSet_j74 at h
  refine ev_iload_n dX12_canSet_74 rfl ?_
  refine ev_iconst (v := (5 : Int32)) dX12_canSet_75 (by decide) ?_
  refine ev_icmp_ne (tgt := 95) dX12_canSet_76 (by decide) (fun hc5 => ?_) (fun hc5 => ?_)
  · replace h := ite_f hc5 h
    refine ev_iconst (v := (0 : Int32)) dX12_canSet_95 (by decide) ?_
    exact ev_iret rfl rfl (by decide) (by decide) dX12_canSet_96 (eqP_P h)
  · replace h := ite_t hc5 h
    refine ev_aload_n dX12_canSet_79 rfl ?_
    refine ev_iload_n dX12_canSet_80 rfl ?_
    refine ev_bipush (v := (-99 : Int32)) dX12_canSet_81 (by decide) ?_
    refine ev_bipush (v := (99 : Int32)) dX12_canSet_83 (by decide) ?_
    refine ev_cVi mv_X12_167 dX12_canSet_85 c_X12_isIn rfl shR_0 rfl rfl (Nat.le_of_ble_eq_true rfl) (by rfl) (Nat.le_of_ble_eq_true rfl) (Nat.le_of_ble_eq_true rfl) (Nat.le_of_ble_eq_true rfl) ?_
    refine ev_if_eq (tgt := 95) dX12_canSet_88 (by decide) (fun hc6 => ?_) (fun hc6 => ?_)
    · replace h := ite_t hc6 h
      refine ev_iconst (v := (0 : Int32)) dX12_canSet_95 (by decide) ?_
      exact ev_iret rfl rfl (by decide) (by decide) dX12_canSet_96 (eqP_P h)
    · replace h := ite_f hc6 h
      refine ev_iconst (v := (1 : Int32)) dX12_canSet_91 (by decide) ?_
      refine ev_goto (tgt := 96) dX12_canSet_92 (by decide) ?_
      exact ev_iret rfl rfl (by decide) (by decide) dX12_canSet_96 (eqP_P h)
def f_X12_canSet_j61 (μ : Mem)  (v1 v3 : Int32) : Int32 :=
  (if v1 = (4 : Int32) then
  (if (f_X12_isWoman μ v3) = (0 : Int32) then
  f_X12_canSet_j74 μ v1 v3
  else
  (1 : Int32))
  else
  f_X12_canSet_j74 μ v1 v3)
set_option maxHeartbeats 4000000 in
set_option maxRecDepth 100000 in
theorem f_X12_canSet_j61_ok  {μ : Mem} {r : Int32}    {v1 v3 : Int32}  (h : f_X12_canSet_j61 μ v1 v3 = r) : Ev RX12 cX12_canSet 4 (some .boolean) false 2 0 0 (eqP (some r) shR μ) 61 [some (.ref 0), some (.int v1), none, some (.int v3)] [] shR μ 0 0 := by
  unfold f_X12_canSet_j61 at h
  refine ev_iload_n dX12_canSet_61 rfl ?_
  refine ev_iconst (v := (4 : Int32)) dX12_canSet_62 (by decide) ?_
  refine ev_icmp_ne (tgt := 74) dX12_canSet_63 (by decide) (fun hc4 => ?_) (fun hc4 => ?_)
  · replace h := ite_f hc4 h
    exact ev_lt (f_X12_canSet_j74_ok h) ⟨rfl, ⟨rfl, ⟨rfl, trivial⟩⟩⟩
  · replace h := ite_t hc4 h
    refine ev_aload_n dX12_canSet_66 rfl ?_
    refine ev_iload_n dX12_canSet_67 rfl ?_
    refine ev_cVi mv_X12_171 dX12_canSet_68 c_X12_isWoman rfl shR_0 rfl rfl (Nat.le_of_ble_eq_true rfl) (by rfl) (Nat.le_of_ble_eq_true rfl) (Nat.le_of_ble_eq_true rfl) (Nat.le_of_ble_eq_true rfl) ?_
    refine ev_if_ne (tgt := 91) dX12_canSet_71 (by decide) (fun hc7 => ?_) (fun hc7 => ?_)
    · replace h := ite_f hc7 h
      refine ev_iconst (v := (1 : Int32)) dX12_canSet_91 (by decide) ?_
      refine ev_goto (tgt := 96) dX12_canSet_92 (by decide) ?_
      exact ev_iret rfl rfl (by decide) (by decide) dX12_canSet_96 (eqP_P h)
    · replace h := ite_t hc7 h
      exact ev_lt (f_X12_canSet_j74_ok h) ⟨rfl, ⟨rfl, ⟨rfl, trivial⟩⟩⟩
def f_X12_canSet (μ : Mem) (p1 p2 p3 : Int32) : Int32 :=
  (if (f_X12_isIn p1 (0 : Int32) (2 : Int32)) = (0 : Int32) then
  (if (f_X12_isGroom μ p2) = (0 : Int32) then
  (0 : Int32)
  else
  (if p1 = (3 : Int32) then
  (if (f_X12_isIn p3 (0 : Int32) (9 : Int32)) = (0 : Int32) then
  f_X12_canSet_j61 μ p1 p3
  else
  (1 : Int32))
  else
  f_X12_canSet_j61 μ p1 p3))
  else
  (if (f_X12_isWoman μ p2) = (0 : Int32) then
  (0 : Int32)
  else
  (if (f_X12_isIn p3 (0 : Int32) (9 : Int32)) = (0 : Int32) then
  (0 : Int32)
  else
  (1 : Int32))))
set_option maxHeartbeats 4000000 in
set_option maxRecDepth 100000 in
theorem c_X12_canSet  {μ : Mem}  {p1 p2 p3 : Int32}  : Cn yX12_canSet cX12_canSet 4 (some .boolean) 2 0 0 [.ref 0, .int p1, .int p2, .int p3] shR μ (eqP (some (f_X12_canSet μ p1 p2 p3)) shR μ) := by
  obtain ⟨r, h⟩ : ∃ r, f_X12_canSet μ p1 p2 p3 = r := ⟨_, rfl⟩
  rw [h]
  refine cn_of (own := RX12) (ini := false) (loc := [some (.ref 0), some (.int p1), some (.int p2), some (.int p3)]) rfl (by decide) (fun q => by cases q) (Nat.le_of_ble_eq_true rfl) (by rfl) rfl ?_
  unfold f_X12_canSet at h
  refine ev_aload_n dX12_canSet_0 rfl ?_
  refine ev_iload_n dX12_canSet_1 rfl ?_
  refine ev_iconst (v := (0 : Int32)) dX12_canSet_2 (by decide) ?_
  refine ev_iconst (v := (2 : Int32)) dX12_canSet_3 (by decide) ?_
  refine ev_cVi mv_X12_167 dX12_canSet_4 c_X12_isIn rfl shR_0 rfl rfl (Nat.le_of_ble_eq_true rfl) (by rfl) (Nat.le_of_ble_eq_true rfl) (Nat.le_of_ble_eq_true rfl) (Nat.le_of_ble_eq_true rfl) ?_
  refine ev_if_eq (tgt := 35) dX12_canSet_7 (by decide) (fun hc1 => ?_) (fun hc1 => ?_)
  · replace h := ite_t hc1 h
    refine ev_aload_n dX12_canSet_35 rfl ?_
    refine ev_iload_n dX12_canSet_36 rfl ?_
    refine ev_cVi mv_X12_175 dX12_canSet_37 c_X12_isGroom rfl shR_0 rfl rfl (Nat.le_of_ble_eq_true rfl) (by rfl) (Nat.le_of_ble_eq_true rfl) (Nat.le_of_ble_eq_true rfl) (Nat.le_of_ble_eq_true rfl) ?_
    refine ev_if_ne (tgt := 45) dX12_canSet_40 (by decide) (fun hc2 => ?_) (fun hc2 => ?_)
    · replace h := ite_f hc2 h
      refine ev_iload_n dX12_canSet_45 rfl ?_
      refine ev_iconst (v := (3 : Int32)) dX12_canSet_46 (by decide) ?_
      refine ev_icmp_ne (tgt := 61) dX12_canSet_47 (by decide) (fun hc3 => ?_) (fun hc3 => ?_)
      · replace h := ite_f hc3 h
        exact ev_lt (f_X12_canSet_j61_ok h) ⟨rfl, ⟨rfl, ⟨rfl, trivial⟩⟩⟩
      · replace h := ite_t hc3 h
        refine ev_aload_n dX12_canSet_50 rfl ?_
        refine ev_iload_n dX12_canSet_51 rfl ?_
        refine ev_iconst (v := (0 : Int32)) dX12_canSet_52 (by decide) ?_
        refine ev_bipush (v := (9 : Int32)) dX12_canSet_53 (by decide) ?_
        refine ev_cVi mv_X12_167 dX12_canSet_55 c_X12_isIn rfl shR_0 rfl rfl (Nat.le_of_ble_eq_true rfl) (by rfl) (Nat.le_of_ble_eq_true rfl) (Nat.le_of_ble_eq_true rfl) (Nat.le_of_ble_eq_true rfl) ?_
        refine ev_if_ne (tgt := 91) dX12_canSet_58 (by decide) (fun hc8 => ?_) (fun hc8 => ?_)
        · replace h := ite_f hc8 h
          refine ev_iconst (v := (1 : Int32)) dX12_canSet_91 (by decide) ?_
          refine ev_goto (tgt := 96) dX12_canSet_92 (by decide) ?_
          exact ev_iret rfl rfl (by decide) (by decide) dX12_canSet_96 (eqP_P h)
        · replace h := ite_t hc8 h
          exact ev_lt (f_X12_canSet_j61_ok h) ⟨rfl, ⟨rfl, ⟨rfl, trivial⟩⟩⟩
    · replace h := ite_t hc2 h
      refine ev_iconst (v := (0 : Int32)) dX12_canSet_43 (by decide) ?_
      exact ev_iret rfl rfl (by decide) (by decide) dX12_canSet_44 (eqP_P h)
  · replace h := ite_f hc1 h
    refine ev_aload_n dX12_canSet_10 rfl ?_
    refine ev_iload_n dX12_canSet_11 rfl ?_
    refine ev_cVi mv_X12_171 dX12_canSet_12 c_X12_isWoman rfl shR_0 rfl rfl (Nat.le_of_ble_eq_true rfl) (by rfl) (Nat.le_of_ble_eq_true rfl) (Nat.le_of_ble_eq_true rfl) (Nat.le_of_ble_eq_true rfl) ?_
    refine ev_if_eq (tgt := 33) dX12_canSet_15 (by decide) (fun hc9 => ?_) (fun hc9 => ?_)
    · replace h := ite_t hc9 h
      refine ev_iconst (v := (0 : Int32)) dX12_canSet_33 (by decide) ?_
      exact ev_iret rfl rfl (by decide) (by decide) dX12_canSet_34 (eqP_P h)
    · replace h := ite_f hc9 h
      refine ev_aload_n dX12_canSet_18 rfl ?_
      refine ev_iload_n dX12_canSet_19 rfl ?_
      refine ev_iconst (v := (0 : Int32)) dX12_canSet_20 (by decide) ?_
      refine ev_bipush (v := (9 : Int32)) dX12_canSet_21 (by decide) ?_
      refine ev_cVi mv_X12_167 dX12_canSet_23 c_X12_isIn rfl shR_0 rfl rfl (Nat.le_of_ble_eq_true rfl) (by rfl) (Nat.le_of_ble_eq_true rfl) (Nat.le_of_ble_eq_true rfl) (Nat.le_of_ble_eq_true rfl) ?_
      refine ev_if_eq (tgt := 33) dX12_canSet_26 (by decide) (fun hc10 => ?_) (fun hc10 => ?_)
      · replace h := ite_t hc10 h
        refine ev_iconst (v := (0 : Int32)) dX12_canSet_33 (by decide) ?_
        exact ev_iret rfl rfl (by decide) (by decide) dX12_canSet_34 (eqP_P h)
      · replace h := ite_f hc10 h
        refine ev_iconst (v := (1 : Int32)) dX12_canSet_29 (by decide) ?_
        refine ev_goto (tgt := 34) dX12_canSet_30 (by decide) ?_
        exact ev_iret rfl rfl (by decide) (by decide) dX12_canSet_34 (eqP_P h)
def f_X12_set_j76 (G : Nat)  (v1 v2 v3 : Int32) (μ : Mem) : Option (Int32 × Mem) :=
  (if v1 = (5 : Int32) then
  chk ((25 : Int32) + v2) 49 (let m10 := wr μ 1 (ix ((25 : Int32) + v2)) v3
  (let m12 := wr m10 0 3 (0 : Int32)
  some ((1 : Int32), m12)))
  else
  (let m9 := wr μ 0 3 (0 : Int32)
  some ((1 : Int32), m9)))
set_option maxHeartbeats 4000000 in
set_option maxRecDepth 100000 in
theorem f_X12_set_j76_ok  {G : Nat} {r : Int32} {μr : Mem}    {v1 v2 v3 : Int32} {μ : Mem} (h : f_X12_set_j76 G v1 v2 v3 μ = some (r, μr)) : Ev RX12 cX12_set 4 (some .boolean) false 3 0 0 (eqP (some r) shR μr) 76 [some (.ref 0), some (.int v1), some (.int v2), some (.int v3)] [] shR μ 0 0 := by
  unfold f_X12_set_j76 at h
  refine ev_iload_n dX12_set_76 rfl ?_
  refine ev_iconst (v := (5 : Int32)) dX12_set_77 (by decide) ?_
  refine ev_icmp_ne (tgt := 91) dX12_set_78 (by decide) (fun hc8 => ?_) (fun hc8 => ?_)
  · replace h := ite_f hc8 h
    refine ev_aload_n dX12_set_91 rfl ?_
    refine ev_iconst (v := (0 : Int32)) dX12_set_92 (by decide) ?_
    refine ev_putI fr_X12_152 shR_0 rfl rfl rfl dX12_set_93 ?_
    refine ev_iconst (v := (1 : Int32)) dX12_set_96 (by decide) ?_
    exact ev_iret rfl rfl (by decide) (by decide) dX12_set_97 (eqP_E h)
  · replace h := ite_t hc8 h
    refine ev_aload_n dX12_set_81 rfl ?_
    refine ev_getR fr_X12_7 shR_0 rfl dX12_set_82 ?_
    refine ev_bipush (v := (25 : Int32)) dX12_set_85 (by decide) ?_
    refine ev_iload_n dX12_set_87 rfl ?_
    refine ev_iadd dX12_set_88 ?_
    refine ev_iload_n dX12_set_89 rfl ?_
    obtain ⟨hi11, h⟩ := chk_t h
    refine ev_iast shR_1 hi11 dX12_set_90 ?_
    refine ev_aload_n dX12_set_91 rfl ?_
    refine ev_iconst (v := (0 : Int32)) dX12_set_92 (by decide) ?_
    refine ev_putI fr_X12_152 shR_0 rfl rfl rfl dX12_set_93 ?_
    refine ev_iconst (v := (1 : Int32)) dX12_set_96 (by decide) ?_
    exact ev_iret rfl rfl (by decide) (by decide) dX12_set_97 (eqP_E h)
def f_X12_set_j64 (G : Nat)  (v1 v2 v3 : Int32) (μ : Mem) : Option (Int32 × Mem) :=
  (if v1 = (4 : Int32) then
  chk v2 8 (let m13 := wr μ 8 (ix v2) v3
  f_X12_set_j76 G v1 v2 v3 m13)
  else
  f_X12_set_j76 G v1 v2 v3 μ)
set_option maxHeartbeats 4000000 in
set_option maxRecDepth 100000 in
theorem f_X12_set_j64_ok  {G : Nat} {r : Int32} {μr : Mem}    {v1 v2 v3 : Int32} {μ : Mem} (h : f_X12_set_j64 G v1 v2 v3 μ = some (r, μr)) : Ev RX12 cX12_set 4 (some .boolean) false 3 0 0 (eqP (some r) shR μr) 64 [some (.ref 0), some (.int v1), some (.int v2), some (.int v3)] [] shR μ 0 0 := by
  unfold f_X12_set_j64 at h
  refine ev_iload_n dX12_set_64 rfl ?_
  refine ev_iconst (v := (4 : Int32)) dX12_set_65 (by decide) ?_
  refine ev_icmp_ne (tgt := 76) dX12_set_66 (by decide) (fun hc7 => ?_) (fun hc7 => ?_)
  · replace h := ite_f hc7 h
    exact ev_lt (f_X12_set_j76_ok h) ⟨rfl, ⟨rfl, ⟨rfl, ⟨rfl, trivial⟩⟩⟩⟩
  · replace h := ite_t hc7 h
    refine ev_aload_n dX12_set_69 rfl ?_
    refine ev_getR fr_X12_31 shR_0 rfl dX12_set_70 ?_
    refine ev_iload_n dX12_set_73 rfl ?_
    refine ev_iload_n dX12_set_74 rfl ?_
    obtain ⟨hi14, h⟩ := chk_t h
    refine ev_iast shR_8 hi14 dX12_set_75 ?_
    exact ev_lt (f_X12_set_j76_ok h) ⟨rfl, ⟨rfl, ⟨rfl, ⟨rfl, trivial⟩⟩⟩⟩
def f_X12_set_j52 (G : Nat)  (v1 v2 v3 : Int32) (μ : Mem) : Option (Int32 × Mem) :=
  (if v1 = (3 : Int32) then
  chk v2 8 (let m15 := wr μ 7 (ix v2) v3
  f_X12_set_j64 G v1 v2 v3 m15)
  else
  f_X12_set_j64 G v1 v2 v3 μ)
set_option maxHeartbeats 4000000 in
set_option maxRecDepth 100000 in
theorem f_X12_set_j52_ok  {G : Nat} {r : Int32} {μr : Mem}    {v1 v2 v3 : Int32} {μ : Mem} (h : f_X12_set_j52 G v1 v2 v3 μ = some (r, μr)) : Ev RX12 cX12_set 4 (some .boolean) false 3 0 0 (eqP (some r) shR μr) 52 [some (.ref 0), some (.int v1), some (.int v2), some (.int v3)] [] shR μ 0 0 := by
  unfold f_X12_set_j52 at h
  refine ev_iload_n dX12_set_52 rfl ?_
  refine ev_iconst (v := (3 : Int32)) dX12_set_53 (by decide) ?_
  refine ev_icmp_ne (tgt := 64) dX12_set_54 (by decide) (fun hc6 => ?_) (fun hc6 => ?_)
  · replace h := ite_f hc6 h
    exact ev_lt (f_X12_set_j64_ok h) ⟨rfl, ⟨rfl, ⟨rfl, ⟨rfl, trivial⟩⟩⟩⟩
  · replace h := ite_t hc6 h
    refine ev_aload_n dX12_set_57 rfl ?_
    refine ev_getR fr_X12_28 shR_0 rfl dX12_set_58 ?_
    refine ev_iload_n dX12_set_61 rfl ?_
    refine ev_iload_n dX12_set_62 rfl ?_
    obtain ⟨hi16, h⟩ := chk_t h
    refine ev_iast shR_7 hi16 dX12_set_63 ?_
    exact ev_lt (f_X12_set_j64_ok h) ⟨rfl, ⟨rfl, ⟨rfl, ⟨rfl, trivial⟩⟩⟩⟩
def f_X12_set_j40 (G : Nat)  (v1 v2 v3 : Int32) (μ : Mem) : Option (Int32 × Mem) :=
  (if v1 = (2 : Int32) then
  chk v2 12 (let m17 := wr μ 6 (ix v2) v3
  f_X12_set_j52 G v1 v2 v3 m17)
  else
  f_X12_set_j52 G v1 v2 v3 μ)
set_option maxHeartbeats 4000000 in
set_option maxRecDepth 100000 in
theorem f_X12_set_j40_ok  {G : Nat} {r : Int32} {μr : Mem}    {v1 v2 v3 : Int32} {μ : Mem} (h : f_X12_set_j40 G v1 v2 v3 μ = some (r, μr)) : Ev RX12 cX12_set 4 (some .boolean) false 3 0 0 (eqP (some r) shR μr) 40 [some (.ref 0), some (.int v1), some (.int v2), some (.int v3)] [] shR μ 0 0 := by
  unfold f_X12_set_j40 at h
  refine ev_iload_n dX12_set_40 rfl ?_
  refine ev_iconst (v := (2 : Int32)) dX12_set_41 (by decide) ?_
  refine ev_icmp_ne (tgt := 52) dX12_set_42 (by decide) (fun hc5 => ?_) (fun hc5 => ?_)
  · replace h := ite_f hc5 h
    exact ev_lt (f_X12_set_j52_ok h) ⟨rfl, ⟨rfl, ⟨rfl, ⟨rfl, trivial⟩⟩⟩⟩
  · replace h := ite_t hc5 h
    refine ev_aload_n dX12_set_45 rfl ?_
    refine ev_getR fr_X12_25 shR_0 rfl dX12_set_46 ?_
    refine ev_iload_n dX12_set_49 rfl ?_
    refine ev_iload_n dX12_set_50 rfl ?_
    obtain ⟨hi18, h⟩ := chk_t h
    refine ev_iast shR_6 hi18 dX12_set_51 ?_
    exact ev_lt (f_X12_set_j52_ok h) ⟨rfl, ⟨rfl, ⟨rfl, ⟨rfl, trivial⟩⟩⟩⟩
def f_X12_set_j28 (G : Nat)  (v1 v2 v3 : Int32) (μ : Mem) : Option (Int32 × Mem) :=
  (if v1 = (1 : Int32) then
  chk v2 12 (let m19 := wr μ 5 (ix v2) v3
  f_X12_set_j40 G v1 v2 v3 m19)
  else
  f_X12_set_j40 G v1 v2 v3 μ)
set_option maxHeartbeats 4000000 in
set_option maxRecDepth 100000 in
theorem f_X12_set_j28_ok  {G : Nat} {r : Int32} {μr : Mem}    {v1 v2 v3 : Int32} {μ : Mem} (h : f_X12_set_j28 G v1 v2 v3 μ = some (r, μr)) : Ev RX12 cX12_set 4 (some .boolean) false 3 0 0 (eqP (some r) shR μr) 28 [some (.ref 0), some (.int v1), some (.int v2), some (.int v3)] [] shR μ 0 0 := by
  unfold f_X12_set_j28 at h
  refine ev_iload_n dX12_set_28 rfl ?_
  refine ev_iconst (v := (1 : Int32)) dX12_set_29 (by decide) ?_
  refine ev_icmp_ne (tgt := 40) dX12_set_30 (by decide) (fun hc4 => ?_) (fun hc4 => ?_)
  · replace h := ite_f hc4 h
    exact ev_lt (f_X12_set_j40_ok h) ⟨rfl, ⟨rfl, ⟨rfl, ⟨rfl, trivial⟩⟩⟩⟩
  · replace h := ite_t hc4 h
    refine ev_aload_n dX12_set_33 rfl ?_
    refine ev_getR fr_X12_22 shR_0 rfl dX12_set_34 ?_
    refine ev_iload_n dX12_set_37 rfl ?_
    refine ev_iload_n dX12_set_38 rfl ?_
    obtain ⟨hi20, h⟩ := chk_t h
    refine ev_iast shR_5 hi20 dX12_set_39 ?_
    exact ev_lt (f_X12_set_j40_ok h) ⟨rfl, ⟨rfl, ⟨rfl, ⟨rfl, trivial⟩⟩⟩⟩
def f_X12_set (G : Nat) (p1 p2 p3 : Int32) (μ : Mem) : Option (Int32 × Mem) :=
  (let m1 := wr μ 0 0 (0 : Int32)
  (if (f_X12_canSet m1 p1 p2 p3) = (0 : Int32) then
  some ((0 : Int32), m1)
  else
  (if p1 = (0 : Int32) then
  chk p2 12 (let m21 := wr m1 4 (ix p2) p3
  f_X12_set_j28 G p1 p2 p3 m21)
  else
  f_X12_set_j28 G p1 p2 p3 m1)))
set_option maxHeartbeats 4000000 in
set_option maxRecDepth 100000 in
theorem c_X12_set  {G : Nat} {μ : Mem} {p1 p2 p3 : Int32} {r : Int32} {μr : Mem}  (h : f_X12_set G p1 p2 p3 μ = some (r, μr)) : Cn yX12_set cX12_set 4 (some .boolean) 3 0 0 [.ref 0, .int p1, .int p2, .int p3] shR μ (eqP (some r) shR μr) := by
  refine cn_of (own := RX12) (ini := false) (loc := [some (.ref 0), some (.int p1), some (.int p2), some (.int p3)]) rfl (by decide) (fun q => by cases q) (Nat.le_of_ble_eq_true rfl) (by rfl) rfl ?_
  unfold f_X12_set at h
  refine ev_aload_n dX12_set_0 rfl ?_
  refine ev_iconst (v := (0 : Int32)) dX12_set_1 (by decide) ?_
  refine ev_putI fr_X12_149 shR_0 rfl rfl rfl dX12_set_2 ?_
  refine ev_aload_n dX12_set_5 rfl ?_
  refine ev_iload_n dX12_set_6 rfl ?_
  refine ev_iload_n dX12_set_7 rfl ?_
  refine ev_iload_n dX12_set_8 rfl ?_
  refine ev_cVi mv_X12_178 dX12_set_9 c_X12_canSet rfl shR_0 rfl rfl (Nat.le_of_ble_eq_true rfl) (by rfl) (Nat.le_of_ble_eq_true rfl) (Nat.le_of_ble_eq_true rfl) (Nat.le_of_ble_eq_true rfl) ?_
  refine ev_if_ne (tgt := 17) dX12_set_12 (by decide) (fun hc2 => ?_) (fun hc2 => ?_)
  · replace h := ite_f hc2 h
    refine ev_iload_n dX12_set_17 rfl ?_
    refine ev_if_ne (tgt := 28) dX12_set_18 (by decide) (fun hc3 => ?_) (fun hc3 => ?_)
    · replace h := ite_f hc3 h
      exact ev_lt (f_X12_set_j28_ok h) ⟨rfl, ⟨rfl, ⟨rfl, ⟨rfl, trivial⟩⟩⟩⟩
    · replace h := ite_t hc3 h
      refine ev_aload_n dX12_set_21 rfl ?_
      refine ev_getR fr_X12_19 shR_0 rfl dX12_set_22 ?_
      refine ev_iload_n dX12_set_25 rfl ?_
      refine ev_iload_n dX12_set_26 rfl ?_
      obtain ⟨hi22, h⟩ := chk_t h
      refine ev_iast shR_4 hi22 dX12_set_27 ?_
      exact ev_lt (f_X12_set_j28_ok h) ⟨rfl, ⟨rfl, ⟨rfl, ⟨rfl, trivial⟩⟩⟩⟩
  · replace h := ite_t hc2 h
    refine ev_iconst (v := (0 : Int32)) dX12_set_15 (by decide) ?_
    exact ev_iret rfl rfl (by decide) (by decide) dX12_set_16 (eqP_E h)
def f_X12_types_L3 (G : Nat)  : Nat → Int32 → Int32 → Mem → Option Mem
  | 0, _, _, _ => none
  | g + 1, v1, v2, μ =>
  (if v2 < (0 : Int32) then
  some μ
  else
  chk (μ 0 15) 400 (let m2 := wr μ 10 (ix (μ 0 15)) ((sr v1 v2) &&& (255 : Int32))
  (let m4 := wr m2 0 15 ((m2 0 15) + (1 : Int32))
  (f_X12_types_L3 G g) v1 (v2 + (-8 : Int32)) m4)))
set_option maxHeartbeats 4000000 in
set_option maxRecDepth 100000 in
theorem f_X12_types_L3_ok  {G : Nat} {μr : Mem}    : ∀ (g : Nat) (v1 v2 : Int32) (μ : Mem), f_X12_types_L3 G g v1 v2 μ = some μr → Ev RX12 cX12_types 3 none false 1 0 0 (eqP none shR μr) 3 [some (.ref 0), some (.int v1), some (.int v2)] [] shR μ 0 0 := by
  intro g
  induction g with
  | zero =>
    intro v1 v2 μ h
    cases h
  | succ g ih =>
    intro v1 v2 μ h
    rw [f_X12_types_L3] at h
    refine ev_iload_n dX12_types_3 rfl ?_
    refine ev_if_lt (tgt := 39) dX12_types_4 (by decide) (fun hc1 => ?_) (fun hc1 => ?_)
    · replace h := ite_t hc1 h
      exact ev_vret rfl (by decide) (by decide) dX12_types_39 (eqP_V h)
    · replace h := ite_f hc1 h
      refine ev_aload_n dX12_types_7 rfl ?_
      refine ev_getR fr_X12_37 shR_0 rfl dX12_types_8 ?_
      refine ev_aload_n dX12_types_11 rfl ?_
      refine ev_getI fr_X12_181 shR_0 rfl dX12_types_12 ?_
      refine ev_iload_n dX12_types_15 rfl ?_
      refine ev_iload_n dX12_types_16 rfl ?_
      refine ev_ishr dX12_types_17 ?_
      refine ev_sipush (v := (255 : Int32)) dX12_types_18 (by decide) ?_
      refine ev_iand dX12_types_21 ?_
      obtain ⟨hi3, h⟩ := chk_t h
      refine ev_iast shR_10 hi3 dX12_types_22 ?_
      refine ev_aload_n dX12_types_23 rfl ?_
      refine ev_aload_n dX12_types_24 rfl ?_
      refine ev_getI fr_X12_181 shR_0 rfl dX12_types_25 ?_
      refine ev_iconst (v := (1 : Int32)) dX12_types_28 (by decide) ?_
      refine ev_iadd dX12_types_29 ?_
      refine ev_putI fr_X12_181 shR_0 rfl rfl rfl dX12_types_30 ?_
      refine ev_iinc (cq := (-8 : Int32)) (loc' := [_, _, _]) dX12_types_33 rfl (by decide) rfl (by decide) (by rfl) ?_
      refine ev_goto (tgt := 3) dX12_types_36 (by decide) ?_
      exact ev_lt (ih _ _ _ h) ⟨rfl, ⟨rfl, ⟨rfl, trivial⟩⟩⟩
def f_X12_types (G : Nat) (p1 : Int32) (μ : Mem) : Option Mem :=
  f_X12_types_L3 G G p1 (24 : Int32) μ
set_option maxHeartbeats 4000000 in
set_option maxRecDepth 100000 in
theorem c_X12_types  {G : Nat} {μ : Mem} {p1 : Int32} {μr : Mem}  (h : f_X12_types G p1 μ = some μr) : Cn yX12_types cX12_types 3 none 1 0 0 [.ref 0, .int p1] shR μ (eqP none shR μr) := by
  refine cn_of (own := RX12) (ini := false) (loc := [some (.ref 0), some (.int p1), none]) rfl (by decide) (fun q => by cases q) (Nat.le_of_ble_eq_true rfl) (by rfl) rfl ?_
  unfold f_X12_types at h
  refine ev_bipush (v := (24 : Int32)) dX12_types_0 (by decide) ?_
  refine ev_istore_n (loc' := [_, _, _]) dX12_types_2 rfl (by decide) (by rfl) ?_
  exact ev_lt (f_X12_types_L3_ok _ _ _ _ h) ⟨rfl, ⟨rfl, ⟨rfl, trivial⟩⟩⟩
def f_X12_feed (G : Nat) (p1 p2 p3 p4 p5 : Int32) (μ : Mem) : Option (Int32 × Mem) :=
  (let m1 := wr μ 0 0 (0 : Int32)
  (if (m1 0 15) ≤ (380 : Int32) then
  bndV (f_X12_types G p1 m1) (fun m4 =>
  bndV (f_X12_types G p2 m4) (fun m6 =>
  bndV (f_X12_types G p3 m6) (fun m8 =>
  bndV (f_X12_types G p4 m8) (fun m10 =>
  bndV (f_X12_types G p5 m10) (fun m12 =>
  some ((m12 0 15), m12))))))
  else
  some ((-1 : Int32), m1)))
set_option maxHeartbeats 4000000 in
set_option maxRecDepth 100000 in
theorem c_X12_feed  {G : Nat} {μ : Mem} {p1 p2 p3 p4 p5 : Int32} {r : Int32} {μr : Mem}  (h : f_X12_feed G p1 p2 p3 p4 p5 μ = some (r, μr)) : Cn yX12_feed cX12_feed 6 (some .int) 2 0 0 [.ref 0, .int p1, .int p2, .int p3, .int p4, .int p5] shR μ (eqP (some r) shR μr) := by
  refine cn_of (own := RX12) (ini := false) (loc := [some (.ref 0), some (.int p1), some (.int p2), some (.int p3), some (.int p4), some (.int p5)]) rfl (by decide) (fun q => by cases q) (Nat.le_of_ble_eq_true rfl) (by rfl) rfl ?_
  unfold f_X12_feed at h
  refine ev_aload_n dX12_feed_0 rfl ?_
  refine ev_iconst (v := (0 : Int32)) dX12_feed_1 (by decide) ?_
  refine ev_putI fr_X12_149 shR_0 rfl rfl rfl dX12_feed_2 ?_
  refine ev_aload_n dX12_feed_5 rfl ?_
  refine ev_getI fr_X12_181 shR_0 rfl dX12_feed_6 ?_
  refine ev_sipush (v := (380 : Int32)) dX12_feed_9 (by decide) ?_
  refine ev_icmp_le (tgt := 17) dX12_feed_12 (by decide) (fun hc2 => ?_) (fun hc2 => ?_)
  · replace h := ite_t hc2 h
    refine ev_aload_n dX12_feed_17 rfl ?_
    refine ev_iload_n dX12_feed_18 rfl ?_
    obtain ⟨m4, hq3, h⟩ := bndV_t h
    refine ev_cVv mv_X12_184 dX12_feed_19 (c_X12_types hq3) rfl shR_0 rfl rfl (Nat.le_of_ble_eq_true rfl) (by rfl) (Nat.le_of_ble_eq_true rfl) (Nat.le_of_ble_eq_true rfl) (Nat.le_of_ble_eq_true rfl) ?_
    refine ev_aload_n dX12_feed_22 rfl ?_
    refine ev_iload_n dX12_feed_23 rfl ?_
    obtain ⟨m6, hq5, h⟩ := bndV_t h
    refine ev_cVv mv_X12_184 dX12_feed_24 (c_X12_types hq5) rfl shR_0 rfl rfl (Nat.le_of_ble_eq_true rfl) (by rfl) (Nat.le_of_ble_eq_true rfl) (Nat.le_of_ble_eq_true rfl) (Nat.le_of_ble_eq_true rfl) ?_
    refine ev_aload_n dX12_feed_27 rfl ?_
    refine ev_iload_n dX12_feed_28 rfl ?_
    obtain ⟨m8, hq7, h⟩ := bndV_t h
    refine ev_cVv mv_X12_184 dX12_feed_29 (c_X12_types hq7) rfl shR_0 rfl rfl (Nat.le_of_ble_eq_true rfl) (by rfl) (Nat.le_of_ble_eq_true rfl) (Nat.le_of_ble_eq_true rfl) (Nat.le_of_ble_eq_true rfl) ?_
    refine ev_aload_n dX12_feed_32 rfl ?_
    refine ev_iload dX12_feed_33 rfl ?_
    obtain ⟨m10, hq9, h⟩ := bndV_t h
    refine ev_cVv mv_X12_184 dX12_feed_35 (c_X12_types hq9) rfl shR_0 rfl rfl (Nat.le_of_ble_eq_true rfl) (by rfl) (Nat.le_of_ble_eq_true rfl) (Nat.le_of_ble_eq_true rfl) (Nat.le_of_ble_eq_true rfl) ?_
    refine ev_aload_n dX12_feed_38 rfl ?_
    refine ev_iload dX12_feed_39 rfl ?_
    obtain ⟨m12, hq11, h⟩ := bndV_t h
    refine ev_cVv mv_X12_184 dX12_feed_41 (c_X12_types hq11) rfl shR_0 rfl rfl (Nat.le_of_ble_eq_true rfl) (by rfl) (Nat.le_of_ble_eq_true rfl) (Nat.le_of_ble_eq_true rfl) (Nat.le_of_ble_eq_true rfl) ?_
    refine ev_aload_n dX12_feed_44 rfl ?_
    refine ev_getI fr_X12_181 shR_0 rfl dX12_feed_45 ?_
    exact ev_iret rfl rfl (by decide) (by decide) dX12_feed_48 (eqP_E h)
  · replace h := ite_f hc2 h
    refine ev_iconst (v := (-1 : Int32)) dX12_feed_15 (by decide) ?_
    exact ev_iret rfl rfl (by decide) (by decide) dX12_feed_16 (eqP_E h)
def f_X12_end (G : Nat) (p1 : Int32) (μ : Mem) : Option (Int32 × Mem) :=
  (let m1 := wr μ 0 0 (0 : Int32)
  (if (f_X12_isIn p1 (0 : Int32) (m1 0 15)) = (0 : Int32) then
  some ((0 : Int32), m1)
  else
  (let m3 := wr m1 0 15 p1
  some ((1 : Int32), m3))))
set_option maxHeartbeats 4000000 in
set_option maxRecDepth 100000 in
theorem c_X12_end  {G : Nat} {μ : Mem} {p1 : Int32} {r : Int32} {μr : Mem}  (h : f_X12_end G p1 μ = some (r, μr)) : Cn yX12_end cX12_end 2 (some .boolean) 2 0 0 [.ref 0, .int p1] shR μ (eqP (some r) shR μr) := by
  refine cn_of (own := RX12) (ini := false) (loc := [some (.ref 0), some (.int p1)]) rfl (by decide) (fun q => by cases q) (Nat.le_of_ble_eq_true rfl) (by rfl) rfl ?_
  unfold f_X12_end at h
  refine ev_aload_n dX12_end_0 rfl ?_
  refine ev_iconst (v := (0 : Int32)) dX12_end_1 (by decide) ?_
  refine ev_putI fr_X12_149 shR_0 rfl rfl rfl dX12_end_2 ?_
  refine ev_aload_n dX12_end_5 rfl ?_
  refine ev_iload_n dX12_end_6 rfl ?_
  refine ev_iconst (v := (0 : Int32)) dX12_end_7 (by decide) ?_
  refine ev_aload_n dX12_end_8 rfl ?_
  refine ev_getI fr_X12_181 shR_0 rfl dX12_end_9 ?_
  refine ev_cVi mv_X12_167 dX12_end_12 c_X12_isIn rfl shR_0 rfl rfl (Nat.le_of_ble_eq_true rfl) (by rfl) (Nat.le_of_ble_eq_true rfl) (Nat.le_of_ble_eq_true rfl) (Nat.le_of_ble_eq_true rfl) ?_
  refine ev_if_ne (tgt := 20) dX12_end_15 (by decide) (fun hc2 => ?_) (fun hc2 => ?_)
  · replace h := ite_f hc2 h
    refine ev_aload_n dX12_end_20 rfl ?_
    refine ev_iload_n dX12_end_21 rfl ?_
    refine ev_putI fr_X12_181 shR_0 rfl rfl rfl dX12_end_22 ?_
    refine ev_iconst (v := (1 : Int32)) dX12_end_25 (by decide) ?_
    exact ev_iret rfl rfl (by decide) (by decide) dX12_end_26 (eqP_E h)
  · replace h := ite_t hc2 h
    refine ev_iconst (v := (0 : Int32)) dX12_end_18 (by decide) ?_
    exact ev_iret rfl rfl (by decide) (by decide) dX12_end_19 (eqP_E h)
def f_X12_raw (G : Nat) (μ : Mem) (p1 : Int32) : Option Int32 :=
  (if (μ 0 15) ≤ p1 then
  some (-1 : Int32)
  else
  chk p1 400 (some (μ 10 (ix p1))))
set_option maxHeartbeats 4000000 in
set_option maxRecDepth 100000 in
theorem c_X12_raw  {G : Nat} {μ : Mem}  {p1 : Int32} {r : Int32}  (h : f_X12_raw G μ p1 = some r) : Cn yX12_raw cX12_raw 2 (some .int) 1 0 0 [.ref 0, .int p1] shR μ (eqP (some r) shR μ) := by
  refine cn_of (own := RX12) (ini := false) (loc := [some (.ref 0), some (.int p1)]) rfl (by decide) (fun q => by cases q) (Nat.le_of_ble_eq_true rfl) (by rfl) rfl ?_
  unfold f_X12_raw at h
  refine ev_iload_n dX12_raw_0 rfl ?_
  refine ev_aload_n dX12_raw_1 rfl ?_
  refine ev_getI fr_X12_181 shR_0 rfl dX12_raw_2 ?_
  refine ev_icmp_ge (tgt := 17) dX12_raw_5 (by decide) (fun hc1 => ?_) (fun hc1 => ?_)
  · replace h := ite_t hc1 h
    refine ev_iconst (v := (-1 : Int32)) dX12_raw_17 (by decide) ?_
    exact ev_iret rfl rfl (by decide) (by decide) dX12_raw_18 (eqP_O h)
  · replace h := ite_f hc1 h
    refine ev_aload_n dX12_raw_8 rfl ?_
    refine ev_getR fr_X12_37 shR_0 rfl dX12_raw_9 ?_
    refine ev_iload_n dX12_raw_12 rfl ?_
    obtain ⟨hi2, h⟩ := chk_t h
    refine ev_iald shR_10 hi2 dX12_raw_13 ?_
    refine ev_goto (tgt := 18) dX12_raw_14 (by decide) ?_
    exact ev_iret rfl rfl (by decide) (by decide) dX12_raw_18 (eqP_O h)
def f_X12_isLetter  (p1 : Int32) : Int32 :=
  (if (f_X12_isIn p1 (97 : Int32) (122 : Int32)) = (0 : Int32) then
  (if (f_X12_isIn p1 (65 : Int32) (90 : Int32)) = (0 : Int32) then
  (0 : Int32)
  else
  (1 : Int32))
  else
  (1 : Int32))
set_option maxHeartbeats 4000000 in
set_option maxRecDepth 100000 in
theorem c_X12_isLetter   {μ : Mem} {p1 : Int32}  : Cn yX12_isLetter cX12_isLetter 2 (some .boolean) 2 0 0 [.ref 0, .int p1] shR μ (eqP (some (f_X12_isLetter p1)) shR μ) := by
  obtain ⟨r, h⟩ : ∃ r, f_X12_isLetter p1 = r := ⟨_, rfl⟩
  rw [h]
  refine cn_of (own := RX12) (ini := false) (loc := [some (.ref 0), some (.int p1)]) rfl (by decide) (fun q => by cases q) (Nat.le_of_ble_eq_true rfl) (by rfl) rfl ?_
  unfold f_X12_isLetter at h
  refine ev_aload_n dX12_isLetter_0 rfl ?_
  refine ev_iload_n dX12_isLetter_1 rfl ?_
  refine ev_bipush (v := (97 : Int32)) dX12_isLetter_2 (by decide) ?_
  refine ev_bipush (v := (122 : Int32)) dX12_isLetter_4 (by decide) ?_
  refine ev_cVi mv_X12_167 dX12_isLetter_6 c_X12_isIn rfl shR_0 rfl rfl (Nat.le_of_ble_eq_true rfl) (by rfl) (Nat.le_of_ble_eq_true rfl) (Nat.le_of_ble_eq_true rfl) (Nat.le_of_ble_eq_true rfl) ?_
  refine ev_if_ne (tgt := 24) dX12_isLetter_9 (by decide) (fun hc1 => ?_) (fun hc1 => ?_)
  · replace h := ite_f hc1 h
    refine ev_iconst (v := (1 : Int32)) dX12_isLetter_24 (by decide) ?_
    refine ev_goto (tgt := 29) dX12_isLetter_25 (by decide) ?_
    exact ev_iret rfl rfl (by decide) (by decide) dX12_isLetter_29 (eqP_P h)
  · replace h := ite_t hc1 h
    refine ev_aload_n dX12_isLetter_12 rfl ?_
    refine ev_iload_n dX12_isLetter_13 rfl ?_
    refine ev_bipush (v := (65 : Int32)) dX12_isLetter_14 (by decide) ?_
    refine ev_bipush (v := (90 : Int32)) dX12_isLetter_16 (by decide) ?_
    refine ev_cVi mv_X12_167 dX12_isLetter_18 c_X12_isIn rfl shR_0 rfl rfl (Nat.le_of_ble_eq_true rfl) (by rfl) (Nat.le_of_ble_eq_true rfl) (Nat.le_of_ble_eq_true rfl) (Nat.le_of_ble_eq_true rfl) ?_
    refine ev_if_eq (tgt := 28) dX12_isLetter_21 (by decide) (fun hc2 => ?_) (fun hc2 => ?_)
    · replace h := ite_t hc2 h
      refine ev_iconst (v := (0 : Int32)) dX12_isLetter_28 (by decide) ?_
      exact ev_iret rfl rfl (by decide) (by decide) dX12_isLetter_29 (eqP_P h)
    · replace h := ite_f hc2 h
      refine ev_iconst (v := (1 : Int32)) dX12_isLetter_24 (by decide) ?_
      refine ev_goto (tgt := 29) dX12_isLetter_25 (by decide) ?_
      exact ev_iret rfl rfl (by decide) (by decide) dX12_isLetter_29 (eqP_P h)
def f_X12_isDigit (G : Nat) (μ : Mem) (p1 : Int32) : Option Int32 :=
  bkk (f_X12_isIn p1 (48 : Int32) (57 : Int32)) (some (f_X12_isIn p1 (48 : Int32) (57 : Int32)))
set_option maxHeartbeats 4000000 in
set_option maxRecDepth 100000 in
theorem c_X12_isDigit  {G : Nat} {μ : Mem}  {p1 : Int32} {r : Int32}  (h : f_X12_isDigit G μ p1 = some r) : Cn yX12_isDigit cX12_isDigit 2 (some .boolean) 2 0 0 [.ref 0, .int p1] shR μ (eqP (some r) shR μ) := by
  refine cn_of (own := RX12) (ini := false) (loc := [some (.ref 0), some (.int p1)]) rfl (by decide) (fun q => by cases q) (Nat.le_of_ble_eq_true rfl) (by rfl) rfl ?_
  unfold f_X12_isDigit at h
  refine ev_aload_n dX12_isDigit_0 rfl ?_
  refine ev_iload_n dX12_isDigit_1 rfl ?_
  refine ev_bipush (v := (48 : Int32)) dX12_isDigit_2 (by decide) ?_
  refine ev_bipush (v := (57 : Int32)) dX12_isDigit_4 (by decide) ?_
  refine ev_cVi mv_X12_167 dX12_isDigit_6 c_X12_isIn rfl shR_0 rfl rfl (Nat.le_of_ble_eq_true rfl) (by rfl) (Nat.le_of_ble_eq_true rfl) (Nat.le_of_ble_eq_true rfl) (Nat.le_of_ble_eq_true rfl) ?_
  obtain ⟨hz1, h⟩ := bkk_t h
  exact ev_iret rfl (nzb hz1) (by decide) (by decide) dX12_isDigit_9 (eqP_O h)
def f_X12_isMarkSign  (p1 : Int32) : Int32 :=
  (if p1 = (59 : Int32) then
  (1 : Int32)
  else
  (if p1 = (43 : Int32) then
  (1 : Int32)
  else
  (if p1 = (45 : Int32) then
  (1 : Int32)
  else
  (if p1 = (42 : Int32) then
  (1 : Int32)
  else
  (if p1 = (47 : Int32) then
  (1 : Int32)
  else
  (if p1 = (40 : Int32) then
  (1 : Int32)
  else
  (if p1 = (41 : Int32) then
  (1 : Int32)
  else
  (if p1 = (60 : Int32) then
  (1 : Int32)
  else
  (if p1 = (61 : Int32) then
  (1 : Int32)
  else
  (if p1 = (62 : Int32) then
  (1 : Int32)
  else
  (0 : Int32)))))))))))
set_option maxHeartbeats 4000000 in
set_option maxRecDepth 100000 in
theorem c_X12_isMarkSign   {μ : Mem} {p1 : Int32}  : Cn yX12_isMarkSign cX12_isMarkSign 2 (some .boolean) 1 0 0 [.ref 0, .int p1] shR μ (eqP (some (f_X12_isMarkSign p1)) shR μ) := by
  obtain ⟨r, h⟩ : ∃ r, f_X12_isMarkSign p1 = r := ⟨_, rfl⟩
  rw [h]
  refine cn_of (own := RX12) (ini := false) (loc := [some (.ref 0), some (.int p1)]) rfl (by decide) (fun q => by cases q) (Nat.le_of_ble_eq_true rfl) (by rfl) rfl ?_
  unfold f_X12_isMarkSign at h
  refine ev_iload_n dX12_isMarkSign_0 rfl ?_
  refine ev_bipush (v := (59 : Int32)) dX12_isMarkSign_1 (by decide) ?_
  refine ev_icmp_eq (tgt := 60) dX12_isMarkSign_3 (by decide) (fun hc1 => ?_) (fun hc1 => ?_)
  · replace h := ite_t hc1 h
    refine ev_iconst (v := (1 : Int32)) dX12_isMarkSign_60 (by decide) ?_
    refine ev_goto (tgt := 65) dX12_isMarkSign_61 (by decide) ?_
    exact ev_iret rfl rfl (by decide) (by decide) dX12_isMarkSign_65 (eqP_P h)
  · replace h := ite_f hc1 h
    refine ev_iload_n dX12_isMarkSign_6 rfl ?_
    refine ev_bipush (v := (43 : Int32)) dX12_isMarkSign_7 (by decide) ?_
    refine ev_icmp_eq (tgt := 60) dX12_isMarkSign_9 (by decide) (fun hc2 => ?_) (fun hc2 => ?_)
    · replace h := ite_t hc2 h
      refine ev_iconst (v := (1 : Int32)) dX12_isMarkSign_60 (by decide) ?_
      refine ev_goto (tgt := 65) dX12_isMarkSign_61 (by decide) ?_
      exact ev_iret rfl rfl (by decide) (by decide) dX12_isMarkSign_65 (eqP_P h)
    · replace h := ite_f hc2 h
      refine ev_iload_n dX12_isMarkSign_12 rfl ?_
      refine ev_bipush (v := (45 : Int32)) dX12_isMarkSign_13 (by decide) ?_
      refine ev_icmp_eq (tgt := 60) dX12_isMarkSign_15 (by decide) (fun hc3 => ?_) (fun hc3 => ?_)
      · replace h := ite_t hc3 h
        refine ev_iconst (v := (1 : Int32)) dX12_isMarkSign_60 (by decide) ?_
        refine ev_goto (tgt := 65) dX12_isMarkSign_61 (by decide) ?_
        exact ev_iret rfl rfl (by decide) (by decide) dX12_isMarkSign_65 (eqP_P h)
      · replace h := ite_f hc3 h
        refine ev_iload_n dX12_isMarkSign_18 rfl ?_
        refine ev_bipush (v := (42 : Int32)) dX12_isMarkSign_19 (by decide) ?_
        refine ev_icmp_eq (tgt := 60) dX12_isMarkSign_21 (by decide) (fun hc4 => ?_) (fun hc4 => ?_)
        · replace h := ite_t hc4 h
          refine ev_iconst (v := (1 : Int32)) dX12_isMarkSign_60 (by decide) ?_
          refine ev_goto (tgt := 65) dX12_isMarkSign_61 (by decide) ?_
          exact ev_iret rfl rfl (by decide) (by decide) dX12_isMarkSign_65 (eqP_P h)
        · replace h := ite_f hc4 h
          refine ev_iload_n dX12_isMarkSign_24 rfl ?_
          refine ev_bipush (v := (47 : Int32)) dX12_isMarkSign_25 (by decide) ?_
          refine ev_icmp_eq (tgt := 60) dX12_isMarkSign_27 (by decide) (fun hc5 => ?_) (fun hc5 => ?_)
          · replace h := ite_t hc5 h
            refine ev_iconst (v := (1 : Int32)) dX12_isMarkSign_60 (by decide) ?_
            refine ev_goto (tgt := 65) dX12_isMarkSign_61 (by decide) ?_
            exact ev_iret rfl rfl (by decide) (by decide) dX12_isMarkSign_65 (eqP_P h)
          · replace h := ite_f hc5 h
            refine ev_iload_n dX12_isMarkSign_30 rfl ?_
            refine ev_bipush (v := (40 : Int32)) dX12_isMarkSign_31 (by decide) ?_
            refine ev_icmp_eq (tgt := 60) dX12_isMarkSign_33 (by decide) (fun hc6 => ?_) (fun hc6 => ?_)
            · replace h := ite_t hc6 h
              refine ev_iconst (v := (1 : Int32)) dX12_isMarkSign_60 (by decide) ?_
              refine ev_goto (tgt := 65) dX12_isMarkSign_61 (by decide) ?_
              exact ev_iret rfl rfl (by decide) (by decide) dX12_isMarkSign_65 (eqP_P h)
            · replace h := ite_f hc6 h
              refine ev_iload_n dX12_isMarkSign_36 rfl ?_
              refine ev_bipush (v := (41 : Int32)) dX12_isMarkSign_37 (by decide) ?_
              refine ev_icmp_eq (tgt := 60) dX12_isMarkSign_39 (by decide) (fun hc7 => ?_) (fun hc7 => ?_)
              · replace h := ite_t hc7 h
                refine ev_iconst (v := (1 : Int32)) dX12_isMarkSign_60 (by decide) ?_
                refine ev_goto (tgt := 65) dX12_isMarkSign_61 (by decide) ?_
                exact ev_iret rfl rfl (by decide) (by decide) dX12_isMarkSign_65 (eqP_P h)
              · replace h := ite_f hc7 h
                refine ev_iload_n dX12_isMarkSign_42 rfl ?_
                refine ev_bipush (v := (60 : Int32)) dX12_isMarkSign_43 (by decide) ?_
                refine ev_icmp_eq (tgt := 60) dX12_isMarkSign_45 (by decide) (fun hc8 => ?_) (fun hc8 => ?_)
                · replace h := ite_t hc8 h
                  refine ev_iconst (v := (1 : Int32)) dX12_isMarkSign_60 (by decide) ?_
                  refine ev_goto (tgt := 65) dX12_isMarkSign_61 (by decide) ?_
                  exact ev_iret rfl rfl (by decide) (by decide) dX12_isMarkSign_65 (eqP_P h)
                · replace h := ite_f hc8 h
                  refine ev_iload_n dX12_isMarkSign_48 rfl ?_
                  refine ev_bipush (v := (61 : Int32)) dX12_isMarkSign_49 (by decide) ?_
                  refine ev_icmp_eq (tgt := 60) dX12_isMarkSign_51 (by decide) (fun hc9 => ?_) (fun hc9 => ?_)
                  · replace h := ite_t hc9 h
                    refine ev_iconst (v := (1 : Int32)) dX12_isMarkSign_60 (by decide) ?_
                    refine ev_goto (tgt := 65) dX12_isMarkSign_61 (by decide) ?_
                    exact ev_iret rfl rfl (by decide) (by decide) dX12_isMarkSign_65 (eqP_P h)
                  · replace h := ite_f hc9 h
                    refine ev_iload_n dX12_isMarkSign_54 rfl ?_
                    refine ev_bipush (v := (62 : Int32)) dX12_isMarkSign_55 (by decide) ?_
                    refine ev_icmp_ne (tgt := 64) dX12_isMarkSign_57 (by decide) (fun hc10 => ?_) (fun hc10 => ?_)
                    · replace h := ite_f hc10 h
                      refine ev_iconst (v := (0 : Int32)) dX12_isMarkSign_64 (by decide) ?_
                      exact ev_iret rfl rfl (by decide) (by decide) dX12_isMarkSign_65 (eqP_P h)
                    · replace h := ite_t hc10 h
                      refine ev_iconst (v := (1 : Int32)) dX12_isMarkSign_60 (by decide) ?_
                      refine ev_goto (tgt := 65) dX12_isMarkSign_61 (by decide) ?_
                      exact ev_iret rfl rfl (by decide) (by decide) dX12_isMarkSign_65 (eqP_P h)
def f_X12_wordAt_L20 (G : Nat) (μ : Mem) (r5 : Int32 → Int32 → Int32 → Int32 → Option Int32) (k20_61 : Int32 → Int32 → Int32 → Int32 → Int32 → Option Int32) : Nat → Int32 → Int32 → Int32 → Int32 → Int32 → Option Int32
  | 0, _, _, _, _, _ => none
  | g + 1, v1, v2, v3, v4, v5 =>
  (if v2 ≤ (v1 + v5) then
  k20_61 v1 v2 v3 v4 v5
  else
  chk ((v4 + (1 : Int32)) + v5) 132 (chk (v1 + v5) 400 ((if (μ 11 (ix ((v4 + (1 : Int32)) + v5))) = (μ 10 (ix (v1 + v5))) then
  (f_X12_wordAt_L20 G μ r5 k20_61 g) v1 v2 v3 v4 (v5 + (1 : Int32))
  else
  k20_61 v1 v2 v3 v4 v5))))
set_option maxHeartbeats 4000000 in
set_option maxRecDepth 100000 in
theorem f_X12_wordAt_L20_ok  {G : Nat} {μ : Mem} {r : Int32}  {r5 : Int32 → Int32 → Int32 → Int32 → Option Int32} {k20_61 : Int32 → Int32 → Int32 → Int32 → Int32 → Option Int32} (hr5 : ∀ (v1 : Int32) (v2 : Int32) (v3 : Int32) (v4 : Int32), r5 v1 v2 v3 v4 = some r → Ev RX12 cX12_wordAt 6 (some .int) false 1 0 0 (eqP (some r) shR μ) 5 [some (.ref 0), some (.int v1), some (.int v2), some (.int v3), some (.int v4), none] [] shR μ 0 0) (hk20_61 : ∀ (v1 : Int32) (v2 : Int32) (v3 : Int32) (v4 : Int32) (v5 : Int32), k20_61 v1 v2 v3 v4 v5 = some r → Ev RX12 cX12_wordAt 6 (some .int) false 1 0 0 (eqP (some r) shR μ) 61 [some (.ref 0), some (.int v1), some (.int v2), some (.int v3), some (.int v4), some (.int v5)] [] shR μ 0 0) : ∀ (g : Nat) (v1 v2 v3 v4 v5 : Int32), f_X12_wordAt_L20 G μ r5 k20_61 g v1 v2 v3 v4 v5 = some r → Ev RX12 cX12_wordAt 6 (some .int) false 1 0 0 (eqP (some r) shR μ) 20 [some (.ref 0), some (.int v1), some (.int v2), some (.int v3), some (.int v4), some (.int v5)] [] shR μ 0 0 := by
  intro g
  induction g with
  | zero =>
    intro v1 v2 v3 v4 v5 h
    cases h
  | succ g ih =>
    intro v1 v2 v3 v4 v5 h
    rw [f_X12_wordAt_L20] at h
    refine ev_iload_n dX12_wordAt_20 rfl ?_
    refine ev_iload dX12_wordAt_21 rfl ?_
    refine ev_iadd dX12_wordAt_23 ?_
    refine ev_iload_n dX12_wordAt_24 rfl ?_
    refine ev_icmp_ge (tgt := 61) dX12_wordAt_25 (by decide) (fun hc2 => ?_) (fun hc2 => ?_)
    · replace h := ite_t hc2 h
      exact ev_lt (hk20_61 _ _ _ _ _ h) ⟨rfl, ⟨rfl, ⟨rfl, ⟨rfl, ⟨rfl, ⟨rfl, trivial⟩⟩⟩⟩⟩⟩
    · replace h := ite_f hc2 h
      refine ev_aload_n dX12_wordAt_28 rfl ?_
      refine ev_getR fr_X12_40 shR_0 rfl dX12_wordAt_29 ?_
      refine ev_iload dX12_wordAt_32 rfl ?_
      refine ev_iconst (v := (1 : Int32)) dX12_wordAt_34 (by decide) ?_
      refine ev_iadd dX12_wordAt_35 ?_
      refine ev_iload dX12_wordAt_36 rfl ?_
      refine ev_iadd dX12_wordAt_38 ?_
      obtain ⟨hi3, h⟩ := chk_t h
      refine ev_iald shR_11 hi3 dX12_wordAt_39 ?_
      refine ev_aload_n dX12_wordAt_40 rfl ?_
      refine ev_getR fr_X12_37 shR_0 rfl dX12_wordAt_41 ?_
      refine ev_iload_n dX12_wordAt_44 rfl ?_
      refine ev_iload dX12_wordAt_45 rfl ?_
      refine ev_iadd dX12_wordAt_47 ?_
      obtain ⟨hi4, h⟩ := chk_t h
      refine ev_iald shR_10 hi4 dX12_wordAt_48 ?_
      refine ev_icmp_ne (tgt := 61) dX12_wordAt_49 (by decide) (fun hc5 => ?_) (fun hc5 => ?_)
      · replace h := ite_f hc5 h
        exact ev_lt (hk20_61 _ _ _ _ _ h) ⟨rfl, ⟨rfl, ⟨rfl, ⟨rfl, ⟨rfl, ⟨rfl, trivial⟩⟩⟩⟩⟩⟩
      · replace h := ite_t hc5 h
        refine ev_iload dX12_wordAt_52 rfl ?_
        refine ev_iconst (v := (1 : Int32)) dX12_wordAt_54 (by decide) ?_
        refine ev_iadd dX12_wordAt_55 ?_
        refine ev_istore (loc' := [_, _, _, _, _, _]) dX12_wordAt_56 rfl (by decide) (by rfl) ?_
        refine ev_goto (tgt := 20) dX12_wordAt_58 (by decide) ?_
        exact ev_lt (ih _ _ _ _ _ h) ⟨rfl, ⟨rfl, ⟨rfl, ⟨rfl, ⟨rfl, ⟨rfl, trivial⟩⟩⟩⟩⟩⟩
def f_X12_wordAt_L94 (G : Nat) (μ : Mem) (r5 : Int32 → Int32 → Int32 → Int32 → Option Int32) (k94_115 : Int32 → Int32 → Int32 → Int32 → Option Int32) : Nat → Int32 → Int32 → Int32 → Int32 → Option Int32
  | 0, _, _, _, _ => none
  | g + 1, v1, v2, v3, v4 =>
  chk v4 132 ((if (μ 11 (ix v4)) = (32 : Int32) then
  k94_115 v1 v2 v3 v4
  else
  (f_X12_wordAt_L94 G μ r5 k94_115 g) v1 v2 v3 (v4 + (1 : Int32))))
set_option maxHeartbeats 4000000 in
set_option maxRecDepth 100000 in
theorem f_X12_wordAt_L94_ok  {G : Nat} {μ : Mem} {r : Int32}  {r5 : Int32 → Int32 → Int32 → Int32 → Option Int32} {k94_115 : Int32 → Int32 → Int32 → Int32 → Option Int32} (hr5 : ∀ (v1 : Int32) (v2 : Int32) (v3 : Int32) (v4 : Int32), r5 v1 v2 v3 v4 = some r → Ev RX12 cX12_wordAt 6 (some .int) false 1 0 0 (eqP (some r) shR μ) 5 [some (.ref 0), some (.int v1), some (.int v2), some (.int v3), some (.int v4), none] [] shR μ 0 0) (hk94_115 : ∀ (v1 : Int32) (v2 : Int32) (v3 : Int32) (v4 : Int32), k94_115 v1 v2 v3 v4 = some r → Ev RX12 cX12_wordAt 6 (some .int) false 1 0 0 (eqP (some r) shR μ) 115 [some (.ref 0), some (.int v1), some (.int v2), some (.int v3), some (.int v4), none] [] shR μ 0 0) : ∀ (g : Nat) (v1 v2 v3 v4 : Int32), f_X12_wordAt_L94 G μ r5 k94_115 g v1 v2 v3 v4 = some r → Ev RX12 cX12_wordAt 6 (some .int) false 1 0 0 (eqP (some r) shR μ) 94 [some (.ref 0), some (.int v1), some (.int v2), some (.int v3), some (.int v4), none] [] shR μ 0 0 := by
  intro g
  induction g with
  | zero =>
    intro v1 v2 v3 v4 h
    cases h
  | succ g ih =>
    intro v1 v2 v3 v4 h
    rw [f_X12_wordAt_L94] at h
    refine ev_aload_n dX12_wordAt_94 rfl ?_
    refine ev_getR fr_X12_40 shR_0 rfl dX12_wordAt_95 ?_
    refine ev_iload dX12_wordAt_98 rfl ?_
    obtain ⟨hi7, h⟩ := chk_t h
    refine ev_iald shR_11 hi7 dX12_wordAt_100 ?_
    refine ev_bipush (v := (32 : Int32)) dX12_wordAt_101 (by decide) ?_
    refine ev_icmp_eq (tgt := 115) dX12_wordAt_103 (by decide) (fun hc8 => ?_) (fun hc8 => ?_)
    · replace h := ite_t hc8 h
      exact ev_lt (hk94_115 _ _ _ _ h) ⟨rfl, ⟨rfl, ⟨rfl, ⟨rfl, ⟨rfl, trivial⟩⟩⟩⟩⟩
    · replace h := ite_f hc8 h
      refine ev_iload dX12_wordAt_106 rfl ?_
      refine ev_iconst (v := (1 : Int32)) dX12_wordAt_108 (by decide) ?_
      refine ev_iadd dX12_wordAt_109 ?_
      refine ev_istore (loc' := [_, _, _, _, _, _]) dX12_wordAt_110 rfl (by decide) (by rfl) ?_
      refine ev_goto (tgt := 94) dX12_wordAt_112 (by decide) ?_
      exact ev_lt (ih _ _ _ _ h) ⟨rfl, ⟨rfl, ⟨rfl, ⟨rfl, ⟨rfl, trivial⟩⟩⟩⟩⟩
def f_X12_wordAt_j115 (G : Nat) (μ : Mem) (r5 : Int32 → Int32 → Int32 → Int32 → Option Int32) (v1 v2 v3 v4 : Int32) : Option Int32 :=
  r5 v1 v2 v3 v4
set_option maxHeartbeats 4000000 in
set_option maxRecDepth 100000 in
theorem f_X12_wordAt_j115_ok  {G : Nat} {μ : Mem} {r : Int32}  {r5 : Int32 → Int32 → Int32 → Int32 → Option Int32} (hr5 : ∀ (v1 : Int32) (v2 : Int32) (v3 : Int32) (v4 : Int32), r5 v1 v2 v3 v4 = some r → Ev RX12 cX12_wordAt 6 (some .int) false 1 0 0 (eqP (some r) shR μ) 5 [some (.ref 0), some (.int v1), some (.int v2), some (.int v3), some (.int v4), none] [] shR μ 0 0) {v1 v2 v3 v4 : Int32}  (h : f_X12_wordAt_j115 G μ r5 v1 v2 v3 v4 = some r) : Ev RX12 cX12_wordAt 6 (some .int) false 1 0 0 (eqP (some r) shR μ) 115 [some (.ref 0), some (.int v1), some (.int v2), some (.int v3), some (.int v4), none] [] shR μ 0 0 := by
  unfold f_X12_wordAt_j115 at h
  refine ev_goto (tgt := 5) dX12_wordAt_115 (by decide) ?_
  exact ev_lt (hr5 _ _ _ _ h) ⟨rfl, ⟨rfl, ⟨rfl, ⟨rfl, ⟨rfl, trivial⟩⟩⟩⟩⟩
def f_X12_wordAt_j88 (G : Nat) (μ : Mem) (r5 : Int32 → Int32 → Int32 → Int32 → Option Int32) (v1 v2 v3 v4 : Int32) : Option Int32 :=
  f_X12_wordAt_L94 G μ r5 (f_X12_wordAt_j115 G μ r5) G v1 v2 v3 (v4 + (1 : Int32))
set_option maxHeartbeats 4000000 in
set_option maxRecDepth 100000 in
theorem f_X12_wordAt_j88_ok  {G : Nat} {μ : Mem} {r : Int32}  {r5 : Int32 → Int32 → Int32 → Int32 → Option Int32} (hr5 : ∀ (v1 : Int32) (v2 : Int32) (v3 : Int32) (v4 : Int32), r5 v1 v2 v3 v4 = some r → Ev RX12 cX12_wordAt 6 (some .int) false 1 0 0 (eqP (some r) shR μ) 5 [some (.ref 0), some (.int v1), some (.int v2), some (.int v3), some (.int v4), none] [] shR μ 0 0) {v1 v2 v3 v4 : Int32}  (h : f_X12_wordAt_j88 G μ r5 v1 v2 v3 v4 = some r) : Ev RX12 cX12_wordAt 6 (some .int) false 1 0 0 (eqP (some r) shR μ) 88 [some (.ref 0), some (.int v1), some (.int v2), some (.int v3), some (.int v4), none] [] shR μ 0 0 := by
  unfold f_X12_wordAt_j88 at h
  refine ev_iload dX12_wordAt_88 rfl ?_
  refine ev_iconst (v := (1 : Int32)) dX12_wordAt_90 (by decide) ?_
  refine ev_iadd dX12_wordAt_91 ?_
  refine ev_istore (loc' := [_, _, _, _, _, _]) dX12_wordAt_92 rfl (by decide) (by rfl) ?_
  exact ev_lt (f_X12_wordAt_L94_ok hr5 (fun _ _ _ _ hh => f_X12_wordAt_j115_ok hr5 hh) _ _ _ _ _ h) ⟨rfl, ⟨rfl, ⟨rfl, ⟨rfl, ⟨rfl, trivial⟩⟩⟩⟩⟩
def f_X12_wordAt_j61 (G : Nat) (μ : Mem) (r5 : Int32 → Int32 → Int32 → Int32 → Option Int32) (v1 v2 v3 v4 v5 : Int32) : Option Int32 :=
  (if (v1 + v5) = v2 then
  chk ((v4 + (1 : Int32)) + v5) 132 ((if (μ 11 (ix ((v4 + (1 : Int32)) + v5))) = (32 : Int32) then
  some v3
  else
  f_X12_wordAt_j88 G μ r5 v1 v2 v3 v4))
  else
  f_X12_wordAt_j88 G μ r5 v1 v2 v3 v4)
set_option maxHeartbeats 4000000 in
set_option maxRecDepth 100000 in
theorem f_X12_wordAt_j61_ok  {G : Nat} {μ : Mem} {r : Int32}  {r5 : Int32 → Int32 → Int32 → Int32 → Option Int32} (hr5 : ∀ (v1 : Int32) (v2 : Int32) (v3 : Int32) (v4 : Int32), r5 v1 v2 v3 v4 = some r → Ev RX12 cX12_wordAt 6 (some .int) false 1 0 0 (eqP (some r) shR μ) 5 [some (.ref 0), some (.int v1), some (.int v2), some (.int v3), some (.int v4), none] [] shR μ 0 0) {v1 v2 v3 v4 v5 : Int32}  (h : f_X12_wordAt_j61 G μ r5 v1 v2 v3 v4 v5 = some r) : Ev RX12 cX12_wordAt 6 (some .int) false 1 0 0 (eqP (some r) shR μ) 61 [some (.ref 0), some (.int v1), some (.int v2), some (.int v3), some (.int v4), some (.int v5)] [] shR μ 0 0 := by
  unfold f_X12_wordAt_j61 at h
  refine ev_iload_n dX12_wordAt_61 rfl ?_
  refine ev_iload dX12_wordAt_62 rfl ?_
  refine ev_iadd dX12_wordAt_64 ?_
  refine ev_iload_n dX12_wordAt_65 rfl ?_
  refine ev_icmp_ne (tgt := 88) dX12_wordAt_66 (by decide) (fun hc6 => ?_) (fun hc6 => ?_)
  · replace h := ite_f hc6 h
    exact ev_lt (f_X12_wordAt_j88_ok hr5 h) ⟨rfl, ⟨rfl, ⟨rfl, ⟨rfl, ⟨rfl, trivial⟩⟩⟩⟩⟩
  · replace h := ite_t hc6 h
    refine ev_aload_n dX12_wordAt_69 rfl ?_
    refine ev_getR fr_X12_40 shR_0 rfl dX12_wordAt_70 ?_
    refine ev_iload dX12_wordAt_73 rfl ?_
    refine ev_iconst (v := (1 : Int32)) dX12_wordAt_75 (by decide) ?_
    refine ev_iadd dX12_wordAt_76 ?_
    refine ev_iload dX12_wordAt_77 rfl ?_
    refine ev_iadd dX12_wordAt_79 ?_
    obtain ⟨hi9, h⟩ := chk_t h
    refine ev_iald shR_11 hi9 dX12_wordAt_80 ?_
    refine ev_bipush (v := (32 : Int32)) dX12_wordAt_81 (by decide) ?_
    refine ev_icmp_ne (tgt := 88) dX12_wordAt_83 (by decide) (fun hc10 => ?_) (fun hc10 => ?_)
    · replace h := ite_f hc10 h
      exact ev_lt (f_X12_wordAt_j88_ok hr5 h) ⟨rfl, ⟨rfl, ⟨rfl, ⟨rfl, ⟨rfl, trivial⟩⟩⟩⟩⟩
    · replace h := ite_t hc10 h
      refine ev_iload_n dX12_wordAt_86 rfl ?_
      exact ev_iret rfl rfl (by decide) (by decide) dX12_wordAt_87 (eqP_O h)
def f_X12_wordAt_L5 (G : Nat) (μ : Mem)  : Nat → Int32 → Int32 → Int32 → Int32 → Option Int32
  | 0, _, _, _, _ => none
  | g + 1, v1, v2, v3, v4 =>
  (if (131 : Int32) ≤ v4 then
  some (-1 : Int32)
  else
  f_X12_wordAt_L20 G μ (f_X12_wordAt_L5 G μ g) (f_X12_wordAt_j61 G μ (f_X12_wordAt_L5 G μ g)) G v1 v2 (v3 + (1 : Int32)) v4 (0 : Int32))
set_option maxHeartbeats 4000000 in
set_option maxRecDepth 100000 in
theorem f_X12_wordAt_L5_ok  {G : Nat} {μ : Mem} {r : Int32}    : ∀ (g : Nat) (v1 v2 v3 v4 : Int32), f_X12_wordAt_L5 G μ g v1 v2 v3 v4 = some r → Ev RX12 cX12_wordAt 6 (some .int) false 1 0 0 (eqP (some r) shR μ) 5 [some (.ref 0), some (.int v1), some (.int v2), some (.int v3), some (.int v4), none] [] shR μ 0 0 := by
  intro g
  induction g with
  | zero =>
    intro v1 v2 v3 v4 h
    cases h
  | succ g ih =>
    intro v1 v2 v3 v4 h
    rw [f_X12_wordAt_L5] at h
    refine ev_iload dX12_wordAt_5 rfl ?_
    refine ev_sipush (v := (131 : Int32)) dX12_wordAt_7 (by decide) ?_
    refine ev_icmp_ge (tgt := 118) dX12_wordAt_10 (by decide) (fun hc1 => ?_) (fun hc1 => ?_)
    · replace h := ite_t hc1 h
      refine ev_iconst (v := (-1 : Int32)) dX12_wordAt_118 (by decide) ?_
      exact ev_iret rfl rfl (by decide) (by decide) dX12_wordAt_119 (eqP_O h)
    · replace h := ite_f hc1 h
      refine ev_iconst (v := (0 : Int32)) dX12_wordAt_13 (by decide) ?_
      refine ev_istore (loc' := [_, _, _, _, _, _]) dX12_wordAt_14 rfl (by decide) (by rfl) ?_
      refine ev_iload_n dX12_wordAt_16 rfl ?_
      refine ev_iconst (v := (1 : Int32)) dX12_wordAt_17 (by decide) ?_
      refine ev_iadd dX12_wordAt_18 ?_
      refine ev_istore_n (loc' := [_, _, _, _, _, _]) dX12_wordAt_19 rfl (by decide) (by rfl) ?_
      exact ev_lt (f_X12_wordAt_L20_ok ih (fun _ _ _ _ _ hh => f_X12_wordAt_j61_ok ih hh) _ _ _ _ _ _ h) ⟨rfl, ⟨rfl, ⟨rfl, ⟨rfl, ⟨rfl, ⟨rfl, trivial⟩⟩⟩⟩⟩⟩
def f_X12_wordAt (G : Nat) (μ : Mem) (p1 p2 : Int32) : Option Int32 :=
  f_X12_wordAt_L5 G μ G p1 p2 (-1 : Int32) (0 : Int32)
set_option maxHeartbeats 4000000 in
set_option maxRecDepth 100000 in
theorem c_X12_wordAt  {G : Nat} {μ : Mem}  {p1 p2 : Int32} {r : Int32}  (h : f_X12_wordAt G μ p1 p2 = some r) : Cn yX12_wordAt cX12_wordAt 6 (some .int) 1 0 0 [.ref 0, .int p1, .int p2] shR μ (eqP (some r) shR μ) := by
  refine cn_of (own := RX12) (ini := false) (loc := [some (.ref 0), some (.int p1), some (.int p2), none, none, none]) rfl (by decide) (fun q => by cases q) (Nat.le_of_ble_eq_true rfl) (by rfl) rfl ?_
  unfold f_X12_wordAt at h
  refine ev_iconst (v := (-1 : Int32)) dX12_wordAt_0 (by decide) ?_
  refine ev_istore_n (loc' := [_, _, _, _, _, _]) dX12_wordAt_1 rfl (by decide) (by rfl) ?_
  refine ev_iconst (v := (0 : Int32)) dX12_wordAt_2 (by decide) ?_
  refine ev_istore (loc' := [_, _, _, _, _, _]) dX12_wordAt_3 rfl (by decide) (by rfl) ?_
  exact ev_lt (f_X12_wordAt_L5_ok _ _ _ _ _ h) ⟨rfl, ⟨rfl, ⟨rfl, ⟨rfl, ⟨rfl, trivial⟩⟩⟩⟩⟩
def f_X12_reads_j26 (G : Nat) (r0 : Mem → Option Mem) (k0_39 : Mem → Option Mem) (μ : Mem) : Option Mem :=
  (let m4 := wr μ 0 16 ((μ 0 16) + (1 : Int32))
  r0  m4)
set_option maxHeartbeats 4000000 in
set_option maxRecDepth 100000 in
theorem f_X12_reads_j26_ok  {G : Nat} {μr : Mem}  {r0 : Mem → Option Mem} {k0_39 : Mem → Option Mem} (hr0 : ∀ (m : Mem), r0 m = some μr → Ev RX12 cX12_reads 2 none false 3 0 0 (eqP none shR μr) 0 [some (.ref 0), none] [] shR m 0 0) (hk0_39 : ∀ (m : Mem), k0_39 m = some μr → Ev RX12 cX12_reads 2 none false 3 0 0 (eqP none shR μr) 39 [some (.ref 0), none] [] shR m 0 0) {μ : Mem} (h : f_X12_reads_j26 G r0 k0_39 μ = some μr) : Ev RX12 cX12_reads 2 none false 3 0 0 (eqP none shR μr) 26 [some (.ref 0), none] [] shR μ 0 0 := by
  unfold f_X12_reads_j26 at h
  refine ev_aload_n dX12_reads_26 rfl ?_
  refine ev_aload_n dX12_reads_27 rfl ?_
  refine ev_getI fr_X12_188 shR_0 rfl dX12_reads_28 ?_
  refine ev_iconst (v := (1 : Int32)) dX12_reads_31 (by decide) ?_
  refine ev_iadd dX12_reads_32 ?_
  refine ev_putI fr_X12_188 shR_0 rfl rfl rfl dX12_reads_33 ?_
  refine ev_goto (tgt := 0) dX12_reads_36 (by decide) ?_
  exact ev_lt (hr0 _ h) ⟨rfl, trivial⟩
def f_X12_reads_L0 (G : Nat) (k0_39 : Mem → Option Mem) : Nat → Mem → Option Mem
  | 0, _ => none
  | g + 1, μ =>
  bndO (f_X12_raw G μ (μ 0 16)) (fun w2 =>
  (if w2 = (32 : Int32) then
  f_X12_reads_j26 G (f_X12_reads_L0 G k0_39 g) k0_39  μ
  else
  bndO (f_X12_raw G μ (μ 0 16)) (fun w6 =>
  (if w6 = (10 : Int32) then
  f_X12_reads_j26 G (f_X12_reads_L0 G k0_39 g) k0_39  μ
  else
  k0_39  μ))))
set_option maxHeartbeats 4000000 in
set_option maxRecDepth 100000 in
theorem f_X12_reads_L0_ok  {G : Nat} {μr : Mem}  {k0_39 : Mem → Option Mem} (hk0_39 : ∀ (m : Mem), k0_39 m = some μr → Ev RX12 cX12_reads 2 none false 3 0 0 (eqP none shR μr) 39 [some (.ref 0), none] [] shR m 0 0) : ∀ (g : Nat) (μ : Mem), f_X12_reads_L0 G k0_39 g μ = some μr → Ev RX12 cX12_reads 2 none false 3 0 0 (eqP none shR μr) 0 [some (.ref 0), none] [] shR μ 0 0 := by
  intro g
  induction g with
  | zero =>
    intro μ h
    cases h
  | succ g ih =>
    intro μ h
    rw [f_X12_reads_L0] at h
    refine ev_aload_n dX12_reads_0 rfl ?_
    refine ev_aload_n dX12_reads_1 rfl ?_
    refine ev_getI fr_X12_188 shR_0 rfl dX12_reads_2 ?_
    obtain ⟨w2, hq1, h⟩ := bndO_t h
    refine ev_cVi mv_X12_191 dX12_reads_5 (c_X12_raw hq1) rfl shR_0 rfl rfl (Nat.le_of_ble_eq_true rfl) (by rfl) (Nat.le_of_ble_eq_true rfl) (Nat.le_of_ble_eq_true rfl) (Nat.le_of_ble_eq_true rfl) ?_
    refine ev_bipush (v := (32 : Int32)) dX12_reads_8 (by decide) ?_
    refine ev_icmp_eq (tgt := 26) dX12_reads_10 (by decide) (fun hc3 => ?_) (fun hc3 => ?_)
    · replace h := ite_t hc3 h
      exact ev_lt (f_X12_reads_j26_ok ih hk0_39 h) ⟨rfl, trivial⟩
    · replace h := ite_f hc3 h
      refine ev_aload_n dX12_reads_13 rfl ?_
      refine ev_aload_n dX12_reads_14 rfl ?_
      refine ev_getI fr_X12_188 shR_0 rfl dX12_reads_15 ?_
      obtain ⟨w6, hq5, h⟩ := bndO_t h
      refine ev_cVi mv_X12_191 dX12_reads_18 (c_X12_raw hq5) rfl shR_0 rfl rfl (Nat.le_of_ble_eq_true rfl) (by rfl) (Nat.le_of_ble_eq_true rfl) (Nat.le_of_ble_eq_true rfl) (Nat.le_of_ble_eq_true rfl) ?_
      refine ev_bipush (v := (10 : Int32)) dX12_reads_21 (by decide) ?_
      refine ev_icmp_ne (tgt := 39) dX12_reads_23 (by decide) (fun hc7 => ?_) (fun hc7 => ?_)
      · replace h := ite_f hc7 h
        exact ev_lt (hk0_39 _ h) ⟨rfl, trivial⟩
      · replace h := ite_t hc7 h
        exact ev_lt (f_X12_reads_j26_ok ih hk0_39 h) ⟨rfl, trivial⟩
def f_X12_reads_j223 (G : Nat) (r171 : Mem → Option Mem) (k171_239 : Mem → Option Mem) (s0 : Int32) (μ : Mem) : Option Mem :=
  (let m28 := wr μ 0 19 s0
  (let m29 := wr m28 0 16 ((m28 0 16) + (1 : Int32))
  r171  m29))
set_option maxHeartbeats 4000000 in
set_option maxRecDepth 100000 in
theorem f_X12_reads_j223_ok  {G : Nat} {μr : Mem}  {r171 : Mem → Option Mem} {k171_239 : Mem → Option Mem} (hr171 : ∀ (m : Mem), r171 m = some μr → Ev RX12 cX12_reads 2 none false 3 0 0 (eqP none shR μr) 171 [some (.ref 0), none] [] shR m 0 0) (hk171_239 : ∀ (m : Mem), k171_239 m = some μr → Ev RX12 cX12_reads 2 none false 3 0 0 (eqP none shR μr) 239 [some (.ref 0), none] [] shR m 0 0) {s0 : Int32} {μ : Mem} (h : f_X12_reads_j223 G r171 k171_239 s0 μ = some μr) : Ev RX12 cX12_reads 2 none false 3 0 0 (eqP none shR μr) 223 [some (.ref 0), none] [.int s0, .ref 0] shR μ 0 0 := by
  unfold f_X12_reads_j223 at h
  refine ev_putI fr_X12_201 shR_0 rfl rfl rfl dX12_reads_223 ?_
  refine ev_aload_n dX12_reads_226 rfl ?_
  refine ev_aload_n dX12_reads_227 rfl ?_
  refine ev_getI fr_X12_188 shR_0 rfl dX12_reads_228 ?_
  refine ev_iconst (v := (1 : Int32)) dX12_reads_231 (by decide) ?_
  refine ev_iadd dX12_reads_232 ?_
  refine ev_putI fr_X12_188 shR_0 rfl rfl rfl dX12_reads_233 ?_
  refine ev_goto (tgt := 171) dX12_reads_236 (by decide) ?_
  exact ev_lt (hr171 _ h) ⟨rfl, trivial⟩
def f_X12_reads_L171 (G : Nat) (k171_239 : Mem → Option Mem) : Nat → Mem → Option Mem
  | 0, _ => none
  | g + 1, μ =>
  bndO (f_X12_raw G μ (μ 0 16)) (fun w23 =>
  bndO (f_X12_isDigit G μ w23) (fun w25 =>
  (if w25 = (0 : Int32) then
  k171_239  μ
  else
  (if (10000 : Int32) ≤ (μ 0 19) then
  f_X12_reads_j223 G (f_X12_reads_L171 G k171_239 g) k171_239 (μ 0 19) μ
  else
  bndO (f_X12_raw G μ (μ 0 16)) (fun w31 =>
  f_X12_reads_j223 G (f_X12_reads_L171 G k171_239 g) k171_239 ((((10 : Int32) * (μ 0 19)) + w31) - (48 : Int32)) μ)))))
set_option maxHeartbeats 4000000 in
set_option maxRecDepth 100000 in
theorem f_X12_reads_L171_ok  {G : Nat} {μr : Mem}  {k171_239 : Mem → Option Mem} (hk171_239 : ∀ (m : Mem), k171_239 m = some μr → Ev RX12 cX12_reads 2 none false 3 0 0 (eqP none shR μr) 239 [some (.ref 0), none] [] shR m 0 0) : ∀ (g : Nat) (μ : Mem), f_X12_reads_L171 G k171_239 g μ = some μr → Ev RX12 cX12_reads 2 none false 3 0 0 (eqP none shR μr) 171 [some (.ref 0), none] [] shR μ 0 0 := by
  intro g
  induction g with
  | zero =>
    intro μ h
    cases h
  | succ g ih =>
    intro μ h
    rw [f_X12_reads_L171] at h
    refine ev_aload_n dX12_reads_171 rfl ?_
    refine ev_aload_n dX12_reads_172 rfl ?_
    refine ev_aload_n dX12_reads_173 rfl ?_
    refine ev_getI fr_X12_188 shR_0 rfl dX12_reads_174 ?_
    obtain ⟨w23, hq22, h⟩ := bndO_t h
    refine ev_cVi mv_X12_191 dX12_reads_177 (c_X12_raw hq22) rfl shR_0 rfl rfl (Nat.le_of_ble_eq_true rfl) (by rfl) (Nat.le_of_ble_eq_true rfl) (Nat.le_of_ble_eq_true rfl) (Nat.le_of_ble_eq_true rfl) ?_
    obtain ⟨w25, hq24, h⟩ := bndO_t h
    refine ev_cVi mv_X12_211 dX12_reads_180 (c_X12_isDigit hq24) rfl shR_0 rfl rfl (Nat.le_of_ble_eq_true rfl) (by rfl) (Nat.le_of_ble_eq_true rfl) (Nat.le_of_ble_eq_true rfl) (Nat.le_of_ble_eq_true rfl) ?_
    refine ev_if_eq (tgt := 239) dX12_reads_183 (by decide) (fun hc26 => ?_) (fun hc26 => ?_)
    · replace h := ite_t hc26 h
      exact ev_lt (hk171_239 _ h) ⟨rfl, trivial⟩
    · replace h := ite_f hc26 h
      refine ev_aload_n dX12_reads_186 rfl ?_
      refine ev_aload_n dX12_reads_187 rfl ?_
      refine ev_getI fr_X12_201 shR_0 rfl dX12_reads_188 ?_
      refine ev_sipush (v := (10000 : Int32)) dX12_reads_191 (by decide) ?_
      refine ev_icmp_ge (tgt := 219) dX12_reads_194 (by decide) (fun hc27 => ?_) (fun hc27 => ?_)
      · replace h := ite_t hc27 h
        refine ev_aload_n dX12_reads_219 rfl ?_
        refine ev_getI fr_X12_201 shR_0 rfl dX12_reads_220 ?_
        exact ev_lt (f_X12_reads_j223_ok ih hk171_239 h) ⟨rfl, trivial⟩
      · replace h := ite_f hc27 h
        refine ev_bipush (v := (10 : Int32)) dX12_reads_197 (by decide) ?_
        refine ev_aload_n dX12_reads_199 rfl ?_
        refine ev_getI fr_X12_201 shR_0 rfl dX12_reads_200 ?_
        refine ev_imul dX12_reads_203 ?_
        refine ev_aload_n dX12_reads_204 rfl ?_
        refine ev_aload_n dX12_reads_205 rfl ?_
        refine ev_getI fr_X12_188 shR_0 rfl dX12_reads_206 ?_
        obtain ⟨w31, hq30, h⟩ := bndO_t h
        refine ev_cVi mv_X12_191 dX12_reads_209 (c_X12_raw hq30) rfl shR_0 rfl rfl (Nat.le_of_ble_eq_true rfl) (by rfl) (Nat.le_of_ble_eq_true rfl) (Nat.le_of_ble_eq_true rfl) (Nat.le_of_ble_eq_true rfl) ?_
        refine ev_iadd dX12_reads_212 ?_
        refine ev_bipush (v := (48 : Int32)) dX12_reads_213 (by decide) ?_
        refine ev_isub dX12_reads_215 ?_
        refine ev_goto (tgt := 223) dX12_reads_216 (by decide) ?_
        exact ev_lt (f_X12_reads_j223_ok ih hk171_239 h) ⟨rfl, trivial⟩
def f_X12_reads_j239 (G : Nat)  (μ : Mem) : Option Mem :=
  (if (5 : Int32) ≤ ((μ 0 16) - (μ 0 17)) then
  some μ
  else
  (let m33 := wr μ 0 18 (3 : Int32)
  some m33))
set_option maxHeartbeats 4000000 in
set_option maxRecDepth 100000 in
theorem f_X12_reads_j239_ok  {G : Nat} {μr : Mem}    {μ : Mem} (h : f_X12_reads_j239 G μ = some μr) : Ev RX12 cX12_reads 2 none false 3 0 0 (eqP none shR μr) 239 [some (.ref 0), none] [] shR μ 0 0 := by
  unfold f_X12_reads_j239 at h
  refine ev_aload_n dX12_reads_239 rfl ?_
  refine ev_getI fr_X12_188 shR_0 rfl dX12_reads_240 ?_
  refine ev_aload_n dX12_reads_243 rfl ?_
  refine ev_getI fr_X12_195 shR_0 rfl dX12_reads_244 ?_
  refine ev_isub dX12_reads_247 ?_
  refine ev_iconst (v := (5 : Int32)) dX12_reads_248 (by decide) ?_
  refine ev_icmp_ge (tgt := 273) dX12_reads_249 (by decide) (fun hc32 => ?_) (fun hc32 => ?_)
  · replace h := ite_t hc32 h
    exact ev_vret rfl (by decide) (by decide) dX12_reads_273 (eqP_V h)
  · replace h := ite_f hc32 h
    refine ev_aload_n dX12_reads_252 rfl ?_
    refine ev_iconst (v := (3 : Int32)) dX12_reads_253 (by decide) ?_
    refine ev_putI fr_X12_198 shR_0 rfl rfl rfl dX12_reads_254 ?_
    refine ev_goto (tgt := 273) dX12_reads_257 (by decide) ?_
    exact ev_vret rfl (by decide) (by decide) dX12_reads_273 (eqP_V h)
def f_X12_reads_L95 (G : Nat) (k95_123 : Mem → Option Mem) : Nat → Mem → Option Mem
  | 0, _ => none
  | g + 1, μ =>
  bndO (f_X12_raw G μ (μ 0 16)) (fun w35 =>
  (if (f_X12_isLetter w35) = (0 : Int32) then
  k95_123  μ
  else
  (let m37 := wr μ 0 16 ((μ 0 16) + (1 : Int32))
  (f_X12_reads_L95 G k95_123 g)  m37)))
set_option maxHeartbeats 4000000 in
set_option maxRecDepth 100000 in
theorem f_X12_reads_L95_ok  {G : Nat} {μr : Mem}  {k95_123 : Mem → Option Mem} (hk95_123 : ∀ (m : Mem), k95_123 m = some μr → Ev RX12 cX12_reads 2 none false 3 0 0 (eqP none shR μr) 123 [some (.ref 0), none] [] shR m 0 0) : ∀ (g : Nat) (μ : Mem), f_X12_reads_L95 G k95_123 g μ = some μr → Ev RX12 cX12_reads 2 none false 3 0 0 (eqP none shR μr) 95 [some (.ref 0), none] [] shR μ 0 0 := by
  intro g
  induction g with
  | zero =>
    intro μ h
    cases h
  | succ g ih =>
    intro μ h
    rw [f_X12_reads_L95] at h
    refine ev_aload_n dX12_reads_95 rfl ?_
    refine ev_aload_n dX12_reads_96 rfl ?_
    refine ev_aload_n dX12_reads_97 rfl ?_
    refine ev_getI fr_X12_188 shR_0 rfl dX12_reads_98 ?_
    obtain ⟨w35, hq34, h⟩ := bndO_t h
    refine ev_cVi mv_X12_191 dX12_reads_101 (c_X12_raw hq34) rfl shR_0 rfl rfl (Nat.le_of_ble_eq_true rfl) (by rfl) (Nat.le_of_ble_eq_true rfl) (Nat.le_of_ble_eq_true rfl) (Nat.le_of_ble_eq_true rfl) ?_
    refine ev_cVi mv_X12_204 dX12_reads_104 c_X12_isLetter rfl shR_0 rfl rfl (Nat.le_of_ble_eq_true rfl) (by rfl) (Nat.le_of_ble_eq_true rfl) (Nat.le_of_ble_eq_true rfl) (Nat.le_of_ble_eq_true rfl) ?_
    refine ev_if_eq (tgt := 123) dX12_reads_107 (by decide) (fun hc36 => ?_) (fun hc36 => ?_)
    · replace h := ite_t hc36 h
      exact ev_lt (hk95_123 _ h) ⟨rfl, trivial⟩
    · replace h := ite_f hc36 h
      refine ev_aload_n dX12_reads_110 rfl ?_
      refine ev_aload_n dX12_reads_111 rfl ?_
      refine ev_getI fr_X12_188 shR_0 rfl dX12_reads_112 ?_
      refine ev_iconst (v := (1 : Int32)) dX12_reads_115 (by decide) ?_
      refine ev_iadd dX12_reads_116 ?_
      refine ev_putI fr_X12_188 shR_0 rfl rfl rfl dX12_reads_117 ?_
      refine ev_goto (tgt := 95) dX12_reads_120 (by decide) ?_
      exact ev_lt (ih _ h) ⟨rfl, trivial⟩
def f_X12_reads_j123 (G : Nat)  (μ : Mem) : Option Mem :=
  bndO (f_X12_wordAt G μ (μ 0 17) (μ 0 16)) (fun w39 =>
  (let m40 := wr μ 0 19 w39
  (if (m40 0 19) = (-1 : Int32) then
  some m40
  else
  (let m42 := wr m40 0 18 (2 : Int32)
  some m42))))
set_option maxHeartbeats 4000000 in
set_option maxRecDepth 100000 in
theorem f_X12_reads_j123_ok  {G : Nat} {μr : Mem}    {μ : Mem} (h : f_X12_reads_j123 G μ = some μr) : Ev RX12 cX12_reads 2 none false 3 0 0 (eqP none shR μr) 123 [some (.ref 0), none] [] shR μ 0 0 := by
  unfold f_X12_reads_j123 at h
  refine ev_aload_n dX12_reads_123 rfl ?_
  refine ev_aload_n dX12_reads_124 rfl ?_
  refine ev_aload_n dX12_reads_125 rfl ?_
  refine ev_getI fr_X12_195 shR_0 rfl dX12_reads_126 ?_
  refine ev_aload_n dX12_reads_129 rfl ?_
  refine ev_getI fr_X12_188 shR_0 rfl dX12_reads_130 ?_
  obtain ⟨w39, hq38, h⟩ := bndO_t h
  refine ev_cVi mv_X12_207 dX12_reads_133 (c_X12_wordAt hq38) rfl shR_0 rfl rfl (Nat.le_of_ble_eq_true rfl) (by rfl) (Nat.le_of_ble_eq_true rfl) (Nat.le_of_ble_eq_true rfl) (Nat.le_of_ble_eq_true rfl) ?_
  refine ev_putI fr_X12_201 shR_0 rfl rfl rfl dX12_reads_136 ?_
  refine ev_aload_n dX12_reads_139 rfl ?_
  refine ev_getI fr_X12_201 shR_0 rfl dX12_reads_140 ?_
  refine ev_iconst (v := (-1 : Int32)) dX12_reads_143 (by decide) ?_
  refine ev_icmp_eq (tgt := 273) dX12_reads_144 (by decide) (fun hc41 => ?_) (fun hc41 => ?_)
  · replace h := ite_t hc41 h
    exact ev_vret rfl (by decide) (by decide) dX12_reads_273 (eqP_V h)
  · replace h := ite_f hc41 h
    refine ev_aload_n dX12_reads_147 rfl ?_
    refine ev_iconst (v := (2 : Int32)) dX12_reads_148 (by decide) ?_
    refine ev_putI fr_X12_198 shR_0 rfl rfl rfl dX12_reads_149 ?_
    refine ev_goto (tgt := 273) dX12_reads_152 (by decide) ?_
    exact ev_vret rfl (by decide) (by decide) dX12_reads_273 (eqP_V h)
def f_X12_reads_j39 (G : Nat)  (μ : Mem) : Option Mem :=
  (let m8 := wr μ 0 17 (μ 0 16)
  (let m9 := wr m8 0 18 (1 : Int32)
  bndO (f_X12_raw G m9 (m9 0 16)) (fun w11 =>
  (if w11 = (-1 : Int32) then
  (let m43 := wr m9 0 18 (0 : Int32)
  some m43)
  else
  (let m13 := wr m9 0 16 ((m9 0 16) + (1 : Int32))
  (let m14 := wr m13 0 19 w11
  (if (f_X12_isLetter w11) = (0 : Int32) then
  bndO (f_X12_isDigit G m14 w11) (fun w17 =>
  (if w17 = (0 : Int32) then
  (if (f_X12_isMarkSign w11) = (0 : Int32) then
  some m14
  else
  (let m20 := wr m14 0 18 (4 : Int32)
  some m20))
  else
  (let m21 := wr m14 0 19 (w11 - (48 : Int32))
  f_X12_reads_L171 G (f_X12_reads_j239 G) G  m21)))
  else
  f_X12_reads_L95 G (f_X12_reads_j123 G) G  m14)))))))
set_option maxHeartbeats 4000000 in
set_option maxRecDepth 100000 in
theorem f_X12_reads_j39_ok  {G : Nat} {μr : Mem}    {μ : Mem} (h : f_X12_reads_j39 G μ = some μr) : Ev RX12 cX12_reads 2 none false 3 0 0 (eqP none shR μr) 39 [some (.ref 0), none] [] shR μ 0 0 := by
  unfold f_X12_reads_j39 at h
  refine ev_aload_n dX12_reads_39 rfl ?_
  refine ev_aload_n dX12_reads_40 rfl ?_
  refine ev_getI fr_X12_188 shR_0 rfl dX12_reads_41 ?_
  refine ev_putI fr_X12_195 shR_0 rfl rfl rfl dX12_reads_44 ?_
  refine ev_aload_n dX12_reads_47 rfl ?_
  refine ev_iconst (v := (1 : Int32)) dX12_reads_48 (by decide) ?_
  refine ev_putI fr_X12_198 shR_0 rfl rfl rfl dX12_reads_49 ?_
  refine ev_aload_n dX12_reads_52 rfl ?_
  refine ev_aload_n dX12_reads_53 rfl ?_
  refine ev_getI fr_X12_188 shR_0 rfl dX12_reads_54 ?_
  obtain ⟨w11, hq10, h⟩ := bndO_t h
  refine ev_cVi mv_X12_191 dX12_reads_57 (c_X12_raw hq10) rfl shR_0 rfl rfl (Nat.le_of_ble_eq_true rfl) (by rfl) (Nat.le_of_ble_eq_true rfl) (Nat.le_of_ble_eq_true rfl) (Nat.le_of_ble_eq_true rfl) ?_
  refine ev_istore_n (loc' := [_, _]) dX12_reads_60 rfl (by decide) (by rfl) ?_
  refine ev_iload_n dX12_reads_61 rfl ?_
  refine ev_iconst (v := (-1 : Int32)) dX12_reads_62 (by decide) ?_
  refine ev_icmp_ne (tgt := 72) dX12_reads_63 (by decide) (fun hc12 => ?_) (fun hc12 => ?_)
  · replace h := ite_f hc12 h
    refine ev_aload_n dX12_reads_72 rfl ?_
    refine ev_aload_n dX12_reads_73 rfl ?_
    refine ev_getI fr_X12_188 shR_0 rfl dX12_reads_74 ?_
    refine ev_iconst (v := (1 : Int32)) dX12_reads_77 (by decide) ?_
    refine ev_iadd dX12_reads_78 ?_
    refine ev_putI fr_X12_188 shR_0 rfl rfl rfl dX12_reads_79 ?_
    refine ev_aload_n dX12_reads_82 rfl ?_
    refine ev_iload_n dX12_reads_83 rfl ?_
    refine ev_putI fr_X12_201 shR_0 rfl rfl rfl dX12_reads_84 ?_
    refine ev_aload_n dX12_reads_87 rfl ?_
    refine ev_iload_n dX12_reads_88 rfl ?_
    refine ev_cVi mv_X12_204 dX12_reads_89 c_X12_isLetter rfl shR_0 rfl rfl (Nat.le_of_ble_eq_true rfl) (by rfl) (Nat.le_of_ble_eq_true rfl) (Nat.le_of_ble_eq_true rfl) (Nat.le_of_ble_eq_true rfl) ?_
    refine ev_if_eq (tgt := 155) dX12_reads_92 (by decide) (fun hc15 => ?_) (fun hc15 => ?_)
    · replace h := ite_t hc15 h
      refine ev_aload_n dX12_reads_155 rfl ?_
      refine ev_iload_n dX12_reads_156 rfl ?_
      obtain ⟨w17, hq16, h⟩ := bndO_t h
      refine ev_cVi mv_X12_211 dX12_reads_157 (c_X12_isDigit hq16) rfl shR_0 rfl rfl (Nat.le_of_ble_eq_true rfl) (by rfl) (Nat.le_of_ble_eq_true rfl) (Nat.le_of_ble_eq_true rfl) (Nat.le_of_ble_eq_true rfl) ?_
      refine ev_if_eq (tgt := 260) dX12_reads_160 (by decide) (fun hc18 => ?_) (fun hc18 => ?_)
      · replace h := ite_t hc18 h
        refine ev_aload_n dX12_reads_260 rfl ?_
        refine ev_iload_n dX12_reads_261 rfl ?_
        refine ev_cVi mv_X12_214 dX12_reads_262 c_X12_isMarkSign rfl shR_0 rfl rfl (Nat.le_of_ble_eq_true rfl) (by rfl) (Nat.le_of_ble_eq_true rfl) (Nat.le_of_ble_eq_true rfl) (Nat.le_of_ble_eq_true rfl) ?_
        refine ev_if_eq (tgt := 273) dX12_reads_265 (by decide) (fun hc19 => ?_) (fun hc19 => ?_)
        · replace h := ite_t hc19 h
          exact ev_vret rfl (by decide) (by decide) dX12_reads_273 (eqP_V h)
        · replace h := ite_f hc19 h
          refine ev_aload_n dX12_reads_268 rfl ?_
          refine ev_iconst (v := (4 : Int32)) dX12_reads_269 (by decide) ?_
          refine ev_putI fr_X12_198 shR_0 rfl rfl rfl dX12_reads_270 ?_
          exact ev_vret rfl (by decide) (by decide) dX12_reads_273 (eqP_V h)
      · replace h := ite_f hc18 h
        refine ev_aload_n dX12_reads_163 rfl ?_
        refine ev_iload_n dX12_reads_164 rfl ?_
        refine ev_bipush (v := (48 : Int32)) dX12_reads_165 (by decide) ?_
        refine ev_isub dX12_reads_167 ?_
        refine ev_putI fr_X12_201 shR_0 rfl rfl rfl dX12_reads_168 ?_
        exact ev_lt (f_X12_reads_L171_ok (fun _ hh => f_X12_reads_j239_ok hh) _ _ h) ⟨rfl, trivial⟩
    · replace h := ite_f hc15 h
      exact ev_lt (f_X12_reads_L95_ok (fun _ hh => f_X12_reads_j123_ok hh) _ _ h) ⟨rfl, trivial⟩
  · replace h := ite_t hc12 h
    refine ev_aload_n dX12_reads_66 rfl ?_
    refine ev_iconst (v := (0 : Int32)) dX12_reads_67 (by decide) ?_
    refine ev_putI fr_X12_198 shR_0 rfl rfl rfl dX12_reads_68 ?_
    exact ev_vret rfl (by decide) (by decide) dX12_reads_71 (eqP_V h)
def f_X12_reads (G : Nat) (μ : Mem) : Option Mem :=
  f_X12_reads_L0 G (f_X12_reads_j39 G) G  μ
set_option maxHeartbeats 4000000 in
set_option maxRecDepth 100000 in
theorem c_X12_reads  {G : Nat} {μ : Mem} {μr : Mem}  (h : f_X12_reads G μ = some μr) : Cn yX12_reads cX12_reads 2 none 3 0 0 [.ref 0] shR μ (eqP none shR μr) := by
  refine cn_of (own := RX12) (ini := false) (loc := [some (.ref 0), none]) rfl (by decide) (fun q => by cases q) (Nat.le_of_ble_eq_true rfl) (by rfl) rfl ?_
  unfold f_X12_reads at h
  exact ev_lt (f_X12_reads_L0_ok (fun _ hh => f_X12_reads_j39_ok hh) _ _ h) ⟨rfl, trivial⟩
def f_X12_errs (G : Nat) (p1 : Int32) (μ : Mem) : Option (Int32 × Mem) :=
  (let m1 := wr μ 0 33 p1
  (let m2 := wr m1 0 34 (m1 0 17)
  some ((-1 : Int32), m2)))
set_option maxHeartbeats 4000000 in
set_option maxRecDepth 100000 in
theorem c_X12_errs  {G : Nat} {μ : Mem} {p1 : Int32} {r : Int32} {μr : Mem}  (h : f_X12_errs G p1 μ = some (r, μr)) : Cn yX12_errs cX12_errs 2 (some .int) 1 0 0 [.ref 0, .int p1] shR μ (eqP (some r) shR μr) := by
  refine cn_of (own := RX12) (ini := false) (loc := [some (.ref 0), some (.int p1)]) rfl (by decide) (fun q => by cases q) (Nat.le_of_ble_eq_true rfl) (by rfl) rfl ?_
  unfold f_X12_errs at h
  refine ev_aload_n dX12_errs_0 rfl ?_
  refine ev_iload_n dX12_errs_1 rfl ?_
  refine ev_putI fr_X12_217 shR_0 rfl rfl rfl dX12_errs_2 ?_
  refine ev_aload_n dX12_errs_5 rfl ?_
  refine ev_aload_n dX12_errs_6 rfl ?_
  refine ev_getI fr_X12_195 shR_0 rfl dX12_errs_7 ?_
  refine ev_putI fr_X12_220 shR_0 rfl rfl rfl dX12_errs_10 ?_
  refine ev_iconst (v := (-1 : Int32)) dX12_errs_13 (by decide) ?_
  exact ev_iret rfl rfl (by decide) (by decide) dX12_errs_14 (eqP_E h)
def f_X12_isWord (μ : Mem) (p1 : Int32) : Int32 :=
  (if (μ 0 18) = (2 : Int32) then
  (if (μ 0 19) = p1 then
  (1 : Int32)
  else
  (0 : Int32))
  else
  (0 : Int32))
set_option maxHeartbeats 4000000 in
set_option maxRecDepth 100000 in
theorem c_X12_isWord  {μ : Mem}  {p1 : Int32}  : Cn yX12_isWord cX12_isWord 2 (some .boolean) 1 0 0 [.ref 0, .int p1] shR μ (eqP (some (f_X12_isWord μ p1)) shR μ) := by
  obtain ⟨r, h⟩ : ∃ r, f_X12_isWord μ p1 = r := ⟨_, rfl⟩
  rw [h]
  refine cn_of (own := RX12) (ini := false) (loc := [some (.ref 0), some (.int p1)]) rfl (by decide) (fun q => by cases q) (Nat.le_of_ble_eq_true rfl) (by rfl) rfl ?_
  unfold f_X12_isWord at h
  refine ev_aload_n dX12_isWord_0 rfl ?_
  refine ev_getI fr_X12_198 shR_0 rfl dX12_isWord_1 ?_
  refine ev_iconst (v := (2 : Int32)) dX12_isWord_4 (by decide) ?_
  refine ev_icmp_ne (tgt := 20) dX12_isWord_5 (by decide) (fun hc1 => ?_) (fun hc1 => ?_)
  · replace h := ite_f hc1 h
    refine ev_iconst (v := (0 : Int32)) dX12_isWord_20 (by decide) ?_
    exact ev_iret rfl rfl (by decide) (by decide) dX12_isWord_21 (eqP_P h)
  · replace h := ite_t hc1 h
    refine ev_aload_n dX12_isWord_8 rfl ?_
    refine ev_getI fr_X12_201 shR_0 rfl dX12_isWord_9 ?_
    refine ev_iload_n dX12_isWord_12 rfl ?_
    refine ev_icmp_ne (tgt := 20) dX12_isWord_13 (by decide) (fun hc2 => ?_) (fun hc2 => ?_)
    · replace h := ite_f hc2 h
      refine ev_iconst (v := (0 : Int32)) dX12_isWord_20 (by decide) ?_
      exact ev_iret rfl rfl (by decide) (by decide) dX12_isWord_21 (eqP_P h)
    · replace h := ite_t hc2 h
      refine ev_iconst (v := (1 : Int32)) dX12_isWord_16 (by decide) ?_
      refine ev_goto (tgt := 21) dX12_isWord_17 (by decide) ?_
      exact ev_iret rfl rfl (by decide) (by decide) dX12_isWord_21 (eqP_P h)
def f_X12_isSign (μ : Mem) (p1 : Int32) : Int32 :=
  (if (μ 0 18) = (4 : Int32) then
  (if (μ 0 19) = p1 then
  (1 : Int32)
  else
  (0 : Int32))
  else
  (0 : Int32))
set_option maxHeartbeats 4000000 in
set_option maxRecDepth 100000 in
theorem c_X12_isSign  {μ : Mem}  {p1 : Int32}  : Cn yX12_isSign cX12_isSign 2 (some .boolean) 1 0 0 [.ref 0, .int p1] shR μ (eqP (some (f_X12_isSign μ p1)) shR μ) := by
  obtain ⟨r, h⟩ : ∃ r, f_X12_isSign μ p1 = r := ⟨_, rfl⟩
  rw [h]
  refine cn_of (own := RX12) (ini := false) (loc := [some (.ref 0), some (.int p1)]) rfl (by decide) (fun q => by cases q) (Nat.le_of_ble_eq_true rfl) (by rfl) rfl ?_
  unfold f_X12_isSign at h
  refine ev_aload_n dX12_isSign_0 rfl ?_
  refine ev_getI fr_X12_198 shR_0 rfl dX12_isSign_1 ?_
  refine ev_iconst (v := (4 : Int32)) dX12_isSign_4 (by decide) ?_
  refine ev_icmp_ne (tgt := 20) dX12_isSign_5 (by decide) (fun hc1 => ?_) (fun hc1 => ?_)
  · replace h := ite_f hc1 h
    refine ev_iconst (v := (0 : Int32)) dX12_isSign_20 (by decide) ?_
    exact ev_iret rfl rfl (by decide) (by decide) dX12_isSign_21 (eqP_P h)
  · replace h := ite_t hc1 h
    refine ev_aload_n dX12_isSign_8 rfl ?_
    refine ev_getI fr_X12_201 shR_0 rfl dX12_isSign_9 ?_
    refine ev_iload_n dX12_isSign_12 rfl ?_
    refine ev_icmp_ne (tgt := 20) dX12_isSign_13 (by decide) (fun hc2 => ?_) (fun hc2 => ?_)
    · replace h := ite_f hc2 h
      refine ev_iconst (v := (0 : Int32)) dX12_isSign_20 (by decide) ?_
      exact ev_iret rfl rfl (by decide) (by decide) dX12_isSign_21 (eqP_P h)
    · replace h := ite_t hc2 h
      refine ev_iconst (v := (1 : Int32)) dX12_isSign_16 (by decide) ?_
      refine ev_goto (tgt := 21) dX12_isSign_17 (by decide) ?_
      exact ev_iret rfl rfl (by decide) (by decide) dX12_isSign_21 (eqP_P h)
def f_X12_emits (G : Nat) (p1 p2 : Int32) (μ : Mem) : Option Mem :=
  chk ((800 : Int32) + (μ 0 29)) 1200 (let m1 := wr μ 17 (ix ((800 : Int32) + (μ 0 29))) p1
  chk ((800 : Int32) + (m1 0 29)) 1200 (let m3 := wr m1 18 (ix ((800 : Int32) + (m1 0 29))) p2
  (let m5 := wr m3 0 29 ((m3 0 29) + (1 : Int32))
  some m5)))
set_option maxHeartbeats 4000000 in
set_option maxRecDepth 100000 in
theorem c_X12_emits  {G : Nat} {μ : Mem} {p1 p2 : Int32} {μr : Mem}  (h : f_X12_emits G p1 p2 μ = some μr) : Cn yX12_emits cX12_emits 3 none 1 0 0 [.ref 0, .int p1, .int p2] shR μ (eqP none shR μr) := by
  refine cn_of (own := RX12) (ini := false) (loc := [some (.ref 0), some (.int p1), some (.int p2)]) rfl (by decide) (fun q => by cases q) (Nat.le_of_ble_eq_true rfl) (by rfl) rfl ?_
  unfold f_X12_emits at h
  refine ev_aload_n dX12_emits_0 rfl ?_
  refine ev_getR fr_X12_58 shR_0 rfl dX12_emits_1 ?_
  refine ev_sipush (v := (800 : Int32)) dX12_emits_4 (by decide) ?_
  refine ev_aload_n dX12_emits_7 rfl ?_
  refine ev_getI fr_X12_223 shR_0 rfl dX12_emits_8 ?_
  refine ev_iadd dX12_emits_11 ?_
  refine ev_iload_n dX12_emits_12 rfl ?_
  obtain ⟨hi2, h⟩ := chk_t h
  refine ev_iast shR_17 hi2 dX12_emits_13 ?_
  refine ev_aload_n dX12_emits_14 rfl ?_
  refine ev_getR fr_X12_61 shR_0 rfl dX12_emits_15 ?_
  refine ev_sipush (v := (800 : Int32)) dX12_emits_18 (by decide) ?_
  refine ev_aload_n dX12_emits_21 rfl ?_
  refine ev_getI fr_X12_223 shR_0 rfl dX12_emits_22 ?_
  refine ev_iadd dX12_emits_25 ?_
  refine ev_iload_n dX12_emits_26 rfl ?_
  obtain ⟨hi4, h⟩ := chk_t h
  refine ev_iast shR_18 hi4 dX12_emits_27 ?_
  refine ev_aload_n dX12_emits_28 rfl ?_
  refine ev_aload_n dX12_emits_29 rfl ?_
  refine ev_getI fr_X12_223 shR_0 rfl dX12_emits_30 ?_
  refine ev_iconst (v := (1 : Int32)) dX12_emits_33 (by decide) ?_
  refine ev_iadd dX12_emits_34 ?_
  refine ev_putI fr_X12_223 shR_0 rfl rfl rfl dX12_emits_35 ?_
  exact ev_vret rfl (by decide) (by decide) dX12_emits_38 (eqP_V h)
def f_X12_canAsk (G : Nat) (μ : Mem) (p1 : Int32) : Option Int32 :=
  bkk (f_X12_isIn p1 (7 : Int32) (17 : Int32)) (some (f_X12_isIn p1 (7 : Int32) (17 : Int32)))
set_option maxHeartbeats 4000000 in
set_option maxRecDepth 100000 in
theorem c_X12_canAsk  {G : Nat} {μ : Mem}  {p1 : Int32} {r : Int32}  (h : f_X12_canAsk G μ p1 = some r) : Cn yX12_canAsk cX12_canAsk 2 (some .boolean) 2 0 0 [.ref 0, .int p1] shR μ (eqP (some r) shR μ) := by
  refine cn_of (own := RX12) (ini := false) (loc := [some (.ref 0), some (.int p1)]) rfl (by decide) (fun q => by cases q) (Nat.le_of_ble_eq_true rfl) (by rfl) rfl ?_
  unfold f_X12_canAsk at h
  refine ev_aload_n dX12_canAsk_0 rfl ?_
  refine ev_iload_n dX12_canAsk_1 rfl ?_
  refine ev_bipush (v := (7 : Int32)) dX12_canAsk_2 (by decide) ?_
  refine ev_bipush (v := (17 : Int32)) dX12_canAsk_4 (by decide) ?_
  refine ev_cVi mv_X12_167 dX12_canAsk_6 c_X12_isIn rfl shR_0 rfl rfl (Nat.le_of_ble_eq_true rfl) (by rfl) (Nat.le_of_ble_eq_true rfl) (Nat.le_of_ble_eq_true rfl) (Nat.le_of_ble_eq_true rfl) ?_
  obtain ⟨hz1, h⟩ := bkk_t h
  exact ev_iret rfl (nzb hz1) (by decide) (by decide) dX12_canAsk_9 (eqP_O h)
def f_X12_readUnit_j53 (G : Nat)  (v1 s0 : Int32) (μ : Mem) : Option (Int32 × Mem) :=
  (if v1 = (0 : Int32) then
  bndV (f_X12_emits G s0 (μ 0 19) μ) (fun m6 =>
  bndV (f_X12_reads G m6) (fun m8 =>
  some ((0 : Int32), m8)))
  else
  bndV (f_X12_emits G s0 ((μ 0 19) - (7 : Int32)) μ) (fun m10 =>
  bndV (f_X12_reads G m10) (fun m12 =>
  some ((0 : Int32), m12))))
set_option maxHeartbeats 4000000 in
set_option maxRecDepth 100000 in
theorem f_X12_readUnit_j53_ok  {G : Nat} {r : Int32} {μr : Mem}    {v1 s0 : Int32} {μ : Mem} (h : f_X12_readUnit_j53 G v1 s0 μ = some (r, μr)) : Ev RX12 cX12_readUnit 2 (some .int) false 4 0 0 (eqP (some r) shR μr) 53 [some (.ref 0), some (.int v1)] [.int s0, .ref 0] shR μ 0 0 := by
  unfold f_X12_readUnit_j53 at h
  refine ev_iload_n dX12_readUnit_53 rfl ?_
  refine ev_if_eq (tgt := 67) dX12_readUnit_54 (by decide) (fun hc4 => ?_) (fun hc4 => ?_)
  · replace h := ite_t hc4 h
    refine ev_aload_n dX12_readUnit_67 rfl ?_
    refine ev_getI fr_X12_201 shR_0 rfl dX12_readUnit_68 ?_
    obtain ⟨m6, hq5, h⟩ := bndV_t h
    refine ev_cVv mv_X12_232 dX12_readUnit_71 (c_X12_emits hq5) rfl shR_0 rfl rfl (Nat.le_of_ble_eq_true rfl) (by rfl) (Nat.le_of_ble_eq_true rfl) (Nat.le_of_ble_eq_true rfl) (Nat.le_of_ble_eq_true rfl) ?_
    refine ev_aload_n dX12_readUnit_74 rfl ?_
    obtain ⟨m8, hq7, h⟩ := bndV_t h
    refine ev_cVv mv_X12_236 dX12_readUnit_75 (c_X12_reads hq7) rfl shR_0 rfl rfl (Nat.le_of_ble_eq_true rfl) (by rfl) (Nat.le_of_ble_eq_true rfl) (Nat.le_of_ble_eq_true rfl) (Nat.le_of_ble_eq_true rfl) ?_
    refine ev_iconst (v := (0 : Int32)) dX12_readUnit_78 (by decide) ?_
    exact ev_iret rfl rfl (by decide) (by decide) dX12_readUnit_79 (eqP_E h)
  · replace h := ite_f hc4 h
    refine ev_aload_n dX12_readUnit_57 rfl ?_
    refine ev_getI fr_X12_201 shR_0 rfl dX12_readUnit_58 ?_
    refine ev_bipush (v := (7 : Int32)) dX12_readUnit_61 (by decide) ?_
    refine ev_isub dX12_readUnit_63 ?_
    refine ev_goto (tgt := 71) dX12_readUnit_64 (by decide) ?_
    obtain ⟨m10, hq9, h⟩ := bndV_t h
    refine ev_cVv mv_X12_232 dX12_readUnit_71 (c_X12_emits hq9) rfl shR_0 rfl rfl (Nat.le_of_ble_eq_true rfl) (by rfl) (Nat.le_of_ble_eq_true rfl) (Nat.le_of_ble_eq_true rfl) (Nat.le_of_ble_eq_true rfl) ?_
    refine ev_aload_n dX12_readUnit_74 rfl ?_
    obtain ⟨m12, hq11, h⟩ := bndV_t h
    refine ev_cVv mv_X12_236 dX12_readUnit_75 (c_X12_reads hq11) rfl shR_0 rfl rfl (Nat.le_of_ble_eq_true rfl) (by rfl) (Nat.le_of_ble_eq_true rfl) (Nat.le_of_ble_eq_true rfl) (Nat.le_of_ble_eq_true rfl) ?_
    refine ev_iconst (v := (0 : Int32)) dX12_readUnit_78 (by decide) ?_
    exact ev_iret rfl rfl (by decide) (by decide) dX12_readUnit_79 (eqP_E h)
def f_X12_readUnit_j43 (G : Nat)  (v1 : Int32) (μ : Mem) : Option (Int32 × Mem) :=
  (if v1 = (0 : Int32) then
  f_X12_readUnit_j53 G v1 (0 : Int32) μ
  else
  f_X12_readUnit_j53 G v1 (1 : Int32) μ)
set_option maxHeartbeats 4000000 in
set_option maxRecDepth 100000 in
theorem f_X12_readUnit_j43_ok  {G : Nat} {r : Int32} {μr : Mem}    {v1 : Int32} {μ : Mem} (h : f_X12_readUnit_j43 G v1 μ = some (r, μr)) : Ev RX12 cX12_readUnit 2 (some .int) false 4 0 0 (eqP (some r) shR μr) 43 [some (.ref 0), some (.int v1)] [] shR μ 0 0 := by
  unfold f_X12_readUnit_j43 at h
  refine ev_aload_n dX12_readUnit_43 rfl ?_
  refine ev_iload_n dX12_readUnit_44 rfl ?_
  refine ev_if_eq (tgt := 52) dX12_readUnit_45 (by decide) (fun hc3 => ?_) (fun hc3 => ?_)
  · replace h := ite_t hc3 h
    refine ev_iconst (v := (0 : Int32)) dX12_readUnit_52 (by decide) ?_
    exact ev_lt (f_X12_readUnit_j53_ok h) ⟨rfl, ⟨rfl, trivial⟩⟩
  · replace h := ite_f hc3 h
    refine ev_iconst (v := (1 : Int32)) dX12_readUnit_48 (by decide) ?_
    refine ev_goto (tgt := 53) dX12_readUnit_49 (by decide) ?_
    exact ev_lt (f_X12_readUnit_j53_ok h) ⟨rfl, ⟨rfl, trivial⟩⟩
def f_X12_readUnit_j24 (G : Nat)  (s0 : Int32) (μ : Mem) : Option (Int32 × Mem) :=
  (if s0 = (0 : Int32) then
  (if (μ 0 18) = (3 : Int32) then
  f_X12_readUnit_j43 G s0 μ
  else
  bndE (f_X12_errs G (1 : Int32) μ) (fun w16 m15 =>
  some (w16, m15)))
  else
  f_X12_readUnit_j43 G s0 μ)
set_option maxHeartbeats 4000000 in
set_option maxRecDepth 100000 in
theorem f_X12_readUnit_j24_ok  {G : Nat} {r : Int32} {μr : Mem}    {s0 : Int32} {μ : Mem} (h : f_X12_readUnit_j24 G s0 μ = some (r, μr)) : Ev RX12 cX12_readUnit 2 (some .int) false 4 0 0 (eqP (some r) shR μr) 24 [some (.ref 0), none] [.int s0] shR μ 0 0 := by
  unfold f_X12_readUnit_j24 at h
  refine ev_istore_n (loc' := [_, _]) dX12_readUnit_24 rfl (by decide) (by rfl) ?_
  refine ev_iload_n dX12_readUnit_25 rfl ?_
  refine ev_if_ne (tgt := 43) dX12_readUnit_26 (by decide) (fun hc2 => ?_) (fun hc2 => ?_)
  · replace h := ite_f hc2 h
    exact ev_lt (f_X12_readUnit_j43_ok h) ⟨rfl, ⟨rfl, trivial⟩⟩
  · replace h := ite_t hc2 h
    refine ev_aload_n dX12_readUnit_29 rfl ?_
    refine ev_getI fr_X12_198 shR_0 rfl dX12_readUnit_30 ?_
    refine ev_iconst (v := (3 : Int32)) dX12_readUnit_33 (by decide) ?_
    refine ev_icmp_eq (tgt := 43) dX12_readUnit_34 (by decide) (fun hc13 => ?_) (fun hc13 => ?_)
    · replace h := ite_t hc13 h
      exact ev_lt (f_X12_readUnit_j43_ok h) ⟨rfl, ⟨rfl, trivial⟩⟩
    · replace h := ite_f hc13 h
      refine ev_aload_n dX12_readUnit_37 rfl ?_
      refine ev_iconst (v := (1 : Int32)) dX12_readUnit_38 (by decide) ?_
      obtain ⟨w16, m15, hq14, h⟩ := bndE_t h
      refine ev_cVi mv_X12_229 dX12_readUnit_39 (c_X12_errs hq14) rfl shR_0 rfl rfl (Nat.le_of_ble_eq_true rfl) (by rfl) (Nat.le_of_ble_eq_true rfl) (Nat.le_of_ble_eq_true rfl) (Nat.le_of_ble_eq_true rfl) ?_
      exact ev_iret rfl rfl (by decide) (by decide) dX12_readUnit_42 (eqP_E h)
def f_X12_readUnit_j23 (G : Nat)  (μ : Mem) : Option (Int32 × Mem) :=
  f_X12_readUnit_j24 G (0 : Int32) μ
set_option maxHeartbeats 4000000 in
set_option maxRecDepth 100000 in
theorem f_X12_readUnit_j23_ok  {G : Nat} {r : Int32} {μr : Mem}    {μ : Mem} (h : f_X12_readUnit_j23 G μ = some (r, μr)) : Ev RX12 cX12_readUnit 2 (some .int) false 4 0 0 (eqP (some r) shR μr) 23 [some (.ref 0), none] [] shR μ 0 0 := by
  unfold f_X12_readUnit_j23 at h
  refine ev_iconst (v := (0 : Int32)) dX12_readUnit_23 (by decide) ?_
  exact ev_lt (f_X12_readUnit_j24_ok h) ⟨rfl, trivial⟩
def f_X12_readUnit (G : Nat) (μ : Mem) : Option (Int32 × Mem) :=
  (if (μ 0 18) = (2 : Int32) then
  bndO (f_X12_canAsk G μ (μ 0 19)) (fun w18 =>
  (if w18 = (0 : Int32) then
  f_X12_readUnit_j23 G  μ
  else
  f_X12_readUnit_j24 G (1 : Int32) μ))
  else
  f_X12_readUnit_j23 G  μ)
set_option maxHeartbeats 4000000 in
set_option maxRecDepth 100000 in
theorem c_X12_readUnit  {G : Nat} {μ : Mem} {r : Int32} {μr : Mem}  (h : f_X12_readUnit G μ = some (r, μr)) : Cn yX12_readUnit cX12_readUnit 2 (some .int) 4 0 0 [.ref 0] shR μ (eqP (some r) shR μr) := by
  refine cn_of (own := RX12) (ini := false) (loc := [some (.ref 0), none]) rfl (by decide) (fun q => by cases q) (Nat.le_of_ble_eq_true rfl) (by rfl) rfl ?_
  unfold f_X12_readUnit at h
  refine ev_aload_n dX12_readUnit_0 rfl ?_
  refine ev_getI fr_X12_198 shR_0 rfl dX12_readUnit_1 ?_
  refine ev_iconst (v := (2 : Int32)) dX12_readUnit_4 (by decide) ?_
  refine ev_icmp_ne (tgt := 23) dX12_readUnit_5 (by decide) (fun hc1 => ?_) (fun hc1 => ?_)
  · replace h := ite_f hc1 h
    exact ev_lt (f_X12_readUnit_j23_ok h) ⟨rfl, trivial⟩
  · replace h := ite_t hc1 h
    refine ev_aload_n dX12_readUnit_8 rfl ?_
    refine ev_aload_n dX12_readUnit_9 rfl ?_
    refine ev_getI fr_X12_201 shR_0 rfl dX12_readUnit_10 ?_
    obtain ⟨w18, hq17, h⟩ := bndO_t h
    refine ev_cVi mv_X12_226 dX12_readUnit_13 (c_X12_canAsk hq17) rfl shR_0 rfl rfl (Nat.le_of_ble_eq_true rfl) (by rfl) (Nat.le_of_ble_eq_true rfl) (Nat.le_of_ble_eq_true rfl) (Nat.le_of_ble_eq_true rfl) ?_
    refine ev_if_eq (tgt := 23) dX12_readUnit_16 (by decide) (fun hc19 => ?_) (fun hc19 => ?_)
    · replace h := ite_t hc19 h
      exact ev_lt (f_X12_readUnit_j23_ok h) ⟨rfl, trivial⟩
    · replace h := ite_f hc19 h
      refine ev_iconst (v := (1 : Int32)) dX12_readUnit_19 (by decide) ?_
      refine ev_goto (tgt := 24) dX12_readUnit_20 (by decide) ?_
      exact ev_lt (f_X12_readUnit_j24_ok h) ⟨rfl, trivial⟩
def f_X12_readProduct_j94 (G : Nat) (r10 : Mem → Option (Int32 × Mem)) (s0 : Int32) (μ : Mem) : Option (Int32 × Mem) :=
  bndV (f_X12_emits G s0 (0 : Int32) μ) (fun m16 =>
  r10  m16)
set_option maxHeartbeats 4000000 in
set_option maxRecDepth 100000 in
theorem f_X12_readProduct_j94_ok  {G : Nat} {r : Int32} {μr : Mem}  {r10 : Mem → Option (Int32 × Mem)} (hr10 : ∀ (m : Mem), r10 m = some (r, μr) → Ev RX12 cX12_readProduct 2 (some .int) false 5 0 0 (eqP (some r) shR μr) 10 [some (.ref 0), none] [] shR m 0 0) {s0 : Int32} {μ : Mem} (h : f_X12_readProduct_j94 G r10 s0 μ = some (r, μr)) : Ev RX12 cX12_readProduct 2 (some .int) false 5 0 0 (eqP (some r) shR μr) 94 [some (.ref 0), none] [.int s0, .ref 0] shR μ 0 0 := by
  unfold f_X12_readProduct_j94 at h
  refine ev_iconst (v := (0 : Int32)) dX12_readProduct_94 (by decide) ?_
  obtain ⟨m16, hq15, h⟩ := bndV_t h
  refine ev_cVv mv_X12_232 dX12_readProduct_95 (c_X12_emits hq15) rfl shR_0 rfl rfl (Nat.le_of_ble_eq_true rfl) (by rfl) (Nat.le_of_ble_eq_true rfl) (Nat.le_of_ble_eq_true rfl) (Nat.le_of_ble_eq_true rfl) ?_
  refine ev_goto (tgt := 10) dX12_readProduct_98 (by decide) ?_
  exact ev_lt (hr10 _ h) ⟨rfl, trivial⟩
def f_X12_readProduct_j74 (G : Nat) (r10 : Mem → Option (Int32 × Mem)) (v1 : Int32) (μ : Mem) : Option (Int32 × Mem) :=
  bndE (f_X12_readUnit G μ) (fun w12 m11 =>
  (if w12 = (-1 : Int32) then
  some ((-1 : Int32), m11)
  else
  (if v1 = (0 : Int32) then
  f_X12_readProduct_j94 G r10 (5 : Int32) m11
  else
  f_X12_readProduct_j94 G r10 (4 : Int32) m11)))
set_option maxHeartbeats 4000000 in
set_option maxRecDepth 100000 in
theorem f_X12_readProduct_j74_ok  {G : Nat} {r : Int32} {μr : Mem}  {r10 : Mem → Option (Int32 × Mem)} (hr10 : ∀ (m : Mem), r10 m = some (r, μr) → Ev RX12 cX12_readProduct 2 (some .int) false 5 0 0 (eqP (some r) shR μr) 10 [some (.ref 0), none] [] shR m 0 0) {v1 : Int32} {μ : Mem} (h : f_X12_readProduct_j74 G r10 v1 μ = some (r, μr)) : Ev RX12 cX12_readProduct 2 (some .int) false 5 0 0 (eqP (some r) shR μr) 74 [some (.ref 0), some (.int v1)] [] shR μ 0 0 := by
  unfold f_X12_readProduct_j74 at h
  refine ev_aload_n dX12_readProduct_74 rfl ?_
  obtain ⟨w12, m11, hq10, h⟩ := bndE_t h
  refine ev_cVi mv_X12_239 dX12_readProduct_75 (c_X12_readUnit hq10) rfl shR_0 rfl rfl (Nat.le_of_ble_eq_true rfl) (by rfl) (Nat.le_of_ble_eq_true rfl) (Nat.le_of_ble_eq_true rfl) (Nat.le_of_ble_eq_true rfl) ?_
  refine ev_iconst (v := (-1 : Int32)) dX12_readProduct_78 (by decide) ?_
  refine ev_icmp_ne (tgt := 84) dX12_readProduct_79 (by decide) (fun hc13 => ?_) (fun hc13 => ?_)
  · replace h := ite_f hc13 h
    refine ev_aload_n dX12_readProduct_84 rfl ?_
    refine ev_iload_n dX12_readProduct_85 rfl ?_
    refine ev_if_eq (tgt := 93) dX12_readProduct_86 (by decide) (fun hc14 => ?_) (fun hc14 => ?_)
    · replace h := ite_t hc14 h
      refine ev_iconst (v := (5 : Int32)) dX12_readProduct_93 (by decide) ?_
      exact ev_lt (f_X12_readProduct_j94_ok hr10 h) ⟨rfl, trivial⟩
    · replace h := ite_f hc14 h
      refine ev_iconst (v := (4 : Int32)) dX12_readProduct_89 (by decide) ?_
      refine ev_goto (tgt := 94) dX12_readProduct_90 (by decide) ?_
      exact ev_lt (f_X12_readProduct_j94_ok hr10 h) ⟨rfl, trivial⟩
  · replace h := ite_t hc13 h
    refine ev_iconst (v := (-1 : Int32)) dX12_readProduct_82 (by decide) ?_
    exact ev_iret rfl rfl (by decide) (by decide) dX12_readProduct_83 (eqP_E h)
def f_X12_readProduct_j57 (G : Nat) (r10 : Mem → Option (Int32 × Mem)) (v1 : Int32) (μ : Mem) : Option (Int32 × Mem) :=
  (if v1 = (0 : Int32) then
  (if (μ 0 19) = (0 : Int32) then
  bndE (f_X12_errs G (2 : Int32) μ) (fun w20 m19 =>
  some (w20, m19))
  else
  f_X12_readProduct_j74 G r10 v1 μ)
  else
  f_X12_readProduct_j74 G r10 v1 μ)
set_option maxHeartbeats 4000000 in
set_option maxRecDepth 100000 in
theorem f_X12_readProduct_j57_ok  {G : Nat} {r : Int32} {μr : Mem}  {r10 : Mem → Option (Int32 × Mem)} (hr10 : ∀ (m : Mem), r10 m = some (r, μr) → Ev RX12 cX12_readProduct 2 (some .int) false 5 0 0 (eqP (some r) shR μr) 10 [some (.ref 0), none] [] shR m 0 0) {v1 : Int32} {μ : Mem} (h : f_X12_readProduct_j57 G r10 v1 μ = some (r, μr)) : Ev RX12 cX12_readProduct 2 (some .int) false 5 0 0 (eqP (some r) shR μr) 57 [some (.ref 0), some (.int v1)] [] shR μ 0 0 := by
  unfold f_X12_readProduct_j57 at h
  refine ev_iload_n dX12_readProduct_57 rfl ?_
  refine ev_if_ne (tgt := 74) dX12_readProduct_58 (by decide) (fun hc9 => ?_) (fun hc9 => ?_)
  · replace h := ite_f hc9 h
    exact ev_lt (f_X12_readProduct_j74_ok hr10 h) ⟨rfl, ⟨rfl, trivial⟩⟩
  · replace h := ite_t hc9 h
    refine ev_aload_n dX12_readProduct_61 rfl ?_
    refine ev_getI fr_X12_201 shR_0 rfl dX12_readProduct_62 ?_
    refine ev_if_ne (tgt := 74) dX12_readProduct_65 (by decide) (fun hc17 => ?_) (fun hc17 => ?_)
    · replace h := ite_f hc17 h
      exact ev_lt (f_X12_readProduct_j74_ok hr10 h) ⟨rfl, ⟨rfl, trivial⟩⟩
    · replace h := ite_t hc17 h
      refine ev_aload_n dX12_readProduct_68 rfl ?_
      refine ev_iconst (v := (2 : Int32)) dX12_readProduct_69 (by decide) ?_
      obtain ⟨w20, m19, hq18, h⟩ := bndE_t h
      refine ev_cVi mv_X12_229 dX12_readProduct_70 (c_X12_errs hq18) rfl shR_0 rfl rfl (Nat.le_of_ble_eq_true rfl) (by rfl) (Nat.le_of_ble_eq_true rfl) (Nat.le_of_ble_eq_true rfl) (Nat.le_of_ble_eq_true rfl) ?_
      exact ev_iret rfl rfl (by decide) (by decide) dX12_readProduct_73 (eqP_E h)
def f_X12_readProduct_j28 (G : Nat) (r10 : Mem → Option (Int32 × Mem)) (μ : Mem) : Option (Int32 × Mem) :=
  bndV (f_X12_reads G μ) (fun m7 =>
  (if (f_X12_isSign μ (42 : Int32)) = (0 : Int32) then
  (if (m7 0 18) = (3 : Int32) then
  f_X12_readProduct_j57 G r10 (f_X12_isSign μ (42 : Int32)) m7
  else
  bndE (f_X12_errs G (1 : Int32) m7) (fun w24 m23 =>
  some (w24, m23)))
  else
  f_X12_readProduct_j57 G r10 (f_X12_isSign μ (42 : Int32)) m7))
set_option maxHeartbeats 4000000 in
set_option maxRecDepth 100000 in
theorem f_X12_readProduct_j28_ok  {G : Nat} {r : Int32} {μr : Mem}  {r10 : Mem → Option (Int32 × Mem)} (hr10 : ∀ (m : Mem), r10 m = some (r, μr) → Ev RX12 cX12_readProduct 2 (some .int) false 5 0 0 (eqP (some r) shR μr) 10 [some (.ref 0), none] [] shR m 0 0) {μ : Mem} (h : f_X12_readProduct_j28 G r10 μ = some (r, μr)) : Ev RX12 cX12_readProduct 2 (some .int) false 5 0 0 (eqP (some r) shR μr) 28 [some (.ref 0), none] [] shR μ 0 0 := by
  unfold f_X12_readProduct_j28 at h
  refine ev_aload_n dX12_readProduct_28 rfl ?_
  refine ev_bipush (v := (42 : Int32)) dX12_readProduct_29 (by decide) ?_
  refine ev_cVi mv_X12_243 dX12_readProduct_31 c_X12_isSign rfl shR_0 rfl rfl (Nat.le_of_ble_eq_true rfl) (by rfl) (Nat.le_of_ble_eq_true rfl) (Nat.le_of_ble_eq_true rfl) (Nat.le_of_ble_eq_true rfl) ?_
  refine ev_istore_n (loc' := [_, _]) dX12_readProduct_34 rfl (by decide) (by rfl) ?_
  refine ev_aload_n dX12_readProduct_35 rfl ?_
  obtain ⟨m7, hq6, h⟩ := bndV_t h
  refine ev_cVv mv_X12_236 dX12_readProduct_36 (c_X12_reads hq6) rfl shR_0 rfl rfl (Nat.le_of_ble_eq_true rfl) (by rfl) (Nat.le_of_ble_eq_true rfl) (Nat.le_of_ble_eq_true rfl) (Nat.le_of_ble_eq_true rfl) ?_
  refine ev_iload_n dX12_readProduct_39 rfl ?_
  refine ev_if_ne (tgt := 57) dX12_readProduct_40 (by decide) (fun hc8 => ?_) (fun hc8 => ?_)
  · replace h := ite_f hc8 h
    exact ev_lt (f_X12_readProduct_j57_ok hr10 h) ⟨rfl, ⟨rfl, trivial⟩⟩
  · replace h := ite_t hc8 h
    refine ev_aload_n dX12_readProduct_43 rfl ?_
    refine ev_getI fr_X12_198 shR_0 rfl dX12_readProduct_44 ?_
    refine ev_iconst (v := (3 : Int32)) dX12_readProduct_47 (by decide) ?_
    refine ev_icmp_eq (tgt := 57) dX12_readProduct_48 (by decide) (fun hc21 => ?_) (fun hc21 => ?_)
    · replace h := ite_t hc21 h
      exact ev_lt (f_X12_readProduct_j57_ok hr10 h) ⟨rfl, ⟨rfl, trivial⟩⟩
    · replace h := ite_f hc21 h
      refine ev_aload_n dX12_readProduct_51 rfl ?_
      refine ev_iconst (v := (1 : Int32)) dX12_readProduct_52 (by decide) ?_
      obtain ⟨w24, m23, hq22, h⟩ := bndE_t h
      refine ev_cVi mv_X12_229 dX12_readProduct_53 (c_X12_errs hq22) rfl shR_0 rfl rfl (Nat.le_of_ble_eq_true rfl) (by rfl) (Nat.le_of_ble_eq_true rfl) (Nat.le_of_ble_eq_true rfl) (Nat.le_of_ble_eq_true rfl) ?_
      exact ev_iret rfl rfl (by decide) (by decide) dX12_readProduct_56 (eqP_E h)
def f_X12_readProduct_L10 (G : Nat)  : Nat → Mem → Option (Int32 × Mem)
  | 0, _ => none
  | g + 1, μ =>
  (if (f_X12_isSign μ (42 : Int32)) = (0 : Int32) then
  (if (f_X12_isSign μ (47 : Int32)) = (0 : Int32) then
  some ((0 : Int32), μ)
  else
  f_X12_readProduct_j28 G (f_X12_readProduct_L10 G g)  μ)
  else
  f_X12_readProduct_j28 G (f_X12_readProduct_L10 G g)  μ)
set_option maxHeartbeats 4000000 in
set_option maxRecDepth 100000 in
theorem f_X12_readProduct_L10_ok  {G : Nat} {r : Int32} {μr : Mem}    : ∀ (g : Nat) (μ : Mem), f_X12_readProduct_L10 G g μ = some (r, μr) → Ev RX12 cX12_readProduct 2 (some .int) false 5 0 0 (eqP (some r) shR μr) 10 [some (.ref 0), none] [] shR μ 0 0 := by
  intro g
  induction g with
  | zero =>
    intro μ h
    cases h
  | succ g ih =>
    intro μ h
    rw [f_X12_readProduct_L10] at h
    refine ev_aload_n dX12_readProduct_10 rfl ?_
    refine ev_bipush (v := (42 : Int32)) dX12_readProduct_11 (by decide) ?_
    refine ev_cVi mv_X12_243 dX12_readProduct_13 c_X12_isSign rfl shR_0 rfl rfl (Nat.le_of_ble_eq_true rfl) (by rfl) (Nat.le_of_ble_eq_true rfl) (Nat.le_of_ble_eq_true rfl) (Nat.le_of_ble_eq_true rfl) ?_
    refine ev_if_ne (tgt := 28) dX12_readProduct_16 (by decide) (fun hc5 => ?_) (fun hc5 => ?_)
    · replace h := ite_f hc5 h
      exact ev_lt (f_X12_readProduct_j28_ok ih h) ⟨rfl, trivial⟩
    · replace h := ite_t hc5 h
      refine ev_aload_n dX12_readProduct_19 rfl ?_
      refine ev_bipush (v := (47 : Int32)) dX12_readProduct_20 (by decide) ?_
      refine ev_cVi mv_X12_243 dX12_readProduct_22 c_X12_isSign rfl shR_0 rfl rfl (Nat.le_of_ble_eq_true rfl) (by rfl) (Nat.le_of_ble_eq_true rfl) (Nat.le_of_ble_eq_true rfl) (Nat.le_of_ble_eq_true rfl) ?_
      refine ev_if_eq (tgt := 101) dX12_readProduct_25 (by decide) (fun hc25 => ?_) (fun hc25 => ?_)
      · replace h := ite_t hc25 h
        refine ev_iconst (v := (0 : Int32)) dX12_readProduct_101 (by decide) ?_
        exact ev_iret rfl rfl (by decide) (by decide) dX12_readProduct_102 (eqP_E h)
      · replace h := ite_f hc25 h
        exact ev_lt (f_X12_readProduct_j28_ok ih h) ⟨rfl, trivial⟩
def f_X12_readProduct (G : Nat) (μ : Mem) : Option (Int32 × Mem) :=
  bndE (f_X12_readUnit G μ) (fun w3 m2 =>
  (if w3 = (-1 : Int32) then
  some ((-1 : Int32), m2)
  else
  f_X12_readProduct_L10 G G  m2))
set_option maxHeartbeats 4000000 in
set_option maxRecDepth 100000 in
theorem c_X12_readProduct  {G : Nat} {μ : Mem} {r : Int32} {μr : Mem}  (h : f_X12_readProduct G μ = some (r, μr)) : Cn yX12_readProduct cX12_readProduct 2 (some .int) 5 0 0 [.ref 0] shR μ (eqP (some r) shR μr) := by
  refine cn_of (own := RX12) (ini := false) (loc := [some (.ref 0), none]) rfl (by decide) (fun q => by cases q) (Nat.le_of_ble_eq_true rfl) (by rfl) rfl ?_
  unfold f_X12_readProduct at h
  refine ev_aload_n dX12_readProduct_0 rfl ?_
  obtain ⟨w3, m2, hq1, h⟩ := bndE_t h
  refine ev_cVi mv_X12_239 dX12_readProduct_1 (c_X12_readUnit hq1) rfl shR_0 rfl rfl (Nat.le_of_ble_eq_true rfl) (by rfl) (Nat.le_of_ble_eq_true rfl) (Nat.le_of_ble_eq_true rfl) (Nat.le_of_ble_eq_true rfl) ?_
  refine ev_iconst (v := (-1 : Int32)) dX12_readProduct_4 (by decide) ?_
  refine ev_icmp_ne (tgt := 10) dX12_readProduct_5 (by decide) (fun hc4 => ?_) (fun hc4 => ?_)
  · replace h := ite_f hc4 h
    exact ev_lt (f_X12_readProduct_L10_ok _ _ h) ⟨rfl, trivial⟩
  · replace h := ite_t hc4 h
    refine ev_iconst (v := (-1 : Int32)) dX12_readProduct_8 (by decide) ?_
    exact ev_iret rfl rfl (by decide) (by decide) dX12_readProduct_9 (eqP_E h)
def f_X12_readSum_j42 (G : Nat) (r10 : Mem → Option (Int32 × Mem)) (s0 : Int32) (μ : Mem) : Option (Int32 × Mem) :=
  bndV (f_X12_reads G μ) (fun m8 =>
  bndE (f_X12_readProduct G m8) (fun w11 m10 =>
  (if w11 = (-1 : Int32) then
  some ((-1 : Int32), m10)
  else
  bndV (f_X12_emits G s0 (0 : Int32) m10) (fun m14 =>
  r10  m14))))
set_option maxHeartbeats 4000000 in
set_option maxRecDepth 100000 in
theorem f_X12_readSum_j42_ok  {G : Nat} {r : Int32} {μr : Mem}  {r10 : Mem → Option (Int32 × Mem)} (hr10 : ∀ (m : Mem), r10 m = some (r, μr) → Ev RX12 cX12_readSum 2 (some .int) false 6 0 0 (eqP (some r) shR μr) 10 [some (.ref 0), none] [] shR m 0 0) {s0 : Int32} {μ : Mem} (h : f_X12_readSum_j42 G r10 s0 μ = some (r, μr)) : Ev RX12 cX12_readSum 2 (some .int) false 6 0 0 (eqP (some r) shR μr) 42 [some (.ref 0), none] [.int s0] shR μ 0 0 := by
  unfold f_X12_readSum_j42 at h
  refine ev_istore_n (loc' := [_, _]) dX12_readSum_42 rfl (by decide) (by rfl) ?_
  refine ev_aload_n dX12_readSum_43 rfl ?_
  obtain ⟨m8, hq7, h⟩ := bndV_t h
  refine ev_cVv mv_X12_236 dX12_readSum_44 (c_X12_reads hq7) rfl shR_0 rfl rfl (Nat.le_of_ble_eq_true rfl) (by rfl) (Nat.le_of_ble_eq_true rfl) (Nat.le_of_ble_eq_true rfl) (Nat.le_of_ble_eq_true rfl) ?_
  refine ev_aload_n dX12_readSum_47 rfl ?_
  obtain ⟨w11, m10, hq9, h⟩ := bndE_t h
  refine ev_cVi mv_X12_246 dX12_readSum_48 (c_X12_readProduct hq9) rfl shR_0 rfl rfl (Nat.le_of_ble_eq_true rfl) (by rfl) (Nat.le_of_ble_eq_true rfl) (Nat.le_of_ble_eq_true rfl) (Nat.le_of_ble_eq_true rfl) ?_
  refine ev_iconst (v := (-1 : Int32)) dX12_readSum_51 (by decide) ?_
  refine ev_icmp_ne (tgt := 57) dX12_readSum_52 (by decide) (fun hc12 => ?_) (fun hc12 => ?_)
  · replace h := ite_f hc12 h
    refine ev_aload_n dX12_readSum_57 rfl ?_
    refine ev_iload_n dX12_readSum_58 rfl ?_
    refine ev_iconst (v := (0 : Int32)) dX12_readSum_59 (by decide) ?_
    obtain ⟨m14, hq13, h⟩ := bndV_t h
    refine ev_cVv mv_X12_232 dX12_readSum_60 (c_X12_emits hq13) rfl shR_0 rfl rfl (Nat.le_of_ble_eq_true rfl) (by rfl) (Nat.le_of_ble_eq_true rfl) (Nat.le_of_ble_eq_true rfl) (Nat.le_of_ble_eq_true rfl) ?_
    refine ev_goto (tgt := 10) dX12_readSum_63 (by decide) ?_
    exact ev_lt (hr10 _ h) ⟨rfl, trivial⟩
  · replace h := ite_t hc12 h
    refine ev_iconst (v := (-1 : Int32)) dX12_readSum_55 (by decide) ?_
    exact ev_iret rfl rfl (by decide) (by decide) dX12_readSum_56 (eqP_E h)
def f_X12_readSum_j28 (G : Nat) (r10 : Mem → Option (Int32 × Mem)) (μ : Mem) : Option (Int32 × Mem) :=
  (if (μ 0 19) = (43 : Int32) then
  f_X12_readSum_j42 G r10 (2 : Int32) μ
  else
  f_X12_readSum_j42 G r10 (3 : Int32) μ)
set_option maxHeartbeats 4000000 in
set_option maxRecDepth 100000 in
theorem f_X12_readSum_j28_ok  {G : Nat} {r : Int32} {μr : Mem}  {r10 : Mem → Option (Int32 × Mem)} (hr10 : ∀ (m : Mem), r10 m = some (r, μr) → Ev RX12 cX12_readSum 2 (some .int) false 6 0 0 (eqP (some r) shR μr) 10 [some (.ref 0), none] [] shR m 0 0) {μ : Mem} (h : f_X12_readSum_j28 G r10 μ = some (r, μr)) : Ev RX12 cX12_readSum 2 (some .int) false 6 0 0 (eqP (some r) shR μr) 28 [some (.ref 0), none] [] shR μ 0 0 := by
  unfold f_X12_readSum_j28 at h
  refine ev_aload_n dX12_readSum_28 rfl ?_
  refine ev_getI fr_X12_201 shR_0 rfl dX12_readSum_29 ?_
  refine ev_bipush (v := (43 : Int32)) dX12_readSum_32 (by decide) ?_
  refine ev_icmp_ne (tgt := 41) dX12_readSum_34 (by decide) (fun hc6 => ?_) (fun hc6 => ?_)
  · replace h := ite_f hc6 h
    refine ev_iconst (v := (3 : Int32)) dX12_readSum_41 (by decide) ?_
    exact ev_lt (f_X12_readSum_j42_ok hr10 h) ⟨rfl, trivial⟩
  · replace h := ite_t hc6 h
    refine ev_iconst (v := (2 : Int32)) dX12_readSum_37 (by decide) ?_
    refine ev_goto (tgt := 42) dX12_readSum_38 (by decide) ?_
    exact ev_lt (f_X12_readSum_j42_ok hr10 h) ⟨rfl, trivial⟩
def f_X12_readSum_L10 (G : Nat)  : Nat → Mem → Option (Int32 × Mem)
  | 0, _ => none
  | g + 1, μ =>
  (if (f_X12_isSign μ (43 : Int32)) = (0 : Int32) then
  (if (f_X12_isSign μ (45 : Int32)) = (0 : Int32) then
  some ((0 : Int32), μ)
  else
  f_X12_readSum_j28 G (f_X12_readSum_L10 G g)  μ)
  else
  f_X12_readSum_j28 G (f_X12_readSum_L10 G g)  μ)
set_option maxHeartbeats 4000000 in
set_option maxRecDepth 100000 in
theorem f_X12_readSum_L10_ok  {G : Nat} {r : Int32} {μr : Mem}    : ∀ (g : Nat) (μ : Mem), f_X12_readSum_L10 G g μ = some (r, μr) → Ev RX12 cX12_readSum 2 (some .int) false 6 0 0 (eqP (some r) shR μr) 10 [some (.ref 0), none] [] shR μ 0 0 := by
  intro g
  induction g with
  | zero =>
    intro μ h
    cases h
  | succ g ih =>
    intro μ h
    rw [f_X12_readSum_L10] at h
    refine ev_aload_n dX12_readSum_10 rfl ?_
    refine ev_bipush (v := (43 : Int32)) dX12_readSum_11 (by decide) ?_
    refine ev_cVi mv_X12_243 dX12_readSum_13 c_X12_isSign rfl shR_0 rfl rfl (Nat.le_of_ble_eq_true rfl) (by rfl) (Nat.le_of_ble_eq_true rfl) (Nat.le_of_ble_eq_true rfl) (Nat.le_of_ble_eq_true rfl) ?_
    refine ev_if_ne (tgt := 28) dX12_readSum_16 (by decide) (fun hc5 => ?_) (fun hc5 => ?_)
    · replace h := ite_f hc5 h
      exact ev_lt (f_X12_readSum_j28_ok ih h) ⟨rfl, trivial⟩
    · replace h := ite_t hc5 h
      refine ev_aload_n dX12_readSum_19 rfl ?_
      refine ev_bipush (v := (45 : Int32)) dX12_readSum_20 (by decide) ?_
      refine ev_cVi mv_X12_243 dX12_readSum_22 c_X12_isSign rfl shR_0 rfl rfl (Nat.le_of_ble_eq_true rfl) (by rfl) (Nat.le_of_ble_eq_true rfl) (Nat.le_of_ble_eq_true rfl) (Nat.le_of_ble_eq_true rfl) ?_
      refine ev_if_eq (tgt := 66) dX12_readSum_25 (by decide) (fun hc15 => ?_) (fun hc15 => ?_)
      · replace h := ite_t hc15 h
        refine ev_iconst (v := (0 : Int32)) dX12_readSum_66 (by decide) ?_
        exact ev_iret rfl rfl (by decide) (by decide) dX12_readSum_67 (eqP_E h)
      · replace h := ite_f hc15 h
        exact ev_lt (f_X12_readSum_j28_ok ih h) ⟨rfl, trivial⟩
def f_X12_readSum (G : Nat) (μ : Mem) : Option (Int32 × Mem) :=
  bndE (f_X12_readProduct G μ) (fun w3 m2 =>
  (if w3 = (-1 : Int32) then
  some ((-1 : Int32), m2)
  else
  f_X12_readSum_L10 G G  m2))
set_option maxHeartbeats 4000000 in
set_option maxRecDepth 100000 in
theorem c_X12_readSum  {G : Nat} {μ : Mem} {r : Int32} {μr : Mem}  (h : f_X12_readSum G μ = some (r, μr)) : Cn yX12_readSum cX12_readSum 2 (some .int) 6 0 0 [.ref 0] shR μ (eqP (some r) shR μr) := by
  refine cn_of (own := RX12) (ini := false) (loc := [some (.ref 0), none]) rfl (by decide) (fun q => by cases q) (Nat.le_of_ble_eq_true rfl) (by rfl) rfl ?_
  unfold f_X12_readSum at h
  refine ev_aload_n dX12_readSum_0 rfl ?_
  obtain ⟨w3, m2, hq1, h⟩ := bndE_t h
  refine ev_cVi mv_X12_246 dX12_readSum_1 (c_X12_readProduct hq1) rfl shR_0 rfl rfl (Nat.le_of_ble_eq_true rfl) (by rfl) (Nat.le_of_ble_eq_true rfl) (Nat.le_of_ble_eq_true rfl) (Nat.le_of_ble_eq_true rfl) ?_
  refine ev_iconst (v := (-1 : Int32)) dX12_readSum_4 (by decide) ?_
  refine ev_icmp_ne (tgt := 10) dX12_readSum_5 (by decide) (fun hc4 => ?_) (fun hc4 => ?_)
  · replace h := ite_f hc4 h
    exact ev_lt (f_X12_readSum_L10_ok _ _ h) ⟨rfl, trivial⟩
  · replace h := ite_t hc4 h
    refine ev_iconst (v := (-1 : Int32)) dX12_readSum_8 (by decide) ?_
    exact ev_iret rfl rfl (by decide) (by decide) dX12_readSum_9 (eqP_E h)
def f_X12_readCompared_j73 (G : Nat)  (s0 : Int32) (μ : Mem) : Option (Int32 × Mem) :=
  bndV (f_X12_reads G μ) (fun m9 =>
  bndE (f_X12_readSum G m9) (fun w12 m11 =>
  (if w12 = (-1 : Int32) then
  some ((-1 : Int32), m11)
  else
  bndV (f_X12_emits G s0 (0 : Int32) m11) (fun m15 =>
  some ((0 : Int32), m15)))))
set_option maxHeartbeats 4000000 in
set_option maxRecDepth 100000 in
theorem f_X12_readCompared_j73_ok  {G : Nat} {r : Int32} {μr : Mem}    {s0 : Int32} {μ : Mem} (h : f_X12_readCompared_j73 G s0 μ = some (r, μr)) : Ev RX12 cX12_readCompared 2 (some .int) false 7 0 0 (eqP (some r) shR μr) 73 [some (.ref 0), none] [.int s0] shR μ 0 0 := by
  unfold f_X12_readCompared_j73 at h
  refine ev_istore_n (loc' := [_, _]) dX12_readCompared_73 rfl (by decide) (by rfl) ?_
  refine ev_aload_n dX12_readCompared_74 rfl ?_
  obtain ⟨m9, hq8, h⟩ := bndV_t h
  refine ev_cVv mv_X12_236 dX12_readCompared_75 (c_X12_reads hq8) rfl shR_0 rfl rfl (Nat.le_of_ble_eq_true rfl) (by rfl) (Nat.le_of_ble_eq_true rfl) (Nat.le_of_ble_eq_true rfl) (Nat.le_of_ble_eq_true rfl) ?_
  refine ev_aload_n dX12_readCompared_78 rfl ?_
  obtain ⟨w12, m11, hq10, h⟩ := bndE_t h
  refine ev_cVi mv_X12_249 dX12_readCompared_79 (c_X12_readSum hq10) rfl shR_0 rfl rfl (Nat.le_of_ble_eq_true rfl) (by rfl) (Nat.le_of_ble_eq_true rfl) (Nat.le_of_ble_eq_true rfl) (Nat.le_of_ble_eq_true rfl) ?_
  refine ev_iconst (v := (-1 : Int32)) dX12_readCompared_82 (by decide) ?_
  refine ev_icmp_ne (tgt := 88) dX12_readCompared_83 (by decide) (fun hc13 => ?_) (fun hc13 => ?_)
  · replace h := ite_f hc13 h
    refine ev_aload_n dX12_readCompared_88 rfl ?_
    refine ev_iload_n dX12_readCompared_89 rfl ?_
    refine ev_iconst (v := (0 : Int32)) dX12_readCompared_90 (by decide) ?_
    obtain ⟨m15, hq14, h⟩ := bndV_t h
    refine ev_cVv mv_X12_232 dX12_readCompared_91 (c_X12_emits hq14) rfl shR_0 rfl rfl (Nat.le_of_ble_eq_true rfl) (by rfl) (Nat.le_of_ble_eq_true rfl) (Nat.le_of_ble_eq_true rfl) (Nat.le_of_ble_eq_true rfl) ?_
    refine ev_iconst (v := (0 : Int32)) dX12_readCompared_94 (by decide) ?_
    exact ev_iret rfl rfl (by decide) (by decide) dX12_readCompared_95 (eqP_E h)
  · replace h := ite_t hc13 h
    refine ev_iconst (v := (-1 : Int32)) dX12_readCompared_86 (by decide) ?_
    exact ev_iret rfl rfl (by decide) (by decide) dX12_readCompared_87 (eqP_E h)
def f_X12_readCompared_j43 (G : Nat)  (μ : Mem) : Option (Int32 × Mem) :=
  (if (μ 0 19) = (60 : Int32) then
  f_X12_readCompared_j73 G (6 : Int32) μ
  else
  (if (μ 0 19) = (61 : Int32) then
  f_X12_readCompared_j73 G (7 : Int32) μ
  else
  f_X12_readCompared_j73 G (8 : Int32) μ))
set_option maxHeartbeats 4000000 in
set_option maxRecDepth 100000 in
theorem f_X12_readCompared_j43_ok  {G : Nat} {r : Int32} {μr : Mem}    {μ : Mem} (h : f_X12_readCompared_j43 G μ = some (r, μr)) : Ev RX12 cX12_readCompared 2 (some .int) false 7 0 0 (eqP (some r) shR μr) 43 [some (.ref 0), none] [] shR μ 0 0 := by
  unfold f_X12_readCompared_j43 at h
  refine ev_aload_n dX12_readCompared_43 rfl ?_
  refine ev_getI fr_X12_201 shR_0 rfl dX12_readCompared_44 ?_
  refine ev_bipush (v := (60 : Int32)) dX12_readCompared_47 (by decide) ?_
  refine ev_icmp_ne (tgt := 57) dX12_readCompared_49 (by decide) (fun hc6 => ?_) (fun hc6 => ?_)
  · replace h := ite_f hc6 h
    refine ev_aload_n dX12_readCompared_57 rfl ?_
    refine ev_getI fr_X12_201 shR_0 rfl dX12_readCompared_58 ?_
    refine ev_bipush (v := (61 : Int32)) dX12_readCompared_61 (by decide) ?_
    refine ev_icmp_ne (tgt := 71) dX12_readCompared_63 (by decide) (fun hc7 => ?_) (fun hc7 => ?_)
    · replace h := ite_f hc7 h
      refine ev_bipush (v := (8 : Int32)) dX12_readCompared_71 (by decide) ?_
      exact ev_lt (f_X12_readCompared_j73_ok h) ⟨rfl, trivial⟩
    · replace h := ite_t hc7 h
      refine ev_bipush (v := (7 : Int32)) dX12_readCompared_66 (by decide) ?_
      refine ev_goto (tgt := 73) dX12_readCompared_68 (by decide) ?_
      exact ev_lt (f_X12_readCompared_j73_ok h) ⟨rfl, trivial⟩
  · replace h := ite_t hc6 h
    refine ev_bipush (v := (6 : Int32)) dX12_readCompared_52 (by decide) ?_
    refine ev_goto (tgt := 73) dX12_readCompared_54 (by decide) ?_
    exact ev_lt (f_X12_readCompared_j73_ok h) ⟨rfl, trivial⟩
def f_X12_readCompared (G : Nat) (μ : Mem) : Option (Int32 × Mem) :=
  bndE (f_X12_readSum G μ) (fun w3 m2 =>
  (if w3 = (-1 : Int32) then
  some ((-1 : Int32), m2)
  else
  (if (f_X12_isSign m2 (60 : Int32)) = (0 : Int32) then
  (if (f_X12_isSign m2 (61 : Int32)) = (0 : Int32) then
  (if (f_X12_isSign m2 (62 : Int32)) = (0 : Int32) then
  bndE (f_X12_errs G (1 : Int32) m2) (fun w20 m19 =>
  some (w20, m19))
  else
  f_X12_readCompared_j43 G  m2)
  else
  f_X12_readCompared_j43 G  m2)
  else
  f_X12_readCompared_j43 G  m2)))
set_option maxHeartbeats 4000000 in
set_option maxRecDepth 100000 in
theorem c_X12_readCompared  {G : Nat} {μ : Mem} {r : Int32} {μr : Mem}  (h : f_X12_readCompared G μ = some (r, μr)) : Cn yX12_readCompared cX12_readCompared 2 (some .int) 7 0 0 [.ref 0] shR μ (eqP (some r) shR μr) := by
  refine cn_of (own := RX12) (ini := false) (loc := [some (.ref 0), none]) rfl (by decide) (fun q => by cases q) (Nat.le_of_ble_eq_true rfl) (by rfl) rfl ?_
  unfold f_X12_readCompared at h
  refine ev_aload_n dX12_readCompared_0 rfl ?_
  obtain ⟨w3, m2, hq1, h⟩ := bndE_t h
  refine ev_cVi mv_X12_249 dX12_readCompared_1 (c_X12_readSum hq1) rfl shR_0 rfl rfl (Nat.le_of_ble_eq_true rfl) (by rfl) (Nat.le_of_ble_eq_true rfl) (Nat.le_of_ble_eq_true rfl) (Nat.le_of_ble_eq_true rfl) ?_
  refine ev_iconst (v := (-1 : Int32)) dX12_readCompared_4 (by decide) ?_
  refine ev_icmp_ne (tgt := 10) dX12_readCompared_5 (by decide) (fun hc4 => ?_) (fun hc4 => ?_)
  · replace h := ite_f hc4 h
    refine ev_aload_n dX12_readCompared_10 rfl ?_
    refine ev_bipush (v := (60 : Int32)) dX12_readCompared_11 (by decide) ?_
    refine ev_cVi mv_X12_243 dX12_readCompared_13 c_X12_isSign rfl shR_0 rfl rfl (Nat.le_of_ble_eq_true rfl) (by rfl) (Nat.le_of_ble_eq_true rfl) (Nat.le_of_ble_eq_true rfl) (Nat.le_of_ble_eq_true rfl) ?_
    refine ev_if_ne (tgt := 43) dX12_readCompared_16 (by decide) (fun hc5 => ?_) (fun hc5 => ?_)
    · replace h := ite_f hc5 h
      exact ev_lt (f_X12_readCompared_j43_ok h) ⟨rfl, trivial⟩
    · replace h := ite_t hc5 h
      refine ev_aload_n dX12_readCompared_19 rfl ?_
      refine ev_bipush (v := (61 : Int32)) dX12_readCompared_20 (by decide) ?_
      refine ev_cVi mv_X12_243 dX12_readCompared_22 c_X12_isSign rfl shR_0 rfl rfl (Nat.le_of_ble_eq_true rfl) (by rfl) (Nat.le_of_ble_eq_true rfl) (Nat.le_of_ble_eq_true rfl) (Nat.le_of_ble_eq_true rfl) ?_
      refine ev_if_ne (tgt := 43) dX12_readCompared_25 (by decide) (fun hc16 => ?_) (fun hc16 => ?_)
      · replace h := ite_f hc16 h
        exact ev_lt (f_X12_readCompared_j43_ok h) ⟨rfl, trivial⟩
      · replace h := ite_t hc16 h
        refine ev_aload_n dX12_readCompared_28 rfl ?_
        refine ev_bipush (v := (62 : Int32)) dX12_readCompared_29 (by decide) ?_
        refine ev_cVi mv_X12_243 dX12_readCompared_31 c_X12_isSign rfl shR_0 rfl rfl (Nat.le_of_ble_eq_true rfl) (by rfl) (Nat.le_of_ble_eq_true rfl) (Nat.le_of_ble_eq_true rfl) (Nat.le_of_ble_eq_true rfl) ?_
        refine ev_if_ne (tgt := 43) dX12_readCompared_34 (by decide) (fun hc17 => ?_) (fun hc17 => ?_)
        · replace h := ite_f hc17 h
          exact ev_lt (f_X12_readCompared_j43_ok h) ⟨rfl, trivial⟩
        · replace h := ite_t hc17 h
          refine ev_aload_n dX12_readCompared_37 rfl ?_
          refine ev_iconst (v := (1 : Int32)) dX12_readCompared_38 (by decide) ?_
          obtain ⟨w20, m19, hq18, h⟩ := bndE_t h
          refine ev_cVi mv_X12_229 dX12_readCompared_39 (c_X12_errs hq18) rfl shR_0 rfl rfl (Nat.le_of_ble_eq_true rfl) (by rfl) (Nat.le_of_ble_eq_true rfl) (Nat.le_of_ble_eq_true rfl) (Nat.le_of_ble_eq_true rfl) ?_
          exact ev_iret rfl rfl (by decide) (by decide) dX12_readCompared_42 (eqP_E h)
  · replace h := ite_t hc4 h
    refine ev_iconst (v := (-1 : Int32)) dX12_readCompared_8 (by decide) ?_
    exact ev_iret rfl rfl (by decide) (by decide) dX12_readCompared_9 (eqP_E h)
def f_X12_waits (G : Nat) (p1 : Int32) (μ : Mem) : Option Mem :=
  chk (μ 0 32) 40 (let m1 := wr μ 19 (ix (μ 0 32)) p1
  (let m3 := wr m1 0 32 ((m1 0 32) + (1 : Int32))
  some m3))
set_option maxHeartbeats 4000000 in
set_option maxRecDepth 100000 in
theorem c_X12_waits  {G : Nat} {μ : Mem} {p1 : Int32} {μr : Mem}  (h : f_X12_waits G p1 μ = some μr) : Cn yX12_waits cX12_waits 2 none 1 0 0 [.ref 0, .int p1] shR μ (eqP none shR μr) := by
  refine cn_of (own := RX12) (ini := false) (loc := [some (.ref 0), some (.int p1)]) rfl (by decide) (fun q => by cases q) (Nat.le_of_ble_eq_true rfl) (by rfl) rfl ?_
  unfold f_X12_waits at h
  refine ev_aload_n dX12_waits_0 rfl ?_
  refine ev_getR fr_X12_64 shR_0 rfl dX12_waits_1 ?_
  refine ev_aload_n dX12_waits_4 rfl ?_
  refine ev_getI fr_X12_252 shR_0 rfl dX12_waits_5 ?_
  refine ev_iload_n dX12_waits_8 rfl ?_
  obtain ⟨hi2, h⟩ := chk_t h
  refine ev_iast shR_19 hi2 dX12_waits_9 ?_
  refine ev_aload_n dX12_waits_10 rfl ?_
  refine ev_aload_n dX12_waits_11 rfl ?_
  refine ev_getI fr_X12_252 shR_0 rfl dX12_waits_12 ?_
  refine ev_iconst (v := (1 : Int32)) dX12_waits_15 (by decide) ?_
  refine ev_iadd dX12_waits_16 ?_
  refine ev_putI fr_X12_252 shR_0 rfl rfl rfl dX12_waits_17 ?_
  exact ev_vret rfl (by decide) (by decide) dX12_waits_20 (eqP_V h)
def f_X12_settles_L0 (G : Nat)  : Nat → Int32 → Mem → Option Mem
  | 0, _, _ => none
  | g + 1, v1, μ =>
  (if (μ 0 32) ≤ (0 : Int32) then
  some μ
  else
  chk ((μ 0 32) - (1 : Int32)) 40 ((if (μ 19 (ix ((μ 0 32) - (1 : Int32)))) = v1 then
  (let m4 := wr μ 0 32 ((μ 0 32) - (1 : Int32))
  bndV (f_X12_emits G v1 (0 : Int32) m4) (fun m6 =>
  (if v1 = (9 : Int32) then
  (let m8 := wr m6 0 30 ((m6 0 30) - (1 : Int32))
  (f_X12_settles_L0 G g) v1 m8)
  else
  (f_X12_settles_L0 G g) v1 m6)))
  else
  some μ)))
set_option maxHeartbeats 4000000 in
set_option maxRecDepth 100000 in
theorem f_X12_settles_L0_ok  {G : Nat} {μr : Mem}    : ∀ (g : Nat) (v1 : Int32) (μ : Mem), f_X12_settles_L0 G g v1 μ = some μr → Ev RX12 cX12_settles 2 none false 2 0 0 (eqP none shR μr) 0 [some (.ref 0), some (.int v1)] [] shR μ 0 0 := by
  intro g
  induction g with
  | zero =>
    intro v1 μ h
    cases h
  | succ g ih =>
    intro v1 μ h
    rw [f_X12_settles_L0] at h
    refine ev_aload_n dX12_settles_0 rfl ?_
    refine ev_getI fr_X12_252 shR_0 rfl dX12_settles_1 ?_
    refine ev_if_le (tgt := 57) dX12_settles_4 (by decide) (fun hc1 => ?_) (fun hc1 => ?_)
    · replace h := ite_t hc1 h
      exact ev_vret rfl (by decide) (by decide) dX12_settles_57 (eqP_V h)
    · replace h := ite_f hc1 h
      refine ev_aload_n dX12_settles_7 rfl ?_
      refine ev_getR fr_X12_64 shR_0 rfl dX12_settles_8 ?_
      refine ev_aload_n dX12_settles_11 rfl ?_
      refine ev_getI fr_X12_252 shR_0 rfl dX12_settles_12 ?_
      refine ev_iconst (v := (1 : Int32)) dX12_settles_15 (by decide) ?_
      refine ev_isub dX12_settles_16 ?_
      obtain ⟨hi2, h⟩ := chk_t h
      refine ev_iald shR_19 hi2 dX12_settles_17 ?_
      refine ev_iload_n dX12_settles_18 rfl ?_
      refine ev_icmp_ne (tgt := 57) dX12_settles_19 (by decide) (fun hc3 => ?_) (fun hc3 => ?_)
      · replace h := ite_f hc3 h
        exact ev_vret rfl (by decide) (by decide) dX12_settles_57 (eqP_V h)
      · replace h := ite_t hc3 h
        refine ev_aload_n dX12_settles_22 rfl ?_
        refine ev_aload_n dX12_settles_23 rfl ?_
        refine ev_getI fr_X12_252 shR_0 rfl dX12_settles_24 ?_
        refine ev_iconst (v := (1 : Int32)) dX12_settles_27 (by decide) ?_
        refine ev_isub dX12_settles_28 ?_
        refine ev_putI fr_X12_252 shR_0 rfl rfl rfl dX12_settles_29 ?_
        refine ev_aload_n dX12_settles_32 rfl ?_
        refine ev_iload_n dX12_settles_33 rfl ?_
        refine ev_iconst (v := (0 : Int32)) dX12_settles_34 (by decide) ?_
        obtain ⟨m6, hq5, h⟩ := bndV_t h
        refine ev_cVv mv_X12_232 dX12_settles_35 (c_X12_emits hq5) rfl shR_0 rfl rfl (Nat.le_of_ble_eq_true rfl) (by rfl) (Nat.le_of_ble_eq_true rfl) (Nat.le_of_ble_eq_true rfl) (Nat.le_of_ble_eq_true rfl) ?_
        refine ev_iload_n dX12_settles_38 rfl ?_
        refine ev_bipush (v := (9 : Int32)) dX12_settles_39 (by decide) ?_
        refine ev_icmp_ne (tgt := 0) dX12_settles_41 (by decide) (fun hc7 => ?_) (fun hc7 => ?_)
        · replace h := ite_f hc7 h
          exact ev_lt (ih _ _ h) ⟨rfl, ⟨rfl, trivial⟩⟩
        · replace h := ite_t hc7 h
          refine ev_aload_n dX12_settles_44 rfl ?_
          refine ev_aload_n dX12_settles_45 rfl ?_
          refine ev_getI fr_X12_255 shR_0 rfl dX12_settles_46 ?_
          refine ev_iconst (v := (1 : Int32)) dX12_settles_49 (by decide) ?_
          refine ev_isub dX12_settles_50 ?_
          refine ev_putI fr_X12_255 shR_0 rfl rfl rfl dX12_settles_51 ?_
          refine ev_goto (tgt := 0) dX12_settles_54 (by decide) ?_
          exact ev_lt (ih _ _ h) ⟨rfl, ⟨rfl, trivial⟩⟩
def f_X12_settles (G : Nat) (p1 : Int32) (μ : Mem) : Option Mem :=
  f_X12_settles_L0 G G p1 μ
set_option maxHeartbeats 4000000 in
set_option maxRecDepth 100000 in
theorem c_X12_settles  {G : Nat} {μ : Mem} {p1 : Int32} {μr : Mem}  (h : f_X12_settles G p1 μ = some μr) : Cn yX12_settles cX12_settles 2 none 2 0 0 [.ref 0, .int p1] shR μ (eqP none shR μr) := by
  refine cn_of (own := RX12) (ini := false) (loc := [some (.ref 0), some (.int p1)]) rfl (by decide) (fun q => by cases q) (Nat.le_of_ble_eq_true rfl) (by rfl) rfl ?_
  unfold f_X12_settles at h
  exact ev_lt (f_X12_settles_L0_ok _ _ _ h) ⟨rfl, ⟨rfl, trivial⟩⟩
def f_X12_readAny_j78 (G : Nat) (r9 : Int32 → Int32 → Mem → Option (Int32 × Mem)) (v1 v2 s0 : Int32) (μ : Mem) : Option (Int32 × Mem) :=
  bndV (f_X12_waits G s0 μ) (fun m40 =>
  bndV (f_X12_reads G m40) (fun m42 =>
  r9 v1 v2 m42))
set_option maxHeartbeats 4000000 in
set_option maxRecDepth 100000 in
theorem f_X12_readAny_j78_ok  {G : Nat} {r : Int32} {μr : Mem}  {r9 : Int32 → Int32 → Mem → Option (Int32 × Mem)} (hr9 : ∀ (v1 : Int32) (v2 : Int32) (m : Mem), r9 v1 v2 m = some (r, μr) → Ev RX12 cX12_readAny 4 (some .int) false 8 0 0 (eqP (some r) shR μr) 9 [some (.ref 0), some (.int v1), some (.int v2), none] [] shR m 0 0) {v1 v2 s0 : Int32} {μ : Mem} (h : f_X12_readAny_j78 G r9 v1 v2 s0 μ = some (r, μr)) : Ev RX12 cX12_readAny 4 (some .int) false 8 0 0 (eqP (some r) shR μr) 78 [some (.ref 0), some (.int v1), some (.int v2), none] [.int s0, .ref 0] shR μ 0 0 := by
  unfold f_X12_readAny_j78 at h
  obtain ⟨m40, hq39, h⟩ := bndV_t h
  refine ev_cVv mv_X12_261 dX12_readAny_78 (c_X12_waits hq39) rfl shR_0 rfl rfl (Nat.le_of_ble_eq_true rfl) (by rfl) (Nat.le_of_ble_eq_true rfl) (Nat.le_of_ble_eq_true rfl) (Nat.le_of_ble_eq_true rfl) ?_
  refine ev_aload_n dX12_readAny_81 rfl ?_
  obtain ⟨m42, hq41, h⟩ := bndV_t h
  refine ev_cVv mv_X12_236 dX12_readAny_82 (c_X12_reads hq41) rfl shR_0 rfl rfl (Nat.le_of_ble_eq_true rfl) (by rfl) (Nat.le_of_ble_eq_true rfl) (Nat.le_of_ble_eq_true rfl) (Nat.le_of_ble_eq_true rfl) ?_
  refine ev_goto (tgt := 9) dX12_readAny_85 (by decide) ?_
  exact ev_lt (hr9 _ _ _ h) ⟨rfl, ⟨rfl, ⟨rfl, trivial⟩⟩⟩
def f_X12_readAny_j66 (G : Nat) (r9 : Int32 → Int32 → Mem → Option (Int32 × Mem)) (v1 v2 v3 : Int32) (μ : Mem) : Option (Int32 × Mem) :=
  (if v3 = (0 : Int32) then
  f_X12_readAny_j78 G r9 v1 v2 (12 : Int32) μ
  else
  f_X12_readAny_j78 G r9 v1 v2 (9 : Int32) μ)
set_option maxHeartbeats 4000000 in
set_option maxRecDepth 100000 in
theorem f_X12_readAny_j66_ok  {G : Nat} {r : Int32} {μr : Mem}  {r9 : Int32 → Int32 → Mem → Option (Int32 × Mem)} (hr9 : ∀ (v1 : Int32) (v2 : Int32) (m : Mem), r9 v1 v2 m = some (r, μr) → Ev RX12 cX12_readAny 4 (some .int) false 8 0 0 (eqP (some r) shR μr) 9 [some (.ref 0), some (.int v1), some (.int v2), none] [] shR m 0 0) {v1 v2 v3 : Int32} {μ : Mem} (h : f_X12_readAny_j66 G r9 v1 v2 v3 μ = some (r, μr)) : Ev RX12 cX12_readAny 4 (some .int) false 8 0 0 (eqP (some r) shR μr) 66 [some (.ref 0), some (.int v1), some (.int v2), some (.int v3)] [] shR μ 0 0 := by
  unfold f_X12_readAny_j66 at h
  refine ev_aload_n dX12_readAny_66 rfl ?_
  refine ev_iload_n dX12_readAny_67 rfl ?_
  refine ev_if_eq (tgt := 76) dX12_readAny_68 (by decide) (fun hc38 => ?_) (fun hc38 => ?_)
  · replace h := ite_t hc38 h
    refine ev_bipush (v := (12 : Int32)) dX12_readAny_76 (by decide) ?_
    exact ev_lt (f_X12_readAny_j78_ok hr9 h) ⟨rfl, ⟨rfl, ⟨rfl, trivial⟩⟩⟩
  · replace h := ite_f hc38 h
    refine ev_bipush (v := (9 : Int32)) dX12_readAny_71 (by decide) ?_
    refine ev_goto (tgt := 78) dX12_readAny_73 (by decide) ?_
    exact ev_lt (f_X12_readAny_j78_ok hr9 h) ⟨rfl, ⟨rfl, ⟨rfl, trivial⟩⟩⟩
def f_X12_readAny_j33 (G : Nat) (r9 : Int32 → Int32 → Mem → Option (Int32 × Mem)) (v1 v2 v3 : Int32) (μ : Mem) : Option (Int32 × Mem) :=
  (if (μ 0 30) = (8 : Int32) then
  bndE (f_X12_errs G (3 : Int32) μ) (fun w45 m44 =>
  some (w45, m44))
  else
  (let m36 := wr μ 0 30 ((μ 0 30) + (1 : Int32))
  (if v3 = (0 : Int32) then
  f_X12_readAny_j66 G r9 (v1 + (1 : Int32)) v2 v3 m36
  else
  f_X12_readAny_j66 G r9 v1 v2 v3 m36)))
set_option maxHeartbeats 4000000 in
set_option maxRecDepth 100000 in
theorem f_X12_readAny_j33_ok  {G : Nat} {r : Int32} {μr : Mem}  {r9 : Int32 → Int32 → Mem → Option (Int32 × Mem)} (hr9 : ∀ (v1 : Int32) (v2 : Int32) (m : Mem), r9 v1 v2 m = some (r, μr) → Ev RX12 cX12_readAny 4 (some .int) false 8 0 0 (eqP (some r) shR μr) 9 [some (.ref 0), some (.int v1), some (.int v2), none] [] shR m 0 0) {v1 v2 v3 : Int32} {μ : Mem} (h : f_X12_readAny_j33 G r9 v1 v2 v3 μ = some (r, μr)) : Ev RX12 cX12_readAny 4 (some .int) false 8 0 0 (eqP (some r) shR μr) 33 [some (.ref 0), some (.int v1), some (.int v2), some (.int v3)] [] shR μ 0 0 := by
  unfold f_X12_readAny_j33 at h
  refine ev_aload_n dX12_readAny_33 rfl ?_
  refine ev_getI fr_X12_255 shR_0 rfl dX12_readAny_34 ?_
  refine ev_bipush (v := (8 : Int32)) dX12_readAny_37 (by decide) ?_
  refine ev_icmp_ne (tgt := 48) dX12_readAny_39 (by decide) (fun hc35 => ?_) (fun hc35 => ?_)
  · replace h := ite_f hc35 h
    refine ev_aload_n dX12_readAny_48 rfl ?_
    refine ev_aload_n dX12_readAny_49 rfl ?_
    refine ev_getI fr_X12_255 shR_0 rfl dX12_readAny_50 ?_
    refine ev_iconst (v := (1 : Int32)) dX12_readAny_53 (by decide) ?_
    refine ev_iadd dX12_readAny_54 ?_
    refine ev_putI fr_X12_255 shR_0 rfl rfl rfl dX12_readAny_55 ?_
    refine ev_iload_n dX12_readAny_58 rfl ?_
    refine ev_if_ne (tgt := 66) dX12_readAny_59 (by decide) (fun hc37 => ?_) (fun hc37 => ?_)
    · replace h := ite_f hc37 h
      exact ev_lt (f_X12_readAny_j66_ok hr9 h) ⟨rfl, ⟨rfl, ⟨rfl, ⟨rfl, trivial⟩⟩⟩⟩
    · replace h := ite_t hc37 h
      refine ev_iload_n dX12_readAny_62 rfl ?_
      refine ev_iconst (v := (1 : Int32)) dX12_readAny_63 (by decide) ?_
      refine ev_iadd dX12_readAny_64 ?_
      refine ev_istore_n (loc' := [_, _, _, _]) dX12_readAny_65 rfl (by decide) (by rfl) ?_
      exact ev_lt (f_X12_readAny_j66_ok hr9 h) ⟨rfl, ⟨rfl, ⟨rfl, ⟨rfl, trivial⟩⟩⟩⟩
  · replace h := ite_t hc35 h
    refine ev_aload_n dX12_readAny_42 rfl ?_
    refine ev_iconst (v := (3 : Int32)) dX12_readAny_43 (by decide) ?_
    obtain ⟨w45, m44, hq43, h⟩ := bndE_t h
    refine ev_cVi mv_X12_229 dX12_readAny_44 (c_X12_errs hq43) rfl shR_0 rfl rfl (Nat.le_of_ble_eq_true rfl) (by rfl) (Nat.le_of_ble_eq_true rfl) (Nat.le_of_ble_eq_true rfl) (Nat.le_of_ble_eq_true rfl) ?_
    exact ev_iret rfl rfl (by decide) (by decide) dX12_readAny_47 (eqP_E h)
def f_X12_readAny_L9 (G : Nat)  : Nat → Int32 → Int32 → Mem → Option (Int32 × Mem)
  | 0, _, _, _ => none
  | g + 1, v1, v2, μ =>
  (if v2 = (0 : Int32) then
  (if (f_X12_isWord μ (5 : Int32)) = (0 : Int32) then
  (if (f_X12_isWord μ (4 : Int32)) = (0 : Int32) then
  bndV (f_X12_settles G (10 : Int32) μ) (fun m6 =>
  bndV (f_X12_settles G (11 : Int32) m6) (fun m8 =>
  (if v1 = (0 : Int32) then
  some ((0 : Int32), m8)
  else
  (if (f_X12_isSign m8 (41 : Int32)) = (0 : Int32) then
  bndE (f_X12_errs G (1 : Int32) m8) (fun w19 m18 =>
  some (w19, m18))
  else
  (let m11 := wr m8 0 32 ((m8 0 32) - (1 : Int32))
  (let m12 := wr m11 0 30 ((m11 0 30) - (1 : Int32))
  bndV (f_X12_settles G (9 : Int32) m12) (fun m14 =>
  bndV (f_X12_reads G m14) (fun m16 =>
  (f_X12_readAny_L9 G g) (v1 - (1 : Int32)) v2 m16))))))))
  else
  bndV (f_X12_settles G (10 : Int32) μ) (fun m21 =>
  bndV (f_X12_settles G (11 : Int32) m21) (fun m23 =>
  bndV (f_X12_waits G (11 : Int32) m23) (fun m25 =>
  bndV (f_X12_reads G m25) (fun m27 =>
  (f_X12_readAny_L9 G g) v1 (1 : Int32) m27)))))
  else
  bndV (f_X12_settles G (10 : Int32) μ) (fun m29 =>
  bndV (f_X12_waits G (10 : Int32) m29) (fun m31 =>
  bndV (f_X12_reads G m31) (fun m33 =>
  (f_X12_readAny_L9 G g) v1 (1 : Int32) m33))))
  else
  (if (f_X12_isWord μ (6 : Int32)) = (0 : Int32) then
  (if (f_X12_isSign μ (40 : Int32)) = (0 : Int32) then
  bndE (f_X12_readCompared G μ) (fun w49 m48 =>
  (if w49 = (-1 : Int32) then
  some ((-1 : Int32), m48)
  else
  bndV (f_X12_settles G (9 : Int32) m48) (fun m52 =>
  (f_X12_readAny_L9 G g) v1 (0 : Int32) m52)))
  else
  f_X12_readAny_j33 G (f_X12_readAny_L9 G g) v1 v2 (f_X12_isWord μ (6 : Int32)) μ)
  else
  f_X12_readAny_j33 G (f_X12_readAny_L9 G g) v1 v2 (f_X12_isWord μ (6 : Int32)) μ))
set_option maxHeartbeats 4000000 in
set_option maxRecDepth 100000 in
theorem f_X12_readAny_L9_ok  {G : Nat} {r : Int32} {μr : Mem}    : ∀ (g : Nat) (v1 v2 : Int32) (μ : Mem), f_X12_readAny_L9 G g v1 v2 μ = some (r, μr) → Ev RX12 cX12_readAny 4 (some .int) false 8 0 0 (eqP (some r) shR μr) 9 [some (.ref 0), some (.int v1), some (.int v2), none] [] shR μ 0 0 := by
  intro g
  induction g with
  | zero =>
    intro v1 v2 μ h
    cases h
  | succ g ih =>
    intro v1 v2 μ h
    rw [f_X12_readAny_L9] at h
    refine ev_iload_n dX12_readAny_9 rfl ?_
    refine ev_if_eq (tgt := 109) dX12_readAny_10 (by decide) (fun hc2 => ?_) (fun hc2 => ?_)
    · replace h := ite_t hc2 h
      refine ev_aload_n dX12_readAny_109 rfl ?_
      refine ev_iconst (v := (5 : Int32)) dX12_readAny_110 (by decide) ?_
      refine ev_cVi mv_X12_258 dX12_readAny_111 c_X12_isWord rfl shR_0 rfl rfl (Nat.le_of_ble_eq_true rfl) (by rfl) (Nat.le_of_ble_eq_true rfl) (Nat.le_of_ble_eq_true rfl) (Nat.le_of_ble_eq_true rfl) ?_
      refine ev_if_eq (tgt := 138) dX12_readAny_114 (by decide) (fun hc3 => ?_) (fun hc3 => ?_)
      · replace h := ite_t hc3 h
        refine ev_aload_n dX12_readAny_138 rfl ?_
        refine ev_iconst (v := (4 : Int32)) dX12_readAny_139 (by decide) ?_
        refine ev_cVi mv_X12_258 dX12_readAny_140 c_X12_isWord rfl shR_0 rfl rfl (Nat.le_of_ble_eq_true rfl) (by rfl) (Nat.le_of_ble_eq_true rfl) (Nat.le_of_ble_eq_true rfl) (Nat.le_of_ble_eq_true rfl) ?_
        refine ev_if_eq (tgt := 173) dX12_readAny_143 (by decide) (fun hc4 => ?_) (fun hc4 => ?_)
        · replace h := ite_t hc4 h
          refine ev_aload_n dX12_readAny_173 rfl ?_
          refine ev_bipush (v := (10 : Int32)) dX12_readAny_174 (by decide) ?_
          obtain ⟨m6, hq5, h⟩ := bndV_t h
          refine ev_cVv mv_X12_267 dX12_readAny_176 (c_X12_settles hq5) rfl shR_0 rfl rfl (Nat.le_of_ble_eq_true rfl) (by rfl) (Nat.le_of_ble_eq_true rfl) (Nat.le_of_ble_eq_true rfl) (Nat.le_of_ble_eq_true rfl) ?_
          refine ev_aload_n dX12_readAny_179 rfl ?_
          refine ev_bipush (v := (11 : Int32)) dX12_readAny_180 (by decide) ?_
          obtain ⟨m8, hq7, h⟩ := bndV_t h
          refine ev_cVv mv_X12_267 dX12_readAny_182 (c_X12_settles hq7) rfl shR_0 rfl rfl (Nat.le_of_ble_eq_true rfl) (by rfl) (Nat.le_of_ble_eq_true rfl) (Nat.le_of_ble_eq_true rfl) (Nat.le_of_ble_eq_true rfl) ?_
          refine ev_iload_n dX12_readAny_185 rfl ?_
          refine ev_if_ne (tgt := 191) dX12_readAny_186 (by decide) (fun hc9 => ?_) (fun hc9 => ?_)
          · replace h := ite_f hc9 h
            refine ev_aload_n dX12_readAny_191 rfl ?_
            refine ev_bipush (v := (41 : Int32)) dX12_readAny_192 (by decide) ?_
            refine ev_cVi mv_X12_243 dX12_readAny_194 c_X12_isSign rfl shR_0 rfl rfl (Nat.le_of_ble_eq_true rfl) (by rfl) (Nat.le_of_ble_eq_true rfl) (Nat.le_of_ble_eq_true rfl) (Nat.le_of_ble_eq_true rfl) ?_
            refine ev_if_ne (tgt := 206) dX12_readAny_197 (by decide) (fun hc10 => ?_) (fun hc10 => ?_)
            · replace h := ite_f hc10 h
              refine ev_aload_n dX12_readAny_206 rfl ?_
              refine ev_aload_n dX12_readAny_207 rfl ?_
              refine ev_getI fr_X12_252 shR_0 rfl dX12_readAny_208 ?_
              refine ev_iconst (v := (1 : Int32)) dX12_readAny_211 (by decide) ?_
              refine ev_isub dX12_readAny_212 ?_
              refine ev_putI fr_X12_252 shR_0 rfl rfl rfl dX12_readAny_213 ?_
              refine ev_iload_n dX12_readAny_216 rfl ?_
              refine ev_iconst (v := (1 : Int32)) dX12_readAny_217 (by decide) ?_
              refine ev_isub dX12_readAny_218 ?_
              refine ev_istore_n (loc' := [_, _, _, _]) dX12_readAny_219 rfl (by decide) (by rfl) ?_
              refine ev_aload_n dX12_readAny_220 rfl ?_
              refine ev_aload_n dX12_readAny_221 rfl ?_
              refine ev_getI fr_X12_255 shR_0 rfl dX12_readAny_222 ?_
              refine ev_iconst (v := (1 : Int32)) dX12_readAny_225 (by decide) ?_
              refine ev_isub dX12_readAny_226 ?_
              refine ev_putI fr_X12_255 shR_0 rfl rfl rfl dX12_readAny_227 ?_
              refine ev_aload_n dX12_readAny_230 rfl ?_
              refine ev_bipush (v := (9 : Int32)) dX12_readAny_231 (by decide) ?_
              obtain ⟨m14, hq13, h⟩ := bndV_t h
              refine ev_cVv mv_X12_267 dX12_readAny_233 (c_X12_settles hq13) rfl shR_0 rfl rfl (Nat.le_of_ble_eq_true rfl) (by rfl) (Nat.le_of_ble_eq_true rfl) (Nat.le_of_ble_eq_true rfl) (Nat.le_of_ble_eq_true rfl) ?_
              refine ev_aload_n dX12_readAny_236 rfl ?_
              obtain ⟨m16, hq15, h⟩ := bndV_t h
              refine ev_cVv mv_X12_236 dX12_readAny_237 (c_X12_reads hq15) rfl shR_0 rfl rfl (Nat.le_of_ble_eq_true rfl) (by rfl) (Nat.le_of_ble_eq_true rfl) (Nat.le_of_ble_eq_true rfl) (Nat.le_of_ble_eq_true rfl) ?_
              refine ev_goto (tgt := 9) dX12_readAny_240 (by decide) ?_
              exact ev_lt (ih _ _ _ h) ⟨rfl, ⟨rfl, ⟨rfl, trivial⟩⟩⟩
            · replace h := ite_t hc10 h
              refine ev_aload_n dX12_readAny_200 rfl ?_
              refine ev_iconst (v := (1 : Int32)) dX12_readAny_201 (by decide) ?_
              obtain ⟨w19, m18, hq17, h⟩ := bndE_t h
              refine ev_cVi mv_X12_229 dX12_readAny_202 (c_X12_errs hq17) rfl shR_0 rfl rfl (Nat.le_of_ble_eq_true rfl) (by rfl) (Nat.le_of_ble_eq_true rfl) (Nat.le_of_ble_eq_true rfl) (Nat.le_of_ble_eq_true rfl) ?_
              exact ev_iret rfl rfl (by decide) (by decide) dX12_readAny_205 (eqP_E h)
          · replace h := ite_t hc9 h
            refine ev_iconst (v := (0 : Int32)) dX12_readAny_189 (by decide) ?_
            exact ev_iret rfl rfl (by decide) (by decide) dX12_readAny_190 (eqP_E h)
        · replace h := ite_f hc4 h
          refine ev_aload_n dX12_readAny_146 rfl ?_
          refine ev_bipush (v := (10 : Int32)) dX12_readAny_147 (by decide) ?_
          obtain ⟨m21, hq20, h⟩ := bndV_t h
          refine ev_cVv mv_X12_267 dX12_readAny_149 (c_X12_settles hq20) rfl shR_0 rfl rfl (Nat.le_of_ble_eq_true rfl) (by rfl) (Nat.le_of_ble_eq_true rfl) (Nat.le_of_ble_eq_true rfl) (Nat.le_of_ble_eq_true rfl) ?_
          refine ev_aload_n dX12_readAny_152 rfl ?_
          refine ev_bipush (v := (11 : Int32)) dX12_readAny_153 (by decide) ?_
          obtain ⟨m23, hq22, h⟩ := bndV_t h
          refine ev_cVv mv_X12_267 dX12_readAny_155 (c_X12_settles hq22) rfl shR_0 rfl rfl (Nat.le_of_ble_eq_true rfl) (by rfl) (Nat.le_of_ble_eq_true rfl) (Nat.le_of_ble_eq_true rfl) (Nat.le_of_ble_eq_true rfl) ?_
          refine ev_aload_n dX12_readAny_158 rfl ?_
          refine ev_bipush (v := (11 : Int32)) dX12_readAny_159 (by decide) ?_
          obtain ⟨m25, hq24, h⟩ := bndV_t h
          refine ev_cVv mv_X12_261 dX12_readAny_161 (c_X12_waits hq24) rfl shR_0 rfl rfl (Nat.le_of_ble_eq_true rfl) (by rfl) (Nat.le_of_ble_eq_true rfl) (Nat.le_of_ble_eq_true rfl) (Nat.le_of_ble_eq_true rfl) ?_
          refine ev_aload_n dX12_readAny_164 rfl ?_
          obtain ⟨m27, hq26, h⟩ := bndV_t h
          refine ev_cVv mv_X12_236 dX12_readAny_165 (c_X12_reads hq26) rfl shR_0 rfl rfl (Nat.le_of_ble_eq_true rfl) (by rfl) (Nat.le_of_ble_eq_true rfl) (Nat.le_of_ble_eq_true rfl) (Nat.le_of_ble_eq_true rfl) ?_
          refine ev_iconst (v := (1 : Int32)) dX12_readAny_168 (by decide) ?_
          refine ev_istore_n (loc' := [_, _, _, _]) dX12_readAny_169 rfl (by decide) (by rfl) ?_
          refine ev_goto (tgt := 9) dX12_readAny_170 (by decide) ?_
          exact ev_lt (ih _ _ _ h) ⟨rfl, ⟨rfl, ⟨rfl, trivial⟩⟩⟩
      · replace h := ite_f hc3 h
        refine ev_aload_n dX12_readAny_117 rfl ?_
        refine ev_bipush (v := (10 : Int32)) dX12_readAny_118 (by decide) ?_
        obtain ⟨m29, hq28, h⟩ := bndV_t h
        refine ev_cVv mv_X12_267 dX12_readAny_120 (c_X12_settles hq28) rfl shR_0 rfl rfl (Nat.le_of_ble_eq_true rfl) (by rfl) (Nat.le_of_ble_eq_true rfl) (Nat.le_of_ble_eq_true rfl) (Nat.le_of_ble_eq_true rfl) ?_
        refine ev_aload_n dX12_readAny_123 rfl ?_
        refine ev_bipush (v := (10 : Int32)) dX12_readAny_124 (by decide) ?_
        obtain ⟨m31, hq30, h⟩ := bndV_t h
        refine ev_cVv mv_X12_261 dX12_readAny_126 (c_X12_waits hq30) rfl shR_0 rfl rfl (Nat.le_of_ble_eq_true rfl) (by rfl) (Nat.le_of_ble_eq_true rfl) (Nat.le_of_ble_eq_true rfl) (Nat.le_of_ble_eq_true rfl) ?_
        refine ev_aload_n dX12_readAny_129 rfl ?_
        obtain ⟨m33, hq32, h⟩ := bndV_t h
        refine ev_cVv mv_X12_236 dX12_readAny_130 (c_X12_reads hq32) rfl shR_0 rfl rfl (Nat.le_of_ble_eq_true rfl) (by rfl) (Nat.le_of_ble_eq_true rfl) (Nat.le_of_ble_eq_true rfl) (Nat.le_of_ble_eq_true rfl) ?_
        refine ev_iconst (v := (1 : Int32)) dX12_readAny_133 (by decide) ?_
        refine ev_istore_n (loc' := [_, _, _, _]) dX12_readAny_134 rfl (by decide) (by rfl) ?_
        refine ev_goto (tgt := 9) dX12_readAny_135 (by decide) ?_
        exact ev_lt (ih _ _ _ h) ⟨rfl, ⟨rfl, ⟨rfl, trivial⟩⟩⟩
    · replace h := ite_f hc2 h
      refine ev_aload_n dX12_readAny_13 rfl ?_
      refine ev_bipush (v := (6 : Int32)) dX12_readAny_14 (by decide) ?_
      refine ev_cVi mv_X12_258 dX12_readAny_16 c_X12_isWord rfl shR_0 rfl rfl (Nat.le_of_ble_eq_true rfl) (by rfl) (Nat.le_of_ble_eq_true rfl) (Nat.le_of_ble_eq_true rfl) (Nat.le_of_ble_eq_true rfl) ?_
      refine ev_istore_n (loc' := [_, _, _, _]) dX12_readAny_19 rfl (by decide) (by rfl) ?_
      refine ev_iload_n dX12_readAny_20 rfl ?_
      refine ev_if_ne (tgt := 33) dX12_readAny_21 (by decide) (fun hc34 => ?_) (fun hc34 => ?_)
      · replace h := ite_f hc34 h
        exact ev_lt (f_X12_readAny_j33_ok ih h) ⟨rfl, ⟨rfl, ⟨rfl, ⟨rfl, trivial⟩⟩⟩⟩
      · replace h := ite_t hc34 h
        refine ev_aload_n dX12_readAny_24 rfl ?_
        refine ev_bipush (v := (40 : Int32)) dX12_readAny_25 (by decide) ?_
        refine ev_cVi mv_X12_243 dX12_readAny_27 c_X12_isSign rfl shR_0 rfl rfl (Nat.le_of_ble_eq_true rfl) (by rfl) (Nat.le_of_ble_eq_true rfl) (Nat.le_of_ble_eq_true rfl) (Nat.le_of_ble_eq_true rfl) ?_
        refine ev_if_eq (tgt := 88) dX12_readAny_30 (by decide) (fun hc46 => ?_) (fun hc46 => ?_)
        · replace h := ite_t hc46 h
          refine ev_aload_n dX12_readAny_88 rfl ?_
          obtain ⟨w49, m48, hq47, h⟩ := bndE_t h
          refine ev_cVi mv_X12_264 dX12_readAny_89 (c_X12_readCompared hq47) rfl shR_0 rfl rfl (Nat.le_of_ble_eq_true rfl) (by rfl) (Nat.le_of_ble_eq_true rfl) (Nat.le_of_ble_eq_true rfl) (Nat.le_of_ble_eq_true rfl) ?_
          refine ev_iconst (v := (-1 : Int32)) dX12_readAny_92 (by decide) ?_
          refine ev_icmp_ne (tgt := 98) dX12_readAny_93 (by decide) (fun hc50 => ?_) (fun hc50 => ?_)
          · replace h := ite_f hc50 h
            refine ev_aload_n dX12_readAny_98 rfl ?_
            refine ev_bipush (v := (9 : Int32)) dX12_readAny_99 (by decide) ?_
            obtain ⟨m52, hq51, h⟩ := bndV_t h
            refine ev_cVv mv_X12_267 dX12_readAny_101 (c_X12_settles hq51) rfl shR_0 rfl rfl (Nat.le_of_ble_eq_true rfl) (by rfl) (Nat.le_of_ble_eq_true rfl) (Nat.le_of_ble_eq_true rfl) (Nat.le_of_ble_eq_true rfl) ?_
            refine ev_iconst (v := (0 : Int32)) dX12_readAny_104 (by decide) ?_
            refine ev_istore_n (loc' := [_, _, _, _]) dX12_readAny_105 rfl (by decide) (by rfl) ?_
            refine ev_goto (tgt := 9) dX12_readAny_106 (by decide) ?_
            exact ev_lt (ih _ _ _ h) ⟨rfl, ⟨rfl, ⟨rfl, trivial⟩⟩⟩
          · replace h := ite_t hc50 h
            refine ev_iconst (v := (-1 : Int32)) dX12_readAny_96 (by decide) ?_
            exact ev_iret rfl rfl (by decide) (by decide) dX12_readAny_97 (eqP_E h)
        · replace h := ite_f hc46 h
          exact ev_lt (f_X12_readAny_j33_ok ih h) ⟨rfl, ⟨rfl, ⟨rfl, ⟨rfl, trivial⟩⟩⟩⟩
def f_X12_readAny (G : Nat) (μ : Mem) : Option (Int32 × Mem) :=
  (let m1 := wr μ 0 32 (0 : Int32)
  f_X12_readAny_L9 G G (0 : Int32) (1 : Int32) m1)
set_option maxHeartbeats 4000000 in
set_option maxRecDepth 100000 in
theorem c_X12_readAny  {G : Nat} {μ : Mem} {r : Int32} {μr : Mem}  (h : f_X12_readAny G μ = some (r, μr)) : Cn yX12_readAny cX12_readAny 4 (some .int) 8 0 0 [.ref 0] shR μ (eqP (some r) shR μr) := by
  refine cn_of (own := RX12) (ini := false) (loc := [some (.ref 0), none, none, none]) rfl (by decide) (fun q => by cases q) (Nat.le_of_ble_eq_true rfl) (by rfl) rfl ?_
  unfold f_X12_readAny at h
  refine ev_iconst (v := (0 : Int32)) dX12_readAny_0 (by decide) ?_
  refine ev_istore_n (loc' := [_, _, _, _]) dX12_readAny_1 rfl (by decide) (by rfl) ?_
  refine ev_aload_n dX12_readAny_2 rfl ?_
  refine ev_iconst (v := (0 : Int32)) dX12_readAny_3 (by decide) ?_
  refine ev_putI fr_X12_252 shR_0 rfl rfl rfl dX12_readAny_4 ?_
  refine ev_iconst (v := (1 : Int32)) dX12_readAny_7 (by decide) ?_
  refine ev_istore_n (loc' := [_, _, _, _]) dX12_readAny_8 rfl (by decide) (by rfl) ?_
  exact ev_lt (f_X12_readAny_L9_ok _ _ _ _ h) ⟨rfl, ⟨rfl, ⟨rfl, trivial⟩⟩⟩
def f_X12_isLineWord (μ : Mem) : Int32 :=
  (if (μ 0 18) = (2 : Int32) then
  (if (f_X12_isIn (μ 0 19) (0 : Int32) (2 : Int32)) = (0 : Int32) then
  (0 : Int32)
  else
  (1 : Int32))
  else
  (0 : Int32))
set_option maxHeartbeats 4000000 in
set_option maxRecDepth 100000 in
theorem c_X12_isLineWord  {μ : Mem}   : Cn yX12_isLineWord cX12_isLineWord 1 (some .boolean) 2 0 0 [.ref 0] shR μ (eqP (some (f_X12_isLineWord μ)) shR μ) := by
  obtain ⟨r, h⟩ : ∃ r, f_X12_isLineWord μ = r := ⟨_, rfl⟩
  rw [h]
  refine cn_of (own := RX12) (ini := false) (loc := [some (.ref 0)]) rfl (by decide) (fun q => by cases q) (Nat.le_of_ble_eq_true rfl) (by rfl) rfl ?_
  unfold f_X12_isLineWord at h
  refine ev_aload_n dX12_isLineWord_0 rfl ?_
  refine ev_getI fr_X12_198 shR_0 rfl dX12_isLineWord_1 ?_
  refine ev_iconst (v := (2 : Int32)) dX12_isLineWord_4 (by decide) ?_
  refine ev_icmp_ne (tgt := 25) dX12_isLineWord_5 (by decide) (fun hc1 => ?_) (fun hc1 => ?_)
  · replace h := ite_f hc1 h
    refine ev_iconst (v := (0 : Int32)) dX12_isLineWord_25 (by decide) ?_
    exact ev_iret rfl rfl (by decide) (by decide) dX12_isLineWord_26 (eqP_P h)
  · replace h := ite_t hc1 h
    refine ev_aload_n dX12_isLineWord_8 rfl ?_
    refine ev_aload_n dX12_isLineWord_9 rfl ?_
    refine ev_getI fr_X12_201 shR_0 rfl dX12_isLineWord_10 ?_
    refine ev_iconst (v := (0 : Int32)) dX12_isLineWord_13 (by decide) ?_
    refine ev_iconst (v := (2 : Int32)) dX12_isLineWord_14 (by decide) ?_
    refine ev_cVi mv_X12_167 dX12_isLineWord_15 c_X12_isIn rfl shR_0 rfl rfl (Nat.le_of_ble_eq_true rfl) (by rfl) (Nat.le_of_ble_eq_true rfl) (Nat.le_of_ble_eq_true rfl) (Nat.le_of_ble_eq_true rfl) ?_
    refine ev_if_eq (tgt := 25) dX12_isLineWord_18 (by decide) (fun hc2 => ?_) (fun hc2 => ?_)
    · replace h := ite_t hc2 h
      refine ev_iconst (v := (0 : Int32)) dX12_isLineWord_25 (by decide) ?_
      exact ev_iret rfl rfl (by decide) (by decide) dX12_isLineWord_26 (eqP_P h)
    · replace h := ite_f hc2 h
      refine ev_iconst (v := (1 : Int32)) dX12_isLineWord_21 (by decide) ?_
      refine ev_goto (tgt := 26) dX12_isLineWord_22 (by decide) ?_
      exact ev_iret rfl rfl (by decide) (by decide) dX12_isLineWord_26 (eqP_P h)
def f_X12_readLaw_j92 (G : Nat) (r2 : Int32 → Mem → Option (Int32 × Mem)) (k2_128 : Int32 → Mem → Option (Int32 × Mem)) (v1 v2 : Int32) (μ : Mem) : Option (Int32 × Mem) :=
  chk v2 48 (let m16 := wr μ 16 (ix v2) (μ 0 29)
  (if (f_X12_isSign m16 (59 : Int32)) = (0 : Int32) then
  bndE (f_X12_errs G (1 : Int32) m16) (fun w23 m22 =>
  some (w23, m22))
  else
  bndV (f_X12_reads G m16) (fun m20 =>
  r2 (v1 + (1 : Int32)) m20)))
set_option maxHeartbeats 4000000 in
set_option maxRecDepth 100000 in
theorem f_X12_readLaw_j92_ok  {G : Nat} {r : Int32} {μr : Mem}  {r2 : Int32 → Mem → Option (Int32 × Mem)} {k2_128 : Int32 → Mem → Option (Int32 × Mem)} (hr2 : ∀ (v1 : Int32) (m : Mem), r2 v1 m = some (r, μr) → Ev RX12 cX12_readLaw 3 (some .int) false 9 0 0 (eqP (some r) shR μr) 2 [some (.ref 0), some (.int v1), none] [] shR m 0 0) (hk2_128 : ∀ (v1 : Int32) (m : Mem), k2_128 v1 m = some (r, μr) → Ev RX12 cX12_readLaw 3 (some .int) false 9 0 0 (eqP (some r) shR μr) 128 [some (.ref 0), some (.int v1), none] [] shR m 0 0) {v1 v2 : Int32} {μ : Mem} (h : f_X12_readLaw_j92 G r2 k2_128 v1 v2 μ = some (r, μr)) : Ev RX12 cX12_readLaw 3 (some .int) false 9 0 0 (eqP (some r) shR μr) 92 [some (.ref 0), some (.int v1), some (.int v2)] [] shR μ 0 0 := by
  unfold f_X12_readLaw_j92 at h
  refine ev_aload_n dX12_readLaw_92 rfl ?_
  refine ev_getR fr_X12_55 shR_0 rfl dX12_readLaw_93 ?_
  refine ev_iload_n dX12_readLaw_96 rfl ?_
  refine ev_aload_n dX12_readLaw_97 rfl ?_
  refine ev_getI fr_X12_223 shR_0 rfl dX12_readLaw_98 ?_
  obtain ⟨hi17, h⟩ := chk_t h
  refine ev_iast shR_16 hi17 dX12_readLaw_101 ?_
  refine ev_aload_n dX12_readLaw_102 rfl ?_
  refine ev_bipush (v := (59 : Int32)) dX12_readLaw_103 (by decide) ?_
  refine ev_cVi mv_X12_243 dX12_readLaw_105 c_X12_isSign rfl shR_0 rfl rfl (Nat.le_of_ble_eq_true rfl) (by rfl) (Nat.le_of_ble_eq_true rfl) (Nat.le_of_ble_eq_true rfl) (Nat.le_of_ble_eq_true rfl) ?_
  refine ev_if_ne (tgt := 117) dX12_readLaw_108 (by decide) (fun hc18 => ?_) (fun hc18 => ?_)
  · replace h := ite_f hc18 h
    refine ev_aload_n dX12_readLaw_117 rfl ?_
    obtain ⟨m20, hq19, h⟩ := bndV_t h
    refine ev_cVv mv_X12_236 dX12_readLaw_118 (c_X12_reads hq19) rfl shR_0 rfl rfl (Nat.le_of_ble_eq_true rfl) (by rfl) (Nat.le_of_ble_eq_true rfl) (Nat.le_of_ble_eq_true rfl) (Nat.le_of_ble_eq_true rfl) ?_
    refine ev_iload_n dX12_readLaw_121 rfl ?_
    refine ev_iconst (v := (1 : Int32)) dX12_readLaw_122 (by decide) ?_
    refine ev_iadd dX12_readLaw_123 ?_
    refine ev_istore_n (loc' := [_, _, _]) dX12_readLaw_124 rfl (by decide) (by rfl) ?_
    refine ev_goto (tgt := 2) dX12_readLaw_125 (by decide) ?_
    exact ev_lt (hr2 _ _ h) ⟨rfl, ⟨rfl, trivial⟩⟩
  · replace h := ite_t hc18 h
    refine ev_aload_n dX12_readLaw_111 rfl ?_
    refine ev_iconst (v := (1 : Int32)) dX12_readLaw_112 (by decide) ?_
    obtain ⟨w23, m22, hq21, h⟩ := bndE_t h
    refine ev_cVi mv_X12_229 dX12_readLaw_113 (c_X12_errs hq21) rfl shR_0 rfl rfl (Nat.le_of_ble_eq_true rfl) (by rfl) (Nat.le_of_ble_eq_true rfl) (Nat.le_of_ble_eq_true rfl) (Nat.le_of_ble_eq_true rfl) ?_
    exact ev_iret rfl rfl (by decide) (by decide) dX12_readLaw_116 (eqP_E h)
def f_X12_readLaw_L2 (G : Nat) (k2_128 : Int32 → Mem → Option (Int32 × Mem)) : Nat → Int32 → Mem → Option (Int32 × Mem)
  | 0, _, _ => none
  | g + 1, v1, μ =>
  (if (f_X12_isLineWord μ) = (0 : Int32) then
  k2_128 v1 μ
  else
  (if v1 = (16 : Int32) then
  bndE (f_X12_errs G (3 : Int32) μ) (fun w32 m31 =>
  some (w32, m31))
  else
  chk ((32 : Int32) + v1) 48 (let m3 := wr μ 13 (ix ((32 : Int32) + v1)) (μ 0 19)
  bndV (f_X12_reads G m3) (fun m6 =>
  chk ((32 : Int32) + v1) 48 (let m7 := wr m6 14 (ix ((32 : Int32) + v1)) (m6 0 29)
  bndE (f_X12_readSum G m7) (fun w11 m10 =>
  (if w11 = (-1 : Int32) then
  some ((-1 : Int32), m10)
  else
  chk ((32 : Int32) + v1) 48 (let m13 := wr m10 15 (ix ((32 : Int32) + v1)) (m10 0 29)
  (if (f_X12_isWord m13 (3 : Int32)) = (0 : Int32) then
  f_X12_readLaw_j92 G (f_X12_readLaw_L2 G k2_128 g) k2_128 v1 ((32 : Int32) + v1) m13
  else
  bndV (f_X12_reads G m13) (fun m25 =>
  bndE (f_X12_readAny G m25) (fun w28 m27 =>
  (if w28 = (-1 : Int32) then
  some ((-1 : Int32), m27)
  else
  f_X12_readLaw_j92 G (f_X12_readLaw_L2 G k2_128 g) k2_128 v1 ((32 : Int32) + v1) m27))))))))))))
set_option maxHeartbeats 4000000 in
set_option maxRecDepth 100000 in
theorem f_X12_readLaw_L2_ok  {G : Nat} {r : Int32} {μr : Mem}  {k2_128 : Int32 → Mem → Option (Int32 × Mem)} (hk2_128 : ∀ (v1 : Int32) (m : Mem), k2_128 v1 m = some (r, μr) → Ev RX12 cX12_readLaw 3 (some .int) false 9 0 0 (eqP (some r) shR μr) 128 [some (.ref 0), some (.int v1), none] [] shR m 0 0) : ∀ (g : Nat) (v1 : Int32) (μ : Mem), f_X12_readLaw_L2 G k2_128 g v1 μ = some (r, μr) → Ev RX12 cX12_readLaw 3 (some .int) false 9 0 0 (eqP (some r) shR μr) 2 [some (.ref 0), some (.int v1), none] [] shR μ 0 0 := by
  intro g
  induction g with
  | zero =>
    intro v1 μ h
    cases h
  | succ g ih =>
    intro v1 μ h
    rw [f_X12_readLaw_L2] at h
    refine ev_aload_n dX12_readLaw_2 rfl ?_
    refine ev_cVi mv_X12_270 dX12_readLaw_3 c_X12_isLineWord rfl shR_0 rfl rfl (Nat.le_of_ble_eq_true rfl) (by rfl) (Nat.le_of_ble_eq_true rfl) (Nat.le_of_ble_eq_true rfl) (Nat.le_of_ble_eq_true rfl) ?_
    refine ev_if_eq (tgt := 128) dX12_readLaw_6 (by decide) (fun hc1 => ?_) (fun hc1 => ?_)
    · replace h := ite_t hc1 h
      exact ev_lt (hk2_128 _ _ h) ⟨rfl, ⟨rfl, trivial⟩⟩
    · replace h := ite_f hc1 h
      refine ev_iload_n dX12_readLaw_9 rfl ?_
      refine ev_bipush (v := (16 : Int32)) dX12_readLaw_10 (by decide) ?_
      refine ev_icmp_ne (tgt := 21) dX12_readLaw_12 (by decide) (fun hc2 => ?_) (fun hc2 => ?_)
      · replace h := ite_f hc2 h
        refine ev_bipush (v := (32 : Int32)) dX12_readLaw_21 (by decide) ?_
        refine ev_iload_n dX12_readLaw_23 rfl ?_
        refine ev_iadd dX12_readLaw_24 ?_
        refine ev_istore_n (loc' := [_, _, _]) dX12_readLaw_25 rfl (by decide) (by rfl) ?_
        refine ev_aload_n dX12_readLaw_26 rfl ?_
        refine ev_getR fr_X12_46 shR_0 rfl dX12_readLaw_27 ?_
        refine ev_iload_n dX12_readLaw_30 rfl ?_
        refine ev_aload_n dX12_readLaw_31 rfl ?_
        refine ev_getI fr_X12_201 shR_0 rfl dX12_readLaw_32 ?_
        obtain ⟨hi4, h⟩ := chk_t h
        refine ev_iast shR_13 hi4 dX12_readLaw_35 ?_
        refine ev_aload_n dX12_readLaw_36 rfl ?_
        obtain ⟨m6, hq5, h⟩ := bndV_t h
        refine ev_cVv mv_X12_236 dX12_readLaw_37 (c_X12_reads hq5) rfl shR_0 rfl rfl (Nat.le_of_ble_eq_true rfl) (by rfl) (Nat.le_of_ble_eq_true rfl) (Nat.le_of_ble_eq_true rfl) (Nat.le_of_ble_eq_true rfl) ?_
        refine ev_aload_n dX12_readLaw_40 rfl ?_
        refine ev_getR fr_X12_49 shR_0 rfl dX12_readLaw_41 ?_
        refine ev_iload_n dX12_readLaw_44 rfl ?_
        refine ev_aload_n dX12_readLaw_45 rfl ?_
        refine ev_getI fr_X12_223 shR_0 rfl dX12_readLaw_46 ?_
        obtain ⟨hi8, h⟩ := chk_t h
        refine ev_iast shR_14 hi8 dX12_readLaw_49 ?_
        refine ev_aload_n dX12_readLaw_50 rfl ?_
        obtain ⟨w11, m10, hq9, h⟩ := bndE_t h
        refine ev_cVi mv_X12_249 dX12_readLaw_51 (c_X12_readSum hq9) rfl shR_0 rfl rfl (Nat.le_of_ble_eq_true rfl) (by rfl) (Nat.le_of_ble_eq_true rfl) (Nat.le_of_ble_eq_true rfl) (Nat.le_of_ble_eq_true rfl) ?_
        refine ev_iconst (v := (-1 : Int32)) dX12_readLaw_54 (by decide) ?_
        refine ev_icmp_ne (tgt := 60) dX12_readLaw_55 (by decide) (fun hc12 => ?_) (fun hc12 => ?_)
        · replace h := ite_f hc12 h
          refine ev_aload_n dX12_readLaw_60 rfl ?_
          refine ev_getR fr_X12_52 shR_0 rfl dX12_readLaw_61 ?_
          refine ev_iload_n dX12_readLaw_64 rfl ?_
          refine ev_aload_n dX12_readLaw_65 rfl ?_
          refine ev_getI fr_X12_223 shR_0 rfl dX12_readLaw_66 ?_
          obtain ⟨hi14, h⟩ := chk_t h
          refine ev_iast shR_15 hi14 dX12_readLaw_69 ?_
          refine ev_aload_n dX12_readLaw_70 rfl ?_
          refine ev_iconst (v := (3 : Int32)) dX12_readLaw_71 (by decide) ?_
          refine ev_cVi mv_X12_258 dX12_readLaw_72 c_X12_isWord rfl shR_0 rfl rfl (Nat.le_of_ble_eq_true rfl) (by rfl) (Nat.le_of_ble_eq_true rfl) (Nat.le_of_ble_eq_true rfl) (Nat.le_of_ble_eq_true rfl) ?_
          refine ev_if_eq (tgt := 92) dX12_readLaw_75 (by decide) (fun hc15 => ?_) (fun hc15 => ?_)
          · replace h := ite_t hc15 h
            exact ev_lt (f_X12_readLaw_j92_ok ih hk2_128 h) ⟨rfl, ⟨rfl, ⟨rfl, trivial⟩⟩⟩
          · replace h := ite_f hc15 h
            refine ev_aload_n dX12_readLaw_78 rfl ?_
            obtain ⟨m25, hq24, h⟩ := bndV_t h
            refine ev_cVv mv_X12_236 dX12_readLaw_79 (c_X12_reads hq24) rfl shR_0 rfl rfl (Nat.le_of_ble_eq_true rfl) (by rfl) (Nat.le_of_ble_eq_true rfl) (Nat.le_of_ble_eq_true rfl) (Nat.le_of_ble_eq_true rfl) ?_
            refine ev_aload_n dX12_readLaw_82 rfl ?_
            obtain ⟨w28, m27, hq26, h⟩ := bndE_t h
            refine ev_cVi mv_X12_274 dX12_readLaw_83 (c_X12_readAny hq26) rfl shR_0 rfl rfl (Nat.le_of_ble_eq_true rfl) (by rfl) (Nat.le_of_ble_eq_true rfl) (Nat.le_of_ble_eq_true rfl) (Nat.le_of_ble_eq_true rfl) ?_
            refine ev_iconst (v := (-1 : Int32)) dX12_readLaw_86 (by decide) ?_
            refine ev_icmp_ne (tgt := 92) dX12_readLaw_87 (by decide) (fun hc29 => ?_) (fun hc29 => ?_)
            · replace h := ite_f hc29 h
              exact ev_lt (f_X12_readLaw_j92_ok ih hk2_128 h) ⟨rfl, ⟨rfl, ⟨rfl, trivial⟩⟩⟩
            · replace h := ite_t hc29 h
              refine ev_iconst (v := (-1 : Int32)) dX12_readLaw_90 (by decide) ?_
              exact ev_iret rfl rfl (by decide) (by decide) dX12_readLaw_91 (eqP_E h)
        · replace h := ite_t hc12 h
          refine ev_iconst (v := (-1 : Int32)) dX12_readLaw_58 (by decide) ?_
          exact ev_iret rfl rfl (by decide) (by decide) dX12_readLaw_59 (eqP_E h)
      · replace h := ite_t hc2 h
        refine ev_aload_n dX12_readLaw_15 rfl ?_
        refine ev_iconst (v := (3 : Int32)) dX12_readLaw_16 (by decide) ?_
        obtain ⟨w32, m31, hq30, h⟩ := bndE_t h
        refine ev_cVi mv_X12_229 dX12_readLaw_17 (c_X12_errs hq30) rfl shR_0 rfl rfl (Nat.le_of_ble_eq_true rfl) (by rfl) (Nat.le_of_ble_eq_true rfl) (Nat.le_of_ble_eq_true rfl) (Nat.le_of_ble_eq_true rfl) ?_
        exact ev_iret rfl rfl (by decide) (by decide) dX12_readLaw_20 (eqP_E h)
def f_X12_readLaw_j128 (G : Nat)  (v1 : Int32) (μ : Mem) : Option (Int32 × Mem) :=
  (if (μ 0 18) = (0 : Int32) then
  some (v1, μ)
  else
  bndE (f_X12_errs G (1 : Int32) μ) (fun w36 m35 =>
  some (w36, m35)))
set_option maxHeartbeats 4000000 in
set_option maxRecDepth 100000 in
theorem f_X12_readLaw_j128_ok  {G : Nat} {r : Int32} {μr : Mem}    {v1 : Int32} {μ : Mem} (h : f_X12_readLaw_j128 G v1 μ = some (r, μr)) : Ev RX12 cX12_readLaw 3 (some .int) false 9 0 0 (eqP (some r) shR μr) 128 [some (.ref 0), some (.int v1), none] [] shR μ 0 0 := by
  unfold f_X12_readLaw_j128 at h
  refine ev_aload_n dX12_readLaw_128 rfl ?_
  refine ev_getI fr_X12_198 shR_0 rfl dX12_readLaw_129 ?_
  refine ev_if_ne (tgt := 139) dX12_readLaw_132 (by decide) (fun hc33 => ?_) (fun hc33 => ?_)
  · replace h := ite_f hc33 h
    refine ev_aload_n dX12_readLaw_139 rfl ?_
    refine ev_iconst (v := (1 : Int32)) dX12_readLaw_140 (by decide) ?_
    obtain ⟨w36, m35, hq34, h⟩ := bndE_t h
    refine ev_cVi mv_X12_229 dX12_readLaw_141 (c_X12_errs hq34) rfl shR_0 rfl rfl (Nat.le_of_ble_eq_true rfl) (by rfl) (Nat.le_of_ble_eq_true rfl) (Nat.le_of_ble_eq_true rfl) (Nat.le_of_ble_eq_true rfl) ?_
    exact ev_iret rfl rfl (by decide) (by decide) dX12_readLaw_144 (eqP_E h)
  · replace h := ite_t hc33 h
    refine ev_iload_n dX12_readLaw_135 rfl ?_
    refine ev_goto (tgt := 144) dX12_readLaw_136 (by decide) ?_
    exact ev_iret rfl rfl (by decide) (by decide) dX12_readLaw_144 (eqP_E h)
def f_X12_readLaw (G : Nat) (μ : Mem) : Option (Int32 × Mem) :=
  f_X12_readLaw_L2 G (f_X12_readLaw_j128 G) G (0 : Int32) μ
set_option maxHeartbeats 4000000 in
set_option maxRecDepth 100000 in
theorem c_X12_readLaw  {G : Nat} {μ : Mem} {r : Int32} {μr : Mem}  (h : f_X12_readLaw G μ = some (r, μr)) : Cn yX12_readLaw cX12_readLaw 3 (some .int) 9 0 0 [.ref 0] shR μ (eqP (some r) shR μr) := by
  refine cn_of (own := RX12) (ini := false) (loc := [some (.ref 0), none, none]) rfl (by decide) (fun q => by cases q) (Nat.le_of_ble_eq_true rfl) (by rfl) rfl ?_
  unfold f_X12_readLaw at h
  refine ev_iconst (v := (0 : Int32)) dX12_readLaw_0 (by decide) ?_
  refine ev_istore_n (loc' := [_, _, _]) dX12_readLaw_1 rfl (by decide) (by rfl) ?_
  exact ev_lt (f_X12_readLaw_L2_ok (fun _ _ hh => f_X12_readLaw_j128_ok hh) _ _ _ h) ⟨rfl, ⟨rfl, trivial⟩⟩
def f_X12_takesLaw_L2 (G : Nat) (k2_105 : Int32 → Mem → Option Mem) : Nat → Int32 → Int32 → Mem → Option Mem
  | 0, _, _, _ => none
  | g + 1, v1, v2, μ =>
  (if v1 ≤ v2 then
  k2_105 v1 μ
  else
  chk ((32 : Int32) + v2) 48 (chk (((16 : Int32) * (μ 0 28)) + v2) 48 (let m3 := wr μ 13 (ix (((16 : Int32) * (μ 0 28)) + v2)) (μ 13 (ix ((32 : Int32) + v2)))
  chk ((32 : Int32) + v2) 48 (chk (((16 : Int32) * (m3 0 28)) + v2) 48 (let m6 := wr m3 14 (ix (((16 : Int32) * (m3 0 28)) + v2)) (m3 14 (ix ((32 : Int32) + v2)))
  chk ((32 : Int32) + v2) 48 (chk (((16 : Int32) * (m6 0 28)) + v2) 48 (let m9 := wr m6 15 (ix (((16 : Int32) * (m6 0 28)) + v2)) (m6 15 (ix ((32 : Int32) + v2)))
  chk ((32 : Int32) + v2) 48 (chk (((16 : Int32) * (m9 0 28)) + v2) 48 (let m12 := wr m9 16 (ix (((16 : Int32) * (m9 0 28)) + v2)) (m9 16 (ix ((32 : Int32) + v2)))
  (f_X12_takesLaw_L2 G k2_105 g) v1 (v2 + (1 : Int32)) m12)))))))))
set_option maxHeartbeats 4000000 in
set_option maxRecDepth 100000 in
theorem f_X12_takesLaw_L2_ok  {G : Nat} {μr : Mem}  {k2_105 : Int32 → Mem → Option Mem} (hk2_105 : ∀ (v1 : Int32) (m : Mem), k2_105 v1 m = some μr → Ev RX12 cX12_takesLaw 3 none false 1 0 0 (eqP none shR μr) 105 [some (.ref 0), some (.int v1), none] [] shR m 0 0) : ∀ (g : Nat) (v1 v2 : Int32) (μ : Mem), f_X12_takesLaw_L2 G k2_105 g v1 v2 μ = some μr → Ev RX12 cX12_takesLaw 3 none false 1 0 0 (eqP none shR μr) 2 [some (.ref 0), some (.int v1), some (.int v2)] [] shR μ 0 0 := by
  intro g
  induction g with
  | zero =>
    intro v1 v2 μ h
    cases h
  | succ g ih =>
    intro v1 v2 μ h
    rw [f_X12_takesLaw_L2] at h
    refine ev_iload_n dX12_takesLaw_2 rfl ?_
    refine ev_iload_n dX12_takesLaw_3 rfl ?_
    refine ev_icmp_ge (tgt := 105) dX12_takesLaw_4 (by decide) (fun hc1 => ?_) (fun hc1 => ?_)
    · replace h := ite_t hc1 h
      exact ev_lt (hk2_105 _ _ h) ⟨rfl, ⟨rfl, trivial⟩⟩
    · replace h := ite_f hc1 h
      refine ev_aload_n dX12_takesLaw_7 rfl ?_
      refine ev_getR fr_X12_46 shR_0 rfl dX12_takesLaw_8 ?_
      refine ev_bipush (v := (16 : Int32)) dX12_takesLaw_11 (by decide) ?_
      refine ev_aload_n dX12_takesLaw_13 rfl ?_
      refine ev_getI fr_X12_277 shR_0 rfl dX12_takesLaw_14 ?_
      refine ev_imul dX12_takesLaw_17 ?_
      refine ev_iload_n dX12_takesLaw_18 rfl ?_
      refine ev_iadd dX12_takesLaw_19 ?_
      refine ev_aload_n dX12_takesLaw_20 rfl ?_
      refine ev_getR fr_X12_46 shR_0 rfl dX12_takesLaw_21 ?_
      refine ev_bipush (v := (32 : Int32)) dX12_takesLaw_24 (by decide) ?_
      refine ev_iload_n dX12_takesLaw_26 rfl ?_
      refine ev_iadd dX12_takesLaw_27 ?_
      obtain ⟨hi2, h⟩ := chk_t h
      refine ev_iald shR_13 hi2 dX12_takesLaw_28 ?_
      obtain ⟨hi4, h⟩ := chk_t h
      refine ev_iast shR_13 hi4 dX12_takesLaw_29 ?_
      refine ev_aload_n dX12_takesLaw_30 rfl ?_
      refine ev_getR fr_X12_49 shR_0 rfl dX12_takesLaw_31 ?_
      refine ev_bipush (v := (16 : Int32)) dX12_takesLaw_34 (by decide) ?_
      refine ev_aload_n dX12_takesLaw_36 rfl ?_
      refine ev_getI fr_X12_277 shR_0 rfl dX12_takesLaw_37 ?_
      refine ev_imul dX12_takesLaw_40 ?_
      refine ev_iload_n dX12_takesLaw_41 rfl ?_
      refine ev_iadd dX12_takesLaw_42 ?_
      refine ev_aload_n dX12_takesLaw_43 rfl ?_
      refine ev_getR fr_X12_49 shR_0 rfl dX12_takesLaw_44 ?_
      refine ev_bipush (v := (32 : Int32)) dX12_takesLaw_47 (by decide) ?_
      refine ev_iload_n dX12_takesLaw_49 rfl ?_
      refine ev_iadd dX12_takesLaw_50 ?_
      obtain ⟨hi5, h⟩ := chk_t h
      refine ev_iald shR_14 hi5 dX12_takesLaw_51 ?_
      obtain ⟨hi7, h⟩ := chk_t h
      refine ev_iast shR_14 hi7 dX12_takesLaw_52 ?_
      refine ev_aload_n dX12_takesLaw_53 rfl ?_
      refine ev_getR fr_X12_52 shR_0 rfl dX12_takesLaw_54 ?_
      refine ev_bipush (v := (16 : Int32)) dX12_takesLaw_57 (by decide) ?_
      refine ev_aload_n dX12_takesLaw_59 rfl ?_
      refine ev_getI fr_X12_277 shR_0 rfl dX12_takesLaw_60 ?_
      refine ev_imul dX12_takesLaw_63 ?_
      refine ev_iload_n dX12_takesLaw_64 rfl ?_
      refine ev_iadd dX12_takesLaw_65 ?_
      refine ev_aload_n dX12_takesLaw_66 rfl ?_
      refine ev_getR fr_X12_52 shR_0 rfl dX12_takesLaw_67 ?_
      refine ev_bipush (v := (32 : Int32)) dX12_takesLaw_70 (by decide) ?_
      refine ev_iload_n dX12_takesLaw_72 rfl ?_
      refine ev_iadd dX12_takesLaw_73 ?_
      obtain ⟨hi8, h⟩ := chk_t h
      refine ev_iald shR_15 hi8 dX12_takesLaw_74 ?_
      obtain ⟨hi10, h⟩ := chk_t h
      refine ev_iast shR_15 hi10 dX12_takesLaw_75 ?_
      refine ev_aload_n dX12_takesLaw_76 rfl ?_
      refine ev_getR fr_X12_55 shR_0 rfl dX12_takesLaw_77 ?_
      refine ev_bipush (v := (16 : Int32)) dX12_takesLaw_80 (by decide) ?_
      refine ev_aload_n dX12_takesLaw_82 rfl ?_
      refine ev_getI fr_X12_277 shR_0 rfl dX12_takesLaw_83 ?_
      refine ev_imul dX12_takesLaw_86 ?_
      refine ev_iload_n dX12_takesLaw_87 rfl ?_
      refine ev_iadd dX12_takesLaw_88 ?_
      refine ev_aload_n dX12_takesLaw_89 rfl ?_
      refine ev_getR fr_X12_55 shR_0 rfl dX12_takesLaw_90 ?_
      refine ev_bipush (v := (32 : Int32)) dX12_takesLaw_93 (by decide) ?_
      refine ev_iload_n dX12_takesLaw_95 rfl ?_
      refine ev_iadd dX12_takesLaw_96 ?_
      obtain ⟨hi11, h⟩ := chk_t h
      refine ev_iald shR_16 hi11 dX12_takesLaw_97 ?_
      obtain ⟨hi13, h⟩ := chk_t h
      refine ev_iast shR_16 hi13 dX12_takesLaw_98 ?_
      refine ev_iinc (cq := (1 : Int32)) (loc' := [_, _, _]) dX12_takesLaw_99 rfl (by decide) rfl (by decide) (by rfl) ?_
      refine ev_goto (tgt := 2) dX12_takesLaw_102 (by decide) ?_
      exact ev_lt (ih _ _ _ h) ⟨rfl, ⟨rfl, ⟨rfl, trivial⟩⟩⟩
def f_X12_takesLaw_L107 (G : Nat)  : Nat → Int32 → Int32 → Mem → Option Mem
  | 0, _, _, _ => none
  | g + 1, v1, v2, μ =>
  (if (μ 0 29) ≤ v2 then
  chk (μ 0 28) 2 (let m15 := wr μ 12 (ix (μ 0 28)) v1
  some m15)
  else
  chk ((800 : Int32) + v2) 1200 (chk (((400 : Int32) * (μ 0 28)) + v2) 1200 (let m18 := wr μ 17 (ix (((400 : Int32) * (μ 0 28)) + v2)) (μ 17 (ix ((800 : Int32) + v2)))
  chk ((800 : Int32) + v2) 1200 (chk (((400 : Int32) * (m18 0 28)) + v2) 1200 (let m21 := wr m18 18 (ix (((400 : Int32) * (m18 0 28)) + v2)) (m18 18 (ix ((800 : Int32) + v2)))
  (f_X12_takesLaw_L107 G g) v1 (v2 + (1 : Int32)) m21)))))
set_option maxHeartbeats 4000000 in
set_option maxRecDepth 100000 in
theorem f_X12_takesLaw_L107_ok  {G : Nat} {μr : Mem}    : ∀ (g : Nat) (v1 v2 : Int32) (μ : Mem), f_X12_takesLaw_L107 G g v1 v2 μ = some μr → Ev RX12 cX12_takesLaw 3 none false 1 0 0 (eqP none shR μr) 107 [some (.ref 0), some (.int v1), some (.int v2)] [] shR μ 0 0 := by
  intro g
  induction g with
  | zero =>
    intro v1 v2 μ h
    cases h
  | succ g ih =>
    intro v1 v2 μ h
    rw [f_X12_takesLaw_L107] at h
    refine ev_iload_n dX12_takesLaw_107 rfl ?_
    refine ev_aload_n dX12_takesLaw_108 rfl ?_
    refine ev_getI fr_X12_223 shR_0 rfl dX12_takesLaw_109 ?_
    refine ev_icmp_ge (tgt := 171) dX12_takesLaw_112 (by decide) (fun hc14 => ?_) (fun hc14 => ?_)
    · replace h := ite_t hc14 h
      refine ev_aload_n dX12_takesLaw_171 rfl ?_
      refine ev_getR fr_X12_43 shR_0 rfl dX12_takesLaw_172 ?_
      refine ev_aload_n dX12_takesLaw_175 rfl ?_
      refine ev_getI fr_X12_277 shR_0 rfl dX12_takesLaw_176 ?_
      refine ev_iload_n dX12_takesLaw_179 rfl ?_
      obtain ⟨hi16, h⟩ := chk_t h
      refine ev_iast shR_12 hi16 dX12_takesLaw_180 ?_
      exact ev_vret rfl (by decide) (by decide) dX12_takesLaw_181 (eqP_V h)
    · replace h := ite_f hc14 h
      refine ev_aload_n dX12_takesLaw_115 rfl ?_
      refine ev_getR fr_X12_58 shR_0 rfl dX12_takesLaw_116 ?_
      refine ev_sipush (v := (400 : Int32)) dX12_takesLaw_119 (by decide) ?_
      refine ev_aload_n dX12_takesLaw_122 rfl ?_
      refine ev_getI fr_X12_277 shR_0 rfl dX12_takesLaw_123 ?_
      refine ev_imul dX12_takesLaw_126 ?_
      refine ev_iload_n dX12_takesLaw_127 rfl ?_
      refine ev_iadd dX12_takesLaw_128 ?_
      refine ev_aload_n dX12_takesLaw_129 rfl ?_
      refine ev_getR fr_X12_58 shR_0 rfl dX12_takesLaw_130 ?_
      refine ev_sipush (v := (800 : Int32)) dX12_takesLaw_133 (by decide) ?_
      refine ev_iload_n dX12_takesLaw_136 rfl ?_
      refine ev_iadd dX12_takesLaw_137 ?_
      obtain ⟨hi17, h⟩ := chk_t h
      refine ev_iald shR_17 hi17 dX12_takesLaw_138 ?_
      obtain ⟨hi19, h⟩ := chk_t h
      refine ev_iast shR_17 hi19 dX12_takesLaw_139 ?_
      refine ev_aload_n dX12_takesLaw_140 rfl ?_
      refine ev_getR fr_X12_61 shR_0 rfl dX12_takesLaw_141 ?_
      refine ev_sipush (v := (400 : Int32)) dX12_takesLaw_144 (by decide) ?_
      refine ev_aload_n dX12_takesLaw_147 rfl ?_
      refine ev_getI fr_X12_277 shR_0 rfl dX12_takesLaw_148 ?_
      refine ev_imul dX12_takesLaw_151 ?_
      refine ev_iload_n dX12_takesLaw_152 rfl ?_
      refine ev_iadd dX12_takesLaw_153 ?_
      refine ev_aload_n dX12_takesLaw_154 rfl ?_
      refine ev_getR fr_X12_61 shR_0 rfl dX12_takesLaw_155 ?_
      refine ev_sipush (v := (800 : Int32)) dX12_takesLaw_158 (by decide) ?_
      refine ev_iload_n dX12_takesLaw_161 rfl ?_
      refine ev_iadd dX12_takesLaw_162 ?_
      obtain ⟨hi20, h⟩ := chk_t h
      refine ev_iald shR_18 hi20 dX12_takesLaw_163 ?_
      obtain ⟨hi22, h⟩ := chk_t h
      refine ev_iast shR_18 hi22 dX12_takesLaw_164 ?_
      refine ev_iinc (cq := (1 : Int32)) (loc' := [_, _, _]) dX12_takesLaw_165 rfl (by decide) rfl (by decide) (by rfl) ?_
      refine ev_goto (tgt := 107) dX12_takesLaw_168 (by decide) ?_
      exact ev_lt (ih _ _ _ h) ⟨rfl, ⟨rfl, ⟨rfl, trivial⟩⟩⟩
def f_X12_takesLaw_j105 (G : Nat)  (v1 : Int32) (μ : Mem) : Option Mem :=
  f_X12_takesLaw_L107 G G v1 (0 : Int32) μ
set_option maxHeartbeats 4000000 in
set_option maxRecDepth 100000 in
theorem f_X12_takesLaw_j105_ok  {G : Nat} {μr : Mem}    {v1 : Int32} {μ : Mem} (h : f_X12_takesLaw_j105 G v1 μ = some μr) : Ev RX12 cX12_takesLaw 3 none false 1 0 0 (eqP none shR μr) 105 [some (.ref 0), some (.int v1), none] [] shR μ 0 0 := by
  unfold f_X12_takesLaw_j105 at h
  refine ev_iconst (v := (0 : Int32)) dX12_takesLaw_105 (by decide) ?_
  refine ev_istore_n (loc' := [_, _, _]) dX12_takesLaw_106 rfl (by decide) (by rfl) ?_
  exact ev_lt (f_X12_takesLaw_L107_ok _ _ _ _ h) ⟨rfl, ⟨rfl, ⟨rfl, trivial⟩⟩⟩
def f_X12_takesLaw (G : Nat) (p1 : Int32) (μ : Mem) : Option Mem :=
  f_X12_takesLaw_L2 G (f_X12_takesLaw_j105 G) G p1 (0 : Int32) μ
set_option maxHeartbeats 4000000 in
set_option maxRecDepth 100000 in
theorem c_X12_takesLaw  {G : Nat} {μ : Mem} {p1 : Int32} {μr : Mem}  (h : f_X12_takesLaw G p1 μ = some μr) : Cn yX12_takesLaw cX12_takesLaw 3 none 1 0 0 [.ref 0, .int p1] shR μ (eqP none shR μr) := by
  refine cn_of (own := RX12) (ini := false) (loc := [some (.ref 0), some (.int p1), none]) rfl (by decide) (fun q => by cases q) (Nat.le_of_ble_eq_true rfl) (by rfl) rfl ?_
  unfold f_X12_takesLaw at h
  refine ev_iconst (v := (0 : Int32)) dX12_takesLaw_0 (by decide) ?_
  refine ev_istore_n (loc' := [_, _, _]) dX12_takesLaw_1 rfl (by decide) (by rfl) ?_
  exact ev_lt (f_X12_takesLaw_L2_ok (fun _ _ hh => f_X12_takesLaw_j105_ok hh) _ _ _ _ h) ⟨rfl, ⟨rfl, ⟨rfl, trivial⟩⟩⟩
def f_X12_readNumber (G : Nat) (p1 p2 : Int32) (μ : Mem) : Option (Int32 × Mem) :=
  (if (μ 0 18) = (3 : Int32) then
  (if (f_X12_isIn (μ 0 19) p1 p2) = (0 : Int32) then
  bndE (f_X12_errs G (2 : Int32) μ) (fun w7 m6 =>
  some (w7, m6))
  else
  bndV (f_X12_reads G μ) (fun m4 =>
  some ((μ 0 19), m4)))
  else
  bndE (f_X12_errs G (1 : Int32) μ) (fun w10 m9 =>
  some (w10, m9)))
set_option maxHeartbeats 4000000 in
set_option maxRecDepth 100000 in
theorem c_X12_readNumber  {G : Nat} {μ : Mem} {p1 p2 : Int32} {r : Int32} {μr : Mem}  (h : f_X12_readNumber G p1 p2 μ = some (r, μr)) : Cn yX12_readNumber cX12_readNumber 4 (some .int) 4 0 0 [.ref 0, .int p1, .int p2] shR μ (eqP (some r) shR μr) := by
  refine cn_of (own := RX12) (ini := false) (loc := [some (.ref 0), some (.int p1), some (.int p2), none]) rfl (by decide) (fun q => by cases q) (Nat.le_of_ble_eq_true rfl) (by rfl) rfl ?_
  unfold f_X12_readNumber at h
  refine ev_aload_n dX12_readNumber_0 rfl ?_
  refine ev_getI fr_X12_198 shR_0 rfl dX12_readNumber_1 ?_
  refine ev_iconst (v := (3 : Int32)) dX12_readNumber_4 (by decide) ?_
  refine ev_icmp_eq (tgt := 14) dX12_readNumber_5 (by decide) (fun hc1 => ?_) (fun hc1 => ?_)
  · replace h := ite_t hc1 h
    refine ev_aload_n dX12_readNumber_14 rfl ?_
    refine ev_aload_n dX12_readNumber_15 rfl ?_
    refine ev_getI fr_X12_201 shR_0 rfl dX12_readNumber_16 ?_
    refine ev_iload_n dX12_readNumber_19 rfl ?_
    refine ev_iload_n dX12_readNumber_20 rfl ?_
    refine ev_cVi mv_X12_167 dX12_readNumber_21 c_X12_isIn rfl shR_0 rfl rfl (Nat.le_of_ble_eq_true rfl) (by rfl) (Nat.le_of_ble_eq_true rfl) (Nat.le_of_ble_eq_true rfl) (Nat.le_of_ble_eq_true rfl) ?_
    refine ev_if_ne (tgt := 33) dX12_readNumber_24 (by decide) (fun hc2 => ?_) (fun hc2 => ?_)
    · replace h := ite_f hc2 h
      refine ev_aload_n dX12_readNumber_33 rfl ?_
      refine ev_getI fr_X12_201 shR_0 rfl dX12_readNumber_34 ?_
      refine ev_istore_n (loc' := [_, _, _, _]) dX12_readNumber_37 rfl (by decide) (by rfl) ?_
      refine ev_aload_n dX12_readNumber_38 rfl ?_
      obtain ⟨m4, hq3, h⟩ := bndV_t h
      refine ev_cVv mv_X12_236 dX12_readNumber_39 (c_X12_reads hq3) rfl shR_0 rfl rfl (Nat.le_of_ble_eq_true rfl) (by rfl) (Nat.le_of_ble_eq_true rfl) (Nat.le_of_ble_eq_true rfl) (Nat.le_of_ble_eq_true rfl) ?_
      refine ev_iload_n dX12_readNumber_42 rfl ?_
      exact ev_iret rfl rfl (by decide) (by decide) dX12_readNumber_43 (eqP_E h)
    · replace h := ite_t hc2 h
      refine ev_aload_n dX12_readNumber_27 rfl ?_
      refine ev_iconst (v := (2 : Int32)) dX12_readNumber_28 (by decide) ?_
      obtain ⟨w7, m6, hq5, h⟩ := bndE_t h
      refine ev_cVi mv_X12_229 dX12_readNumber_29 (c_X12_errs hq5) rfl shR_0 rfl rfl (Nat.le_of_ble_eq_true rfl) (by rfl) (Nat.le_of_ble_eq_true rfl) (Nat.le_of_ble_eq_true rfl) (Nat.le_of_ble_eq_true rfl) ?_
      exact ev_iret rfl rfl (by decide) (by decide) dX12_readNumber_32 (eqP_E h)
  · replace h := ite_f hc1 h
    refine ev_aload_n dX12_readNumber_8 rfl ?_
    refine ev_iconst (v := (1 : Int32)) dX12_readNumber_9 (by decide) ?_
    obtain ⟨w10, m9, hq8, h⟩ := bndE_t h
    refine ev_cVi mv_X12_229 dX12_readNumber_10 (c_X12_errs hq8) rfl shR_0 rfl rfl (Nat.le_of_ble_eq_true rfl) (by rfl) (Nat.le_of_ble_eq_true rfl) (Nat.le_of_ble_eq_true rfl) (Nat.le_of_ble_eq_true rfl) ?_
    exact ev_iret rfl rfl (by decide) (by decide) dX12_readNumber_13 (eqP_E h)
def f_X12_readMark (G : Nat) (p1 : Int32) (μ : Mem) : Option (Int32 × Mem) :=
  (if (f_X12_isSign μ p1) = (0 : Int32) then
  bndE (f_X12_errs G (1 : Int32) μ) (fun w6 m5 =>
  some (w6, m5))
  else
  bndV (f_X12_reads G μ) (fun m3 =>
  some ((0 : Int32), m3)))
set_option maxHeartbeats 4000000 in
set_option maxRecDepth 100000 in
theorem c_X12_readMark  {G : Nat} {μ : Mem} {p1 : Int32} {r : Int32} {μr : Mem}  (h : f_X12_readMark G p1 μ = some (r, μr)) : Cn yX12_readMark cX12_readMark 2 (some .int) 4 0 0 [.ref 0, .int p1] shR μ (eqP (some r) shR μr) := by
  refine cn_of (own := RX12) (ini := false) (loc := [some (.ref 0), some (.int p1)]) rfl (by decide) (fun q => by cases q) (Nat.le_of_ble_eq_true rfl) (by rfl) rfl ?_
  unfold f_X12_readMark at h
  refine ev_aload_n dX12_readMark_0 rfl ?_
  refine ev_iload_n dX12_readMark_1 rfl ?_
  refine ev_cVi mv_X12_243 dX12_readMark_2 c_X12_isSign rfl shR_0 rfl rfl (Nat.le_of_ble_eq_true rfl) (by rfl) (Nat.le_of_ble_eq_true rfl) (Nat.le_of_ble_eq_true rfl) (Nat.le_of_ble_eq_true rfl) ?_
  refine ev_if_ne (tgt := 14) dX12_readMark_5 (by decide) (fun hc1 => ?_) (fun hc1 => ?_)
  · replace h := ite_f hc1 h
    refine ev_aload_n dX12_readMark_14 rfl ?_
    obtain ⟨m3, hq2, h⟩ := bndV_t h
    refine ev_cVv mv_X12_236 dX12_readMark_15 (c_X12_reads hq2) rfl shR_0 rfl rfl (Nat.le_of_ble_eq_true rfl) (by rfl) (Nat.le_of_ble_eq_true rfl) (Nat.le_of_ble_eq_true rfl) (Nat.le_of_ble_eq_true rfl) ?_
    refine ev_iconst (v := (0 : Int32)) dX12_readMark_18 (by decide) ?_
    exact ev_iret rfl rfl (by decide) (by decide) dX12_readMark_19 (eqP_E h)
  · replace h := ite_t hc1 h
    refine ev_aload_n dX12_readMark_8 rfl ?_
    refine ev_iconst (v := (1 : Int32)) dX12_readMark_9 (by decide) ?_
    obtain ⟨w6, m5, hq4, h⟩ := bndE_t h
    refine ev_cVi mv_X12_229 dX12_readMark_10 (c_X12_errs hq4) rfl shR_0 rfl rfl (Nat.le_of_ble_eq_true rfl) (by rfl) (Nat.le_of_ble_eq_true rfl) (Nat.le_of_ble_eq_true rfl) (Nat.le_of_ble_eq_true rfl) ?_
    exact ev_iret rfl rfl (by decide) (by decide) dX12_readMark_13 (eqP_E h)
def f_X12_readTold (G : Nat) (p1 p2 p3 : Int32) (μ : Mem) : Option (Int32 × Mem) :=
  (if (f_X12_isWord μ p1) = (0 : Int32) then
  bndE (f_X12_errs G (1 : Int32) μ) (fun w9 m8 =>
  some (w9, m8))
  else
  bndV (f_X12_reads G μ) (fun m3 =>
  bndE (f_X12_readNumber G p2 p3 m3) (fun w6 m5 =>
  some (w6, m5))))
set_option maxHeartbeats 4000000 in
set_option maxRecDepth 100000 in
theorem c_X12_readTold  {G : Nat} {μ : Mem} {p1 p2 p3 : Int32} {r : Int32} {μr : Mem}  (h : f_X12_readTold G p1 p2 p3 μ = some (r, μr)) : Cn yX12_readTold cX12_readTold 4 (some .int) 5 0 0 [.ref 0, .int p1, .int p2, .int p3] shR μ (eqP (some r) shR μr) := by
  refine cn_of (own := RX12) (ini := false) (loc := [some (.ref 0), some (.int p1), some (.int p2), some (.int p3)]) rfl (by decide) (fun q => by cases q) (Nat.le_of_ble_eq_true rfl) (by rfl) rfl ?_
  unfold f_X12_readTold at h
  refine ev_aload_n dX12_readTold_0 rfl ?_
  refine ev_iload_n dX12_readTold_1 rfl ?_
  refine ev_cVi mv_X12_258 dX12_readTold_2 c_X12_isWord rfl shR_0 rfl rfl (Nat.le_of_ble_eq_true rfl) (by rfl) (Nat.le_of_ble_eq_true rfl) (Nat.le_of_ble_eq_true rfl) (Nat.le_of_ble_eq_true rfl) ?_
  refine ev_if_ne (tgt := 14) dX12_readTold_5 (by decide) (fun hc1 => ?_) (fun hc1 => ?_)
  · replace h := ite_f hc1 h
    refine ev_aload_n dX12_readTold_14 rfl ?_
    obtain ⟨m3, hq2, h⟩ := bndV_t h
    refine ev_cVv mv_X12_236 dX12_readTold_15 (c_X12_reads hq2) rfl shR_0 rfl rfl (Nat.le_of_ble_eq_true rfl) (by rfl) (Nat.le_of_ble_eq_true rfl) (Nat.le_of_ble_eq_true rfl) (Nat.le_of_ble_eq_true rfl) ?_
    refine ev_aload_n dX12_readTold_18 rfl ?_
    refine ev_iload_n dX12_readTold_19 rfl ?_
    refine ev_iload_n dX12_readTold_20 rfl ?_
    obtain ⟨w6, m5, hq4, h⟩ := bndE_t h
    refine ev_cVi mv_X12_280 dX12_readTold_21 (c_X12_readNumber hq4) rfl shR_0 rfl rfl (Nat.le_of_ble_eq_true rfl) (by rfl) (Nat.le_of_ble_eq_true rfl) (Nat.le_of_ble_eq_true rfl) (Nat.le_of_ble_eq_true rfl) ?_
    exact ev_iret rfl rfl (by decide) (by decide) dX12_readTold_24 (eqP_E h)
  · replace h := ite_t hc1 h
    refine ev_aload_n dX12_readTold_8 rfl ?_
    refine ev_iconst (v := (1 : Int32)) dX12_readTold_9 (by decide) ?_
    obtain ⟨w9, m8, hq7, h⟩ := bndE_t h
    refine ev_cVi mv_X12_229 dX12_readTold_10 (c_X12_errs hq7) rfl shR_0 rfl rfl (Nat.le_of_ble_eq_true rfl) (by rfl) (Nat.le_of_ble_eq_true rfl) (Nat.le_of_ble_eq_true rfl) (Nat.le_of_ble_eq_true rfl) ?_
    exact ev_iret rfl rfl (by decide) (by decide) dX12_readTold_13 (eqP_E h)
def f_X12_readQuestions_L2 (G : Nat) (k2_73 : Int32 → Mem → Option (Int32 × Mem)) : Nat → Int32 → Mem → Option (Int32 × Mem)
  | 0, _, _ => none
  | g + 1, v1, μ =>
  (if (f_X12_isWord μ (18 : Int32)) = (0 : Int32) then
  k2_73 v1 μ
  else
  (if v1 = (16 : Int32) then
  bndE (f_X12_errs G (3 : Int32) μ) (fun w16 m15 =>
  some (w16, m15))
  else
  bndE (f_X12_readTold G (18 : Int32) (0 : Int32) (99 : Int32) μ) (fun w5 m4 =>
  chk ((16 : Int32) + v1) 32 (let m6 := wr m4 20 (ix ((16 : Int32) + v1)) w5
  chk ((16 : Int32) + v1) 32 ((if (m6 20 (ix ((16 : Int32) + v1))) = (-1 : Int32) then
  some ((-1 : Int32), m6)
  else
  bndE (f_X12_readMark G (59 : Int32) m6) (fun w12 m11 =>
  (if w12 = (-1 : Int32) then
  some ((-1 : Int32), m11)
  else
  (f_X12_readQuestions_L2 G k2_73 g) (v1 + (1 : Int32)) m11))))))))
set_option maxHeartbeats 4000000 in
set_option maxRecDepth 100000 in
theorem f_X12_readQuestions_L2_ok  {G : Nat} {r : Int32} {μr : Mem}  {k2_73 : Int32 → Mem → Option (Int32 × Mem)} (hk2_73 : ∀ (v1 : Int32) (m : Mem), k2_73 v1 m = some (r, μr) → Ev RX12 cX12_readQuestions 2 (some .int) false 6 0 0 (eqP (some r) shR μr) 73 [some (.ref 0), some (.int v1)] [] shR m 0 0) : ∀ (g : Nat) (v1 : Int32) (μ : Mem), f_X12_readQuestions_L2 G k2_73 g v1 μ = some (r, μr) → Ev RX12 cX12_readQuestions 2 (some .int) false 6 0 0 (eqP (some r) shR μr) 2 [some (.ref 0), some (.int v1)] [] shR μ 0 0 := by
  intro g
  induction g with
  | zero =>
    intro v1 μ h
    cases h
  | succ g ih =>
    intro v1 μ h
    rw [f_X12_readQuestions_L2] at h
    refine ev_aload_n dX12_readQuestions_2 rfl ?_
    refine ev_bipush (v := (18 : Int32)) dX12_readQuestions_3 (by decide) ?_
    refine ev_cVi mv_X12_258 dX12_readQuestions_5 c_X12_isWord rfl shR_0 rfl rfl (Nat.le_of_ble_eq_true rfl) (by rfl) (Nat.le_of_ble_eq_true rfl) (Nat.le_of_ble_eq_true rfl) (Nat.le_of_ble_eq_true rfl) ?_
    refine ev_if_eq (tgt := 73) dX12_readQuestions_8 (by decide) (fun hc1 => ?_) (fun hc1 => ?_)
    · replace h := ite_t hc1 h
      exact ev_lt (hk2_73 _ _ h) ⟨rfl, ⟨rfl, trivial⟩⟩
    · replace h := ite_f hc1 h
      refine ev_iload_n dX12_readQuestions_11 rfl ?_
      refine ev_bipush (v := (16 : Int32)) dX12_readQuestions_12 (by decide) ?_
      refine ev_icmp_ne (tgt := 23) dX12_readQuestions_14 (by decide) (fun hc2 => ?_) (fun hc2 => ?_)
      · replace h := ite_f hc2 h
        refine ev_aload_n dX12_readQuestions_23 rfl ?_
        refine ev_getR fr_X12_71 shR_0 rfl dX12_readQuestions_24 ?_
        refine ev_bipush (v := (16 : Int32)) dX12_readQuestions_27 (by decide) ?_
        refine ev_iload_n dX12_readQuestions_29 rfl ?_
        refine ev_iadd dX12_readQuestions_30 ?_
        refine ev_aload_n dX12_readQuestions_31 rfl ?_
        refine ev_bipush (v := (18 : Int32)) dX12_readQuestions_32 (by decide) ?_
        refine ev_iconst (v := (0 : Int32)) dX12_readQuestions_34 (by decide) ?_
        refine ev_bipush (v := (99 : Int32)) dX12_readQuestions_35 (by decide) ?_
        obtain ⟨w5, m4, hq3, h⟩ := bndE_t h
        refine ev_cVi mv_X12_283 dX12_readQuestions_37 (c_X12_readTold hq3) rfl shR_0 rfl rfl (Nat.le_of_ble_eq_true rfl) (by rfl) (Nat.le_of_ble_eq_true rfl) (Nat.le_of_ble_eq_true rfl) (Nat.le_of_ble_eq_true rfl) ?_
        obtain ⟨hi7, h⟩ := chk_t h
        refine ev_iast shR_20 hi7 dX12_readQuestions_40 ?_
        refine ev_aload_n dX12_readQuestions_41 rfl ?_
        refine ev_getR fr_X12_71 shR_0 rfl dX12_readQuestions_42 ?_
        refine ev_bipush (v := (16 : Int32)) dX12_readQuestions_45 (by decide) ?_
        refine ev_iload_n dX12_readQuestions_47 rfl ?_
        refine ev_iadd dX12_readQuestions_48 ?_
        obtain ⟨hi8, h⟩ := chk_t h
        refine ev_iald shR_20 hi8 dX12_readQuestions_49 ?_
        refine ev_iconst (v := (-1 : Int32)) dX12_readQuestions_50 (by decide) ?_
        refine ev_icmp_eq (tgt := 64) dX12_readQuestions_51 (by decide) (fun hc9 => ?_) (fun hc9 => ?_)
        · replace h := ite_t hc9 h
          refine ev_iconst (v := (-1 : Int32)) dX12_readQuestions_64 (by decide) ?_
          exact ev_iret rfl rfl (by decide) (by decide) dX12_readQuestions_65 (eqP_E h)
        · replace h := ite_f hc9 h
          refine ev_aload_n dX12_readQuestions_54 rfl ?_
          refine ev_bipush (v := (59 : Int32)) dX12_readQuestions_55 (by decide) ?_
          obtain ⟨w12, m11, hq10, h⟩ := bndE_t h
          refine ev_cVi mv_X12_287 dX12_readQuestions_57 (c_X12_readMark hq10) rfl shR_0 rfl rfl (Nat.le_of_ble_eq_true rfl) (by rfl) (Nat.le_of_ble_eq_true rfl) (Nat.le_of_ble_eq_true rfl) (Nat.le_of_ble_eq_true rfl) ?_
          refine ev_iconst (v := (-1 : Int32)) dX12_readQuestions_60 (by decide) ?_
          refine ev_icmp_ne (tgt := 66) dX12_readQuestions_61 (by decide) (fun hc13 => ?_) (fun hc13 => ?_)
          · replace h := ite_f hc13 h
            refine ev_iload_n dX12_readQuestions_66 rfl ?_
            refine ev_iconst (v := (1 : Int32)) dX12_readQuestions_67 (by decide) ?_
            refine ev_iadd dX12_readQuestions_68 ?_
            refine ev_istore_n (loc' := [_, _]) dX12_readQuestions_69 rfl (by decide) (by rfl) ?_
            refine ev_goto (tgt := 2) dX12_readQuestions_70 (by decide) ?_
            exact ev_lt (ih _ _ h) ⟨rfl, ⟨rfl, trivial⟩⟩
          · replace h := ite_t hc13 h
            refine ev_iconst (v := (-1 : Int32)) dX12_readQuestions_64 (by decide) ?_
            exact ev_iret rfl rfl (by decide) (by decide) dX12_readQuestions_65 (eqP_E h)
      · replace h := ite_t hc2 h
        refine ev_aload_n dX12_readQuestions_17 rfl ?_
        refine ev_iconst (v := (3 : Int32)) dX12_readQuestions_18 (by decide) ?_
        obtain ⟨w16, m15, hq14, h⟩ := bndE_t h
        refine ev_cVi mv_X12_229 dX12_readQuestions_19 (c_X12_errs hq14) rfl shR_0 rfl rfl (Nat.le_of_ble_eq_true rfl) (by rfl) (Nat.le_of_ble_eq_true rfl) (Nat.le_of_ble_eq_true rfl) (Nat.le_of_ble_eq_true rfl) ?_
        exact ev_iret rfl rfl (by decide) (by decide) dX12_readQuestions_22 (eqP_E h)
def f_X12_readQuestions_j73 (G : Nat)  (v1 : Int32) (μ : Mem) : Option (Int32 × Mem) :=
  (if (μ 0 18) = (0 : Int32) then
  some (v1, μ)
  else
  bndE (f_X12_errs G (1 : Int32) μ) (fun w20 m19 =>
  some (w20, m19)))
set_option maxHeartbeats 4000000 in
set_option maxRecDepth 100000 in
theorem f_X12_readQuestions_j73_ok  {G : Nat} {r : Int32} {μr : Mem}    {v1 : Int32} {μ : Mem} (h : f_X12_readQuestions_j73 G v1 μ = some (r, μr)) : Ev RX12 cX12_readQuestions 2 (some .int) false 6 0 0 (eqP (some r) shR μr) 73 [some (.ref 0), some (.int v1)] [] shR μ 0 0 := by
  unfold f_X12_readQuestions_j73 at h
  refine ev_aload_n dX12_readQuestions_73 rfl ?_
  refine ev_getI fr_X12_198 shR_0 rfl dX12_readQuestions_74 ?_
  refine ev_if_ne (tgt := 84) dX12_readQuestions_77 (by decide) (fun hc17 => ?_) (fun hc17 => ?_)
  · replace h := ite_f hc17 h
    refine ev_aload_n dX12_readQuestions_84 rfl ?_
    refine ev_iconst (v := (1 : Int32)) dX12_readQuestions_85 (by decide) ?_
    obtain ⟨w20, m19, hq18, h⟩ := bndE_t h
    refine ev_cVi mv_X12_229 dX12_readQuestions_86 (c_X12_errs hq18) rfl shR_0 rfl rfl (Nat.le_of_ble_eq_true rfl) (by rfl) (Nat.le_of_ble_eq_true rfl) (Nat.le_of_ble_eq_true rfl) (Nat.le_of_ble_eq_true rfl) ?_
    exact ev_iret rfl rfl (by decide) (by decide) dX12_readQuestions_89 (eqP_E h)
  · replace h := ite_t hc17 h
    refine ev_iload_n dX12_readQuestions_80 rfl ?_
    refine ev_goto (tgt := 89) dX12_readQuestions_81 (by decide) ?_
    exact ev_iret rfl rfl (by decide) (by decide) dX12_readQuestions_89 (eqP_E h)
def f_X12_readQuestions (G : Nat) (μ : Mem) : Option (Int32 × Mem) :=
  f_X12_readQuestions_L2 G (f_X12_readQuestions_j73 G) G (0 : Int32) μ
set_option maxHeartbeats 4000000 in
set_option maxRecDepth 100000 in
theorem c_X12_readQuestions  {G : Nat} {μ : Mem} {r : Int32} {μr : Mem}  (h : f_X12_readQuestions G μ = some (r, μr)) : Cn yX12_readQuestions cX12_readQuestions 2 (some .int) 6 0 0 [.ref 0] shR μ (eqP (some r) shR μr) := by
  refine cn_of (own := RX12) (ini := false) (loc := [some (.ref 0), none]) rfl (by decide) (fun q => by cases q) (Nat.le_of_ble_eq_true rfl) (by rfl) rfl ?_
  unfold f_X12_readQuestions at h
  refine ev_iconst (v := (0 : Int32)) dX12_readQuestions_0 (by decide) ?_
  refine ev_istore_n (loc' := [_, _]) dX12_readQuestions_1 rfl (by decide) (by rfl) ?_
  exact ev_lt (f_X12_readQuestions_L2_ok (fun _ _ hh => f_X12_readQuestions_j73_ok hh) _ _ _ h) ⟨rfl, ⟨rfl, trivial⟩⟩
def f_X12_readWoman_j41 (G : Nat)  (μ : Mem) : Option (Int32 × Mem) :=
  bndE (f_X12_readNumber G (0 : Int32) ((μ 0 6) - (1 : Int32)) μ) (fun w4 m3 =>
  some (w4, m3))
set_option maxHeartbeats 4000000 in
set_option maxRecDepth 100000 in
theorem f_X12_readWoman_j41_ok  {G : Nat} {r : Int32} {μr : Mem}    {μ : Mem} (h : f_X12_readWoman_j41 G μ = some (r, μr)) : Ev RX12 cX12_readWoman 3 (some .int) false 5 0 0 (eqP (some r) shR μr) 41 [some (.ref 0), none, none] [] shR μ 0 0 := by
  unfold f_X12_readWoman_j41 at h
  refine ev_aload_n dX12_readWoman_41 rfl ?_
  refine ev_iconst (v := (0 : Int32)) dX12_readWoman_42 (by decide) ?_
  refine ev_aload_n dX12_readWoman_43 rfl ?_
  refine ev_getI fr_X12_161 shR_0 rfl dX12_readWoman_44 ?_
  refine ev_iconst (v := (1 : Int32)) dX12_readWoman_47 (by decide) ?_
  refine ev_isub dX12_readWoman_48 ?_
  obtain ⟨w4, m3, hq2, h⟩ := bndE_t h
  refine ev_cVi mv_X12_280 dX12_readWoman_49 (c_X12_readNumber hq2) rfl shR_0 rfl rfl (Nat.le_of_ble_eq_true rfl) (by rfl) (Nat.le_of_ble_eq_true rfl) (Nat.le_of_ble_eq_true rfl) (Nat.le_of_ble_eq_true rfl) ?_
  exact ev_iret rfl rfl (by decide) (by decide) dX12_readWoman_52 (eqP_E h)
def f_X12_readWoman (G : Nat) (p1 p2 : Int32) (μ : Mem) : Option (Int32 × Mem) :=
  (if (μ 0 18) = (3 : Int32) then
  (if (μ 0 6) ≤ (μ 0 19) then
  f_X12_readWoman_j41 G  μ
  else
  (if (μ 0 19) = p1 then
  bndE (f_X12_errs G (2 : Int32) μ) (fun w9 m8 =>
  some (w9, m8))
  else
  (if (μ 0 19) = p2 then
  bndE (f_X12_errs G (2 : Int32) μ) (fun w13 m12 =>
  some (w13, m12))
  else
  f_X12_readWoman_j41 G  μ)))
  else
  f_X12_readWoman_j41 G  μ)
set_option maxHeartbeats 4000000 in
set_option maxRecDepth 100000 in
theorem c_X12_readWoman  {G : Nat} {μ : Mem} {p1 p2 : Int32} {r : Int32} {μr : Mem}  (h : f_X12_readWoman G p1 p2 μ = some (r, μr)) : Cn yX12_readWoman cX12_readWoman 3 (some .int) 5 0 0 [.ref 0, .int p1, .int p2] shR μ (eqP (some r) shR μr) := by
  refine cn_of (own := RX12) (ini := false) (loc := [some (.ref 0), some (.int p1), some (.int p2)]) rfl (by decide) (fun q => by cases q) (Nat.le_of_ble_eq_true rfl) (by rfl) rfl ?_
  unfold f_X12_readWoman at h
  refine ev_aload_n dX12_readWoman_0 rfl ?_
  refine ev_getI fr_X12_198 shR_0 rfl dX12_readWoman_1 ?_
  refine ev_iconst (v := (3 : Int32)) dX12_readWoman_4 (by decide) ?_
  refine ev_icmp_ne (tgt := 41) dX12_readWoman_5 (by decide) (fun hc1 => ?_) (fun hc1 => ?_)
  · replace h := ite_f hc1 h
    exact ev_lt (f_X12_readWoman_j41_ok h) ⟨rfl, trivial⟩
  · replace h := ite_t hc1 h
    refine ev_aload_n dX12_readWoman_8 rfl ?_
    refine ev_getI fr_X12_201 shR_0 rfl dX12_readWoman_9 ?_
    refine ev_aload_n dX12_readWoman_12 rfl ?_
    refine ev_getI fr_X12_161 shR_0 rfl dX12_readWoman_13 ?_
    refine ev_icmp_ge (tgt := 41) dX12_readWoman_16 (by decide) (fun hc5 => ?_) (fun hc5 => ?_)
    · replace h := ite_t hc5 h
      exact ev_lt (f_X12_readWoman_j41_ok h) ⟨rfl, trivial⟩
    · replace h := ite_f hc5 h
      refine ev_aload_n dX12_readWoman_19 rfl ?_
      refine ev_getI fr_X12_201 shR_0 rfl dX12_readWoman_20 ?_
      refine ev_iload_n dX12_readWoman_23 rfl ?_
      refine ev_icmp_eq (tgt := 35) dX12_readWoman_24 (by decide) (fun hc6 => ?_) (fun hc6 => ?_)
      · replace h := ite_t hc6 h
        refine ev_aload_n dX12_readWoman_35 rfl ?_
        refine ev_iconst (v := (2 : Int32)) dX12_readWoman_36 (by decide) ?_
        obtain ⟨w9, m8, hq7, h⟩ := bndE_t h
        refine ev_cVi mv_X12_229 dX12_readWoman_37 (c_X12_errs hq7) rfl shR_0 rfl rfl (Nat.le_of_ble_eq_true rfl) (by rfl) (Nat.le_of_ble_eq_true rfl) (Nat.le_of_ble_eq_true rfl) (Nat.le_of_ble_eq_true rfl) ?_
        exact ev_iret rfl rfl (by decide) (by decide) dX12_readWoman_40 (eqP_E h)
      · replace h := ite_f hc6 h
        refine ev_aload_n dX12_readWoman_27 rfl ?_
        refine ev_getI fr_X12_201 shR_0 rfl dX12_readWoman_28 ?_
        refine ev_iload_n dX12_readWoman_31 rfl ?_
        refine ev_icmp_ne (tgt := 41) dX12_readWoman_32 (by decide) (fun hc10 => ?_) (fun hc10 => ?_)
        · replace h := ite_f hc10 h
          exact ev_lt (f_X12_readWoman_j41_ok h) ⟨rfl, trivial⟩
        · replace h := ite_t hc10 h
          refine ev_aload_n dX12_readWoman_35 rfl ?_
          refine ev_iconst (v := (2 : Int32)) dX12_readWoman_36 (by decide) ?_
          obtain ⟨w13, m12, hq11, h⟩ := bndE_t h
          refine ev_cVi mv_X12_229 dX12_readWoman_37 (c_X12_errs hq11) rfl shR_0 rfl rfl (Nat.le_of_ble_eq_true rfl) (by rfl) (Nat.le_of_ble_eq_true rfl) (Nat.le_of_ble_eq_true rfl) (Nat.le_of_ble_eq_true rfl) ?_
          exact ev_iret rfl rfl (by decide) (by decide) dX12_readWoman_40 (eqP_E h)
def f_X12_readWedding (G : Nat) (p1 : Int32) (μ : Mem) : Option (Int32 × Mem) :=
  bndE (f_X12_readWoman G (-1 : Int32) (-1 : Int32) μ) (fun w3 m2 =>
  chk (p1 + (3 : Int32)) 192 (let m4 := wr m2 21 (ix (p1 + (3 : Int32))) w3
  chk (p1 + (3 : Int32)) 192 ((if (m4 21 (ix (p1 + (3 : Int32)))) = (-1 : Int32) then
  some ((-1 : Int32), m4)
  else
  chk (p1 + (3 : Int32)) 192 (bndE (f_X12_readWoman G (m4 21 (ix (p1 + (3 : Int32)))) (-1 : Int32) m4) (fun w11 m10 =>
  chk (p1 + (4 : Int32)) 192 (let m12 := wr m10 21 (ix (p1 + (4 : Int32))) w11
  chk (p1 + (4 : Int32)) 192 ((if (m12 21 (ix (p1 + (4 : Int32)))) = (-1 : Int32) then
  some ((-1 : Int32), m12)
  else
  chk (p1 + (3 : Int32)) 192 (chk (p1 + (4 : Int32)) 192 (bndE (f_X12_readWoman G (m12 21 (ix (p1 + (3 : Int32)))) (m12 21 (ix (p1 + (4 : Int32)))) m12) (fun w20 m19 =>
  chk (p1 + (5 : Int32)) 192 (let m21 := wr m19 21 (ix (p1 + (5 : Int32))) w20
  chk (p1 + (5 : Int32)) 192 (some ((m21 21 (ix (p1 + (5 : Int32)))), m21)))))))))))))))
set_option maxHeartbeats 4000000 in
set_option maxRecDepth 100000 in
theorem c_X12_readWedding  {G : Nat} {μ : Mem} {p1 : Int32} {r : Int32} {μr : Mem}  (h : f_X12_readWedding G p1 μ = some (r, μr)) : Cn yX12_readWedding cX12_readWedding 2 (some .int) 6 0 0 [.ref 0, .int p1] shR μ (eqP (some r) shR μr) := by
  refine cn_of (own := RX12) (ini := false) (loc := [some (.ref 0), some (.int p1)]) rfl (by decide) (fun q => by cases q) (Nat.le_of_ble_eq_true rfl) (by rfl) rfl ?_
  unfold f_X12_readWedding at h
  refine ev_aload_n dX12_readWedding_0 rfl ?_
  refine ev_getR fr_X12_74 shR_0 rfl dX12_readWedding_1 ?_
  refine ev_iload_n dX12_readWedding_4 rfl ?_
  refine ev_iconst (v := (3 : Int32)) dX12_readWedding_5 (by decide) ?_
  refine ev_iadd dX12_readWedding_6 ?_
  refine ev_aload_n dX12_readWedding_7 rfl ?_
  refine ev_iconst (v := (-1 : Int32)) dX12_readWedding_8 (by decide) ?_
  refine ev_iconst (v := (-1 : Int32)) dX12_readWedding_9 (by decide) ?_
  obtain ⟨w3, m2, hq1, h⟩ := bndE_t h
  refine ev_cVi mv_X12_290 dX12_readWedding_10 (c_X12_readWoman hq1) rfl shR_0 rfl rfl (Nat.le_of_ble_eq_true rfl) (by rfl) (Nat.le_of_ble_eq_true rfl) (Nat.le_of_ble_eq_true rfl) (Nat.le_of_ble_eq_true rfl) ?_
  obtain ⟨hi5, h⟩ := chk_t h
  refine ev_iast shR_21 hi5 dX12_readWedding_13 ?_
  refine ev_aload_n dX12_readWedding_14 rfl ?_
  refine ev_getR fr_X12_74 shR_0 rfl dX12_readWedding_15 ?_
  refine ev_iload_n dX12_readWedding_18 rfl ?_
  refine ev_iconst (v := (3 : Int32)) dX12_readWedding_19 (by decide) ?_
  refine ev_iadd dX12_readWedding_20 ?_
  obtain ⟨hi6, h⟩ := chk_t h
  refine ev_iald shR_21 hi6 dX12_readWedding_21 ?_
  refine ev_iconst (v := (-1 : Int32)) dX12_readWedding_22 (by decide) ?_
  refine ev_icmp_ne (tgt := 28) dX12_readWedding_23 (by decide) (fun hc7 => ?_) (fun hc7 => ?_)
  · replace h := ite_f hc7 h
    refine ev_aload_n dX12_readWedding_28 rfl ?_
    refine ev_getR fr_X12_74 shR_0 rfl dX12_readWedding_29 ?_
    refine ev_iload_n dX12_readWedding_32 rfl ?_
    refine ev_iconst (v := (4 : Int32)) dX12_readWedding_33 (by decide) ?_
    refine ev_iadd dX12_readWedding_34 ?_
    refine ev_aload_n dX12_readWedding_35 rfl ?_
    refine ev_aload_n dX12_readWedding_36 rfl ?_
    refine ev_getR fr_X12_74 shR_0 rfl dX12_readWedding_37 ?_
    refine ev_iload_n dX12_readWedding_40 rfl ?_
    refine ev_iconst (v := (3 : Int32)) dX12_readWedding_41 (by decide) ?_
    refine ev_iadd dX12_readWedding_42 ?_
    obtain ⟨hi8, h⟩ := chk_t h
    refine ev_iald shR_21 hi8 dX12_readWedding_43 ?_
    refine ev_iconst (v := (-1 : Int32)) dX12_readWedding_44 (by decide) ?_
    obtain ⟨w11, m10, hq9, h⟩ := bndE_t h
    refine ev_cVi mv_X12_290 dX12_readWedding_45 (c_X12_readWoman hq9) rfl shR_0 rfl rfl (Nat.le_of_ble_eq_true rfl) (by rfl) (Nat.le_of_ble_eq_true rfl) (Nat.le_of_ble_eq_true rfl) (Nat.le_of_ble_eq_true rfl) ?_
    obtain ⟨hi13, h⟩ := chk_t h
    refine ev_iast shR_21 hi13 dX12_readWedding_48 ?_
    refine ev_aload_n dX12_readWedding_49 rfl ?_
    refine ev_getR fr_X12_74 shR_0 rfl dX12_readWedding_50 ?_
    refine ev_iload_n dX12_readWedding_53 rfl ?_
    refine ev_iconst (v := (4 : Int32)) dX12_readWedding_54 (by decide) ?_
    refine ev_iadd dX12_readWedding_55 ?_
    obtain ⟨hi14, h⟩ := chk_t h
    refine ev_iald shR_21 hi14 dX12_readWedding_56 ?_
    refine ev_iconst (v := (-1 : Int32)) dX12_readWedding_57 (by decide) ?_
    refine ev_icmp_ne (tgt := 63) dX12_readWedding_58 (by decide) (fun hc15 => ?_) (fun hc15 => ?_)
    · replace h := ite_f hc15 h
      refine ev_aload_n dX12_readWedding_63 rfl ?_
      refine ev_getR fr_X12_74 shR_0 rfl dX12_readWedding_64 ?_
      refine ev_iload_n dX12_readWedding_67 rfl ?_
      refine ev_iconst (v := (5 : Int32)) dX12_readWedding_68 (by decide) ?_
      refine ev_iadd dX12_readWedding_69 ?_
      refine ev_aload_n dX12_readWedding_70 rfl ?_
      refine ev_aload_n dX12_readWedding_71 rfl ?_
      refine ev_getR fr_X12_74 shR_0 rfl dX12_readWedding_72 ?_
      refine ev_iload_n dX12_readWedding_75 rfl ?_
      refine ev_iconst (v := (3 : Int32)) dX12_readWedding_76 (by decide) ?_
      refine ev_iadd dX12_readWedding_77 ?_
      obtain ⟨hi16, h⟩ := chk_t h
      refine ev_iald shR_21 hi16 dX12_readWedding_78 ?_
      refine ev_aload_n dX12_readWedding_79 rfl ?_
      refine ev_getR fr_X12_74 shR_0 rfl dX12_readWedding_80 ?_
      refine ev_iload_n dX12_readWedding_83 rfl ?_
      refine ev_iconst (v := (4 : Int32)) dX12_readWedding_84 (by decide) ?_
      refine ev_iadd dX12_readWedding_85 ?_
      obtain ⟨hi17, h⟩ := chk_t h
      refine ev_iald shR_21 hi17 dX12_readWedding_86 ?_
      obtain ⟨w20, m19, hq18, h⟩ := bndE_t h
      refine ev_cVi mv_X12_290 dX12_readWedding_87 (c_X12_readWoman hq18) rfl shR_0 rfl rfl (Nat.le_of_ble_eq_true rfl) (by rfl) (Nat.le_of_ble_eq_true rfl) (Nat.le_of_ble_eq_true rfl) (Nat.le_of_ble_eq_true rfl) ?_
      obtain ⟨hi22, h⟩ := chk_t h
      refine ev_iast shR_21 hi22 dX12_readWedding_90 ?_
      refine ev_aload_n dX12_readWedding_91 rfl ?_
      refine ev_getR fr_X12_74 shR_0 rfl dX12_readWedding_92 ?_
      refine ev_iload_n dX12_readWedding_95 rfl ?_
      refine ev_iconst (v := (5 : Int32)) dX12_readWedding_96 (by decide) ?_
      refine ev_iadd dX12_readWedding_97 ?_
      obtain ⟨hi23, h⟩ := chk_t h
      refine ev_iald shR_21 hi23 dX12_readWedding_98 ?_
      exact ev_iret rfl rfl (by decide) (by decide) dX12_readWedding_99 (eqP_E h)
    · replace h := ite_t hc15 h
      refine ev_iconst (v := (-1 : Int32)) dX12_readWedding_61 (by decide) ?_
      exact ev_iret rfl rfl (by decide) (by decide) dX12_readWedding_62 (eqP_E h)
  · replace h := ite_t hc7 h
    refine ev_iconst (v := (-1 : Int32)) dX12_readWedding_26 (by decide) ?_
    exact ev_iret rfl rfl (by decide) (by decide) dX12_readWedding_27 (eqP_E h)
def f_X12_readDeed_j107 (G : Nat)  (v1 v2 s0 s1 s3 : Int32) (μ : Mem) : Option (Int32 × Mem) :=
  bndE (f_X12_readNumber G s1 s0 μ) (fun w20 m19 =>
  chk s3 192 (let m21 := wr m19 21 (ix s3) w20
  chk (v1 + (2 : Int32)) 192 ((if (m21 21 (ix (v1 + (2 : Int32)))) = (-1 : Int32) then
  some ((-1 : Int32), m21)
  else
  (if v2 = (0 : Int32) then
  bndE (f_X12_readWedding G v1 m21) (fun w31 m30 =>
  (if w31 = (-1 : Int32) then
  some ((-1 : Int32), m30)
  else
  bndE (f_X12_readMark G (59 : Int32) m30) (fun w35 m34 =>
  some (w35, m34))))
  else
  bndE (f_X12_readMark G (59 : Int32) m21) (fun w28 m27 =>
  some (w28, m27)))))))
set_option maxHeartbeats 4000000 in
set_option maxRecDepth 100000 in
theorem f_X12_readDeed_j107_ok  {G : Nat} {r : Int32} {μr : Mem}    {v1 v2 s0 s1 s3 : Int32} {μ : Mem} (h : f_X12_readDeed_j107 G v1 v2 s0 s1 s3 μ = some (r, μr)) : Ev RX12 cX12_readDeed 3 (some .int) false 7 0 0 (eqP (some r) shR μr) 107 [some (.ref 0), some (.int v1), some (.int v2)] [.int s0, .int s1, .ref 0, .int s3, .ref 21] shR μ 0 0 := by
  unfold f_X12_readDeed_j107 at h
  obtain ⟨w20, m19, hq18, h⟩ := bndE_t h
  refine ev_cVi mv_X12_280 dX12_readDeed_107 (c_X12_readNumber hq18) rfl shR_0 rfl rfl (Nat.le_of_ble_eq_true rfl) (by rfl) (Nat.le_of_ble_eq_true rfl) (Nat.le_of_ble_eq_true rfl) (Nat.le_of_ble_eq_true rfl) ?_
  obtain ⟨hi22, h⟩ := chk_t h
  refine ev_iast shR_21 hi22 dX12_readDeed_110 ?_
  refine ev_aload_n dX12_readDeed_111 rfl ?_
  refine ev_getR fr_X12_74 shR_0 rfl dX12_readDeed_112 ?_
  refine ev_iload_n dX12_readDeed_115 rfl ?_
  refine ev_iconst (v := (2 : Int32)) dX12_readDeed_116 (by decide) ?_
  refine ev_iadd dX12_readDeed_117 ?_
  obtain ⟨hi23, h⟩ := chk_t h
  refine ev_iald shR_21 hi23 dX12_readDeed_118 ?_
  refine ev_iconst (v := (-1 : Int32)) dX12_readDeed_119 (by decide) ?_
  refine ev_icmp_eq (tgt := 136) dX12_readDeed_120 (by decide) (fun hc24 => ?_) (fun hc24 => ?_)
  · replace h := ite_t hc24 h
    refine ev_iconst (v := (-1 : Int32)) dX12_readDeed_136 (by decide) ?_
    exact ev_iret rfl rfl (by decide) (by decide) dX12_readDeed_137 (eqP_E h)
  · replace h := ite_f hc24 h
    refine ev_iload_n dX12_readDeed_123 rfl ?_
    refine ev_if_ne (tgt := 138) dX12_readDeed_124 (by decide) (fun hc25 => ?_) (fun hc25 => ?_)
    · replace h := ite_f hc25 h
      refine ev_aload_n dX12_readDeed_138 rfl ?_
      refine ev_bipush (v := (59 : Int32)) dX12_readDeed_139 (by decide) ?_
      obtain ⟨w28, m27, hq26, h⟩ := bndE_t h
      refine ev_cVi mv_X12_287 dX12_readDeed_141 (c_X12_readMark hq26) rfl shR_0 rfl rfl (Nat.le_of_ble_eq_true rfl) (by rfl) (Nat.le_of_ble_eq_true rfl) (Nat.le_of_ble_eq_true rfl) (Nat.le_of_ble_eq_true rfl) ?_
      exact ev_iret rfl rfl (by decide) (by decide) dX12_readDeed_144 (eqP_E h)
    · replace h := ite_t hc25 h
      refine ev_aload_n dX12_readDeed_127 rfl ?_
      refine ev_iload_n dX12_readDeed_128 rfl ?_
      obtain ⟨w31, m30, hq29, h⟩ := bndE_t h
      refine ev_cVi mv_X12_293 dX12_readDeed_129 (c_X12_readWedding hq29) rfl shR_0 rfl rfl (Nat.le_of_ble_eq_true rfl) (by rfl) (Nat.le_of_ble_eq_true rfl) (Nat.le_of_ble_eq_true rfl) (Nat.le_of_ble_eq_true rfl) ?_
      refine ev_iconst (v := (-1 : Int32)) dX12_readDeed_132 (by decide) ?_
      refine ev_icmp_ne (tgt := 138) dX12_readDeed_133 (by decide) (fun hc32 => ?_) (fun hc32 => ?_)
      · replace h := ite_f hc32 h
        refine ev_aload_n dX12_readDeed_138 rfl ?_
        refine ev_bipush (v := (59 : Int32)) dX12_readDeed_139 (by decide) ?_
        obtain ⟨w35, m34, hq33, h⟩ := bndE_t h
        refine ev_cVi mv_X12_287 dX12_readDeed_141 (c_X12_readMark hq33) rfl shR_0 rfl rfl (Nat.le_of_ble_eq_true rfl) (by rfl) (Nat.le_of_ble_eq_true rfl) (Nat.le_of_ble_eq_true rfl) (Nat.le_of_ble_eq_true rfl) ?_
        exact ev_iret rfl rfl (by decide) (by decide) dX12_readDeed_144 (eqP_E h)
      · replace h := ite_t hc32 h
        refine ev_iconst (v := (-1 : Int32)) dX12_readDeed_136 (by decide) ?_
        exact ev_iret rfl rfl (by decide) (by decide) dX12_readDeed_137 (eqP_E h)
def f_X12_readDeed (G : Nat) (p1 : Int32) (μ : Mem) : Option (Int32 × Mem) :=
  bndE (f_X12_readTold G (19 : Int32) (0 : Int32) (999 : Int32) μ) (fun w3 m2 =>
  chk p1 192 (let m4 := wr m2 21 (ix p1) w3
  chk p1 192 ((if (m4 21 (ix p1)) = (-1 : Int32) then
  some ((-1 : Int32), m4)
  else
  (if (m4 0 18) = (2 : Int32) then
  (if (f_X12_isIn (m4 0 19) (20 : Int32) (22 : Int32)) = (0 : Int32) then
  bndE (f_X12_errs G (1 : Int32) m4) (fun w38 m37 =>
  some (w38, m37))
  else
  bndV (f_X12_reads G m4) (fun m14 =>
  chk (p1 + (1 : Int32)) 192 (let m15 := wr m14 21 (ix (p1 + (1 : Int32))) ((m4 0 19) - (20 : Int32))
  (if ((m4 0 19) - (20 : Int32)) = (1 : Int32) then
  f_X12_readDeed_j107 G p1 ((m4 0 19) - (20 : Int32)) ((m15 0 6) - (1 : Int32)) (0 : Int32) (p1 + (2 : Int32)) m15
  else
  f_X12_readDeed_j107 G p1 ((m4 0 19) - (20 : Int32)) ((m15 0 7) - (1 : Int32)) (0 : Int32) (p1 + (2 : Int32)) m15))))
  else
  bndE (f_X12_errs G (1 : Int32) m4) (fun w11 m10 =>
  some (w11, m10)))))))
set_option maxHeartbeats 4000000 in
set_option maxRecDepth 100000 in
theorem c_X12_readDeed  {G : Nat} {μ : Mem} {p1 : Int32} {r : Int32} {μr : Mem}  (h : f_X12_readDeed G p1 μ = some (r, μr)) : Cn yX12_readDeed cX12_readDeed 3 (some .int) 7 0 0 [.ref 0, .int p1] shR μ (eqP (some r) shR μr) := by
  refine cn_of (own := RX12) (ini := false) (loc := [some (.ref 0), some (.int p1), none]) rfl (by decide) (fun q => by cases q) (Nat.le_of_ble_eq_true rfl) (by rfl) rfl ?_
  unfold f_X12_readDeed at h
  refine ev_aload_n dX12_readDeed_0 rfl ?_
  refine ev_getR fr_X12_74 shR_0 rfl dX12_readDeed_1 ?_
  refine ev_iload_n dX12_readDeed_4 rfl ?_
  refine ev_aload_n dX12_readDeed_5 rfl ?_
  refine ev_bipush (v := (19 : Int32)) dX12_readDeed_6 (by decide) ?_
  refine ev_iconst (v := (0 : Int32)) dX12_readDeed_8 (by decide) ?_
  refine ev_sipush (v := (999 : Int32)) dX12_readDeed_9 (by decide) ?_
  obtain ⟨w3, m2, hq1, h⟩ := bndE_t h
  refine ev_cVi mv_X12_283 dX12_readDeed_12 (c_X12_readTold hq1) rfl shR_0 rfl rfl (Nat.le_of_ble_eq_true rfl) (by rfl) (Nat.le_of_ble_eq_true rfl) (Nat.le_of_ble_eq_true rfl) (Nat.le_of_ble_eq_true rfl) ?_
  obtain ⟨hi5, h⟩ := chk_t h
  refine ev_iast shR_21 hi5 dX12_readDeed_15 ?_
  refine ev_aload_n dX12_readDeed_16 rfl ?_
  refine ev_getR fr_X12_74 shR_0 rfl dX12_readDeed_17 ?_
  refine ev_iload_n dX12_readDeed_20 rfl ?_
  obtain ⟨hi6, h⟩ := chk_t h
  refine ev_iald shR_21 hi6 dX12_readDeed_21 ?_
  refine ev_iconst (v := (-1 : Int32)) dX12_readDeed_22 (by decide) ?_
  refine ev_icmp_ne (tgt := 28) dX12_readDeed_23 (by decide) (fun hc7 => ?_) (fun hc7 => ?_)
  · replace h := ite_f hc7 h
    refine ev_aload_n dX12_readDeed_28 rfl ?_
    refine ev_getI fr_X12_198 shR_0 rfl dX12_readDeed_29 ?_
    refine ev_iconst (v := (2 : Int32)) dX12_readDeed_32 (by decide) ?_
    refine ev_icmp_ne (tgt := 51) dX12_readDeed_33 (by decide) (fun hc8 => ?_) (fun hc8 => ?_)
    · replace h := ite_f hc8 h
      refine ev_aload_n dX12_readDeed_51 rfl ?_
      refine ev_iconst (v := (1 : Int32)) dX12_readDeed_52 (by decide) ?_
      obtain ⟨w11, m10, hq9, h⟩ := bndE_t h
      refine ev_cVi mv_X12_229 dX12_readDeed_53 (c_X12_errs hq9) rfl shR_0 rfl rfl (Nat.le_of_ble_eq_true rfl) (by rfl) (Nat.le_of_ble_eq_true rfl) (Nat.le_of_ble_eq_true rfl) (Nat.le_of_ble_eq_true rfl) ?_
      exact ev_iret rfl rfl (by decide) (by decide) dX12_readDeed_56 (eqP_E h)
    · replace h := ite_t hc8 h
      refine ev_aload_n dX12_readDeed_36 rfl ?_
      refine ev_aload_n dX12_readDeed_37 rfl ?_
      refine ev_getI fr_X12_201 shR_0 rfl dX12_readDeed_38 ?_
      refine ev_bipush (v := (20 : Int32)) dX12_readDeed_41 (by decide) ?_
      refine ev_bipush (v := (22 : Int32)) dX12_readDeed_43 (by decide) ?_
      refine ev_cVi mv_X12_167 dX12_readDeed_45 c_X12_isIn rfl shR_0 rfl rfl (Nat.le_of_ble_eq_true rfl) (by rfl) (Nat.le_of_ble_eq_true rfl) (Nat.le_of_ble_eq_true rfl) (Nat.le_of_ble_eq_true rfl) ?_
      refine ev_if_ne (tgt := 57) dX12_readDeed_48 (by decide) (fun hc12 => ?_) (fun hc12 => ?_)
      · replace h := ite_f hc12 h
        refine ev_aload_n dX12_readDeed_57 rfl ?_
        refine ev_getI fr_X12_201 shR_0 rfl dX12_readDeed_58 ?_
        refine ev_bipush (v := (20 : Int32)) dX12_readDeed_61 (by decide) ?_
        refine ev_isub dX12_readDeed_63 ?_
        refine ev_istore_n (loc' := [_, _, _]) dX12_readDeed_64 rfl (by decide) (by rfl) ?_
        refine ev_aload_n dX12_readDeed_65 rfl ?_
        obtain ⟨m14, hq13, h⟩ := bndV_t h
        refine ev_cVv mv_X12_236 dX12_readDeed_66 (c_X12_reads hq13) rfl shR_0 rfl rfl (Nat.le_of_ble_eq_true rfl) (by rfl) (Nat.le_of_ble_eq_true rfl) (Nat.le_of_ble_eq_true rfl) (Nat.le_of_ble_eq_true rfl) ?_
        refine ev_aload_n dX12_readDeed_69 rfl ?_
        refine ev_getR fr_X12_74 shR_0 rfl dX12_readDeed_70 ?_
        refine ev_iload_n dX12_readDeed_73 rfl ?_
        refine ev_iconst (v := (1 : Int32)) dX12_readDeed_74 (by decide) ?_
        refine ev_iadd dX12_readDeed_75 ?_
        refine ev_iload_n dX12_readDeed_76 rfl ?_
        obtain ⟨hi16, h⟩ := chk_t h
        refine ev_iast shR_21 hi16 dX12_readDeed_77 ?_
        refine ev_aload_n dX12_readDeed_78 rfl ?_
        refine ev_getR fr_X12_74 shR_0 rfl dX12_readDeed_79 ?_
        refine ev_iload_n dX12_readDeed_82 rfl ?_
        refine ev_iconst (v := (2 : Int32)) dX12_readDeed_83 (by decide) ?_
        refine ev_iadd dX12_readDeed_84 ?_
        refine ev_aload_n dX12_readDeed_85 rfl ?_
        refine ev_iconst (v := (0 : Int32)) dX12_readDeed_86 (by decide) ?_
        refine ev_iload_n dX12_readDeed_87 rfl ?_
        refine ev_iconst (v := (1 : Int32)) dX12_readDeed_88 (by decide) ?_
        refine ev_icmp_ne (tgt := 101) dX12_readDeed_89 (by decide) (fun hc17 => ?_) (fun hc17 => ?_)
        · replace h := ite_f hc17 h
          refine ev_aload_n dX12_readDeed_101 rfl ?_
          refine ev_getI fr_X12_164 shR_0 rfl dX12_readDeed_102 ?_
          refine ev_iconst (v := (1 : Int32)) dX12_readDeed_105 (by decide) ?_
          refine ev_isub dX12_readDeed_106 ?_
          exact ev_lt (f_X12_readDeed_j107_ok h) ⟨rfl, ⟨rfl, ⟨rfl, trivial⟩⟩⟩
        · replace h := ite_t hc17 h
          refine ev_aload_n dX12_readDeed_92 rfl ?_
          refine ev_getI fr_X12_161 shR_0 rfl dX12_readDeed_93 ?_
          refine ev_iconst (v := (1 : Int32)) dX12_readDeed_96 (by decide) ?_
          refine ev_isub dX12_readDeed_97 ?_
          refine ev_goto (tgt := 107) dX12_readDeed_98 (by decide) ?_
          exact ev_lt (f_X12_readDeed_j107_ok h) ⟨rfl, ⟨rfl, ⟨rfl, trivial⟩⟩⟩
      · replace h := ite_t hc12 h
        refine ev_aload_n dX12_readDeed_51 rfl ?_
        refine ev_iconst (v := (1 : Int32)) dX12_readDeed_52 (by decide) ?_
        obtain ⟨w38, m37, hq36, h⟩ := bndE_t h
        refine ev_cVi mv_X12_229 dX12_readDeed_53 (c_X12_errs hq36) rfl shR_0 rfl rfl (Nat.le_of_ble_eq_true rfl) (by rfl) (Nat.le_of_ble_eq_true rfl) (Nat.le_of_ble_eq_true rfl) (Nat.le_of_ble_eq_true rfl) ?_
        exact ev_iret rfl rfl (by decide) (by decide) dX12_readDeed_56 (eqP_E h)
  · replace h := ite_t hc7 h
    refine ev_iconst (v := (-1 : Int32)) dX12_readDeed_26 (by decide) ?_
    exact ev_iret rfl rfl (by decide) (by decide) dX12_readDeed_27 (eqP_E h)
def f_X12_readYears_L2 (G : Nat) (k2_47 : Int32 → Mem → Option (Int32 × Mem)) : Nat → Int32 → Mem → Option (Int32 × Mem)
  | 0, _, _ => none
  | g + 1, v1, μ =>
  (if (f_X12_isWord μ (19 : Int32)) = (0 : Int32) then
  k2_47 v1 μ
  else
  (if v1 = (16 : Int32) then
  bndE (f_X12_errs G (3 : Int32) μ) (fun w9 m8 =>
  some (w9, m8))
  else
  bndE (f_X12_readDeed G ((96 : Int32) + ((6 : Int32) * v1)) μ) (fun w5 m4 =>
  (if w5 = (-1 : Int32) then
  some ((-1 : Int32), m4)
  else
  (f_X12_readYears_L2 G k2_47 g) (v1 + (1 : Int32)) m4))))
set_option maxHeartbeats 4000000 in
set_option maxRecDepth 100000 in
theorem f_X12_readYears_L2_ok  {G : Nat} {r : Int32} {μr : Mem}  {k2_47 : Int32 → Mem → Option (Int32 × Mem)} (hk2_47 : ∀ (v1 : Int32) (m : Mem), k2_47 v1 m = some (r, μr) → Ev RX12 cX12_readYears 2 (some .int) false 8 0 0 (eqP (some r) shR μr) 47 [some (.ref 0), some (.int v1)] [] shR m 0 0) : ∀ (g : Nat) (v1 : Int32) (μ : Mem), f_X12_readYears_L2 G k2_47 g v1 μ = some (r, μr) → Ev RX12 cX12_readYears 2 (some .int) false 8 0 0 (eqP (some r) shR μr) 2 [some (.ref 0), some (.int v1)] [] shR μ 0 0 := by
  intro g
  induction g with
  | zero =>
    intro v1 μ h
    cases h
  | succ g ih =>
    intro v1 μ h
    rw [f_X12_readYears_L2] at h
    refine ev_aload_n dX12_readYears_2 rfl ?_
    refine ev_bipush (v := (19 : Int32)) dX12_readYears_3 (by decide) ?_
    refine ev_cVi mv_X12_258 dX12_readYears_5 c_X12_isWord rfl shR_0 rfl rfl (Nat.le_of_ble_eq_true rfl) (by rfl) (Nat.le_of_ble_eq_true rfl) (Nat.le_of_ble_eq_true rfl) (Nat.le_of_ble_eq_true rfl) ?_
    refine ev_if_eq (tgt := 47) dX12_readYears_8 (by decide) (fun hc1 => ?_) (fun hc1 => ?_)
    · replace h := ite_t hc1 h
      exact ev_lt (hk2_47 _ _ h) ⟨rfl, ⟨rfl, trivial⟩⟩
    · replace h := ite_f hc1 h
      refine ev_iload_n dX12_readYears_11 rfl ?_
      refine ev_bipush (v := (16 : Int32)) dX12_readYears_12 (by decide) ?_
      refine ev_icmp_ne (tgt := 23) dX12_readYears_14 (by decide) (fun hc2 => ?_) (fun hc2 => ?_)
      · replace h := ite_f hc2 h
        refine ev_aload_n dX12_readYears_23 rfl ?_
        refine ev_bipush (v := (96 : Int32)) dX12_readYears_24 (by decide) ?_
        refine ev_bipush (v := (6 : Int32)) dX12_readYears_26 (by decide) ?_
        refine ev_iload_n dX12_readYears_28 rfl ?_
        refine ev_imul dX12_readYears_29 ?_
        refine ev_iadd dX12_readYears_30 ?_
        obtain ⟨w5, m4, hq3, h⟩ := bndE_t h
        refine ev_cVi mv_X12_296 dX12_readYears_31 (c_X12_readDeed hq3) rfl shR_0 rfl rfl (Nat.le_of_ble_eq_true rfl) (by rfl) (Nat.le_of_ble_eq_true rfl) (Nat.le_of_ble_eq_true rfl) (Nat.le_of_ble_eq_true rfl) ?_
        refine ev_iconst (v := (-1 : Int32)) dX12_readYears_34 (by decide) ?_
        refine ev_icmp_ne (tgt := 40) dX12_readYears_35 (by decide) (fun hc6 => ?_) (fun hc6 => ?_)
        · replace h := ite_f hc6 h
          refine ev_iload_n dX12_readYears_40 rfl ?_
          refine ev_iconst (v := (1 : Int32)) dX12_readYears_41 (by decide) ?_
          refine ev_iadd dX12_readYears_42 ?_
          refine ev_istore_n (loc' := [_, _]) dX12_readYears_43 rfl (by decide) (by rfl) ?_
          refine ev_goto (tgt := 2) dX12_readYears_44 (by decide) ?_
          exact ev_lt (ih _ _ h) ⟨rfl, ⟨rfl, trivial⟩⟩
        · replace h := ite_t hc6 h
          refine ev_iconst (v := (-1 : Int32)) dX12_readYears_38 (by decide) ?_
          exact ev_iret rfl rfl (by decide) (by decide) dX12_readYears_39 (eqP_E h)
      · replace h := ite_t hc2 h
        refine ev_aload_n dX12_readYears_17 rfl ?_
        refine ev_iconst (v := (3 : Int32)) dX12_readYears_18 (by decide) ?_
        obtain ⟨w9, m8, hq7, h⟩ := bndE_t h
        refine ev_cVi mv_X12_229 dX12_readYears_19 (c_X12_errs hq7) rfl shR_0 rfl rfl (Nat.le_of_ble_eq_true rfl) (by rfl) (Nat.le_of_ble_eq_true rfl) (Nat.le_of_ble_eq_true rfl) (Nat.le_of_ble_eq_true rfl) ?_
        exact ev_iret rfl rfl (by decide) (by decide) dX12_readYears_22 (eqP_E h)
def f_X12_readYears_j47 (G : Nat)  (v1 : Int32) (μ : Mem) : Option (Int32 × Mem) :=
  (if (μ 0 18) = (0 : Int32) then
  some (v1, μ)
  else
  bndE (f_X12_errs G (1 : Int32) μ) (fun w13 m12 =>
  some (w13, m12)))
set_option maxHeartbeats 4000000 in
set_option maxRecDepth 100000 in
theorem f_X12_readYears_j47_ok  {G : Nat} {r : Int32} {μr : Mem}    {v1 : Int32} {μ : Mem} (h : f_X12_readYears_j47 G v1 μ = some (r, μr)) : Ev RX12 cX12_readYears 2 (some .int) false 8 0 0 (eqP (some r) shR μr) 47 [some (.ref 0), some (.int v1)] [] shR μ 0 0 := by
  unfold f_X12_readYears_j47 at h
  refine ev_aload_n dX12_readYears_47 rfl ?_
  refine ev_getI fr_X12_198 shR_0 rfl dX12_readYears_48 ?_
  refine ev_if_ne (tgt := 58) dX12_readYears_51 (by decide) (fun hc10 => ?_) (fun hc10 => ?_)
  · replace h := ite_f hc10 h
    refine ev_aload_n dX12_readYears_58 rfl ?_
    refine ev_iconst (v := (1 : Int32)) dX12_readYears_59 (by decide) ?_
    obtain ⟨w13, m12, hq11, h⟩ := bndE_t h
    refine ev_cVi mv_X12_229 dX12_readYears_60 (c_X12_errs hq11) rfl shR_0 rfl rfl (Nat.le_of_ble_eq_true rfl) (by rfl) (Nat.le_of_ble_eq_true rfl) (Nat.le_of_ble_eq_true rfl) (Nat.le_of_ble_eq_true rfl) ?_
    exact ev_iret rfl rfl (by decide) (by decide) dX12_readYears_63 (eqP_E h)
  · replace h := ite_t hc10 h
    refine ev_iload_n dX12_readYears_54 rfl ?_
    refine ev_goto (tgt := 63) dX12_readYears_55 (by decide) ?_
    exact ev_iret rfl rfl (by decide) (by decide) dX12_readYears_63 (eqP_E h)
def f_X12_readYears (G : Nat) (μ : Mem) : Option (Int32 × Mem) :=
  f_X12_readYears_L2 G (f_X12_readYears_j47 G) G (0 : Int32) μ
set_option maxHeartbeats 4000000 in
set_option maxRecDepth 100000 in
theorem c_X12_readYears  {G : Nat} {μ : Mem} {r : Int32} {μr : Mem}  (h : f_X12_readYears G μ = some (r, μr)) : Cn yX12_readYears cX12_readYears 2 (some .int) 8 0 0 [.ref 0] shR μ (eqP (some r) shR μr) := by
  refine cn_of (own := RX12) (ini := false) (loc := [some (.ref 0), none]) rfl (by decide) (fun q => by cases q) (Nat.le_of_ble_eq_true rfl) (by rfl) rfl ?_
  unfold f_X12_readYears at h
  refine ev_iconst (v := (0 : Int32)) dX12_readYears_0 (by decide) ?_
  refine ev_istore_n (loc' := [_, _]) dX12_readYears_1 rfl (by decide) (by rfl) ?_
  exact ev_lt (f_X12_readYears_L2_ok (fun _ _ hh => f_X12_readYears_j47_ok hh) _ _ _ h) ⟨rfl, ⟨rfl, trivial⟩⟩
def f_X12_readSister (G : Nat) (μ : Mem) : Option (Int32 × Mem) :=
  bndE (f_X12_readTold G (23 : Int32) (0 : Int32) ((μ 0 6) - (1 : Int32)) μ) (fun w3 m2 =>
  (if w3 = (-1 : Int32) then
  some ((-1 : Int32), m2)
  else
  (if (f_X12_isWord m2 (24 : Int32)) = (0 : Int32) then
  bndE (f_X12_errs G (1 : Int32) m2) (fun w23 m22 =>
  some (w23, m22))
  else
  bndV (f_X12_reads G m2) (fun m7 =>
  bndE (f_X12_readWoman G w3 (-1 : Int32) m7) (fun w10 m9 =>
  (if w10 = (-1 : Int32) then
  some ((-1 : Int32), m9)
  else
  chk ((12 : Int32) + w3) 24 (chk ((12 : Int32) + w3) 24 (let m13 := wr m9 22 (ix ((12 : Int32) + w3)) ((m9 22 (ix ((12 : Int32) + w3))) ||| (sl (1 : Int32) w10))
  chk ((12 : Int32) + w10) 24 (chk ((12 : Int32) + w10) 24 (let m16 := wr m13 22 (ix ((12 : Int32) + w10)) ((m13 22 (ix ((12 : Int32) + w10))) ||| (sl (1 : Int32) w3))
  bndE (f_X12_readMark G (59 : Int32) m16) (fun w20 m19 =>
  some (w20, m19))))))))))))
set_option maxHeartbeats 4000000 in
set_option maxRecDepth 100000 in
theorem c_X12_readSister  {G : Nat} {μ : Mem} {r : Int32} {μr : Mem}  (h : f_X12_readSister G μ = some (r, μr)) : Cn yX12_readSister cX12_readSister 3 (some .int) 6 0 0 [.ref 0] shR μ (eqP (some r) shR μr) := by
  refine cn_of (own := RX12) (ini := false) (loc := [some (.ref 0), none, none]) rfl (by decide) (fun q => by cases q) (Nat.le_of_ble_eq_true rfl) (by rfl) rfl ?_
  unfold f_X12_readSister at h
  refine ev_aload_n dX12_readSister_0 rfl ?_
  refine ev_bipush (v := (23 : Int32)) dX12_readSister_1 (by decide) ?_
  refine ev_iconst (v := (0 : Int32)) dX12_readSister_3 (by decide) ?_
  refine ev_aload_n dX12_readSister_4 rfl ?_
  refine ev_getI fr_X12_161 shR_0 rfl dX12_readSister_5 ?_
  refine ev_iconst (v := (1 : Int32)) dX12_readSister_8 (by decide) ?_
  refine ev_isub dX12_readSister_9 ?_
  obtain ⟨w3, m2, hq1, h⟩ := bndE_t h
  refine ev_cVi mv_X12_283 dX12_readSister_10 (c_X12_readTold hq1) rfl shR_0 rfl rfl (Nat.le_of_ble_eq_true rfl) (by rfl) (Nat.le_of_ble_eq_true rfl) (Nat.le_of_ble_eq_true rfl) (Nat.le_of_ble_eq_true rfl) ?_
  refine ev_istore_n (loc' := [_, _, _]) dX12_readSister_13 rfl (by decide) (by rfl) ?_
  refine ev_iload_n dX12_readSister_14 rfl ?_
  refine ev_iconst (v := (-1 : Int32)) dX12_readSister_15 (by decide) ?_
  refine ev_icmp_ne (tgt := 21) dX12_readSister_16 (by decide) (fun hc4 => ?_) (fun hc4 => ?_)
  · replace h := ite_f hc4 h
    refine ev_aload_n dX12_readSister_21 rfl ?_
    refine ev_bipush (v := (24 : Int32)) dX12_readSister_22 (by decide) ?_
    refine ev_cVi mv_X12_258 dX12_readSister_24 c_X12_isWord rfl shR_0 rfl rfl (Nat.le_of_ble_eq_true rfl) (by rfl) (Nat.le_of_ble_eq_true rfl) (Nat.le_of_ble_eq_true rfl) (Nat.le_of_ble_eq_true rfl) ?_
    refine ev_if_ne (tgt := 36) dX12_readSister_27 (by decide) (fun hc5 => ?_) (fun hc5 => ?_)
    · replace h := ite_f hc5 h
      refine ev_aload_n dX12_readSister_36 rfl ?_
      obtain ⟨m7, hq6, h⟩ := bndV_t h
      refine ev_cVv mv_X12_236 dX12_readSister_37 (c_X12_reads hq6) rfl shR_0 rfl rfl (Nat.le_of_ble_eq_true rfl) (by rfl) (Nat.le_of_ble_eq_true rfl) (Nat.le_of_ble_eq_true rfl) (Nat.le_of_ble_eq_true rfl) ?_
      refine ev_aload_n dX12_readSister_40 rfl ?_
      refine ev_iload_n dX12_readSister_41 rfl ?_
      refine ev_iconst (v := (-1 : Int32)) dX12_readSister_42 (by decide) ?_
      obtain ⟨w10, m9, hq8, h⟩ := bndE_t h
      refine ev_cVi mv_X12_290 dX12_readSister_43 (c_X12_readWoman hq8) rfl shR_0 rfl rfl (Nat.le_of_ble_eq_true rfl) (by rfl) (Nat.le_of_ble_eq_true rfl) (Nat.le_of_ble_eq_true rfl) (Nat.le_of_ble_eq_true rfl) ?_
      refine ev_istore_n (loc' := [_, _, _]) dX12_readSister_46 rfl (by decide) (by rfl) ?_
      refine ev_iload_n dX12_readSister_47 rfl ?_
      refine ev_iconst (v := (-1 : Int32)) dX12_readSister_48 (by decide) ?_
      refine ev_icmp_ne (tgt := 54) dX12_readSister_49 (by decide) (fun hc11 => ?_) (fun hc11 => ?_)
      · replace h := ite_f hc11 h
        refine ev_aload_n dX12_readSister_54 rfl ?_
        refine ev_getR fr_X12_77 shR_0 rfl dX12_readSister_55 ?_
        refine ev_bipush (v := (12 : Int32)) dX12_readSister_58 (by decide) ?_
        refine ev_iload_n dX12_readSister_60 rfl ?_
        refine ev_iadd dX12_readSister_61 ?_
        refine ev_aload_n dX12_readSister_62 rfl ?_
        refine ev_getR fr_X12_77 shR_0 rfl dX12_readSister_63 ?_
        refine ev_bipush (v := (12 : Int32)) dX12_readSister_66 (by decide) ?_
        refine ev_iload_n dX12_readSister_68 rfl ?_
        refine ev_iadd dX12_readSister_69 ?_
        obtain ⟨hi12, h⟩ := chk_t h
        refine ev_iald shR_22 hi12 dX12_readSister_70 ?_
        refine ev_iconst (v := (1 : Int32)) dX12_readSister_71 (by decide) ?_
        refine ev_iload_n dX12_readSister_72 rfl ?_
        refine ev_ishl dX12_readSister_73 ?_
        refine ev_ior dX12_readSister_74 ?_
        obtain ⟨hi14, h⟩ := chk_t h
        refine ev_iast shR_22 hi14 dX12_readSister_75 ?_
        refine ev_aload_n dX12_readSister_76 rfl ?_
        refine ev_getR fr_X12_77 shR_0 rfl dX12_readSister_77 ?_
        refine ev_bipush (v := (12 : Int32)) dX12_readSister_80 (by decide) ?_
        refine ev_iload_n dX12_readSister_82 rfl ?_
        refine ev_iadd dX12_readSister_83 ?_
        refine ev_aload_n dX12_readSister_84 rfl ?_
        refine ev_getR fr_X12_77 shR_0 rfl dX12_readSister_85 ?_
        refine ev_bipush (v := (12 : Int32)) dX12_readSister_88 (by decide) ?_
        refine ev_iload_n dX12_readSister_90 rfl ?_
        refine ev_iadd dX12_readSister_91 ?_
        obtain ⟨hi15, h⟩ := chk_t h
        refine ev_iald shR_22 hi15 dX12_readSister_92 ?_
        refine ev_iconst (v := (1 : Int32)) dX12_readSister_93 (by decide) ?_
        refine ev_iload_n dX12_readSister_94 rfl ?_
        refine ev_ishl dX12_readSister_95 ?_
        refine ev_ior dX12_readSister_96 ?_
        obtain ⟨hi17, h⟩ := chk_t h
        refine ev_iast shR_22 hi17 dX12_readSister_97 ?_
        refine ev_aload_n dX12_readSister_98 rfl ?_
        refine ev_bipush (v := (59 : Int32)) dX12_readSister_99 (by decide) ?_
        obtain ⟨w20, m19, hq18, h⟩ := bndE_t h
        refine ev_cVi mv_X12_287 dX12_readSister_101 (c_X12_readMark hq18) rfl shR_0 rfl rfl (Nat.le_of_ble_eq_true rfl) (by rfl) (Nat.le_of_ble_eq_true rfl) (Nat.le_of_ble_eq_true rfl) (Nat.le_of_ble_eq_true rfl) ?_
        exact ev_iret rfl rfl (by decide) (by decide) dX12_readSister_104 (eqP_E h)
      · replace h := ite_t hc11 h
        refine ev_iconst (v := (-1 : Int32)) dX12_readSister_52 (by decide) ?_
        exact ev_iret rfl rfl (by decide) (by decide) dX12_readSister_53 (eqP_E h)
    · replace h := ite_t hc5 h
      refine ev_aload_n dX12_readSister_30 rfl ?_
      refine ev_iconst (v := (1 : Int32)) dX12_readSister_31 (by decide) ?_
      obtain ⟨w23, m22, hq21, h⟩ := bndE_t h
      refine ev_cVi mv_X12_229 dX12_readSister_32 (c_X12_errs hq21) rfl shR_0 rfl rfl (Nat.le_of_ble_eq_true rfl) (by rfl) (Nat.le_of_ble_eq_true rfl) (Nat.le_of_ble_eq_true rfl) (Nat.le_of_ble_eq_true rfl) ?_
      exact ev_iret rfl rfl (by decide) (by decide) dX12_readSister_35 (eqP_E h)
  · replace h := ite_t hc4 h
    refine ev_iconst (v := (-1 : Int32)) dX12_readSister_19 (by decide) ?_
    exact ev_iret rfl rfl (by decide) (by decide) dX12_readSister_20 (eqP_E h)
def f_X12_readSisters_L2 (G : Nat) (k2_24 : Mem → Option (Int32 × Mem)) : Nat → Int32 → Mem → Option (Int32 × Mem)
  | 0, _, _ => none
  | g + 1, v1, μ =>
  (if (12 : Int32) ≤ v1 then
  k2_24  μ
  else
  chk ((12 : Int32) + v1) 24 (let m2 := wr μ 22 (ix ((12 : Int32) + v1)) (0 : Int32)
  (f_X12_readSisters_L2 G k2_24 g) (v1 + (1 : Int32)) m2))
set_option maxHeartbeats 4000000 in
set_option maxRecDepth 100000 in
theorem f_X12_readSisters_L2_ok  {G : Nat} {r : Int32} {μr : Mem}  {k2_24 : Mem → Option (Int32 × Mem)} (hk2_24 : ∀ (m : Mem), k2_24 m = some (r, μr) → Ev RX12 cX12_readSisters 2 (some .int) false 7 0 0 (eqP (some r) shR μr) 24 [some (.ref 0), none] [] shR m 0 0) : ∀ (g : Nat) (v1 : Int32) (μ : Mem), f_X12_readSisters_L2 G k2_24 g v1 μ = some (r, μr) → Ev RX12 cX12_readSisters 2 (some .int) false 7 0 0 (eqP (some r) shR μr) 2 [some (.ref 0), some (.int v1)] [] shR μ 0 0 := by
  intro g
  induction g with
  | zero =>
    intro v1 μ h
    cases h
  | succ g ih =>
    intro v1 μ h
    rw [f_X12_readSisters_L2] at h
    refine ev_iload_n dX12_readSisters_2 rfl ?_
    refine ev_bipush (v := (12 : Int32)) dX12_readSisters_3 (by decide) ?_
    refine ev_icmp_ge (tgt := 24) dX12_readSisters_5 (by decide) (fun hc1 => ?_) (fun hc1 => ?_)
    · replace h := ite_t hc1 h
      exact ev_lt (hk2_24 _ h) ⟨rfl, trivial⟩
    · replace h := ite_f hc1 h
      refine ev_aload_n dX12_readSisters_8 rfl ?_
      refine ev_getR fr_X12_77 shR_0 rfl dX12_readSisters_9 ?_
      refine ev_bipush (v := (12 : Int32)) dX12_readSisters_12 (by decide) ?_
      refine ev_iload_n dX12_readSisters_14 rfl ?_
      refine ev_iadd dX12_readSisters_15 ?_
      refine ev_iconst (v := (0 : Int32)) dX12_readSisters_16 (by decide) ?_
      obtain ⟨hi3, h⟩ := chk_t h
      refine ev_iast shR_22 hi3 dX12_readSisters_17 ?_
      refine ev_iinc (cq := (1 : Int32)) (loc' := [_, _]) dX12_readSisters_18 rfl (by decide) rfl (by decide) (by rfl) ?_
      refine ev_goto (tgt := 2) dX12_readSisters_21 (by decide) ?_
      exact ev_lt (ih _ _ h) ⟨rfl, ⟨rfl, trivial⟩⟩
def f_X12_readSisters_L26 (G : Nat) (k26_64 : Int32 → Mem → Option (Int32 × Mem)) : Nat → Int32 → Mem → Option (Int32 × Mem)
  | 0, _, _ => none
  | g + 1, v1, μ =>
  (if (f_X12_isWord μ (23 : Int32)) = (0 : Int32) then
  k26_64 v1 μ
  else
  (if v1 = (16 : Int32) then
  bndE (f_X12_errs G (3 : Int32) μ) (fun w12 m11 =>
  some (w12, m11))
  else
  bndE (f_X12_readSister G μ) (fun w8 m7 =>
  (if w8 = (-1 : Int32) then
  some ((-1 : Int32), m7)
  else
  (f_X12_readSisters_L26 G k26_64 g) (v1 + (1 : Int32)) m7))))
set_option maxHeartbeats 4000000 in
set_option maxRecDepth 100000 in
theorem f_X12_readSisters_L26_ok  {G : Nat} {r : Int32} {μr : Mem}  {k26_64 : Int32 → Mem → Option (Int32 × Mem)} (hk26_64 : ∀ (v1 : Int32) (m : Mem), k26_64 v1 m = some (r, μr) → Ev RX12 cX12_readSisters 2 (some .int) false 7 0 0 (eqP (some r) shR μr) 64 [some (.ref 0), some (.int v1)] [] shR m 0 0) : ∀ (g : Nat) (v1 : Int32) (μ : Mem), f_X12_readSisters_L26 G k26_64 g v1 μ = some (r, μr) → Ev RX12 cX12_readSisters 2 (some .int) false 7 0 0 (eqP (some r) shR μr) 26 [some (.ref 0), some (.int v1)] [] shR μ 0 0 := by
  intro g
  induction g with
  | zero =>
    intro v1 μ h
    cases h
  | succ g ih =>
    intro v1 μ h
    rw [f_X12_readSisters_L26] at h
    refine ev_aload_n dX12_readSisters_26 rfl ?_
    refine ev_bipush (v := (23 : Int32)) dX12_readSisters_27 (by decide) ?_
    refine ev_cVi mv_X12_258 dX12_readSisters_29 c_X12_isWord rfl shR_0 rfl rfl (Nat.le_of_ble_eq_true rfl) (by rfl) (Nat.le_of_ble_eq_true rfl) (Nat.le_of_ble_eq_true rfl) (Nat.le_of_ble_eq_true rfl) ?_
    refine ev_if_eq (tgt := 64) dX12_readSisters_32 (by decide) (fun hc4 => ?_) (fun hc4 => ?_)
    · replace h := ite_t hc4 h
      exact ev_lt (hk26_64 _ _ h) ⟨rfl, ⟨rfl, trivial⟩⟩
    · replace h := ite_f hc4 h
      refine ev_iload_n dX12_readSisters_35 rfl ?_
      refine ev_bipush (v := (16 : Int32)) dX12_readSisters_36 (by decide) ?_
      refine ev_icmp_ne (tgt := 47) dX12_readSisters_38 (by decide) (fun hc5 => ?_) (fun hc5 => ?_)
      · replace h := ite_f hc5 h
        refine ev_aload_n dX12_readSisters_47 rfl ?_
        obtain ⟨w8, m7, hq6, h⟩ := bndE_t h
        refine ev_cVi mv_X12_299 dX12_readSisters_48 (c_X12_readSister hq6) rfl shR_0 rfl rfl (Nat.le_of_ble_eq_true rfl) (by rfl) (Nat.le_of_ble_eq_true rfl) (Nat.le_of_ble_eq_true rfl) (Nat.le_of_ble_eq_true rfl) ?_
        refine ev_iconst (v := (-1 : Int32)) dX12_readSisters_51 (by decide) ?_
        refine ev_icmp_ne (tgt := 57) dX12_readSisters_52 (by decide) (fun hc9 => ?_) (fun hc9 => ?_)
        · replace h := ite_f hc9 h
          refine ev_iload_n dX12_readSisters_57 rfl ?_
          refine ev_iconst (v := (1 : Int32)) dX12_readSisters_58 (by decide) ?_
          refine ev_iadd dX12_readSisters_59 ?_
          refine ev_istore_n (loc' := [_, _]) dX12_readSisters_60 rfl (by decide) (by rfl) ?_
          refine ev_goto (tgt := 26) dX12_readSisters_61 (by decide) ?_
          exact ev_lt (ih _ _ h) ⟨rfl, ⟨rfl, trivial⟩⟩
        · replace h := ite_t hc9 h
          refine ev_iconst (v := (-1 : Int32)) dX12_readSisters_55 (by decide) ?_
          exact ev_iret rfl rfl (by decide) (by decide) dX12_readSisters_56 (eqP_E h)
      · replace h := ite_t hc5 h
        refine ev_aload_n dX12_readSisters_41 rfl ?_
        refine ev_iconst (v := (3 : Int32)) dX12_readSisters_42 (by decide) ?_
        obtain ⟨w12, m11, hq10, h⟩ := bndE_t h
        refine ev_cVi mv_X12_229 dX12_readSisters_43 (c_X12_errs hq10) rfl shR_0 rfl rfl (Nat.le_of_ble_eq_true rfl) (by rfl) (Nat.le_of_ble_eq_true rfl) (Nat.le_of_ble_eq_true rfl) (Nat.le_of_ble_eq_true rfl) ?_
        exact ev_iret rfl rfl (by decide) (by decide) dX12_readSisters_46 (eqP_E h)
def f_X12_readSisters_j64 (G : Nat)  (v1 : Int32) (μ : Mem) : Option (Int32 × Mem) :=
  (if (μ 0 18) = (0 : Int32) then
  some (v1, μ)
  else
  bndE (f_X12_errs G (1 : Int32) μ) (fun w16 m15 =>
  some (w16, m15)))
set_option maxHeartbeats 4000000 in
set_option maxRecDepth 100000 in
theorem f_X12_readSisters_j64_ok  {G : Nat} {r : Int32} {μr : Mem}    {v1 : Int32} {μ : Mem} (h : f_X12_readSisters_j64 G v1 μ = some (r, μr)) : Ev RX12 cX12_readSisters 2 (some .int) false 7 0 0 (eqP (some r) shR μr) 64 [some (.ref 0), some (.int v1)] [] shR μ 0 0 := by
  unfold f_X12_readSisters_j64 at h
  refine ev_aload_n dX12_readSisters_64 rfl ?_
  refine ev_getI fr_X12_198 shR_0 rfl dX12_readSisters_65 ?_
  refine ev_if_ne (tgt := 75) dX12_readSisters_68 (by decide) (fun hc13 => ?_) (fun hc13 => ?_)
  · replace h := ite_f hc13 h
    refine ev_aload_n dX12_readSisters_75 rfl ?_
    refine ev_iconst (v := (1 : Int32)) dX12_readSisters_76 (by decide) ?_
    obtain ⟨w16, m15, hq14, h⟩ := bndE_t h
    refine ev_cVi mv_X12_229 dX12_readSisters_77 (c_X12_errs hq14) rfl shR_0 rfl rfl (Nat.le_of_ble_eq_true rfl) (by rfl) (Nat.le_of_ble_eq_true rfl) (Nat.le_of_ble_eq_true rfl) (Nat.le_of_ble_eq_true rfl) ?_
    exact ev_iret rfl rfl (by decide) (by decide) dX12_readSisters_80 (eqP_E h)
  · replace h := ite_t hc13 h
    refine ev_iload_n dX12_readSisters_71 rfl ?_
    refine ev_goto (tgt := 80) dX12_readSisters_72 (by decide) ?_
    exact ev_iret rfl rfl (by decide) (by decide) dX12_readSisters_80 (eqP_E h)
def f_X12_readSisters_j24 (G : Nat)  (μ : Mem) : Option (Int32 × Mem) :=
  f_X12_readSisters_L26 G (f_X12_readSisters_j64 G) G (0 : Int32) μ
set_option maxHeartbeats 4000000 in
set_option maxRecDepth 100000 in
theorem f_X12_readSisters_j24_ok  {G : Nat} {r : Int32} {μr : Mem}    {μ : Mem} (h : f_X12_readSisters_j24 G μ = some (r, μr)) : Ev RX12 cX12_readSisters 2 (some .int) false 7 0 0 (eqP (some r) shR μr) 24 [some (.ref 0), none] [] shR μ 0 0 := by
  unfold f_X12_readSisters_j24 at h
  refine ev_iconst (v := (0 : Int32)) dX12_readSisters_24 (by decide) ?_
  refine ev_istore_n (loc' := [_, _]) dX12_readSisters_25 rfl (by decide) (by rfl) ?_
  exact ev_lt (f_X12_readSisters_L26_ok (fun _ _ hh => f_X12_readSisters_j64_ok hh) _ _ _ h) ⟨rfl, ⟨rfl, trivial⟩⟩
def f_X12_readSisters (G : Nat) (μ : Mem) : Option (Int32 × Mem) :=
  f_X12_readSisters_L2 G (f_X12_readSisters_j24 G) G (0 : Int32) μ
set_option maxHeartbeats 4000000 in
set_option maxRecDepth 100000 in
theorem c_X12_readSisters  {G : Nat} {μ : Mem} {r : Int32} {μr : Mem}  (h : f_X12_readSisters G μ = some (r, μr)) : Cn yX12_readSisters cX12_readSisters 2 (some .int) 7 0 0 [.ref 0] shR μ (eqP (some r) shR μr) := by
  refine cn_of (own := RX12) (ini := false) (loc := [some (.ref 0), none]) rfl (by decide) (fun q => by cases q) (Nat.le_of_ble_eq_true rfl) (by rfl) rfl ?_
  unfold f_X12_readSisters at h
  refine ev_iconst (v := (0 : Int32)) dX12_readSisters_0 (by decide) ?_
  refine ev_istore_n (loc' := [_, _]) dX12_readSisters_1 rfl (by decide) (by rfl) ?_
  exact ev_lt (f_X12_readSisters_L2_ok (fun _ hh => f_X12_readSisters_j24_ok hh) _ _ _ h) ⟨rfl, ⟨rfl, trivial⟩⟩
def f_X12_readsText (G : Nat) (p1 : Int32) (μ : Mem) : Option (Int32 × Mem) :=
  (let m1 := wr μ 0 28 (0 : Int32)
  bndV (f_X12_reads G m1) (fun m3 =>
  (if p1 = (1 : Int32) then
  bndE (f_X12_readQuestions G m3) (fun w18 m17 =>
  some (w18, m17))
  else
  (if p1 = (2 : Int32) then
  bndE (f_X12_readYears G m3) (fun w15 m14 =>
  some (w15, m14))
  else
  (if p1 = (3 : Int32) then
  bndE (f_X12_readSisters G m3) (fun w12 m11 =>
  some (w12, m11))
  else
  bndE (f_X12_readLaw G m3) (fun w9 m8 =>
  some (w9, m8)))))))
set_option maxHeartbeats 4000000 in
set_option maxRecDepth 100000 in
theorem c_X12_readsText  {G : Nat} {μ : Mem} {p1 : Int32} {r : Int32} {μr : Mem}  (h : f_X12_readsText G p1 μ = some (r, μr)) : Cn yX12_readsText cX12_readsText 2 (some .int) 10 0 0 [.ref 0, .int p1] shR μ (eqP (some r) shR μr) := by
  refine cn_of (own := RX12) (ini := false) (loc := [some (.ref 0), some (.int p1)]) rfl (by decide) (fun q => by cases q) (Nat.le_of_ble_eq_true rfl) (by rfl) rfl ?_
  unfold f_X12_readsText at h
  refine ev_aload_n dX12_readsText_0 rfl ?_
  refine ev_iconst (v := (0 : Int32)) dX12_readsText_1 (by decide) ?_
  refine ev_putI fr_X12_277 shR_0 rfl rfl rfl dX12_readsText_2 ?_
  refine ev_aload_n dX12_readsText_5 rfl ?_
  obtain ⟨m3, hq2, h⟩ := bndV_t h
  refine ev_cVv mv_X12_236 dX12_readsText_6 (c_X12_reads hq2) rfl shR_0 rfl rfl (Nat.le_of_ble_eq_true rfl) (by rfl) (Nat.le_of_ble_eq_true rfl) (Nat.le_of_ble_eq_true rfl) (Nat.le_of_ble_eq_true rfl) ?_
  refine ev_iload_n dX12_readsText_9 rfl ?_
  refine ev_iconst (v := (1 : Int32)) dX12_readsText_10 (by decide) ?_
  refine ev_icmp_ne (tgt := 19) dX12_readsText_11 (by decide) (fun hc4 => ?_) (fun hc4 => ?_)
  · replace h := ite_f hc4 h
    refine ev_iload_n dX12_readsText_19 rfl ?_
    refine ev_iconst (v := (2 : Int32)) dX12_readsText_20 (by decide) ?_
    refine ev_icmp_ne (tgt := 29) dX12_readsText_21 (by decide) (fun hc5 => ?_) (fun hc5 => ?_)
    · replace h := ite_f hc5 h
      refine ev_iload_n dX12_readsText_29 rfl ?_
      refine ev_iconst (v := (3 : Int32)) dX12_readsText_30 (by decide) ?_
      refine ev_icmp_ne (tgt := 41) dX12_readsText_31 (by decide) (fun hc6 => ?_) (fun hc6 => ?_)
      · replace h := ite_f hc6 h
        refine ev_aload_n dX12_readsText_41 rfl ?_
        obtain ⟨w9, m8, hq7, h⟩ := bndE_t h
        refine ev_cVi mv_X12_311 dX12_readsText_42 (c_X12_readLaw hq7) rfl shR_0 rfl rfl (Nat.le_of_ble_eq_true rfl) (by rfl) (Nat.le_of_ble_eq_true rfl) (Nat.le_of_ble_eq_true rfl) (Nat.le_of_ble_eq_true rfl) ?_
        exact ev_iret rfl rfl (by decide) (by decide) dX12_readsText_45 (eqP_E h)
      · replace h := ite_t hc6 h
        refine ev_aload_n dX12_readsText_34 rfl ?_
        obtain ⟨w12, m11, hq10, h⟩ := bndE_t h
        refine ev_cVi mv_X12_308 dX12_readsText_35 (c_X12_readSisters hq10) rfl shR_0 rfl rfl (Nat.le_of_ble_eq_true rfl) (by rfl) (Nat.le_of_ble_eq_true rfl) (Nat.le_of_ble_eq_true rfl) (Nat.le_of_ble_eq_true rfl) ?_
        refine ev_goto (tgt := 45) dX12_readsText_38 (by decide) ?_
        exact ev_iret rfl rfl (by decide) (by decide) dX12_readsText_45 (eqP_E h)
    · replace h := ite_t hc5 h
      refine ev_aload_n dX12_readsText_24 rfl ?_
      obtain ⟨w15, m14, hq13, h⟩ := bndE_t h
      refine ev_cVi mv_X12_305 dX12_readsText_25 (c_X12_readYears hq13) rfl shR_0 rfl rfl (Nat.le_of_ble_eq_true rfl) (by rfl) (Nat.le_of_ble_eq_true rfl) (Nat.le_of_ble_eq_true rfl) (Nat.le_of_ble_eq_true rfl) ?_
      exact ev_iret rfl rfl (by decide) (by decide) dX12_readsText_28 (eqP_E h)
  · replace h := ite_t hc4 h
    refine ev_aload_n dX12_readsText_14 rfl ?_
    obtain ⟨w18, m17, hq16, h⟩ := bndE_t h
    refine ev_cVi mv_X12_302 dX12_readsText_15 (c_X12_readQuestions hq16) rfl shR_0 rfl rfl (Nat.le_of_ble_eq_true rfl) (by rfl) (Nat.le_of_ble_eq_true rfl) (Nat.le_of_ble_eq_true rfl) (Nat.le_of_ble_eq_true rfl) ?_
    exact ev_iret rfl rfl (by decide) (by decide) dX12_readsText_18 (eqP_E h)
def f_X12_takesOther_L83 (G : Nat)  : Nat → Int32 → Int32 → Mem → Option Mem
  | 0, _, _, _ => none
  | g + 1, v2, v3, μ =>
  (if ((6 : Int32) * v2) ≤ v3 then
  (let m4 := wr μ 0 39 v2
  (let m5 := wr m4 0 3 (0 : Int32)
  some m5))
  else
  chk ((96 : Int32) + v3) 192 (chk v3 192 (let m7 := wr μ 21 (ix v3) (μ 21 (ix ((96 : Int32) + v3)))
  (f_X12_takesOther_L83 G g) v2 (v3 + (1 : Int32)) m7)))
set_option maxHeartbeats 4000000 in
set_option maxRecDepth 100000 in
theorem f_X12_takesOther_L83_ok  {G : Nat} {μr : Mem}    : ∀ (g : Nat) (v2 v3 : Int32) (μ : Mem), f_X12_takesOther_L83 G g v2 v3 μ = some μr → Ev RX12 cX12_takesOther 4 none false 1 0 0 (eqP none shR μr) 83 [some (.ref 0), none, some (.int v2), some (.int v3)] [] shR μ 0 0 := by
  intro g
  induction g with
  | zero =>
    intro v2 v3 μ h
    cases h
  | succ g ih =>
    intro v2 v3 μ h
    rw [f_X12_takesOther_L83] at h
    refine ev_iload_n dX12_takesOther_83 rfl ?_
    refine ev_bipush (v := (6 : Int32)) dX12_takesOther_84 (by decide) ?_
    refine ev_iload_n dX12_takesOther_86 rfl ?_
    refine ev_imul dX12_takesOther_87 ?_
    refine ev_icmp_ge (tgt := 112) dX12_takesOther_88 (by decide) (fun hc3 => ?_) (fun hc3 => ?_)
    · replace h := ite_t hc3 h
      refine ev_aload_n dX12_takesOther_112 rfl ?_
      refine ev_iload_n dX12_takesOther_113 rfl ?_
      refine ev_putI fr_X12_320 shR_0 rfl rfl rfl dX12_takesOther_114 ?_
      refine ev_aload_n dX12_takesOther_117 rfl ?_
      refine ev_iconst (v := (0 : Int32)) dX12_takesOther_118 (by decide) ?_
      refine ev_putI fr_X12_152 shR_0 rfl rfl rfl dX12_takesOther_119 ?_
      exact ev_vret rfl (by decide) (by decide) dX12_takesOther_122 (eqP_V h)
    · replace h := ite_f hc3 h
      refine ev_aload_n dX12_takesOther_91 rfl ?_
      refine ev_getR fr_X12_74 shR_0 rfl dX12_takesOther_92 ?_
      refine ev_iload_n dX12_takesOther_95 rfl ?_
      refine ev_aload_n dX12_takesOther_96 rfl ?_
      refine ev_getR fr_X12_74 shR_0 rfl dX12_takesOther_97 ?_
      refine ev_bipush (v := (96 : Int32)) dX12_takesOther_100 (by decide) ?_
      refine ev_iload_n dX12_takesOther_102 rfl ?_
      refine ev_iadd dX12_takesOther_103 ?_
      obtain ⟨hi6, h⟩ := chk_t h
      refine ev_iald shR_21 hi6 dX12_takesOther_104 ?_
      obtain ⟨hi8, h⟩ := chk_t h
      refine ev_iast shR_21 hi8 dX12_takesOther_105 ?_
      refine ev_iinc (cq := (1 : Int32)) (loc' := [_, _, _, _]) dX12_takesOther_106 rfl (by decide) rfl (by decide) (by rfl) ?_
      refine ev_goto (tgt := 83) dX12_takesOther_109 (by decide) ?_
      exact ev_lt (ih _ _ _ h) ⟨rfl, ⟨rfl, ⟨rfl, trivial⟩⟩⟩
def f_X12_takesOther_L47 (G : Nat)  : Nat → Int32 → Int32 → Mem → Option Mem
  | 0, _, _, _ => none
  | g + 1, v2, v3, μ =>
  (if v2 ≤ v3 then
  (let m10 := wr μ 0 37 v2
  (let m11 := wr m10 0 3 (0 : Int32)
  some m11))
  else
  chk ((16 : Int32) + v3) 32 (chk v3 32 (let m13 := wr μ 20 (ix v3) (μ 20 (ix ((16 : Int32) + v3)))
  (f_X12_takesOther_L47 G g) v2 (v3 + (1 : Int32)) m13)))
set_option maxHeartbeats 4000000 in
set_option maxRecDepth 100000 in
theorem f_X12_takesOther_L47_ok  {G : Nat} {μr : Mem}    : ∀ (g : Nat) (v2 v3 : Int32) (μ : Mem), f_X12_takesOther_L47 G g v2 v3 μ = some μr → Ev RX12 cX12_takesOther 4 none false 1 0 0 (eqP none shR μr) 47 [some (.ref 0), none, some (.int v2), some (.int v3)] [] shR μ 0 0 := by
  intro g
  induction g with
  | zero =>
    intro v2 v3 μ h
    cases h
  | succ g ih =>
    intro v2 v3 μ h
    rw [f_X12_takesOther_L47] at h
    refine ev_iload_n dX12_takesOther_47 rfl ?_
    refine ev_iload_n dX12_takesOther_48 rfl ?_
    refine ev_icmp_ge (tgt := 73) dX12_takesOther_49 (by decide) (fun hc9 => ?_) (fun hc9 => ?_)
    · replace h := ite_t hc9 h
      refine ev_aload_n dX12_takesOther_73 rfl ?_
      refine ev_iload_n dX12_takesOther_74 rfl ?_
      refine ev_putI fr_X12_317 shR_0 rfl rfl rfl dX12_takesOther_75 ?_
      refine ev_goto (tgt := 117) dX12_takesOther_78 (by decide) ?_
      refine ev_aload_n dX12_takesOther_117 rfl ?_
      refine ev_iconst (v := (0 : Int32)) dX12_takesOther_118 (by decide) ?_
      refine ev_putI fr_X12_152 shR_0 rfl rfl rfl dX12_takesOther_119 ?_
      exact ev_vret rfl (by decide) (by decide) dX12_takesOther_122 (eqP_V h)
    · replace h := ite_f hc9 h
      refine ev_aload_n dX12_takesOther_52 rfl ?_
      refine ev_getR fr_X12_71 shR_0 rfl dX12_takesOther_53 ?_
      refine ev_iload_n dX12_takesOther_56 rfl ?_
      refine ev_aload_n dX12_takesOther_57 rfl ?_
      refine ev_getR fr_X12_71 shR_0 rfl dX12_takesOther_58 ?_
      refine ev_bipush (v := (16 : Int32)) dX12_takesOther_61 (by decide) ?_
      refine ev_iload_n dX12_takesOther_63 rfl ?_
      refine ev_iadd dX12_takesOther_64 ?_
      obtain ⟨hi12, h⟩ := chk_t h
      refine ev_iald shR_20 hi12 dX12_takesOther_65 ?_
      obtain ⟨hi14, h⟩ := chk_t h
      refine ev_iast shR_20 hi14 dX12_takesOther_66 ?_
      refine ev_iinc (cq := (1 : Int32)) (loc' := [_, _, _, _]) dX12_takesOther_67 rfl (by decide) rfl (by decide) (by rfl) ?_
      refine ev_goto (tgt := 47) dX12_takesOther_70 (by decide) ?_
      exact ev_lt (ih _ _ _ h) ⟨rfl, ⟨rfl, ⟨rfl, trivial⟩⟩⟩
def f_X12_takesOther_L7 (G : Nat)  : Nat → Int32 → Int32 → Mem → Option Mem
  | 0, _, _, _ => none
  | g + 1, v2, v3, μ =>
  (if (12 : Int32) ≤ v3 then
  (let m16 := wr μ 0 41 v2
  some m16)
  else
  chk ((12 : Int32) + v3) 24 (chk v3 24 (let m18 := wr μ 22 (ix v3) (μ 22 (ix ((12 : Int32) + v3)))
  (f_X12_takesOther_L7 G g) v2 (v3 + (1 : Int32)) m18)))
set_option maxHeartbeats 4000000 in
set_option maxRecDepth 100000 in
theorem f_X12_takesOther_L7_ok  {G : Nat} {μr : Mem}    : ∀ (g : Nat) (v2 v3 : Int32) (μ : Mem), f_X12_takesOther_L7 G g v2 v3 μ = some μr → Ev RX12 cX12_takesOther 4 none false 1 0 0 (eqP none shR μr) 7 [some (.ref 0), none, some (.int v2), some (.int v3)] [] shR μ 0 0 := by
  intro g
  induction g with
  | zero =>
    intro v2 v3 μ h
    cases h
  | succ g ih =>
    intro v2 v3 μ h
    rw [f_X12_takesOther_L7] at h
    refine ev_iload_n dX12_takesOther_7 rfl ?_
    refine ev_bipush (v := (12 : Int32)) dX12_takesOther_8 (by decide) ?_
    refine ev_icmp_ge (tgt := 34) dX12_takesOther_10 (by decide) (fun hc15 => ?_) (fun hc15 => ?_)
    · replace h := ite_t hc15 h
      refine ev_aload_n dX12_takesOther_34 rfl ?_
      refine ev_iload_n dX12_takesOther_35 rfl ?_
      refine ev_putI fr_X12_314 shR_0 rfl rfl rfl dX12_takesOther_36 ?_
      exact ev_vret rfl (by decide) (by decide) dX12_takesOther_39 (eqP_V h)
    · replace h := ite_f hc15 h
      refine ev_aload_n dX12_takesOther_13 rfl ?_
      refine ev_getR fr_X12_77 shR_0 rfl dX12_takesOther_14 ?_
      refine ev_iload_n dX12_takesOther_17 rfl ?_
      refine ev_aload_n dX12_takesOther_18 rfl ?_
      refine ev_getR fr_X12_77 shR_0 rfl dX12_takesOther_19 ?_
      refine ev_bipush (v := (12 : Int32)) dX12_takesOther_22 (by decide) ?_
      refine ev_iload_n dX12_takesOther_24 rfl ?_
      refine ev_iadd dX12_takesOther_25 ?_
      obtain ⟨hi17, h⟩ := chk_t h
      refine ev_iald shR_22 hi17 dX12_takesOther_26 ?_
      obtain ⟨hi19, h⟩ := chk_t h
      refine ev_iast shR_22 hi19 dX12_takesOther_27 ?_
      refine ev_iinc (cq := (1 : Int32)) (loc' := [_, _, _, _]) dX12_takesOther_28 rfl (by decide) rfl (by decide) (by rfl) ?_
      refine ev_goto (tgt := 7) dX12_takesOther_31 (by decide) ?_
      exact ev_lt (ih _ _ _ h) ⟨rfl, ⟨rfl, ⟨rfl, trivial⟩⟩⟩
def f_X12_takesOther (G : Nat) (p1 p2 : Int32) (μ : Mem) : Option Mem :=
  (if p1 = (3 : Int32) then
  f_X12_takesOther_L7 G G p2 (0 : Int32) μ
  else
  (if p1 = (1 : Int32) then
  f_X12_takesOther_L47 G G p2 (0 : Int32) μ
  else
  f_X12_takesOther_L83 G G p2 (0 : Int32) μ))
set_option maxHeartbeats 4000000 in
set_option maxRecDepth 100000 in
theorem c_X12_takesOther  {G : Nat} {μ : Mem} {p1 p2 : Int32} {μr : Mem}  (h : f_X12_takesOther G p1 p2 μ = some μr) : Cn yX12_takesOther cX12_takesOther 4 none 1 0 0 [.ref 0, .int p1, .int p2] shR μ (eqP none shR μr) := by
  refine cn_of (own := RX12) (ini := false) (loc := [some (.ref 0), some (.int p1), some (.int p2), none]) rfl (by decide) (fun q => by cases q) (Nat.le_of_ble_eq_true rfl) (by rfl) rfl ?_
  unfold f_X12_takesOther at h
  refine ev_iload_n dX12_takesOther_0 rfl ?_
  refine ev_iconst (v := (3 : Int32)) dX12_takesOther_1 (by decide) ?_
  refine ev_icmp_ne (tgt := 40) dX12_takesOther_2 (by decide) (fun hc1 => ?_) (fun hc1 => ?_)
  · replace h := ite_f hc1 h
    refine ev_iload_n dX12_takesOther_40 rfl ?_
    refine ev_iconst (v := (1 : Int32)) dX12_takesOther_41 (by decide) ?_
    refine ev_icmp_ne (tgt := 81) dX12_takesOther_42 (by decide) (fun hc2 => ?_) (fun hc2 => ?_)
    · replace h := ite_f hc2 h
      refine ev_iconst (v := (0 : Int32)) dX12_takesOther_81 (by decide) ?_
      refine ev_istore_n (loc' := [_, _, _, _]) dX12_takesOther_82 rfl (by decide) (by rfl) ?_
      exact ev_lt (f_X12_takesOther_L83_ok _ _ _ _ h) ⟨rfl, ⟨rfl, ⟨rfl, trivial⟩⟩⟩
    · replace h := ite_t hc2 h
      refine ev_iconst (v := (0 : Int32)) dX12_takesOther_45 (by decide) ?_
      refine ev_istore_n (loc' := [_, _, _, _]) dX12_takesOther_46 rfl (by decide) (by rfl) ?_
      exact ev_lt (f_X12_takesOther_L47_ok _ _ _ _ h) ⟨rfl, ⟨rfl, ⟨rfl, trivial⟩⟩⟩
  · replace h := ite_t hc1 h
    refine ev_iconst (v := (0 : Int32)) dX12_takesOther_5 (by decide) ?_
    refine ev_istore_n (loc' := [_, _, _, _]) dX12_takesOther_6 rfl (by decide) (by rfl) ?_
    exact ev_lt (f_X12_takesOther_L7_ok _ _ _ _ h) ⟨rfl, ⟨rfl, ⟨rfl, trivial⟩⟩⟩
def f_X12_text_j69 (G : Nat)  (v1 v2 : Int32) (μ : Mem) : Option (Int32 × Mem) :=
  (let m8 := wr μ 0 15 (0 : Int32)
  (if v2 = (-1 : Int32) then
  some ((-1 : Int32), m8)
  else
  (if v1 = (0 : Int32) then
  bndV (f_X12_takesLaw G v2 m8) (fun m14 =>
  some (v2, m14))
  else
  bndV (f_X12_takesOther G v1 v2 m8) (fun m12 =>
  some (v2, m12)))))
set_option maxHeartbeats 4000000 in
set_option maxRecDepth 100000 in
theorem f_X12_text_j69_ok  {G : Nat} {r : Int32} {μr : Mem}    {v1 v2 : Int32} {μ : Mem} (h : f_X12_text_j69 G v1 v2 μ = some (r, μr)) : Ev RX12 cX12_text 3 (some .int) false 11 0 0 (eqP (some r) shR μr) 69 [some (.ref 0), some (.int v1), some (.int v2)] [] shR μ 0 0 := by
  unfold f_X12_text_j69 at h
  refine ev_aload_n dX12_text_69 rfl ?_
  refine ev_iconst (v := (0 : Int32)) dX12_text_70 (by decide) ?_
  refine ev_putI fr_X12_181 shR_0 rfl rfl rfl dX12_text_71 ?_
  refine ev_iload_n dX12_text_74 rfl ?_
  refine ev_iconst (v := (-1 : Int32)) dX12_text_75 (by decide) ?_
  refine ev_icmp_ne (tgt := 81) dX12_text_76 (by decide) (fun hc9 => ?_) (fun hc9 => ?_)
  · replace h := ite_f hc9 h
    refine ev_iload_n dX12_text_81 rfl ?_
    refine ev_if_ne (tgt := 93) dX12_text_82 (by decide) (fun hc10 => ?_) (fun hc10 => ?_)
    · replace h := ite_f hc10 h
      refine ev_aload_n dX12_text_93 rfl ?_
      refine ev_iload_n dX12_text_94 rfl ?_
      refine ev_iload_n dX12_text_95 rfl ?_
      obtain ⟨m12, hq11, h⟩ := bndV_t h
      refine ev_cVv mv_X12_332 dX12_text_96 (c_X12_takesOther hq11) rfl shR_0 rfl rfl (Nat.le_of_ble_eq_true rfl) (by rfl) (Nat.le_of_ble_eq_true rfl) (Nat.le_of_ble_eq_true rfl) (Nat.le_of_ble_eq_true rfl) ?_
      refine ev_iload_n dX12_text_99 rfl ?_
      exact ev_iret rfl rfl (by decide) (by decide) dX12_text_100 (eqP_E h)
    · replace h := ite_t hc10 h
      refine ev_aload_n dX12_text_85 rfl ?_
      refine ev_iload_n dX12_text_86 rfl ?_
      obtain ⟨m14, hq13, h⟩ := bndV_t h
      refine ev_cVv mv_X12_329 dX12_text_87 (c_X12_takesLaw hq13) rfl shR_0 rfl rfl (Nat.le_of_ble_eq_true rfl) (by rfl) (Nat.le_of_ble_eq_true rfl) (Nat.le_of_ble_eq_true rfl) (Nat.le_of_ble_eq_true rfl) ?_
      refine ev_goto (tgt := 99) dX12_text_90 (by decide) ?_
      refine ev_iload_n dX12_text_99 rfl ?_
      exact ev_iret rfl rfl (by decide) (by decide) dX12_text_100 (eqP_E h)
  · replace h := ite_t hc9 h
    refine ev_iconst (v := (-1 : Int32)) dX12_text_79 (by decide) ?_
    exact ev_iret rfl rfl (by decide) (by decide) dX12_text_80 (eqP_E h)
def f_X12_text (G : Nat) (p1 : Int32) (μ : Mem) : Option (Int32 × Mem) :=
  (let m1 := wr μ 0 0 (0 : Int32)
  (let m2 := wr m1 0 35 (0 : Int32)
  (let m3 := wr m2 0 36 (-1 : Int32)
  (let m4 := wr m3 0 16 (0 : Int32)
  (let m5 := wr m4 0 29 (0 : Int32)
  (let m6 := wr m5 0 30 (0 : Int32)
  (if (f_X12_isIn p1 (0 : Int32) (3 : Int32)) = (0 : Int32) then
  f_X12_text_j69 G p1 (-1 : Int32) m6
  else
  bndE (f_X12_readsText G p1 m6) (fun w17 m16 =>
  (if w17 = (-1 : Int32) then
  (let m19 := wr m16 0 35 (m16 0 33)
  (let m20 := wr m19 0 36 (m19 0 34)
  f_X12_text_j69 G p1 w17 m20))
  else
  f_X12_text_j69 G p1 w17 m16)))))))))
set_option maxHeartbeats 4000000 in
set_option maxRecDepth 100000 in
theorem c_X12_text  {G : Nat} {μ : Mem} {p1 : Int32} {r : Int32} {μr : Mem}  (h : f_X12_text G p1 μ = some (r, μr)) : Cn yX12_text cX12_text 3 (some .int) 11 0 0 [.ref 0, .int p1] shR μ (eqP (some r) shR μr) := by
  refine cn_of (own := RX12) (ini := false) (loc := [some (.ref 0), some (.int p1), none]) rfl (by decide) (fun q => by cases q) (Nat.le_of_ble_eq_true rfl) (by rfl) rfl ?_
  unfold f_X12_text at h
  refine ev_aload_n dX12_text_0 rfl ?_
  refine ev_iconst (v := (0 : Int32)) dX12_text_1 (by decide) ?_
  refine ev_putI fr_X12_149 shR_0 rfl rfl rfl dX12_text_2 ?_
  refine ev_aload_n dX12_text_5 rfl ?_
  refine ev_iconst (v := (0 : Int32)) dX12_text_6 (by decide) ?_
  refine ev_putI fr_X12_323 shR_0 rfl rfl rfl dX12_text_7 ?_
  refine ev_aload_n dX12_text_10 rfl ?_
  refine ev_iconst (v := (-1 : Int32)) dX12_text_11 (by decide) ?_
  refine ev_putI fr_X12_67 shR_0 rfl rfl rfl dX12_text_12 ?_
  refine ev_aload_n dX12_text_15 rfl ?_
  refine ev_iconst (v := (0 : Int32)) dX12_text_16 (by decide) ?_
  refine ev_putI fr_X12_188 shR_0 rfl rfl rfl dX12_text_17 ?_
  refine ev_aload_n dX12_text_20 rfl ?_
  refine ev_iconst (v := (0 : Int32)) dX12_text_21 (by decide) ?_
  refine ev_putI fr_X12_223 shR_0 rfl rfl rfl dX12_text_22 ?_
  refine ev_aload_n dX12_text_25 rfl ?_
  refine ev_iconst (v := (0 : Int32)) dX12_text_26 (by decide) ?_
  refine ev_putI fr_X12_255 shR_0 rfl rfl rfl dX12_text_27 ?_
  refine ev_iconst (v := (-1 : Int32)) dX12_text_30 (by decide) ?_
  refine ev_istore_n (loc' := [_, _, _]) dX12_text_31 rfl (by decide) (by rfl) ?_
  refine ev_aload_n dX12_text_32 rfl ?_
  refine ev_iload_n dX12_text_33 rfl ?_
  refine ev_iconst (v := (0 : Int32)) dX12_text_34 (by decide) ?_
  refine ev_iconst (v := (3 : Int32)) dX12_text_35 (by decide) ?_
  refine ev_cVi mv_X12_167 dX12_text_36 c_X12_isIn rfl shR_0 rfl rfl (Nat.le_of_ble_eq_true rfl) (by rfl) (Nat.le_of_ble_eq_true rfl) (Nat.le_of_ble_eq_true rfl) (Nat.le_of_ble_eq_true rfl) ?_
  refine ev_if_eq (tgt := 69) dX12_text_39 (by decide) (fun hc7 => ?_) (fun hc7 => ?_)
  · replace h := ite_t hc7 h
    exact ev_lt (f_X12_text_j69_ok h) ⟨rfl, ⟨rfl, ⟨rfl, trivial⟩⟩⟩
  · replace h := ite_f hc7 h
    refine ev_aload_n dX12_text_42 rfl ?_
    refine ev_iload_n dX12_text_43 rfl ?_
    obtain ⟨w17, m16, hq15, h⟩ := bndE_t h
    refine ev_cVi mv_X12_326 dX12_text_44 (c_X12_readsText hq15) rfl shR_0 rfl rfl (Nat.le_of_ble_eq_true rfl) (by rfl) (Nat.le_of_ble_eq_true rfl) (Nat.le_of_ble_eq_true rfl) (Nat.le_of_ble_eq_true rfl) ?_
    refine ev_istore_n (loc' := [_, _, _]) dX12_text_47 rfl (by decide) (by rfl) ?_
    refine ev_iload_n dX12_text_48 rfl ?_
    refine ev_iconst (v := (-1 : Int32)) dX12_text_49 (by decide) ?_
    refine ev_icmp_ne (tgt := 69) dX12_text_50 (by decide) (fun hc18 => ?_) (fun hc18 => ?_)
    · replace h := ite_f hc18 h
      exact ev_lt (f_X12_text_j69_ok h) ⟨rfl, ⟨rfl, ⟨rfl, trivial⟩⟩⟩
    · replace h := ite_t hc18 h
      refine ev_aload_n dX12_text_53 rfl ?_
      refine ev_aload_n dX12_text_54 rfl ?_
      refine ev_getI fr_X12_217 shR_0 rfl dX12_text_55 ?_
      refine ev_putI fr_X12_323 shR_0 rfl rfl rfl dX12_text_58 ?_
      refine ev_aload_n dX12_text_61 rfl ?_
      refine ev_aload_n dX12_text_62 rfl ?_
      refine ev_getI fr_X12_220 shR_0 rfl dX12_text_63 ?_
      refine ev_putI fr_X12_67 shR_0 rfl rfl rfl dX12_text_66 ?_
      exact ev_lt (f_X12_text_j69_ok h) ⟨rfl, ⟨rfl, ⟨rfl, trivial⟩⟩⟩
def f_X12_fault (G : Nat) (p1 : Int32) (μ : Mem) : Option (Int32 × Mem) :=
  (let m1 := wr μ 0 0 (0 : Int32)
  (if p1 = (0 : Int32) then
  some ((m1 0 35), m1)
  else
  (if p1 = (1 : Int32) then
  some ((m1 0 36), m1)
  else
  some ((-1 : Int32), m1))))
set_option maxHeartbeats 4000000 in
set_option maxRecDepth 100000 in
theorem c_X12_fault  {G : Nat} {μ : Mem} {p1 : Int32} {r : Int32} {μr : Mem}  (h : f_X12_fault G p1 μ = some (r, μr)) : Cn yX12_fault cX12_fault 2 (some .int) 1 0 0 [.ref 0, .int p1] shR μ (eqP (some r) shR μr) := by
  refine cn_of (own := RX12) (ini := false) (loc := [some (.ref 0), some (.int p1)]) rfl (by decide) (fun q => by cases q) (Nat.le_of_ble_eq_true rfl) (by rfl) rfl ?_
  unfold f_X12_fault at h
  refine ev_aload_n dX12_fault_0 rfl ?_
  refine ev_iconst (v := (0 : Int32)) dX12_fault_1 (by decide) ?_
  refine ev_putI fr_X12_149 shR_0 rfl rfl rfl dX12_fault_2 ?_
  refine ev_iload_n dX12_fault_5 rfl ?_
  refine ev_if_ne (tgt := 16) dX12_fault_6 (by decide) (fun hc2 => ?_) (fun hc2 => ?_)
  · replace h := ite_f hc2 h
    refine ev_iload_n dX12_fault_16 rfl ?_
    refine ev_iconst (v := (1 : Int32)) dX12_fault_17 (by decide) ?_
    refine ev_icmp_ne (tgt := 28) dX12_fault_18 (by decide) (fun hc3 => ?_) (fun hc3 => ?_)
    · replace h := ite_f hc3 h
      refine ev_iconst (v := (-1 : Int32)) dX12_fault_28 (by decide) ?_
      exact ev_iret rfl rfl (by decide) (by decide) dX12_fault_29 (eqP_E h)
    · replace h := ite_t hc3 h
      refine ev_aload_n dX12_fault_21 rfl ?_
      refine ev_getI fr_X12_67 shR_0 rfl dX12_fault_22 ?_
      refine ev_goto (tgt := 29) dX12_fault_25 (by decide) ?_
      exact ev_iret rfl rfl (by decide) (by decide) dX12_fault_29 (eqP_E h)
  · replace h := ite_t hc2 h
    refine ev_aload_n dX12_fault_9 rfl ?_
    refine ev_getI fr_X12_323 shR_0 rfl dX12_fault_10 ?_
    refine ev_goto (tgt := 29) dX12_fault_13 (by decide) ?_
    exact ev_iret rfl rfl (by decide) (by decide) dX12_fault_29 (eqP_E h)
def f_X12_twoOf (G : Nat) (μ : Mem) (p1 p2 p3 : Int32) : Option Int32 :=
  (if p1 = (2 : Int32) then
  some (p2 + p3)
  else
  (if p1 = (3 : Int32) then
  some (p2 - p3)
  else
  (if p1 = (4 : Int32) then
  some (p2 * p3)
  else
  (if p1 = (5 : Int32) then
  dvk p3 (some (p2 / p3))
  else
  (if p1 = (6 : Int32) then
  (if p3 ≤ p2 then
  some (0 : Int32)
  else
  some (1 : Int32))
  else
  (if p1 = (7 : Int32) then
  (if p2 = p3 then
  some (1 : Int32)
  else
  some (0 : Int32))
  else
  (if p1 = (8 : Int32) then
  (if p2 ≤ p3 then
  some (0 : Int32)
  else
  some (1 : Int32))
  else
  (if p1 = (10 : Int32) then
  some (p2 * p3)
  else
  (if (p2 + p3) ≤ (0 : Int32) then
  some (0 : Int32)
  else
  some (1 : Int32))))))))))
set_option maxHeartbeats 4000000 in
set_option maxRecDepth 100000 in
theorem c_X12_twoOf  {G : Nat} {μ : Mem}  {p1 p2 p3 : Int32} {r : Int32}  (h : f_X12_twoOf G μ p1 p2 p3 = some r) : Cn yX12_twoOf cX12_twoOf 4 (some .int) 1 0 0 [.ref 0, .int p1, .int p2, .int p3] shR μ (eqP (some r) shR μ) := by
  refine cn_of (own := RX12) (ini := false) (loc := [some (.ref 0), some (.int p1), some (.int p2), some (.int p3)]) rfl (by decide) (fun q => by cases q) (Nat.le_of_ble_eq_true rfl) (by rfl) rfl ?_
  unfold f_X12_twoOf at h
  refine ev_iload_n dX12_twoOf_0 rfl ?_
  refine ev_iconst (v := (2 : Int32)) dX12_twoOf_1 (by decide) ?_
  refine ev_icmp_ne (tgt := 9) dX12_twoOf_2 (by decide) (fun hc1 => ?_) (fun hc1 => ?_)
  · replace h := ite_f hc1 h
    refine ev_iload_n dX12_twoOf_9 rfl ?_
    refine ev_iconst (v := (3 : Int32)) dX12_twoOf_10 (by decide) ?_
    refine ev_icmp_ne (tgt := 18) dX12_twoOf_11 (by decide) (fun hc2 => ?_) (fun hc2 => ?_)
    · replace h := ite_f hc2 h
      refine ev_iload_n dX12_twoOf_18 rfl ?_
      refine ev_iconst (v := (4 : Int32)) dX12_twoOf_19 (by decide) ?_
      refine ev_icmp_ne (tgt := 27) dX12_twoOf_20 (by decide) (fun hc3 => ?_) (fun hc3 => ?_)
      · replace h := ite_f hc3 h
        refine ev_iload_n dX12_twoOf_27 rfl ?_
        refine ev_iconst (v := (5 : Int32)) dX12_twoOf_28 (by decide) ?_
        refine ev_icmp_ne (tgt := 36) dX12_twoOf_29 (by decide) (fun hc4 => ?_) (fun hc4 => ?_)
        · replace h := ite_f hc4 h
          refine ev_iload_n dX12_twoOf_36 rfl ?_
          refine ev_bipush (v := (6 : Int32)) dX12_twoOf_37 (by decide) ?_
          refine ev_icmp_ne (tgt := 53) dX12_twoOf_39 (by decide) (fun hc5 => ?_) (fun hc5 => ?_)
          · replace h := ite_f hc5 h
            refine ev_iload_n dX12_twoOf_53 rfl ?_
            refine ev_bipush (v := (7 : Int32)) dX12_twoOf_54 (by decide) ?_
            refine ev_icmp_ne (tgt := 70) dX12_twoOf_56 (by decide) (fun hc6 => ?_) (fun hc6 => ?_)
            · replace h := ite_f hc6 h
              refine ev_iload_n dX12_twoOf_70 rfl ?_
              refine ev_bipush (v := (8 : Int32)) dX12_twoOf_71 (by decide) ?_
              refine ev_icmp_ne (tgt := 87) dX12_twoOf_73 (by decide) (fun hc7 => ?_) (fun hc7 => ?_)
              · replace h := ite_f hc7 h
                refine ev_iload_n dX12_twoOf_87 rfl ?_
                refine ev_bipush (v := (10 : Int32)) dX12_twoOf_88 (by decide) ?_
                refine ev_icmp_ne (tgt := 99) dX12_twoOf_90 (by decide) (fun hc8 => ?_) (fun hc8 => ?_)
                · replace h := ite_f hc8 h
                  refine ev_iload_n dX12_twoOf_99 rfl ?_
                  refine ev_iload_n dX12_twoOf_100 rfl ?_
                  refine ev_iadd dX12_twoOf_101 ?_
                  refine ev_if_le (tgt := 109) dX12_twoOf_102 (by decide) (fun hc9 => ?_) (fun hc9 => ?_)
                  · replace h := ite_t hc9 h
                    refine ev_iconst (v := (0 : Int32)) dX12_twoOf_109 (by decide) ?_
                    exact ev_iret rfl rfl (by decide) (by decide) dX12_twoOf_110 (eqP_O h)
                  · replace h := ite_f hc9 h
                    refine ev_iconst (v := (1 : Int32)) dX12_twoOf_105 (by decide) ?_
                    refine ev_goto (tgt := 110) dX12_twoOf_106 (by decide) ?_
                    exact ev_iret rfl rfl (by decide) (by decide) dX12_twoOf_110 (eqP_O h)
                · replace h := ite_t hc8 h
                  refine ev_iload_n dX12_twoOf_93 rfl ?_
                  refine ev_iload_n dX12_twoOf_94 rfl ?_
                  refine ev_imul dX12_twoOf_95 ?_
                  refine ev_goto (tgt := 110) dX12_twoOf_96 (by decide) ?_
                  exact ev_iret rfl rfl (by decide) (by decide) dX12_twoOf_110 (eqP_O h)
              · replace h := ite_t hc7 h
                refine ev_iload_n dX12_twoOf_76 rfl ?_
                refine ev_iload_n dX12_twoOf_77 rfl ?_
                refine ev_icmp_le (tgt := 85) dX12_twoOf_78 (by decide) (fun hc10 => ?_) (fun hc10 => ?_)
                · replace h := ite_t hc10 h
                  refine ev_iconst (v := (0 : Int32)) dX12_twoOf_85 (by decide) ?_
                  exact ev_iret rfl rfl (by decide) (by decide) dX12_twoOf_86 (eqP_O h)
                · replace h := ite_f hc10 h
                  refine ev_iconst (v := (1 : Int32)) dX12_twoOf_81 (by decide) ?_
                  refine ev_goto (tgt := 86) dX12_twoOf_82 (by decide) ?_
                  exact ev_iret rfl rfl (by decide) (by decide) dX12_twoOf_86 (eqP_O h)
            · replace h := ite_t hc6 h
              refine ev_iload_n dX12_twoOf_59 rfl ?_
              refine ev_iload_n dX12_twoOf_60 rfl ?_
              refine ev_icmp_ne (tgt := 68) dX12_twoOf_61 (by decide) (fun hc11 => ?_) (fun hc11 => ?_)
              · replace h := ite_f hc11 h
                refine ev_iconst (v := (0 : Int32)) dX12_twoOf_68 (by decide) ?_
                exact ev_iret rfl rfl (by decide) (by decide) dX12_twoOf_69 (eqP_O h)
              · replace h := ite_t hc11 h
                refine ev_iconst (v := (1 : Int32)) dX12_twoOf_64 (by decide) ?_
                refine ev_goto (tgt := 69) dX12_twoOf_65 (by decide) ?_
                exact ev_iret rfl rfl (by decide) (by decide) dX12_twoOf_69 (eqP_O h)
          · replace h := ite_t hc5 h
            refine ev_iload_n dX12_twoOf_42 rfl ?_
            refine ev_iload_n dX12_twoOf_43 rfl ?_
            refine ev_icmp_ge (tgt := 51) dX12_twoOf_44 (by decide) (fun hc12 => ?_) (fun hc12 => ?_)
            · replace h := ite_t hc12 h
              refine ev_iconst (v := (0 : Int32)) dX12_twoOf_51 (by decide) ?_
              exact ev_iret rfl rfl (by decide) (by decide) dX12_twoOf_52 (eqP_O h)
            · replace h := ite_f hc12 h
              refine ev_iconst (v := (1 : Int32)) dX12_twoOf_47 (by decide) ?_
              refine ev_goto (tgt := 52) dX12_twoOf_48 (by decide) ?_
              exact ev_iret rfl rfl (by decide) (by decide) dX12_twoOf_52 (eqP_O h)
        · replace h := ite_t hc4 h
          refine ev_iload_n dX12_twoOf_32 rfl ?_
          refine ev_iload_n dX12_twoOf_33 rfl ?_
          obtain ⟨hz13, h⟩ := dvk_t h
          refine ev_idiv dX12_twoOf_34 hz13 ?_
          exact ev_iret rfl rfl (by decide) (by decide) dX12_twoOf_35 (eqP_O h)
      · replace h := ite_t hc3 h
        refine ev_iload_n dX12_twoOf_23 rfl ?_
        refine ev_iload_n dX12_twoOf_24 rfl ?_
        refine ev_imul dX12_twoOf_25 ?_
        exact ev_iret rfl rfl (by decide) (by decide) dX12_twoOf_26 (eqP_O h)
    · replace h := ite_t hc2 h
      refine ev_iload_n dX12_twoOf_14 rfl ?_
      refine ev_iload_n dX12_twoOf_15 rfl ?_
      refine ev_isub dX12_twoOf_16 ?_
      exact ev_iret rfl rfl (by decide) (by decide) dX12_twoOf_17 (eqP_O h)
  · replace h := ite_t hc1 h
    refine ev_iload_n dX12_twoOf_5 rfl ?_
    refine ev_iload_n dX12_twoOf_6 rfl ?_
    refine ev_iadd dX12_twoOf_7 ?_
    exact ev_iret rfl rfl (by decide) (by decide) dX12_twoOf_8 (eqP_O h)
def f_X12_runs_j170 (G : Nat) (r12 : Int32 → Int32 → Int32 → Int32 → Mem → Option (Int32 × Mem)) (v1 v3 v4 v5 : Int32) (μ : Mem) : Option (Int32 × Mem) :=
  r12 v1 v3 v4 (v5 + (1 : Int32)) μ
set_option maxHeartbeats 4000000 in
set_option maxRecDepth 100000 in
theorem f_X12_runs_j170_ok  {G : Nat} {r : Int32} {μr : Mem}  {r12 : Int32 → Int32 → Int32 → Int32 → Mem → Option (Int32 × Mem)} (hr12 : ∀ (v1 : Int32) (v3 : Int32) (v4 : Int32) (v5 : Int32) (m : Mem), r12 v1 v3 v4 v5 m = some (r, μr) → Ev RX12 cX12_runs 6 (some .int) false 2 0 0 (eqP (some r) shR μr) 12 [some (.ref 0), some (.int v1), none, some (.int v3), some (.int v4), some (.int v5)] [] shR m 0 0) {v1 v3 v4 v5 : Int32} {μ : Mem} (h : f_X12_runs_j170 G r12 v1 v3 v4 v5 μ = some (r, μr)) : Ev RX12 cX12_runs 6 (some .int) false 2 0 0 (eqP (some r) shR μr) 170 [some (.ref 0), some (.int v1), none, some (.int v3), some (.int v4), some (.int v5)] [] shR μ 0 0 := by
  unfold f_X12_runs_j170 at h
  refine ev_iinc (cq := (1 : Int32)) (loc' := [_, _, _, _, _, _]) dX12_runs_170 rfl (by decide) rfl (by decide) (by rfl) ?_
  refine ev_goto (tgt := 12) dX12_runs_173 (by decide) ?_
  exact ev_lt (hr12 _ _ _ _ _ h) ⟨rfl, ⟨rfl, ⟨rfl, ⟨rfl, ⟨rfl, trivial⟩⟩⟩⟩⟩
def f_X12_runs_j83 (G : Nat) (r12 : Int32 → Int32 → Int32 → Int32 → Mem → Option (Int32 × Mem)) (v1 v3 v4 v5 s0 s1 : Int32) (μ : Mem) : Option (Int32 × Mem) :=
  chk s1 420 (let m8 := wr μ 24 (ix s1) s0
  f_X12_runs_j170 G r12 v1 v3 (v4 + (1 : Int32)) v5 m8)
set_option maxHeartbeats 4000000 in
set_option maxRecDepth 100000 in
theorem f_X12_runs_j83_ok  {G : Nat} {r : Int32} {μr : Mem}  {r12 : Int32 → Int32 → Int32 → Int32 → Mem → Option (Int32 × Mem)} (hr12 : ∀ (v1 : Int32) (v3 : Int32) (v4 : Int32) (v5 : Int32) (m : Mem), r12 v1 v3 v4 v5 m = some (r, μr) → Ev RX12 cX12_runs 6 (some .int) false 2 0 0 (eqP (some r) shR μr) 12 [some (.ref 0), some (.int v1), none, some (.int v3), some (.int v4), some (.int v5)] [] shR m 0 0) {v1 v3 v4 v5 s0 s1 : Int32} {μ : Mem} (h : f_X12_runs_j83 G r12 v1 v3 v4 v5 s0 s1 μ = some (r, μr)) : Ev RX12 cX12_runs 6 (some .int) false 2 0 0 (eqP (some r) shR μr) 83 [some (.ref 0), some (.int v1), none, some (.int v3), some (.int v4), some (.int v5)] [.int s0, .int s1, .ref 24] shR μ 0 0 := by
  unfold f_X12_runs_j83 at h
  obtain ⟨hi9, h⟩ := chk_t h
  refine ev_iast shR_24 hi9 dX12_runs_83 ?_
  refine ev_iload dX12_runs_84 rfl ?_
  refine ev_iconst (v := (1 : Int32)) dX12_runs_86 (by decide) ?_
  refine ev_iadd dX12_runs_87 ?_
  refine ev_istore (loc' := [_, _, _, _, _, _]) dX12_runs_88 rfl (by decide) (by rfl) ?_
  refine ev_goto (tgt := 170) dX12_runs_90 (by decide) ?_
  exact ev_lt (f_X12_runs_j170_ok hr12 h) ⟨rfl, ⟨rfl, ⟨rfl, ⟨rfl, ⟨rfl, trivial⟩⟩⟩⟩⟩
def f_X12_runs_j45 (G : Nat) (r12 : Int32 → Int32 → Int32 → Int32 → Mem → Option (Int32 × Mem)) (v1 v3 v4 v5 : Int32) (μ : Mem) : Option (Int32 × Mem) :=
  chk v5 1200 ((if (μ 17 (ix v5)) = (0 : Int32) then
  chk v5 1200 (f_X12_runs_j83 G r12 v1 v3 v4 v5 (μ 18 (ix v5)) v4 μ)
  else
  chk v5 1200 (chk (μ 18 (ix v5)) 11 (f_X12_runs_j83 G r12 v1 v3 v4 v5 (μ 23 (ix (μ 18 (ix v5)))) v4 μ))))
set_option maxHeartbeats 4000000 in
set_option maxRecDepth 100000 in
theorem f_X12_runs_j45_ok  {G : Nat} {r : Int32} {μr : Mem}  {r12 : Int32 → Int32 → Int32 → Int32 → Mem → Option (Int32 × Mem)} (hr12 : ∀ (v1 : Int32) (v3 : Int32) (v4 : Int32) (v5 : Int32) (m : Mem), r12 v1 v3 v4 v5 m = some (r, μr) → Ev RX12 cX12_runs 6 (some .int) false 2 0 0 (eqP (some r) shR μr) 12 [some (.ref 0), some (.int v1), none, some (.int v3), some (.int v4), some (.int v5)] [] shR m 0 0) {v1 v3 v4 v5 : Int32} {μ : Mem} (h : f_X12_runs_j45 G r12 v1 v3 v4 v5 μ = some (r, μr)) : Ev RX12 cX12_runs 6 (some .int) false 2 0 0 (eqP (some r) shR μr) 45 [some (.ref 0), some (.int v1), none, some (.int v3), some (.int v4), some (.int v5)] [] shR μ 0 0 := by
  unfold f_X12_runs_j45 at h
  refine ev_aload_n dX12_runs_45 rfl ?_
  refine ev_getR fr_X12_83 shR_0 rfl dX12_runs_46 ?_
  refine ev_iload dX12_runs_49 rfl ?_
  refine ev_aload_n dX12_runs_51 rfl ?_
  refine ev_getR fr_X12_58 shR_0 rfl dX12_runs_52 ?_
  refine ev_iload dX12_runs_55 rfl ?_
  obtain ⟨hi4, h⟩ := chk_t h
  refine ev_iald shR_17 hi4 dX12_runs_57 ?_
  refine ev_if_ne (tgt := 71) dX12_runs_58 (by decide) (fun hc5 => ?_) (fun hc5 => ?_)
  · replace h := ite_f hc5 h
    refine ev_aload_n dX12_runs_71 rfl ?_
    refine ev_getR fr_X12_80 shR_0 rfl dX12_runs_72 ?_
    refine ev_aload_n dX12_runs_75 rfl ?_
    refine ev_getR fr_X12_61 shR_0 rfl dX12_runs_76 ?_
    refine ev_iload dX12_runs_79 rfl ?_
    obtain ⟨hi6, h⟩ := chk_t h
    refine ev_iald shR_18 hi6 dX12_runs_81 ?_
    obtain ⟨hi7, h⟩ := chk_t h
    refine ev_iald shR_23 hi7 dX12_runs_82 ?_
    exact ev_lt (f_X12_runs_j83_ok hr12 h) ⟨rfl, ⟨rfl, ⟨rfl, ⟨rfl, ⟨rfl, trivial⟩⟩⟩⟩⟩
  · replace h := ite_t hc5 h
    refine ev_aload_n dX12_runs_61 rfl ?_
    refine ev_getR fr_X12_61 shR_0 rfl dX12_runs_62 ?_
    refine ev_iload dX12_runs_65 rfl ?_
    obtain ⟨hi10, h⟩ := chk_t h
    refine ev_iald shR_18 hi10 dX12_runs_67 ?_
    refine ev_goto (tgt := 83) dX12_runs_68 (by decide) ?_
    exact ev_lt (f_X12_runs_j83_ok hr12 h) ⟨rfl, ⟨rfl, ⟨rfl, ⟨rfl, ⟨rfl, trivial⟩⟩⟩⟩⟩
def f_X12_runs_L12 (G : Nat)  : Nat → Int32 → Int32 → Int32 → Int32 → Mem → Option (Int32 × Mem)
  | 0, _, _, _, _, _ => none
  | g + 1, v1, v3, v4, v5, μ =>
  (if (((400 : Int32) * v1) + v3) ≤ v5 then
  some ((μ 24 0), μ)
  else
  chk v5 1200 ((if (μ 17 (ix v5)) = (0 : Int32) then
  f_X12_runs_j45 G (f_X12_runs_L12 G g) v1 v3 v4 v5 μ
  else
  chk v5 1200 ((if (μ 17 (ix v5)) = (1 : Int32) then
  f_X12_runs_j45 G (f_X12_runs_L12 G g) v1 v3 v4 v5 μ
  else
  chk v5 1200 ((if (μ 17 (ix v5)) = (9 : Int32) then
  chk (v4 - (1 : Int32)) 420 (chk (v4 - (1 : Int32)) 420 (let m23 := wr μ 24 (ix (v4 - (1 : Int32))) ((1 : Int32) - (μ 24 (ix (v4 - (1 : Int32)))))
  f_X12_runs_j170 G (f_X12_runs_L12 G g) v1 v3 v4 v5 m23))
  else
  chk v5 1200 (chk ((v4 - (1 : Int32)) - (1 : Int32)) 420 (chk (v4 - (1 : Int32)) 420 (bndO (f_X12_twoOf G μ (μ 17 (ix v5)) (μ 24 (ix ((v4 - (1 : Int32)) - (1 : Int32)))) (μ 24 (ix (v4 - (1 : Int32))))) (fun w19 =>
  chk ((v4 - (1 : Int32)) - (1 : Int32)) 420 (let m20 := wr μ 24 (ix ((v4 - (1 : Int32)) - (1 : Int32))) w19
  f_X12_runs_j170 G (f_X12_runs_L12 G g) v1 v3 (v4 - (1 : Int32)) v5 m20))))))))))))
set_option maxHeartbeats 4000000 in
set_option maxRecDepth 100000 in
theorem f_X12_runs_L12_ok  {G : Nat} {r : Int32} {μr : Mem}    : ∀ (g : Nat) (v1 v3 v4 v5 : Int32) (μ : Mem), f_X12_runs_L12 G g v1 v3 v4 v5 μ = some (r, μr) → Ev RX12 cX12_runs 6 (some .int) false 2 0 0 (eqP (some r) shR μr) 12 [some (.ref 0), some (.int v1), none, some (.int v3), some (.int v4), some (.int v5)] [] shR μ 0 0 := by
  intro g
  induction g with
  | zero =>
    intro v1 v3 v4 v5 μ h
    cases h
  | succ g ih =>
    intro v1 v3 v4 v5 μ h
    rw [f_X12_runs_L12] at h
    refine ev_iload dX12_runs_12 rfl ?_
    refine ev_sipush (v := (400 : Int32)) dX12_runs_14 (by decide) ?_
    refine ev_iload_n dX12_runs_17 rfl ?_
    refine ev_imul dX12_runs_18 ?_
    refine ev_iload_n dX12_runs_19 rfl ?_
    refine ev_iadd dX12_runs_20 ?_
    refine ev_icmp_ge (tgt := 176) dX12_runs_21 (by decide) (fun hc1 => ?_) (fun hc1 => ?_)
    · replace h := ite_t hc1 h
      refine ev_aload_n dX12_runs_176 rfl ?_
      refine ev_getR fr_X12_83 shR_0 rfl dX12_runs_177 ?_
      refine ev_iconst (v := (0 : Int32)) dX12_runs_180 (by decide) ?_
      refine ev_ialdL (j := 0) shR_24 (by decide) (vpl _ _ (by decide)) dX12_runs_181 ?_
      exact ev_iret rfl rfl (by decide) (by decide) dX12_runs_182 (eqP_E h)
    · replace h := ite_f hc1 h
      refine ev_aload_n dX12_runs_24 rfl ?_
      refine ev_getR fr_X12_58 shR_0 rfl dX12_runs_25 ?_
      refine ev_iload dX12_runs_28 rfl ?_
      obtain ⟨hi2, h⟩ := chk_t h
      refine ev_iald shR_17 hi2 dX12_runs_30 ?_
      refine ev_if_eq (tgt := 45) dX12_runs_31 (by decide) (fun hc3 => ?_) (fun hc3 => ?_)
      · replace h := ite_t hc3 h
        exact ev_lt (f_X12_runs_j45_ok ih h) ⟨rfl, ⟨rfl, ⟨rfl, ⟨rfl, ⟨rfl, trivial⟩⟩⟩⟩⟩
      · replace h := ite_f hc3 h
        refine ev_aload_n dX12_runs_34 rfl ?_
        refine ev_getR fr_X12_58 shR_0 rfl dX12_runs_35 ?_
        refine ev_iload dX12_runs_38 rfl ?_
        obtain ⟨hi11, h⟩ := chk_t h
        refine ev_iald shR_17 hi11 dX12_runs_40 ?_
        refine ev_iconst (v := (1 : Int32)) dX12_runs_41 (by decide) ?_
        refine ev_icmp_ne (tgt := 93) dX12_runs_42 (by decide) (fun hc12 => ?_) (fun hc12 => ?_)
        · replace h := ite_f hc12 h
          refine ev_aload_n dX12_runs_93 rfl ?_
          refine ev_getR fr_X12_58 shR_0 rfl dX12_runs_94 ?_
          refine ev_iload dX12_runs_97 rfl ?_
          obtain ⟨hi13, h⟩ := chk_t h
          refine ev_iald shR_17 hi13 dX12_runs_99 ?_
          refine ev_bipush (v := (9 : Int32)) dX12_runs_100 (by decide) ?_
          refine ev_icmp_ne (tgt := 128) dX12_runs_102 (by decide) (fun hc14 => ?_) (fun hc14 => ?_)
          · replace h := ite_f hc14 h
            refine ev_iload dX12_runs_128 rfl ?_
            refine ev_iconst (v := (1 : Int32)) dX12_runs_130 (by decide) ?_
            refine ev_isub dX12_runs_131 ?_
            refine ev_istore (loc' := [_, _, _, _, _, _]) dX12_runs_132 rfl (by decide) (by rfl) ?_
            refine ev_aload_n dX12_runs_134 rfl ?_
            refine ev_getR fr_X12_83 shR_0 rfl dX12_runs_135 ?_
            refine ev_iload dX12_runs_138 rfl ?_
            refine ev_iconst (v := (1 : Int32)) dX12_runs_140 (by decide) ?_
            refine ev_isub dX12_runs_141 ?_
            refine ev_aload_n dX12_runs_142 rfl ?_
            refine ev_aload_n dX12_runs_143 rfl ?_
            refine ev_getR fr_X12_58 shR_0 rfl dX12_runs_144 ?_
            refine ev_iload dX12_runs_147 rfl ?_
            obtain ⟨hi15, h⟩ := chk_t h
            refine ev_iald shR_17 hi15 dX12_runs_149 ?_
            refine ev_aload_n dX12_runs_150 rfl ?_
            refine ev_getR fr_X12_83 shR_0 rfl dX12_runs_151 ?_
            refine ev_iload dX12_runs_154 rfl ?_
            refine ev_iconst (v := (1 : Int32)) dX12_runs_156 (by decide) ?_
            refine ev_isub dX12_runs_157 ?_
            obtain ⟨hi16, h⟩ := chk_t h
            refine ev_iald shR_24 hi16 dX12_runs_158 ?_
            refine ev_aload_n dX12_runs_159 rfl ?_
            refine ev_getR fr_X12_83 shR_0 rfl dX12_runs_160 ?_
            refine ev_iload dX12_runs_163 rfl ?_
            obtain ⟨hi17, h⟩ := chk_t h
            refine ev_iald shR_24 hi17 dX12_runs_165 ?_
            obtain ⟨w19, hq18, h⟩ := bndO_t h
            refine ev_cVi mv_X12_335 dX12_runs_166 (c_X12_twoOf hq18) rfl shR_0 rfl rfl (Nat.le_of_ble_eq_true rfl) (by rfl) (Nat.le_of_ble_eq_true rfl) (Nat.le_of_ble_eq_true rfl) (Nat.le_of_ble_eq_true rfl) ?_
            obtain ⟨hi21, h⟩ := chk_t h
            refine ev_iast shR_24 hi21 dX12_runs_169 ?_
            exact ev_lt (f_X12_runs_j170_ok ih h) ⟨rfl, ⟨rfl, ⟨rfl, ⟨rfl, ⟨rfl, trivial⟩⟩⟩⟩⟩
          · replace h := ite_t hc14 h
            refine ev_aload_n dX12_runs_105 rfl ?_
            refine ev_getR fr_X12_83 shR_0 rfl dX12_runs_106 ?_
            refine ev_iload dX12_runs_109 rfl ?_
            refine ev_iconst (v := (1 : Int32)) dX12_runs_111 (by decide) ?_
            refine ev_isub dX12_runs_112 ?_
            refine ev_iconst (v := (1 : Int32)) dX12_runs_113 (by decide) ?_
            refine ev_aload_n dX12_runs_114 rfl ?_
            refine ev_getR fr_X12_83 shR_0 rfl dX12_runs_115 ?_
            refine ev_iload dX12_runs_118 rfl ?_
            refine ev_iconst (v := (1 : Int32)) dX12_runs_120 (by decide) ?_
            refine ev_isub dX12_runs_121 ?_
            obtain ⟨hi22, h⟩ := chk_t h
            refine ev_iald shR_24 hi22 dX12_runs_122 ?_
            refine ev_isub dX12_runs_123 ?_
            obtain ⟨hi24, h⟩ := chk_t h
            refine ev_iast shR_24 hi24 dX12_runs_124 ?_
            refine ev_goto (tgt := 170) dX12_runs_125 (by decide) ?_
            exact ev_lt (f_X12_runs_j170_ok ih h) ⟨rfl, ⟨rfl, ⟨rfl, ⟨rfl, ⟨rfl, trivial⟩⟩⟩⟩⟩
        · replace h := ite_t hc12 h
          exact ev_lt (f_X12_runs_j45_ok ih h) ⟨rfl, ⟨rfl, ⟨rfl, ⟨rfl, ⟨rfl, trivial⟩⟩⟩⟩⟩
def f_X12_runs (G : Nat) (p1 p2 p3 : Int32) (μ : Mem) : Option (Int32 × Mem) :=
  f_X12_runs_L12 G G p1 p3 (0 : Int32) (((400 : Int32) * p1) + p2) μ
set_option maxHeartbeats 4000000 in
set_option maxRecDepth 100000 in
theorem c_X12_runs  {G : Nat} {μ : Mem} {p1 p2 p3 : Int32} {r : Int32} {μr : Mem}  (h : f_X12_runs G p1 p2 p3 μ = some (r, μr)) : Cn yX12_runs cX12_runs 6 (some .int) 2 0 0 [.ref 0, .int p1, .int p2, .int p3] shR μ (eqP (some r) shR μr) := by
  refine cn_of (own := RX12) (ini := false) (loc := [some (.ref 0), some (.int p1), some (.int p2), some (.int p3), none, none]) rfl (by decide) (fun q => by cases q) (Nat.le_of_ble_eq_true rfl) (by rfl) rfl ?_
  unfold f_X12_runs at h
  refine ev_iconst (v := (0 : Int32)) dX12_runs_0 (by decide) ?_
  refine ev_istore (loc' := [_, _, _, _, _, _]) dX12_runs_1 rfl (by decide) (by rfl) ?_
  refine ev_sipush (v := (400 : Int32)) dX12_runs_3 (by decide) ?_
  refine ev_iload_n dX12_runs_6 rfl ?_
  refine ev_imul dX12_runs_7 ?_
  refine ev_iload_n dX12_runs_8 rfl ?_
  refine ev_iadd dX12_runs_9 ?_
  refine ev_istore (loc' := [_, _, _, _, _, _]) dX12_runs_10 rfl (by decide) (by rfl) ?_
  exact ev_lt (f_X12_runs_L12_ok _ _ _ _ _ _ h) ⟨rfl, ⟨rfl, ⟨rfl, ⟨rfl, ⟨rfl, trivial⟩⟩⟩⟩⟩
def f_X12_lineOf_j59 (G : Nat) (r2 : Int32 → Int32 → Mem → Option (Int32 × Mem)) (v1 v2 : Int32) (μ : Mem) : Option (Int32 × Mem) :=
  r2 v1 (v2 + (1 : Int32)) μ
set_option maxHeartbeats 4000000 in
set_option maxRecDepth 100000 in
theorem f_X12_lineOf_j59_ok  {G : Nat} {r : Int32} {μr : Mem}  {r2 : Int32 → Int32 → Mem → Option (Int32 × Mem)} (hr2 : ∀ (v1 : Int32) (v2 : Int32) (m : Mem), r2 v1 v2 m = some (r, μr) → Ev RX12 cX12_lineOf 3 (some .int) false 3 0 0 (eqP (some r) shR μr) 2 [some (.ref 0), some (.int v1), some (.int v2)] [] shR m 0 0) {v1 v2 : Int32} {μ : Mem} (h : f_X12_lineOf_j59 G r2 v1 v2 μ = some (r, μr)) : Ev RX12 cX12_lineOf 3 (some .int) false 3 0 0 (eqP (some r) shR μr) 59 [some (.ref 0), some (.int v1), some (.int v2)] [] shR μ 0 0 := by
  unfold f_X12_lineOf_j59 at h
  refine ev_iinc (cq := (1 : Int32)) (loc' := [_, _, _]) dX12_lineOf_59 rfl (by decide) rfl (by decide) (by rfl) ?_
  refine ev_goto (tgt := 2) dX12_lineOf_62 (by decide) ?_
  exact ev_lt (hr2 _ _ _ h) ⟨rfl, ⟨rfl, ⟨rfl, trivial⟩⟩⟩
def f_X12_lineOf_L2 (G : Nat)  : Nat → Int32 → Int32 → Mem → Option (Int32 × Mem)
  | 0, _, _, _ => none
  | g + 1, v1, v2, μ =>
  (if (μ 12 0) ≤ v2 then
  some ((-1 : Int32), μ)
  else
  chk v2 48 ((if (μ 13 (ix v2)) = v1 then
  chk v2 48 (chk v2 48 ((if (μ 15 (ix v2)) = (μ 16 (ix v2)) then
  some (v2, μ)
  else
  chk v2 48 (chk v2 48 (bndE (f_X12_runs G (0 : Int32) (μ 15 (ix v2)) (μ 16 (ix v2)) μ) (fun w11 m10 =>
  (if w11 = (0 : Int32) then
  f_X12_lineOf_j59 G (f_X12_lineOf_L2 G g) v1 v2 m10
  else
  some (v2, m10))))))))
  else
  f_X12_lineOf_j59 G (f_X12_lineOf_L2 G g) v1 v2 μ)))
set_option maxHeartbeats 4000000 in
set_option maxRecDepth 100000 in
theorem f_X12_lineOf_L2_ok  {G : Nat} {r : Int32} {μr : Mem}    : ∀ (g : Nat) (v1 v2 : Int32) (μ : Mem), f_X12_lineOf_L2 G g v1 v2 μ = some (r, μr) → Ev RX12 cX12_lineOf 3 (some .int) false 3 0 0 (eqP (some r) shR μr) 2 [some (.ref 0), some (.int v1), some (.int v2)] [] shR μ 0 0 := by
  intro g
  induction g with
  | zero =>
    intro v1 v2 μ h
    cases h
  | succ g ih =>
    intro v1 v2 μ h
    rw [f_X12_lineOf_L2] at h
    refine ev_iload_n dX12_lineOf_2 rfl ?_
    refine ev_aload_n dX12_lineOf_3 rfl ?_
    refine ev_getR fr_X12_43 shR_0 rfl dX12_lineOf_4 ?_
    refine ev_iconst (v := (0 : Int32)) dX12_lineOf_7 (by decide) ?_
    refine ev_ialdL (j := 0) shR_12 (by decide) (vpl _ _ (by decide)) dX12_lineOf_8 ?_
    refine ev_icmp_ge (tgt := 65) dX12_lineOf_9 (by decide) (fun hc1 => ?_) (fun hc1 => ?_)
    · replace h := ite_t hc1 h
      refine ev_iconst (v := (-1 : Int32)) dX12_lineOf_65 (by decide) ?_
      exact ev_iret rfl rfl (by decide) (by decide) dX12_lineOf_66 (eqP_E h)
    · replace h := ite_f hc1 h
      refine ev_aload_n dX12_lineOf_12 rfl ?_
      refine ev_getR fr_X12_46 shR_0 rfl dX12_lineOf_13 ?_
      refine ev_iload_n dX12_lineOf_16 rfl ?_
      obtain ⟨hi2, h⟩ := chk_t h
      refine ev_iald shR_13 hi2 dX12_lineOf_17 ?_
      refine ev_iload_n dX12_lineOf_18 rfl ?_
      refine ev_icmp_ne (tgt := 59) dX12_lineOf_19 (by decide) (fun hc3 => ?_) (fun hc3 => ?_)
      · replace h := ite_f hc3 h
        exact ev_lt (f_X12_lineOf_j59_ok ih h) ⟨rfl, ⟨rfl, ⟨rfl, trivial⟩⟩⟩
      · replace h := ite_t hc3 h
        refine ev_aload_n dX12_lineOf_22 rfl ?_
        refine ev_getR fr_X12_52 shR_0 rfl dX12_lineOf_23 ?_
        refine ev_iload_n dX12_lineOf_26 rfl ?_
        obtain ⟨hi4, h⟩ := chk_t h
        refine ev_iald shR_15 hi4 dX12_lineOf_27 ?_
        refine ev_aload_n dX12_lineOf_28 rfl ?_
        refine ev_getR fr_X12_55 shR_0 rfl dX12_lineOf_29 ?_
        refine ev_iload_n dX12_lineOf_32 rfl ?_
        obtain ⟨hi5, h⟩ := chk_t h
        refine ev_iald shR_16 hi5 dX12_lineOf_33 ?_
        refine ev_icmp_eq (tgt := 57) dX12_lineOf_34 (by decide) (fun hc6 => ?_) (fun hc6 => ?_)
        · replace h := ite_t hc6 h
          refine ev_iload_n dX12_lineOf_57 rfl ?_
          exact ev_iret rfl rfl (by decide) (by decide) dX12_lineOf_58 (eqP_E h)
        · replace h := ite_f hc6 h
          refine ev_aload_n dX12_lineOf_37 rfl ?_
          refine ev_iconst (v := (0 : Int32)) dX12_lineOf_38 (by decide) ?_
          refine ev_aload_n dX12_lineOf_39 rfl ?_
          refine ev_getR fr_X12_52 shR_0 rfl dX12_lineOf_40 ?_
          refine ev_iload_n dX12_lineOf_43 rfl ?_
          obtain ⟨hi7, h⟩ := chk_t h
          refine ev_iald shR_15 hi7 dX12_lineOf_44 ?_
          refine ev_aload_n dX12_lineOf_45 rfl ?_
          refine ev_getR fr_X12_55 shR_0 rfl dX12_lineOf_46 ?_
          refine ev_iload_n dX12_lineOf_49 rfl ?_
          obtain ⟨hi8, h⟩ := chk_t h
          refine ev_iald shR_16 hi8 dX12_lineOf_50 ?_
          obtain ⟨w11, m10, hq9, h⟩ := bndE_t h
          refine ev_cVi mv_X12_338 dX12_lineOf_51 (c_X12_runs hq9) rfl shR_0 rfl rfl (Nat.le_of_ble_eq_true rfl) (by rfl) (Nat.le_of_ble_eq_true rfl) (Nat.le_of_ble_eq_true rfl) (Nat.le_of_ble_eq_true rfl) ?_
          refine ev_if_eq (tgt := 59) dX12_lineOf_54 (by decide) (fun hc12 => ?_) (fun hc12 => ?_)
          · replace h := ite_t hc12 h
            exact ev_lt (f_X12_lineOf_j59_ok ih h) ⟨rfl, ⟨rfl, ⟨rfl, trivial⟩⟩⟩
          · replace h := ite_f hc12 h
            refine ev_iload_n dX12_lineOf_57 rfl ?_
            exact ev_iret rfl rfl (by decide) (by decide) dX12_lineOf_58 (eqP_E h)
def f_X12_lineOf (G : Nat) (p1 : Int32) (μ : Mem) : Option (Int32 × Mem) :=
  f_X12_lineOf_L2 G G p1 (0 : Int32) μ
set_option maxHeartbeats 4000000 in
set_option maxRecDepth 100000 in
theorem c_X12_lineOf  {G : Nat} {μ : Mem} {p1 : Int32} {r : Int32} {μr : Mem}  (h : f_X12_lineOf G p1 μ = some (r, μr)) : Cn yX12_lineOf cX12_lineOf 3 (some .int) 3 0 0 [.ref 0, .int p1] shR μ (eqP (some r) shR μr) := by
  refine cn_of (own := RX12) (ini := false) (loc := [some (.ref 0), some (.int p1), none]) rfl (by decide) (fun q => by cases q) (Nat.le_of_ble_eq_true rfl) (by rfl) rfl ?_
  unfold f_X12_lineOf at h
  refine ev_iconst (v := (0 : Int32)) dX12_lineOf_0 (by decide) ?_
  refine ev_istore_n (loc' := [_, _, _]) dX12_lineOf_1 rfl (by decide) (by rfl) ?_
  exact ev_lt (f_X12_lineOf_L2_ok _ _ _ _ h) ⟨rfl, ⟨rfl, ⟨rfl, trivial⟩⟩⟩
def f_X12_asks_j56 (G : Nat)  (v1 s0 s1 : Int32) (μ : Mem) : Option Mem :=
  chk s1 11 (let m9 := wr μ 23 (ix s1) s0
  (let m11 := wr m9 23 4 (0 : Int32)
  (let m12 := wr m11 23 5 (0 : Int32)
  (let m13 := wr m12 23 6 (0 : Int32)
  chk v1 8 ((let m15 := wr m13 23 7 (m13 7 (ix v1))
  (let m16 := wr m15 23 8 (m15 1 0)
  chk ((33 : Int32) + v1) 49 ((let m18 := wr m16 23 9 (m16 1 (ix ((33 : Int32) + v1)))
  chk ((25 : Int32) + v1) 49 ((let m20 := wr m18 23 10 (m18 1 (ix ((25 : Int32) + v1)))
  some m20)))))))))))
set_option maxHeartbeats 4000000 in
set_option maxRecDepth 100000 in
theorem f_X12_asks_j56_ok  {G : Nat} {μr : Mem}    {v1 s0 s1 : Int32} {μ : Mem} (h : f_X12_asks_j56 G v1 s0 s1 μ = some μr) : Ev RX12 cX12_asks 3 none false 1 0 0 (eqP none shR μr) 56 [some (.ref 0), some (.int v1), none] [.int s0, .int s1, .ref 23] shR μ 0 0 := by
  unfold f_X12_asks_j56 at h
  obtain ⟨hi10, h⟩ := chk_t h
  refine ev_iast shR_23 hi10 dX12_asks_56 ?_
  refine ev_aload_n dX12_asks_57 rfl ?_
  refine ev_getR fr_X12_80 shR_0 rfl dX12_asks_58 ?_
  refine ev_iconst (v := (4 : Int32)) dX12_asks_61 (by decide) ?_
  refine ev_iconst (v := (0 : Int32)) dX12_asks_62 (by decide) ?_
  refine ev_iastL (j := 4) shR_23 (by decide) (vpl _ _ (by decide)) dX12_asks_63 ?_
  refine ev_aload_n dX12_asks_64 rfl ?_
  refine ev_getR fr_X12_80 shR_0 rfl dX12_asks_65 ?_
  refine ev_iconst (v := (5 : Int32)) dX12_asks_68 (by decide) ?_
  refine ev_iconst (v := (0 : Int32)) dX12_asks_69 (by decide) ?_
  refine ev_iastL (j := 5) shR_23 (by decide) (vpl _ _ (by decide)) dX12_asks_70 ?_
  refine ev_aload_n dX12_asks_71 rfl ?_
  refine ev_getR fr_X12_80 shR_0 rfl dX12_asks_72 ?_
  refine ev_bipush (v := (6 : Int32)) dX12_asks_75 (by decide) ?_
  refine ev_iconst (v := (0 : Int32)) dX12_asks_77 (by decide) ?_
  refine ev_iastL (j := 6) shR_23 (by decide) (vpl _ _ (by decide)) dX12_asks_78 ?_
  refine ev_aload_n dX12_asks_79 rfl ?_
  refine ev_getR fr_X12_80 shR_0 rfl dX12_asks_80 ?_
  refine ev_bipush (v := (7 : Int32)) dX12_asks_83 (by decide) ?_
  refine ev_aload_n dX12_asks_85 rfl ?_
  refine ev_getR fr_X12_28 shR_0 rfl dX12_asks_86 ?_
  refine ev_iload_n dX12_asks_89 rfl ?_
  obtain ⟨hi14, h⟩ := chk_t h
  refine ev_iald shR_7 hi14 dX12_asks_90 ?_
  refine ev_iastL (j := 7) shR_23 (by decide) (vpl _ _ (by decide)) dX12_asks_91 ?_
  refine ev_aload_n dX12_asks_92 rfl ?_
  refine ev_getR fr_X12_80 shR_0 rfl dX12_asks_93 ?_
  refine ev_bipush (v := (8 : Int32)) dX12_asks_96 (by decide) ?_
  refine ev_aload_n dX12_asks_98 rfl ?_
  refine ev_getR fr_X12_7 shR_0 rfl dX12_asks_99 ?_
  refine ev_iconst (v := (0 : Int32)) dX12_asks_102 (by decide) ?_
  refine ev_ialdL (j := 0) shR_1 (by decide) (vpl _ _ (by decide)) dX12_asks_103 ?_
  refine ev_iastL (j := 8) shR_23 (by decide) (vpl _ _ (by decide)) dX12_asks_104 ?_
  refine ev_aload_n dX12_asks_105 rfl ?_
  refine ev_getR fr_X12_80 shR_0 rfl dX12_asks_106 ?_
  refine ev_bipush (v := (9 : Int32)) dX12_asks_109 (by decide) ?_
  refine ev_aload_n dX12_asks_111 rfl ?_
  refine ev_getR fr_X12_7 shR_0 rfl dX12_asks_112 ?_
  refine ev_bipush (v := (33 : Int32)) dX12_asks_115 (by decide) ?_
  refine ev_iload_n dX12_asks_117 rfl ?_
  refine ev_iadd dX12_asks_118 ?_
  obtain ⟨hi17, h⟩ := chk_t h
  refine ev_iald shR_1 hi17 dX12_asks_119 ?_
  refine ev_iastL (j := 9) shR_23 (by decide) (vpl _ _ (by decide)) dX12_asks_120 ?_
  refine ev_aload_n dX12_asks_121 rfl ?_
  refine ev_getR fr_X12_80 shR_0 rfl dX12_asks_122 ?_
  refine ev_bipush (v := (10 : Int32)) dX12_asks_125 (by decide) ?_
  refine ev_aload_n dX12_asks_127 rfl ?_
  refine ev_getR fr_X12_7 shR_0 rfl dX12_asks_128 ?_
  refine ev_bipush (v := (25 : Int32)) dX12_asks_131 (by decide) ?_
  refine ev_iload_n dX12_asks_133 rfl ?_
  refine ev_iadd dX12_asks_134 ?_
  obtain ⟨hi19, h⟩ := chk_t h
  refine ev_iald shR_1 hi19 dX12_asks_135 ?_
  refine ev_iastL (j := 10) shR_23 (by decide) (vpl _ _ (by decide)) dX12_asks_136 ?_
  exact ev_vret rfl (by decide) (by decide) dX12_asks_137 (eqP_V h)
def f_X12_asks (G : Nat) (p1 p2 : Int32) (μ : Mem) : Option Mem :=
  chk p2 12 ((let m2 := wr μ 23 0 (μ 4 (ix p2))
  chk p2 12 ((let m4 := wr m2 23 1 (m2 5 (ix p2))
  chk p2 12 ((let m6 := wr m4 23 2 (m4 6 (ix p2))
  chk p1 8 ((if (m6 8 (ix p1)) = p2 then
  f_X12_asks_j56 G p1 (1 : Int32) (3 : Int32) m6
  else
  f_X12_asks_j56 G p1 (0 : Int32) (3 : Int32) m6))))))))
set_option maxHeartbeats 4000000 in
set_option maxRecDepth 100000 in
theorem c_X12_asks  {G : Nat} {μ : Mem} {p1 p2 : Int32} {μr : Mem}  (h : f_X12_asks G p1 p2 μ = some μr) : Cn yX12_asks cX12_asks 3 none 1 0 0 [.ref 0, .int p1, .int p2] shR μ (eqP none shR μr) := by
  refine cn_of (own := RX12) (ini := false) (loc := [some (.ref 0), some (.int p1), some (.int p2)]) rfl (by decide) (fun q => by cases q) (Nat.le_of_ble_eq_true rfl) (by rfl) rfl ?_
  unfold f_X12_asks at h
  refine ev_aload_n dX12_asks_0 rfl ?_
  refine ev_getR fr_X12_80 shR_0 rfl dX12_asks_1 ?_
  refine ev_iconst (v := (0 : Int32)) dX12_asks_4 (by decide) ?_
  refine ev_aload_n dX12_asks_5 rfl ?_
  refine ev_getR fr_X12_19 shR_0 rfl dX12_asks_6 ?_
  refine ev_iload_n dX12_asks_9 rfl ?_
  obtain ⟨hi1, h⟩ := chk_t h
  refine ev_iald shR_4 hi1 dX12_asks_10 ?_
  refine ev_iastL (j := 0) shR_23 (by decide) (vpl _ _ (by decide)) dX12_asks_11 ?_
  refine ev_aload_n dX12_asks_12 rfl ?_
  refine ev_getR fr_X12_80 shR_0 rfl dX12_asks_13 ?_
  refine ev_iconst (v := (1 : Int32)) dX12_asks_16 (by decide) ?_
  refine ev_aload_n dX12_asks_17 rfl ?_
  refine ev_getR fr_X12_22 shR_0 rfl dX12_asks_18 ?_
  refine ev_iload_n dX12_asks_21 rfl ?_
  obtain ⟨hi3, h⟩ := chk_t h
  refine ev_iald shR_5 hi3 dX12_asks_22 ?_
  refine ev_iastL (j := 1) shR_23 (by decide) (vpl _ _ (by decide)) dX12_asks_23 ?_
  refine ev_aload_n dX12_asks_24 rfl ?_
  refine ev_getR fr_X12_80 shR_0 rfl dX12_asks_25 ?_
  refine ev_iconst (v := (2 : Int32)) dX12_asks_28 (by decide) ?_
  refine ev_aload_n dX12_asks_29 rfl ?_
  refine ev_getR fr_X12_25 shR_0 rfl dX12_asks_30 ?_
  refine ev_iload_n dX12_asks_33 rfl ?_
  obtain ⟨hi5, h⟩ := chk_t h
  refine ev_iald shR_6 hi5 dX12_asks_34 ?_
  refine ev_iastL (j := 2) shR_23 (by decide) (vpl _ _ (by decide)) dX12_asks_35 ?_
  refine ev_aload_n dX12_asks_36 rfl ?_
  refine ev_getR fr_X12_80 shR_0 rfl dX12_asks_37 ?_
  refine ev_iconst (v := (3 : Int32)) dX12_asks_40 (by decide) ?_
  refine ev_aload_n dX12_asks_41 rfl ?_
  refine ev_getR fr_X12_31 shR_0 rfl dX12_asks_42 ?_
  refine ev_iload_n dX12_asks_45 rfl ?_
  obtain ⟨hi7, h⟩ := chk_t h
  refine ev_iald shR_8 hi7 dX12_asks_46 ?_
  refine ev_iload_n dX12_asks_47 rfl ?_
  refine ev_icmp_ne (tgt := 55) dX12_asks_48 (by decide) (fun hc8 => ?_) (fun hc8 => ?_)
  · replace h := ite_f hc8 h
    refine ev_iconst (v := (0 : Int32)) dX12_asks_55 (by decide) ?_
    exact ev_lt (f_X12_asks_j56_ok h) ⟨rfl, ⟨rfl, trivial⟩⟩
  · replace h := ite_t hc8 h
    refine ev_iconst (v := (1 : Int32)) dX12_asks_51 (by decide) ?_
    refine ev_goto (tgt := 56) dX12_asks_52 (by decide) ?_
    exact ev_lt (f_X12_asks_j56_ok h) ⟨rfl, ⟨rfl, trivial⟩⟩
def f_X12_lawTells (G : Nat) (p1 p2 p3 p4 : Int32) (μ : Mem) : Option (Int32 × Mem) :=
  bndE (f_X12_lineOf G p1 μ) (fun w3 m2 =>
  (if w3 = (-1 : Int32) then
  some ((f_X12_held p2 p3 p4), m2)
  else
  chk w3 48 (chk w3 48 (bndE (f_X12_runs G (0 : Int32) (m2 14 (ix w3)) (m2 15 (ix w3)) m2) (fun w9 m8 =>
  some ((f_X12_held w9 p3 p4), m8))))))
set_option maxHeartbeats 4000000 in
set_option maxRecDepth 100000 in
theorem c_X12_lawTells  {G : Nat} {μ : Mem} {p1 p2 p3 p4 : Int32} {r : Int32} {μr : Mem}  (h : f_X12_lawTells G p1 p2 p3 p4 μ = some (r, μr)) : Cn yX12_lawTells cX12_lawTells 6 (some .int) 4 0 0 [.ref 0, .int p1, .int p2, .int p3, .int p4] shR μ (eqP (some r) shR μr) := by
  refine cn_of (own := RX12) (ini := false) (loc := [some (.ref 0), some (.int p1), some (.int p2), some (.int p3), some (.int p4), none]) rfl (by decide) (fun q => by cases q) (Nat.le_of_ble_eq_true rfl) (by rfl) rfl ?_
  unfold f_X12_lawTells at h
  refine ev_aload_n dX12_lawTells_0 rfl ?_
  refine ev_iload_n dX12_lawTells_1 rfl ?_
  obtain ⟨w3, m2, hq1, h⟩ := bndE_t h
  refine ev_cVi mv_X12_341 dX12_lawTells_2 (c_X12_lineOf hq1) rfl shR_0 rfl rfl (Nat.le_of_ble_eq_true rfl) (by rfl) (Nat.le_of_ble_eq_true rfl) (Nat.le_of_ble_eq_true rfl) (Nat.le_of_ble_eq_true rfl) ?_
  refine ev_istore (loc' := [_, _, _, _, _, _]) dX12_lawTells_5 rfl (by decide) (by rfl) ?_
  refine ev_aload_n dX12_lawTells_7 rfl ?_
  refine ev_iload dX12_lawTells_8 rfl ?_
  refine ev_iconst (v := (-1 : Int32)) dX12_lawTells_10 (by decide) ?_
  refine ev_icmp_ne (tgt := 18) dX12_lawTells_11 (by decide) (fun hc4 => ?_) (fun hc4 => ?_)
  · replace h := ite_f hc4 h
    refine ev_aload_n dX12_lawTells_18 rfl ?_
    refine ev_iconst (v := (0 : Int32)) dX12_lawTells_19 (by decide) ?_
    refine ev_aload_n dX12_lawTells_20 rfl ?_
    refine ev_getR fr_X12_49 shR_0 rfl dX12_lawTells_21 ?_
    refine ev_iload dX12_lawTells_24 rfl ?_
    obtain ⟨hi5, h⟩ := chk_t h
    refine ev_iald shR_14 hi5 dX12_lawTells_26 ?_
    refine ev_aload_n dX12_lawTells_27 rfl ?_
    refine ev_getR fr_X12_52 shR_0 rfl dX12_lawTells_28 ?_
    refine ev_iload dX12_lawTells_31 rfl ?_
    obtain ⟨hi6, h⟩ := chk_t h
    refine ev_iald shR_15 hi6 dX12_lawTells_33 ?_
    obtain ⟨w9, m8, hq7, h⟩ := bndE_t h
    refine ev_cVi mv_X12_338 dX12_lawTells_34 (c_X12_runs hq7) rfl shR_0 rfl rfl (Nat.le_of_ble_eq_true rfl) (by rfl) (Nat.le_of_ble_eq_true rfl) (Nat.le_of_ble_eq_true rfl) (Nat.le_of_ble_eq_true rfl) ?_
    refine ev_iload_n dX12_lawTells_37 rfl ?_
    refine ev_iload dX12_lawTells_38 rfl ?_
    refine ev_cVi mv_X12_344 dX12_lawTells_40 c_X12_held rfl shR_0 rfl rfl (Nat.le_of_ble_eq_true rfl) (by rfl) (Nat.le_of_ble_eq_true rfl) (Nat.le_of_ble_eq_true rfl) (Nat.le_of_ble_eq_true rfl) ?_
    exact ev_iret rfl rfl (by decide) (by decide) dX12_lawTells_43 (eqP_E h)
  · replace h := ite_t hc4 h
    refine ev_iload_n dX12_lawTells_14 rfl ?_
    refine ev_goto (tgt := 37) dX12_lawTells_15 (by decide) ?_
    refine ev_iload_n dX12_lawTells_37 rfl ?_
    refine ev_iload dX12_lawTells_38 rfl ?_
    refine ev_cVi mv_X12_344 dX12_lawTells_40 c_X12_held rfl shR_0 rfl rfl (Nat.le_of_ble_eq_true rfl) (by rfl) (Nat.le_of_ble_eq_true rfl) (Nat.le_of_ble_eq_true rfl) (Nat.le_of_ble_eq_true rfl) ?_
    exact ev_iret rfl rfl (by decide) (by decide) dX12_lawTells_43 (eqP_E h)
def f_X12_yesOf (G : Nat) (p1 p2 p3 p4 : Int32) (μ : Mem) : Option (Int32 × Mem) :=
  bndV (f_X12_asks G p1 p2 μ) (fun m2 =>
  chk p3 32 ((let m4 := wr m2 23 5 (m2 20 (ix p3))
  (let m5 := wr m4 23 6 p4
  chk p2 12 (chk p2 12 (bndE (f_X12_lawTells G (0 : Int32) ((((500 : Int32) + ((40 : Int32) * (m5 5 (ix p2)))) - ((30 : Int32) * (m5 6 (ix p2)))) + ((200 : Int32) * (m5 23 3))) (0 : Int32) (1000 : Int32) m5) (fun w10 m9 =>
  some (w10, m9))))))))
set_option maxHeartbeats 4000000 in
set_option maxRecDepth 100000 in
theorem c_X12_yesOf  {G : Nat} {μ : Mem} {p1 p2 p3 p4 : Int32} {r : Int32} {μr : Mem}  (h : f_X12_yesOf G p1 p2 p3 p4 μ = some (r, μr)) : Cn yX12_yesOf cX12_yesOf 5 (some .int) 5 0 0 [.ref 0, .int p1, .int p2, .int p3, .int p4] shR μ (eqP (some r) shR μr) := by
  refine cn_of (own := RX12) (ini := false) (loc := [some (.ref 0), some (.int p1), some (.int p2), some (.int p3), some (.int p4)]) rfl (by decide) (fun q => by cases q) (Nat.le_of_ble_eq_true rfl) (by rfl) rfl ?_
  unfold f_X12_yesOf at h
  refine ev_aload_n dX12_yesOf_0 rfl ?_
  refine ev_iload_n dX12_yesOf_1 rfl ?_
  refine ev_iload_n dX12_yesOf_2 rfl ?_
  obtain ⟨m2, hq1, h⟩ := bndV_t h
  refine ev_cVv mv_X12_347 dX12_yesOf_3 (c_X12_asks hq1) rfl shR_0 rfl rfl (Nat.le_of_ble_eq_true rfl) (by rfl) (Nat.le_of_ble_eq_true rfl) (Nat.le_of_ble_eq_true rfl) (Nat.le_of_ble_eq_true rfl) ?_
  refine ev_aload_n dX12_yesOf_6 rfl ?_
  refine ev_getR fr_X12_80 shR_0 rfl dX12_yesOf_7 ?_
  refine ev_iconst (v := (5 : Int32)) dX12_yesOf_10 (by decide) ?_
  refine ev_aload_n dX12_yesOf_11 rfl ?_
  refine ev_getR fr_X12_71 shR_0 rfl dX12_yesOf_12 ?_
  refine ev_iload_n dX12_yesOf_15 rfl ?_
  obtain ⟨hi3, h⟩ := chk_t h
  refine ev_iald shR_20 hi3 dX12_yesOf_16 ?_
  refine ev_iastL (j := 5) shR_23 (by decide) (vpl _ _ (by decide)) dX12_yesOf_17 ?_
  refine ev_aload_n dX12_yesOf_18 rfl ?_
  refine ev_getR fr_X12_80 shR_0 rfl dX12_yesOf_19 ?_
  refine ev_bipush (v := (6 : Int32)) dX12_yesOf_22 (by decide) ?_
  refine ev_iload dX12_yesOf_24 rfl ?_
  refine ev_iastL (j := 6) shR_23 (by decide) (vpl _ _ (by decide)) dX12_yesOf_26 ?_
  refine ev_aload_n dX12_yesOf_27 rfl ?_
  refine ev_iconst (v := (0 : Int32)) dX12_yesOf_28 (by decide) ?_
  refine ev_sipush (v := (500 : Int32)) dX12_yesOf_29 (by decide) ?_
  refine ev_bipush (v := (40 : Int32)) dX12_yesOf_32 (by decide) ?_
  refine ev_aload_n dX12_yesOf_34 rfl ?_
  refine ev_getR fr_X12_22 shR_0 rfl dX12_yesOf_35 ?_
  refine ev_iload_n dX12_yesOf_38 rfl ?_
  obtain ⟨hi6, h⟩ := chk_t h
  refine ev_iald shR_5 hi6 dX12_yesOf_39 ?_
  refine ev_imul dX12_yesOf_40 ?_
  refine ev_iadd dX12_yesOf_41 ?_
  refine ev_bipush (v := (30 : Int32)) dX12_yesOf_42 (by decide) ?_
  refine ev_aload_n dX12_yesOf_44 rfl ?_
  refine ev_getR fr_X12_25 shR_0 rfl dX12_yesOf_45 ?_
  refine ev_iload_n dX12_yesOf_48 rfl ?_
  obtain ⟨hi7, h⟩ := chk_t h
  refine ev_iald shR_6 hi7 dX12_yesOf_49 ?_
  refine ev_imul dX12_yesOf_50 ?_
  refine ev_isub dX12_yesOf_51 ?_
  refine ev_sipush (v := (200 : Int32)) dX12_yesOf_52 (by decide) ?_
  refine ev_aload_n dX12_yesOf_55 rfl ?_
  refine ev_getR fr_X12_80 shR_0 rfl dX12_yesOf_56 ?_
  refine ev_iconst (v := (3 : Int32)) dX12_yesOf_59 (by decide) ?_
  refine ev_ialdL (j := 3) shR_23 (by decide) (vpl _ _ (by decide)) dX12_yesOf_60 ?_
  refine ev_imul dX12_yesOf_61 ?_
  refine ev_iadd dX12_yesOf_62 ?_
  refine ev_iconst (v := (0 : Int32)) dX12_yesOf_63 (by decide) ?_
  refine ev_sipush (v := (1000 : Int32)) dX12_yesOf_64 (by decide) ?_
  obtain ⟨w10, m9, hq8, h⟩ := bndE_t h
  refine ev_cVi mv_X12_350 dX12_yesOf_67 (c_X12_lawTells hq8) rfl shR_0 rfl rfl (Nat.le_of_ble_eq_true rfl) (by rfl) (Nat.le_of_ble_eq_true rfl) (Nat.le_of_ble_eq_true rfl) (Nat.le_of_ble_eq_true rfl) ?_
  exact ev_iret rfl rfl (by decide) (by decide) dX12_yesOf_70 (eqP_E h)
def f_X12_countsOf (G : Nat) (p1 p2 p3 p4 p5 : Int32) (μ : Mem) : Option (Int32 × Mem) :=
  bndV (f_X12_asks G p1 p2 μ) (fun m2 =>
  (let m3 := wr m2 23 4 p5
  chk p3 32 ((let m5 := wr m3 23 5 (m3 20 (ix p3))
  (let m6 := wr m5 23 6 p4
  bndE (f_X12_lawTells G (1 : Int32) (1 : Int32) (-99 : Int32) (99 : Int32) m6) (fun w9 m8 =>
  some (w9, m8)))))))
set_option maxHeartbeats 4000000 in
set_option maxRecDepth 100000 in
theorem c_X12_countsOf  {G : Nat} {μ : Mem} {p1 p2 p3 p4 p5 : Int32} {r : Int32} {μr : Mem}  (h : f_X12_countsOf G p1 p2 p3 p4 p5 μ = some (r, μr)) : Cn yX12_countsOf cX12_countsOf 6 (some .int) 5 0 0 [.ref 0, .int p1, .int p2, .int p3, .int p4, .int p5] shR μ (eqP (some r) shR μr) := by
  refine cn_of (own := RX12) (ini := false) (loc := [some (.ref 0), some (.int p1), some (.int p2), some (.int p3), some (.int p4), some (.int p5)]) rfl (by decide) (fun q => by cases q) (Nat.le_of_ble_eq_true rfl) (by rfl) rfl ?_
  unfold f_X12_countsOf at h
  refine ev_aload_n dX12_countsOf_0 rfl ?_
  refine ev_iload_n dX12_countsOf_1 rfl ?_
  refine ev_iload_n dX12_countsOf_2 rfl ?_
  obtain ⟨m2, hq1, h⟩ := bndV_t h
  refine ev_cVv mv_X12_347 dX12_countsOf_3 (c_X12_asks hq1) rfl shR_0 rfl rfl (Nat.le_of_ble_eq_true rfl) (by rfl) (Nat.le_of_ble_eq_true rfl) (Nat.le_of_ble_eq_true rfl) (Nat.le_of_ble_eq_true rfl) ?_
  refine ev_aload_n dX12_countsOf_6 rfl ?_
  refine ev_getR fr_X12_80 shR_0 rfl dX12_countsOf_7 ?_
  refine ev_iconst (v := (4 : Int32)) dX12_countsOf_10 (by decide) ?_
  refine ev_iload dX12_countsOf_11 rfl ?_
  refine ev_iastL (j := 4) shR_23 (by decide) (vpl _ _ (by decide)) dX12_countsOf_13 ?_
  refine ev_aload_n dX12_countsOf_14 rfl ?_
  refine ev_getR fr_X12_80 shR_0 rfl dX12_countsOf_15 ?_
  refine ev_iconst (v := (5 : Int32)) dX12_countsOf_18 (by decide) ?_
  refine ev_aload_n dX12_countsOf_19 rfl ?_
  refine ev_getR fr_X12_71 shR_0 rfl dX12_countsOf_20 ?_
  refine ev_iload_n dX12_countsOf_23 rfl ?_
  obtain ⟨hi4, h⟩ := chk_t h
  refine ev_iald shR_20 hi4 dX12_countsOf_24 ?_
  refine ev_iastL (j := 5) shR_23 (by decide) (vpl _ _ (by decide)) dX12_countsOf_25 ?_
  refine ev_aload_n dX12_countsOf_26 rfl ?_
  refine ev_getR fr_X12_80 shR_0 rfl dX12_countsOf_27 ?_
  refine ev_bipush (v := (6 : Int32)) dX12_countsOf_30 (by decide) ?_
  refine ev_iload dX12_countsOf_32 rfl ?_
  refine ev_iastL (j := 6) shR_23 (by decide) (vpl _ _ (by decide)) dX12_countsOf_34 ?_
  refine ev_aload_n dX12_countsOf_35 rfl ?_
  refine ev_iconst (v := (1 : Int32)) dX12_countsOf_36 (by decide) ?_
  refine ev_iconst (v := (1 : Int32)) dX12_countsOf_37 (by decide) ?_
  refine ev_bipush (v := (-99 : Int32)) dX12_countsOf_38 (by decide) ?_
  refine ev_bipush (v := (99 : Int32)) dX12_countsOf_40 (by decide) ?_
  obtain ⟨w9, m8, hq7, h⟩ := bndE_t h
  refine ev_cVi mv_X12_350 dX12_countsOf_42 (c_X12_lawTells hq7) rfl shR_0 rfl rfl (Nat.le_of_ble_eq_true rfl) (by rfl) (Nat.le_of_ble_eq_true rfl) (Nat.le_of_ble_eq_true rfl) (Nat.le_of_ble_eq_true rfl) ?_
  exact ev_iret rfl rfl (by decide) (by decide) dX12_countsOf_45 (eqP_E h)
def f_X12_joyOf (G : Nat) (p1 p2 : Int32) (μ : Mem) : Option (Int32 × Mem) :=
  bndV (f_X12_asks G p1 p2 μ) (fun m2 =>
  chk p2 12 (bndE (f_X12_lawTells G (2 : Int32) (((m2 5 (ix p2)) - (4 : Int32)) + (m2 23 3)) (-20 : Int32) (20 : Int32) m2) (fun w6 m5 =>
  some (w6, m5))))
set_option maxHeartbeats 4000000 in
set_option maxRecDepth 100000 in
theorem c_X12_joyOf  {G : Nat} {μ : Mem} {p1 p2 : Int32} {r : Int32} {μr : Mem}  (h : f_X12_joyOf G p1 p2 μ = some (r, μr)) : Cn yX12_joyOf cX12_joyOf 3 (some .int) 5 0 0 [.ref 0, .int p1, .int p2] shR μ (eqP (some r) shR μr) := by
  refine cn_of (own := RX12) (ini := false) (loc := [some (.ref 0), some (.int p1), some (.int p2)]) rfl (by decide) (fun q => by cases q) (Nat.le_of_ble_eq_true rfl) (by rfl) rfl ?_
  unfold f_X12_joyOf at h
  refine ev_aload_n dX12_joyOf_0 rfl ?_
  refine ev_iload_n dX12_joyOf_1 rfl ?_
  refine ev_iload_n dX12_joyOf_2 rfl ?_
  obtain ⟨m2, hq1, h⟩ := bndV_t h
  refine ev_cVv mv_X12_347 dX12_joyOf_3 (c_X12_asks hq1) rfl shR_0 rfl rfl (Nat.le_of_ble_eq_true rfl) (by rfl) (Nat.le_of_ble_eq_true rfl) (Nat.le_of_ble_eq_true rfl) (Nat.le_of_ble_eq_true rfl) ?_
  refine ev_aload_n dX12_joyOf_6 rfl ?_
  refine ev_iconst (v := (2 : Int32)) dX12_joyOf_7 (by decide) ?_
  refine ev_aload_n dX12_joyOf_8 rfl ?_
  refine ev_getR fr_X12_22 shR_0 rfl dX12_joyOf_9 ?_
  refine ev_iload_n dX12_joyOf_12 rfl ?_
  obtain ⟨hi3, h⟩ := chk_t h
  refine ev_iald shR_5 hi3 dX12_joyOf_13 ?_
  refine ev_iconst (v := (4 : Int32)) dX12_joyOf_14 (by decide) ?_
  refine ev_isub dX12_joyOf_15 ?_
  refine ev_aload_n dX12_joyOf_16 rfl ?_
  refine ev_getR fr_X12_80 shR_0 rfl dX12_joyOf_17 ?_
  refine ev_iconst (v := (3 : Int32)) dX12_joyOf_20 (by decide) ?_
  refine ev_ialdL (j := 3) shR_23 (by decide) (vpl _ _ (by decide)) dX12_joyOf_21 ?_
  refine ev_iadd dX12_joyOf_22 ?_
  refine ev_bipush (v := (-20 : Int32)) dX12_joyOf_23 (by decide) ?_
  refine ev_bipush (v := (20 : Int32)) dX12_joyOf_25 (by decide) ?_
  obtain ⟨w6, m5, hq4, h⟩ := bndE_t h
  refine ev_cVi mv_X12_350 dX12_joyOf_27 (c_X12_lawTells hq4) rfl shR_0 rfl rfl (Nat.le_of_ble_eq_true rfl) (by rfl) (Nat.le_of_ble_eq_true rfl) (Nat.le_of_ble_eq_true rfl) (Nat.le_of_ble_eq_true rfl) ?_
  exact ev_iret rfl rfl (by decide) (by decide) dX12_joyOf_30 (eqP_E h)
def f_X12_notes (G : Nat) (p1 p2 p3 : Int32) (μ : Mem) : Option Mem :=
  (if (μ 0 5) = (0 : Int32) then
  (if (μ 1 2) = (150 : Int32) then
  some μ
  else
  chk ((4 : Int32) * (μ 1 2)) 600 (let m3 := wr μ 9 (ix ((4 : Int32) * (μ 1 2))) (μ 1 0)
  chk (((4 : Int32) * (μ 1 2)) + (1 : Int32)) 600 (let m5 := wr m3 9 (ix (((4 : Int32) * (μ 1 2)) + (1 : Int32))) p1
  chk (((4 : Int32) * (μ 1 2)) + (2 : Int32)) 600 (let m7 := wr m5 9 (ix (((4 : Int32) * (μ 1 2)) + (2 : Int32))) p2
  chk (((4 : Int32) * (μ 1 2)) + (3 : Int32)) 600 (let m9 := wr m7 9 (ix (((4 : Int32) * (μ 1 2)) + (3 : Int32))) p3
  (let m11 := wr m9 1 2 ((m9 1 2) + (1 : Int32))
  some m11))))))
  else
  some μ)
set_option maxHeartbeats 4000000 in
set_option maxRecDepth 100000 in
theorem c_X12_notes  {G : Nat} {μ : Mem} {p1 p2 p3 : Int32} {μr : Mem}  (h : f_X12_notes G p1 p2 p3 μ = some μr) : Cn yX12_notes cX12_notes 5 none 1 0 0 [.ref 0, .int p1, .int p2, .int p3] shR μ (eqP none shR μr) := by
  refine cn_of (own := RX12) (ini := false) (loc := [some (.ref 0), some (.int p1), some (.int p2), some (.int p3), none]) rfl (by decide) (fun q => by cases q) (Nat.le_of_ble_eq_true rfl) (by rfl) rfl ?_
  unfold f_X12_notes at h
  refine ev_aload_n dX12_notes_0 rfl ?_
  refine ev_getI fr_X12_155 shR_0 rfl dX12_notes_1 ?_
  refine ev_if_ne (tgt := 19) dX12_notes_4 (by decide) (fun hc1 => ?_) (fun hc1 => ?_)
  · replace h := ite_f hc1 h
    exact ev_vret rfl (by decide) (by decide) dX12_notes_19 (eqP_V h)
  · replace h := ite_t hc1 h
    refine ev_aload_n dX12_notes_7 rfl ?_
    refine ev_getR fr_X12_7 shR_0 rfl dX12_notes_8 ?_
    refine ev_iconst (v := (2 : Int32)) dX12_notes_11 (by decide) ?_
    refine ev_ialdL (j := 2) shR_1 (by decide) (vpl _ _ (by decide)) dX12_notes_12 ?_
    refine ev_sipush (v := (150 : Int32)) dX12_notes_13 (by decide) ?_
    refine ev_icmp_ne (tgt := 20) dX12_notes_16 (by decide) (fun hc2 => ?_) (fun hc2 => ?_)
    · replace h := ite_f hc2 h
      refine ev_iconst (v := (4 : Int32)) dX12_notes_20 (by decide) ?_
      refine ev_aload_n dX12_notes_21 rfl ?_
      refine ev_getR fr_X12_7 shR_0 rfl dX12_notes_22 ?_
      refine ev_iconst (v := (2 : Int32)) dX12_notes_25 (by decide) ?_
      refine ev_ialdL (j := 2) shR_1 (by decide) (vpl _ _ (by decide)) dX12_notes_26 ?_
      refine ev_imul dX12_notes_27 ?_
      refine ev_istore (loc' := [_, _, _, _, _]) dX12_notes_28 rfl (by decide) (by rfl) ?_
      refine ev_aload_n dX12_notes_30 rfl ?_
      refine ev_getR fr_X12_34 shR_0 rfl dX12_notes_31 ?_
      refine ev_iload dX12_notes_34 rfl ?_
      refine ev_aload_n dX12_notes_36 rfl ?_
      refine ev_getR fr_X12_7 shR_0 rfl dX12_notes_37 ?_
      refine ev_iconst (v := (0 : Int32)) dX12_notes_40 (by decide) ?_
      refine ev_ialdL (j := 0) shR_1 (by decide) (vpl _ _ (by decide)) dX12_notes_41 ?_
      obtain ⟨hi4, h⟩ := chk_t h
      refine ev_iast shR_9 hi4 dX12_notes_42 ?_
      refine ev_aload_n dX12_notes_43 rfl ?_
      refine ev_getR fr_X12_34 shR_0 rfl dX12_notes_44 ?_
      refine ev_iload dX12_notes_47 rfl ?_
      refine ev_iconst (v := (1 : Int32)) dX12_notes_49 (by decide) ?_
      refine ev_iadd dX12_notes_50 ?_
      refine ev_iload_n dX12_notes_51 rfl ?_
      obtain ⟨hi6, h⟩ := chk_t h
      refine ev_iast shR_9 hi6 dX12_notes_52 ?_
      refine ev_aload_n dX12_notes_53 rfl ?_
      refine ev_getR fr_X12_34 shR_0 rfl dX12_notes_54 ?_
      refine ev_iload dX12_notes_57 rfl ?_
      refine ev_iconst (v := (2 : Int32)) dX12_notes_59 (by decide) ?_
      refine ev_iadd dX12_notes_60 ?_
      refine ev_iload_n dX12_notes_61 rfl ?_
      obtain ⟨hi8, h⟩ := chk_t h
      refine ev_iast shR_9 hi8 dX12_notes_62 ?_
      refine ev_aload_n dX12_notes_63 rfl ?_
      refine ev_getR fr_X12_34 shR_0 rfl dX12_notes_64 ?_
      refine ev_iload dX12_notes_67 rfl ?_
      refine ev_iconst (v := (3 : Int32)) dX12_notes_69 (by decide) ?_
      refine ev_iadd dX12_notes_70 ?_
      refine ev_iload_n dX12_notes_71 rfl ?_
      obtain ⟨hi10, h⟩ := chk_t h
      refine ev_iast shR_9 hi10 dX12_notes_72 ?_
      refine ev_aload_n dX12_notes_73 rfl ?_
      refine ev_getR fr_X12_7 shR_0 rfl dX12_notes_74 ?_
      refine ev_iconst (v := (2 : Int32)) dX12_notes_77 (by decide) ?_
      refine ev_aload_n dX12_notes_78 rfl ?_
      refine ev_getR fr_X12_7 shR_0 rfl dX12_notes_79 ?_
      refine ev_iconst (v := (2 : Int32)) dX12_notes_82 (by decide) ?_
      refine ev_ialdL (j := 2) shR_1 (by decide) (vpl _ _ (by decide)) dX12_notes_83 ?_
      refine ev_iconst (v := (1 : Int32)) dX12_notes_84 (by decide) ?_
      refine ev_iadd dX12_notes_85 ?_
      refine ev_iastL (j := 2) shR_1 (by decide) (vpl _ _ (by decide)) dX12_notes_86 ?_
      exact ev_vret rfl (by decide) (by decide) dX12_notes_87 (eqP_V h)
    · replace h := ite_t hc2 h
      exact ev_vret rfl (by decide) (by decide) dX12_notes_19 (eqP_V h)
def f_X12_isSent (G : Nat) (p1 p2 p3 : Int32) (μ : Mem) : Option Mem :=
  (let m1 := wr μ 25 0 p1
  (let m2 := wr m1 25 1 p2
  (let m3 := wr m2 25 2 p3
  some m3)))
set_option maxHeartbeats 4000000 in
set_option maxRecDepth 100000 in
theorem c_X12_isSent  {G : Nat} {μ : Mem} {p1 p2 p3 : Int32} {μr : Mem}  (h : f_X12_isSent G p1 p2 p3 μ = some μr) : Cn yX12_isSent cX12_isSent 4 none 1 0 0 [.ref 0, .int p1, .int p2, .int p3] shR μ (eqP none shR μr) := by
  refine cn_of (own := RX12) (ini := false) (loc := [some (.ref 0), some (.int p1), some (.int p2), some (.int p3)]) rfl (by decide) (fun q => by cases q) (Nat.le_of_ble_eq_true rfl) (by rfl) rfl ?_
  unfold f_X12_isSent at h
  refine ev_aload_n dX12_isSent_0 rfl ?_
  refine ev_getR fr_X12_86 shR_0 rfl dX12_isSent_1 ?_
  refine ev_iconst (v := (0 : Int32)) dX12_isSent_4 (by decide) ?_
  refine ev_iload_n dX12_isSent_5 rfl ?_
  refine ev_iastL (j := 0) shR_25 (by decide) (vpl _ _ (by decide)) dX12_isSent_6 ?_
  refine ev_aload_n dX12_isSent_7 rfl ?_
  refine ev_getR fr_X12_86 shR_0 rfl dX12_isSent_8 ?_
  refine ev_iconst (v := (1 : Int32)) dX12_isSent_11 (by decide) ?_
  refine ev_iload_n dX12_isSent_12 rfl ?_
  refine ev_iastL (j := 1) shR_25 (by decide) (vpl _ _ (by decide)) dX12_isSent_13 ?_
  refine ev_aload_n dX12_isSent_14 rfl ?_
  refine ev_getR fr_X12_86 shR_0 rfl dX12_isSent_15 ?_
  refine ev_iconst (v := (2 : Int32)) dX12_isSent_18 (by decide) ?_
  refine ev_iload_n dX12_isSent_19 rfl ?_
  refine ev_iastL (j := 2) shR_25 (by decide) (vpl _ _ (by decide)) dX12_isSent_20 ?_
  exact ev_vret rfl (by decide) (by decide) dX12_isSent_21 (eqP_V h)
def f_X12_isAsked_j74 (G : Nat)  (v1 v2 v3 v4 v6 s0 : Int32) (μ : Mem) : Option Mem :=
  chk v2 32 (bndV (f_X12_notes G s0 v4 (μ 20 (ix v2)) μ) (fun m13 =>
  chk v3 3 ((if v6 = (0 : Int32) then
  bndE (f_X12_countsOf G v1 v4 v2 v3 (0 : Int32) m13) (fun w18 m17 =>
  chk v3 3 (let m19 := wr m17 26 (ix v3) ((m13 26 (ix v3)) + w18)
  some m19))
  else
  bndE (f_X12_countsOf G v1 v4 v2 v3 (1 : Int32) m13) (fun w23 m22 =>
  chk v3 3 (let m24 := wr m22 26 (ix v3) ((m13 26 (ix v3)) + w23)
  some m24))))))
set_option maxHeartbeats 4000000 in
set_option maxRecDepth 100000 in
theorem f_X12_isAsked_j74_ok  {G : Nat} {μr : Mem}    {v1 v2 v3 v4 v6 s0 : Int32} {μ : Mem} (h : f_X12_isAsked_j74 G v1 v2 v3 v4 v6 s0 μ = some μr) : Ev RX12 cX12_isAsked 7 none false 6 0 0 (eqP none shR μr) 74 [some (.ref 0), some (.int v1), some (.int v2), some (.int v3), some (.int v4), none, some (.int v6)] [.int s0, .ref 0] shR μ 0 0 := by
  unfold f_X12_isAsked_j74 at h
  refine ev_iload dX12_isAsked_74 rfl ?_
  refine ev_aload_n dX12_isAsked_76 rfl ?_
  refine ev_getR fr_X12_71 shR_0 rfl dX12_isAsked_77 ?_
  refine ev_iload_n dX12_isAsked_80 rfl ?_
  obtain ⟨hi11, h⟩ := chk_t h
  refine ev_iald shR_20 hi11 dX12_isAsked_81 ?_
  obtain ⟨m13, hq12, h⟩ := bndV_t h
  refine ev_cVv mv_X12_360 dX12_isAsked_82 (c_X12_notes hq12) rfl shR_0 rfl rfl (Nat.le_of_ble_eq_true rfl) (by rfl) (Nat.le_of_ble_eq_true rfl) (Nat.le_of_ble_eq_true rfl) (Nat.le_of_ble_eq_true rfl) ?_
  refine ev_aload_n dX12_isAsked_85 rfl ?_
  refine ev_getR fr_X12_89 shR_0 rfl dX12_isAsked_86 ?_
  refine ev_iload_n dX12_isAsked_89 rfl ?_
  refine ev_aload_n dX12_isAsked_90 rfl ?_
  refine ev_getR fr_X12_89 shR_0 rfl dX12_isAsked_91 ?_
  refine ev_iload_n dX12_isAsked_94 rfl ?_
  obtain ⟨hi14, h⟩ := chk_t h
  refine ev_iald shR_26 hi14 dX12_isAsked_95 ?_
  refine ev_aload_n dX12_isAsked_96 rfl ?_
  refine ev_iload_n dX12_isAsked_97 rfl ?_
  refine ev_iload dX12_isAsked_98 rfl ?_
  refine ev_iload_n dX12_isAsked_100 rfl ?_
  refine ev_iload_n dX12_isAsked_101 rfl ?_
  refine ev_iload dX12_isAsked_102 rfl ?_
  refine ev_if_eq (tgt := 111) dX12_isAsked_104 (by decide) (fun hc15 => ?_) (fun hc15 => ?_)
  · replace h := ite_t hc15 h
    refine ev_iconst (v := (0 : Int32)) dX12_isAsked_111 (by decide) ?_
    obtain ⟨w18, m17, hq16, h⟩ := bndE_t h
    refine ev_cVi mv_X12_364 dX12_isAsked_112 (c_X12_countsOf hq16) rfl shR_0 rfl rfl (Nat.le_of_ble_eq_true rfl) (by rfl) (Nat.le_of_ble_eq_true rfl) (Nat.le_of_ble_eq_true rfl) (Nat.le_of_ble_eq_true rfl) ?_
    refine ev_iadd dX12_isAsked_115 ?_
    obtain ⟨hi20, h⟩ := chk_t h
    refine ev_iast shR_26 hi20 dX12_isAsked_116 ?_
    exact ev_vret rfl (by decide) (by decide) dX12_isAsked_117 (eqP_V h)
  · replace h := ite_f hc15 h
    refine ev_iconst (v := (1 : Int32)) dX12_isAsked_107 (by decide) ?_
    refine ev_goto (tgt := 112) dX12_isAsked_108 (by decide) ?_
    obtain ⟨w23, m22, hq21, h⟩ := bndE_t h
    refine ev_cVi mv_X12_364 dX12_isAsked_112 (c_X12_countsOf hq21) rfl shR_0 rfl rfl (Nat.le_of_ble_eq_true rfl) (by rfl) (Nat.le_of_ble_eq_true rfl) (Nat.le_of_ble_eq_true rfl) (Nat.le_of_ble_eq_true rfl) ?_
    refine ev_iadd dX12_isAsked_115 ?_
    obtain ⟨hi25, h⟩ := chk_t h
    refine ev_iast shR_26 hi25 dX12_isAsked_116 ?_
    exact ev_vret rfl (by decide) (by decide) dX12_isAsked_117 (eqP_V h)
def f_X12_isAsked_j61 (G : Nat)  (v1 v2 v3 v4 s0 : Int32) (μ : Mem) : Option Mem :=
  (if s0 = (0 : Int32) then
  f_X12_isAsked_j74 G v1 v2 v3 v4 s0 (1 : Int32) μ
  else
  f_X12_isAsked_j74 G v1 v2 v3 v4 s0 (0 : Int32) μ)
set_option maxHeartbeats 4000000 in
set_option maxRecDepth 100000 in
theorem f_X12_isAsked_j61_ok  {G : Nat} {μr : Mem}    {v1 v2 v3 v4 s0 : Int32} {μ : Mem} (h : f_X12_isAsked_j61 G v1 v2 v3 v4 s0 μ = some μr) : Ev RX12 cX12_isAsked 7 none false 6 0 0 (eqP none shR μr) 61 [some (.ref 0), some (.int v1), some (.int v2), some (.int v3), some (.int v4), none, none] [.int s0] shR μ 0 0 := by
  unfold f_X12_isAsked_j61 at h
  refine ev_istore (loc' := [_, _, _, _, _, _, _]) dX12_isAsked_61 rfl (by decide) (by rfl) ?_
  refine ev_aload_n dX12_isAsked_63 rfl ?_
  refine ev_iload dX12_isAsked_64 rfl ?_
  refine ev_if_eq (tgt := 73) dX12_isAsked_66 (by decide) (fun hc10 => ?_) (fun hc10 => ?_)
  · replace h := ite_t hc10 h
    refine ev_iconst (v := (1 : Int32)) dX12_isAsked_73 (by decide) ?_
    exact ev_lt (f_X12_isAsked_j74_ok h) ⟨rfl, ⟨rfl, ⟨rfl, ⟨rfl, ⟨rfl, ⟨rfl, trivial⟩⟩⟩⟩⟩⟩
  · replace h := ite_f hc10 h
    refine ev_iconst (v := (0 : Int32)) dX12_isAsked_69 (by decide) ?_
    refine ev_goto (tgt := 74) dX12_isAsked_70 (by decide) ?_
    exact ev_lt (f_X12_isAsked_j74_ok h) ⟨rfl, ⟨rfl, ⟨rfl, ⟨rfl, ⟨rfl, ⟨rfl, trivial⟩⟩⟩⟩⟩⟩
def f_X12_isAsked (G : Nat) (p1 p2 p3 : Int32) (μ : Mem) : Option Mem :=
  chk p3 3 (bndE (f_X12_yesOf G p1 (μ 25 (ix p3)) p2 p3 μ) (fun w4 m3 =>
  (if (m3 0 5) = (0 : Int32) then
  bndE (f_X12_draw G (1000 : Int32) m3) (fun w8 m7 =>
  (if w4 ≤ w8 then
  f_X12_isAsked_j61 G p1 p2 p3 (μ 25 (ix p3)) (0 : Int32) m7
  else
  f_X12_isAsked_j61 G p1 p2 p3 (μ 25 (ix p3)) (1 : Int32) m7))
  else
  (if ((2 : Int32) * w4) < (1000 : Int32) then
  f_X12_isAsked_j61 G p1 p2 p3 (μ 25 (ix p3)) (0 : Int32) m3
  else
  f_X12_isAsked_j61 G p1 p2 p3 (μ 25 (ix p3)) (1 : Int32) m3))))
set_option maxHeartbeats 4000000 in
set_option maxRecDepth 100000 in
theorem c_X12_isAsked  {G : Nat} {μ : Mem} {p1 p2 p3 : Int32} {μr : Mem}  (h : f_X12_isAsked G p1 p2 p3 μ = some μr) : Cn yX12_isAsked cX12_isAsked 7 none 6 0 0 [.ref 0, .int p1, .int p2, .int p3] shR μ (eqP none shR μr) := by
  refine cn_of (own := RX12) (ini := false) (loc := [some (.ref 0), some (.int p1), some (.int p2), some (.int p3), none, none, none]) rfl (by decide) (fun q => by cases q) (Nat.le_of_ble_eq_true rfl) (by rfl) rfl ?_
  unfold f_X12_isAsked at h
  refine ev_aload_n dX12_isAsked_0 rfl ?_
  refine ev_getR fr_X12_86 shR_0 rfl dX12_isAsked_1 ?_
  refine ev_iload_n dX12_isAsked_4 rfl ?_
  obtain ⟨hi1, h⟩ := chk_t h
  refine ev_iald shR_25 hi1 dX12_isAsked_5 ?_
  refine ev_istore (loc' := [_, _, _, _, _, _, _]) dX12_isAsked_6 rfl (by decide) (by rfl) ?_
  refine ev_aload_n dX12_isAsked_8 rfl ?_
  refine ev_iload_n dX12_isAsked_9 rfl ?_
  refine ev_iload dX12_isAsked_10 rfl ?_
  refine ev_iload_n dX12_isAsked_12 rfl ?_
  refine ev_iload_n dX12_isAsked_13 rfl ?_
  obtain ⟨w4, m3, hq2, h⟩ := bndE_t h
  refine ev_cVi mv_X12_354 dX12_isAsked_14 (c_X12_yesOf hq2) rfl shR_0 rfl rfl (Nat.le_of_ble_eq_true rfl) (by rfl) (Nat.le_of_ble_eq_true rfl) (Nat.le_of_ble_eq_true rfl) (Nat.le_of_ble_eq_true rfl) ?_
  refine ev_istore (loc' := [_, _, _, _, _, _, _]) dX12_isAsked_17 rfl (by decide) (by rfl) ?_
  refine ev_aload_n dX12_isAsked_19 rfl ?_
  refine ev_getI fr_X12_155 shR_0 rfl dX12_isAsked_20 ?_
  refine ev_if_eq (tgt := 44) dX12_isAsked_23 (by decide) (fun hc5 => ?_) (fun hc5 => ?_)
  · replace h := ite_t hc5 h
    refine ev_aload_n dX12_isAsked_44 rfl ?_
    refine ev_sipush (v := (1000 : Int32)) dX12_isAsked_45 (by decide) ?_
    obtain ⟨w8, m7, hq6, h⟩ := bndE_t h
    refine ev_cVi mv_X12_357 dX12_isAsked_48 (c_X12_draw hq6) rfl shR_0 rfl rfl (Nat.le_of_ble_eq_true rfl) (by rfl) (Nat.le_of_ble_eq_true rfl) (Nat.le_of_ble_eq_true rfl) (Nat.le_of_ble_eq_true rfl) ?_
    refine ev_iload dX12_isAsked_51 rfl ?_
    refine ev_icmp_ge (tgt := 60) dX12_isAsked_53 (by decide) (fun hc9 => ?_) (fun hc9 => ?_)
    · replace h := ite_t hc9 h
      refine ev_iconst (v := (0 : Int32)) dX12_isAsked_60 (by decide) ?_
      exact ev_lt (f_X12_isAsked_j61_ok h) ⟨rfl, ⟨rfl, ⟨rfl, ⟨rfl, ⟨rfl, trivial⟩⟩⟩⟩⟩
    · replace h := ite_f hc9 h
      refine ev_iconst (v := (1 : Int32)) dX12_isAsked_56 (by decide) ?_
      refine ev_goto (tgt := 61) dX12_isAsked_57 (by decide) ?_
      exact ev_lt (f_X12_isAsked_j61_ok h) ⟨rfl, ⟨rfl, ⟨rfl, ⟨rfl, ⟨rfl, trivial⟩⟩⟩⟩⟩
  · replace h := ite_f hc5 h
    refine ev_iconst (v := (2 : Int32)) dX12_isAsked_26 (by decide) ?_
    refine ev_iload dX12_isAsked_27 rfl ?_
    refine ev_imul dX12_isAsked_29 ?_
    refine ev_sipush (v := (1000 : Int32)) dX12_isAsked_30 (by decide) ?_
    refine ev_icmp_lt (tgt := 40) dX12_isAsked_33 (by decide) (fun hc26 => ?_) (fun hc26 => ?_)
    · replace h := ite_t hc26 h
      refine ev_iconst (v := (0 : Int32)) dX12_isAsked_40 (by decide) ?_
      refine ev_goto (tgt := 61) dX12_isAsked_41 (by decide) ?_
      exact ev_lt (f_X12_isAsked_j61_ok h) ⟨rfl, ⟨rfl, ⟨rfl, ⟨rfl, ⟨rfl, trivial⟩⟩⟩⟩⟩
    · replace h := ite_f hc26 h
      refine ev_iconst (v := (1 : Int32)) dX12_isAsked_36 (by decide) ?_
      refine ev_goto (tgt := 61) dX12_isAsked_37 (by decide) ?_
      exact ev_lt (f_X12_isAsked_j61_ok h) ⟨rfl, ⟨rfl, ⟨rfl, ⟨rfl, ⟨rfl, trivial⟩⟩⟩⟩⟩
def f_X12_takes_L2 (G : Nat) (k2_20 : Int32 → Mem → Option (Int32 × Mem)) : Nat → Int32 → Int32 → Mem → Option (Int32 × Mem)
  | 0, _, _, _ => none
  | g + 1, v1, v2, μ =>
  (if (3 : Int32) ≤ v2 then
  k2_20 v1 μ
  else
  chk v2 3 (let m2 := wr μ 26 (ix v2) (0 : Int32)
  (f_X12_takes_L2 G k2_20 g) v1 (v2 + (1 : Int32)) m2))
set_option maxHeartbeats 4000000 in
set_option maxRecDepth 100000 in
theorem f_X12_takes_L2_ok  {G : Nat} {r : Int32} {μr : Mem}  {k2_20 : Int32 → Mem → Option (Int32 × Mem)} (hk2_20 : ∀ (v1 : Int32) (m : Mem), k2_20 v1 m = some (r, μr) → Ev RX12 cX12_takes 4 (some .int) false 7 0 0 (eqP (some r) shR μr) 20 [some (.ref 0), some (.int v1), none, none] [] shR m 0 0) : ∀ (g : Nat) (v1 v2 : Int32) (μ : Mem), f_X12_takes_L2 G k2_20 g v1 v2 μ = some (r, μr) → Ev RX12 cX12_takes 4 (some .int) false 7 0 0 (eqP (some r) shR μr) 2 [some (.ref 0), some (.int v1), some (.int v2), none] [] shR μ 0 0 := by
  intro g
  induction g with
  | zero =>
    intro v1 v2 μ h
    cases h
  | succ g ih =>
    intro v1 v2 μ h
    rw [f_X12_takes_L2] at h
    refine ev_iload_n dX12_takes_2 rfl ?_
    refine ev_iconst (v := (3 : Int32)) dX12_takes_3 (by decide) ?_
    refine ev_icmp_ge (tgt := 20) dX12_takes_4 (by decide) (fun hc1 => ?_) (fun hc1 => ?_)
    · replace h := ite_t hc1 h
      exact ev_lt (hk2_20 _ _ h) ⟨rfl, ⟨rfl, trivial⟩⟩
    · replace h := ite_f hc1 h
      refine ev_aload_n dX12_takes_7 rfl ?_
      refine ev_getR fr_X12_89 shR_0 rfl dX12_takes_8 ?_
      refine ev_iload_n dX12_takes_11 rfl ?_
      refine ev_iconst (v := (0 : Int32)) dX12_takes_12 (by decide) ?_
      obtain ⟨hi3, h⟩ := chk_t h
      refine ev_iast shR_26 hi3 dX12_takes_13 ?_
      refine ev_iinc (cq := (1 : Int32)) (loc' := [_, _, _, _]) dX12_takes_14 rfl (by decide) rfl (by decide) (by rfl) ?_
      refine ev_goto (tgt := 2) dX12_takes_17 (by decide) ?_
      exact ev_lt (ih _ _ _ h) ⟨rfl, ⟨rfl, ⟨rfl, trivial⟩⟩⟩
def f_X12_takes_L32 (G : Nat) (r22 : Int32 → Int32 → Mem → Option (Int32 × Mem)) (k22_56 : Mem → Option (Int32 × Mem)) (k32_50 : Int32 → Int32 → Mem → Option (Int32 × Mem)) : Nat → Int32 → Int32 → Int32 → Mem → Option (Int32 × Mem)
  | 0, _, _, _, _ => none
  | g + 1, v1, v2, v3, μ =>
  (if (3 : Int32) ≤ v3 then
  k32_50 v1 v2 μ
  else
  bndV (f_X12_isAsked G v1 v2 v3 μ) (fun m7 =>
  (f_X12_takes_L32 G r22 k22_56 k32_50 g) v1 v2 (v3 + (1 : Int32)) m7))
set_option maxHeartbeats 4000000 in
set_option maxRecDepth 100000 in
theorem f_X12_takes_L32_ok  {G : Nat} {r : Int32} {μr : Mem}  {r22 : Int32 → Int32 → Mem → Option (Int32 × Mem)} {k22_56 : Mem → Option (Int32 × Mem)} {k32_50 : Int32 → Int32 → Mem → Option (Int32 × Mem)} (hr22 : ∀ (v1 : Int32) (v2 : Int32) (m : Mem), r22 v1 v2 m = some (r, μr) → Ev RX12 cX12_takes 4 (some .int) false 7 0 0 (eqP (some r) shR μr) 22 [some (.ref 0), some (.int v1), some (.int v2), none] [] shR m 0 0) (hk22_56 : ∀ (m : Mem), k22_56 m = some (r, μr) → Ev RX12 cX12_takes 4 (some .int) false 7 0 0 (eqP (some r) shR μr) 56 [some (.ref 0), none, none, none] [] shR m 0 0) (hk32_50 : ∀ (v1 : Int32) (v2 : Int32) (m : Mem), k32_50 v1 v2 m = some (r, μr) → Ev RX12 cX12_takes 4 (some .int) false 7 0 0 (eqP (some r) shR μr) 50 [some (.ref 0), some (.int v1), some (.int v2), none] [] shR m 0 0) : ∀ (g : Nat) (v1 v2 v3 : Int32) (μ : Mem), f_X12_takes_L32 G r22 k22_56 k32_50 g v1 v2 v3 μ = some (r, μr) → Ev RX12 cX12_takes 4 (some .int) false 7 0 0 (eqP (some r) shR μr) 32 [some (.ref 0), some (.int v1), some (.int v2), some (.int v3)] [] shR μ 0 0 := by
  intro g
  induction g with
  | zero =>
    intro v1 v2 v3 μ h
    cases h
  | succ g ih =>
    intro v1 v2 v3 μ h
    rw [f_X12_takes_L32] at h
    refine ev_iload_n dX12_takes_32 rfl ?_
    refine ev_iconst (v := (3 : Int32)) dX12_takes_33 (by decide) ?_
    refine ev_icmp_ge (tgt := 50) dX12_takes_34 (by decide) (fun hc5 => ?_) (fun hc5 => ?_)
    · replace h := ite_t hc5 h
      exact ev_lt (hk32_50 _ _ _ h) ⟨rfl, ⟨rfl, ⟨rfl, trivial⟩⟩⟩
    · replace h := ite_f hc5 h
      refine ev_aload_n dX12_takes_37 rfl ?_
      refine ev_iload_n dX12_takes_38 rfl ?_
      refine ev_iload_n dX12_takes_39 rfl ?_
      refine ev_iload_n dX12_takes_40 rfl ?_
      obtain ⟨m7, hq6, h⟩ := bndV_t h
      refine ev_cVv mv_X12_368 dX12_takes_41 (c_X12_isAsked hq6) rfl shR_0 rfl rfl (Nat.le_of_ble_eq_true rfl) (by rfl) (Nat.le_of_ble_eq_true rfl) (Nat.le_of_ble_eq_true rfl) (Nat.le_of_ble_eq_true rfl) ?_
      refine ev_iinc (cq := (1 : Int32)) (loc' := [_, _, _, _]) dX12_takes_44 rfl (by decide) rfl (by decide) (by rfl) ?_
      refine ev_goto (tgt := 32) dX12_takes_47 (by decide) ?_
      exact ev_lt (ih _ _ _ _ h) ⟨rfl, ⟨rfl, ⟨rfl, ⟨rfl, trivial⟩⟩⟩⟩
def f_X12_takes_j50 (G : Nat) (r22 : Int32 → Int32 → Mem → Option (Int32 × Mem)) (k22_56 : Mem → Option (Int32 × Mem)) (v1 v2 : Int32) (μ : Mem) : Option (Int32 × Mem) :=
  r22 v1 (v2 + (1 : Int32)) μ
set_option maxHeartbeats 4000000 in
set_option maxRecDepth 100000 in
theorem f_X12_takes_j50_ok  {G : Nat} {r : Int32} {μr : Mem}  {r22 : Int32 → Int32 → Mem → Option (Int32 × Mem)} {k22_56 : Mem → Option (Int32 × Mem)} (hr22 : ∀ (v1 : Int32) (v2 : Int32) (m : Mem), r22 v1 v2 m = some (r, μr) → Ev RX12 cX12_takes 4 (some .int) false 7 0 0 (eqP (some r) shR μr) 22 [some (.ref 0), some (.int v1), some (.int v2), none] [] shR m 0 0) (hk22_56 : ∀ (m : Mem), k22_56 m = some (r, μr) → Ev RX12 cX12_takes 4 (some .int) false 7 0 0 (eqP (some r) shR μr) 56 [some (.ref 0), none, none, none] [] shR m 0 0) {v1 v2 : Int32} {μ : Mem} (h : f_X12_takes_j50 G r22 k22_56 v1 v2 μ = some (r, μr)) : Ev RX12 cX12_takes 4 (some .int) false 7 0 0 (eqP (some r) shR μr) 50 [some (.ref 0), some (.int v1), some (.int v2), none] [] shR μ 0 0 := by
  unfold f_X12_takes_j50 at h
  refine ev_iinc (cq := (1 : Int32)) (loc' := [_, _, _, _]) dX12_takes_50 rfl (by decide) rfl (by decide) (by rfl) ?_
  refine ev_goto (tgt := 22) dX12_takes_53 (by decide) ?_
  exact ev_lt (hr22 _ _ _ h) ⟨rfl, ⟨rfl, ⟨rfl, trivial⟩⟩⟩
def f_X12_takes_L22 (G : Nat) (k22_56 : Mem → Option (Int32 × Mem)) : Nat → Int32 → Int32 → Mem → Option (Int32 × Mem)
  | 0, _, _, _ => none
  | g + 1, v1, v2, μ =>
  (if (μ 0 37) ≤ v2 then
  k22_56  μ
  else
  f_X12_takes_L32 G (f_X12_takes_L22 G k22_56 g) k22_56 (f_X12_takes_j50 G (f_X12_takes_L22 G k22_56 g) k22_56) G v1 v2 (0 : Int32) μ)
set_option maxHeartbeats 4000000 in
set_option maxRecDepth 100000 in
theorem f_X12_takes_L22_ok  {G : Nat} {r : Int32} {μr : Mem}  {k22_56 : Mem → Option (Int32 × Mem)} (hk22_56 : ∀ (m : Mem), k22_56 m = some (r, μr) → Ev RX12 cX12_takes 4 (some .int) false 7 0 0 (eqP (some r) shR μr) 56 [some (.ref 0), none, none, none] [] shR m 0 0) : ∀ (g : Nat) (v1 v2 : Int32) (μ : Mem), f_X12_takes_L22 G k22_56 g v1 v2 μ = some (r, μr) → Ev RX12 cX12_takes 4 (some .int) false 7 0 0 (eqP (some r) shR μr) 22 [some (.ref 0), some (.int v1), some (.int v2), none] [] shR μ 0 0 := by
  intro g
  induction g with
  | zero =>
    intro v1 v2 μ h
    cases h
  | succ g ih =>
    intro v1 v2 μ h
    rw [f_X12_takes_L22] at h
    refine ev_iload_n dX12_takes_22 rfl ?_
    refine ev_aload_n dX12_takes_23 rfl ?_
    refine ev_getI fr_X12_317 shR_0 rfl dX12_takes_24 ?_
    refine ev_icmp_ge (tgt := 56) dX12_takes_27 (by decide) (fun hc4 => ?_) (fun hc4 => ?_)
    · replace h := ite_t hc4 h
      exact ev_lt (hk22_56 _ h) ⟨rfl, trivial⟩
    · replace h := ite_f hc4 h
      refine ev_iconst (v := (0 : Int32)) dX12_takes_30 (by decide) ?_
      refine ev_istore_n (loc' := [_, _, _, _]) dX12_takes_31 rfl (by decide) (by rfl) ?_
      exact ev_lt (f_X12_takes_L32_ok ih hk22_56 (fun _ _ _ hh => f_X12_takes_j50_ok ih hk22_56 hh) _ _ _ _ _ h) ⟨rfl, ⟨rfl, ⟨rfl, ⟨rfl, trivial⟩⟩⟩⟩
def f_X12_takes_j135 (G : Nat) (r58 : Int32 → Mem → Option (Int32 × Mem)) (k58_141 : Mem → Option (Int32 × Mem)) (v2 : Int32) (μ : Mem) : Option (Int32 × Mem) :=
  r58 (v2 + (1 : Int32)) μ
set_option maxHeartbeats 4000000 in
set_option maxRecDepth 100000 in
theorem f_X12_takes_j135_ok  {G : Nat} {r : Int32} {μr : Mem}  {r58 : Int32 → Mem → Option (Int32 × Mem)} {k58_141 : Mem → Option (Int32 × Mem)} (hr58 : ∀ (v2 : Int32) (m : Mem), r58 v2 m = some (r, μr) → Ev RX12 cX12_takes 4 (some .int) false 7 0 0 (eqP (some r) shR μr) 58 [some (.ref 0), none, some (.int v2), none] [] shR m 0 0) (hk58_141 : ∀ (m : Mem), k58_141 m = some (r, μr) → Ev RX12 cX12_takes 4 (some .int) false 7 0 0 (eqP (some r) shR μr) 141 [some (.ref 0), none, none, none] [] shR m 0 0) {v2 : Int32} {μ : Mem} (h : f_X12_takes_j135 G r58 k58_141 v2 μ = some (r, μr)) : Ev RX12 cX12_takes 4 (some .int) false 7 0 0 (eqP (some r) shR μr) 135 [some (.ref 0), none, some (.int v2), none] [] shR μ 0 0 := by
  unfold f_X12_takes_j135 at h
  refine ev_iinc (cq := (1 : Int32)) (loc' := [_, _, _, _]) dX12_takes_135 rfl (by decide) rfl (by decide) (by rfl) ?_
  refine ev_goto (tgt := 58) dX12_takes_138 (by decide) ?_
  exact ev_lt (hr58 _ _ h) ⟨rfl, ⟨rfl, trivial⟩⟩
def f_X12_takes_L58 (G : Nat) (k58_141 : Mem → Option (Int32 × Mem)) : Nat → Int32 → Mem → Option (Int32 × Mem)
  | 0, _, _ => none
  | g + 1, v2, μ =>
  (if (3 : Int32) ≤ v2 then
  k58_141  μ
  else
  chk v2 3 ((if (f_X12_has (μ 1 4) (μ 25 (ix v2))) = (0 : Int32) then
  f_X12_takes_j135 G (f_X12_takes_L58 G k58_141 g) k58_141 v2 μ
  else
  chk v2 3 (chk v2 3 (let m12 := wr μ 26 (ix v2) ((μ 26 (ix v2)) + (10 : Int32))
  chk v2 3 ((let m15 := wr m12 1 4 ((m12 1 4) &&& ((sl (1 : Int32) (m12 25 (ix v2))) ^^^ (-1 : Int32)))
  chk v2 3 (bndV (f_X12_notes G (2 : Int32) (m15 25 (ix v2)) v2 m15) (fun m18 =>
  f_X12_takes_j135 G (f_X12_takes_L58 G k58_141 g) k58_141 v2 m18)))))))))
set_option maxHeartbeats 4000000 in
set_option maxRecDepth 100000 in
theorem f_X12_takes_L58_ok  {G : Nat} {r : Int32} {μr : Mem}  {k58_141 : Mem → Option (Int32 × Mem)} (hk58_141 : ∀ (m : Mem), k58_141 m = some (r, μr) → Ev RX12 cX12_takes 4 (some .int) false 7 0 0 (eqP (some r) shR μr) 141 [some (.ref 0), none, none, none] [] shR m 0 0) : ∀ (g : Nat) (v2 : Int32) (μ : Mem), f_X12_takes_L58 G k58_141 g v2 μ = some (r, μr) → Ev RX12 cX12_takes 4 (some .int) false 7 0 0 (eqP (some r) shR μr) 58 [some (.ref 0), none, some (.int v2), none] [] shR μ 0 0 := by
  intro g
  induction g with
  | zero =>
    intro v2 μ h
    cases h
  | succ g ih =>
    intro v2 μ h
    rw [f_X12_takes_L58] at h
    refine ev_iload_n dX12_takes_58 rfl ?_
    refine ev_iconst (v := (3 : Int32)) dX12_takes_59 (by decide) ?_
    refine ev_icmp_ge (tgt := 141) dX12_takes_60 (by decide) (fun hc8 => ?_) (fun hc8 => ?_)
    · replace h := ite_t hc8 h
      exact ev_lt (hk58_141 _ h) ⟨rfl, trivial⟩
    · replace h := ite_f hc8 h
      refine ev_aload_n dX12_takes_63 rfl ?_
      refine ev_aload_n dX12_takes_64 rfl ?_
      refine ev_getR fr_X12_7 shR_0 rfl dX12_takes_65 ?_
      refine ev_iconst (v := (4 : Int32)) dX12_takes_68 (by decide) ?_
      refine ev_ialdL (j := 4) shR_1 (by decide) (vpl _ _ (by decide)) dX12_takes_69 ?_
      refine ev_aload_n dX12_takes_70 rfl ?_
      refine ev_getR fr_X12_86 shR_0 rfl dX12_takes_71 ?_
      refine ev_iload_n dX12_takes_74 rfl ?_
      obtain ⟨hi9, h⟩ := chk_t h
      refine ev_iald shR_25 hi9 dX12_takes_75 ?_
      refine ev_cVi mv_X12_371 dX12_takes_76 c_X12_has rfl shR_0 rfl rfl (Nat.le_of_ble_eq_true rfl) (by rfl) (Nat.le_of_ble_eq_true rfl) (Nat.le_of_ble_eq_true rfl) (Nat.le_of_ble_eq_true rfl) ?_
      refine ev_if_ne (tgt := 85) dX12_takes_79 (by decide) (fun hc10 => ?_) (fun hc10 => ?_)
      · replace h := ite_f hc10 h
        refine ev_aload_n dX12_takes_85 rfl ?_
        refine ev_getR fr_X12_89 shR_0 rfl dX12_takes_86 ?_
        refine ev_iload_n dX12_takes_89 rfl ?_
        refine ev_aload_n dX12_takes_90 rfl ?_
        refine ev_getR fr_X12_89 shR_0 rfl dX12_takes_91 ?_
        refine ev_iload_n dX12_takes_94 rfl ?_
        obtain ⟨hi11, h⟩ := chk_t h
        refine ev_iald shR_26 hi11 dX12_takes_95 ?_
        refine ev_bipush (v := (10 : Int32)) dX12_takes_96 (by decide) ?_
        refine ev_iadd dX12_takes_98 ?_
        obtain ⟨hi13, h⟩ := chk_t h
        refine ev_iast shR_26 hi13 dX12_takes_99 ?_
        refine ev_aload_n dX12_takes_100 rfl ?_
        refine ev_getR fr_X12_7 shR_0 rfl dX12_takes_101 ?_
        refine ev_iconst (v := (4 : Int32)) dX12_takes_104 (by decide) ?_
        refine ev_aload_n dX12_takes_105 rfl ?_
        refine ev_getR fr_X12_7 shR_0 rfl dX12_takes_106 ?_
        refine ev_iconst (v := (4 : Int32)) dX12_takes_109 (by decide) ?_
        refine ev_ialdL (j := 4) shR_1 (by decide) (vpl _ _ (by decide)) dX12_takes_110 ?_
        refine ev_iconst (v := (1 : Int32)) dX12_takes_111 (by decide) ?_
        refine ev_aload_n dX12_takes_112 rfl ?_
        refine ev_getR fr_X12_86 shR_0 rfl dX12_takes_113 ?_
        refine ev_iload_n dX12_takes_116 rfl ?_
        obtain ⟨hi14, h⟩ := chk_t h
        refine ev_iald shR_25 hi14 dX12_takes_117 ?_
        refine ev_ishl dX12_takes_118 ?_
        refine ev_iconst (v := (-1 : Int32)) dX12_takes_119 (by decide) ?_
        refine ev_ixor dX12_takes_120 ?_
        refine ev_iand dX12_takes_121 ?_
        refine ev_iastL (j := 4) shR_1 (by decide) (vpl _ _ (by decide)) dX12_takes_122 ?_
        refine ev_aload_n dX12_takes_123 rfl ?_
        refine ev_iconst (v := (2 : Int32)) dX12_takes_124 (by decide) ?_
        refine ev_aload_n dX12_takes_125 rfl ?_
        refine ev_getR fr_X12_86 shR_0 rfl dX12_takes_126 ?_
        refine ev_iload_n dX12_takes_129 rfl ?_
        obtain ⟨hi16, h⟩ := chk_t h
        refine ev_iald shR_25 hi16 dX12_takes_130 ?_
        refine ev_iload_n dX12_takes_131 rfl ?_
        obtain ⟨m18, hq17, h⟩ := bndV_t h
        refine ev_cVv mv_X12_360 dX12_takes_132 (c_X12_notes hq17) rfl shR_0 rfl rfl (Nat.le_of_ble_eq_true rfl) (by rfl) (Nat.le_of_ble_eq_true rfl) (Nat.le_of_ble_eq_true rfl) (Nat.le_of_ble_eq_true rfl) ?_
        exact ev_lt (f_X12_takes_j135_ok ih hk58_141 h) ⟨rfl, ⟨rfl, trivial⟩⟩
      · replace h := ite_t hc10 h
        refine ev_goto (tgt := 135) dX12_takes_82 (by decide) ?_
        exact ev_lt (f_X12_takes_j135_ok ih hk58_141 h) ⟨rfl, ⟨rfl, trivial⟩⟩
def f_X12_takes_j167 (G : Nat) (r145 : Int32 → Int32 → Mem → Option (Int32 × Mem)) (v2 v3 : Int32) (μ : Mem) : Option (Int32 × Mem) :=
  r145 v2 (v3 + (1 : Int32)) μ
set_option maxHeartbeats 4000000 in
set_option maxRecDepth 100000 in
theorem f_X12_takes_j167_ok  {G : Nat} {r : Int32} {μr : Mem}  {r145 : Int32 → Int32 → Mem → Option (Int32 × Mem)} (hr145 : ∀ (v2 : Int32) (v3 : Int32) (m : Mem), r145 v2 v3 m = some (r, μr) → Ev RX12 cX12_takes 4 (some .int) false 7 0 0 (eqP (some r) shR μr) 145 [some (.ref 0), none, some (.int v2), some (.int v3)] [] shR m 0 0) {v2 v3 : Int32} {μ : Mem} (h : f_X12_takes_j167 G r145 v2 v3 μ = some (r, μr)) : Ev RX12 cX12_takes 4 (some .int) false 7 0 0 (eqP (some r) shR μr) 167 [some (.ref 0), none, some (.int v2), some (.int v3)] [] shR μ 0 0 := by
  unfold f_X12_takes_j167 at h
  refine ev_iinc (cq := (1 : Int32)) (loc' := [_, _, _, _]) dX12_takes_167 rfl (by decide) rfl (by decide) (by rfl) ?_
  refine ev_goto (tgt := 145) dX12_takes_170 (by decide) ?_
  exact ev_lt (hr145 _ _ _ h) ⟨rfl, ⟨rfl, ⟨rfl, trivial⟩⟩⟩
def f_X12_takes_L145 (G : Nat)  : Nat → Int32 → Int32 → Mem → Option (Int32 × Mem)
  | 0, _, _, _ => none
  | g + 1, v2, v3, μ =>
  (if (3 : Int32) ≤ v3 then
  some (v2, μ)
  else
  chk v3 3 (chk v2 3 ((if (μ 26 (ix v3)) ≤ (μ 26 (ix v2)) then
  f_X12_takes_j167 G (f_X12_takes_L145 G g) v2 v3 μ
  else
  f_X12_takes_j167 G (f_X12_takes_L145 G g) v3 v3 μ))))
set_option maxHeartbeats 4000000 in
set_option maxRecDepth 100000 in
theorem f_X12_takes_L145_ok  {G : Nat} {r : Int32} {μr : Mem}    : ∀ (g : Nat) (v2 v3 : Int32) (μ : Mem), f_X12_takes_L145 G g v2 v3 μ = some (r, μr) → Ev RX12 cX12_takes 4 (some .int) false 7 0 0 (eqP (some r) shR μr) 145 [some (.ref 0), none, some (.int v2), some (.int v3)] [] shR μ 0 0 := by
  intro g
  induction g with
  | zero =>
    intro v2 v3 μ h
    cases h
  | succ g ih =>
    intro v2 v3 μ h
    rw [f_X12_takes_L145] at h
    refine ev_iload_n dX12_takes_145 rfl ?_
    refine ev_iconst (v := (3 : Int32)) dX12_takes_146 (by decide) ?_
    refine ev_icmp_ge (tgt := 173) dX12_takes_147 (by decide) (fun hc19 => ?_) (fun hc19 => ?_)
    · replace h := ite_t hc19 h
      refine ev_iload_n dX12_takes_173 rfl ?_
      exact ev_iret rfl rfl (by decide) (by decide) dX12_takes_174 (eqP_E h)
    · replace h := ite_f hc19 h
      refine ev_aload_n dX12_takes_150 rfl ?_
      refine ev_getR fr_X12_89 shR_0 rfl dX12_takes_151 ?_
      refine ev_iload_n dX12_takes_154 rfl ?_
      obtain ⟨hi20, h⟩ := chk_t h
      refine ev_iald shR_26 hi20 dX12_takes_155 ?_
      refine ev_aload_n dX12_takes_156 rfl ?_
      refine ev_getR fr_X12_89 shR_0 rfl dX12_takes_157 ?_
      refine ev_iload_n dX12_takes_160 rfl ?_
      obtain ⟨hi21, h⟩ := chk_t h
      refine ev_iald shR_26 hi21 dX12_takes_161 ?_
      refine ev_icmp_le (tgt := 167) dX12_takes_162 (by decide) (fun hc22 => ?_) (fun hc22 => ?_)
      · replace h := ite_t hc22 h
        exact ev_lt (f_X12_takes_j167_ok ih h) ⟨rfl, ⟨rfl, ⟨rfl, trivial⟩⟩⟩
      · replace h := ite_f hc22 h
        refine ev_iload_n dX12_takes_165 rfl ?_
        refine ev_istore_n (loc' := [_, _, _, _]) dX12_takes_166 rfl (by decide) (by rfl) ?_
        exact ev_lt (f_X12_takes_j167_ok ih h) ⟨rfl, ⟨rfl, ⟨rfl, trivial⟩⟩⟩
def f_X12_takes_j141 (G : Nat)  (μ : Mem) : Option (Int32 × Mem) :=
  f_X12_takes_L145 G G (0 : Int32) (1 : Int32) μ
set_option maxHeartbeats 4000000 in
set_option maxRecDepth 100000 in
theorem f_X12_takes_j141_ok  {G : Nat} {r : Int32} {μr : Mem}    {μ : Mem} (h : f_X12_takes_j141 G μ = some (r, μr)) : Ev RX12 cX12_takes 4 (some .int) false 7 0 0 (eqP (some r) shR μr) 141 [some (.ref 0), none, none, none] [] shR μ 0 0 := by
  unfold f_X12_takes_j141 at h
  refine ev_iconst (v := (0 : Int32)) dX12_takes_141 (by decide) ?_
  refine ev_istore_n (loc' := [_, _, _, _]) dX12_takes_142 rfl (by decide) (by rfl) ?_
  refine ev_iconst (v := (1 : Int32)) dX12_takes_143 (by decide) ?_
  refine ev_istore_n (loc' := [_, _, _, _]) dX12_takes_144 rfl (by decide) (by rfl) ?_
  exact ev_lt (f_X12_takes_L145_ok _ _ _ _ h) ⟨rfl, ⟨rfl, ⟨rfl, trivial⟩⟩⟩
def f_X12_takes_j56 (G : Nat)  (μ : Mem) : Option (Int32 × Mem) :=
  f_X12_takes_L58 G (f_X12_takes_j141 G) G (0 : Int32) μ
set_option maxHeartbeats 4000000 in
set_option maxRecDepth 100000 in
theorem f_X12_takes_j56_ok  {G : Nat} {r : Int32} {μr : Mem}    {μ : Mem} (h : f_X12_takes_j56 G μ = some (r, μr)) : Ev RX12 cX12_takes 4 (some .int) false 7 0 0 (eqP (some r) shR μr) 56 [some (.ref 0), none, none, none] [] shR μ 0 0 := by
  unfold f_X12_takes_j56 at h
  refine ev_iconst (v := (0 : Int32)) dX12_takes_56 (by decide) ?_
  refine ev_istore_n (loc' := [_, _, _, _]) dX12_takes_57 rfl (by decide) (by rfl) ?_
  exact ev_lt (f_X12_takes_L58_ok (fun _ hh => f_X12_takes_j141_ok hh) _ _ _ h) ⟨rfl, ⟨rfl, trivial⟩⟩
def f_X12_takes_j20 (G : Nat)  (v1 : Int32) (μ : Mem) : Option (Int32 × Mem) :=
  f_X12_takes_L22 G (f_X12_takes_j56 G) G v1 (0 : Int32) μ
set_option maxHeartbeats 4000000 in
set_option maxRecDepth 100000 in
theorem f_X12_takes_j20_ok  {G : Nat} {r : Int32} {μr : Mem}    {v1 : Int32} {μ : Mem} (h : f_X12_takes_j20 G v1 μ = some (r, μr)) : Ev RX12 cX12_takes 4 (some .int) false 7 0 0 (eqP (some r) shR μr) 20 [some (.ref 0), some (.int v1), none, none] [] shR μ 0 0 := by
  unfold f_X12_takes_j20 at h
  refine ev_iconst (v := (0 : Int32)) dX12_takes_20 (by decide) ?_
  refine ev_istore_n (loc' := [_, _, _, _]) dX12_takes_21 rfl (by decide) (by rfl) ?_
  exact ev_lt (f_X12_takes_L22_ok (fun _ hh => f_X12_takes_j56_ok hh) _ _ _ _ h) ⟨rfl, ⟨rfl, ⟨rfl, trivial⟩⟩⟩
def f_X12_takes (G : Nat) (p1 : Int32) (μ : Mem) : Option (Int32 × Mem) :=
  f_X12_takes_L2 G (f_X12_takes_j20 G) G p1 (0 : Int32) μ
set_option maxHeartbeats 4000000 in
set_option maxRecDepth 100000 in
theorem c_X12_takes  {G : Nat} {μ : Mem} {p1 : Int32} {r : Int32} {μr : Mem}  (h : f_X12_takes G p1 μ = some (r, μr)) : Cn yX12_takes cX12_takes 4 (some .int) 7 0 0 [.ref 0, .int p1] shR μ (eqP (some r) shR μr) := by
  refine cn_of (own := RX12) (ini := false) (loc := [some (.ref 0), some (.int p1), none, none]) rfl (by decide) (fun q => by cases q) (Nat.le_of_ble_eq_true rfl) (by rfl) rfl ?_
  unfold f_X12_takes at h
  refine ev_iconst (v := (0 : Int32)) dX12_takes_0 (by decide) ?_
  refine ev_istore_n (loc' := [_, _, _, _]) dX12_takes_1 rfl (by decide) (by rfl) ?_
  exact ev_lt (f_X12_takes_L2_ok (fun _ _ hh => f_X12_takes_j20_ok hh) _ _ _ _ h) ⟨rfl, ⟨rfl, ⟨rfl, trivial⟩⟩⟩
def f_X12_weds (G : Nat) (p1 p2 p3 p4 : Int32) (μ : Mem) : Option (Int32 × Mem) :=
  bndV (f_X12_isSent G p2 p3 p4 μ) (fun m2 =>
  bndE (f_X12_takes G p1 m2) (fun w5 m4 =>
  chk w5 3 (chk ((17 : Int32) + p1) 49 (let m7 := wr m4 1 (ix ((17 : Int32) + p1)) ((m4 25 (ix w5)) + (1 : Int32))
  chk ((5 : Int32) + (m4 25 (ix w5))) 49 (let m9 := wr m7 1 (ix ((5 : Int32) + (m4 25 (ix w5)))) (p1 + (1 : Int32))
  chk ((41 : Int32) + p1) 49 (chk ((41 : Int32) + p1) 49 (let m12 := wr m9 1 (ix ((41 : Int32) + p1)) ((m9 1 (ix ((41 : Int32) + p1))) + (1 : Int32))
  chk w5 3 (bndV (f_X12_notes G (3 : Int32) (m4 25 (ix w5)) (m12 26 (ix w5)) m12) (fun m16 =>
  chk p1 8 ((if (m16 8 (ix p1)) = (m4 25 (ix w5)) then
  (let m20 := wr m16 1 3 ((m16 1 3) + (-3 : Int32))
  some ((m4 25 (ix w5)), m20))
  else
  (let m19 := wr m16 1 3 ((m16 1 3) + (1 : Int32))
  some ((m4 25 (ix w5)), m19)))))))))))))
set_option maxHeartbeats 4000000 in
set_option maxRecDepth 100000 in
theorem c_X12_weds  {G : Nat} {μ : Mem} {p1 p2 p3 p4 : Int32} {r : Int32} {μr : Mem}  (h : f_X12_weds G p1 p2 p3 p4 μ = some (r, μr)) : Cn yX12_weds cX12_weds 7 (some .int) 8 0 0 [.ref 0, .int p1, .int p2, .int p3, .int p4] shR μ (eqP (some r) shR μr) := by
  refine cn_of (own := RX12) (ini := false) (loc := [some (.ref 0), some (.int p1), some (.int p2), some (.int p3), some (.int p4), none, none]) rfl (by decide) (fun q => by cases q) (Nat.le_of_ble_eq_true rfl) (by rfl) rfl ?_
  unfold f_X12_weds at h
  refine ev_aload_n dX12_weds_0 rfl ?_
  refine ev_iload_n dX12_weds_1 rfl ?_
  refine ev_iload_n dX12_weds_2 rfl ?_
  refine ev_iload dX12_weds_3 rfl ?_
  obtain ⟨m2, hq1, h⟩ := bndV_t h
  refine ev_cVv mv_X12_375 dX12_weds_5 (c_X12_isSent hq1) rfl shR_0 rfl rfl (Nat.le_of_ble_eq_true rfl) (by rfl) (Nat.le_of_ble_eq_true rfl) (Nat.le_of_ble_eq_true rfl) (Nat.le_of_ble_eq_true rfl) ?_
  refine ev_aload_n dX12_weds_8 rfl ?_
  refine ev_iload_n dX12_weds_9 rfl ?_
  obtain ⟨w5, m4, hq3, h⟩ := bndE_t h
  refine ev_cVi mv_X12_378 dX12_weds_10 (c_X12_takes hq3) rfl shR_0 rfl rfl (Nat.le_of_ble_eq_true rfl) (by rfl) (Nat.le_of_ble_eq_true rfl) (Nat.le_of_ble_eq_true rfl) (Nat.le_of_ble_eq_true rfl) ?_
  refine ev_istore (loc' := [_, _, _, _, _, _, _]) dX12_weds_13 rfl (by decide) (by rfl) ?_
  refine ev_aload_n dX12_weds_15 rfl ?_
  refine ev_getR fr_X12_86 shR_0 rfl dX12_weds_16 ?_
  refine ev_iload dX12_weds_19 rfl ?_
  obtain ⟨hi6, h⟩ := chk_t h
  refine ev_iald shR_25 hi6 dX12_weds_21 ?_
  refine ev_istore (loc' := [_, _, _, _, _, _, _]) dX12_weds_22 rfl (by decide) (by rfl) ?_
  refine ev_aload_n dX12_weds_24 rfl ?_
  refine ev_getR fr_X12_7 shR_0 rfl dX12_weds_25 ?_
  refine ev_bipush (v := (17 : Int32)) dX12_weds_28 (by decide) ?_
  refine ev_iload_n dX12_weds_30 rfl ?_
  refine ev_iadd dX12_weds_31 ?_
  refine ev_iload dX12_weds_32 rfl ?_
  refine ev_iconst (v := (1 : Int32)) dX12_weds_34 (by decide) ?_
  refine ev_iadd dX12_weds_35 ?_
  obtain ⟨hi8, h⟩ := chk_t h
  refine ev_iast shR_1 hi8 dX12_weds_36 ?_
  refine ev_aload_n dX12_weds_37 rfl ?_
  refine ev_getR fr_X12_7 shR_0 rfl dX12_weds_38 ?_
  refine ev_iconst (v := (5 : Int32)) dX12_weds_41 (by decide) ?_
  refine ev_iload dX12_weds_42 rfl ?_
  refine ev_iadd dX12_weds_44 ?_
  refine ev_iload_n dX12_weds_45 rfl ?_
  refine ev_iconst (v := (1 : Int32)) dX12_weds_46 (by decide) ?_
  refine ev_iadd dX12_weds_47 ?_
  obtain ⟨hi10, h⟩ := chk_t h
  refine ev_iast shR_1 hi10 dX12_weds_48 ?_
  refine ev_aload_n dX12_weds_49 rfl ?_
  refine ev_getR fr_X12_7 shR_0 rfl dX12_weds_50 ?_
  refine ev_bipush (v := (41 : Int32)) dX12_weds_53 (by decide) ?_
  refine ev_iload_n dX12_weds_55 rfl ?_
  refine ev_iadd dX12_weds_56 ?_
  refine ev_aload_n dX12_weds_57 rfl ?_
  refine ev_getR fr_X12_7 shR_0 rfl dX12_weds_58 ?_
  refine ev_bipush (v := (41 : Int32)) dX12_weds_61 (by decide) ?_
  refine ev_iload_n dX12_weds_63 rfl ?_
  refine ev_iadd dX12_weds_64 ?_
  obtain ⟨hi11, h⟩ := chk_t h
  refine ev_iald shR_1 hi11 dX12_weds_65 ?_
  refine ev_iconst (v := (1 : Int32)) dX12_weds_66 (by decide) ?_
  refine ev_iadd dX12_weds_67 ?_
  obtain ⟨hi13, h⟩ := chk_t h
  refine ev_iast shR_1 hi13 dX12_weds_68 ?_
  refine ev_aload_n dX12_weds_69 rfl ?_
  refine ev_iconst (v := (3 : Int32)) dX12_weds_70 (by decide) ?_
  refine ev_iload dX12_weds_71 rfl ?_
  refine ev_aload_n dX12_weds_73 rfl ?_
  refine ev_getR fr_X12_89 shR_0 rfl dX12_weds_74 ?_
  refine ev_iload dX12_weds_77 rfl ?_
  obtain ⟨hi14, h⟩ := chk_t h
  refine ev_iald shR_26 hi14 dX12_weds_79 ?_
  obtain ⟨m16, hq15, h⟩ := bndV_t h
  refine ev_cVv mv_X12_360 dX12_weds_80 (c_X12_notes hq15) rfl shR_0 rfl rfl (Nat.le_of_ble_eq_true rfl) (by rfl) (Nat.le_of_ble_eq_true rfl) (Nat.le_of_ble_eq_true rfl) (Nat.le_of_ble_eq_true rfl) ?_
  refine ev_aload_n dX12_weds_83 rfl ?_
  refine ev_getR fr_X12_7 shR_0 rfl dX12_weds_84 ?_
  refine ev_iconst (v := (3 : Int32)) dX12_weds_87 (by decide) ?_
  refine ev_aload_n dX12_weds_88 rfl ?_
  refine ev_getR fr_X12_7 shR_0 rfl dX12_weds_89 ?_
  refine ev_iconst (v := (3 : Int32)) dX12_weds_92 (by decide) ?_
  refine ev_ialdL (j := 3) shR_1 (by decide) (vpl _ _ (by decide)) dX12_weds_93 ?_
  refine ev_aload_n dX12_weds_94 rfl ?_
  refine ev_getR fr_X12_31 shR_0 rfl dX12_weds_95 ?_
  refine ev_iload_n dX12_weds_98 rfl ?_
  obtain ⟨hi17, h⟩ := chk_t h
  refine ev_iald shR_8 hi17 dX12_weds_99 ?_
  refine ev_iload dX12_weds_100 rfl ?_
  refine ev_icmp_ne (tgt := 110) dX12_weds_102 (by decide) (fun hc18 => ?_) (fun hc18 => ?_)
  · replace h := ite_f hc18 h
    refine ev_iconst (v := (1 : Int32)) dX12_weds_110 (by decide) ?_
    refine ev_iadd dX12_weds_111 ?_
    refine ev_iastL (j := 3) shR_1 (by decide) (vpl _ _ (by decide)) dX12_weds_112 ?_
    refine ev_iload dX12_weds_113 rfl ?_
    exact ev_iret rfl rfl (by decide) (by decide) dX12_weds_115 (eqP_E h)
  · replace h := ite_t hc18 h
    refine ev_bipush (v := (-3 : Int32)) dX12_weds_105 (by decide) ?_
    refine ev_goto (tgt := 111) dX12_weds_107 (by decide) ?_
    refine ev_iadd dX12_weds_111 ?_
    refine ev_iastL (j := 3) shR_1 (by decide) (vpl _ _ (by decide)) dX12_weds_112 ?_
    refine ev_iload dX12_weds_113 rfl ?_
    exact ev_iret rfl rfl (by decide) (by decide) dX12_weds_115 (eqP_E h)
def f_X12_areUnlike (μ : Mem) (p1 p2 p3 : Int32) : Int32 :=
  (if (f_X12_isWoman μ p1) = (0 : Int32) then
  (0 : Int32)
  else
  (if (f_X12_isWoman μ p2) = (0 : Int32) then
  (0 : Int32)
  else
  (if (f_X12_isWoman μ p3) = (0 : Int32) then
  (0 : Int32)
  else
  (if p1 = p2 then
  (0 : Int32)
  else
  (if p2 = p3 then
  (0 : Int32)
  else
  (if p1 = p3 then
  (0 : Int32)
  else
  (1 : Int32)))))))
set_option maxHeartbeats 4000000 in
set_option maxRecDepth 100000 in
theorem c_X12_areUnlike  {μ : Mem}  {p1 p2 p3 : Int32}  : Cn yX12_areUnlike cX12_areUnlike 4 (some .boolean) 2 0 0 [.ref 0, .int p1, .int p2, .int p3] shR μ (eqP (some (f_X12_areUnlike μ p1 p2 p3)) shR μ) := by
  obtain ⟨r, h⟩ : ∃ r, f_X12_areUnlike μ p1 p2 p3 = r := ⟨_, rfl⟩
  rw [h]
  refine cn_of (own := RX12) (ini := false) (loc := [some (.ref 0), some (.int p1), some (.int p2), some (.int p3)]) rfl (by decide) (fun q => by cases q) (Nat.le_of_ble_eq_true rfl) (by rfl) rfl ?_
  unfold f_X12_areUnlike at h
  refine ev_aload_n dX12_areUnlike_0 rfl ?_
  refine ev_iload_n dX12_areUnlike_1 rfl ?_
  refine ev_cVi mv_X12_171 dX12_areUnlike_2 c_X12_isWoman rfl shR_0 rfl rfl (Nat.le_of_ble_eq_true rfl) (by rfl) (Nat.le_of_ble_eq_true rfl) (Nat.le_of_ble_eq_true rfl) (Nat.le_of_ble_eq_true rfl) ?_
  refine ev_if_eq (tgt := 43) dX12_areUnlike_5 (by decide) (fun hc1 => ?_) (fun hc1 => ?_)
  · replace h := ite_t hc1 h
    refine ev_iconst (v := (0 : Int32)) dX12_areUnlike_43 (by decide) ?_
    exact ev_iret rfl rfl (by decide) (by decide) dX12_areUnlike_44 (eqP_P h)
  · replace h := ite_f hc1 h
    refine ev_aload_n dX12_areUnlike_8 rfl ?_
    refine ev_iload_n dX12_areUnlike_9 rfl ?_
    refine ev_cVi mv_X12_171 dX12_areUnlike_10 c_X12_isWoman rfl shR_0 rfl rfl (Nat.le_of_ble_eq_true rfl) (by rfl) (Nat.le_of_ble_eq_true rfl) (Nat.le_of_ble_eq_true rfl) (Nat.le_of_ble_eq_true rfl) ?_
    refine ev_if_eq (tgt := 43) dX12_areUnlike_13 (by decide) (fun hc2 => ?_) (fun hc2 => ?_)
    · replace h := ite_t hc2 h
      refine ev_iconst (v := (0 : Int32)) dX12_areUnlike_43 (by decide) ?_
      exact ev_iret rfl rfl (by decide) (by decide) dX12_areUnlike_44 (eqP_P h)
    · replace h := ite_f hc2 h
      refine ev_aload_n dX12_areUnlike_16 rfl ?_
      refine ev_iload_n dX12_areUnlike_17 rfl ?_
      refine ev_cVi mv_X12_171 dX12_areUnlike_18 c_X12_isWoman rfl shR_0 rfl rfl (Nat.le_of_ble_eq_true rfl) (by rfl) (Nat.le_of_ble_eq_true rfl) (Nat.le_of_ble_eq_true rfl) (Nat.le_of_ble_eq_true rfl) ?_
      refine ev_if_eq (tgt := 43) dX12_areUnlike_21 (by decide) (fun hc3 => ?_) (fun hc3 => ?_)
      · replace h := ite_t hc3 h
        refine ev_iconst (v := (0 : Int32)) dX12_areUnlike_43 (by decide) ?_
        exact ev_iret rfl rfl (by decide) (by decide) dX12_areUnlike_44 (eqP_P h)
      · replace h := ite_f hc3 h
        refine ev_iload_n dX12_areUnlike_24 rfl ?_
        refine ev_iload_n dX12_areUnlike_25 rfl ?_
        refine ev_icmp_eq (tgt := 43) dX12_areUnlike_26 (by decide) (fun hc4 => ?_) (fun hc4 => ?_)
        · replace h := ite_t hc4 h
          refine ev_iconst (v := (0 : Int32)) dX12_areUnlike_43 (by decide) ?_
          exact ev_iret rfl rfl (by decide) (by decide) dX12_areUnlike_44 (eqP_P h)
        · replace h := ite_f hc4 h
          refine ev_iload_n dX12_areUnlike_29 rfl ?_
          refine ev_iload_n dX12_areUnlike_30 rfl ?_
          refine ev_icmp_eq (tgt := 43) dX12_areUnlike_31 (by decide) (fun hc5 => ?_) (fun hc5 => ?_)
          · replace h := ite_t hc5 h
            refine ev_iconst (v := (0 : Int32)) dX12_areUnlike_43 (by decide) ?_
            exact ev_iret rfl rfl (by decide) (by decide) dX12_areUnlike_44 (eqP_P h)
          · replace h := ite_f hc5 h
            refine ev_iload_n dX12_areUnlike_34 rfl ?_
            refine ev_iload_n dX12_areUnlike_35 rfl ?_
            refine ev_icmp_eq (tgt := 43) dX12_areUnlike_36 (by decide) (fun hc6 => ?_) (fun hc6 => ?_)
            · replace h := ite_t hc6 h
              refine ev_iconst (v := (0 : Int32)) dX12_areUnlike_43 (by decide) ?_
              exact ev_iret rfl rfl (by decide) (by decide) dX12_areUnlike_44 (eqP_P h)
            · replace h := ite_f hc6 h
              refine ev_iconst (v := (1 : Int32)) dX12_areUnlike_39 (by decide) ?_
              refine ev_goto (tgt := 44) dX12_areUnlike_40 (by decide) ?_
              exact ev_iret rfl rfl (by decide) (by decide) dX12_areUnlike_44 (eqP_P h)
def f_X12_canWed (G : Nat) (μ : Mem) (p1 p2 p3 p4 : Int32) : Option Int32 :=
  bndO (f_X12_wifeOf G μ p1) (fun w2 =>
  (if w2 = (-1 : Int32) then
  bndO (f_X12_isFree G μ p2) (fun w5 =>
  (if w5 = (0 : Int32) then
  some (0 : Int32)
  else
  bndO (f_X12_isFree G μ p3) (fun w8 =>
  (if w8 = (0 : Int32) then
  some (0 : Int32)
  else
  bndO (f_X12_isFree G μ p4) (fun w11 =>
  (if w11 = (0 : Int32) then
  some (0 : Int32)
  else
  some (1 : Int32)))))))
  else
  some (0 : Int32)))
set_option maxHeartbeats 4000000 in
set_option maxRecDepth 100000 in
theorem c_X12_canWed  {G : Nat} {μ : Mem}  {p1 p2 p3 p4 : Int32} {r : Int32}  (h : f_X12_canWed G μ p1 p2 p3 p4 = some r) : Cn yX12_canWed cX12_canWed 5 (some .boolean) 2 0 0 [.ref 0, .int p1, .int p2, .int p3, .int p4] shR μ (eqP (some r) shR μ) := by
  refine cn_of (own := RX12) (ini := false) (loc := [some (.ref 0), some (.int p1), some (.int p2), some (.int p3), some (.int p4)]) rfl (by decide) (fun q => by cases q) (Nat.le_of_ble_eq_true rfl) (by rfl) rfl ?_
  unfold f_X12_canWed at h
  refine ev_aload_n dX12_canWed_0 rfl ?_
  refine ev_iload_n dX12_canWed_1 rfl ?_
  obtain ⟨w2, hq1, h⟩ := bndO_t h
  refine ev_cVi mv_X12_381 dX12_canWed_2 (c_X12_wifeOf hq1) rfl shR_0 rfl rfl (Nat.le_of_ble_eq_true rfl) (by rfl) (Nat.le_of_ble_eq_true rfl) (Nat.le_of_ble_eq_true rfl) (Nat.le_of_ble_eq_true rfl) ?_
  refine ev_iconst (v := (-1 : Int32)) dX12_canWed_5 (by decide) ?_
  refine ev_icmp_ne (tgt := 38) dX12_canWed_6 (by decide) (fun hc3 => ?_) (fun hc3 => ?_)
  · replace h := ite_f hc3 h
    refine ev_iconst (v := (0 : Int32)) dX12_canWed_38 (by decide) ?_
    exact ev_iret rfl rfl (by decide) (by decide) dX12_canWed_39 (eqP_O h)
  · replace h := ite_t hc3 h
    refine ev_aload_n dX12_canWed_9 rfl ?_
    refine ev_iload_n dX12_canWed_10 rfl ?_
    obtain ⟨w5, hq4, h⟩ := bndO_t h
    refine ev_cVi mv_X12_384 dX12_canWed_11 (c_X12_isFree hq4) rfl shR_0 rfl rfl (Nat.le_of_ble_eq_true rfl) (by rfl) (Nat.le_of_ble_eq_true rfl) (Nat.le_of_ble_eq_true rfl) (Nat.le_of_ble_eq_true rfl) ?_
    refine ev_if_eq (tgt := 38) dX12_canWed_14 (by decide) (fun hc6 => ?_) (fun hc6 => ?_)
    · replace h := ite_t hc6 h
      refine ev_iconst (v := (0 : Int32)) dX12_canWed_38 (by decide) ?_
      exact ev_iret rfl rfl (by decide) (by decide) dX12_canWed_39 (eqP_O h)
    · replace h := ite_f hc6 h
      refine ev_aload_n dX12_canWed_17 rfl ?_
      refine ev_iload_n dX12_canWed_18 rfl ?_
      obtain ⟨w8, hq7, h⟩ := bndO_t h
      refine ev_cVi mv_X12_384 dX12_canWed_19 (c_X12_isFree hq7) rfl shR_0 rfl rfl (Nat.le_of_ble_eq_true rfl) (by rfl) (Nat.le_of_ble_eq_true rfl) (Nat.le_of_ble_eq_true rfl) (Nat.le_of_ble_eq_true rfl) ?_
      refine ev_if_eq (tgt := 38) dX12_canWed_22 (by decide) (fun hc9 => ?_) (fun hc9 => ?_)
      · replace h := ite_t hc9 h
        refine ev_iconst (v := (0 : Int32)) dX12_canWed_38 (by decide) ?_
        exact ev_iret rfl rfl (by decide) (by decide) dX12_canWed_39 (eqP_O h)
      · replace h := ite_f hc9 h
        refine ev_aload_n dX12_canWed_25 rfl ?_
        refine ev_iload dX12_canWed_26 rfl ?_
        obtain ⟨w11, hq10, h⟩ := bndO_t h
        refine ev_cVi mv_X12_384 dX12_canWed_28 (c_X12_isFree hq10) rfl shR_0 rfl rfl (Nat.le_of_ble_eq_true rfl) (by rfl) (Nat.le_of_ble_eq_true rfl) (Nat.le_of_ble_eq_true rfl) (Nat.le_of_ble_eq_true rfl) ?_
        refine ev_if_eq (tgt := 38) dX12_canWed_31 (by decide) (fun hc12 => ?_) (fun hc12 => ?_)
        · replace h := ite_t hc12 h
          refine ev_iconst (v := (0 : Int32)) dX12_canWed_38 (by decide) ?_
          exact ev_iret rfl rfl (by decide) (by decide) dX12_canWed_39 (eqP_O h)
        · replace h := ite_f hc12 h
          refine ev_iconst (v := (1 : Int32)) dX12_canWed_34 (by decide) ?_
          refine ev_goto (tgt := 39) dX12_canWed_35 (by decide) ?_
          exact ev_iret rfl rfl (by decide) (by decide) dX12_canWed_39 (eqP_O h)
def f_X12_wed (G : Nat) (p1 p2 p3 p4 : Int32) (μ : Mem) : Option (Int32 × Mem) :=
  (let m1 := wr μ 0 0 (0 : Int32)
  (if (f_X12_isGroom m1 p1) = (0 : Int32) then
  some ((-1 : Int32), m1)
  else
  (if (f_X12_areUnlike m1 p2 p3 p4) = (0 : Int32) then
  some ((-1 : Int32), m1)
  else
  bndO (f_X12_canWed G m1 p1 p2 p3 p4) (fun w5 =>
  (if w5 = (0 : Int32) then
  some ((-1 : Int32), m1)
  else
  bndV (f_X12_keepsAhead G m1) (fun m8 =>
  bndE (f_X12_weds G p1 p2 p3 p4 m8) (fun w11 m10 =>
  some (w11, m10))))))))
set_option maxHeartbeats 4000000 in
set_option maxRecDepth 100000 in
theorem c_X12_wed  {G : Nat} {μ : Mem} {p1 p2 p3 p4 : Int32} {r : Int32} {μr : Mem}  (h : f_X12_wed G p1 p2 p3 p4 μ = some (r, μr)) : Cn yX12_wed cX12_wed 5 (some .int) 9 0 0 [.ref 0, .int p1, .int p2, .int p3, .int p4] shR μ (eqP (some r) shR μr) := by
  refine cn_of (own := RX12) (ini := false) (loc := [some (.ref 0), some (.int p1), some (.int p2), some (.int p3), some (.int p4)]) rfl (by decide) (fun q => by cases q) (Nat.le_of_ble_eq_true rfl) (by rfl) rfl ?_
  unfold f_X12_wed at h
  refine ev_aload_n dX12_wed_0 rfl ?_
  refine ev_iconst (v := (0 : Int32)) dX12_wed_1 (by decide) ?_
  refine ev_putI fr_X12_149 shR_0 rfl rfl rfl dX12_wed_2 ?_
  refine ev_aload_n dX12_wed_5 rfl ?_
  refine ev_iload_n dX12_wed_6 rfl ?_
  refine ev_cVi mv_X12_175 dX12_wed_7 c_X12_isGroom rfl shR_0 rfl rfl (Nat.le_of_ble_eq_true rfl) (by rfl) (Nat.le_of_ble_eq_true rfl) (Nat.le_of_ble_eq_true rfl) (Nat.le_of_ble_eq_true rfl) ?_
  refine ev_if_eq (tgt := 36) dX12_wed_10 (by decide) (fun hc2 => ?_) (fun hc2 => ?_)
  · replace h := ite_t hc2 h
    refine ev_iconst (v := (-1 : Int32)) dX12_wed_36 (by decide) ?_
    exact ev_iret rfl rfl (by decide) (by decide) dX12_wed_37 (eqP_E h)
  · replace h := ite_f hc2 h
    refine ev_aload_n dX12_wed_13 rfl ?_
    refine ev_iload_n dX12_wed_14 rfl ?_
    refine ev_iload_n dX12_wed_15 rfl ?_
    refine ev_iload dX12_wed_16 rfl ?_
    refine ev_cVi mv_X12_387 dX12_wed_18 c_X12_areUnlike rfl shR_0 rfl rfl (Nat.le_of_ble_eq_true rfl) (by rfl) (Nat.le_of_ble_eq_true rfl) (Nat.le_of_ble_eq_true rfl) (Nat.le_of_ble_eq_true rfl) ?_
    refine ev_if_eq (tgt := 36) dX12_wed_21 (by decide) (fun hc3 => ?_) (fun hc3 => ?_)
    · replace h := ite_t hc3 h
      refine ev_iconst (v := (-1 : Int32)) dX12_wed_36 (by decide) ?_
      exact ev_iret rfl rfl (by decide) (by decide) dX12_wed_37 (eqP_E h)
    · replace h := ite_f hc3 h
      refine ev_aload_n dX12_wed_24 rfl ?_
      refine ev_iload_n dX12_wed_25 rfl ?_
      refine ev_iload_n dX12_wed_26 rfl ?_
      refine ev_iload_n dX12_wed_27 rfl ?_
      refine ev_iload dX12_wed_28 rfl ?_
      obtain ⟨w5, hq4, h⟩ := bndO_t h
      refine ev_cVi mv_X12_390 dX12_wed_30 (c_X12_canWed hq4) rfl shR_0 rfl rfl (Nat.le_of_ble_eq_true rfl) (by rfl) (Nat.le_of_ble_eq_true rfl) (Nat.le_of_ble_eq_true rfl) (Nat.le_of_ble_eq_true rfl) ?_
      refine ev_if_ne (tgt := 38) dX12_wed_33 (by decide) (fun hc6 => ?_) (fun hc6 => ?_)
      · replace h := ite_f hc6 h
        refine ev_aload_n dX12_wed_38 rfl ?_
        obtain ⟨m8, hq7, h⟩ := bndV_t h
        refine ev_cVv mv_X12_394 dX12_wed_39 (c_X12_keepsAhead hq7) rfl shR_0 rfl rfl (Nat.le_of_ble_eq_true rfl) (by rfl) (Nat.le_of_ble_eq_true rfl) (Nat.le_of_ble_eq_true rfl) (Nat.le_of_ble_eq_true rfl) ?_
        refine ev_aload_n dX12_wed_42 rfl ?_
        refine ev_iload_n dX12_wed_43 rfl ?_
        refine ev_iload_n dX12_wed_44 rfl ?_
        refine ev_iload_n dX12_wed_45 rfl ?_
        refine ev_iload dX12_wed_46 rfl ?_
        obtain ⟨w11, m10, hq9, h⟩ := bndE_t h
        refine ev_cVi mv_X12_397 dX12_wed_48 (c_X12_weds hq9) rfl shR_0 rfl rfl (Nat.le_of_ble_eq_true rfl) (by rfl) (Nat.le_of_ble_eq_true rfl) (Nat.le_of_ble_eq_true rfl) (Nat.le_of_ble_eq_true rfl) ?_
        exact ev_iret rfl rfl (by decide) (by decide) dX12_wed_51 (eqP_E h)
      · replace h := ite_t hc6 h
        refine ev_iconst (v := (-1 : Int32)) dX12_wed_36 (by decide) ?_
        exact ev_iret rfl rfl (by decide) (by decide) dX12_wed_37 (eqP_E h)
def f_X12_parts (G : Nat) (p1 : Int32) (μ : Mem) : Option Mem :=
  chk ((25 : Int32) + p1) 49 (bndV (f_X12_notes G (5 : Int32) p1 (μ 1 (ix ((25 : Int32) + p1))) μ) (fun m3 =>
  bndO (f_X12_wifeOf G m3 p1) (fun w5 =>
  chk ((5 : Int32) + w5) 49 (let m6 := wr m3 1 (ix ((5 : Int32) + w5)) (0 : Int32)
  chk ((17 : Int32) + p1) 49 (let m8 := wr m6 1 (ix ((17 : Int32) + p1)) (0 : Int32)
  chk ((25 : Int32) + p1) 49 (let m10 := wr m8 1 (ix ((25 : Int32) + p1)) (0 : Int32)
  some m10))))))
set_option maxHeartbeats 4000000 in
set_option maxRecDepth 100000 in
theorem c_X12_parts  {G : Nat} {μ : Mem} {p1 : Int32} {μr : Mem}  (h : f_X12_parts G p1 μ = some μr) : Cn yX12_parts cX12_parts 2 none 2 0 0 [.ref 0, .int p1] shR μ (eqP none shR μr) := by
  refine cn_of (own := RX12) (ini := false) (loc := [some (.ref 0), some (.int p1)]) rfl (by decide) (fun q => by cases q) (Nat.le_of_ble_eq_true rfl) (by rfl) rfl ?_
  unfold f_X12_parts at h
  refine ev_aload_n dX12_parts_0 rfl ?_
  refine ev_iconst (v := (5 : Int32)) dX12_parts_1 (by decide) ?_
  refine ev_iload_n dX12_parts_2 rfl ?_
  refine ev_aload_n dX12_parts_3 rfl ?_
  refine ev_getR fr_X12_7 shR_0 rfl dX12_parts_4 ?_
  refine ev_bipush (v := (25 : Int32)) dX12_parts_7 (by decide) ?_
  refine ev_iload_n dX12_parts_9 rfl ?_
  refine ev_iadd dX12_parts_10 ?_
  obtain ⟨hi1, h⟩ := chk_t h
  refine ev_iald shR_1 hi1 dX12_parts_11 ?_
  obtain ⟨m3, hq2, h⟩ := bndV_t h
  refine ev_cVv mv_X12_360 dX12_parts_12 (c_X12_notes hq2) rfl shR_0 rfl rfl (Nat.le_of_ble_eq_true rfl) (by rfl) (Nat.le_of_ble_eq_true rfl) (Nat.le_of_ble_eq_true rfl) (Nat.le_of_ble_eq_true rfl) ?_
  refine ev_aload_n dX12_parts_15 rfl ?_
  refine ev_getR fr_X12_7 shR_0 rfl dX12_parts_16 ?_
  refine ev_iconst (v := (5 : Int32)) dX12_parts_19 (by decide) ?_
  refine ev_aload_n dX12_parts_20 rfl ?_
  refine ev_iload_n dX12_parts_21 rfl ?_
  obtain ⟨w5, hq4, h⟩ := bndO_t h
  refine ev_cVi mv_X12_381 dX12_parts_22 (c_X12_wifeOf hq4) rfl shR_0 rfl rfl (Nat.le_of_ble_eq_true rfl) (by rfl) (Nat.le_of_ble_eq_true rfl) (Nat.le_of_ble_eq_true rfl) (Nat.le_of_ble_eq_true rfl) ?_
  refine ev_iadd dX12_parts_25 ?_
  refine ev_iconst (v := (0 : Int32)) dX12_parts_26 (by decide) ?_
  obtain ⟨hi7, h⟩ := chk_t h
  refine ev_iast shR_1 hi7 dX12_parts_27 ?_
  refine ev_aload_n dX12_parts_28 rfl ?_
  refine ev_getR fr_X12_7 shR_0 rfl dX12_parts_29 ?_
  refine ev_bipush (v := (17 : Int32)) dX12_parts_32 (by decide) ?_
  refine ev_iload_n dX12_parts_34 rfl ?_
  refine ev_iadd dX12_parts_35 ?_
  refine ev_iconst (v := (0 : Int32)) dX12_parts_36 (by decide) ?_
  obtain ⟨hi9, h⟩ := chk_t h
  refine ev_iast shR_1 hi9 dX12_parts_37 ?_
  refine ev_aload_n dX12_parts_38 rfl ?_
  refine ev_getR fr_X12_7 shR_0 rfl dX12_parts_39 ?_
  refine ev_bipush (v := (25 : Int32)) dX12_parts_42 (by decide) ?_
  refine ev_iload_n dX12_parts_44 rfl ?_
  refine ev_iadd dX12_parts_45 ?_
  refine ev_iconst (v := (0 : Int32)) dX12_parts_46 (by decide) ?_
  obtain ⟨hi11, h⟩ := chk_t h
  refine ev_iast shR_1 hi11 dX12_parts_47 ?_
  exact ev_vret rfl (by decide) (by decide) dX12_parts_48 (eqP_V h)
def f_X12_part (G : Nat) (p1 : Int32) (μ : Mem) : Option (Int32 × Mem) :=
  (let m1 := wr μ 0 0 (0 : Int32)
  (if (f_X12_isGroom m1 p1) = (0 : Int32) then
  some ((0 : Int32), m1)
  else
  bndO (f_X12_wifeOf G m1 p1) (fun w4 =>
  (if w4 = (-1 : Int32) then
  some ((0 : Int32), m1)
  else
  bndV (f_X12_keepsAhead G m1) (fun m7 =>
  bndV (f_X12_parts G p1 m7) (fun m9 =>
  some ((1 : Int32), m9)))))))
set_option maxHeartbeats 4000000 in
set_option maxRecDepth 100000 in
theorem c_X12_part  {G : Nat} {μ : Mem} {p1 : Int32} {r : Int32} {μr : Mem}  (h : f_X12_part G p1 μ = some (r, μr)) : Cn yX12_part cX12_part 2 (some .boolean) 3 0 0 [.ref 0, .int p1] shR μ (eqP (some r) shR μr) := by
  refine cn_of (own := RX12) (ini := false) (loc := [some (.ref 0), some (.int p1)]) rfl (by decide) (fun q => by cases q) (Nat.le_of_ble_eq_true rfl) (by rfl) rfl ?_
  unfold f_X12_part at h
  refine ev_aload_n dX12_part_0 rfl ?_
  refine ev_iconst (v := (0 : Int32)) dX12_part_1 (by decide) ?_
  refine ev_putI fr_X12_149 shR_0 rfl rfl rfl dX12_part_2 ?_
  refine ev_aload_n dX12_part_5 rfl ?_
  refine ev_iload_n dX12_part_6 rfl ?_
  refine ev_cVi mv_X12_175 dX12_part_7 c_X12_isGroom rfl shR_0 rfl rfl (Nat.le_of_ble_eq_true rfl) (by rfl) (Nat.le_of_ble_eq_true rfl) (Nat.le_of_ble_eq_true rfl) (Nat.le_of_ble_eq_true rfl) ?_
  refine ev_if_eq (tgt := 22) dX12_part_10 (by decide) (fun hc2 => ?_) (fun hc2 => ?_)
  · replace h := ite_t hc2 h
    refine ev_iconst (v := (0 : Int32)) dX12_part_22 (by decide) ?_
    exact ev_iret rfl rfl (by decide) (by decide) dX12_part_23 (eqP_E h)
  · replace h := ite_f hc2 h
    refine ev_aload_n dX12_part_13 rfl ?_
    refine ev_iload_n dX12_part_14 rfl ?_
    obtain ⟨w4, hq3, h⟩ := bndO_t h
    refine ev_cVi mv_X12_381 dX12_part_15 (c_X12_wifeOf hq3) rfl shR_0 rfl rfl (Nat.le_of_ble_eq_true rfl) (by rfl) (Nat.le_of_ble_eq_true rfl) (Nat.le_of_ble_eq_true rfl) (Nat.le_of_ble_eq_true rfl) ?_
    refine ev_iconst (v := (-1 : Int32)) dX12_part_18 (by decide) ?_
    refine ev_icmp_ne (tgt := 24) dX12_part_19 (by decide) (fun hc5 => ?_) (fun hc5 => ?_)
    · replace h := ite_f hc5 h
      refine ev_aload_n dX12_part_24 rfl ?_
      obtain ⟨m7, hq6, h⟩ := bndV_t h
      refine ev_cVv mv_X12_394 dX12_part_25 (c_X12_keepsAhead hq6) rfl shR_0 rfl rfl (Nat.le_of_ble_eq_true rfl) (by rfl) (Nat.le_of_ble_eq_true rfl) (Nat.le_of_ble_eq_true rfl) (Nat.le_of_ble_eq_true rfl) ?_
      refine ev_aload_n dX12_part_28 rfl ?_
      refine ev_iload_n dX12_part_29 rfl ?_
      obtain ⟨m9, hq8, h⟩ := bndV_t h
      refine ev_cVv mv_X12_400 dX12_part_30 (c_X12_parts hq8) rfl shR_0 rfl rfl (Nat.le_of_ble_eq_true rfl) (by rfl) (Nat.le_of_ble_eq_true rfl) (Nat.le_of_ble_eq_true rfl) (Nat.le_of_ble_eq_true rfl) ?_
      refine ev_iconst (v := (1 : Int32)) dX12_part_33 (by decide) ?_
      exact ev_iret rfl rfl (by decide) (by decide) dX12_part_34 (eqP_E h)
    · replace h := ite_t hc5 h
      refine ev_iconst (v := (0 : Int32)) dX12_part_22 (by decide) ?_
      exact ev_iret rfl rfl (by decide) (by decide) dX12_part_23 (eqP_E h)
def f_X12_cough (G : Nat) (p1 p2 : Int32) (μ : Mem) : Option (Int32 × Mem) :=
  (let m1 := wr μ 0 0 (0 : Int32)
  (if (f_X12_isWoman m1 p1) = (0 : Int32) then
  some ((0 : Int32), m1)
  else
  (if (f_X12_has (m1 1 4) p1) = p2 then
  some ((0 : Int32), m1)
  else
  bndV (f_X12_keepsAhead G m1) (fun m5 =>
  (let m6 := wr m5 1 4 ((m5 1 4) ^^^ (sl (1 : Int32) p1))
  some ((1 : Int32), m6))))))
set_option maxHeartbeats 4000000 in
set_option maxRecDepth 100000 in
theorem c_X12_cough  {G : Nat} {μ : Mem} {p1 p2 : Int32} {r : Int32} {μr : Mem}  (h : f_X12_cough G p1 p2 μ = some (r, μr)) : Cn yX12_cough cX12_cough 3 (some .boolean) 2 0 0 [.ref 0, .int p1, .int p2] shR μ (eqP (some r) shR μr) := by
  refine cn_of (own := RX12) (ini := false) (loc := [some (.ref 0), some (.int p1), some (.int p2)]) rfl (by decide) (fun q => by cases q) (Nat.le_of_ble_eq_true rfl) (by rfl) rfl ?_
  unfold f_X12_cough at h
  refine ev_aload_n dX12_cough_0 rfl ?_
  refine ev_iconst (v := (0 : Int32)) dX12_cough_1 (by decide) ?_
  refine ev_putI fr_X12_149 shR_0 rfl rfl rfl dX12_cough_2 ?_
  refine ev_aload_n dX12_cough_5 rfl ?_
  refine ev_iload_n dX12_cough_6 rfl ?_
  refine ev_cVi mv_X12_171 dX12_cough_7 c_X12_isWoman rfl shR_0 rfl rfl (Nat.le_of_ble_eq_true rfl) (by rfl) (Nat.le_of_ble_eq_true rfl) (Nat.le_of_ble_eq_true rfl) (Nat.le_of_ble_eq_true rfl) ?_
  refine ev_if_eq (tgt := 28) dX12_cough_10 (by decide) (fun hc2 => ?_) (fun hc2 => ?_)
  · replace h := ite_t hc2 h
    refine ev_iconst (v := (0 : Int32)) dX12_cough_28 (by decide) ?_
    exact ev_iret rfl rfl (by decide) (by decide) dX12_cough_29 (eqP_E h)
  · replace h := ite_f hc2 h
    refine ev_aload_n dX12_cough_13 rfl ?_
    refine ev_aload_n dX12_cough_14 rfl ?_
    refine ev_getR fr_X12_7 shR_0 rfl dX12_cough_15 ?_
    refine ev_iconst (v := (4 : Int32)) dX12_cough_18 (by decide) ?_
    refine ev_ialdL (j := 4) shR_1 (by decide) (vpl _ _ (by decide)) dX12_cough_19 ?_
    refine ev_iload_n dX12_cough_20 rfl ?_
    refine ev_cVi mv_X12_371 dX12_cough_21 c_X12_has rfl shR_0 rfl rfl (Nat.le_of_ble_eq_true rfl) (by rfl) (Nat.le_of_ble_eq_true rfl) (Nat.le_of_ble_eq_true rfl) (Nat.le_of_ble_eq_true rfl) ?_
    refine ev_iload_n dX12_cough_24 rfl ?_
    refine ev_icmp_ne (tgt := 30) dX12_cough_25 (by decide) (fun hc3 => ?_) (fun hc3 => ?_)
    · replace h := ite_f hc3 h
      refine ev_aload_n dX12_cough_30 rfl ?_
      obtain ⟨m5, hq4, h⟩ := bndV_t h
      refine ev_cVv mv_X12_394 dX12_cough_31 (c_X12_keepsAhead hq4) rfl shR_0 rfl rfl (Nat.le_of_ble_eq_true rfl) (by rfl) (Nat.le_of_ble_eq_true rfl) (Nat.le_of_ble_eq_true rfl) (Nat.le_of_ble_eq_true rfl) ?_
      refine ev_aload_n dX12_cough_34 rfl ?_
      refine ev_getR fr_X12_7 shR_0 rfl dX12_cough_35 ?_
      refine ev_iconst (v := (4 : Int32)) dX12_cough_38 (by decide) ?_
      refine ev_aload_n dX12_cough_39 rfl ?_
      refine ev_getR fr_X12_7 shR_0 rfl dX12_cough_40 ?_
      refine ev_iconst (v := (4 : Int32)) dX12_cough_43 (by decide) ?_
      refine ev_ialdL (j := 4) shR_1 (by decide) (vpl _ _ (by decide)) dX12_cough_44 ?_
      refine ev_iconst (v := (1 : Int32)) dX12_cough_45 (by decide) ?_
      refine ev_iload_n dX12_cough_46 rfl ?_
      refine ev_ishl dX12_cough_47 ?_
      refine ev_ixor dX12_cough_48 ?_
      refine ev_iastL (j := 4) shR_1 (by decide) (vpl _ _ (by decide)) dX12_cough_49 ?_
      refine ev_iconst (v := (1 : Int32)) dX12_cough_50 (by decide) ?_
      exact ev_iret rfl rfl (by decide) (by decide) dX12_cough_51 (eqP_E h)
    · replace h := ite_t hc3 h
      refine ev_iconst (v := (0 : Int32)) dX12_cough_28 (by decide) ?_
      exact ev_iret rfl rfl (by decide) (by decide) dX12_cough_29 (eqP_E h)
def f_X12_does_j105 (G : Nat)  (v2 v3 : Int32) (μ : Mem) : Option Mem :=
  (if v2 = (2 : Int32) then
  bndO (f_X12_wifeOf G μ v3) (fun w7 =>
  (if w7 = (-1 : Int32) then
  some μ
  else
  bndV (f_X12_parts G v3 μ) (fun m10 =>
  some m10)))
  else
  some μ)
set_option maxHeartbeats 4000000 in
set_option maxRecDepth 100000 in
theorem f_X12_does_j105_ok  {G : Nat} {μr : Mem}    {v2 v3 : Int32} {μ : Mem} (h : f_X12_does_j105 G v2 v3 μ = some μr) : Ev RX12 cX12_does 4 none false 9 0 0 (eqP none shR μr) 105 [some (.ref 0), none, some (.int v2), some (.int v3)] [] shR μ 0 0 := by
  unfold f_X12_does_j105 at h
  refine ev_iload_n dX12_does_105 rfl ?_
  refine ev_iconst (v := (2 : Int32)) dX12_does_106 (by decide) ?_
  refine ev_icmp_ne (tgt := 124) dX12_does_107 (by decide) (fun hc5 => ?_) (fun hc5 => ?_)
  · replace h := ite_f hc5 h
    exact ev_vret rfl (by decide) (by decide) dX12_does_124 (eqP_V h)
  · replace h := ite_t hc5 h
    refine ev_aload_n dX12_does_110 rfl ?_
    refine ev_iload_n dX12_does_111 rfl ?_
    obtain ⟨w7, hq6, h⟩ := bndO_t h
    refine ev_cVi mv_X12_381 dX12_does_112 (c_X12_wifeOf hq6) rfl shR_0 rfl rfl (Nat.le_of_ble_eq_true rfl) (by rfl) (Nat.le_of_ble_eq_true rfl) (Nat.le_of_ble_eq_true rfl) (Nat.le_of_ble_eq_true rfl) ?_
    refine ev_iconst (v := (-1 : Int32)) dX12_does_115 (by decide) ?_
    refine ev_icmp_eq (tgt := 124) dX12_does_116 (by decide) (fun hc8 => ?_) (fun hc8 => ?_)
    · replace h := ite_t hc8 h
      exact ev_vret rfl (by decide) (by decide) dX12_does_124 (eqP_V h)
    · replace h := ite_f hc8 h
      refine ev_aload_n dX12_does_119 rfl ?_
      refine ev_iload_n dX12_does_120 rfl ?_
      obtain ⟨m10, hq9, h⟩ := bndV_t h
      refine ev_cVv mv_X12_400 dX12_does_121 (c_X12_parts hq9) rfl shR_0 rfl rfl (Nat.le_of_ble_eq_true rfl) (by rfl) (Nat.le_of_ble_eq_true rfl) (Nat.le_of_ble_eq_true rfl) (Nat.le_of_ble_eq_true rfl) ?_
      exact ev_vret rfl (by decide) (by decide) dX12_does_124 (eqP_V h)
def f_X12_does_j84 (G : Nat)  (v2 v3 : Int32) (μ : Mem) : Option Mem :=
  (if v2 = (1 : Int32) then
  (let m11 := wr μ 1 4 ((μ 1 4) ||| (sl (1 : Int32) v3))
  f_X12_does_j105 G v2 v3 m11)
  else
  f_X12_does_j105 G v2 v3 μ)
set_option maxHeartbeats 4000000 in
set_option maxRecDepth 100000 in
theorem f_X12_does_j84_ok  {G : Nat} {μr : Mem}    {v2 v3 : Int32} {μ : Mem} (h : f_X12_does_j84 G v2 v3 μ = some μr) : Ev RX12 cX12_does 4 none false 9 0 0 (eqP none shR μr) 84 [some (.ref 0), none, some (.int v2), some (.int v3)] [] shR μ 0 0 := by
  unfold f_X12_does_j84 at h
  refine ev_iload_n dX12_does_84 rfl ?_
  refine ev_iconst (v := (1 : Int32)) dX12_does_85 (by decide) ?_
  refine ev_icmp_ne (tgt := 105) dX12_does_86 (by decide) (fun hc4 => ?_) (fun hc4 => ?_)
  · replace h := ite_f hc4 h
    exact ev_lt (f_X12_does_j105_ok h) ⟨rfl, ⟨rfl, ⟨rfl, trivial⟩⟩⟩
  · replace h := ite_t hc4 h
    refine ev_aload_n dX12_does_89 rfl ?_
    refine ev_getR fr_X12_7 shR_0 rfl dX12_does_90 ?_
    refine ev_iconst (v := (4 : Int32)) dX12_does_93 (by decide) ?_
    refine ev_aload_n dX12_does_94 rfl ?_
    refine ev_getR fr_X12_7 shR_0 rfl dX12_does_95 ?_
    refine ev_iconst (v := (4 : Int32)) dX12_does_98 (by decide) ?_
    refine ev_ialdL (j := 4) shR_1 (by decide) (vpl _ _ (by decide)) dX12_does_99 ?_
    refine ev_iconst (v := (1 : Int32)) dX12_does_100 (by decide) ?_
    refine ev_iload_n dX12_does_101 rfl ?_
    refine ev_ishl dX12_does_102 ?_
    refine ev_ior dX12_does_103 ?_
    refine ev_iastL (j := 4) shR_1 (by decide) (vpl _ _ (by decide)) dX12_does_104 ?_
    exact ev_lt (f_X12_does_j105_ok h) ⟨rfl, ⟨rfl, ⟨rfl, trivial⟩⟩⟩
def f_X12_does (G : Nat) (p1 : Int32) (μ : Mem) : Option Mem :=
  chk (p1 + (1 : Int32)) 192 (chk (p1 + (2 : Int32)) 192 ((if (μ 21 (ix (p1 + (1 : Int32)))) = (0 : Int32) then
  chk (p1 + (3 : Int32)) 192 (chk (p1 + (4 : Int32)) 192 (chk (p1 + (5 : Int32)) 192 (bndO (f_X12_canWed G μ (μ 21 (ix (p1 + (2 : Int32)))) (μ 21 (ix (p1 + (3 : Int32)))) (μ 21 (ix (p1 + (4 : Int32)))) (μ 21 (ix (p1 + (5 : Int32))))) (fun w16 =>
  (if w16 = (0 : Int32) then
  f_X12_does_j84 G (μ 21 (ix (p1 + (1 : Int32)))) (μ 21 (ix (p1 + (2 : Int32)))) μ
  else
  chk (p1 + (3 : Int32)) 192 (chk (p1 + (4 : Int32)) 192 (chk (p1 + (5 : Int32)) 192 (bndE (f_X12_weds G (μ 21 (ix (p1 + (2 : Int32)))) (μ 21 (ix (p1 + (3 : Int32)))) (μ 21 (ix (p1 + (4 : Int32)))) (μ 21 (ix (p1 + (5 : Int32)))) μ) (fun w23 m22 =>
  f_X12_does_j84 G (μ 21 (ix (p1 + (1 : Int32)))) (μ 21 (ix (p1 + (2 : Int32)))) m22)))))))))
  else
  f_X12_does_j84 G (μ 21 (ix (p1 + (1 : Int32)))) (μ 21 (ix (p1 + (2 : Int32)))) μ)))
set_option maxHeartbeats 4000000 in
set_option maxRecDepth 100000 in
theorem c_X12_does  {G : Nat} {μ : Mem} {p1 : Int32} {μr : Mem}  (h : f_X12_does G p1 μ = some μr) : Cn yX12_does cX12_does 4 none 9 0 0 [.ref 0, .int p1] shR μ (eqP none shR μr) := by
  refine cn_of (own := RX12) (ini := false) (loc := [some (.ref 0), some (.int p1), none, none]) rfl (by decide) (fun q => by cases q) (Nat.le_of_ble_eq_true rfl) (by rfl) rfl ?_
  unfold f_X12_does at h
  refine ev_aload_n dX12_does_0 rfl ?_
  refine ev_getR fr_X12_74 shR_0 rfl dX12_does_1 ?_
  refine ev_iload_n dX12_does_4 rfl ?_
  refine ev_iconst (v := (1 : Int32)) dX12_does_5 (by decide) ?_
  refine ev_iadd dX12_does_6 ?_
  obtain ⟨hi1, h⟩ := chk_t h
  refine ev_iald shR_21 hi1 dX12_does_7 ?_
  refine ev_istore_n (loc' := [_, _, _, _]) dX12_does_8 rfl (by decide) (by rfl) ?_
  refine ev_aload_n dX12_does_9 rfl ?_
  refine ev_getR fr_X12_74 shR_0 rfl dX12_does_10 ?_
  refine ev_iload_n dX12_does_13 rfl ?_
  refine ev_iconst (v := (2 : Int32)) dX12_does_14 (by decide) ?_
  refine ev_iadd dX12_does_15 ?_
  obtain ⟨hi2, h⟩ := chk_t h
  refine ev_iald shR_21 hi2 dX12_does_16 ?_
  refine ev_istore_n (loc' := [_, _, _, _]) dX12_does_17 rfl (by decide) (by rfl) ?_
  refine ev_iload_n dX12_does_18 rfl ?_
  refine ev_if_ne (tgt := 84) dX12_does_19 (by decide) (fun hc3 => ?_) (fun hc3 => ?_)
  · replace h := ite_f hc3 h
    exact ev_lt (f_X12_does_j84_ok h) ⟨rfl, ⟨rfl, ⟨rfl, trivial⟩⟩⟩
  · replace h := ite_t hc3 h
    refine ev_aload_n dX12_does_22 rfl ?_
    refine ev_iload_n dX12_does_23 rfl ?_
    refine ev_aload_n dX12_does_24 rfl ?_
    refine ev_getR fr_X12_74 shR_0 rfl dX12_does_25 ?_
    refine ev_iload_n dX12_does_28 rfl ?_
    refine ev_iconst (v := (3 : Int32)) dX12_does_29 (by decide) ?_
    refine ev_iadd dX12_does_30 ?_
    obtain ⟨hi12, h⟩ := chk_t h
    refine ev_iald shR_21 hi12 dX12_does_31 ?_
    refine ev_aload_n dX12_does_32 rfl ?_
    refine ev_getR fr_X12_74 shR_0 rfl dX12_does_33 ?_
    refine ev_iload_n dX12_does_36 rfl ?_
    refine ev_iconst (v := (4 : Int32)) dX12_does_37 (by decide) ?_
    refine ev_iadd dX12_does_38 ?_
    obtain ⟨hi13, h⟩ := chk_t h
    refine ev_iald shR_21 hi13 dX12_does_39 ?_
    refine ev_aload_n dX12_does_40 rfl ?_
    refine ev_getR fr_X12_74 shR_0 rfl dX12_does_41 ?_
    refine ev_iload_n dX12_does_44 rfl ?_
    refine ev_iconst (v := (5 : Int32)) dX12_does_45 (by decide) ?_
    refine ev_iadd dX12_does_46 ?_
    obtain ⟨hi14, h⟩ := chk_t h
    refine ev_iald shR_21 hi14 dX12_does_47 ?_
    obtain ⟨w16, hq15, h⟩ := bndO_t h
    refine ev_cVi mv_X12_390 dX12_does_48 (c_X12_canWed hq15) rfl shR_0 rfl rfl (Nat.le_of_ble_eq_true rfl) (by rfl) (Nat.le_of_ble_eq_true rfl) (Nat.le_of_ble_eq_true rfl) (Nat.le_of_ble_eq_true rfl) ?_
    refine ev_if_eq (tgt := 84) dX12_does_51 (by decide) (fun hc17 => ?_) (fun hc17 => ?_)
    · replace h := ite_t hc17 h
      exact ev_lt (f_X12_does_j84_ok h) ⟨rfl, ⟨rfl, ⟨rfl, trivial⟩⟩⟩
    · replace h := ite_f hc17 h
      refine ev_aload_n dX12_does_54 rfl ?_
      refine ev_iload_n dX12_does_55 rfl ?_
      refine ev_aload_n dX12_does_56 rfl ?_
      refine ev_getR fr_X12_74 shR_0 rfl dX12_does_57 ?_
      refine ev_iload_n dX12_does_60 rfl ?_
      refine ev_iconst (v := (3 : Int32)) dX12_does_61 (by decide) ?_
      refine ev_iadd dX12_does_62 ?_
      obtain ⟨hi18, h⟩ := chk_t h
      refine ev_iald shR_21 hi18 dX12_does_63 ?_
      refine ev_aload_n dX12_does_64 rfl ?_
      refine ev_getR fr_X12_74 shR_0 rfl dX12_does_65 ?_
      refine ev_iload_n dX12_does_68 rfl ?_
      refine ev_iconst (v := (4 : Int32)) dX12_does_69 (by decide) ?_
      refine ev_iadd dX12_does_70 ?_
      obtain ⟨hi19, h⟩ := chk_t h
      refine ev_iald shR_21 hi19 dX12_does_71 ?_
      refine ev_aload_n dX12_does_72 rfl ?_
      refine ev_getR fr_X12_74 shR_0 rfl dX12_does_73 ?_
      refine ev_iload_n dX12_does_76 rfl ?_
      refine ev_iconst (v := (5 : Int32)) dX12_does_77 (by decide) ?_
      refine ev_iadd dX12_does_78 ?_
      obtain ⟨hi20, h⟩ := chk_t h
      refine ev_iald shR_21 hi20 dX12_does_79 ?_
      obtain ⟨w23, m22, hq21, h⟩ := bndE_t h
      refine ev_cVi mv_X12_397 dX12_does_80 (c_X12_weds hq21) rfl shR_0 rfl rfl (Nat.le_of_ble_eq_true rfl) (by rfl) (Nat.le_of_ble_eq_true rfl) (Nat.le_of_ble_eq_true rfl) (Nat.le_of_ble_eq_true rfl) ?_
      refine ev_pop dX12_does_83 (by rfl) ?_
      exact ev_lt (f_X12_does_j84_ok h) ⟨rfl, ⟨rfl, ⟨rfl, trivial⟩⟩⟩
def f_X12_lives_j108 (G : Nat)  (v1 : Int32) (μ : Mem) : Option (Int32 × Mem) :=
  chk ((33 : Int32) + v1) 49 (chk ((33 : Int32) + v1) 49 (let m18 := wr μ 1 (ix ((33 : Int32) + v1)) ((μ 1 (ix ((33 : Int32) + v1))) + (1 : Int32))
  chk ((33 : Int32) + v1) 49 (bndV (f_X12_notes G (4 : Int32) v1 (m18 1 (ix ((33 : Int32) + v1))) m18) (fun m22 =>
  some ((1 : Int32), m22)))))
set_option maxHeartbeats 4000000 in
set_option maxRecDepth 100000 in
theorem f_X12_lives_j108_ok  {G : Nat} {r : Int32} {μr : Mem}    {v1 : Int32} {μ : Mem} (h : f_X12_lives_j108 G v1 μ = some (r, μr)) : Ev RX12 cX12_lives 3 (some .boolean) false 6 0 0 (eqP (some r) shR μr) 108 [some (.ref 0), some (.int v1), none] [] shR μ 0 0 := by
  unfold f_X12_lives_j108 at h
  refine ev_aload_n dX12_lives_108 rfl ?_
  refine ev_getR fr_X12_7 shR_0 rfl dX12_lives_109 ?_
  refine ev_bipush (v := (33 : Int32)) dX12_lives_112 (by decide) ?_
  refine ev_iload_n dX12_lives_114 rfl ?_
  refine ev_iadd dX12_lives_115 ?_
  refine ev_aload_n dX12_lives_116 rfl ?_
  refine ev_getR fr_X12_7 shR_0 rfl dX12_lives_117 ?_
  refine ev_bipush (v := (33 : Int32)) dX12_lives_120 (by decide) ?_
  refine ev_iload_n dX12_lives_122 rfl ?_
  refine ev_iadd dX12_lives_123 ?_
  obtain ⟨hi17, h⟩ := chk_t h
  refine ev_iald shR_1 hi17 dX12_lives_124 ?_
  refine ev_iconst (v := (1 : Int32)) dX12_lives_125 (by decide) ?_
  refine ev_iadd dX12_lives_126 ?_
  obtain ⟨hi19, h⟩ := chk_t h
  refine ev_iast shR_1 hi19 dX12_lives_127 ?_
  refine ev_aload_n dX12_lives_128 rfl ?_
  refine ev_iconst (v := (4 : Int32)) dX12_lives_129 (by decide) ?_
  refine ev_iload_n dX12_lives_130 rfl ?_
  refine ev_aload_n dX12_lives_131 rfl ?_
  refine ev_getR fr_X12_7 shR_0 rfl dX12_lives_132 ?_
  refine ev_bipush (v := (33 : Int32)) dX12_lives_135 (by decide) ?_
  refine ev_iload_n dX12_lives_137 rfl ?_
  refine ev_iadd dX12_lives_138 ?_
  obtain ⟨hi20, h⟩ := chk_t h
  refine ev_iald shR_1 hi20 dX12_lives_139 ?_
  obtain ⟨m22, hq21, h⟩ := bndV_t h
  refine ev_cVv mv_X12_360 dX12_lives_140 (c_X12_notes hq21) rfl shR_0 rfl rfl (Nat.le_of_ble_eq_true rfl) (by rfl) (Nat.le_of_ble_eq_true rfl) (Nat.le_of_ble_eq_true rfl) (Nat.le_of_ble_eq_true rfl) ?_
  refine ev_iconst (v := (1 : Int32)) dX12_lives_143 (by decide) ?_
  exact ev_iret rfl rfl (by decide) (by decide) dX12_lives_144 (eqP_E h)
def f_X12_lives (G : Nat) (p1 : Int32) (μ : Mem) : Option (Int32 × Mem) :=
  chk ((25 : Int32) + p1) 49 (bndO (f_X12_wifeOf G μ p1) (fun w3 =>
  bndE (f_X12_joyOf G p1 w3 μ) (fun w6 m5 =>
  chk ((25 : Int32) + p1) 49 (let m7 := wr m5 1 (ix ((25 : Int32) + p1)) (f_X12_held ((μ 1 (ix ((25 : Int32) + p1))) + w6) (-99 : Int32) (99 : Int32))
  chk ((33 : Int32) + p1) 49 ((if (m7 1 (ix ((33 : Int32) + p1))) = (20 : Int32) then
  some ((0 : Int32), m7)
  else
  chk ((25 : Int32) + p1) 49 ((if (m7 0 5) = (0 : Int32) then
  bndE (f_X12_draw G (1000 : Int32) m7) (fun w15 m14 =>
  (if w15 < (f_X12_held ((100 : Int32) + ((5 : Int32) * (m7 1 (ix ((25 : Int32) + p1))))) (0 : Int32) (1000 : Int32)) then
  f_X12_lives_j108 G p1 m14
  else
  some ((0 : Int32), m14)))
  else
  (if (1000 : Int32) ≤ ((2 : Int32) * (f_X12_held ((100 : Int32) + ((5 : Int32) * (m7 1 (ix ((25 : Int32) + p1))))) (0 : Int32) (1000 : Int32))) then
  f_X12_lives_j108 G p1 m7
  else
  some ((0 : Int32), m7))))))))))
set_option maxHeartbeats 4000000 in
set_option maxRecDepth 100000 in
theorem c_X12_lives  {G : Nat} {μ : Mem} {p1 : Int32} {r : Int32} {μr : Mem}  (h : f_X12_lives G p1 μ = some (r, μr)) : Cn yX12_lives cX12_lives 3 (some .boolean) 6 0 0 [.ref 0, .int p1] shR μ (eqP (some r) shR μr) := by
  refine cn_of (own := RX12) (ini := false) (loc := [some (.ref 0), some (.int p1), none]) rfl (by decide) (fun q => by cases q) (Nat.le_of_ble_eq_true rfl) (by rfl) rfl ?_
  unfold f_X12_lives at h
  refine ev_aload_n dX12_lives_0 rfl ?_
  refine ev_getR fr_X12_7 shR_0 rfl dX12_lives_1 ?_
  refine ev_bipush (v := (25 : Int32)) dX12_lives_4 (by decide) ?_
  refine ev_iload_n dX12_lives_6 rfl ?_
  refine ev_iadd dX12_lives_7 ?_
  refine ev_aload_n dX12_lives_8 rfl ?_
  refine ev_aload_n dX12_lives_9 rfl ?_
  refine ev_getR fr_X12_7 shR_0 rfl dX12_lives_10 ?_
  refine ev_bipush (v := (25 : Int32)) dX12_lives_13 (by decide) ?_
  refine ev_iload_n dX12_lives_15 rfl ?_
  refine ev_iadd dX12_lives_16 ?_
  obtain ⟨hi1, h⟩ := chk_t h
  refine ev_iald shR_1 hi1 dX12_lives_17 ?_
  refine ev_aload_n dX12_lives_18 rfl ?_
  refine ev_iload_n dX12_lives_19 rfl ?_
  refine ev_aload_n dX12_lives_20 rfl ?_
  refine ev_iload_n dX12_lives_21 rfl ?_
  obtain ⟨w3, hq2, h⟩ := bndO_t h
  refine ev_cVi mv_X12_381 dX12_lives_22 (c_X12_wifeOf hq2) rfl shR_0 rfl rfl (Nat.le_of_ble_eq_true rfl) (by rfl) (Nat.le_of_ble_eq_true rfl) (Nat.le_of_ble_eq_true rfl) (Nat.le_of_ble_eq_true rfl) ?_
  obtain ⟨w6, m5, hq4, h⟩ := bndE_t h
  refine ev_cVi mv_X12_403 dX12_lives_25 (c_X12_joyOf hq4) rfl shR_0 rfl rfl (Nat.le_of_ble_eq_true rfl) (by rfl) (Nat.le_of_ble_eq_true rfl) (Nat.le_of_ble_eq_true rfl) (Nat.le_of_ble_eq_true rfl) ?_
  refine ev_iadd dX12_lives_28 ?_
  refine ev_bipush (v := (-99 : Int32)) dX12_lives_29 (by decide) ?_
  refine ev_bipush (v := (99 : Int32)) dX12_lives_31 (by decide) ?_
  refine ev_cVi mv_X12_344 dX12_lives_33 c_X12_held rfl shR_0 rfl rfl (Nat.le_of_ble_eq_true rfl) (by rfl) (Nat.le_of_ble_eq_true rfl) (Nat.le_of_ble_eq_true rfl) (Nat.le_of_ble_eq_true rfl) ?_
  obtain ⟨hi8, h⟩ := chk_t h
  refine ev_iast shR_1 hi8 dX12_lives_36 ?_
  refine ev_aload_n dX12_lives_37 rfl ?_
  refine ev_getR fr_X12_7 shR_0 rfl dX12_lives_38 ?_
  refine ev_bipush (v := (33 : Int32)) dX12_lives_41 (by decide) ?_
  refine ev_iload_n dX12_lives_43 rfl ?_
  refine ev_iadd dX12_lives_44 ?_
  obtain ⟨hi9, h⟩ := chk_t h
  refine ev_iald shR_1 hi9 dX12_lives_45 ?_
  refine ev_bipush (v := (20 : Int32)) dX12_lives_46 (by decide) ?_
  refine ev_icmp_ne (tgt := 53) dX12_lives_48 (by decide) (fun hc10 => ?_) (fun hc10 => ?_)
  · replace h := ite_f hc10 h
    refine ev_aload_n dX12_lives_53 rfl ?_
    refine ev_bipush (v := (100 : Int32)) dX12_lives_54 (by decide) ?_
    refine ev_iconst (v := (5 : Int32)) dX12_lives_56 (by decide) ?_
    refine ev_aload_n dX12_lives_57 rfl ?_
    refine ev_getR fr_X12_7 shR_0 rfl dX12_lives_58 ?_
    refine ev_bipush (v := (25 : Int32)) dX12_lives_61 (by decide) ?_
    refine ev_iload_n dX12_lives_63 rfl ?_
    refine ev_iadd dX12_lives_64 ?_
    obtain ⟨hi11, h⟩ := chk_t h
    refine ev_iald shR_1 hi11 dX12_lives_65 ?_
    refine ev_imul dX12_lives_66 ?_
    refine ev_iadd dX12_lives_67 ?_
    refine ev_iconst (v := (0 : Int32)) dX12_lives_68 (by decide) ?_
    refine ev_sipush (v := (1000 : Int32)) dX12_lives_69 (by decide) ?_
    refine ev_cVi mv_X12_344 dX12_lives_72 c_X12_held rfl shR_0 rfl rfl (Nat.le_of_ble_eq_true rfl) (by rfl) (Nat.le_of_ble_eq_true rfl) (Nat.le_of_ble_eq_true rfl) (Nat.le_of_ble_eq_true rfl) ?_
    refine ev_istore_n (loc' := [_, _, _]) dX12_lives_75 rfl (by decide) (by rfl) ?_
    refine ev_aload_n dX12_lives_76 rfl ?_
    refine ev_getI fr_X12_155 shR_0 rfl dX12_lives_77 ?_
    refine ev_if_eq (tgt := 95) dX12_lives_80 (by decide) (fun hc12 => ?_) (fun hc12 => ?_)
    · replace h := ite_t hc12 h
      refine ev_aload_n dX12_lives_95 rfl ?_
      refine ev_sipush (v := (1000 : Int32)) dX12_lives_96 (by decide) ?_
      obtain ⟨w15, m14, hq13, h⟩ := bndE_t h
      refine ev_cVi mv_X12_357 dX12_lives_99 (c_X12_draw hq13) rfl shR_0 rfl rfl (Nat.le_of_ble_eq_true rfl) (by rfl) (Nat.le_of_ble_eq_true rfl) (Nat.le_of_ble_eq_true rfl) (Nat.le_of_ble_eq_true rfl) ?_
      refine ev_iload_n dX12_lives_102 rfl ?_
      refine ev_icmp_lt (tgt := 108) dX12_lives_103 (by decide) (fun hc16 => ?_) (fun hc16 => ?_)
      · replace h := ite_t hc16 h
        exact ev_lt (f_X12_lives_j108_ok h) ⟨rfl, ⟨rfl, trivial⟩⟩
      · replace h := ite_f hc16 h
        refine ev_iconst (v := (0 : Int32)) dX12_lives_106 (by decide) ?_
        exact ev_iret rfl rfl (by decide) (by decide) dX12_lives_107 (eqP_E h)
    · replace h := ite_f hc12 h
      refine ev_iconst (v := (2 : Int32)) dX12_lives_83 (by decide) ?_
      refine ev_iload_n dX12_lives_84 rfl ?_
      refine ev_imul dX12_lives_85 ?_
      refine ev_sipush (v := (1000 : Int32)) dX12_lives_86 (by decide) ?_
      refine ev_icmp_ge (tgt := 108) dX12_lives_89 (by decide) (fun hc23 => ?_) (fun hc23 => ?_)
      · replace h := ite_t hc23 h
        exact ev_lt (f_X12_lives_j108_ok h) ⟨rfl, ⟨rfl, trivial⟩⟩
      · replace h := ite_f hc23 h
        refine ev_goto (tgt := 106) dX12_lives_92 (by decide) ?_
        refine ev_iconst (v := (0 : Int32)) dX12_lives_106 (by decide) ?_
        exact ev_iret rfl rfl (by decide) (by decide) dX12_lives_107 (eqP_E h)
  · replace h := ite_t hc10 h
    refine ev_iconst (v := (0 : Int32)) dX12_lives_51 (by decide) ?_
    exact ev_iret rfl rfl (by decide) (by decide) dX12_lives_52 (eqP_E h)
def f_X12_goesBy_j36 (G : Nat) (r2 : Int32 → Mem → Option (Int32 × Mem)) (k2_42 : Mem → Option (Int32 × Mem)) (v1 : Int32) (μ : Mem) : Option (Int32 × Mem) :=
  r2 (v1 + (1 : Int32)) μ
set_option maxHeartbeats 4000000 in
set_option maxRecDepth 100000 in
theorem f_X12_goesBy_j36_ok  {G : Nat} {r : Int32} {μr : Mem}  {r2 : Int32 → Mem → Option (Int32 × Mem)} {k2_42 : Mem → Option (Int32 × Mem)} (hr2 : ∀ (v1 : Int32) (m : Mem), r2 v1 m = some (r, μr) → Ev RX12 cX12_goesBy 3 (some .int) false 10 0 0 (eqP (some r) shR μr) 2 [some (.ref 0), some (.int v1), none] [] shR m 0 0) (hk2_42 : ∀ (m : Mem), k2_42 m = some (r, μr) → Ev RX12 cX12_goesBy 3 (some .int) false 10 0 0 (eqP (some r) shR μr) 42 [some (.ref 0), none, none] [] shR m 0 0) {v1 : Int32} {μ : Mem} (h : f_X12_goesBy_j36 G r2 k2_42 v1 μ = some (r, μr)) : Ev RX12 cX12_goesBy 3 (some .int) false 10 0 0 (eqP (some r) shR μr) 36 [some (.ref 0), some (.int v1), none] [] shR μ 0 0 := by
  unfold f_X12_goesBy_j36 at h
  refine ev_iinc (cq := (1 : Int32)) (loc' := [_, _, _]) dX12_goesBy_36 rfl (by decide) rfl (by decide) (by rfl) ?_
  refine ev_goto (tgt := 2) dX12_goesBy_39 (by decide) ?_
  exact ev_lt (hr2 _ _ h) ⟨rfl, ⟨rfl, trivial⟩⟩
def f_X12_goesBy_L2 (G : Nat) (k2_42 : Mem → Option (Int32 × Mem)) : Nat → Int32 → Mem → Option (Int32 × Mem)
  | 0, _, _ => none
  | g + 1, v1, μ =>
  (if (μ 0 39) ≤ v1 then
  k2_42  μ
  else
  chk ((6 : Int32) * v1) 192 ((if (μ 21 (ix ((6 : Int32) * v1))) = (μ 1 0) then
  bndV (f_X12_does G ((6 : Int32) * v1) μ) (fun m5 =>
  f_X12_goesBy_j36 G (f_X12_goesBy_L2 G k2_42 g) k2_42 v1 m5)
  else
  f_X12_goesBy_j36 G (f_X12_goesBy_L2 G k2_42 g) k2_42 v1 μ)))
set_option maxHeartbeats 4000000 in
set_option maxRecDepth 100000 in
theorem f_X12_goesBy_L2_ok  {G : Nat} {r : Int32} {μr : Mem}  {k2_42 : Mem → Option (Int32 × Mem)} (hk2_42 : ∀ (m : Mem), k2_42 m = some (r, μr) → Ev RX12 cX12_goesBy 3 (some .int) false 10 0 0 (eqP (some r) shR μr) 42 [some (.ref 0), none, none] [] shR m 0 0) : ∀ (g : Nat) (v1 : Int32) (μ : Mem), f_X12_goesBy_L2 G k2_42 g v1 μ = some (r, μr) → Ev RX12 cX12_goesBy 3 (some .int) false 10 0 0 (eqP (some r) shR μr) 2 [some (.ref 0), some (.int v1), none] [] shR μ 0 0 := by
  intro g
  induction g with
  | zero =>
    intro v1 μ h
    cases h
  | succ g ih =>
    intro v1 μ h
    rw [f_X12_goesBy_L2] at h
    refine ev_iload_n dX12_goesBy_2 rfl ?_
    refine ev_aload_n dX12_goesBy_3 rfl ?_
    refine ev_getI fr_X12_320 shR_0 rfl dX12_goesBy_4 ?_
    refine ev_icmp_ge (tgt := 42) dX12_goesBy_7 (by decide) (fun hc1 => ?_) (fun hc1 => ?_)
    · replace h := ite_t hc1 h
      exact ev_lt (hk2_42 _ h) ⟨rfl, trivial⟩
    · replace h := ite_f hc1 h
      refine ev_aload_n dX12_goesBy_10 rfl ?_
      refine ev_getR fr_X12_74 shR_0 rfl dX12_goesBy_11 ?_
      refine ev_bipush (v := (6 : Int32)) dX12_goesBy_14 (by decide) ?_
      refine ev_iload_n dX12_goesBy_16 rfl ?_
      refine ev_imul dX12_goesBy_17 ?_
      obtain ⟨hi2, h⟩ := chk_t h
      refine ev_iald shR_21 hi2 dX12_goesBy_18 ?_
      refine ev_aload_n dX12_goesBy_19 rfl ?_
      refine ev_getR fr_X12_7 shR_0 rfl dX12_goesBy_20 ?_
      refine ev_iconst (v := (0 : Int32)) dX12_goesBy_23 (by decide) ?_
      refine ev_ialdL (j := 0) shR_1 (by decide) (vpl _ _ (by decide)) dX12_goesBy_24 ?_
      refine ev_icmp_ne (tgt := 36) dX12_goesBy_25 (by decide) (fun hc3 => ?_) (fun hc3 => ?_)
      · replace h := ite_f hc3 h
        exact ev_lt (f_X12_goesBy_j36_ok ih hk2_42 h) ⟨rfl, ⟨rfl, trivial⟩⟩
      · replace h := ite_t hc3 h
        refine ev_aload_n dX12_goesBy_28 rfl ?_
        refine ev_bipush (v := (6 : Int32)) dX12_goesBy_29 (by decide) ?_
        refine ev_iload_n dX12_goesBy_31 rfl ?_
        refine ev_imul dX12_goesBy_32 ?_
        obtain ⟨m5, hq4, h⟩ := bndV_t h
        refine ev_cVv mv_X12_406 dX12_goesBy_33 (c_X12_does hq4) rfl shR_0 rfl rfl (Nat.le_of_ble_eq_true rfl) (by rfl) (Nat.le_of_ble_eq_true rfl) (Nat.le_of_ble_eq_true rfl) (Nat.le_of_ble_eq_true rfl) ?_
        exact ev_lt (f_X12_goesBy_j36_ok ih hk2_42 h) ⟨rfl, ⟨rfl, trivial⟩⟩
def f_X12_goesBy_j75 (G : Nat) (r46 : Int32 → Int32 → Mem → Option (Int32 × Mem)) (v1 v2 : Int32) (μ : Mem) : Option (Int32 × Mem) :=
  r46 v1 (v2 + (1 : Int32)) μ
set_option maxHeartbeats 4000000 in
set_option maxRecDepth 100000 in
theorem f_X12_goesBy_j75_ok  {G : Nat} {r : Int32} {μr : Mem}  {r46 : Int32 → Int32 → Mem → Option (Int32 × Mem)} (hr46 : ∀ (v1 : Int32) (v2 : Int32) (m : Mem), r46 v1 v2 m = some (r, μr) → Ev RX12 cX12_goesBy 3 (some .int) false 10 0 0 (eqP (some r) shR μr) 46 [some (.ref 0), some (.int v1), some (.int v2)] [] shR m 0 0) {v1 v2 : Int32} {μ : Mem} (h : f_X12_goesBy_j75 G r46 v1 v2 μ = some (r, μr)) : Ev RX12 cX12_goesBy 3 (some .int) false 10 0 0 (eqP (some r) shR μr) 75 [some (.ref 0), some (.int v1), some (.int v2)] [] shR μ 0 0 := by
  unfold f_X12_goesBy_j75 at h
  refine ev_iinc (cq := (1 : Int32)) (loc' := [_, _, _]) dX12_goesBy_75 rfl (by decide) rfl (by decide) (by rfl) ?_
  refine ev_goto (tgt := 46) dX12_goesBy_78 (by decide) ?_
  exact ev_lt (hr46 _ _ _ h) ⟨rfl, ⟨rfl, ⟨rfl, trivial⟩⟩⟩
def f_X12_goesBy_L46 (G : Nat)  : Nat → Int32 → Int32 → Mem → Option (Int32 × Mem)
  | 0, _, _, _ => none
  | g + 1, v1, v2, μ =>
  (if (μ 0 7) ≤ v2 then
  (let m7 := wr μ 1 0 ((μ 1 0) + (1 : Int32))
  some (v1, m7))
  else
  bndO (f_X12_wifeOf G μ v2) (fun w9 =>
  (if w9 = (-1 : Int32) then
  f_X12_goesBy_j75 G (f_X12_goesBy_L46 G g) v1 v2 μ
  else
  bndE (f_X12_lives G v2 μ) (fun w13 m12 =>
  (if w13 = (0 : Int32) then
  f_X12_goesBy_j75 G (f_X12_goesBy_L46 G g) v1 v2 m12
  else
  f_X12_goesBy_j75 G (f_X12_goesBy_L46 G g) (v1 + (1 : Int32)) v2 m12)))))
set_option maxHeartbeats 4000000 in
set_option maxRecDepth 100000 in
theorem f_X12_goesBy_L46_ok  {G : Nat} {r : Int32} {μr : Mem}    : ∀ (g : Nat) (v1 v2 : Int32) (μ : Mem), f_X12_goesBy_L46 G g v1 v2 μ = some (r, μr) → Ev RX12 cX12_goesBy 3 (some .int) false 10 0 0 (eqP (some r) shR μr) 46 [some (.ref 0), some (.int v1), some (.int v2)] [] shR μ 0 0 := by
  intro g
  induction g with
  | zero =>
    intro v1 v2 μ h
    cases h
  | succ g ih =>
    intro v1 v2 μ h
    rw [f_X12_goesBy_L46] at h
    refine ev_iload_n dX12_goesBy_46 rfl ?_
    refine ev_aload_n dX12_goesBy_47 rfl ?_
    refine ev_getI fr_X12_164 shR_0 rfl dX12_goesBy_48 ?_
    refine ev_icmp_ge (tgt := 81) dX12_goesBy_51 (by decide) (fun hc6 => ?_) (fun hc6 => ?_)
    · replace h := ite_t hc6 h
      refine ev_aload_n dX12_goesBy_81 rfl ?_
      refine ev_getR fr_X12_7 shR_0 rfl dX12_goesBy_82 ?_
      refine ev_iconst (v := (0 : Int32)) dX12_goesBy_85 (by decide) ?_
      refine ev_aload_n dX12_goesBy_86 rfl ?_
      refine ev_getR fr_X12_7 shR_0 rfl dX12_goesBy_87 ?_
      refine ev_iconst (v := (0 : Int32)) dX12_goesBy_90 (by decide) ?_
      refine ev_ialdL (j := 0) shR_1 (by decide) (vpl _ _ (by decide)) dX12_goesBy_91 ?_
      refine ev_iconst (v := (1 : Int32)) dX12_goesBy_92 (by decide) ?_
      refine ev_iadd dX12_goesBy_93 ?_
      refine ev_iastL (j := 0) shR_1 (by decide) (vpl _ _ (by decide)) dX12_goesBy_94 ?_
      refine ev_iload_n dX12_goesBy_95 rfl ?_
      exact ev_iret rfl rfl (by decide) (by decide) dX12_goesBy_96 (eqP_E h)
    · replace h := ite_f hc6 h
      refine ev_aload_n dX12_goesBy_54 rfl ?_
      refine ev_iload_n dX12_goesBy_55 rfl ?_
      obtain ⟨w9, hq8, h⟩ := bndO_t h
      refine ev_cVi mv_X12_381 dX12_goesBy_56 (c_X12_wifeOf hq8) rfl shR_0 rfl rfl (Nat.le_of_ble_eq_true rfl) (by rfl) (Nat.le_of_ble_eq_true rfl) (Nat.le_of_ble_eq_true rfl) (Nat.le_of_ble_eq_true rfl) ?_
      refine ev_iconst (v := (-1 : Int32)) dX12_goesBy_59 (by decide) ?_
      refine ev_icmp_eq (tgt := 75) dX12_goesBy_60 (by decide) (fun hc10 => ?_) (fun hc10 => ?_)
      · replace h := ite_t hc10 h
        exact ev_lt (f_X12_goesBy_j75_ok ih h) ⟨rfl, ⟨rfl, ⟨rfl, trivial⟩⟩⟩
      · replace h := ite_f hc10 h
        refine ev_aload_n dX12_goesBy_63 rfl ?_
        refine ev_iload_n dX12_goesBy_64 rfl ?_
        obtain ⟨w13, m12, hq11, h⟩ := bndE_t h
        refine ev_cVi mv_X12_409 dX12_goesBy_65 (c_X12_lives hq11) rfl shR_0 rfl rfl (Nat.le_of_ble_eq_true rfl) (by rfl) (Nat.le_of_ble_eq_true rfl) (Nat.le_of_ble_eq_true rfl) (Nat.le_of_ble_eq_true rfl) ?_
        refine ev_if_eq (tgt := 75) dX12_goesBy_68 (by decide) (fun hc14 => ?_) (fun hc14 => ?_)
        · replace h := ite_t hc14 h
          exact ev_lt (f_X12_goesBy_j75_ok ih h) ⟨rfl, ⟨rfl, ⟨rfl, trivial⟩⟩⟩
        · replace h := ite_f hc14 h
          refine ev_iload_n dX12_goesBy_71 rfl ?_
          refine ev_iconst (v := (1 : Int32)) dX12_goesBy_72 (by decide) ?_
          refine ev_iadd dX12_goesBy_73 ?_
          refine ev_istore_n (loc' := [_, _, _]) dX12_goesBy_74 rfl (by decide) (by rfl) ?_
          exact ev_lt (f_X12_goesBy_j75_ok ih h) ⟨rfl, ⟨rfl, ⟨rfl, trivial⟩⟩⟩
def f_X12_goesBy_j42 (G : Nat)  (μ : Mem) : Option (Int32 × Mem) :=
  f_X12_goesBy_L46 G G (0 : Int32) (0 : Int32) μ
set_option maxHeartbeats 4000000 in
set_option maxRecDepth 100000 in
theorem f_X12_goesBy_j42_ok  {G : Nat} {r : Int32} {μr : Mem}    {μ : Mem} (h : f_X12_goesBy_j42 G μ = some (r, μr)) : Ev RX12 cX12_goesBy 3 (some .int) false 10 0 0 (eqP (some r) shR μr) 42 [some (.ref 0), none, none] [] shR μ 0 0 := by
  unfold f_X12_goesBy_j42 at h
  refine ev_iconst (v := (0 : Int32)) dX12_goesBy_42 (by decide) ?_
  refine ev_istore_n (loc' := [_, _, _]) dX12_goesBy_43 rfl (by decide) (by rfl) ?_
  refine ev_iconst (v := (0 : Int32)) dX12_goesBy_44 (by decide) ?_
  refine ev_istore_n (loc' := [_, _, _]) dX12_goesBy_45 rfl (by decide) (by rfl) ?_
  exact ev_lt (f_X12_goesBy_L46_ok _ _ _ _ h) ⟨rfl, ⟨rfl, ⟨rfl, trivial⟩⟩⟩
def f_X12_goesBy (G : Nat) (μ : Mem) : Option (Int32 × Mem) :=
  f_X12_goesBy_L2 G (f_X12_goesBy_j42 G) G (0 : Int32) μ
set_option maxHeartbeats 4000000 in
set_option maxRecDepth 100000 in
theorem c_X12_goesBy  {G : Nat} {μ : Mem} {r : Int32} {μr : Mem}  (h : f_X12_goesBy G μ = some (r, μr)) : Cn yX12_goesBy cX12_goesBy 3 (some .int) 10 0 0 [.ref 0] shR μ (eqP (some r) shR μr) := by
  refine cn_of (own := RX12) (ini := false) (loc := [some (.ref 0), none, none]) rfl (by decide) (fun q => by cases q) (Nat.le_of_ble_eq_true rfl) (by rfl) rfl ?_
  unfold f_X12_goesBy at h
  refine ev_iconst (v := (0 : Int32)) dX12_goesBy_0 (by decide) ?_
  refine ev_istore_n (loc' := [_, _, _]) dX12_goesBy_1 rfl (by decide) (by rfl) ?_
  exact ev_lt (f_X12_goesBy_L2_ok (fun _ hh => f_X12_goesBy_j42_ok hh) _ _ _ h) ⟨rfl, ⟨rfl, trivial⟩⟩
def f_X12_years_L36 (G : Nat)  : Nat → Int32 → Int32 → Int32 → Mem → Option (Int32 × Mem)
  | 0, _, _, _, _ => none
  | g + 1, v1, v2, v3, μ =>
  (if v1 ≤ v3 then
  some (v2, μ)
  else
  bndV (f_X12_keepsAhead G μ) (fun m6 =>
  bndE (f_X12_goesBy G m6) (fun w9 m8 =>
  (f_X12_years_L36 G g) v1 (v2 + w9) (v3 + (1 : Int32)) m8)))
set_option maxHeartbeats 4000000 in
set_option maxRecDepth 100000 in
theorem f_X12_years_L36_ok  {G : Nat} {r : Int32} {μr : Mem}    : ∀ (g : Nat) (v1 v2 v3 : Int32) (μ : Mem), f_X12_years_L36 G g v1 v2 v3 μ = some (r, μr) → Ev RX12 cX12_years 4 (some .int) false 11 0 0 (eqP (some r) shR μr) 36 [some (.ref 0), some (.int v1), some (.int v2), some (.int v3)] [] shR μ 0 0 := by
  intro g
  induction g with
  | zero =>
    intro v1 v2 v3 μ h
    cases h
  | succ g ih =>
    intro v1 v2 v3 μ h
    rw [f_X12_years_L36] at h
    refine ev_iload_n dX12_years_36 rfl ?_
    refine ev_iload_n dX12_years_37 rfl ?_
    refine ev_icmp_ge (tgt := 58) dX12_years_38 (by decide) (fun hc4 => ?_) (fun hc4 => ?_)
    · replace h := ite_t hc4 h
      refine ev_iload_n dX12_years_58 rfl ?_
      exact ev_iret rfl rfl (by decide) (by decide) dX12_years_59 (eqP_E h)
    · replace h := ite_f hc4 h
      refine ev_aload_n dX12_years_41 rfl ?_
      obtain ⟨m6, hq5, h⟩ := bndV_t h
      refine ev_cVv mv_X12_394 dX12_years_42 (c_X12_keepsAhead hq5) rfl shR_0 rfl rfl (Nat.le_of_ble_eq_true rfl) (by rfl) (Nat.le_of_ble_eq_true rfl) (Nat.le_of_ble_eq_true rfl) (Nat.le_of_ble_eq_true rfl) ?_
      refine ev_iload_n dX12_years_45 rfl ?_
      refine ev_aload_n dX12_years_46 rfl ?_
      obtain ⟨w9, m8, hq7, h⟩ := bndE_t h
      refine ev_cVi mv_X12_412 dX12_years_47 (c_X12_goesBy hq7) rfl shR_0 rfl rfl (Nat.le_of_ble_eq_true rfl) (by rfl) (Nat.le_of_ble_eq_true rfl) (Nat.le_of_ble_eq_true rfl) (Nat.le_of_ble_eq_true rfl) ?_
      refine ev_iadd dX12_years_50 ?_
      refine ev_istore_n (loc' := [_, _, _, _]) dX12_years_51 rfl (by decide) (by rfl) ?_
      refine ev_iinc (cq := (1 : Int32)) (loc' := [_, _, _, _]) dX12_years_52 rfl (by decide) rfl (by decide) (by rfl) ?_
      refine ev_goto (tgt := 36) dX12_years_55 (by decide) ?_
      exact ev_lt (ih _ _ _ _ h) ⟨rfl, ⟨rfl, ⟨rfl, ⟨rfl, trivial⟩⟩⟩⟩
def f_X12_years (G : Nat) (p1 : Int32) (μ : Mem) : Option (Int32 × Mem) :=
  (let m1 := wr μ 0 0 (0 : Int32)
  (if (f_X12_isIn p1 (1 : Int32) (60 : Int32)) = (0 : Int32) then
  some ((-1 : Int32), m1)
  else
  (if ((m1 1 0) + p1) ≤ (9999 : Int32) then
  f_X12_years_L36 G G p1 (0 : Int32) (0 : Int32) m1
  else
  some ((-1 : Int32), m1))))
set_option maxHeartbeats 4000000 in
set_option maxRecDepth 100000 in
theorem c_X12_years  {G : Nat} {μ : Mem} {p1 : Int32} {r : Int32} {μr : Mem}  (h : f_X12_years G p1 μ = some (r, μr)) : Cn yX12_years cX12_years 4 (some .int) 11 0 0 [.ref 0, .int p1] shR μ (eqP (some r) shR μr) := by
  refine cn_of (own := RX12) (ini := false) (loc := [some (.ref 0), some (.int p1), none, none]) rfl (by decide) (fun q => by cases q) (Nat.le_of_ble_eq_true rfl) (by rfl) rfl ?_
  unfold f_X12_years at h
  refine ev_aload_n dX12_years_0 rfl ?_
  refine ev_iconst (v := (0 : Int32)) dX12_years_1 (by decide) ?_
  refine ev_putI fr_X12_149 shR_0 rfl rfl rfl dX12_years_2 ?_
  refine ev_aload_n dX12_years_5 rfl ?_
  refine ev_iload_n dX12_years_6 rfl ?_
  refine ev_iconst (v := (1 : Int32)) dX12_years_7 (by decide) ?_
  refine ev_bipush (v := (60 : Int32)) dX12_years_8 (by decide) ?_
  refine ev_cVi mv_X12_167 dX12_years_10 c_X12_isIn rfl shR_0 rfl rfl (Nat.le_of_ble_eq_true rfl) (by rfl) (Nat.le_of_ble_eq_true rfl) (Nat.le_of_ble_eq_true rfl) (Nat.le_of_ble_eq_true rfl) ?_
  refine ev_if_eq (tgt := 30) dX12_years_13 (by decide) (fun hc2 => ?_) (fun hc2 => ?_)
  · replace h := ite_t hc2 h
    refine ev_iconst (v := (-1 : Int32)) dX12_years_30 (by decide) ?_
    exact ev_iret rfl rfl (by decide) (by decide) dX12_years_31 (eqP_E h)
  · replace h := ite_f hc2 h
    refine ev_aload_n dX12_years_16 rfl ?_
    refine ev_getR fr_X12_7 shR_0 rfl dX12_years_17 ?_
    refine ev_iconst (v := (0 : Int32)) dX12_years_20 (by decide) ?_
    refine ev_ialdL (j := 0) shR_1 (by decide) (vpl _ _ (by decide)) dX12_years_21 ?_
    refine ev_iload_n dX12_years_22 rfl ?_
    refine ev_iadd dX12_years_23 ?_
    refine ev_sipush (v := (9999 : Int32)) dX12_years_24 (by decide) ?_
    refine ev_icmp_le (tgt := 32) dX12_years_27 (by decide) (fun hc3 => ?_) (fun hc3 => ?_)
    · replace h := ite_t hc3 h
      refine ev_iconst (v := (0 : Int32)) dX12_years_32 (by decide) ?_
      refine ev_istore_n (loc' := [_, _, _, _]) dX12_years_33 rfl (by decide) (by rfl) ?_
      refine ev_iconst (v := (0 : Int32)) dX12_years_34 (by decide) ?_
      refine ev_istore_n (loc' := [_, _, _, _]) dX12_years_35 rfl (by decide) (by rfl) ?_
      exact ev_lt (f_X12_years_L36_ok _ _ _ _ _ h) ⟨rfl, ⟨rfl, ⟨rfl, ⟨rfl, trivial⟩⟩⟩⟩
    · replace h := ite_f hc3 h
      refine ev_iconst (v := (-1 : Int32)) dX12_years_30 (by decide) ?_
      exact ev_iret rfl rfl (by decide) (by decide) dX12_years_31 (eqP_E h)
def f_X12_of (G : Nat) (p1 p2 : Int32) (μ : Mem) : Option (Int32 × Mem) :=
  (let m1 := wr μ 0 0 (0 : Int32)
  (if (f_X12_isWoman m1 p1) = (0 : Int32) then
  some ((-2 : Int32), m1)
  else
  (if p2 = (0 : Int32) then
  chk p1 12 (some ((m1 4 (ix p1)), m1))
  else
  (if p2 = (1 : Int32) then
  chk p1 12 (some ((m1 5 (ix p1)), m1))
  else
  (if p2 = (2 : Int32) then
  chk p1 12 (some ((m1 6 (ix p1)), m1))
  else
  (if p2 = (3 : Int32) then
  chk ((5 : Int32) + p1) 49 (some (((m1 1 (ix ((5 : Int32) + p1))) - (1 : Int32)), m1))
  else
  (if p2 = (4 : Int32) then
  chk p1 24 (some ((m1 22 (ix p1)), m1))
  else
  (if p2 = (5 : Int32) then
  some (((sr (m1 1 4) p1) &&& (1 : Int32)), m1)
  else
  some ((-2 : Int32), m1)))))))))
set_option maxHeartbeats 4000000 in
set_option maxRecDepth 100000 in
theorem c_X12_of  {G : Nat} {μ : Mem} {p1 p2 : Int32} {r : Int32} {μr : Mem}  (h : f_X12_of G p1 p2 μ = some (r, μr)) : Cn yX12_of cX12_of 3 (some .int) 2 0 0 [.ref 0, .int p1, .int p2] shR μ (eqP (some r) shR μr) := by
  refine cn_of (own := RX12) (ini := false) (loc := [some (.ref 0), some (.int p1), some (.int p2)]) rfl (by decide) (fun q => by cases q) (Nat.le_of_ble_eq_true rfl) (by rfl) rfl ?_
  unfold f_X12_of at h
  refine ev_aload_n dX12_of_0 rfl ?_
  refine ev_iconst (v := (0 : Int32)) dX12_of_1 (by decide) ?_
  refine ev_putI fr_X12_149 shR_0 rfl rfl rfl dX12_of_2 ?_
  refine ev_aload_n dX12_of_5 rfl ?_
  refine ev_iload_n dX12_of_6 rfl ?_
  refine ev_cVi mv_X12_171 dX12_of_7 c_X12_isWoman rfl shR_0 rfl rfl (Nat.le_of_ble_eq_true rfl) (by rfl) (Nat.le_of_ble_eq_true rfl) (Nat.le_of_ble_eq_true rfl) (Nat.le_of_ble_eq_true rfl) ?_
  refine ev_if_ne (tgt := 16) dX12_of_10 (by decide) (fun hc2 => ?_) (fun hc2 => ?_)
  · replace h := ite_f hc2 h
    refine ev_iload_n dX12_of_16 rfl ?_
    refine ev_if_ne (tgt := 27) dX12_of_17 (by decide) (fun hc3 => ?_) (fun hc3 => ?_)
    · replace h := ite_f hc3 h
      refine ev_iload_n dX12_of_27 rfl ?_
      refine ev_iconst (v := (1 : Int32)) dX12_of_28 (by decide) ?_
      refine ev_icmp_ne (tgt := 39) dX12_of_29 (by decide) (fun hc4 => ?_) (fun hc4 => ?_)
      · replace h := ite_f hc4 h
        refine ev_iload_n dX12_of_39 rfl ?_
        refine ev_iconst (v := (2 : Int32)) dX12_of_40 (by decide) ?_
        refine ev_icmp_ne (tgt := 51) dX12_of_41 (by decide) (fun hc5 => ?_) (fun hc5 => ?_)
        · replace h := ite_f hc5 h
          refine ev_iload_n dX12_of_51 rfl ?_
          refine ev_iconst (v := (3 : Int32)) dX12_of_52 (by decide) ?_
          refine ev_icmp_ne (tgt := 67) dX12_of_53 (by decide) (fun hc6 => ?_) (fun hc6 => ?_)
          · replace h := ite_f hc6 h
            refine ev_iload_n dX12_of_67 rfl ?_
            refine ev_iconst (v := (4 : Int32)) dX12_of_68 (by decide) ?_
            refine ev_icmp_ne (tgt := 81) dX12_of_69 (by decide) (fun hc7 => ?_) (fun hc7 => ?_)
            · replace h := ite_f hc7 h
              refine ev_iload_n dX12_of_81 rfl ?_
              refine ev_iconst (v := (5 : Int32)) dX12_of_82 (by decide) ?_
              refine ev_icmp_ne (tgt := 99) dX12_of_83 (by decide) (fun hc8 => ?_) (fun hc8 => ?_)
              · replace h := ite_f hc8 h
                refine ev_bipush (v := (-2 : Int32)) dX12_of_99 (by decide) ?_
                exact ev_iret rfl rfl (by decide) (by decide) dX12_of_101 (eqP_E h)
              · replace h := ite_t hc8 h
                refine ev_aload_n dX12_of_86 rfl ?_
                refine ev_getR fr_X12_7 shR_0 rfl dX12_of_87 ?_
                refine ev_iconst (v := (4 : Int32)) dX12_of_90 (by decide) ?_
                refine ev_ialdL (j := 4) shR_1 (by decide) (vpl _ _ (by decide)) dX12_of_91 ?_
                refine ev_iload_n dX12_of_92 rfl ?_
                refine ev_ishr dX12_of_93 ?_
                refine ev_iconst (v := (1 : Int32)) dX12_of_94 (by decide) ?_
                refine ev_iand dX12_of_95 ?_
                refine ev_goto (tgt := 101) dX12_of_96 (by decide) ?_
                exact ev_iret rfl rfl (by decide) (by decide) dX12_of_101 (eqP_E h)
            · replace h := ite_t hc7 h
              refine ev_aload_n dX12_of_72 rfl ?_
              refine ev_getR fr_X12_77 shR_0 rfl dX12_of_73 ?_
              refine ev_iload_n dX12_of_76 rfl ?_
              obtain ⟨hi9, h⟩ := chk_t h
              refine ev_iald shR_22 hi9 dX12_of_77 ?_
              refine ev_goto (tgt := 101) dX12_of_78 (by decide) ?_
              exact ev_iret rfl rfl (by decide) (by decide) dX12_of_101 (eqP_E h)
          · replace h := ite_t hc6 h
            refine ev_aload_n dX12_of_56 rfl ?_
            refine ev_getR fr_X12_7 shR_0 rfl dX12_of_57 ?_
            refine ev_iconst (v := (5 : Int32)) dX12_of_60 (by decide) ?_
            refine ev_iload_n dX12_of_61 rfl ?_
            refine ev_iadd dX12_of_62 ?_
            obtain ⟨hi10, h⟩ := chk_t h
            refine ev_iald shR_1 hi10 dX12_of_63 ?_
            refine ev_iconst (v := (1 : Int32)) dX12_of_64 (by decide) ?_
            refine ev_isub dX12_of_65 ?_
            exact ev_iret rfl rfl (by decide) (by decide) dX12_of_66 (eqP_E h)
        · replace h := ite_t hc5 h
          refine ev_aload_n dX12_of_44 rfl ?_
          refine ev_getR fr_X12_25 shR_0 rfl dX12_of_45 ?_
          refine ev_iload_n dX12_of_48 rfl ?_
          obtain ⟨hi11, h⟩ := chk_t h
          refine ev_iald shR_6 hi11 dX12_of_49 ?_
          exact ev_iret rfl rfl (by decide) (by decide) dX12_of_50 (eqP_E h)
      · replace h := ite_t hc4 h
        refine ev_aload_n dX12_of_32 rfl ?_
        refine ev_getR fr_X12_22 shR_0 rfl dX12_of_33 ?_
        refine ev_iload_n dX12_of_36 rfl ?_
        obtain ⟨hi12, h⟩ := chk_t h
        refine ev_iald shR_5 hi12 dX12_of_37 ?_
        exact ev_iret rfl rfl (by decide) (by decide) dX12_of_38 (eqP_E h)
    · replace h := ite_t hc3 h
      refine ev_aload_n dX12_of_20 rfl ?_
      refine ev_getR fr_X12_19 shR_0 rfl dX12_of_21 ?_
      refine ev_iload_n dX12_of_24 rfl ?_
      obtain ⟨hi13, h⟩ := chk_t h
      refine ev_iald shR_4 hi13 dX12_of_25 ?_
      exact ev_iret rfl rfl (by decide) (by decide) dX12_of_26 (eqP_E h)
  · replace h := ite_t hc2 h
    refine ev_bipush (v := (-2 : Int32)) dX12_of_13 (by decide) ?_
    exact ev_iret rfl rfl (by decide) (by decide) dX12_of_15 (eqP_E h)
def f_X12_who (G : Nat) (p1 p2 : Int32) (μ : Mem) : Option (Int32 × Mem) :=
  (let m1 := wr μ 0 0 (0 : Int32)
  (if (f_X12_isGroom m1 p1) = (0 : Int32) then
  some ((-100 : Int32), m1)
  else
  (if p2 = (0 : Int32) then
  chk p1 8 (some ((m1 7 (ix p1)), m1))
  else
  (if p2 = (1 : Int32) then
  chk p1 8 (some ((m1 8 (ix p1)), m1))
  else
  (if p2 = (2 : Int32) then
  bndO (f_X12_wifeOf G m1 p1) (fun w17 =>
  some (w17, m1))
  else
  (if p2 = (3 : Int32) then
  chk ((25 : Int32) + p1) 49 (some ((m1 1 (ix ((25 : Int32) + p1))), m1))
  else
  (if p2 = (4 : Int32) then
  chk ((33 : Int32) + p1) 49 (some ((m1 1 (ix ((33 : Int32) + p1))), m1))
  else
  (if p2 = (5 : Int32) then
  chk ((41 : Int32) + p1) 49 (some ((m1 1 (ix ((41 : Int32) + p1))), m1))
  else
  (if (f_X12_isIn p2 (10 : Int32) ((9 : Int32) + (m1 0 6))) = (0 : Int32) then
  some ((-100 : Int32), m1)
  else
  bndE (f_X12_joyOf G p1 (p2 - (10 : Int32)) m1) (fun w12 m11 =>
  some (w12, m11)))))))))))
set_option maxHeartbeats 4000000 in
set_option maxRecDepth 100000 in
theorem c_X12_who  {G : Nat} {μ : Mem} {p1 p2 : Int32} {r : Int32} {μr : Mem}  (h : f_X12_who G p1 p2 μ = some (r, μr)) : Cn yX12_who cX12_who 3 (some .int) 6 0 0 [.ref 0, .int p1, .int p2] shR μ (eqP (some r) shR μr) := by
  refine cn_of (own := RX12) (ini := false) (loc := [some (.ref 0), some (.int p1), some (.int p2)]) rfl (by decide) (fun q => by cases q) (Nat.le_of_ble_eq_true rfl) (by rfl) rfl ?_
  unfold f_X12_who at h
  refine ev_aload_n dX12_who_0 rfl ?_
  refine ev_iconst (v := (0 : Int32)) dX12_who_1 (by decide) ?_
  refine ev_putI fr_X12_149 shR_0 rfl rfl rfl dX12_who_2 ?_
  refine ev_aload_n dX12_who_5 rfl ?_
  refine ev_iload_n dX12_who_6 rfl ?_
  refine ev_cVi mv_X12_175 dX12_who_7 c_X12_isGroom rfl shR_0 rfl rfl (Nat.le_of_ble_eq_true rfl) (by rfl) (Nat.le_of_ble_eq_true rfl) (Nat.le_of_ble_eq_true rfl) (Nat.le_of_ble_eq_true rfl) ?_
  refine ev_if_ne (tgt := 16) dX12_who_10 (by decide) (fun hc2 => ?_) (fun hc2 => ?_)
  · replace h := ite_f hc2 h
    refine ev_iload_n dX12_who_16 rfl ?_
    refine ev_if_ne (tgt := 27) dX12_who_17 (by decide) (fun hc3 => ?_) (fun hc3 => ?_)
    · replace h := ite_f hc3 h
      refine ev_iload_n dX12_who_27 rfl ?_
      refine ev_iconst (v := (1 : Int32)) dX12_who_28 (by decide) ?_
      refine ev_icmp_ne (tgt := 39) dX12_who_29 (by decide) (fun hc4 => ?_) (fun hc4 => ?_)
      · replace h := ite_f hc4 h
        refine ev_iload_n dX12_who_39 rfl ?_
        refine ev_iconst (v := (2 : Int32)) dX12_who_40 (by decide) ?_
        refine ev_icmp_ne (tgt := 50) dX12_who_41 (by decide) (fun hc5 => ?_) (fun hc5 => ?_)
        · replace h := ite_f hc5 h
          refine ev_iload_n dX12_who_50 rfl ?_
          refine ev_iconst (v := (3 : Int32)) dX12_who_51 (by decide) ?_
          refine ev_icmp_ne (tgt := 65) dX12_who_52 (by decide) (fun hc6 => ?_) (fun hc6 => ?_)
          · replace h := ite_f hc6 h
            refine ev_iload_n dX12_who_65 rfl ?_
            refine ev_iconst (v := (4 : Int32)) dX12_who_66 (by decide) ?_
            refine ev_icmp_ne (tgt := 80) dX12_who_67 (by decide) (fun hc7 => ?_) (fun hc7 => ?_)
            · replace h := ite_f hc7 h
              refine ev_iload_n dX12_who_80 rfl ?_
              refine ev_iconst (v := (5 : Int32)) dX12_who_81 (by decide) ?_
              refine ev_icmp_ne (tgt := 95) dX12_who_82 (by decide) (fun hc8 => ?_) (fun hc8 => ?_)
              · replace h := ite_f hc8 h
                refine ev_aload_n dX12_who_95 rfl ?_
                refine ev_iload_n dX12_who_96 rfl ?_
                refine ev_bipush (v := (10 : Int32)) dX12_who_97 (by decide) ?_
                refine ev_bipush (v := (9 : Int32)) dX12_who_99 (by decide) ?_
                refine ev_aload_n dX12_who_101 rfl ?_
                refine ev_getI fr_X12_161 shR_0 rfl dX12_who_102 ?_
                refine ev_iadd dX12_who_105 ?_
                refine ev_cVi mv_X12_167 dX12_who_106 c_X12_isIn rfl shR_0 rfl rfl (Nat.le_of_ble_eq_true rfl) (by rfl) (Nat.le_of_ble_eq_true rfl) (Nat.le_of_ble_eq_true rfl) (Nat.le_of_ble_eq_true rfl) ?_
                refine ev_if_eq (tgt := 124) dX12_who_109 (by decide) (fun hc9 => ?_) (fun hc9 => ?_)
                · replace h := ite_t hc9 h
                  refine ev_bipush (v := (-100 : Int32)) dX12_who_124 (by decide) ?_
                  exact ev_iret rfl rfl (by decide) (by decide) dX12_who_126 (eqP_E h)
                · replace h := ite_f hc9 h
                  refine ev_aload_n dX12_who_112 rfl ?_
                  refine ev_iload_n dX12_who_113 rfl ?_
                  refine ev_iload_n dX12_who_114 rfl ?_
                  refine ev_bipush (v := (10 : Int32)) dX12_who_115 (by decide) ?_
                  refine ev_isub dX12_who_117 ?_
                  obtain ⟨w12, m11, hq10, h⟩ := bndE_t h
                  refine ev_cVi mv_X12_403 dX12_who_118 (c_X12_joyOf hq10) rfl shR_0 rfl rfl (Nat.le_of_ble_eq_true rfl) (by rfl) (Nat.le_of_ble_eq_true rfl) (Nat.le_of_ble_eq_true rfl) (Nat.le_of_ble_eq_true rfl) ?_
                  refine ev_goto (tgt := 126) dX12_who_121 (by decide) ?_
                  exact ev_iret rfl rfl (by decide) (by decide) dX12_who_126 (eqP_E h)
              · replace h := ite_t hc8 h
                refine ev_aload_n dX12_who_85 rfl ?_
                refine ev_getR fr_X12_7 shR_0 rfl dX12_who_86 ?_
                refine ev_bipush (v := (41 : Int32)) dX12_who_89 (by decide) ?_
                refine ev_iload_n dX12_who_91 rfl ?_
                refine ev_iadd dX12_who_92 ?_
                obtain ⟨hi13, h⟩ := chk_t h
                refine ev_iald shR_1 hi13 dX12_who_93 ?_
                exact ev_iret rfl rfl (by decide) (by decide) dX12_who_94 (eqP_E h)
            · replace h := ite_t hc7 h
              refine ev_aload_n dX12_who_70 rfl ?_
              refine ev_getR fr_X12_7 shR_0 rfl dX12_who_71 ?_
              refine ev_bipush (v := (33 : Int32)) dX12_who_74 (by decide) ?_
              refine ev_iload_n dX12_who_76 rfl ?_
              refine ev_iadd dX12_who_77 ?_
              obtain ⟨hi14, h⟩ := chk_t h
              refine ev_iald shR_1 hi14 dX12_who_78 ?_
              exact ev_iret rfl rfl (by decide) (by decide) dX12_who_79 (eqP_E h)
          · replace h := ite_t hc6 h
            refine ev_aload_n dX12_who_55 rfl ?_
            refine ev_getR fr_X12_7 shR_0 rfl dX12_who_56 ?_
            refine ev_bipush (v := (25 : Int32)) dX12_who_59 (by decide) ?_
            refine ev_iload_n dX12_who_61 rfl ?_
            refine ev_iadd dX12_who_62 ?_
            obtain ⟨hi15, h⟩ := chk_t h
            refine ev_iald shR_1 hi15 dX12_who_63 ?_
            exact ev_iret rfl rfl (by decide) (by decide) dX12_who_64 (eqP_E h)
        · replace h := ite_t hc5 h
          refine ev_aload_n dX12_who_44 rfl ?_
          refine ev_iload_n dX12_who_45 rfl ?_
          obtain ⟨w17, hq16, h⟩ := bndO_t h
          refine ev_cVi mv_X12_381 dX12_who_46 (c_X12_wifeOf hq16) rfl shR_0 rfl rfl (Nat.le_of_ble_eq_true rfl) (by rfl) (Nat.le_of_ble_eq_true rfl) (Nat.le_of_ble_eq_true rfl) (Nat.le_of_ble_eq_true rfl) ?_
          exact ev_iret rfl rfl (by decide) (by decide) dX12_who_49 (eqP_E h)
      · replace h := ite_t hc4 h
        refine ev_aload_n dX12_who_32 rfl ?_
        refine ev_getR fr_X12_31 shR_0 rfl dX12_who_33 ?_
        refine ev_iload_n dX12_who_36 rfl ?_
        obtain ⟨hi18, h⟩ := chk_t h
        refine ev_iald shR_8 hi18 dX12_who_37 ?_
        exact ev_iret rfl rfl (by decide) (by decide) dX12_who_38 (eqP_E h)
    · replace h := ite_t hc3 h
      refine ev_aload_n dX12_who_20 rfl ?_
      refine ev_getR fr_X12_28 shR_0 rfl dX12_who_21 ?_
      refine ev_iload_n dX12_who_24 rfl ?_
      obtain ⟨hi19, h⟩ := chk_t h
      refine ev_iald shR_7 hi19 dX12_who_25 ?_
      exact ev_iret rfl rfl (by decide) (by decide) dX12_who_26 (eqP_E h)
  · replace h := ite_t hc2 h
    refine ev_bipush (v := (-100 : Int32)) dX12_who_13 (by decide) ?_
    exact ev_iret rfl rfl (by decide) (by decide) dX12_who_15 (eqP_E h)
end
