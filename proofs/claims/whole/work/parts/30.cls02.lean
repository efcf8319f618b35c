section
def f_X6_safeStakes_j116 (G : Nat) (μ : Mem)  (v1 v2 v3 v4 v6 : Int32) : Option Int32 :=
  (if v2 = (0 : Int32) then
  some v6
  else
  (if v2 = (10 : Int32) then
  bndO (f_X6_stakeFor G μ v6 v3) (fun w11 =>
  some w11)
  else
  (if v2 = (11 : Int32) then
  bndO (f_X6_stakeFor G μ v6 v4) (fun w14 =>
  some w14)
  else
  (if v2 = (12 : Int32) then
  bndO (f_X6_stakeFor G μ v6 v3) (fun w17 =>
  bndO (f_X6_stakeFor G μ v6 v4) (fun w19 =>
  some ((v1 - w17) - w19)))
  else
  some (-1 : Int32)))))
set_option maxHeartbeats 4000000 in
set_option maxRecDepth 100000 in
theorem f_X6_safeStakes_j116_ok {bb : Bool} {G : Nat} {μ : Mem} {r : Int32}    {v1 v2 v3 v4 v6 : Int32}  (h : f_X6_safeStakes_j116 G μ v1 v2 v3 v4 v6 = some r) : Ev RX6 cX6_safeStakes 10 (some .int) false 4 0 0 (eqP (some r) (shC bb) μ) 116 [none, some (.int v1), some (.int v2), some (.int v3), some (.int v4), none, some (.int v6), none, none, none] [] (shC bb) μ 0 0 := by
  unfold f_X6_safeStakes_j116 at h
  refine ev_iload_n dX6_safeStakes_116 rfl ?_
  refine ev_em (v := (0 : Int32)) (fun hc8 => ?_) (fun hc8 => ?_)
  · replace h := ite_t hc8 h
    refine ev_lsC (v := (0 : Int32)) (off := 43) (tgt := 160) dX6_safeStakes_117 (by decide) hc8 (by decide) (by decide) ?_
    refine ev_iload dX6_safeStakes_160 rfl ?_
    exact ev_iret rfl rfl (by decide) (by decide) dX6_safeStakes_162 (eqP_O h)
  · replace h := ite_f hc8 h
    refine ev_em (v := (10 : Int32)) (fun hc9 => ?_) (fun hc9 => ?_)
    · replace h := ite_t hc9 h
      refine ev_lsC (v := (10 : Int32)) (off := 46) (tgt := 163) dX6_safeStakes_117 (by decide) hc9 (by decide) (by decide) ?_
      refine ev_iload dX6_safeStakes_163 rfl ?_
      refine ev_iload_n dX6_safeStakes_165 rfl ?_
      obtain ⟨w11, hq10, h⟩ := bndO_t h
      refine ev_cSi mv_X6_47 dX6_safeStakes_166 (c_X6_stakeFor hq10) rfl rfl (Nat.le_of_ble_eq_true rfl) (by rfl) (Nat.le_of_ble_eq_true rfl) (Nat.le_of_ble_eq_true rfl) (Nat.le_of_ble_eq_true rfl) ?_
      exact ev_iret rfl rfl (by decide) (by decide) dX6_safeStakes_169 (eqP_O h)
    · replace h := ite_f hc9 h
      refine ev_em (v := (11 : Int32)) (fun hc12 => ?_) (fun hc12 => ?_)
      · replace h := ite_t hc12 h
        refine ev_lsC (v := (11 : Int32)) (off := 53) (tgt := 170) dX6_safeStakes_117 (by decide) hc12 (by decide) (by decide) ?_
        refine ev_iload dX6_safeStakes_170 rfl ?_
        refine ev_iload dX6_safeStakes_172 rfl ?_
        obtain ⟨w14, hq13, h⟩ := bndO_t h
        refine ev_cSi mv_X6_47 dX6_safeStakes_174 (c_X6_stakeFor hq13) rfl rfl (Nat.le_of_ble_eq_true rfl) (by rfl) (Nat.le_of_ble_eq_true rfl) (Nat.le_of_ble_eq_true rfl) (Nat.le_of_ble_eq_true rfl) ?_
        exact ev_iret rfl rfl (by decide) (by decide) dX6_safeStakes_177 (eqP_O h)
      · replace h := ite_f hc12 h
        refine ev_em (v := (12 : Int32)) (fun hc15 => ?_) (fun hc15 => ?_)
        · replace h := ite_t hc15 h
          refine ev_lsC (v := (12 : Int32)) (off := 61) (tgt := 178) dX6_safeStakes_117 (by decide) hc15 (by decide) (by decide) ?_
          refine ev_iload_n dX6_safeStakes_178 rfl ?_
          refine ev_iload dX6_safeStakes_179 rfl ?_
          refine ev_iload_n dX6_safeStakes_181 rfl ?_
          obtain ⟨w17, hq16, h⟩ := bndO_t h
          refine ev_cSi mv_X6_47 dX6_safeStakes_182 (c_X6_stakeFor hq16) rfl rfl (Nat.le_of_ble_eq_true rfl) (by rfl) (Nat.le_of_ble_eq_true rfl) (Nat.le_of_ble_eq_true rfl) (Nat.le_of_ble_eq_true rfl) ?_
          refine ev_isub dX6_safeStakes_185 ?_
          refine ev_iload dX6_safeStakes_186 rfl ?_
          refine ev_iload dX6_safeStakes_188 rfl ?_
          obtain ⟨w19, hq18, h⟩ := bndO_t h
          refine ev_cSi mv_X6_47 dX6_safeStakes_190 (c_X6_stakeFor hq18) rfl rfl (Nat.le_of_ble_eq_true rfl) (by rfl) (Nat.le_of_ble_eq_true rfl) (Nat.le_of_ble_eq_true rfl) (Nat.le_of_ble_eq_true rfl) ?_
          refine ev_isub dX6_safeStakes_193 ?_
          exact ev_iret rfl rfl (by decide) (by decide) dX6_safeStakes_194 (eqP_O h)
        · replace h := ite_f hc15 h
          refine ev_lsE (tgt := 195) dX6_safeStakes_117 (by decide) ⟨hc8, ⟨hc9, ⟨hc12, ⟨hc15, trivial⟩⟩⟩⟩ (by decide) ?_
          refine ev_iconst (v := (-1 : Int32)) dX6_safeStakes_195 (by decide) ?_
          exact ev_iret rfl rfl (by decide) (by decide) dX6_safeStakes_196 (eqP_O h)
def f_X6_safeStakes_j110 (G : Nat) (μ : Mem) (r48 : Int32 → Int32 → Int32 → Int32 → Int32 → Int32 → Int32 → Int32 → Option Int32) (k48_116 : Int32 → Int32 → Int32 → Int32 → Int32 → Option Int32) (v1 v2 v3 v4 v5 v6 v7 v8 : Int32) : Option Int32 :=
  r48 v1 v2 v3 v4 v5 v6 v7 (v8 + (1 : Int32))
set_option maxHeartbeats 4000000 in
set_option maxRecDepth 100000 in
theorem f_X6_safeStakes_j110_ok {bb : Bool} {G : Nat} {μ : Mem} {r : Int32}  {r48 : Int32 → Int32 → Int32 → Int32 → Int32 → Int32 → Int32 → Int32 → Option Int32} {k48_116 : Int32 → Int32 → Int32 → Int32 → Int32 → Option Int32} (hr48 : ∀ (v1 : Int32) (v2 : Int32) (v3 : Int32) (v4 : Int32) (v5 : Int32) (v6 : Int32) (v7 : Int32) (v8 : Int32), r48 v1 v2 v3 v4 v5 v6 v7 v8 = some r → Ev RX6 cX6_safeStakes 10 (some .int) false 4 0 0 (eqP (some r) (shC bb) μ) 48 [none, some (.int v1), some (.int v2), some (.int v3), some (.int v4), some (.int v5), some (.int v6), some (.int v7), some (.int v8), none] [] (shC bb) μ 0 0) (hk48_116 : ∀ (v1 : Int32) (v2 : Int32) (v3 : Int32) (v4 : Int32) (v6 : Int32), k48_116 v1 v2 v3 v4 v6 = some r → Ev RX6 cX6_safeStakes 10 (some .int) false 4 0 0 (eqP (some r) (shC bb) μ) 116 [none, some (.int v1), some (.int v2), some (.int v3), some (.int v4), none, some (.int v6), none, none, none] [] (shC bb) μ 0 0) {v1 v2 v3 v4 v5 v6 v7 v8 : Int32}  (h : f_X6_safeStakes_j110 G μ r48 k48_116 v1 v2 v3 v4 v5 v6 v7 v8 = some r) : Ev RX6 cX6_safeStakes 10 (some .int) false 4 0 0 (eqP (some r) (shC bb) μ) 110 [none, some (.int v1), some (.int v2), some (.int v3), some (.int v4), some (.int v5), some (.int v6), some (.int v7), some (.int v8), none] [] (shC bb) μ 0 0 := by
  unfold f_X6_safeStakes_j110 at h
  refine ev_iinc (cq := (1 : Int32)) (loc' := [_, _, _, _, _, _, _, _, _, _]) dX6_safeStakes_110 rfl (by decide) rfl (by decide) (by rfl) ?_
  refine ev_goto (tgt := 48) dX6_safeStakes_113 (by decide) ?_
  exact ev_lt (hr48 _ _ _ _ _ _ _ _ h) ⟨rfl, ⟨rfl, ⟨rfl, ⟨rfl, ⟨rfl, ⟨rfl, ⟨rfl, ⟨rfl, trivial⟩⟩⟩⟩⟩⟩⟩⟩
def f_X6_safeStakes_L48 (G : Nat) (μ : Mem) (k48_116 : Int32 → Int32 → Int32 → Int32 → Int32 → Option Int32) : Nat → Int32 → Int32 → Int32 → Int32 → Int32 → Int32 → Int32 → Int32 → Option Int32
  | 0, _, _, _, _, _, _, _, _ => none
  | g + 1, v1, v2, v3, v4, v5, v6, v7, v8 =>
  (if (20 : Int32) ≤ v8 then
  k48_116 v1 v2 v3 v4 v6
  else
  (if (v7 - v6) ≤ (1 : Int32) then
  k48_116 v1 v2 v3 v4 v6
  else
  bndO (f_X6_stakeFor G μ ((v6 + v7) / (2 : Int32)) v3) (fun w25 =>
  bndO (f_X6_stakeFor G μ ((v6 + v7) / (2 : Int32)) v4) (fun w27 =>
  bndO (f_X6_stakeFor G μ ((v6 + v7) / (2 : Int32)) v5) (fun w29 =>
  (if v1 < ((w25 + w27) + w29) then
  f_X6_safeStakes_j110 G μ (f_X6_safeStakes_L48 G μ k48_116 g) k48_116 v1 v2 v3 v4 v5 v6 ((v6 + v7) / (2 : Int32)) v8
  else
  f_X6_safeStakes_j110 G μ (f_X6_safeStakes_L48 G μ k48_116 g) k48_116 v1 v2 v3 v4 v5 ((v6 + v7) / (2 : Int32)) v7 v8))))))
set_option maxHeartbeats 4000000 in
set_option maxRecDepth 100000 in
theorem f_X6_safeStakes_L48_ok {bb : Bool} {G : Nat} {μ : Mem} {r : Int32}  {k48_116 : Int32 → Int32 → Int32 → Int32 → Int32 → Option Int32} (hk48_116 : ∀ (v1 : Int32) (v2 : Int32) (v3 : Int32) (v4 : Int32) (v6 : Int32), k48_116 v1 v2 v3 v4 v6 = some r → Ev RX6 cX6_safeStakes 10 (some .int) false 4 0 0 (eqP (some r) (shC bb) μ) 116 [none, some (.int v1), some (.int v2), some (.int v3), some (.int v4), none, some (.int v6), none, none, none] [] (shC bb) μ 0 0) : ∀ (g : Nat) (v1 v2 v3 v4 v5 v6 v7 v8 : Int32), f_X6_safeStakes_L48 G μ k48_116 g v1 v2 v3 v4 v5 v6 v7 v8 = some r → Ev RX6 cX6_safeStakes 10 (some .int) false 4 0 0 (eqP (some r) (shC bb) μ) 48 [none, some (.int v1), some (.int v2), some (.int v3), some (.int v4), some (.int v5), some (.int v6), some (.int v7), some (.int v8), none] [] (shC bb) μ 0 0 := by
  intro g
  induction g with
  | zero =>
    intro v1 v2 v3 v4 v5 v6 v7 v8 h
    cases h
  | succ g ih =>
    intro v1 v2 v3 v4 v5 v6 v7 v8 h
    rw [f_X6_safeStakes_L48] at h
    refine ev_iload dX6_safeStakes_48 rfl ?_
    refine ev_bipush (v := (20 : Int32)) dX6_safeStakes_50 (by decide) ?_
    refine ev_icmp_ge (tgt := 116) dX6_safeStakes_52 (by decide) (fun hc22 => ?_) (fun hc22 => ?_)
    · replace h := ite_t hc22 h
      exact ev_lt (hk48_116 _ _ _ _ _ h) ⟨rfl, ⟨rfl, ⟨rfl, ⟨rfl, ⟨rfl, trivial⟩⟩⟩⟩⟩
    · replace h := ite_f hc22 h
      refine ev_iload dX6_safeStakes_55 rfl ?_
      refine ev_iload dX6_safeStakes_57 rfl ?_
      refine ev_isub dX6_safeStakes_59 ?_
      refine ev_iconst (v := (1 : Int32)) dX6_safeStakes_60 (by decide) ?_
      refine ev_icmp_le (tgt := 116) dX6_safeStakes_61 (by decide) (fun hc23 => ?_) (fun hc23 => ?_)
      · replace h := ite_t hc23 h
        exact ev_lt (hk48_116 _ _ _ _ _ h) ⟨rfl, ⟨rfl, ⟨rfl, ⟨rfl, ⟨rfl, trivial⟩⟩⟩⟩⟩
      · replace h := ite_f hc23 h
        refine ev_iload dX6_safeStakes_64 rfl ?_
        refine ev_iload dX6_safeStakes_66 rfl ?_
        refine ev_iadd dX6_safeStakes_68 ?_
        refine ev_iconst (v := (2 : Int32)) dX6_safeStakes_69 (by decide) ?_
        refine ev_idiv dX6_safeStakes_70 (by decide) ?_
        refine ev_istore (loc' := [_, _, _, _, _, _, _, _, _, _]) dX6_safeStakes_71 rfl (by decide) (by rfl) ?_
        refine ev_iload dX6_safeStakes_73 rfl ?_
        refine ev_iload_n dX6_safeStakes_75 rfl ?_
        obtain ⟨w25, hq24, h⟩ := bndO_t h
        refine ev_cSi mv_X6_47 dX6_safeStakes_76 (c_X6_stakeFor hq24) rfl rfl (Nat.le_of_ble_eq_true rfl) (by rfl) (Nat.le_of_ble_eq_true rfl) (Nat.le_of_ble_eq_true rfl) (Nat.le_of_ble_eq_true rfl) ?_
        refine ev_iload dX6_safeStakes_79 rfl ?_
        refine ev_iload dX6_safeStakes_81 rfl ?_
        obtain ⟨w27, hq26, h⟩ := bndO_t h
        refine ev_cSi mv_X6_47 dX6_safeStakes_83 (c_X6_stakeFor hq26) rfl rfl (Nat.le_of_ble_eq_true rfl) (by rfl) (Nat.le_of_ble_eq_true rfl) (Nat.le_of_ble_eq_true rfl) (Nat.le_of_ble_eq_true rfl) ?_
        refine ev_iadd dX6_safeStakes_86 ?_
        refine ev_iload dX6_safeStakes_87 rfl ?_
        refine ev_iload dX6_safeStakes_89 rfl ?_
        obtain ⟨w29, hq28, h⟩ := bndO_t h
        refine ev_cSi mv_X6_47 dX6_safeStakes_91 (c_X6_stakeFor hq28) rfl rfl (Nat.le_of_ble_eq_true rfl) (by rfl) (Nat.le_of_ble_eq_true rfl) (Nat.le_of_ble_eq_true rfl) (Nat.le_of_ble_eq_true rfl) ?_
        refine ev_iadd dX6_safeStakes_94 ?_
        refine ev_iload_n dX6_safeStakes_95 rfl ?_
        refine ev_icmp_gt (tgt := 106) dX6_safeStakes_96 (by decide) (fun hc30 => ?_) (fun hc30 => ?_)
        · replace h := ite_t hc30 h
          refine ev_iload dX6_safeStakes_106 rfl ?_
          refine ev_istore (loc' := [_, _, _, _, _, _, _, _, _, _]) dX6_safeStakes_108 rfl (by decide) (by rfl) ?_
          exact ev_lt (f_X6_safeStakes_j110_ok ih hk48_116 h) ⟨rfl, ⟨rfl, ⟨rfl, ⟨rfl, ⟨rfl, ⟨rfl, ⟨rfl, ⟨rfl, trivial⟩⟩⟩⟩⟩⟩⟩⟩
        · replace h := ite_f hc30 h
          refine ev_iload dX6_safeStakes_99 rfl ?_
          refine ev_istore (loc' := [_, _, _, _, _, _, _, _, _, _]) dX6_safeStakes_101 rfl (by decide) (by rfl) ?_
          refine ev_goto (tgt := 110) dX6_safeStakes_103 (by decide) ?_
          exact ev_lt (f_X6_safeStakes_j110_ok ih hk48_116 h) ⟨rfl, ⟨rfl, ⟨rfl, ⟨rfl, ⟨rfl, ⟨rfl, ⟨rfl, ⟨rfl, trivial⟩⟩⟩⟩⟩⟩⟩⟩
def f_X6_safeStakes (G : Nat) (μ : Mem) (p1 p2 : Int32) : Option Int32 :=
  bndO (f_X6_bestOdds G μ (0 : Int32)) (fun w2 =>
  bndO (f_X6_bestOdds G μ (1 : Int32)) (fun w4 =>
  bndO (f_X6_bestOdds G μ (2 : Int32)) (fun w6 =>
  (if w2 ≤ (0 : Int32) then
  f_X6_safeStakes_j116 G μ p1 p2 w2 w4 (0 : Int32)
  else
  (if w4 ≤ (0 : Int32) then
  f_X6_safeStakes_j116 G μ p1 p2 w2 w4 (0 : Int32)
  else
  (if w6 ≤ (0 : Int32) then
  f_X6_safeStakes_j116 G μ p1 p2 w2 w4 (0 : Int32)
  else
  f_X6_safeStakes_L48 G μ (f_X6_safeStakes_j116 G μ) G p1 p2 w2 w4 w6 (0 : Int32) ((p1 * (100 : Int32)) + (1 : Int32)) (0 : Int32)))))))
set_option maxHeartbeats 4000000 in
set_option maxRecDepth 100000 in
theorem c_X6_safeStakes {bb : Bool} {G : Nat} {μ : Mem}  {p1 p2 : Int32} {r : Int32}  (h : f_X6_safeStakes G μ p1 p2 = some r) : Cn yX6_safeStakes cX6_safeStakes 10 (some .int) 4 0 0 [.ref 32, .int p1, .int p2] (shC bb) μ (eqP (some r) (shC bb) μ) := by
  refine cn_of (own := RX6) (ini := false) (loc := [some (.ref 32), some (.int p1), some (.int p2), none, none, none, none, none, none, none]) rfl (by decide) (fun q => by cases q) (Nat.le_of_ble_eq_true rfl) (by rfl) rfl ?_
  unfold f_X6_safeStakes at h
  refine ev_aload_n dX6_safeStakes_0 rfl ?_
  refine ev_iconst (v := (0 : Int32)) dX6_safeStakes_1 (by decide) ?_
  obtain ⟨w2, hq1, h⟩ := bndO_t h
  refine ev_cSi mv_X6_43 dX6_safeStakes_2 (c_X6_bestOdds hq1) rfl rfl (Nat.le_of_ble_eq_true rfl) (by rfl) (Nat.le_of_ble_eq_true rfl) (Nat.le_of_ble_eq_true rfl) (Nat.le_of_ble_eq_true rfl) ?_
  refine ev_istore_n (loc' := [_, _, _, _, _, _, _, _, _, _]) dX6_safeStakes_5 rfl (by decide) (by rfl) ?_
  refine ev_aload_n dX6_safeStakes_6 rfl ?_
  refine ev_iconst (v := (1 : Int32)) dX6_safeStakes_7 (by decide) ?_
  obtain ⟨w4, hq3, h⟩ := bndO_t h
  refine ev_cSi mv_X6_43 dX6_safeStakes_8 (c_X6_bestOdds hq3) rfl rfl (Nat.le_of_ble_eq_true rfl) (by rfl) (Nat.le_of_ble_eq_true rfl) (Nat.le_of_ble_eq_true rfl) (Nat.le_of_ble_eq_true rfl) ?_
  refine ev_istore (loc' := [_, _, _, _, _, _, _, _, _, _]) dX6_safeStakes_11 rfl (by decide) (by rfl) ?_
  refine ev_aload_n dX6_safeStakes_13 rfl ?_
  refine ev_iconst (v := (2 : Int32)) dX6_safeStakes_14 (by decide) ?_
  obtain ⟨w6, hq5, h⟩ := bndO_t h
  refine ev_cSi mv_X6_43 dX6_safeStakes_15 (c_X6_bestOdds hq5) rfl rfl (Nat.le_of_ble_eq_true rfl) (by rfl) (Nat.le_of_ble_eq_true rfl) (Nat.le_of_ble_eq_true rfl) (Nat.le_of_ble_eq_true rfl) ?_
  refine ev_istore (loc' := [_, _, _, _, _, _, _, _, _, _]) dX6_safeStakes_18 rfl (by decide) (by rfl) ?_
  refine ev_iconst (v := (0 : Int32)) dX6_safeStakes_20 (by decide) ?_
  refine ev_istore (loc' := [_, _, _, _, _, _, _, _, _, _]) dX6_safeStakes_21 rfl (by decide) (by rfl) ?_
  refine ev_iload_n dX6_safeStakes_23 rfl ?_
  refine ev_if_le (tgt := 116) dX6_safeStakes_24 (by decide) (fun hc7 => ?_) (fun hc7 => ?_)
  · replace h := ite_t hc7 h
    exact ev_lt (f_X6_safeStakes_j116_ok h) ⟨rfl, ⟨rfl, ⟨rfl, ⟨rfl, ⟨rfl, trivial⟩⟩⟩⟩⟩
  · replace h := ite_f hc7 h
    refine ev_iload dX6_safeStakes_27 rfl ?_
    refine ev_if_le (tgt := 116) dX6_safeStakes_29 (by decide) (fun hc20 => ?_) (fun hc20 => ?_)
    · replace h := ite_t hc20 h
      exact ev_lt (f_X6_safeStakes_j116_ok h) ⟨rfl, ⟨rfl, ⟨rfl, ⟨rfl, ⟨rfl, trivial⟩⟩⟩⟩⟩
    · replace h := ite_f hc20 h
      refine ev_iload dX6_safeStakes_32 rfl ?_
      refine ev_if_le (tgt := 116) dX6_safeStakes_34 (by decide) (fun hc21 => ?_) (fun hc21 => ?_)
      · replace h := ite_t hc21 h
        exact ev_lt (f_X6_safeStakes_j116_ok h) ⟨rfl, ⟨rfl, ⟨rfl, ⟨rfl, ⟨rfl, trivial⟩⟩⟩⟩⟩
      · replace h := ite_f hc21 h
        refine ev_iload_n dX6_safeStakes_37 rfl ?_
        refine ev_bipush (v := (100 : Int32)) dX6_safeStakes_38 (by decide) ?_
        refine ev_imul dX6_safeStakes_40 ?_
        refine ev_iconst (v := (1 : Int32)) dX6_safeStakes_41 (by decide) ?_
        refine ev_iadd dX6_safeStakes_42 ?_
        refine ev_istore (loc' := [_, _, _, _, _, _, _, _, _, _]) dX6_safeStakes_43 rfl (by decide) (by rfl) ?_
        refine ev_iconst (v := (0 : Int32)) dX6_safeStakes_45 (by decide) ?_
        refine ev_istore (loc' := [_, _, _, _, _, _, _, _, _, _]) dX6_safeStakes_46 rfl (by decide) (by rfl) ?_
        exact ev_lt (f_X6_safeStakes_L48_ok (fun _ _ _ _ _ hh => f_X6_safeStakes_j116_ok hh) _ _ _ _ _ _ _ _ _ h) ⟨rfl, ⟨rfl, ⟨rfl, ⟨rfl, ⟨rfl, ⟨rfl, ⟨rfl, ⟨rfl, trivial⟩⟩⟩⟩⟩⟩⟩⟩
def f_X6_mostAlike_j53 (G : Nat) (μ : Mem) (r4 : Int32 → Int32 → Int32 → Option Int32) (r18 : Int32 → Int32 → Int32 → Int32 → Int32 → Option Int32) (k18_59 : Int32 → Int32 → Int32 → Int32 → Option Int32) (v1 v2 v3 v4 v5 : Int32) : Option Int32 :=
  r18 v1 v2 v3 v4 (v5 + (1 : Int32))
set_option maxHeartbeats 4000000 in
set_option maxRecDepth 100000 in
theorem f_X6_mostAlike_j53_ok {bb : Bool} {G : Nat} {μ : Mem} {r : Int32}  {r4 : Int32 → Int32 → Int32 → Option Int32} {r18 : Int32 → Int32 → Int32 → Int32 → Int32 → Option Int32} {k18_59 : Int32 → Int32 → Int32 → Int32 → Option Int32} (hr4 : ∀ (v1 : Int32) (v2 : Int32) (v3 : Int32), r4 v1 v2 v3 = some r → Ev RX6 cX6_mostAlike 6 (some .int) false 3 0 0 (eqP (some r) (shC bb) μ) 4 [some (.ref 36), some (.int v1), some (.int v2), some (.int v3), none, none] [] (shC bb) μ 0 0) (hr18 : ∀ (v1 : Int32) (v2 : Int32) (v3 : Int32) (v4 : Int32) (v5 : Int32), r18 v1 v2 v3 v4 v5 = some r → Ev RX6 cX6_mostAlike 6 (some .int) false 3 0 0 (eqP (some r) (shC bb) μ) 18 [some (.ref 36), some (.int v1), some (.int v2), some (.int v3), some (.int v4), some (.int v5)] [] (shC bb) μ 0 0) (hk18_59 : ∀ (v1 : Int32) (v2 : Int32) (v3 : Int32) (v4 : Int32), k18_59 v1 v2 v3 v4 = some r → Ev RX6 cX6_mostAlike 6 (some .int) false 3 0 0 (eqP (some r) (shC bb) μ) 59 [some (.ref 36), some (.int v1), some (.int v2), some (.int v3), some (.int v4), none] [] (shC bb) μ 0 0) {v1 v2 v3 v4 v5 : Int32}  (h : f_X6_mostAlike_j53 G μ r4 r18 k18_59 v1 v2 v3 v4 v5 = some r) : Ev RX6 cX6_mostAlike 6 (some .int) false 3 0 0 (eqP (some r) (shC bb) μ) 53 [some (.ref 36), some (.int v1), some (.int v2), some (.int v3), some (.int v4), some (.int v5)] [] (shC bb) μ 0 0 := by
  unfold f_X6_mostAlike_j53 at h
  refine ev_iinc (cq := (1 : Int32)) (loc' := [_, _, _, _, _, _]) dX6_mostAlike_53 rfl (by decide) rfl (by decide) (by rfl) ?_
  refine ev_goto (tgt := 18) dX6_mostAlike_56 (by decide) ?_
  exact ev_lt (hr18 _ _ _ _ _ h) ⟨rfl, ⟨rfl, ⟨rfl, ⟨rfl, ⟨rfl, ⟨rfl, trivial⟩⟩⟩⟩⟩⟩
def f_X6_mostAlike_L18 (G : Nat) (μ : Mem) (r4 : Int32 → Int32 → Int32 → Option Int32) (k18_59 : Int32 → Int32 → Int32 → Int32 → Option Int32) : Nat → Int32 → Int32 → Int32 → Int32 → Int32 → Option Int32
  | 0, _, _, _, _, _ => none
  | g + 1, v1, v2, v3, v4, v5 =>
  (if (μ 36 3) ≤ v5 then
  k18_59 v1 v2 v3 v4
  else
  bndO (f_X2_at G 36 12 μ v5 (0 : Int32)) (fun w4 =>
  bndO (f_X2_at G 36 12 μ v3 (0 : Int32)) (fun w6 =>
  (if (f_X11_isBelow (w4 - w6) (v1 + (1 : Int32))) = (0 : Int32) then
  f_X6_mostAlike_j53 G μ r4 (f_X6_mostAlike_L18 G μ r4 k18_59 g) k18_59 v1 v2 v3 v4 v5
  else
  f_X6_mostAlike_j53 G μ r4 (f_X6_mostAlike_L18 G μ r4 k18_59 g) k18_59 v1 v2 v3 (v4 + (1 : Int32)) v5))))
set_option maxHeartbeats 4000000 in
set_option maxRecDepth 100000 in
theorem f_X6_mostAlike_L18_ok {bb : Bool} {G : Nat} {μ : Mem} {r : Int32}  {r4 : Int32 → Int32 → Int32 → Option Int32} {k18_59 : Int32 → Int32 → Int32 → Int32 → Option Int32} (hr4 : ∀ (v1 : Int32) (v2 : Int32) (v3 : Int32), r4 v1 v2 v3 = some r → Ev RX6 cX6_mostAlike 6 (some .int) false 3 0 0 (eqP (some r) (shC bb) μ) 4 [some (.ref 36), some (.int v1), some (.int v2), some (.int v3), none, none] [] (shC bb) μ 0 0) (hk18_59 : ∀ (v1 : Int32) (v2 : Int32) (v3 : Int32) (v4 : Int32), k18_59 v1 v2 v3 v4 = some r → Ev RX6 cX6_mostAlike 6 (some .int) false 3 0 0 (eqP (some r) (shC bb) μ) 59 [some (.ref 36), some (.int v1), some (.int v2), some (.int v3), some (.int v4), none] [] (shC bb) μ 0 0) : ∀ (g : Nat) (v1 v2 v3 v4 v5 : Int32), f_X6_mostAlike_L18 G μ r4 k18_59 g v1 v2 v3 v4 v5 = some r → Ev RX6 cX6_mostAlike 6 (some .int) false 3 0 0 (eqP (some r) (shC bb) μ) 18 [some (.ref 36), some (.int v1), some (.int v2), some (.int v3), some (.int v4), some (.int v5)] [] (shC bb) μ 0 0 := by
  intro g
  induction g with
  | zero =>
    intro v1 v2 v3 v4 v5 h
    cases h
  | succ g ih =>
    intro v1 v2 v3 v4 v5 h
    rw [f_X6_mostAlike_L18] at h
    refine ev_iload dX6_mostAlike_18 rfl ?_
    refine ev_aload_n dX6_mostAlike_20 rfl ?_
    refine ev_getI fr_X6_34 shC_36 rfl dX6_mostAlike_21 ?_
    refine ev_icmp_ge (tgt := 59) dX6_mostAlike_24 (by decide) (fun hc2 => ?_) (fun hc2 => ?_)
    · replace h := ite_t hc2 h
      exact ev_lt (hk18_59 _ _ _ _ h) ⟨rfl, ⟨rfl, ⟨rfl, ⟨rfl, ⟨rfl, trivial⟩⟩⟩⟩⟩
    · replace h := ite_f hc2 h
      refine ev_aload_n dX6_mostAlike_27 rfl ?_
      refine ev_iload dX6_mostAlike_28 rfl ?_
      refine ev_iconst (v := (0 : Int32)) dX6_mostAlike_30 (by decide) ?_
      obtain ⟨w4, hq3, h⟩ := bndO_t h
      refine ev_cVi mv_X6_40 dX6_mostAlike_31 (c_X2_at atC_36 hq3) rfl shC_36 rfl rfl (Nat.le_of_ble_eq_true rfl) (by rfl) (Nat.le_of_ble_eq_true rfl) (Nat.le_of_ble_eq_true rfl) (Nat.le_of_ble_eq_true rfl) ?_
      refine ev_aload_n dX6_mostAlike_34 rfl ?_
      refine ev_iload_n dX6_mostAlike_35 rfl ?_
      refine ev_iconst (v := (0 : Int32)) dX6_mostAlike_36 (by decide) ?_
      obtain ⟨w6, hq5, h⟩ := bndO_t h
      refine ev_cVi mv_X6_40 dX6_mostAlike_37 (c_X2_at atC_36 hq5) rfl shC_36 rfl rfl (Nat.le_of_ble_eq_true rfl) (by rfl) (Nat.le_of_ble_eq_true rfl) (Nat.le_of_ble_eq_true rfl) (Nat.le_of_ble_eq_true rfl) ?_
      refine ev_isub dX6_mostAlike_40 ?_
      refine ev_iload_n dX6_mostAlike_41 rfl ?_
      refine ev_iconst (v := (1 : Int32)) dX6_mostAlike_42 (by decide) ?_
      refine ev_iadd dX6_mostAlike_43 ?_
      refine ev_cNi mv_X6_27 dX6_mostAlike_44 c_X11_isBelow rfl rfl (Nat.le_of_ble_eq_true rfl) (by rfl) (Nat.le_of_ble_eq_true rfl) (Nat.le_of_ble_eq_true rfl) (Nat.le_of_ble_eq_true rfl) ?_
      refine ev_if_eq (tgt := 53) dX6_mostAlike_47 (by decide) (fun hc7 => ?_) (fun hc7 => ?_)
      · replace h := ite_t hc7 h
        exact ev_lt (f_X6_mostAlike_j53_ok hr4 ih hk18_59 h) ⟨rfl, ⟨rfl, ⟨rfl, ⟨rfl, ⟨rfl, ⟨rfl, trivial⟩⟩⟩⟩⟩⟩
      · replace h := ite_f hc7 h
        refine ev_iinc (cq := (1 : Int32)) (loc' := [_, _, _, _, _, _]) dX6_mostAlike_50 rfl (by decide) rfl (by decide) (by rfl) ?_
        exact ev_lt (f_X6_mostAlike_j53_ok hr4 ih hk18_59 h) ⟨rfl, ⟨rfl, ⟨rfl, ⟨rfl, ⟨rfl, ⟨rfl, trivial⟩⟩⟩⟩⟩⟩
def f_X6_mostAlike_j59 (G : Nat) (μ : Mem) (r4 : Int32 → Int32 → Int32 → Option Int32) (v1 v2 v3 v4 : Int32) : Option Int32 :=
  r4 v1 (imax v2 v4) (v3 + (1 : Int32))
set_option maxHeartbeats 4000000 in
set_option maxRecDepth 100000 in
theorem f_X6_mostAlike_j59_ok {bb : Bool} {G : Nat} {μ : Mem} {r : Int32}  {r4 : Int32 → Int32 → Int32 → Option Int32} (hr4 : ∀ (v1 : Int32) (v2 : Int32) (v3 : Int32), r4 v1 v2 v3 = some r → Ev RX6 cX6_mostAlike 6 (some .int) false 3 0 0 (eqP (some r) (shC bb) μ) 4 [some (.ref 36), some (.int v1), some (.int v2), some (.int v3), none, none] [] (shC bb) μ 0 0) {v1 v2 v3 v4 : Int32}  (h : f_X6_mostAlike_j59 G μ r4 v1 v2 v3 v4 = some r) : Ev RX6 cX6_mostAlike 6 (some .int) false 3 0 0 (eqP (some r) (shC bb) μ) 59 [some (.ref 36), some (.int v1), some (.int v2), some (.int v3), some (.int v4), none] [] (shC bb) μ 0 0 := by
  unfold f_X6_mostAlike_j59 at h
  refine ev_iload_n dX6_mostAlike_59 rfl ?_
  refine ev_iload dX6_mostAlike_60 rfl ?_
  refine ev_max mm_X6_50 dX6_mostAlike_62 (Nat.le_of_ble_eq_true rfl) (by rfl) (Nat.le_of_ble_eq_true rfl) (Nat.le_of_ble_eq_true rfl) (Nat.le_of_ble_eq_true rfl) ?_
  refine ev_istore_n (loc' := [_, _, _, _, _, _]) dX6_mostAlike_65 rfl (by decide) (by rfl) ?_
  refine ev_iinc (cq := (1 : Int32)) (loc' := [_, _, _, _, _, _]) dX6_mostAlike_66 rfl (by decide) rfl (by decide) (by rfl) ?_
  refine ev_goto (tgt := 4) dX6_mostAlike_69 (by decide) ?_
  exact ev_lt (hr4 _ _ _ h) ⟨rfl, ⟨rfl, ⟨rfl, ⟨rfl, trivial⟩⟩⟩⟩
def f_X6_mostAlike_L4 (G : Nat) (μ : Mem)  : Nat → Int32 → Int32 → Int32 → Option Int32
  | 0, _, _, _ => none
  | g + 1, v1, v2, v3 =>
  (if (μ 36 3) ≤ v3 then
  some v2
  else
  f_X6_mostAlike_L18 G μ (f_X6_mostAlike_L4 G μ g) (f_X6_mostAlike_j59 G μ (f_X6_mostAlike_L4 G μ g)) G v1 v2 v3 (0 : Int32) (0 : Int32))
set_option maxHeartbeats 4000000 in
set_option maxRecDepth 100000 in
theorem f_X6_mostAlike_L4_ok {bb : Bool} {G : Nat} {μ : Mem} {r : Int32}    : ∀ (g : Nat) (v1 v2 v3 : Int32), f_X6_mostAlike_L4 G μ g v1 v2 v3 = some r → Ev RX6 cX6_mostAlike 6 (some .int) false 3 0 0 (eqP (some r) (shC bb) μ) 4 [some (.ref 36), some (.int v1), some (.int v2), some (.int v3), none, none] [] (shC bb) μ 0 0 := by
  intro g
  induction g with
  | zero =>
    intro v1 v2 v3 h
    cases h
  | succ g ih =>
    intro v1 v2 v3 h
    rw [f_X6_mostAlike_L4] at h
    refine ev_iload_n dX6_mostAlike_4 rfl ?_
    refine ev_aload_n dX6_mostAlike_5 rfl ?_
    refine ev_getI fr_X6_34 shC_36 rfl dX6_mostAlike_6 ?_
    refine ev_icmp_ge (tgt := 72) dX6_mostAlike_9 (by decide) (fun hc1 => ?_) (fun hc1 => ?_)
    · replace h := ite_t hc1 h
      refine ev_iload_n dX6_mostAlike_72 rfl ?_
      exact ev_iret rfl rfl (by decide) (by decide) dX6_mostAlike_73 (eqP_O h)
    · replace h := ite_f hc1 h
      refine ev_iconst (v := (0 : Int32)) dX6_mostAlike_12 (by decide) ?_
      refine ev_istore (loc' := [_, _, _, _, _, _]) dX6_mostAlike_13 rfl (by decide) (by rfl) ?_
      refine ev_iconst (v := (0 : Int32)) dX6_mostAlike_15 (by decide) ?_
      refine ev_istore (loc' := [_, _, _, _, _, _]) dX6_mostAlike_16 rfl (by decide) (by rfl) ?_
      exact ev_lt (f_X6_mostAlike_L18_ok ih (fun _ _ _ _ hh => f_X6_mostAlike_j59_ok ih hh) _ _ _ _ _ _ h) ⟨rfl, ⟨rfl, ⟨rfl, ⟨rfl, ⟨rfl, ⟨rfl, trivial⟩⟩⟩⟩⟩⟩
def f_X6_mostAlike (G : Nat) (μ : Mem) (p1 : Int32) : Option Int32 :=
  f_X6_mostAlike_L4 G μ G p1 (0 : Int32) (0 : Int32)
set_option maxHeartbeats 4000000 in
set_option maxRecDepth 100000 in
theorem c_X6_mostAlike {bb : Bool} {G : Nat} {μ : Mem}  {p1 : Int32} {r : Int32}  (h : f_X6_mostAlike G μ p1 = some r) : Cn yX6_mostAlike cX6_mostAlike 6 (some .int) 3 0 0 [.ref 36, .int p1] (shC bb) μ (eqP (some r) (shC bb) μ) := by
  refine cn_of (own := RX6) (ini := false) (loc := [some (.ref 36), some (.int p1), none, none, none, none]) rfl (by decide) (fun q => by cases q) (Nat.le_of_ble_eq_true rfl) (by rfl) rfl ?_
  unfold f_X6_mostAlike at h
  refine ev_iconst (v := (0 : Int32)) dX6_mostAlike_0 (by decide) ?_
  refine ev_istore_n (loc' := [_, _, _, _, _, _]) dX6_mostAlike_1 rfl (by decide) (by rfl) ?_
  refine ev_iconst (v := (0 : Int32)) dX6_mostAlike_2 (by decide) ?_
  refine ev_istore_n (loc' := [_, _, _, _, _, _]) dX6_mostAlike_3 rfl (by decide) (by rfl) ?_
  exact ev_lt (f_X6_mostAlike_L4_ok _ _ _ _ h) ⟨rfl, ⟨rfl, ⟨rfl, ⟨rfl, trivial⟩⟩⟩⟩
def f_X6_couplesAlike_j45 (G : Nat) (μ : Mem) (r4 : Int32 → Int32 → Int32 → Option Int32) (r15 : Int32 → Int32 → Int32 → Int32 → Option Int32) (k15_51 : Int32 → Int32 → Int32 → Option Int32) (v1 v2 v3 v4 : Int32) : Option Int32 :=
  r15 v1 v2 v3 (v4 + (1 : Int32))
set_option maxHeartbeats 4000000 in
set_option maxRecDepth 100000 in
theorem f_X6_couplesAlike_j45_ok {bb : Bool} {G : Nat} {μ : Mem} {r : Int32}  {r4 : Int32 → Int32 → Int32 → Option Int32} {r15 : Int32 → Int32 → Int32 → Int32 → Option Int32} {k15_51 : Int32 → Int32 → Int32 → Option Int32} (hr4 : ∀ (v1 : Int32) (v2 : Int32) (v3 : Int32), r4 v1 v2 v3 = some r → Ev RX6 cX6_couplesAlike 5 (some .int) false 3 0 0 (eqP (some r) (shC bb) μ) 4 [some (.ref 36), some (.int v1), some (.int v2), some (.int v3), none] [] (shC bb) μ 0 0) (hr15 : ∀ (v1 : Int32) (v2 : Int32) (v3 : Int32) (v4 : Int32), r15 v1 v2 v3 v4 = some r → Ev RX6 cX6_couplesAlike 5 (some .int) false 3 0 0 (eqP (some r) (shC bb) μ) 15 [some (.ref 36), some (.int v1), some (.int v2), some (.int v3), some (.int v4)] [] (shC bb) μ 0 0) (hk15_51 : ∀ (v1 : Int32) (v2 : Int32) (v3 : Int32), k15_51 v1 v2 v3 = some r → Ev RX6 cX6_couplesAlike 5 (some .int) false 3 0 0 (eqP (some r) (shC bb) μ) 51 [some (.ref 36), some (.int v1), some (.int v2), some (.int v3), none] [] (shC bb) μ 0 0) {v1 v2 v3 v4 : Int32}  (h : f_X6_couplesAlike_j45 G μ r4 r15 k15_51 v1 v2 v3 v4 = some r) : Ev RX6 cX6_couplesAlike 5 (some .int) false 3 0 0 (eqP (some r) (shC bb) μ) 45 [some (.ref 36), some (.int v1), some (.int v2), some (.int v3), some (.int v4)] [] (shC bb) μ 0 0 := by
  unfold f_X6_couplesAlike_j45 at h
  refine ev_iinc (cq := (1 : Int32)) (loc' := [_, _, _, _, _]) dX6_couplesAlike_45 rfl (by decide) rfl (by decide) (by rfl) ?_
  refine ev_goto (tgt := 15) dX6_couplesAlike_48 (by decide) ?_
  exact ev_lt (hr15 _ _ _ _ h) ⟨rfl, ⟨rfl, ⟨rfl, ⟨rfl, ⟨rfl, trivial⟩⟩⟩⟩⟩
def f_X6_couplesAlike_L15 (G : Nat) (μ : Mem) (r4 : Int32 → Int32 → Int32 → Option Int32) (k15_51 : Int32 → Int32 → Int32 → Option Int32) : Nat → Int32 → Int32 → Int32 → Int32 → Option Int32
  | 0, _, _, _, _ => none
  | g + 1, v1, v2, v3, v4 =>
  (if v3 ≤ v4 then
  k15_51 v1 v2 v3
  else
  bndO (f_X2_at G 36 12 μ v3 (0 : Int32)) (fun w4 =>
  bndO (f_X2_at G 36 12 μ v4 (0 : Int32)) (fun w6 =>
  (if v1 < (iabs (w4 - w6)) then
  f_X6_couplesAlike_j45 G μ r4 (f_X6_couplesAlike_L15 G μ r4 k15_51 g) k15_51 v1 v2 v3 v4
  else
  f_X6_couplesAlike_j45 G μ r4 (f_X6_couplesAlike_L15 G μ r4 k15_51 g) k15_51 v1 (v2 + (1 : Int32)) v3 v4))))
set_option maxHeartbeats 4000000 in
set_option maxRecDepth 100000 in
theorem f_X6_couplesAlike_L15_ok {bb : Bool} {G : Nat} {μ : Mem} {r : Int32}  {r4 : Int32 → Int32 → Int32 → Option Int32} {k15_51 : Int32 → Int32 → Int32 → Option Int32} (hr4 : ∀ (v1 : Int32) (v2 : Int32) (v3 : Int32), r4 v1 v2 v3 = some r → Ev RX6 cX6_couplesAlike 5 (some .int) false 3 0 0 (eqP (some r) (shC bb) μ) 4 [some (.ref 36), some (.int v1), some (.int v2), some (.int v3), none] [] (shC bb) μ 0 0) (hk15_51 : ∀ (v1 : Int32) (v2 : Int32) (v3 : Int32), k15_51 v1 v2 v3 = some r → Ev RX6 cX6_couplesAlike 5 (some .int) false 3 0 0 (eqP (some r) (shC bb) μ) 51 [some (.ref 36), some (.int v1), some (.int v2), some (.int v3), none] [] (shC bb) μ 0 0) : ∀ (g : Nat) (v1 v2 v3 v4 : Int32), f_X6_couplesAlike_L15 G μ r4 k15_51 g v1 v2 v3 v4 = some r → Ev RX6 cX6_couplesAlike 5 (some .int) false 3 0 0 (eqP (some r) (shC bb) μ) 15 [some (.ref 36), some (.int v1), some (.int v2), some (.int v3), some (.int v4)] [] (shC bb) μ 0 0 := by
  intro g
  induction g with
  | zero =>
    intro v1 v2 v3 v4 h
    cases h
  | succ g ih =>
    intro v1 v2 v3 v4 h
    rw [f_X6_couplesAlike_L15] at h
    refine ev_iload dX6_couplesAlike_15 rfl ?_
    refine ev_iload_n dX6_couplesAlike_17 rfl ?_
    refine ev_icmp_ge (tgt := 51) dX6_couplesAlike_18 (by decide) (fun hc2 => ?_) (fun hc2 => ?_)
    · replace h := ite_t hc2 h
      exact ev_lt (hk15_51 _ _ _ h) ⟨rfl, ⟨rfl, ⟨rfl, ⟨rfl, trivial⟩⟩⟩⟩
    · replace h := ite_f hc2 h
      refine ev_aload_n dX6_couplesAlike_21 rfl ?_
      refine ev_iload_n dX6_couplesAlike_22 rfl ?_
      refine ev_iconst (v := (0 : Int32)) dX6_couplesAlike_23 (by decide) ?_
      obtain ⟨w4, hq3, h⟩ := bndO_t h
      refine ev_cVi mv_X6_40 dX6_couplesAlike_24 (c_X2_at atC_36 hq3) rfl shC_36 rfl rfl (Nat.le_of_ble_eq_true rfl) (by rfl) (Nat.le_of_ble_eq_true rfl) (Nat.le_of_ble_eq_true rfl) (Nat.le_of_ble_eq_true rfl) ?_
      refine ev_aload_n dX6_couplesAlike_27 rfl ?_
      refine ev_iload dX6_couplesAlike_28 rfl ?_
      refine ev_iconst (v := (0 : Int32)) dX6_couplesAlike_30 (by decide) ?_
      obtain ⟨w6, hq5, h⟩ := bndO_t h
      refine ev_cVi mv_X6_40 dX6_couplesAlike_31 (c_X2_at atC_36 hq5) rfl shC_36 rfl rfl (Nat.le_of_ble_eq_true rfl) (by rfl) (Nat.le_of_ble_eq_true rfl) (Nat.le_of_ble_eq_true rfl) (Nat.le_of_ble_eq_true rfl) ?_
      refine ev_isub dX6_couplesAlike_34 ?_
      refine ev_abs mm_X6_53 dX6_couplesAlike_35 (Nat.le_of_ble_eq_true rfl) (by rfl) (Nat.le_of_ble_eq_true rfl) (Nat.le_of_ble_eq_true rfl) (Nat.le_of_ble_eq_true rfl) ?_
      refine ev_iload_n dX6_couplesAlike_38 rfl ?_
      refine ev_icmp_gt (tgt := 45) dX6_couplesAlike_39 (by decide) (fun hc7 => ?_) (fun hc7 => ?_)
      · replace h := ite_t hc7 h
        exact ev_lt (f_X6_couplesAlike_j45_ok hr4 ih hk15_51 h) ⟨rfl, ⟨rfl, ⟨rfl, ⟨rfl, ⟨rfl, trivial⟩⟩⟩⟩⟩
      · replace h := ite_f hc7 h
        refine ev_iinc (cq := (1 : Int32)) (loc' := [_, _, _, _, _]) dX6_couplesAlike_42 rfl (by decide) rfl (by decide) (by rfl) ?_
        exact ev_lt (f_X6_couplesAlike_j45_ok hr4 ih hk15_51 h) ⟨rfl, ⟨rfl, ⟨rfl, ⟨rfl, ⟨rfl, trivial⟩⟩⟩⟩⟩
def f_X6_couplesAlike_j51 (G : Nat) (μ : Mem) (r4 : Int32 → Int32 → Int32 → Option Int32) (v1 v2 v3 : Int32) : Option Int32 :=
  r4 v1 v2 (v3 + (1 : Int32))
set_option maxHeartbeats 4000000 in
set_option maxRecDepth 100000 in
theorem f_X6_couplesAlike_j51_ok {bb : Bool} {G : Nat} {μ : Mem} {r : Int32}  {r4 : Int32 → Int32 → Int32 → Option Int32} (hr4 : ∀ (v1 : Int32) (v2 : Int32) (v3 : Int32), r4 v1 v2 v3 = some r → Ev RX6 cX6_couplesAlike 5 (some .int) false 3 0 0 (eqP (some r) (shC bb) μ) 4 [some (.ref 36), some (.int v1), some (.int v2), some (.int v3), none] [] (shC bb) μ 0 0) {v1 v2 v3 : Int32}  (h : f_X6_couplesAlike_j51 G μ r4 v1 v2 v3 = some r) : Ev RX6 cX6_couplesAlike 5 (some .int) false 3 0 0 (eqP (some r) (shC bb) μ) 51 [some (.ref 36), some (.int v1), some (.int v2), some (.int v3), none] [] (shC bb) μ 0 0 := by
  unfold f_X6_couplesAlike_j51 at h
  refine ev_iinc (cq := (1 : Int32)) (loc' := [_, _, _, _, _]) dX6_couplesAlike_51 rfl (by decide) rfl (by decide) (by rfl) ?_
  refine ev_goto (tgt := 4) dX6_couplesAlike_54 (by decide) ?_
  exact ev_lt (hr4 _ _ _ h) ⟨rfl, ⟨rfl, ⟨rfl, ⟨rfl, trivial⟩⟩⟩⟩
def f_X6_couplesAlike_L4 (G : Nat) (μ : Mem)  : Nat → Int32 → Int32 → Int32 → Option Int32
  | 0, _, _, _ => none
  | g + 1, v1, v2, v3 =>
  (if (μ 36 3) ≤ v3 then
  some v2
  else
  f_X6_couplesAlike_L15 G μ (f_X6_couplesAlike_L4 G μ g) (f_X6_couplesAlike_j51 G μ (f_X6_couplesAlike_L4 G μ g)) G v1 v2 v3 (0 : Int32))
set_option maxHeartbeats 4000000 in
set_option maxRecDepth 100000 in
theorem f_X6_couplesAlike_L4_ok {bb : Bool} {G : Nat} {μ : Mem} {r : Int32}    : ∀ (g : Nat) (v1 v2 v3 : Int32), f_X6_couplesAlike_L4 G μ g v1 v2 v3 = some r → Ev RX6 cX6_couplesAlike 5 (some .int) false 3 0 0 (eqP (some r) (shC bb) μ) 4 [some (.ref 36), some (.int v1), some (.int v2), some (.int v3), none] [] (shC bb) μ 0 0 := by
  intro g
  induction g with
  | zero =>
    intro v1 v2 v3 h
    cases h
  | succ g ih =>
    intro v1 v2 v3 h
    rw [f_X6_couplesAlike_L4] at h
    refine ev_iload_n dX6_couplesAlike_4 rfl ?_
    refine ev_aload_n dX6_couplesAlike_5 rfl ?_
    refine ev_getI fr_X6_34 shC_36 rfl dX6_couplesAlike_6 ?_
    refine ev_icmp_ge (tgt := 57) dX6_couplesAlike_9 (by decide) (fun hc1 => ?_) (fun hc1 => ?_)
    · replace h := ite_t hc1 h
      refine ev_iload_n dX6_couplesAlike_57 rfl ?_
      exact ev_iret rfl rfl (by decide) (by decide) dX6_couplesAlike_58 (eqP_O h)
    · replace h := ite_f hc1 h
      refine ev_iconst (v := (0 : Int32)) dX6_couplesAlike_12 (by decide) ?_
      refine ev_istore (loc' := [_, _, _, _, _]) dX6_couplesAlike_13 rfl (by decide) (by rfl) ?_
      exact ev_lt (f_X6_couplesAlike_L15_ok ih (fun _ _ _ hh => f_X6_couplesAlike_j51_ok ih hh) _ _ _ _ _ h) ⟨rfl, ⟨rfl, ⟨rfl, ⟨rfl, ⟨rfl, trivial⟩⟩⟩⟩⟩
def f_X6_couplesAlike (G : Nat) (μ : Mem) (p1 : Int32) : Option Int32 :=
  f_X6_couplesAlike_L4 G μ G p1 (0 : Int32) (0 : Int32)
set_option maxHeartbeats 4000000 in
set_option maxRecDepth 100000 in
theorem c_X6_couplesAlike {bb : Bool} {G : Nat} {μ : Mem}  {p1 : Int32} {r : Int32}  (h : f_X6_couplesAlike G μ p1 = some r) : Cn yX6_couplesAlike cX6_couplesAlike 5 (some .int) 3 0 0 [.ref 36, .int p1] (shC bb) μ (eqP (some r) (shC bb) μ) := by
  refine cn_of (own := RX6) (ini := false) (loc := [some (.ref 36), some (.int p1), none, none, none]) rfl (by decide) (fun q => by cases q) (Nat.le_of_ble_eq_true rfl) (by rfl) rfl ?_
  unfold f_X6_couplesAlike at h
  refine ev_iconst (v := (0 : Int32)) dX6_couplesAlike_0 (by decide) ?_
  refine ev_istore_n (loc' := [_, _, _, _, _]) dX6_couplesAlike_1 rfl (by decide) (by rfl) ?_
  refine ev_iconst (v := (0 : Int32)) dX6_couplesAlike_2 (by decide) ?_
  refine ev_istore_n (loc' := [_, _, _, _, _]) dX6_couplesAlike_3 rfl (by decide) (by rfl) ?_
  exact ev_lt (f_X6_couplesAlike_L4_ok _ _ _ _ h) ⟨rfl, ⟨rfl, ⟨rfl, ⟨rfl, trivial⟩⟩⟩⟩
def f_X6_orderDown_j87 (G : Nat) (μ : Mem) (r17 : Int32 → Int32 → Int32 → Int32 → Int32 → Option Int32) (k17_120 : Int32 → Int32 → Int32 → Option Int32) (r38 : Int32 → Int32 → Int32 → Int32 → Int32 → Int32 → Int32 → Int32 → Option Int32) (k38_97 : Int32 → Int32 → Int32 → Int32 → Int32 → Int32 → Int32 → Option Int32) (v1 v2 v3 v5 v6 v7 v8 v9 : Int32) : Option Int32 :=
  r38 v1 v2 v3 v5 v6 v7 v8 (v9 / (10 : Int32))
set_option maxHeartbeats 4000000 in
set_option maxRecDepth 100000 in
theorem f_X6_orderDown_j87_ok {bb : Bool} {G : Nat} {μ : Mem} {r : Int32}  {r17 : Int32 → Int32 → Int32 → Int32 → Int32 → Option Int32} {k17_120 : Int32 → Int32 → Int32 → Option Int32} {r38 : Int32 → Int32 → Int32 → Int32 → Int32 → Int32 → Int32 → Int32 → Option Int32} {k38_97 : Int32 → Int32 → Int32 → Int32 → Int32 → Int32 → Int32 → Option Int32} (hr17 : ∀ (v1 : Int32) (v2 : Int32) (v3 : Int32) (v5 : Int32) (v6 : Int32), r17 v1 v2 v3 v5 v6 = some r → Ev RX6 cX6_orderDown 11 (some .int) false 2 0 0 (eqP (some r) (shC bb) μ) 17 [some (.ref 40), some (.int v1), some (.int v2), some (.int v3), some (.long 1), some (.int v5), some (.int v6), none, none, none, none] [] (shC bb) μ 0 0) (hk17_120 : ∀ (v1 : Int32) (v2 : Int32) (v3 : Int32), k17_120 v1 v2 v3 = some r → Ev RX6 cX6_orderDown 11 (some .int) false 2 0 0 (eqP (some r) (shC bb) μ) 120 [none, some (.int v1), some (.int v2), some (.int v3), none, none, none, none, none, none, none] [] (shC bb) μ 0 0) (hr38 : ∀ (v1 : Int32) (v2 : Int32) (v3 : Int32) (v5 : Int32) (v6 : Int32) (v7 : Int32) (v8 : Int32) (v9 : Int32), r38 v1 v2 v3 v5 v6 v7 v8 v9 = some r → Ev RX6 cX6_orderDown 11 (some .int) false 2 0 0 (eqP (some r) (shC bb) μ) 38 [some (.ref 40), some (.int v1), some (.int v2), some (.int v3), some (.long 1), some (.int v5), some (.int v6), some (.int v7), some (.int v8), some (.int v9), none] [] (shC bb) μ 0 0) (hk38_97 : ∀ (v1 : Int32) (v2 : Int32) (v3 : Int32) (v5 : Int32) (v6 : Int32) (v7 : Int32) (v8 : Int32), k38_97 v1 v2 v3 v5 v6 v7 v8 = some r → Ev RX6 cX6_orderDown 11 (some .int) false 2 0 0 (eqP (some r) (shC bb) μ) 97 [some (.ref 40), some (.int v1), some (.int v2), some (.int v3), some (.long 1), some (.int v5), some (.int v6), some (.int v7), some (.int v8), none, none] [] (shC bb) μ 0 0) {v1 v2 v3 v5 v6 v7 v8 v9 : Int32}  (h : f_X6_orderDown_j87 G μ r17 k17_120 r38 k38_97 v1 v2 v3 v5 v6 v7 v8 v9 = some r) : Ev RX6 cX6_orderDown 11 (some .int) false 2 0 0 (eqP (some r) (shC bb) μ) 87 [some (.ref 40), some (.int v1), some (.int v2), some (.int v3), some (.long 1), some (.int v5), some (.int v6), some (.int v7), some (.int v8), some (.int v9), none] [] (shC bb) μ 0 0 := by
  unfold f_X6_orderDown_j87 at h
  refine ev_iload dX6_orderDown_87 rfl ?_
  refine ev_bipush (v := (10 : Int32)) dX6_orderDown_89 (by decide) ?_
  refine ev_idiv dX6_orderDown_91 (by decide) ?_
  refine ev_istore (loc' := [_, _, _, _, _, _, _, _, _, _, _]) dX6_orderDown_92 rfl (by decide) (by rfl) ?_
  refine ev_goto (tgt := 38) dX6_orderDown_94 (by decide) ?_
  exact ev_lt (hr38 _ _ _ _ _ _ _ _ h) ⟨rfl, ⟨rfl, ⟨rfl, ⟨rfl, ⟨rfl, ⟨rfl, ⟨rfl, ⟨rfl, ⟨rfl, ⟨rfl, trivial⟩⟩⟩⟩⟩⟩⟩⟩⟩⟩
def f_X6_orderDown_L38 (G : Nat) (μ : Mem) (r17 : Int32 → Int32 → Int32 → Int32 → Int32 → Option Int32) (k17_120 : Int32 → Int32 → Int32 → Option Int32) (k38_97 : Int32 → Int32 → Int32 → Int32 → Int32 → Int32 → Int32 → Option Int32) : Nat → Int32 → Int32 → Int32 → Int32 → Int32 → Int32 → Int32 → Int32 → Option Int32
  | 0, _, _, _, _, _, _, _, _ => none
  | g + 1, v1, v2, v3, v5, v6, v7, v8, v9 =>
  (if v9 ≤ (0 : Int32) then
  k38_97 v1 v2 v3 v5 v6 v7 v8
  else
  dvk v9 ((if ((irm (v7 / v9) (10 : Int32)) * (2 : Int32)) < (0 : Int32) then
  f_X6_orderDown_j87 G μ r17 k17_120 (f_X6_orderDown_L38 G μ r17 k17_120 k38_97 g) k38_97 v1 v2 v3 v5 v6 v7 v8 v9
  else
  (if (6 : Int32) ≤ (((irm (v7 / v9) (10 : Int32)) * (2 : Int32)) + (1 : Int32)) then
  f_X6_orderDown_j87 G μ r17 k17_120 (f_X6_orderDown_L38 G μ r17 k17_120 k38_97 g) k38_97 v1 v2 v3 v5 v6 v7 v8 v9
  else
  chk (((irm (v7 / v9) (10 : Int32)) * (2 : Int32)) + (1 : Int32)) 6 (chk ((irm (v7 / v9) (10 : Int32)) * (2 : Int32)) 6 (f_X6_orderDown_j87 G μ r17 k17_120 (f_X6_orderDown_L38 G μ r17 k17_120 k38_97 g) k38_97 v1 v2 v3 v5 v6 v7 ((imax v8 (μ 40 (ix (((irm (v7 / v9) (10 : Int32)) * (2 : Int32)) + (1 : Int32))))) + (μ 40 (ix ((irm (v7 / v9) (10 : Int32)) * (2 : Int32))))) v9))))))
set_option maxHeartbeats 4000000 in
set_option maxRecDepth 100000 in
theorem f_X6_orderDown_L38_ok {bb : Bool} {G : Nat} {μ : Mem} {r : Int32}  {r17 : Int32 → Int32 → Int32 → Int32 → Int32 → Option Int32} {k17_120 : Int32 → Int32 → Int32 → Option Int32} {k38_97 : Int32 → Int32 → Int32 → Int32 → Int32 → Int32 → Int32 → Option Int32} (hr17 : ∀ (v1 : Int32) (v2 : Int32) (v3 : Int32) (v5 : Int32) (v6 : Int32), r17 v1 v2 v3 v5 v6 = some r → Ev RX6 cX6_orderDown 11 (some .int) false 2 0 0 (eqP (some r) (shC bb) μ) 17 [some (.ref 40), some (.int v1), some (.int v2), some (.int v3), some (.long 1), some (.int v5), some (.int v6), none, none, none, none] [] (shC bb) μ 0 0) (hk17_120 : ∀ (v1 : Int32) (v2 : Int32) (v3 : Int32), k17_120 v1 v2 v3 = some r → Ev RX6 cX6_orderDown 11 (some .int) false 2 0 0 (eqP (some r) (shC bb) μ) 120 [none, some (.int v1), some (.int v2), some (.int v3), none, none, none, none, none, none, none] [] (shC bb) μ 0 0) (hk38_97 : ∀ (v1 : Int32) (v2 : Int32) (v3 : Int32) (v5 : Int32) (v6 : Int32) (v7 : Int32) (v8 : Int32), k38_97 v1 v2 v3 v5 v6 v7 v8 = some r → Ev RX6 cX6_orderDown 11 (some .int) false 2 0 0 (eqP (some r) (shC bb) μ) 97 [some (.ref 40), some (.int v1), some (.int v2), some (.int v3), some (.long 1), some (.int v5), some (.int v6), some (.int v7), some (.int v8), none, none] [] (shC bb) μ 0 0) : ∀ (g : Nat) (v1 v2 v3 v5 v6 v7 v8 v9 : Int32), f_X6_orderDown_L38 G μ r17 k17_120 k38_97 g v1 v2 v3 v5 v6 v7 v8 v9 = some r → Ev RX6 cX6_orderDown 11 (some .int) false 2 0 0 (eqP (some r) (shC bb) μ) 38 [some (.ref 40), some (.int v1), some (.int v2), some (.int v3), some (.long 1), some (.int v5), some (.int v6), some (.int v7), some (.int v8), some (.int v9), none] [] (shC bb) μ 0 0 := by
  intro g
  induction g with
  | zero =>
    intro v1 v2 v3 v5 v6 v7 v8 v9 h
    cases h
  | succ g ih =>
    intro v1 v2 v3 v5 v6 v7 v8 v9 h
    rw [f_X6_orderDown_L38] at h
    refine ev_iload dX6_orderDown_38 rfl ?_
    refine ev_if_le (tgt := 97) dX6_orderDown_40 (by decide) (fun hc3 => ?_) (fun hc3 => ?_)
    · replace h := ite_t hc3 h
      exact ev_lt (hk38_97 _ _ _ _ _ _ _ h) ⟨rfl, ⟨rfl, ⟨rfl, ⟨rfl, ⟨rfl, ⟨rfl, ⟨rfl, ⟨rfl, ⟨rfl, trivial⟩⟩⟩⟩⟩⟩⟩⟩⟩
    · replace h := ite_f hc3 h
      refine ev_iload dX6_orderDown_43 rfl ?_
      refine ev_iload dX6_orderDown_45 rfl ?_
      obtain ⟨hz4, h⟩ := dvk_t h
      refine ev_idiv dX6_orderDown_47 hz4 ?_
      refine ev_bipush (v := (10 : Int32)) dX6_orderDown_48 (by decide) ?_
      refine ev_irem dX6_orderDown_50 (by decide) ?_
      refine ev_iconst (v := (2 : Int32)) dX6_orderDown_51 (by decide) ?_
      refine ev_imul dX6_orderDown_52 ?_
      refine ev_istore (loc' := [_, _, _, _, _, _, _, _, _, _, _]) dX6_orderDown_53 rfl (by decide) (by rfl) ?_
      refine ev_iload dX6_orderDown_55 rfl ?_
      refine ev_if_lt (tgt := 87) dX6_orderDown_57 (by decide) (fun hc5 => ?_) (fun hc5 => ?_)
      · replace h := ite_t hc5 h
        exact ev_lt (f_X6_orderDown_j87_ok hr17 hk17_120 ih hk38_97 h) ⟨rfl, ⟨rfl, ⟨rfl, ⟨rfl, ⟨rfl, ⟨rfl, ⟨rfl, ⟨rfl, ⟨rfl, ⟨rfl, trivial⟩⟩⟩⟩⟩⟩⟩⟩⟩⟩
      · replace h := ite_f hc5 h
        refine ev_iload dX6_orderDown_60 rfl ?_
        refine ev_iconst (v := (1 : Int32)) dX6_orderDown_62 (by decide) ?_
        refine ev_iadd dX6_orderDown_63 ?_
        refine ev_aload_n dX6_orderDown_64 rfl ?_
        refine ev_alen (v := (6 : Int32)) shC_40 (by decide) dX6_orderDown_65 ?_
        refine ev_icmp_ge (tgt := 87) dX6_orderDown_66 (by decide) (fun hc6 => ?_) (fun hc6 => ?_)
        · replace h := ite_t hc6 h
          exact ev_lt (f_X6_orderDown_j87_ok hr17 hk17_120 ih hk38_97 h) ⟨rfl, ⟨rfl, ⟨rfl, ⟨rfl, ⟨rfl, ⟨rfl, ⟨rfl, ⟨rfl, ⟨rfl, ⟨rfl, trivial⟩⟩⟩⟩⟩⟩⟩⟩⟩⟩
        · replace h := ite_f hc6 h
          refine ev_iload dX6_orderDown_69 rfl ?_
          refine ev_aload_n dX6_orderDown_71 rfl ?_
          refine ev_iload dX6_orderDown_72 rfl ?_
          refine ev_iconst (v := (1 : Int32)) dX6_orderDown_74 (by decide) ?_
          refine ev_iadd dX6_orderDown_75 ?_
          obtain ⟨hi7, h⟩ := chk_t h
          refine ev_iald shC_40 hi7 dX6_orderDown_76 ?_
          refine ev_max mm_X6_50 dX6_orderDown_77 (Nat.le_of_ble_eq_true rfl) (by rfl) (Nat.le_of_ble_eq_true rfl) (Nat.le_of_ble_eq_true rfl) (Nat.le_of_ble_eq_true rfl) ?_
          refine ev_aload_n dX6_orderDown_80 rfl ?_
          refine ev_iload dX6_orderDown_81 rfl ?_
          obtain ⟨hi8, h⟩ := chk_t h
          refine ev_iald shC_40 hi8 dX6_orderDown_83 ?_
          refine ev_iadd dX6_orderDown_84 ?_
          refine ev_istore (loc' := [_, _, _, _, _, _, _, _, _, _, _]) dX6_orderDown_85 rfl (by decide) (by rfl) ?_
          exact ev_lt (f_X6_orderDown_j87_ok hr17 hk17_120 ih hk38_97 h) ⟨rfl, ⟨rfl, ⟨rfl, ⟨rfl, ⟨rfl, ⟨rfl, ⟨rfl, ⟨rfl, ⟨rfl, ⟨rfl, trivial⟩⟩⟩⟩⟩⟩⟩⟩⟩⟩
def f_X6_orderDown_j114 (G : Nat) (μ : Mem) (r17 : Int32 → Int32 → Int32 → Int32 → Int32 → Option Int32) (k17_120 : Int32 → Int32 → Int32 → Option Int32) (v1 v2 v3 v5 v6 : Int32) : Option Int32 :=
  r17 v1 v2 v3 v5 (v6 + (1 : Int32))
set_option maxHeartbeats 4000000 in
set_option maxRecDepth 100000 in
theorem f_X6_orderDown_j114_ok {bb : Bool} {G : Nat} {μ : Mem} {r : Int32}  {r17 : Int32 → Int32 → Int32 → Int32 → Int32 → Option Int32} {k17_120 : Int32 → Int32 → Int32 → Option Int32} (hr17 : ∀ (v1 : Int32) (v2 : Int32) (v3 : Int32) (v5 : Int32) (v6 : Int32), r17 v1 v2 v3 v5 v6 = some r → Ev RX6 cX6_orderDown 11 (some .int) false 2 0 0 (eqP (some r) (shC bb) μ) 17 [some (.ref 40), some (.int v1), some (.int v2), some (.int v3), some (.long 1), some (.int v5), some (.int v6), none, none, none, none] [] (shC bb) μ 0 0) (hk17_120 : ∀ (v1 : Int32) (v2 : Int32) (v3 : Int32), k17_120 v1 v2 v3 = some r → Ev RX6 cX6_orderDown 11 (some .int) false 2 0 0 (eqP (some r) (shC bb) μ) 120 [none, some (.int v1), some (.int v2), some (.int v3), none, none, none, none, none, none, none] [] (shC bb) μ 0 0) {v1 v2 v3 v5 v6 : Int32}  (h : f_X6_orderDown_j114 G μ r17 k17_120 v1 v2 v3 v5 v6 = some r) : Ev RX6 cX6_orderDown 11 (some .int) false 2 0 0 (eqP (some r) (shC bb) μ) 114 [some (.ref 40), some (.int v1), some (.int v2), some (.int v3), some (.long 1), some (.int v5), some (.int v6), none, none, none, none] [] (shC bb) μ 0 0 := by
  unfold f_X6_orderDown_j114 at h
  refine ev_iinc (cq := (1 : Int32)) (loc' := [_, _, _, _, _, _, _, _, _, _, _]) dX6_orderDown_114 rfl (by decide) rfl (by decide) (by rfl) ?_
  refine ev_goto (tgt := 17) dX6_orderDown_117 (by decide) ?_
  exact ev_lt (hr17 _ _ _ _ _ h) ⟨rfl, ⟨rfl, ⟨rfl, ⟨rfl, ⟨rfl, ⟨rfl, ⟨rfl, trivial⟩⟩⟩⟩⟩⟩⟩
def f_X6_orderDown_j108 (G : Nat) (μ : Mem) (r17 : Int32 → Int32 → Int32 → Int32 → Int32 → Option Int32) (k17_120 : Int32 → Int32 → Int32 → Option Int32) (v1 v5 v6 v7 v8 : Int32) : Option Int32 :=
  f_X6_orderDown_j114 G μ r17 k17_120 v1 v7 v8 v5 v6
set_option maxHeartbeats 4000000 in
set_option maxRecDepth 100000 in
theorem f_X6_orderDown_j108_ok {bb : Bool} {G : Nat} {μ : Mem} {r : Int32}  {r17 : Int32 → Int32 → Int32 → Int32 → Int32 → Option Int32} {k17_120 : Int32 → Int32 → Int32 → Option Int32} (hr17 : ∀ (v1 : Int32) (v2 : Int32) (v3 : Int32) (v5 : Int32) (v6 : Int32), r17 v1 v2 v3 v5 v6 = some r → Ev RX6 cX6_orderDown 11 (some .int) false 2 0 0 (eqP (some r) (shC bb) μ) 17 [some (.ref 40), some (.int v1), some (.int v2), some (.int v3), some (.long 1), some (.int v5), some (.int v6), none, none, none, none] [] (shC bb) μ 0 0) (hk17_120 : ∀ (v1 : Int32) (v2 : Int32) (v3 : Int32), k17_120 v1 v2 v3 = some r → Ev RX6 cX6_orderDown 11 (some .int) false 2 0 0 (eqP (some r) (shC bb) μ) 120 [none, some (.int v1), some (.int v2), some (.int v3), none, none, none, none, none, none, none] [] (shC bb) μ 0 0) {v1 v5 v6 v7 v8 : Int32}  (h : f_X6_orderDown_j108 G μ r17 k17_120 v1 v5 v6 v7 v8 = some r) : Ev RX6 cX6_orderDown 11 (some .int) false 2 0 0 (eqP (some r) (shC bb) μ) 108 [some (.ref 40), some (.int v1), none, none, some (.long 1), some (.int v5), some (.int v6), some (.int v7), some (.int v8), none, none] [] (shC bb) μ 0 0 := by
  unfold f_X6_orderDown_j108 at h
  refine ev_iload dX6_orderDown_108 rfl ?_
  refine ev_istore_n (loc' := [_, _, _, _, _, _, _, _, _, _, _]) dX6_orderDown_110 rfl (by decide) (by rfl) ?_
  refine ev_iload dX6_orderDown_111 rfl ?_
  refine ev_istore_n (loc' := [_, _, _, _, _, _, _, _, _, _, _]) dX6_orderDown_113 rfl (by decide) (by rfl) ?_
  exact ev_lt (f_X6_orderDown_j114_ok hr17 hk17_120 h) ⟨rfl, ⟨rfl, ⟨rfl, ⟨rfl, ⟨rfl, ⟨rfl, ⟨rfl, trivial⟩⟩⟩⟩⟩⟩⟩
def f_X6_orderDown_j97 (G : Nat) (μ : Mem) (r17 : Int32 → Int32 → Int32 → Int32 → Int32 → Option Int32) (k17_120 : Int32 → Int32 → Int32 → Option Int32) (v1 v2 v3 v5 v6 v7 v8 : Int32) : Option Int32 :=
  (if v2 = (-1 : Int32) then
  f_X6_orderDown_j108 G μ r17 k17_120 v1 v5 v6 v7 v8
  else
  (if v3 ≤ v8 then
  f_X6_orderDown_j114 G μ r17 k17_120 v1 v2 v3 v5 v6
  else
  f_X6_orderDown_j108 G μ r17 k17_120 v1 v5 v6 v7 v8))
set_option maxHeartbeats 4000000 in
set_option maxRecDepth 100000 in
theorem f_X6_orderDown_j97_ok {bb : Bool} {G : Nat} {μ : Mem} {r : Int32}  {r17 : Int32 → Int32 → Int32 → Int32 → Int32 → Option Int32} {k17_120 : Int32 → Int32 → Int32 → Option Int32} (hr17 : ∀ (v1 : Int32) (v2 : Int32) (v3 : Int32) (v5 : Int32) (v6 : Int32), r17 v1 v2 v3 v5 v6 = some r → Ev RX6 cX6_orderDown 11 (some .int) false 2 0 0 (eqP (some r) (shC bb) μ) 17 [some (.ref 40), some (.int v1), some (.int v2), some (.int v3), some (.long 1), some (.int v5), some (.int v6), none, none, none, none] [] (shC bb) μ 0 0) (hk17_120 : ∀ (v1 : Int32) (v2 : Int32) (v3 : Int32), k17_120 v1 v2 v3 = some r → Ev RX6 cX6_orderDown 11 (some .int) false 2 0 0 (eqP (some r) (shC bb) μ) 120 [none, some (.int v1), some (.int v2), some (.int v3), none, none, none, none, none, none, none] [] (shC bb) μ 0 0) {v1 v2 v3 v5 v6 v7 v8 : Int32}  (h : f_X6_orderDown_j97 G μ r17 k17_120 v1 v2 v3 v5 v6 v7 v8 = some r) : Ev RX6 cX6_orderDown 11 (some .int) false 2 0 0 (eqP (some r) (shC bb) μ) 97 [some (.ref 40), some (.int v1), some (.int v2), some (.int v3), some (.long 1), some (.int v5), some (.int v6), some (.int v7), some (.int v8), none, none] [] (shC bb) μ 0 0 := by
  unfold f_X6_orderDown_j97 at h
  refine ev_iload_n dX6_orderDown_97 rfl ?_
  refine ev_iconst (v := (-1 : Int32)) dX6_orderDown_98 (by decide) ?_
  refine ev_icmp_eq (tgt := 108) dX6_orderDown_99 (by decide) (fun hc9 => ?_) (fun hc9 => ?_)
  · replace h := ite_t hc9 h
    exact ev_lt (f_X6_orderDown_j108_ok hr17 hk17_120 h) ⟨rfl, ⟨rfl, ⟨rfl, ⟨rfl, ⟨rfl, ⟨rfl, ⟨rfl, trivial⟩⟩⟩⟩⟩⟩⟩
  · replace h := ite_f hc9 h
    refine ev_iload dX6_orderDown_102 rfl ?_
    refine ev_iload_n dX6_orderDown_104 rfl ?_
    refine ev_icmp_ge (tgt := 114) dX6_orderDown_105 (by decide) (fun hc10 => ?_) (fun hc10 => ?_)
    · replace h := ite_t hc10 h
      exact ev_lt (f_X6_orderDown_j114_ok hr17 hk17_120 h) ⟨rfl, ⟨rfl, ⟨rfl, ⟨rfl, ⟨rfl, ⟨rfl, ⟨rfl, trivial⟩⟩⟩⟩⟩⟩⟩
    · replace h := ite_f hc10 h
      exact ev_lt (f_X6_orderDown_j108_ok hr17 hk17_120 h) ⟨rfl, ⟨rfl, ⟨rfl, ⟨rfl, ⟨rfl, ⟨rfl, ⟨rfl, trivial⟩⟩⟩⟩⟩⟩⟩
def f_X6_orderDown_L17 (G : Nat) (μ : Mem) (k17_120 : Int32 → Int32 → Int32 → Option Int32) : Nat → Int32 → Int32 → Int32 → Int32 → Int32 → Option Int32
  | 0, _, _, _, _, _ => none
  | g + 1, v1, v2, v3, v5, v6 =>
  (if v5 ≤ v6 then
  k17_120 v1 v2 v3
  else
  chk v6 6 (f_X6_orderDown_L38 G μ (f_X6_orderDown_L17 G μ k17_120 g) k17_120 (f_X6_orderDown_j97 G μ (f_X6_orderDown_L17 G μ k17_120 g) k17_120) G v1 v2 v3 v5 v6 (ordT (ix v6)) (0 : Int32) (100 : Int32)))
set_option maxHeartbeats 4000000 in
set_option maxRecDepth 100000 in
theorem f_X6_orderDown_L17_ok {bb : Bool} {G : Nat} {μ : Mem} {r : Int32}  {k17_120 : Int32 → Int32 → Int32 → Option Int32} (hk17_120 : ∀ (v1 : Int32) (v2 : Int32) (v3 : Int32), k17_120 v1 v2 v3 = some r → Ev RX6 cX6_orderDown 11 (some .int) false 2 0 0 (eqP (some r) (shC bb) μ) 120 [none, some (.int v1), some (.int v2), some (.int v3), none, none, none, none, none, none, none] [] (shC bb) μ 0 0) : ∀ (g : Nat) (v1 v2 v3 v5 v6 : Int32), f_X6_orderDown_L17 G μ k17_120 g v1 v2 v3 v5 v6 = some r → Ev RX6 cX6_orderDown 11 (some .int) false 2 0 0 (eqP (some r) (shC bb) μ) 17 [some (.ref 40), some (.int v1), some (.int v2), some (.int v3), some (.long 1), some (.int v5), some (.int v6), none, none, none, none] [] (shC bb) μ 0 0 := by
  intro g
  induction g with
  | zero =>
    intro v1 v2 v3 v5 v6 h
    cases h
  | succ g ih =>
    intro v1 v2 v3 v5 v6 h
    rw [f_X6_orderDown_L17] at h
    refine ev_iload dX6_orderDown_17 rfl ?_
    refine ev_iload dX6_orderDown_19 rfl ?_
    refine ev_icmp_ge (tgt := 120) dX6_orderDown_21 (by decide) (fun hc1 => ?_) (fun hc1 => ?_)
    · replace h := ite_t hc1 h
      exact ev_lt (hk17_120 _ _ _ h) ⟨rfl, ⟨rfl, ⟨rfl, trivial⟩⟩⟩
    · replace h := ite_f hc1 h
      refine ev_aloadS dX6_orderDown_24 rfl ?_
      refine ev_iload dX6_orderDown_26 rfl ?_
      obtain ⟨hi2, h⟩ := chk_t h
      refine ev_ialdO hi2 dX6_orderDown_28 ?_
      refine ev_istore (loc' := [_, _, _, _, _, _, _, _, _, _, _]) dX6_orderDown_29 rfl (by decide) (by rfl) ?_
      refine ev_iconst (v := (0 : Int32)) dX6_orderDown_31 (by decide) ?_
      refine ev_istore (loc' := [_, _, _, _, _, _, _, _, _, _, _]) dX6_orderDown_32 rfl (by decide) (by rfl) ?_
      refine ev_bipush (v := (100 : Int32)) dX6_orderDown_34 (by decide) ?_
      refine ev_istore (loc' := [_, _, _, _, _, _, _, _, _, _, _]) dX6_orderDown_36 rfl (by decide) (by rfl) ?_
      exact ev_lt (f_X6_orderDown_L38_ok ih hk17_120 (fun _ _ _ _ _ _ _ hh => f_X6_orderDown_j97_ok ih hk17_120 hh) _ _ _ _ _ _ _ _ _ h) ⟨rfl, ⟨rfl, ⟨rfl, ⟨rfl, ⟨rfl, ⟨rfl, ⟨rfl, ⟨rfl, ⟨rfl, ⟨rfl, trivial⟩⟩⟩⟩⟩⟩⟩⟩⟩⟩
def f_X6_orderDown_j120 (G : Nat) (μ : Mem)  (v1 v2 v3 : Int32) : Option Int32 :=
  (if v1 = (0 : Int32) then
  some v2
  else
  some v3)
set_option maxHeartbeats 4000000 in
set_option maxRecDepth 100000 in
theorem f_X6_orderDown_j120_ok {bb : Bool} {G : Nat} {μ : Mem} {r : Int32}    {v1 v2 v3 : Int32}  (h : f_X6_orderDown_j120 G μ v1 v2 v3 = some r) : Ev RX6 cX6_orderDown 11 (some .int) false 2 0 0 (eqP (some r) (shC bb) μ) 120 [none, some (.int v1), some (.int v2), some (.int v3), none, none, none, none, none, none, none] [] (shC bb) μ 0 0 := by
  unfold f_X6_orderDown_j120 at h
  refine ev_iload_n dX6_orderDown_120 rfl ?_
  refine ev_if_eq (tgt := 128) dX6_orderDown_121 (by decide) (fun hc11 => ?_) (fun hc11 => ?_)
  · replace h := ite_t hc11 h
    refine ev_iload_n dX6_orderDown_128 rfl ?_
    exact ev_iret rfl rfl (by decide) (by decide) dX6_orderDown_129 (eqP_O h)
  · replace h := ite_f hc11 h
    refine ev_iload_n dX6_orderDown_124 rfl ?_
    refine ev_goto (tgt := 129) dX6_orderDown_125 (by decide) ?_
    exact ev_iret rfl rfl (by decide) (by decide) dX6_orderDown_129 (eqP_O h)
def f_X6_orderDown (G : Nat) (μ : Mem) (p1 : Int32) : Option Int32 :=
  f_X6_orderDown_L17 G μ (f_X6_orderDown_j120 G μ) G p1 (-1 : Int32) (-1 : Int32) (6 : Int32) (0 : Int32)
set_option maxHeartbeats 4000000 in
set_option maxRecDepth 100000 in
theorem c_X6_orderDown {bb : Bool} {G : Nat} {μ : Mem}  {p1 : Int32} {r : Int32}  (h : f_X6_orderDown G μ p1 = some r) : Cn yX6_orderDown cX6_orderDown 11 (some .int) 2 0 0 [.ref 40, .int p1] (shC bb) μ (eqP (some r) (shC bb) μ) := by
  refine cn_of (own := RX6) (ini := false) (loc := [some (.ref 40), some (.int p1), none, none, none, none, none, none, none, none, none]) rfl (by decide) (fun q => by cases q) (Nat.le_of_ble_eq_true rfl) (by rfl) rfl ?_
  unfold f_X6_orderDown at h
  refine ev_iconst (v := (-1 : Int32)) dX6_orderDown_0 (by decide) ?_
  refine ev_istore_n (loc' := [_, _, _, _, _, _, _, _, _, _, _]) dX6_orderDown_1 rfl (by decide) (by rfl) ?_
  refine ev_iconst (v := (-1 : Int32)) dX6_orderDown_2 (by decide) ?_
  refine ev_istore_n (loc' := [_, _, _, _, _, _, _, _, _, _, _]) dX6_orderDown_3 rfl (by decide) (by rfl) ?_
  refine ev_getsO rfl fl_X6_56 dX6_orderDown_4 ?_
  refine ev_astoreS (loc' := [_, _, _, _, _, _, _, _, _, _, _]) dX6_orderDown_7 rfl (by decide) (by rfl) ?_
  refine ev_aloadS dX6_orderDown_9 rfl ?_
  refine ev_alenO dX6_orderDown_11 ?_
  refine ev_istore (loc' := [_, _, _, _, _, _, _, _, _, _, _]) dX6_orderDown_12 rfl (by decide) (by rfl) ?_
  refine ev_iconst (v := (0 : Int32)) dX6_orderDown_14 (by decide) ?_
  refine ev_istore (loc' := [_, _, _, _, _, _, _, _, _, _, _]) dX6_orderDown_15 rfl (by decide) (by rfl) ?_
  exact ev_lt (f_X6_orderDown_L17_ok (fun _ _ _ hh => f_X6_orderDown_j120_ok hh) _ _ _ _ _ _ h) ⟨rfl, ⟨rfl, ⟨rfl, ⟨rfl, ⟨rfl, ⟨rfl, ⟨rfl, trivial⟩⟩⟩⟩⟩⟩⟩
def f_X6_ordersBehind_j52 (G : Nat) (μ : Mem) (r8 : Int32 → Int32 → Int32 → Int32 → Int32 → Option Int32) (k8_58 : Int32 → Int32 → Int32 → Int32 → Option Int32) (v1 v2 v3 v4 v5 : Int32) : Option Int32 :=
  r8 v1 v2 v3 v4 (v5 + (1 : Int32))
set_option maxHeartbeats 4000000 in
set_option maxRecDepth 100000 in
theorem f_X6_ordersBehind_j52_ok {bb : Bool} {G : Nat} {μ : Mem} {r : Int32}  {r8 : Int32 → Int32 → Int32 → Int32 → Int32 → Option Int32} {k8_58 : Int32 → Int32 → Int32 → Int32 → Option Int32} (hr8 : ∀ (v1 : Int32) (v2 : Int32) (v3 : Int32) (v4 : Int32) (v5 : Int32), r8 v1 v2 v3 v4 v5 = some r → Ev RX6 cX6_ordersBehind 8 (some .int) false 3 0 0 (eqP (some r) (shC bb) μ) 8 [some (.ref 38), some (.int v1), some (.int v2), some (.int v3), some (.int v4), some (.int v5), none, none] [] (shC bb) μ 0 0) (hk8_58 : ∀ (v1 : Int32) (v2 : Int32) (v3 : Int32) (v4 : Int32), k8_58 v1 v2 v3 v4 = some r → Ev RX6 cX6_ordersBehind 8 (some .int) false 3 0 0 (eqP (some r) (shC bb) μ) 58 [some (.ref 38), some (.int v1), some (.int v2), some (.int v3), some (.int v4), none, none, none] [] (shC bb) μ 0 0) {v1 v2 v3 v4 v5 : Int32}  (h : f_X6_ordersBehind_j52 G μ r8 k8_58 v1 v2 v3 v4 v5 = some r) : Ev RX6 cX6_ordersBehind 8 (some .int) false 3 0 0 (eqP (some r) (shC bb) μ) 52 [some (.ref 38), some (.int v1), some (.int v2), some (.int v3), some (.int v4), some (.int v5), none, none] [] (shC bb) μ 0 0 := by
  unfold f_X6_ordersBehind_j52 at h
  refine ev_iinc (cq := (1 : Int32)) (loc' := [_, _, _, _, _, _, _, _]) dX6_ordersBehind_52 rfl (by decide) rfl (by decide) (by rfl) ?_
  refine ev_goto (tgt := 8) dX6_ordersBehind_55 (by decide) ?_
  exact ev_lt (hr8 _ _ _ _ _ h) ⟨rfl, ⟨rfl, ⟨rfl, ⟨rfl, ⟨rfl, ⟨rfl, trivial⟩⟩⟩⟩⟩⟩
def f_X6_ordersBehind_L8 (G : Nat) (μ : Mem) (k8_58 : Int32 → Int32 → Int32 → Int32 → Option Int32) : Nat → Int32 → Int32 → Int32 → Int32 → Int32 → Option Int32
  | 0, _, _, _, _, _ => none
  | g + 1, v1, v2, v3, v4, v5 =>
  (if (μ 38 3) ≤ v5 then
  k8_58 v1 v2 v3 v4
  else
  bndO (f_X2_at G 38 7 μ v5 (0 : Int32)) (fun w3 =>
  (if (f_X11_has v1 v5) = (0 : Int32) then
  f_X6_ordersBehind_j52 G μ (f_X6_ordersBehind_L8 G μ k8_58 g) k8_58 v1 v2 (imax v3 w3) v4 v5
  else
  bndO (f_X2_at G 38 7 μ v5 (0 : Int32)) (fun w6 =>
  f_X6_ordersBehind_j52 G μ (f_X6_ordersBehind_L8 G μ k8_58 g) k8_58 v1 v2 (imax v3 w3) (imax v4 w6) v5))))
set_option maxHeartbeats 4000000 in
set_option maxRecDepth 100000 in
theorem f_X6_ordersBehind_L8_ok {bb : Bool} {G : Nat} {μ : Mem} {r : Int32}  {k8_58 : Int32 → Int32 → Int32 → Int32 → Option Int32} (hk8_58 : ∀ (v1 : Int32) (v2 : Int32) (v3 : Int32) (v4 : Int32), k8_58 v1 v2 v3 v4 = some r → Ev RX6 cX6_ordersBehind 8 (some .int) false 3 0 0 (eqP (some r) (shC bb) μ) 58 [some (.ref 38), some (.int v1), some (.int v2), some (.int v3), some (.int v4), none, none, none] [] (shC bb) μ 0 0) : ∀ (g : Nat) (v1 v2 v3 v4 v5 : Int32), f_X6_ordersBehind_L8 G μ k8_58 g v1 v2 v3 v4 v5 = some r → Ev RX6 cX6_ordersBehind 8 (some .int) false 3 0 0 (eqP (some r) (shC bb) μ) 8 [some (.ref 38), some (.int v1), some (.int v2), some (.int v3), some (.int v4), some (.int v5), none, none] [] (shC bb) μ 0 0 := by
  intro g
  induction g with
  | zero =>
    intro v1 v2 v3 v4 v5 h
    cases h
  | succ g ih =>
    intro v1 v2 v3 v4 v5 h
    rw [f_X6_ordersBehind_L8] at h
    refine ev_iload dX6_ordersBehind_8 rfl ?_
    refine ev_aload_n dX6_ordersBehind_10 rfl ?_
    refine ev_getI fr_X6_34 shC_38 rfl dX6_ordersBehind_11 ?_
    refine ev_icmp_ge (tgt := 58) dX6_ordersBehind_14 (by decide) (fun hc1 => ?_) (fun hc1 => ?_)
    · replace h := ite_t hc1 h
      exact ev_lt (hk8_58 _ _ _ _ h) ⟨rfl, ⟨rfl, ⟨rfl, ⟨rfl, ⟨rfl, trivial⟩⟩⟩⟩⟩
    · replace h := ite_f hc1 h
      refine ev_iload_n dX6_ordersBehind_17 rfl ?_
      refine ev_aload_n dX6_ordersBehind_18 rfl ?_
      refine ev_iload dX6_ordersBehind_19 rfl ?_
      refine ev_iconst (v := (0 : Int32)) dX6_ordersBehind_21 (by decide) ?_
      obtain ⟨w3, hq2, h⟩ := bndO_t h
      refine ev_cVi mv_X6_40 dX6_ordersBehind_22 (c_X2_at atC_38 hq2) rfl shC_38 rfl rfl (Nat.le_of_ble_eq_true rfl) (by rfl) (Nat.le_of_ble_eq_true rfl) (Nat.le_of_ble_eq_true rfl) (Nat.le_of_ble_eq_true rfl) ?_
      refine ev_max mm_X6_50 dX6_ordersBehind_25 (Nat.le_of_ble_eq_true rfl) (by rfl) (Nat.le_of_ble_eq_true rfl) (Nat.le_of_ble_eq_true rfl) (Nat.le_of_ble_eq_true rfl) ?_
      refine ev_istore_n (loc' := [_, _, _, _, _, _, _, _]) dX6_ordersBehind_28 rfl (by decide) (by rfl) ?_
      refine ev_iload_n dX6_ordersBehind_29 rfl ?_
      refine ev_iload dX6_ordersBehind_30 rfl ?_
      refine ev_cNi mv_X6_31 dX6_ordersBehind_32 c_X11_has rfl rfl (Nat.le_of_ble_eq_true rfl) (by rfl) (Nat.le_of_ble_eq_true rfl) (Nat.le_of_ble_eq_true rfl) (Nat.le_of_ble_eq_true rfl) ?_
      refine ev_if_eq (tgt := 52) dX6_ordersBehind_35 (by decide) (fun hc4 => ?_) (fun hc4 => ?_)
      · replace h := ite_t hc4 h
        exact ev_lt (f_X6_ordersBehind_j52_ok ih hk8_58 h) ⟨rfl, ⟨rfl, ⟨rfl, ⟨rfl, ⟨rfl, ⟨rfl, trivial⟩⟩⟩⟩⟩⟩
      · replace h := ite_f hc4 h
        refine ev_iload dX6_ordersBehind_38 rfl ?_
        refine ev_aload_n dX6_ordersBehind_40 rfl ?_
        refine ev_iload dX6_ordersBehind_41 rfl ?_
        refine ev_iconst (v := (0 : Int32)) dX6_ordersBehind_43 (by decide) ?_
        obtain ⟨w6, hq5, h⟩ := bndO_t h
        refine ev_cVi mv_X6_40 dX6_ordersBehind_44 (c_X2_at atC_38 hq5) rfl shC_38 rfl rfl (Nat.le_of_ble_eq_true rfl) (by rfl) (Nat.le_of_ble_eq_true rfl) (Nat.le_of_ble_eq_true rfl) (Nat.le_of_ble_eq_true rfl) ?_
        refine ev_max mm_X6_50 dX6_ordersBehind_47 (Nat.le_of_ble_eq_true rfl) (by rfl) (Nat.le_of_ble_eq_true rfl) (Nat.le_of_ble_eq_true rfl) (Nat.le_of_ble_eq_true rfl) ?_
        refine ev_istore (loc' := [_, _, _, _, _, _, _, _]) dX6_ordersBehind_50 rfl (by decide) (by rfl) ?_
        exact ev_lt (f_X6_ordersBehind_j52_ok ih hk8_58 h) ⟨rfl, ⟨rfl, ⟨rfl, ⟨rfl, ⟨rfl, ⟨rfl, trivial⟩⟩⟩⟩⟩⟩
def f_X6_ordersBehind_j128 (G : Nat) (μ : Mem) (r67 : Int32 → Int32 → Int32 → Int32 → Int32 → Int32 → Int32 → Option Int32) (k67_134 : Int32 → Int32 → Int32 → Option Int32) (v1 v2 v3 v4 v5 v6 v7 : Int32) : Option Int32 :=
  r67 v1 v2 v3 v4 v5 v6 (v7 + (1 : Int32))
set_option maxHeartbeats 4000000 in
set_option maxRecDepth 100000 in
theorem f_X6_ordersBehind_j128_ok {bb : Bool} {G : Nat} {μ : Mem} {r : Int32}  {r67 : Int32 → Int32 → Int32 → Int32 → Int32 → Int32 → Int32 → Option Int32} {k67_134 : Int32 → Int32 → Int32 → Option Int32} (hr67 : ∀ (v1 : Int32) (v2 : Int32) (v3 : Int32) (v4 : Int32) (v5 : Int32) (v6 : Int32) (v7 : Int32), r67 v1 v2 v3 v4 v5 v6 v7 = some r → Ev RX6 cX6_ordersBehind 8 (some .int) false 3 0 0 (eqP (some r) (shC bb) μ) 67 [some (.ref 38), some (.int v1), some (.int v2), some (.int v3), some (.int v4), some (.int v5), some (.int v6), some (.int v7)] [] (shC bb) μ 0 0) (hk67_134 : ∀ (v2 : Int32) (v5 : Int32) (v6 : Int32), k67_134 v2 v5 v6 = some r → Ev RX6 cX6_ordersBehind 8 (some .int) false 3 0 0 (eqP (some r) (shC bb) μ) 134 [some (.ref 38), none, some (.int v2), none, none, some (.int v5), some (.int v6), none] [] (shC bb) μ 0 0) {v1 v2 v3 v4 v5 v6 v7 : Int32}  (h : f_X6_ordersBehind_j128 G μ r67 k67_134 v1 v2 v3 v4 v5 v6 v7 = some r) : Ev RX6 cX6_ordersBehind 8 (some .int) false 3 0 0 (eqP (some r) (shC bb) μ) 128 [some (.ref 38), some (.int v1), some (.int v2), some (.int v3), some (.int v4), some (.int v5), some (.int v6), some (.int v7)] [] (shC bb) μ 0 0 := by
  unfold f_X6_ordersBehind_j128 at h
  refine ev_iinc (cq := (1 : Int32)) (loc' := [_, _, _, _, _, _, _, _]) dX6_ordersBehind_128 rfl (by decide) rfl (by decide) (by rfl) ?_
  refine ev_goto (tgt := 67) dX6_ordersBehind_131 (by decide) ?_
  exact ev_lt (hr67 _ _ _ _ _ _ _ h) ⟨rfl, ⟨rfl, ⟨rfl, ⟨rfl, ⟨rfl, ⟨rfl, ⟨rfl, ⟨rfl, trivial⟩⟩⟩⟩⟩⟩⟩⟩
def f_X6_ordersBehind_j125 (G : Nat) (μ : Mem) (r67 : Int32 → Int32 → Int32 → Int32 → Int32 → Int32 → Int32 → Option Int32) (k67_134 : Int32 → Int32 → Int32 → Option Int32) (v1 v2 v3 v4 v5 v7 s0 s1 : Int32) : Option Int32 :=
  f_X6_ordersBehind_j128 G μ r67 k67_134 v1 v2 v3 v4 v5 (s1 + s0) v7
set_option maxHeartbeats 4000000 in
set_option maxRecDepth 100000 in
theorem f_X6_ordersBehind_j125_ok {bb : Bool} {G : Nat} {μ : Mem} {r : Int32}  {r67 : Int32 → Int32 → Int32 → Int32 → Int32 → Int32 → Int32 → Option Int32} {k67_134 : Int32 → Int32 → Int32 → Option Int32} (hr67 : ∀ (v1 : Int32) (v2 : Int32) (v3 : Int32) (v4 : Int32) (v5 : Int32) (v6 : Int32) (v7 : Int32), r67 v1 v2 v3 v4 v5 v6 v7 = some r → Ev RX6 cX6_ordersBehind 8 (some .int) false 3 0 0 (eqP (some r) (shC bb) μ) 67 [some (.ref 38), some (.int v1), some (.int v2), some (.int v3), some (.int v4), some (.int v5), some (.int v6), some (.int v7)] [] (shC bb) μ 0 0) (hk67_134 : ∀ (v2 : Int32) (v5 : Int32) (v6 : Int32), k67_134 v2 v5 v6 = some r → Ev RX6 cX6_ordersBehind 8 (some .int) false 3 0 0 (eqP (some r) (shC bb) μ) 134 [some (.ref 38), none, some (.int v2), none, none, some (.int v5), some (.int v6), none] [] (shC bb) μ 0 0) {v1 v2 v3 v4 v5 v7 s0 s1 : Int32}  (h : f_X6_ordersBehind_j125 G μ r67 k67_134 v1 v2 v3 v4 v5 v7 s0 s1 = some r) : Ev RX6 cX6_ordersBehind 8 (some .int) false 3 0 0 (eqP (some r) (shC bb) μ) 125 [some (.ref 38), some (.int v1), some (.int v2), some (.int v3), some (.int v4), some (.int v5), none, some (.int v7)] [.int s0, .int s1] (shC bb) μ 0 0 := by
  unfold f_X6_ordersBehind_j125 at h
  refine ev_iadd dX6_ordersBehind_125 ?_
  refine ev_istore (loc' := [_, _, _, _, _, _, _, _]) dX6_ordersBehind_126 rfl (by decide) (by rfl) ?_
  exact ev_lt (f_X6_ordersBehind_j128_ok hr67 hk67_134 h) ⟨rfl, ⟨rfl, ⟨rfl, ⟨rfl, ⟨rfl, ⟨rfl, ⟨rfl, ⟨rfl, trivial⟩⟩⟩⟩⟩⟩⟩⟩
def f_X6_ordersBehind_j104 (G : Nat) (μ : Mem) (r67 : Int32 → Int32 → Int32 → Int32 → Int32 → Int32 → Int32 → Option Int32) (k67_134 : Int32 → Int32 → Int32 → Option Int32) (v1 v2 v3 v4 v6 v7 s0 s1 : Int32) : Option Int32 :=
  bndO (f_X2_at G 38 7 μ v7 (0 : Int32)) (fun w13 =>
  (if w13 = v3 then
  f_X6_ordersBehind_j125 G μ r67 k67_134 v1 v2 v3 v4 (s1 + s0) v7 (1 : Int32) v6
  else
  f_X6_ordersBehind_j125 G μ r67 k67_134 v1 v2 v3 v4 (s1 + s0) v7 (0 : Int32) v6))
set_option maxHeartbeats 4000000 in
set_option maxRecDepth 100000 in
theorem f_X6_ordersBehind_j104_ok {bb : Bool} {G : Nat} {μ : Mem} {r : Int32}  {r67 : Int32 → Int32 → Int32 → Int32 → Int32 → Int32 → Int32 → Option Int32} {k67_134 : Int32 → Int32 → Int32 → Option Int32} (hr67 : ∀ (v1 : Int32) (v2 : Int32) (v3 : Int32) (v4 : Int32) (v5 : Int32) (v6 : Int32) (v7 : Int32), r67 v1 v2 v3 v4 v5 v6 v7 = some r → Ev RX6 cX6_ordersBehind 8 (some .int) false 3 0 0 (eqP (some r) (shC bb) μ) 67 [some (.ref 38), some (.int v1), some (.int v2), some (.int v3), some (.int v4), some (.int v5), some (.int v6), some (.int v7)] [] (shC bb) μ 0 0) (hk67_134 : ∀ (v2 : Int32) (v5 : Int32) (v6 : Int32), k67_134 v2 v5 v6 = some r → Ev RX6 cX6_ordersBehind 8 (some .int) false 3 0 0 (eqP (some r) (shC bb) μ) 134 [some (.ref 38), none, some (.int v2), none, none, some (.int v5), some (.int v6), none] [] (shC bb) μ 0 0) {v1 v2 v3 v4 v6 v7 s0 s1 : Int32}  (h : f_X6_ordersBehind_j104 G μ r67 k67_134 v1 v2 v3 v4 v6 v7 s0 s1 = some r) : Ev RX6 cX6_ordersBehind 8 (some .int) false 3 0 0 (eqP (some r) (shC bb) μ) 104 [some (.ref 38), some (.int v1), some (.int v2), some (.int v3), some (.int v4), none, some (.int v6), some (.int v7)] [.int s0, .int s1] (shC bb) μ 0 0 := by
  unfold f_X6_ordersBehind_j104 at h
  refine ev_iadd dX6_ordersBehind_104 ?_
  refine ev_istore (loc' := [_, _, _, _, _, _, _, _]) dX6_ordersBehind_105 rfl (by decide) (by rfl) ?_
  refine ev_iload dX6_ordersBehind_107 rfl ?_
  refine ev_aload_n dX6_ordersBehind_109 rfl ?_
  refine ev_iload dX6_ordersBehind_110 rfl ?_
  refine ev_iconst (v := (0 : Int32)) dX6_ordersBehind_112 (by decide) ?_
  obtain ⟨w13, hq12, h⟩ := bndO_t h
  refine ev_cVi mv_X6_40 dX6_ordersBehind_113 (c_X2_at atC_38 hq12) rfl shC_38 rfl rfl (Nat.le_of_ble_eq_true rfl) (by rfl) (Nat.le_of_ble_eq_true rfl) (Nat.le_of_ble_eq_true rfl) (Nat.le_of_ble_eq_true rfl) ?_
  refine ev_iload_n dX6_ordersBehind_116 rfl ?_
  refine ev_icmp_ne (tgt := 124) dX6_ordersBehind_117 (by decide) (fun hc14 => ?_) (fun hc14 => ?_)
  · replace h := ite_f hc14 h
    refine ev_iconst (v := (0 : Int32)) dX6_ordersBehind_124 (by decide) ?_
    exact ev_lt (f_X6_ordersBehind_j125_ok hr67 hk67_134 h) ⟨rfl, ⟨rfl, ⟨rfl, ⟨rfl, ⟨rfl, ⟨rfl, ⟨rfl, trivial⟩⟩⟩⟩⟩⟩⟩
  · replace h := ite_t hc14 h
    refine ev_iconst (v := (1 : Int32)) dX6_ordersBehind_120 (by decide) ?_
    refine ev_goto (tgt := 125) dX6_ordersBehind_121 (by decide) ?_
    exact ev_lt (f_X6_ordersBehind_j125_ok hr67 hk67_134 h) ⟨rfl, ⟨rfl, ⟨rfl, ⟨rfl, ⟨rfl, ⟨rfl, ⟨rfl, trivial⟩⟩⟩⟩⟩⟩⟩
def f_X6_ordersBehind_L67 (G : Nat) (μ : Mem) (k67_134 : Int32 → Int32 → Int32 → Option Int32) : Nat → Int32 → Int32 → Int32 → Int32 → Int32 → Int32 → Int32 → Option Int32
  | 0, _, _, _, _, _, _, _ => none
  | g + 1, v1, v2, v3, v4, v5, v6, v7 =>
  (if (μ 38 3) ≤ v7 then
  k67_134 v2 v5 v6
  else
  (if (f_X11_has v1 v7) = (0 : Int32) then
  bndO (f_X2_at G 38 7 μ v7 (0 : Int32)) (fun w10 =>
  (if w10 ≤ v4 then
  f_X6_ordersBehind_j104 G μ (f_X6_ordersBehind_L67 G μ k67_134 g) k67_134 v1 v2 v3 v4 v6 v7 (0 : Int32) v5
  else
  f_X6_ordersBehind_j104 G μ (f_X6_ordersBehind_L67 G μ k67_134 g) k67_134 v1 v2 v3 v4 v6 v7 (1 : Int32) v5))
  else
  f_X6_ordersBehind_j128 G μ (f_X6_ordersBehind_L67 G μ k67_134 g) k67_134 v1 v2 v3 v4 v5 v6 v7))
set_option maxHeartbeats 4000000 in
set_option maxRecDepth 100000 in
theorem f_X6_ordersBehind_L67_ok {bb : Bool} {G : Nat} {μ : Mem} {r : Int32}  {k67_134 : Int32 → Int32 → Int32 → Option Int32} (hk67_134 : ∀ (v2 : Int32) (v5 : Int32) (v6 : Int32), k67_134 v2 v5 v6 = some r → Ev RX6 cX6_ordersBehind 8 (some .int) false 3 0 0 (eqP (some r) (shC bb) μ) 134 [some (.ref 38), none, some (.int v2), none, none, some (.int v5), some (.int v6), none] [] (shC bb) μ 0 0) : ∀ (g : Nat) (v1 v2 v3 v4 v5 v6 v7 : Int32), f_X6_ordersBehind_L67 G μ k67_134 g v1 v2 v3 v4 v5 v6 v7 = some r → Ev RX6 cX6_ordersBehind 8 (some .int) false 3 0 0 (eqP (some r) (shC bb) μ) 67 [some (.ref 38), some (.int v1), some (.int v2), some (.int v3), some (.int v4), some (.int v5), some (.int v6), some (.int v7)] [] (shC bb) μ 0 0 := by
  intro g
  induction g with
  | zero =>
    intro v1 v2 v3 v4 v5 v6 v7 h
    cases h
  | succ g ih =>
    intro v1 v2 v3 v4 v5 v6 v7 h
    rw [f_X6_ordersBehind_L67] at h
    refine ev_iload dX6_ordersBehind_67 rfl ?_
    refine ev_aload_n dX6_ordersBehind_69 rfl ?_
    refine ev_getI fr_X6_34 shC_38 rfl dX6_ordersBehind_70 ?_
    refine ev_icmp_ge (tgt := 134) dX6_ordersBehind_73 (by decide) (fun hc7 => ?_) (fun hc7 => ?_)
    · replace h := ite_t hc7 h
      exact ev_lt (hk67_134 _ _ _ h) ⟨rfl, ⟨rfl, ⟨rfl, ⟨rfl, trivial⟩⟩⟩⟩
    · replace h := ite_f hc7 h
      refine ev_iload_n dX6_ordersBehind_76 rfl ?_
      refine ev_iload dX6_ordersBehind_77 rfl ?_
      refine ev_cNi mv_X6_31 dX6_ordersBehind_79 c_X11_has rfl rfl (Nat.le_of_ble_eq_true rfl) (by rfl) (Nat.le_of_ble_eq_true rfl) (Nat.le_of_ble_eq_true rfl) (Nat.le_of_ble_eq_true rfl) ?_
      refine ev_if_ne (tgt := 128) dX6_ordersBehind_82 (by decide) (fun hc8 => ?_) (fun hc8 => ?_)
      · replace h := ite_f hc8 h
        exact ev_lt (f_X6_ordersBehind_j128_ok ih hk67_134 h) ⟨rfl, ⟨rfl, ⟨rfl, ⟨rfl, ⟨rfl, ⟨rfl, ⟨rfl, ⟨rfl, trivial⟩⟩⟩⟩⟩⟩⟩⟩
      · replace h := ite_t hc8 h
        refine ev_iload dX6_ordersBehind_85 rfl ?_
        refine ev_aload_n dX6_ordersBehind_87 rfl ?_
        refine ev_iload dX6_ordersBehind_88 rfl ?_
        refine ev_iconst (v := (0 : Int32)) dX6_ordersBehind_90 (by decide) ?_
        obtain ⟨w10, hq9, h⟩ := bndO_t h
        refine ev_cVi mv_X6_40 dX6_ordersBehind_91 (c_X2_at atC_38 hq9) rfl shC_38 rfl rfl (Nat.le_of_ble_eq_true rfl) (by rfl) (Nat.le_of_ble_eq_true rfl) (Nat.le_of_ble_eq_true rfl) (Nat.le_of_ble_eq_true rfl) ?_
        refine ev_iload dX6_ordersBehind_94 rfl ?_
        refine ev_icmp_le (tgt := 103) dX6_ordersBehind_96 (by decide) (fun hc11 => ?_) (fun hc11 => ?_)
        · replace h := ite_t hc11 h
          refine ev_iconst (v := (0 : Int32)) dX6_ordersBehind_103 (by decide) ?_
          exact ev_lt (f_X6_ordersBehind_j104_ok ih hk67_134 h) ⟨rfl, ⟨rfl, ⟨rfl, ⟨rfl, ⟨rfl, ⟨rfl, ⟨rfl, trivial⟩⟩⟩⟩⟩⟩⟩
        · replace h := ite_f hc11 h
          refine ev_iconst (v := (1 : Int32)) dX6_ordersBehind_99 (by decide) ?_
          refine ev_goto (tgt := 104) dX6_ordersBehind_100 (by decide) ?_
          exact ev_lt (f_X6_ordersBehind_j104_ok ih hk67_134 h) ⟨rfl, ⟨rfl, ⟨rfl, ⟨rfl, ⟨rfl, ⟨rfl, ⟨rfl, trivial⟩⟩⟩⟩⟩⟩⟩
def f_X6_ordersBehind_j134 (G : Nat) (μ : Mem)  (v2 v5 v6 : Int32) : Option Int32 :=
  (if ((μ 38 3) - v2) < (1 : Int32) then
  some (0 : Int32)
  else
  (if ((μ 38 3) - v2) ≤ (7 : Int32) then
  (if v5 ≤ (0 : Int32) then
  chk (((μ 38 3) - v2) - (1 : Int32)) 8 (some ((facT (ix (((μ 38 3) - v2) - (1 : Int32)))) * v6))
  else
  chk ((μ 38 3) - v2) 8 (dvk v5 (some (((facT (ix ((μ 38 3) - v2))) / v5) * v6))))
  else
  some (0 : Int32)))
set_option maxHeartbeats 4000000 in
set_option maxRecDepth 100000 in
theorem f_X6_ordersBehind_j134_ok {bb : Bool} {G : Nat} {μ : Mem} {r : Int32}    {v2 v5 v6 : Int32}  (h : f_X6_ordersBehind_j134 G μ v2 v5 v6 = some r) : Ev RX6 cX6_ordersBehind 8 (some .int) false 3 0 0 (eqP (some r) (shC bb) μ) 134 [some (.ref 38), none, some (.int v2), none, none, some (.int v5), some (.int v6), none] [] (shC bb) μ 0 0 := by
  unfold f_X6_ordersBehind_j134 at h
  refine ev_aload_n dX6_ordersBehind_134 rfl ?_
  refine ev_getI fr_X6_34 shC_38 rfl dX6_ordersBehind_135 ?_
  refine ev_iload_n dX6_ordersBehind_138 rfl ?_
  refine ev_isub dX6_ordersBehind_139 ?_
  refine ev_istore (loc' := [_, _, _, _, _, _, _, _]) dX6_ordersBehind_140 rfl (by decide) (by rfl) ?_
  refine ev_iload dX6_ordersBehind_142 rfl ?_
  refine ev_iconst (v := (1 : Int32)) dX6_ordersBehind_144 (by decide) ?_
  refine ev_icmp_lt (tgt := 155) dX6_ordersBehind_145 (by decide) (fun hc15 => ?_) (fun hc15 => ?_)
  · replace h := ite_t hc15 h
    refine ev_iconst (v := (0 : Int32)) dX6_ordersBehind_155 (by decide) ?_
    exact ev_iret rfl rfl (by decide) (by decide) dX6_ordersBehind_156 (eqP_O h)
  · replace h := ite_f hc15 h
    refine ev_iload dX6_ordersBehind_148 rfl ?_
    refine ev_bipush (v := (7 : Int32)) dX6_ordersBehind_150 (by decide) ?_
    refine ev_icmp_le (tgt := 157) dX6_ordersBehind_152 (by decide) (fun hc16 => ?_) (fun hc16 => ?_)
    · replace h := ite_t hc16 h
      refine ev_iload dX6_ordersBehind_157 rfl ?_
      refine ev_if_le (tgt := 177) dX6_ordersBehind_159 (by decide) (fun hc17 => ?_) (fun hc17 => ?_)
      · replace h := ite_t hc17 h
        refine ev_getsF rfl fl_X6_60 dX6_ordersBehind_177 ?_
        refine ev_iload dX6_ordersBehind_180 rfl ?_
        refine ev_iconst (v := (1 : Int32)) dX6_ordersBehind_182 (by decide) ?_
        refine ev_isub dX6_ordersBehind_183 ?_
        obtain ⟨hi18, h⟩ := chk_t h
        refine ev_ialdF hi18 dX6_ordersBehind_184 ?_
        refine ev_iload dX6_ordersBehind_185 rfl ?_
        refine ev_imul dX6_ordersBehind_187 ?_
        exact ev_iret rfl rfl (by decide) (by decide) dX6_ordersBehind_188 (eqP_O h)
      · replace h := ite_f hc17 h
        refine ev_getsF rfl fl_X6_60 dX6_ordersBehind_162 ?_
        refine ev_iload dX6_ordersBehind_165 rfl ?_
        obtain ⟨hi19, h⟩ := chk_t h
        refine ev_ialdF hi19 dX6_ordersBehind_167 ?_
        refine ev_iload dX6_ordersBehind_168 rfl ?_
        obtain ⟨hz20, h⟩ := dvk_t h
        refine ev_idiv dX6_ordersBehind_170 hz20 ?_
        refine ev_iload dX6_ordersBehind_171 rfl ?_
        refine ev_imul dX6_ordersBehind_173 ?_
        refine ev_goto (tgt := 188) dX6_ordersBehind_174 (by decide) ?_
        exact ev_iret rfl rfl (by decide) (by decide) dX6_ordersBehind_188 (eqP_O h)
    · replace h := ite_f hc16 h
      refine ev_iconst (v := (0 : Int32)) dX6_ordersBehind_155 (by decide) ?_
      exact ev_iret rfl rfl (by decide) (by decide) dX6_ordersBehind_156 (eqP_O h)
def f_X6_ordersBehind_j58 (G : Nat) (μ : Mem)  (v1 v2 v3 v4 : Int32) : Option Int32 :=
  f_X6_ordersBehind_L67 G μ (f_X6_ordersBehind_j134 G μ) G v1 v2 v3 v4 (0 : Int32) (0 : Int32) (0 : Int32)
set_option maxHeartbeats 4000000 in
set_option maxRecDepth 100000 in
theorem f_X6_ordersBehind_j58_ok {bb : Bool} {G : Nat} {μ : Mem} {r : Int32}    {v1 v2 v3 v4 : Int32}  (h : f_X6_ordersBehind_j58 G μ v1 v2 v3 v4 = some r) : Ev RX6 cX6_ordersBehind 8 (some .int) false 3 0 0 (eqP (some r) (shC bb) μ) 58 [some (.ref 38), some (.int v1), some (.int v2), some (.int v3), some (.int v4), none, none, none] [] (shC bb) μ 0 0 := by
  unfold f_X6_ordersBehind_j58 at h
  refine ev_iconst (v := (0 : Int32)) dX6_ordersBehind_58 (by decide) ?_
  refine ev_istore (loc' := [_, _, _, _, _, _, _, _]) dX6_ordersBehind_59 rfl (by decide) (by rfl) ?_
  refine ev_iconst (v := (0 : Int32)) dX6_ordersBehind_61 (by decide) ?_
  refine ev_istore (loc' := [_, _, _, _, _, _, _, _]) dX6_ordersBehind_62 rfl (by decide) (by rfl) ?_
  refine ev_iconst (v := (0 : Int32)) dX6_ordersBehind_64 (by decide) ?_
  refine ev_istore (loc' := [_, _, _, _, _, _, _, _]) dX6_ordersBehind_65 rfl (by decide) (by rfl) ?_
  exact ev_lt (f_X6_ordersBehind_L67_ok (fun _ _ _ hh => f_X6_ordersBehind_j134_ok hh) _ _ _ _ _ _ _ _ h) ⟨rfl, ⟨rfl, ⟨rfl, ⟨rfl, ⟨rfl, ⟨rfl, ⟨rfl, ⟨rfl, trivial⟩⟩⟩⟩⟩⟩⟩⟩
def f_X6_ordersBehind (G : Nat) (μ : Mem) (p1 p2 : Int32) : Option Int32 :=
  f_X6_ordersBehind_L8 G μ (f_X6_ordersBehind_j58 G μ) G p1 p2 (-1 : Int32) (-1 : Int32) (0 : Int32)
set_option maxHeartbeats 4000000 in
set_option maxRecDepth 100000 in
theorem c_X6_ordersBehind {bb : Bool} {G : Nat} {μ : Mem}  {p1 p2 : Int32} {r : Int32}  (h : f_X6_ordersBehind G μ p1 p2 = some r) : Cn yX6_ordersBehind cX6_ordersBehind 8 (some .int) 3 0 0 [.ref 38, .int p1, .int p2] (shC bb) μ (eqP (some r) (shC bb) μ) := by
  refine cn_of (own := RX6) (ini := false) (loc := [some (.ref 38), some (.int p1), some (.int p2), none, none, none, none, none]) rfl (by decide) (fun q => by cases q) (Nat.le_of_ble_eq_true rfl) (by rfl) rfl ?_
  unfold f_X6_ordersBehind at h
  refine ev_iconst (v := (-1 : Int32)) dX6_ordersBehind_0 (by decide) ?_
  refine ev_istore_n (loc' := [_, _, _, _, _, _, _, _]) dX6_ordersBehind_1 rfl (by decide) (by rfl) ?_
  refine ev_iconst (v := (-1 : Int32)) dX6_ordersBehind_2 (by decide) ?_
  refine ev_istore (loc' := [_, _, _, _, _, _, _, _]) dX6_ordersBehind_3 rfl (by decide) (by rfl) ?_
  refine ev_iconst (v := (0 : Int32)) dX6_ordersBehind_5 (by decide) ?_
  refine ev_istore (loc' := [_, _, _, _, _, _, _, _]) dX6_ordersBehind_6 rfl (by decide) (by rfl) ?_
  exact ev_lt (f_X6_ordersBehind_L8_ok (fun _ _ _ _ hh => f_X6_ordersBehind_j58_ok hh) _ _ _ _ _ _ h) ⟨rfl, ⟨rfl, ⟨rfl, ⟨rfl, ⟨rfl, ⟨rfl, trivial⟩⟩⟩⟩⟩⟩
def f_X6_bestSilence_j70 (G : Nat) (μ : Mem) (r7 : Int32 → Int32 → Int32 → Int32 → Option Int32) (k7_94 : Int32 → Int32 → Int32 → Option Int32) (r29 : Int32 → Int32 → Int32 → Int32 → Int32 → Int32 → Option Int32) (k29_76 : Int32 → Int32 → Int32 → Int32 → Int32 → Option Int32) (v1 v2 v3 v4 v5 v6 : Int32) : Option Int32 :=
  r29 v1 v2 v3 v4 v5 (v6 + (1 : Int32))
set_option maxHeartbeats 4000000 in
set_option maxRecDepth 100000 in
theorem f_X6_bestSilence_j70_ok {bb : Bool} {G : Nat} {μ : Mem} {r : Int32}  {r7 : Int32 → Int32 → Int32 → Int32 → Option Int32} {k7_94 : Int32 → Int32 → Int32 → Option Int32} {r29 : Int32 → Int32 → Int32 → Int32 → Int32 → Int32 → Option Int32} {k29_76 : Int32 → Int32 → Int32 → Int32 → Int32 → Option Int32} (hr7 : ∀ (v1 : Int32) (v2 : Int32) (v3 : Int32) (v4 : Int32), r7 v1 v2 v3 v4 = some r → Ev RX6 cX6_bestSilence 7 (some .int) false 4 0 0 (eqP (some r) (shC bb) μ) 7 [some (.ref 38), some (.int v1), some (.int v2), some (.int v3), some (.int v4), none, none] [] (shC bb) μ 0 0) (hk7_94 : ∀ (v1 : Int32) (v2 : Int32) (v3 : Int32), k7_94 v1 v2 v3 = some r → Ev RX6 cX6_bestSilence 7 (some .int) false 4 0 0 (eqP (some r) (shC bb) μ) 94 [none, some (.int v1), some (.int v2), some (.int v3), none, none, none] [] (shC bb) μ 0 0) (hr29 : ∀ (v1 : Int32) (v2 : Int32) (v3 : Int32) (v4 : Int32) (v5 : Int32) (v6 : Int32), r29 v1 v2 v3 v4 v5 v6 = some r → Ev RX6 cX6_bestSilence 7 (some .int) false 4 0 0 (eqP (some r) (shC bb) μ) 29 [some (.ref 38), some (.int v1), some (.int v2), some (.int v3), some (.int v4), some (.int v5), some (.int v6)] [] (shC bb) μ 0 0) (hk29_76 : ∀ (v1 : Int32) (v2 : Int32) (v3 : Int32) (v4 : Int32) (v5 : Int32), k29_76 v1 v2 v3 v4 v5 = some r → Ev RX6 cX6_bestSilence 7 (some .int) false 4 0 0 (eqP (some r) (shC bb) μ) 76 [some (.ref 38), some (.int v1), some (.int v2), some (.int v3), some (.int v4), some (.int v5), none] [] (shC bb) μ 0 0) {v1 v2 v3 v4 v5 v6 : Int32}  (h : f_X6_bestSilence_j70 G μ r7 k7_94 r29 k29_76 v1 v2 v3 v4 v5 v6 = some r) : Ev RX6 cX6_bestSilence 7 (some .int) false 4 0 0 (eqP (some r) (shC bb) μ) 70 [some (.ref 38), some (.int v1), some (.int v2), some (.int v3), some (.int v4), some (.int v5), some (.int v6)] [] (shC bb) μ 0 0 := by
  unfold f_X6_bestSilence_j70 at h
  refine ev_iinc (cq := (1 : Int32)) (loc' := [_, _, _, _, _, _, _]) dX6_bestSilence_70 rfl (by decide) rfl (by decide) (by rfl) ?_
  refine ev_goto (tgt := 29) dX6_bestSilence_73 (by decide) ?_
  exact ev_lt (hr29 _ _ _ _ _ _ h) ⟨rfl, ⟨rfl, ⟨rfl, ⟨rfl, ⟨rfl, ⟨rfl, ⟨rfl, trivial⟩⟩⟩⟩⟩⟩⟩
def f_X6_bestSilence_L29 (G : Nat) (μ : Mem) (r7 : Int32 → Int32 → Int32 → Int32 → Option Int32) (k7_94 : Int32 → Int32 → Int32 → Option Int32) (k29_76 : Int32 → Int32 → Int32 → Int32 → Int32 → Option Int32) : Nat → Int32 → Int32 → Int32 → Int32 → Int32 → Int32 → Option Int32
  | 0, _, _, _, _, _, _ => none
  | g + 1, v1, v2, v3, v4, v5, v6 =>
  (if (sl (1 : Int32) (μ 38 3)) ≤ v6 then
  k29_76 v1 v2 v3 v4 v5
  else
  (if (f_J6_bitCount_0f7a4 v6) = v4 then
  chk v4 8 (bndO (f_X6_ordersBehind G μ v6 v4) (fun w7 =>
  f_X6_bestSilence_j70 G μ r7 k7_94 (f_X6_bestSilence_L29 G μ r7 k7_94 k29_76 g) k29_76 v1 v2 v3 v4 (v5 + ((facT (ix v4)) * w7)) v6))
  else
  f_X6_bestSilence_j70 G μ r7 k7_94 (f_X6_bestSilence_L29 G μ r7 k7_94 k29_76 g) k29_76 v1 v2 v3 v4 v5 v6))
set_option maxHeartbeats 4000000 in
set_option maxRecDepth 100000 in
theorem f_X6_bestSilence_L29_ok {bb : Bool} {G : Nat} {μ : Mem} {r : Int32}  {r7 : Int32 → Int32 → Int32 → Int32 → Option Int32} {k7_94 : Int32 → Int32 → Int32 → Option Int32} {k29_76 : Int32 → Int32 → Int32 → Int32 → Int32 → Option Int32} (hr7 : ∀ (v1 : Int32) (v2 : Int32) (v3 : Int32) (v4 : Int32), r7 v1 v2 v3 v4 = some r → Ev RX6 cX6_bestSilence 7 (some .int) false 4 0 0 (eqP (some r) (shC bb) μ) 7 [some (.ref 38), some (.int v1), some (.int v2), some (.int v3), some (.int v4), none, none] [] (shC bb) μ 0 0) (hk7_94 : ∀ (v1 : Int32) (v2 : Int32) (v3 : Int32), k7_94 v1 v2 v3 = some r → Ev RX6 cX6_bestSilence 7 (some .int) false 4 0 0 (eqP (some r) (shC bb) μ) 94 [none, some (.int v1), some (.int v2), some (.int v3), none, none, none] [] (shC bb) μ 0 0) (hk29_76 : ∀ (v1 : Int32) (v2 : Int32) (v3 : Int32) (v4 : Int32) (v5 : Int32), k29_76 v1 v2 v3 v4 v5 = some r → Ev RX6 cX6_bestSilence 7 (some .int) false 4 0 0 (eqP (some r) (shC bb) μ) 76 [some (.ref 38), some (.int v1), some (.int v2), some (.int v3), some (.int v4), some (.int v5), none] [] (shC bb) μ 0 0) : ∀ (g : Nat) (v1 v2 v3 v4 v5 v6 : Int32), f_X6_bestSilence_L29 G μ r7 k7_94 k29_76 g v1 v2 v3 v4 v5 v6 = some r → Ev RX6 cX6_bestSilence 7 (some .int) false 4 0 0 (eqP (some r) (shC bb) μ) 29 [some (.ref 38), some (.int v1), some (.int v2), some (.int v3), some (.int v4), some (.int v5), some (.int v6)] [] (shC bb) μ 0 0 := by
  intro g
  induction g with
  | zero =>
    intro v1 v2 v3 v4 v5 v6 h
    cases h
  | succ g ih =>
    intro v1 v2 v3 v4 v5 v6 h
    rw [f_X6_bestSilence_L29] at h
    refine ev_iload dX6_bestSilence_29 rfl ?_
    refine ev_iconst (v := (1 : Int32)) dX6_bestSilence_31 (by decide) ?_
    refine ev_aload_n dX6_bestSilence_32 rfl ?_
    refine ev_getI fr_X6_34 shC_38 rfl dX6_bestSilence_33 ?_
    refine ev_ishl dX6_bestSilence_36 ?_
    refine ev_icmp_ge (tgt := 76) dX6_bestSilence_37 (by decide) (fun hc3 => ?_) (fun hc3 => ?_)
    · replace h := ite_t hc3 h
      exact ev_lt (hk29_76 _ _ _ _ _ h) ⟨rfl, ⟨rfl, ⟨rfl, ⟨rfl, ⟨rfl, ⟨rfl, trivial⟩⟩⟩⟩⟩⟩
    · replace h := ite_f hc3 h
      refine ev_iload dX6_bestSilence_40 rfl ?_
      refine ev_cSi mv_X6_15 dX6_bestSilence_42 c_J6_bitCount_0f7a4 rfl rfl (Nat.le_of_ble_eq_true rfl) (by rfl) (Nat.le_of_ble_eq_true rfl) (Nat.le_of_ble_eq_true rfl) (Nat.le_of_ble_eq_true rfl) ?_
      refine ev_iload dX6_bestSilence_45 rfl ?_
      refine ev_icmp_ne (tgt := 70) dX6_bestSilence_47 (by decide) (fun hc4 => ?_) (fun hc4 => ?_)
      · replace h := ite_f hc4 h
        exact ev_lt (f_X6_bestSilence_j70_ok hr7 hk7_94 ih hk29_76 h) ⟨rfl, ⟨rfl, ⟨rfl, ⟨rfl, ⟨rfl, ⟨rfl, ⟨rfl, trivial⟩⟩⟩⟩⟩⟩⟩
      · replace h := ite_t hc4 h
        refine ev_iload dX6_bestSilence_50 rfl ?_
        refine ev_getsF rfl fl_X6_60 dX6_bestSilence_52 ?_
        refine ev_iload dX6_bestSilence_55 rfl ?_
        obtain ⟨hi5, h⟩ := chk_t h
        refine ev_ialdF hi5 dX6_bestSilence_57 ?_
        refine ev_aload_n dX6_bestSilence_58 rfl ?_
        refine ev_iload dX6_bestSilence_59 rfl ?_
        refine ev_iload dX6_bestSilence_61 rfl ?_
        obtain ⟨w7, hq6, h⟩ := bndO_t h
        refine ev_cSi mv_X6_63 dX6_bestSilence_63 (c_X6_ordersBehind hq6) rfl rfl (Nat.le_of_ble_eq_true rfl) (by rfl) (Nat.le_of_ble_eq_true rfl) (Nat.le_of_ble_eq_true rfl) (Nat.le_of_ble_eq_true rfl) ?_
        refine ev_imul dX6_bestSilence_66 ?_
        refine ev_iadd dX6_bestSilence_67 ?_
        refine ev_istore (loc' := [_, _, _, _, _, _, _]) dX6_bestSilence_68 rfl (by decide) (by rfl) ?_
        exact ev_lt (f_X6_bestSilence_j70_ok hr7 hk7_94 ih hk29_76 h) ⟨rfl, ⟨rfl, ⟨rfl, ⟨rfl, ⟨rfl, ⟨rfl, ⟨rfl, trivial⟩⟩⟩⟩⟩⟩⟩
def f_X6_bestSilence_j88 (G : Nat) (μ : Mem) (r7 : Int32 → Int32 → Int32 → Int32 → Option Int32) (k7_94 : Int32 → Int32 → Int32 → Option Int32) (v1 v2 v3 v4 : Int32) : Option Int32 :=
  r7 v1 v2 v3 (v4 + (1 : Int32))
set_option maxHeartbeats 4000000 in
set_option maxRecDepth 100000 in
theorem f_X6_bestSilence_j88_ok {bb : Bool} {G : Nat} {μ : Mem} {r : Int32}  {r7 : Int32 → Int32 → Int32 → Int32 → Option Int32} {k7_94 : Int32 → Int32 → Int32 → Option Int32} (hr7 : ∀ (v1 : Int32) (v2 : Int32) (v3 : Int32) (v4 : Int32), r7 v1 v2 v3 v4 = some r → Ev RX6 cX6_bestSilence 7 (some .int) false 4 0 0 (eqP (some r) (shC bb) μ) 7 [some (.ref 38), some (.int v1), some (.int v2), some (.int v3), some (.int v4), none, none] [] (shC bb) μ 0 0) (hk7_94 : ∀ (v1 : Int32) (v2 : Int32) (v3 : Int32), k7_94 v1 v2 v3 = some r → Ev RX6 cX6_bestSilence 7 (some .int) false 4 0 0 (eqP (some r) (shC bb) μ) 94 [none, some (.int v1), some (.int v2), some (.int v3), none, none, none] [] (shC bb) μ 0 0) {v1 v2 v3 v4 : Int32}  (h : f_X6_bestSilence_j88 G μ r7 k7_94 v1 v2 v3 v4 = some r) : Ev RX6 cX6_bestSilence 7 (some .int) false 4 0 0 (eqP (some r) (shC bb) μ) 88 [some (.ref 38), some (.int v1), some (.int v2), some (.int v3), some (.int v4), none, none] [] (shC bb) μ 0 0 := by
  unfold f_X6_bestSilence_j88 at h
  refine ev_iinc (cq := (1 : Int32)) (loc' := [_, _, _, _, _, _, _]) dX6_bestSilence_88 rfl (by decide) rfl (by decide) (by rfl) ?_
  refine ev_goto (tgt := 7) dX6_bestSilence_91 (by decide) ?_
  exact ev_lt (hr7 _ _ _ _ h) ⟨rfl, ⟨rfl, ⟨rfl, ⟨rfl, ⟨rfl, trivial⟩⟩⟩⟩⟩
def f_X6_bestSilence_j76 (G : Nat) (μ : Mem) (r7 : Int32 → Int32 → Int32 → Int32 → Option Int32) (k7_94 : Int32 → Int32 → Int32 → Option Int32) (v1 v2 v3 v4 v5 : Int32) : Option Int32 :=
  (if v5 ≤ v3 then
  f_X6_bestSilence_j88 G μ r7 k7_94 v1 v2 v3 v4
  else
  f_X6_bestSilence_j88 G μ r7 k7_94 v1 v4 v5 v4)
set_option maxHeartbeats 4000000 in
set_option maxRecDepth 100000 in
theorem f_X6_bestSilence_j76_ok {bb : Bool} {G : Nat} {μ : Mem} {r : Int32}  {r7 : Int32 → Int32 → Int32 → Int32 → Option Int32} {k7_94 : Int32 → Int32 → Int32 → Option Int32} (hr7 : ∀ (v1 : Int32) (v2 : Int32) (v3 : Int32) (v4 : Int32), r7 v1 v2 v3 v4 = some r → Ev RX6 cX6_bestSilence 7 (some .int) false 4 0 0 (eqP (some r) (shC bb) μ) 7 [some (.ref 38), some (.int v1), some (.int v2), some (.int v3), some (.int v4), none, none] [] (shC bb) μ 0 0) (hk7_94 : ∀ (v1 : Int32) (v2 : Int32) (v3 : Int32), k7_94 v1 v2 v3 = some r → Ev RX6 cX6_bestSilence 7 (some .int) false 4 0 0 (eqP (some r) (shC bb) μ) 94 [none, some (.int v1), some (.int v2), some (.int v3), none, none, none] [] (shC bb) μ 0 0) {v1 v2 v3 v4 v5 : Int32}  (h : f_X6_bestSilence_j76 G μ r7 k7_94 v1 v2 v3 v4 v5 = some r) : Ev RX6 cX6_bestSilence 7 (some .int) false 4 0 0 (eqP (some r) (shC bb) μ) 76 [some (.ref 38), some (.int v1), some (.int v2), some (.int v3), some (.int v4), some (.int v5), none] [] (shC bb) μ 0 0 := by
  unfold f_X6_bestSilence_j76 at h
  refine ev_iload dX6_bestSilence_76 rfl ?_
  refine ev_iload_n dX6_bestSilence_78 rfl ?_
  refine ev_icmp_le (tgt := 88) dX6_bestSilence_79 (by decide) (fun hc8 => ?_) (fun hc8 => ?_)
  · replace h := ite_t hc8 h
    exact ev_lt (f_X6_bestSilence_j88_ok hr7 hk7_94 h) ⟨rfl, ⟨rfl, ⟨rfl, ⟨rfl, ⟨rfl, trivial⟩⟩⟩⟩⟩
  · replace h := ite_f hc8 h
    refine ev_iload dX6_bestSilence_82 rfl ?_
    refine ev_istore_n (loc' := [_, _, _, _, _, _, _]) dX6_bestSilence_84 rfl (by decide) (by rfl) ?_
    refine ev_iload dX6_bestSilence_85 rfl ?_
    refine ev_istore_n (loc' := [_, _, _, _, _, _, _]) dX6_bestSilence_87 rfl (by decide) (by rfl) ?_
    exact ev_lt (f_X6_bestSilence_j88_ok hr7 hk7_94 h) ⟨rfl, ⟨rfl, ⟨rfl, ⟨rfl, ⟨rfl, trivial⟩⟩⟩⟩⟩
def f_X6_bestSilence_L7 (G : Nat) (μ : Mem) (k7_94 : Int32 → Int32 → Int32 → Option Int32) : Nat → Int32 → Int32 → Int32 → Int32 → Option Int32
  | 0, _, _, _, _ => none
  | g + 1, v1, v2, v3, v4 =>
  (if (μ 38 3) ≤ v4 then
  k7_94 v1 v2 v3
  else
  (if (7 : Int32) ≤ v4 then
  k7_94 v1 v2 v3
  else
  f_X6_bestSilence_L29 G μ (f_X6_bestSilence_L7 G μ k7_94 g) k7_94 (f_X6_bestSilence_j76 G μ (f_X6_bestSilence_L7 G μ k7_94 g) k7_94) G v1 v2 v3 v4 (0 : Int32) (0 : Int32)))
set_option maxHeartbeats 4000000 in
set_option maxRecDepth 100000 in
theorem f_X6_bestSilence_L7_ok {bb : Bool} {G : Nat} {μ : Mem} {r : Int32}  {k7_94 : Int32 → Int32 → Int32 → Option Int32} (hk7_94 : ∀ (v1 : Int32) (v2 : Int32) (v3 : Int32), k7_94 v1 v2 v3 = some r → Ev RX6 cX6_bestSilence 7 (some .int) false 4 0 0 (eqP (some r) (shC bb) μ) 94 [none, some (.int v1), some (.int v2), some (.int v3), none, none, none] [] (shC bb) μ 0 0) : ∀ (g : Nat) (v1 v2 v3 v4 : Int32), f_X6_bestSilence_L7 G μ k7_94 g v1 v2 v3 v4 = some r → Ev RX6 cX6_bestSilence 7 (some .int) false 4 0 0 (eqP (some r) (shC bb) μ) 7 [some (.ref 38), some (.int v1), some (.int v2), some (.int v3), some (.int v4), none, none] [] (shC bb) μ 0 0 := by
  intro g
  induction g with
  | zero =>
    intro v1 v2 v3 v4 h
    cases h
  | succ g ih =>
    intro v1 v2 v3 v4 h
    rw [f_X6_bestSilence_L7] at h
    refine ev_iload dX6_bestSilence_7 rfl ?_
    refine ev_aload_n dX6_bestSilence_9 rfl ?_
    refine ev_getI fr_X6_34 shC_38 rfl dX6_bestSilence_10 ?_
    refine ev_icmp_ge (tgt := 94) dX6_bestSilence_13 (by decide) (fun hc1 => ?_) (fun hc1 => ?_)
    · replace h := ite_t hc1 h
      exact ev_lt (hk7_94 _ _ _ h) ⟨rfl, ⟨rfl, ⟨rfl, trivial⟩⟩⟩
    · replace h := ite_f hc1 h
      refine ev_iload dX6_bestSilence_16 rfl ?_
      refine ev_bipush (v := (7 : Int32)) dX6_bestSilence_18 (by decide) ?_
      refine ev_icmp_ge (tgt := 94) dX6_bestSilence_20 (by decide) (fun hc2 => ?_) (fun hc2 => ?_)
      · replace h := ite_t hc2 h
        exact ev_lt (hk7_94 _ _ _ h) ⟨rfl, ⟨rfl, ⟨rfl, trivial⟩⟩⟩
      · replace h := ite_f hc2 h
        refine ev_iconst (v := (0 : Int32)) dX6_bestSilence_23 (by decide) ?_
        refine ev_istore (loc' := [_, _, _, _, _, _, _]) dX6_bestSilence_24 rfl (by decide) (by rfl) ?_
        refine ev_iconst (v := (0 : Int32)) dX6_bestSilence_26 (by decide) ?_
        refine ev_istore (loc' := [_, _, _, _, _, _, _]) dX6_bestSilence_27 rfl (by decide) (by rfl) ?_
        exact ev_lt (f_X6_bestSilence_L29_ok ih hk7_94 (fun _ _ _ _ _ hh => f_X6_bestSilence_j76_ok ih hk7_94 hh) _ _ _ _ _ _ _ h) ⟨rfl, ⟨rfl, ⟨rfl, ⟨rfl, ⟨rfl, ⟨rfl, ⟨rfl, trivial⟩⟩⟩⟩⟩⟩⟩
def f_X6_bestSilence_j94 (G : Nat) (μ : Mem)  (v1 v2 v3 : Int32) : Option Int32 :=
  (if v1 = (0 : Int32) then
  some v2
  else
  some v3)
set_option maxHeartbeats 4000000 in
set_option maxRecDepth 100000 in
theorem f_X6_bestSilence_j94_ok {bb : Bool} {G : Nat} {μ : Mem} {r : Int32}    {v1 v2 v3 : Int32}  (h : f_X6_bestSilence_j94 G μ v1 v2 v3 = some r) : Ev RX6 cX6_bestSilence 7 (some .int) false 4 0 0 (eqP (some r) (shC bb) μ) 94 [none, some (.int v1), some (.int v2), some (.int v3), none, none, none] [] (shC bb) μ 0 0 := by
  unfold f_X6_bestSilence_j94 at h
  refine ev_iload_n dX6_bestSilence_94 rfl ?_
  refine ev_if_eq (tgt := 102) dX6_bestSilence_95 (by decide) (fun hc9 => ?_) (fun hc9 => ?_)
  · replace h := ite_t hc9 h
    refine ev_iload_n dX6_bestSilence_102 rfl ?_
    exact ev_iret rfl rfl (by decide) (by decide) dX6_bestSilence_103 (eqP_O h)
  · replace h := ite_f hc9 h
    refine ev_iload_n dX6_bestSilence_98 rfl ?_
    refine ev_goto (tgt := 103) dX6_bestSilence_99 (by decide) ?_
    exact ev_iret rfl rfl (by decide) (by decide) dX6_bestSilence_103 (eqP_O h)
def f_X6_bestSilence (G : Nat) (μ : Mem) (p1 : Int32) : Option Int32 :=
  f_X6_bestSilence_L7 G μ (f_X6_bestSilence_j94 G μ) G p1 (-1 : Int32) (-1 : Int32) (0 : Int32)
set_option maxHeartbeats 4000000 in
set_option maxRecDepth 100000 in
theorem c_X6_bestSilence {bb : Bool} {G : Nat} {μ : Mem}  {p1 : Int32} {r : Int32}  (h : f_X6_bestSilence G μ p1 = some r) : Cn yX6_bestSilence cX6_bestSilence 7 (some .int) 4 0 0 [.ref 38, .int p1] (shC bb) μ (eqP (some r) (shC bb) μ) := by
  refine cn_of (own := RX6) (ini := false) (loc := [some (.ref 38), some (.int p1), none, none, none, none, none]) rfl (by decide) (fun q => by cases q) (Nat.le_of_ble_eq_true rfl) (by rfl) rfl ?_
  unfold f_X6_bestSilence at h
  refine ev_iconst (v := (-1 : Int32)) dX6_bestSilence_0 (by decide) ?_
  refine ev_istore_n (loc' := [_, _, _, _, _, _, _]) dX6_bestSilence_1 rfl (by decide) (by rfl) ?_
  refine ev_iconst (v := (-1 : Int32)) dX6_bestSilence_2 (by decide) ?_
  refine ev_istore_n (loc' := [_, _, _, _, _, _, _]) dX6_bestSilence_3 rfl (by decide) (by rfl) ?_
  refine ev_iconst (v := (0 : Int32)) dX6_bestSilence_4 (by decide) ?_
  refine ev_istore (loc' := [_, _, _, _, _, _, _]) dX6_bestSilence_5 rfl (by decide) (by rfl) ?_
  exact ev_lt (f_X6_bestSilence_L7_ok (fun _ _ _ hh => f_X6_bestSilence_j94_ok hh) _ _ _ _ _ h) ⟨rfl, ⟨rfl, ⟨rfl, ⟨rfl, ⟨rfl, trivial⟩⟩⟩⟩⟩
def f_X6_isLostAfter_j56 (G : Nat) (μ : Mem) (r8 : Int32 → Int32 → Int32 → Int32 → Int32 → Option Int32) (k8_64 : Int32 → Int32 → Option Int32) (v1 v2 v3 v5 s0 : Int32) : Option Int32 :=
  r8 v1 v2 v3 s0 (v5 + (1 : Int32))
set_option maxHeartbeats 4000000 in
set_option maxRecDepth 100000 in
theorem f_X6_isLostAfter_j56_ok {bb : Bool} {G : Nat} {μ : Mem} {r : Int32}  {r8 : Int32 → Int32 → Int32 → Int32 → Int32 → Option Int32} {k8_64 : Int32 → Int32 → Option Int32} (hr8 : ∀ (v1 : Int32) (v2 : Int32) (v3 : Int32) (v4 : Int32) (v5 : Int32), r8 v1 v2 v3 v4 v5 = some r → Ev RX6 cX6_isLostAfter 7 (some .boolean) false 1 0 0 (eqP (some r) (shC bb) μ) 8 [some (.ref 6), some (.int v1), some (.int v2), some (.int v3), some (.int v4), some (.int v5), none] [] (shC bb) μ 0 0) (hk8_64 : ∀ (v3 : Int32) (v4 : Int32), k8_64 v3 v4 = some r → Ev RX6 cX6_isLostAfter 7 (some .boolean) false 1 0 0 (eqP (some r) (shC bb) μ) 64 [none, none, none, some (.int v3), some (.int v4), none, none] [] (shC bb) μ 0 0) {v1 v2 v3 v5 s0 : Int32}  (h : f_X6_isLostAfter_j56 G μ r8 k8_64 v1 v2 v3 v5 s0 = some r) : Ev RX6 cX6_isLostAfter 7 (some .boolean) false 1 0 0 (eqP (some r) (shC bb) μ) 56 [some (.ref 6), some (.int v1), some (.int v2), some (.int v3), none, some (.int v5), none] [.int s0] (shC bb) μ 0 0 := by
  unfold f_X6_isLostAfter_j56 at h
  refine ev_istore (loc' := [_, _, _, _, _, _, _]) dX6_isLostAfter_56 rfl (by decide) (by rfl) ?_
  refine ev_iinc (cq := (1 : Int32)) (loc' := [_, _, _, _, _, _, _]) dX6_isLostAfter_58 rfl (by decide) rfl (by decide) (by rfl) ?_
  refine ev_goto (tgt := 8) dX6_isLostAfter_61 (by decide) ?_
  exact ev_lt (hr8 _ _ _ _ _ h) ⟨rfl, ⟨rfl, ⟨rfl, ⟨rfl, ⟨rfl, ⟨rfl, trivial⟩⟩⟩⟩⟩⟩
def f_X6_isLostAfter_j51 (G : Nat) (μ : Mem) (r8 : Int32 → Int32 → Int32 → Int32 → Int32 → Option Int32) (k8_64 : Int32 → Int32 → Option Int32) (v1 v2 v3 v5 : Int32) : Option Int32 :=
  f_X6_isLostAfter_j56 G μ r8 k8_64 v1 v2 v3 v5 (1 : Int32)
set_option maxHeartbeats 4000000 in
set_option maxRecDepth 100000 in
theorem f_X6_isLostAfter_j51_ok {bb : Bool} {G : Nat} {μ : Mem} {r : Int32}  {r8 : Int32 → Int32 → Int32 → Int32 → Int32 → Option Int32} {k8_64 : Int32 → Int32 → Option Int32} (hr8 : ∀ (v1 : Int32) (v2 : Int32) (v3 : Int32) (v4 : Int32) (v5 : Int32), r8 v1 v2 v3 v4 v5 = some r → Ev RX6 cX6_isLostAfter 7 (some .boolean) false 1 0 0 (eqP (some r) (shC bb) μ) 8 [some (.ref 6), some (.int v1), some (.int v2), some (.int v3), some (.int v4), some (.int v5), none] [] (shC bb) μ 0 0) (hk8_64 : ∀ (v3 : Int32) (v4 : Int32), k8_64 v3 v4 = some r → Ev RX6 cX6_isLostAfter 7 (some .boolean) false 1 0 0 (eqP (some r) (shC bb) μ) 64 [none, none, none, some (.int v3), some (.int v4), none, none] [] (shC bb) μ 0 0) {v1 v2 v3 v5 : Int32}  (h : f_X6_isLostAfter_j51 G μ r8 k8_64 v1 v2 v3 v5 = some r) : Ev RX6 cX6_isLostAfter 7 (some .boolean) false 1 0 0 (eqP (some r) (shC bb) μ) 51 [some (.ref 6), some (.int v1), some (.int v2), some (.int v3), none, some (.int v5), none] [] (shC bb) μ 0 0 := by
  unfold f_X6_isLostAfter_j51 at h
  refine ev_iconst (v := (1 : Int32)) dX6_isLostAfter_51 (by decide) ?_
  refine ev_goto (tgt := 56) dX6_isLostAfter_52 (by decide) ?_
  exact ev_lt (f_X6_isLostAfter_j56_ok hr8 hk8_64 h) ⟨rfl, ⟨rfl, ⟨rfl, ⟨rfl, ⟨rfl, trivial⟩⟩⟩⟩⟩
def f_X6_isLostAfter_j30 (G : Nat) (μ : Mem) (r8 : Int32 → Int32 → Int32 → Int32 → Int32 → Option Int32) (k8_64 : Int32 → Int32 → Option Int32) (v1 v2 v3 v4 v5 s0 s1 : Int32) : Option Int32 :=
  (if v4 = (0 : Int32) then
  (if ((s1 - s0) &&& (3 : Int32)) ≤ (1 : Int32) then
  f_X6_isLostAfter_j56 G μ r8 k8_64 v1 v2 (v3 ^^^ ((s1 - s0) &&& (3 : Int32))) v5 (0 : Int32)
  else
  f_X6_isLostAfter_j51 G μ r8 k8_64 v1 v2 (v3 ^^^ ((s1 - s0) &&& (3 : Int32))) v5)
  else
  f_X6_isLostAfter_j51 G μ r8 k8_64 v1 v2 (v3 ^^^ ((s1 - s0) &&& (3 : Int32))) v5)
set_option maxHeartbeats 4000000 in
set_option maxRecDepth 100000 in
theorem f_X6_isLostAfter_j30_ok {bb : Bool} {G : Nat} {μ : Mem} {r : Int32}  {r8 : Int32 → Int32 → Int32 → Int32 → Int32 → Option Int32} {k8_64 : Int32 → Int32 → Option Int32} (hr8 : ∀ (v1 : Int32) (v2 : Int32) (v3 : Int32) (v4 : Int32) (v5 : Int32), r8 v1 v2 v3 v4 v5 = some r → Ev RX6 cX6_isLostAfter 7 (some .boolean) false 1 0 0 (eqP (some r) (shC bb) μ) 8 [some (.ref 6), some (.int v1), some (.int v2), some (.int v3), some (.int v4), some (.int v5), none] [] (shC bb) μ 0 0) (hk8_64 : ∀ (v3 : Int32) (v4 : Int32), k8_64 v3 v4 = some r → Ev RX6 cX6_isLostAfter 7 (some .boolean) false 1 0 0 (eqP (some r) (shC bb) μ) 64 [none, none, none, some (.int v3), some (.int v4), none, none] [] (shC bb) μ 0 0) {v1 v2 v3 v4 v5 s0 s1 : Int32}  (h : f_X6_isLostAfter_j30 G μ r8 k8_64 v1 v2 v3 v4 v5 s0 s1 = some r) : Ev RX6 cX6_isLostAfter 7 (some .boolean) false 1 0 0 (eqP (some r) (shC bb) μ) 30 [some (.ref 6), some (.int v1), some (.int v2), some (.int v3), some (.int v4), some (.int v5), none] [.int s0, .int s1] (shC bb) μ 0 0 := by
  unfold f_X6_isLostAfter_j30 at h
  refine ev_isub dX6_isLostAfter_30 ?_
  refine ev_iconst (v := (3 : Int32)) dX6_isLostAfter_31 (by decide) ?_
  refine ev_iand dX6_isLostAfter_32 ?_
  refine ev_istore (loc' := [_, _, _, _, _, _, _]) dX6_isLostAfter_33 rfl (by decide) (by rfl) ?_
  refine ev_iload_n dX6_isLostAfter_35 rfl ?_
  refine ev_iload dX6_isLostAfter_36 rfl ?_
  refine ev_ixor dX6_isLostAfter_38 ?_
  refine ev_istore_n (loc' := [_, _, _, _, _, _, _]) dX6_isLostAfter_39 rfl (by decide) (by rfl) ?_
  refine ev_iload dX6_isLostAfter_40 rfl ?_
  refine ev_if_ne (tgt := 51) dX6_isLostAfter_42 (by decide) (fun hc4 => ?_) (fun hc4 => ?_)
  · replace h := ite_f hc4 h
    exact ev_lt (f_X6_isLostAfter_j51_ok hr8 hk8_64 h) ⟨rfl, ⟨rfl, ⟨rfl, ⟨rfl, ⟨rfl, trivial⟩⟩⟩⟩⟩
  · replace h := ite_t hc4 h
    refine ev_iload dX6_isLostAfter_45 rfl ?_
    refine ev_iconst (v := (1 : Int32)) dX6_isLostAfter_47 (by decide) ?_
    refine ev_icmp_le (tgt := 55) dX6_isLostAfter_48 (by decide) (fun hc5 => ?_) (fun hc5 => ?_)
    · replace h := ite_t hc5 h
      refine ev_iconst (v := (0 : Int32)) dX6_isLostAfter_55 (by decide) ?_
      exact ev_lt (f_X6_isLostAfter_j56_ok hr8 hk8_64 h) ⟨rfl, ⟨rfl, ⟨rfl, ⟨rfl, ⟨rfl, trivial⟩⟩⟩⟩⟩
    · replace h := ite_f hc5 h
      exact ev_lt (f_X6_isLostAfter_j51_ok hr8 hk8_64 h) ⟨rfl, ⟨rfl, ⟨rfl, ⟨rfl, ⟨rfl, trivial⟩⟩⟩⟩⟩
def f_X6_isLostAfter_L8 (G : Nat) (μ : Mem) (k8_64 : Int32 → Int32 → Option Int32) : Nat → Int32 → Int32 → Int32 → Int32 → Int32 → Option Int32
  | 0, _, _, _, _, _ => none
  | g + 1, v1, v2, v3, v4, v5 =>
  (if (8 : Int32) ≤ v5 then
  k8_64 v3 v4
  else
  chk v5 8 ((if v5 = v1 then
  f_X6_isLostAfter_j30 G μ (f_X6_isLostAfter_L8 G μ k8_64 g) k8_64 v1 v2 v3 v4 v5 v2 (μ 6 (ix v5))
  else
  f_X6_isLostAfter_j30 G μ (f_X6_isLostAfter_L8 G μ k8_64 g) k8_64 v1 v2 v3 v4 v5 (0 : Int32) (μ 6 (ix v5)))))
set_option maxHeartbeats 4000000 in
set_option maxRecDepth 100000 in
theorem f_X6_isLostAfter_L8_ok {bb : Bool} {G : Nat} {μ : Mem} {r : Int32}  {k8_64 : Int32 → Int32 → Option Int32} (hk8_64 : ∀ (v3 : Int32) (v4 : Int32), k8_64 v3 v4 = some r → Ev RX6 cX6_isLostAfter 7 (some .boolean) false 1 0 0 (eqP (some r) (shC bb) μ) 64 [none, none, none, some (.int v3), some (.int v4), none, none] [] (shC bb) μ 0 0) : ∀ (g : Nat) (v1 v2 v3 v4 v5 : Int32), f_X6_isLostAfter_L8 G μ k8_64 g v1 v2 v3 v4 v5 = some r → Ev RX6 cX6_isLostAfter 7 (some .boolean) false 1 0 0 (eqP (some r) (shC bb) μ) 8 [some (.ref 6), some (.int v1), some (.int v2), some (.int v3), some (.int v4), some (.int v5), none] [] (shC bb) μ 0 0 := by
  intro g
  induction g with
  | zero =>
    intro v1 v2 v3 v4 v5 h
    cases h
  | succ g ih =>
    intro v1 v2 v3 v4 v5 h
    rw [f_X6_isLostAfter_L8] at h
    refine ev_iload dX6_isLostAfter_8 rfl ?_
    refine ev_aload_n dX6_isLostAfter_10 rfl ?_
    refine ev_alen (v := (8 : Int32)) shC_6 (by decide) dX6_isLostAfter_11 ?_
    refine ev_icmp_ge (tgt := 64) dX6_isLostAfter_12 (by decide) (fun hc1 => ?_) (fun hc1 => ?_)
    · replace h := ite_t hc1 h
      exact ev_lt (hk8_64 _ _ h) ⟨rfl, ⟨rfl, trivial⟩⟩
    · replace h := ite_f hc1 h
      refine ev_aload_n dX6_isLostAfter_15 rfl ?_
      refine ev_iload dX6_isLostAfter_16 rfl ?_
      obtain ⟨hi2, h⟩ := chk_t h
      refine ev_iald shC_6 hi2 dX6_isLostAfter_18 ?_
      refine ev_iload dX6_isLostAfter_19 rfl ?_
      refine ev_iload_n dX6_isLostAfter_21 rfl ?_
      refine ev_icmp_ne (tgt := 29) dX6_isLostAfter_22 (by decide) (fun hc3 => ?_) (fun hc3 => ?_)
      · replace h := ite_f hc3 h
        refine ev_iconst (v := (0 : Int32)) dX6_isLostAfter_29 (by decide) ?_
        exact ev_lt (f_X6_isLostAfter_j30_ok ih hk8_64 h) ⟨rfl, ⟨rfl, ⟨rfl, ⟨rfl, ⟨rfl, ⟨rfl, trivial⟩⟩⟩⟩⟩⟩
      · replace h := ite_t hc3 h
        refine ev_iload_n dX6_isLostAfter_25 rfl ?_
        refine ev_goto (tgt := 30) dX6_isLostAfter_26 (by decide) ?_
        exact ev_lt (f_X6_isLostAfter_j30_ok ih hk8_64 h) ⟨rfl, ⟨rfl, ⟨rfl, ⟨rfl, ⟨rfl, ⟨rfl, trivial⟩⟩⟩⟩⟩⟩
def f_X6_isLostAfter_j64 (G : Nat) (μ : Mem)  (v3 v4 : Int32) : Option Int32 :=
  (if v4 = (0 : Int32) then
  (if v3 = (1 : Int32) then
  some (1 : Int32)
  else
  some (0 : Int32))
  else
  (if v3 = (0 : Int32) then
  some (1 : Int32)
  else
  some (0 : Int32)))
set_option maxHeartbeats 4000000 in
set_option maxRecDepth 100000 in
theorem f_X6_isLostAfter_j64_ok {bb : Bool} {G : Nat} {μ : Mem} {r : Int32}    {v3 v4 : Int32}  (h : f_X6_isLostAfter_j64 G μ v3 v4 = some r) : Ev RX6 cX6_isLostAfter 7 (some .boolean) false 1 0 0 (eqP (some r) (shC bb) μ) 64 [none, none, none, some (.int v3), some (.int v4), none, none] [] (shC bb) μ 0 0 := by
  unfold f_X6_isLostAfter_j64 at h
  refine ev_iload dX6_isLostAfter_64 rfl ?_
  refine ev_if_eq (tgt := 81) dX6_isLostAfter_66 (by decide) (fun hc6 => ?_) (fun hc6 => ?_)
  · replace h := ite_t hc6 h
    refine ev_iload_n dX6_isLostAfter_81 rfl ?_
    refine ev_iconst (v := (1 : Int32)) dX6_isLostAfter_82 (by decide) ?_
    refine ev_icmp_ne (tgt := 90) dX6_isLostAfter_83 (by decide) (fun hc7 => ?_) (fun hc7 => ?_)
    · replace h := ite_f hc7 h
      refine ev_iconst (v := (0 : Int32)) dX6_isLostAfter_90 (by decide) ?_
      exact ev_iret rfl rfl (by decide) (by decide) dX6_isLostAfter_91 (eqP_O h)
    · replace h := ite_t hc7 h
      refine ev_iconst (v := (1 : Int32)) dX6_isLostAfter_86 (by decide) ?_
      refine ev_goto (tgt := 91) dX6_isLostAfter_87 (by decide) ?_
      exact ev_iret rfl rfl (by decide) (by decide) dX6_isLostAfter_91 (eqP_O h)
  · replace h := ite_f hc6 h
    refine ev_iload_n dX6_isLostAfter_69 rfl ?_
    refine ev_if_ne (tgt := 77) dX6_isLostAfter_70 (by decide) (fun hc8 => ?_) (fun hc8 => ?_)
    · replace h := ite_f hc8 h
      refine ev_iconst (v := (0 : Int32)) dX6_isLostAfter_77 (by decide) ?_
      refine ev_goto (tgt := 91) dX6_isLostAfter_78 (by decide) ?_
      exact ev_iret rfl rfl (by decide) (by decide) dX6_isLostAfter_91 (eqP_O h)
    · replace h := ite_t hc8 h
      refine ev_iconst (v := (1 : Int32)) dX6_isLostAfter_73 (by decide) ?_
      refine ev_goto (tgt := 91) dX6_isLostAfter_74 (by decide) ?_
      exact ev_iret rfl rfl (by decide) (by decide) dX6_isLostAfter_91 (eqP_O h)
def f_X6_isLostAfter (G : Nat) (μ : Mem) (p1 p2 : Int32) : Option Int32 :=
  f_X6_isLostAfter_L8 G μ (f_X6_isLostAfter_j64 G μ) G p1 p2 (0 : Int32) (0 : Int32) (0 : Int32)
set_option maxHeartbeats 4000000 in
set_option maxRecDepth 100000 in
theorem c_X6_isLostAfter {bb : Bool} {G : Nat} {μ : Mem}  {p1 p2 : Int32} {r : Int32}  (h : f_X6_isLostAfter G μ p1 p2 = some r) : Cn yX6_isLostAfter cX6_isLostAfter 7 (some .boolean) 1 0 0 [.ref 6, .int p1, .int p2] (shC bb) μ (eqP (some r) (shC bb) μ) := by
  refine cn_of (own := RX6) (ini := false) (loc := [some (.ref 6), some (.int p1), some (.int p2), none, none, none, none]) rfl (by decide) (fun q => by cases q) (Nat.le_of_ble_eq_true rfl) (by rfl) rfl ?_
  unfold f_X6_isLostAfter at h
  refine ev_iconst (v := (0 : Int32)) dX6_isLostAfter_0 (by decide) ?_
  refine ev_istore_n (loc' := [_, _, _, _, _, _, _]) dX6_isLostAfter_1 rfl (by decide) (by rfl) ?_
  refine ev_iconst (v := (0 : Int32)) dX6_isLostAfter_2 (by decide) ?_
  refine ev_istore (loc' := [_, _, _, _, _, _, _]) dX6_isLostAfter_3 rfl (by decide) (by rfl) ?_
  refine ev_iconst (v := (0 : Int32)) dX6_isLostAfter_5 (by decide) ?_
  refine ev_istore (loc' := [_, _, _, _, _, _, _]) dX6_isLostAfter_6 rfl (by decide) (by rfl) ?_
  exact ev_lt (f_X6_isLostAfter_L8_ok (fun _ _ hh => f_X6_isLostAfter_j64_ok hh) _ _ _ _ _ _ h) ⟨rfl, ⟨rfl, ⟨rfl, ⟨rfl, ⟨rfl, ⟨rfl, trivial⟩⟩⟩⟩⟩⟩
def f_X6_goodTaking_L10 (G : Nat) (μ : Mem) (r2 : Int32 → Int32 → Option Int32) (k2_31 : Int32 → Int32 → Int32 → Option Int32) (k10_31 : Int32 → Int32 → Int32 → Option Int32) (k10_47 : Int32 → Int32 → Option Int32) : Nat → Int32 → Int32 → Int32 → Option Int32
  | 0, _, _, _ => none
  | g + 1, v1, v2, v3 =>
  (if (3 : Int32) < v3 then
  k10_47 v1 v2
  else
  chk v2 8 ((if (μ 6 (ix v2)) < v3 then
  k10_47 v1 v2
  else
  bndO (f_X6_isLostAfter G μ v2 v3) (fun w6 =>
  (if w6 = (0 : Int32) then
  (f_X6_goodTaking_L10 G μ r2 k2_31 k10_31 k10_47 g) v1 v2 (v3 + (1 : Int32))
  else
  k10_31 v1 v2 v3)))))
set_option maxHeartbeats 4000000 in
set_option maxRecDepth 100000 in
theorem f_X6_goodTaking_L10_ok {bb : Bool} {G : Nat} {μ : Mem} {r : Int32}  {r2 : Int32 → Int32 → Option Int32} {k2_31 : Int32 → Int32 → Int32 → Option Int32} {k10_31 : Int32 → Int32 → Int32 → Option Int32} {k10_47 : Int32 → Int32 → Option Int32} (hr2 : ∀ (v1 : Int32) (v2 : Int32), r2 v1 v2 = some r → Ev RX6 cX6_goodTaking 4 (some .int) false 2 0 0 (eqP (some r) (shC bb) μ) 2 [some (.ref 6), some (.int v1), some (.int v2), none] [] (shC bb) μ 0 0) (hk2_31 : ∀ (v1 : Int32) (v2 : Int32) (v3 : Int32), k2_31 v1 v2 v3 = some r → Ev RX6 cX6_goodTaking 4 (some .int) false 2 0 0 (eqP (some r) (shC bb) μ) 31 [none, some (.int v1), some (.int v2), some (.int v3)] [] (shC bb) μ 0 0) (hk10_31 : ∀ (v1 : Int32) (v2 : Int32) (v3 : Int32), k10_31 v1 v2 v3 = some r → Ev RX6 cX6_goodTaking 4 (some .int) false 2 0 0 (eqP (some r) (shC bb) μ) 31 [none, some (.int v1), some (.int v2), some (.int v3)] [] (shC bb) μ 0 0) (hk10_47 : ∀ (v1 : Int32) (v2 : Int32), k10_47 v1 v2 = some r → Ev RX6 cX6_goodTaking 4 (some .int) false 2 0 0 (eqP (some r) (shC bb) μ) 47 [some (.ref 6), some (.int v1), some (.int v2), none] [] (shC bb) μ 0 0) : ∀ (g : Nat) (v1 v2 v3 : Int32), f_X6_goodTaking_L10 G μ r2 k2_31 k10_31 k10_47 g v1 v2 v3 = some r → Ev RX6 cX6_goodTaking 4 (some .int) false 2 0 0 (eqP (some r) (shC bb) μ) 10 [some (.ref 6), some (.int v1), some (.int v2), some (.int v3)] [] (shC bb) μ 0 0 := by
  intro g
  induction g with
  | zero =>
    intro v1 v2 v3 h
    cases h
  | succ g ih =>
    intro v1 v2 v3 h
    rw [f_X6_goodTaking_L10] at h
    refine ev_iload_n dX6_goodTaking_10 rfl ?_
    refine ev_iconst (v := (3 : Int32)) dX6_goodTaking_11 (by decide) ?_
    refine ev_icmp_gt (tgt := 47) dX6_goodTaking_12 (by decide) (fun hc2 => ?_) (fun hc2 => ?_)
    · replace h := ite_t hc2 h
      exact ev_lt (hk10_47 _ _ h) ⟨rfl, ⟨rfl, ⟨rfl, trivial⟩⟩⟩
    · replace h := ite_f hc2 h
      refine ev_iload_n dX6_goodTaking_15 rfl ?_
      refine ev_aload_n dX6_goodTaking_16 rfl ?_
      refine ev_iload_n dX6_goodTaking_17 rfl ?_
      obtain ⟨hi3, h⟩ := chk_t h
      refine ev_iald shC_6 hi3 dX6_goodTaking_18 ?_
      refine ev_icmp_gt (tgt := 47) dX6_goodTaking_19 (by decide) (fun hc4 => ?_) (fun hc4 => ?_)
      · replace h := ite_t hc4 h
        exact ev_lt (hk10_47 _ _ h) ⟨rfl, ⟨rfl, ⟨rfl, trivial⟩⟩⟩
      · replace h := ite_f hc4 h
        refine ev_aload_n dX6_goodTaking_22 rfl ?_
        refine ev_iload_n dX6_goodTaking_23 rfl ?_
        refine ev_iload_n dX6_goodTaking_24 rfl ?_
        obtain ⟨w6, hq5, h⟩ := bndO_t h
        refine ev_cSi mv_X6_67 dX6_goodTaking_25 (c_X6_isLostAfter hq5) rfl rfl (Nat.le_of_ble_eq_true rfl) (by rfl) (Nat.le_of_ble_eq_true rfl) (Nat.le_of_ble_eq_true rfl) (Nat.le_of_ble_eq_true rfl) ?_
        refine ev_if_eq (tgt := 41) dX6_goodTaking_28 (by decide) (fun hc7 => ?_) (fun hc7 => ?_)
        · replace h := ite_t hc7 h
          refine ev_iinc (cq := (1 : Int32)) (loc' := [_, _, _, _]) dX6_goodTaking_41 rfl (by decide) rfl (by decide) (by rfl) ?_
          refine ev_goto (tgt := 10) dX6_goodTaking_44 (by decide) ?_
          exact ev_lt (ih _ _ _ h) ⟨rfl, ⟨rfl, ⟨rfl, ⟨rfl, trivial⟩⟩⟩⟩
        · replace h := ite_f hc7 h
          exact ev_lt (hk10_31 _ _ _ h) ⟨rfl, ⟨rfl, ⟨rfl, trivial⟩⟩⟩
def f_X6_goodTaking_j47 (G : Nat) (μ : Mem) (r2 : Int32 → Int32 → Option Int32) (k2_31 : Int32 → Int32 → Int32 → Option Int32) (v1 v2 : Int32) : Option Int32 :=
  r2 v1 (v2 + (1 : Int32))
set_option maxHeartbeats 4000000 in
set_option maxRecDepth 100000 in
theorem f_X6_goodTaking_j47_ok {bb : Bool} {G : Nat} {μ : Mem} {r : Int32}  {r2 : Int32 → Int32 → Option Int32} {k2_31 : Int32 → Int32 → Int32 → Option Int32} (hr2 : ∀ (v1 : Int32) (v2 : Int32), r2 v1 v2 = some r → Ev RX6 cX6_goodTaking 4 (some .int) false 2 0 0 (eqP (some r) (shC bb) μ) 2 [some (.ref 6), some (.int v1), some (.int v2), none] [] (shC bb) μ 0 0) (hk2_31 : ∀ (v1 : Int32) (v2 : Int32) (v3 : Int32), k2_31 v1 v2 v3 = some r → Ev RX6 cX6_goodTaking 4 (some .int) false 2 0 0 (eqP (some r) (shC bb) μ) 31 [none, some (.int v1), some (.int v2), some (.int v3)] [] (shC bb) μ 0 0) {v1 v2 : Int32}  (h : f_X6_goodTaking_j47 G μ r2 k2_31 v1 v2 = some r) : Ev RX6 cX6_goodTaking 4 (some .int) false 2 0 0 (eqP (some r) (shC bb) μ) 47 [some (.ref 6), some (.int v1), some (.int v2), none] [] (shC bb) μ 0 0 := by
  unfold f_X6_goodTaking_j47 at h
  refine ev_iinc (cq := (1 : Int32)) (loc' := [_, _, _, _]) dX6_goodTaking_47 rfl (by decide) rfl (by decide) (by rfl) ?_
  refine ev_goto (tgt := 2) dX6_goodTaking_50 (by decide) ?_
  exact ev_lt (hr2 _ _ h) ⟨rfl, ⟨rfl, ⟨rfl, trivial⟩⟩⟩
def f_X6_goodTaking_L2 (G : Nat) (μ : Mem) (k2_31 : Int32 → Int32 → Int32 → Option Int32) : Nat → Int32 → Int32 → Option Int32
  | 0, _, _ => none
  | g + 1, v1, v2 =>
  (if (8 : Int32) ≤ v2 then
  some (-1 : Int32)
  else
  f_X6_goodTaking_L10 G μ (f_X6_goodTaking_L2 G μ k2_31 g) k2_31 k2_31 (f_X6_goodTaking_j47 G μ (f_X6_goodTaking_L2 G μ k2_31 g) k2_31) G v1 v2 (1 : Int32))
set_option maxHeartbeats 4000000 in
set_option maxRecDepth 100000 in
theorem f_X6_goodTaking_L2_ok {bb : Bool} {G : Nat} {μ : Mem} {r : Int32}  {k2_31 : Int32 → Int32 → Int32 → Option Int32} (hk2_31 : ∀ (v1 : Int32) (v2 : Int32) (v3 : Int32), k2_31 v1 v2 v3 = some r → Ev RX6 cX6_goodTaking 4 (some .int) false 2 0 0 (eqP (some r) (shC bb) μ) 31 [none, some (.int v1), some (.int v2), some (.int v3)] [] (shC bb) μ 0 0) : ∀ (g : Nat) (v1 v2 : Int32), f_X6_goodTaking_L2 G μ k2_31 g v1 v2 = some r → Ev RX6 cX6_goodTaking 4 (some .int) false 2 0 0 (eqP (some r) (shC bb) μ) 2 [some (.ref 6), some (.int v1), some (.int v2), none] [] (shC bb) μ 0 0 := by
  intro g
  induction g with
  | zero =>
    intro v1 v2 h
    cases h
  | succ g ih =>
    intro v1 v2 h
    rw [f_X6_goodTaking_L2] at h
    refine ev_iload_n dX6_goodTaking_2 rfl ?_
    refine ev_aload_n dX6_goodTaking_3 rfl ?_
    refine ev_alen (v := (8 : Int32)) shC_6 (by decide) dX6_goodTaking_4 ?_
    refine ev_icmp_ge (tgt := 53) dX6_goodTaking_5 (by decide) (fun hc1 => ?_) (fun hc1 => ?_)
    · replace h := ite_t hc1 h
      refine ev_iconst (v := (-1 : Int32)) dX6_goodTaking_53 (by decide) ?_
      exact ev_iret rfl rfl (by decide) (by decide) dX6_goodTaking_54 (eqP_O h)
    · replace h := ite_f hc1 h
      refine ev_iconst (v := (1 : Int32)) dX6_goodTaking_8 (by decide) ?_
      refine ev_istore_n (loc' := [_, _, _, _]) dX6_goodTaking_9 rfl (by decide) (by rfl) ?_
      exact ev_lt (f_X6_goodTaking_L10_ok ih hk2_31 hk2_31 (fun _ _ hh => f_X6_goodTaking_j47_ok ih hk2_31 hh) _ _ _ _ h) ⟨rfl, ⟨rfl, ⟨rfl, ⟨rfl, trivial⟩⟩⟩⟩
def f_X6_goodTaking_j31 (G : Nat) (μ : Mem)  (v1 v2 v3 : Int32) : Option Int32 :=
  (if v1 = (0 : Int32) then
  some v2
  else
  some v3)
set_option maxHeartbeats 4000000 in
set_option maxRecDepth 100000 in
theorem f_X6_goodTaking_j31_ok {bb : Bool} {G : Nat} {μ : Mem} {r : Int32}    {v1 v2 v3 : Int32}  (h : f_X6_goodTaking_j31 G μ v1 v2 v3 = some r) : Ev RX6 cX6_goodTaking 4 (some .int) false 2 0 0 (eqP (some r) (shC bb) μ) 31 [none, some (.int v1), some (.int v2), some (.int v3)] [] (shC bb) μ 0 0 := by
  unfold f_X6_goodTaking_j31 at h
  refine ev_iload_n dX6_goodTaking_31 rfl ?_
  refine ev_if_eq (tgt := 39) dX6_goodTaking_32 (by decide) (fun hc8 => ?_) (fun hc8 => ?_)
  · replace h := ite_t hc8 h
    refine ev_iload_n dX6_goodTaking_39 rfl ?_
    exact ev_iret rfl rfl (by decide) (by decide) dX6_goodTaking_40 (eqP_O h)
  · replace h := ite_f hc8 h
    refine ev_iload_n dX6_goodTaking_35 rfl ?_
    refine ev_goto (tgt := 40) dX6_goodTaking_36 (by decide) ?_
    exact ev_iret rfl rfl (by decide) (by decide) dX6_goodTaking_40 (eqP_O h)
def f_X6_goodTaking (G : Nat) (μ : Mem) (p1 : Int32) : Option Int32 :=
  f_X6_goodTaking_L2 G μ (f_X6_goodTaking_j31 G μ) G p1 (0 : Int32)
set_option maxHeartbeats 4000000 in
set_option maxRecDepth 100000 in
theorem c_X6_goodTaking {bb : Bool} {G : Nat} {μ : Mem}  {p1 : Int32} {r : Int32}  (h : f_X6_goodTaking G μ p1 = some r) : Cn yX6_goodTaking cX6_goodTaking 4 (some .int) 2 0 0 [.ref 6, .int p1] (shC bb) μ (eqP (some r) (shC bb) μ) := by
  refine cn_of (own := RX6) (ini := false) (loc := [some (.ref 6), some (.int p1), none, none]) rfl (by decide) (fun q => by cases q) (Nat.le_of_ble_eq_true rfl) (by rfl) rfl ?_
  unfold f_X6_goodTaking at h
  refine ev_iconst (v := (0 : Int32)) dX6_goodTaking_0 (by decide) ?_
  refine ev_istore_n (loc' := [_, _, _, _]) dX6_goodTaking_1 rfl (by decide) (by rfl) ?_
  exact ev_lt (f_X6_goodTaking_L2_ok (fun _ _ _ hh => f_X6_goodTaking_j31_ok hh) _ _ _ h) ⟨rfl, ⟨rfl, ⟨rfl, trivial⟩⟩⟩
def f_X7_meet_j91 (G : Nat) (s : Nat)  (v2 s0 s1 : Int32) (μ : Mem) : Option Mem :=
  chk s1 11 (let m11 := wr μ 94 (ix s1) s0
  chk v2 8 ((let m14 := wr m11 94 7 (m11 11 (ix v2))
  (let m15 := wr m14 94 8 (m14 s 5)
  chk v2 8 ((let m17 := wr m15 94 9 (m15 (s + 4) (ix v2))
  chk v2 8 ((let m19 := wr m17 94 10 (m17 (s + 3) (ix v2))
  some m19))))))))
set_option maxHeartbeats 4000000 in
set_option maxRecDepth 100000 in
theorem f_X7_meet_j91_ok {bb : Bool} {G : Nat} {s : Nat} {μr : Mem} (hs : At_X8 (shC bb) s)   {v2 s0 s1 : Int32} {μ : Mem} (h : f_X7_meet_j91 G s v2 s0 s1 μ = some μr) : Ev RX7 cX7_meet 4 none false 3 0 0 (eqP none (shC bb) μr) 91 [some (.ref 93), some (.ref s), some (.int v2), none] [.int s0, .int s1, .ref 94] (shC bb) μ 0 0 := by
  unfold f_X7_meet_j91 at h
  obtain ⟨hi12, h⟩ := chk_t h
  refine ev_iast shC_94 hi12 dX7_meet_91 ?_
  refine ev_aload_n dX7_meet_92 rfl ?_
  refine ev_getR fr_X7_11 shC_93 rfl dX7_meet_93 ?_
  refine ev_bipush (v := (7 : Int32)) dX7_meet_96 (by decide) ?_
  refine ev_aload_n dX7_meet_98 rfl ?_
  refine ev_getR fr_X7_29 shC_93 rfl dX7_meet_99 ?_
  refine ev_getR fr_X7_54 shC_1 rfl dX7_meet_102 ?_
  refine ev_iload_n dX7_meet_105 rfl ?_
  obtain ⟨hi13, h⟩ := chk_t h
  refine ev_iald shC_11 hi13 dX7_meet_106 ?_
  refine ev_iastL (j := 7) shC_94 (by decide) (vpl _ _ (by decide)) dX7_meet_107 ?_
  refine ev_aload_n dX7_meet_108 rfl ?_
  refine ev_getR fr_X7_11 shC_93 rfl dX7_meet_109 ?_
  refine ev_bipush (v := (8 : Int32)) dX7_meet_112 (by decide) ?_
  refine ev_aload_n dX7_meet_114 rfl ?_
  refine ev_getI fr_X7_57 (hs.1) rfl dX7_meet_115 ?_
  refine ev_iastL (j := 8) shC_94 (by decide) (vpl _ _ (by decide)) dX7_meet_118 ?_
  refine ev_aload_n dX7_meet_119 rfl ?_
  refine ev_getR fr_X7_11 shC_93 rfl dX7_meet_120 ?_
  refine ev_bipush (v := (9 : Int32)) dX7_meet_123 (by decide) ?_
  refine ev_aload_n dX7_meet_125 rfl ?_
  refine ev_getR fr_X7_63 (hs.1) rfl dX7_meet_126 ?_
  refine ev_iload_n dX7_meet_129 rfl ?_
  obtain ⟨hi16, h⟩ := chk_t h
  refine ev_iald (hs.2.2.2.2.1) hi16 dX7_meet_130 ?_
  refine ev_iastL (j := 9) shC_94 (by decide) (vpl _ _ (by decide)) dX7_meet_131 ?_
  refine ev_aload_n dX7_meet_132 rfl ?_
  refine ev_getR fr_X7_11 shC_93 rfl dX7_meet_133 ?_
  refine ev_bipush (v := (10 : Int32)) dX7_meet_136 (by decide) ?_
  refine ev_aload_n dX7_meet_138 rfl ?_
  refine ev_getR fr_X7_66 (hs.1) rfl dX7_meet_139 ?_
  refine ev_iload_n dX7_meet_142 rfl ?_
  obtain ⟨hi18, h⟩ := chk_t h
  refine ev_iald (hs.2.2.2.1) hi18 dX7_meet_143 ?_
  refine ev_iastL (j := 10) shC_94 (by decide) (vpl _ _ (by decide)) dX7_meet_144 ?_
  exact ev_vret rfl (by decide) (by decide) dX7_meet_145 (eqP_V h)
def f_X7_meet (G : Nat) (s : Nat) (p1 p2 : Int32) (μ : Mem) : Option Mem :=
  (if (f_X0_isGroom μ p1) = (0 : Int32) then
  some μ
  else
  (if (f_X0_isWoman μ p2) = (0 : Int32) then
  some μ
  else
  chk p2 12 ((let m4 := wr μ 94 0 (μ 8 (ix p2))
  chk p2 12 ((let m6 := wr m4 94 1 (m4 9 (ix p2))
  chk p2 12 ((let m8 := wr m6 94 2 (m6 10 (ix p2))
  chk p1 8 ((if (m8 12 (ix p1)) = p2 then
  f_X7_meet_j91 G s p1 (1 : Int32) (3 : Int32) m8
  else
  f_X7_meet_j91 G s p1 (0 : Int32) (3 : Int32) m8))))))))))
set_option maxHeartbeats 4000000 in
set_option maxRecDepth 100000 in
theorem c_X7_meet {bb : Bool} {G : Nat} {s : Nat} {μ : Mem} {p1 p2 : Int32} {μr : Mem} (hs : At_X8 (shC bb) s) (h : f_X7_meet G s p1 p2 μ = some μr) : Cn yX7_meet cX7_meet 4 none 3 0 0 [.ref 93, .ref s, .int p1, .int p2] (shC bb) μ (eqP none (shC bb) μr) := by
  refine cn_of (own := RX7) (ini := false) (loc := [some (.ref 93), some (.ref s), some (.int p1), some (.int p2)]) rfl (by decide) (fun q => by cases q) (Nat.le_of_ble_eq_true rfl) (by rfl) rfl ?_
  unfold f_X7_meet at h
  refine ev_aload_n dX7_meet_0 rfl ?_
  refine ev_getR fr_X7_29 shC_93 rfl dX7_meet_1 ?_
  refine ev_iload_n dX7_meet_4 rfl ?_
  refine ev_cVi mv_X7_33 dX7_meet_5 c_X0_isGroom rfl shC_1 rfl rfl (Nat.le_of_ble_eq_true rfl) (by rfl) (Nat.le_of_ble_eq_true rfl) (Nat.le_of_ble_eq_true rfl) (Nat.le_of_ble_eq_true rfl) ?_
  refine ev_if_eq (tgt := 22) dX7_meet_8 (by decide) (fun hc1 => ?_) (fun hc1 => ?_)
  · replace h := ite_t hc1 h
    exact ev_vret rfl (by decide) (by decide) dX7_meet_22 (eqP_V h)
  · replace h := ite_f hc1 h
    refine ev_aload_n dX7_meet_11 rfl ?_
    refine ev_getR fr_X7_29 shC_93 rfl dX7_meet_12 ?_
    refine ev_iload_n dX7_meet_15 rfl ?_
    refine ev_cVi mv_X7_39 dX7_meet_16 c_X0_isWoman rfl shC_1 rfl rfl (Nat.le_of_ble_eq_true rfl) (by rfl) (Nat.le_of_ble_eq_true rfl) (Nat.le_of_ble_eq_true rfl) (Nat.le_of_ble_eq_true rfl) ?_
    refine ev_if_ne (tgt := 23) dX7_meet_19 (by decide) (fun hc2 => ?_) (fun hc2 => ?_)
    · replace h := ite_f hc2 h
      refine ev_aload_n dX7_meet_23 rfl ?_
      refine ev_getR fr_X7_11 shC_93 rfl dX7_meet_24 ?_
      refine ev_iconst (v := (0 : Int32)) dX7_meet_27 (by decide) ?_
      refine ev_aload_n dX7_meet_28 rfl ?_
      refine ev_getR fr_X7_29 shC_93 rfl dX7_meet_29 ?_
      refine ev_getR fr_X7_42 shC_1 rfl dX7_meet_32 ?_
      refine ev_iload_n dX7_meet_35 rfl ?_
      obtain ⟨hi3, h⟩ := chk_t h
      refine ev_iald shC_8 hi3 dX7_meet_36 ?_
      refine ev_iastL (j := 0) shC_94 (by decide) (vpl _ _ (by decide)) dX7_meet_37 ?_
      refine ev_aload_n dX7_meet_38 rfl ?_
      refine ev_getR fr_X7_11 shC_93 rfl dX7_meet_39 ?_
      refine ev_iconst (v := (1 : Int32)) dX7_meet_42 (by decide) ?_
      refine ev_aload_n dX7_meet_43 rfl ?_
      refine ev_getR fr_X7_29 shC_93 rfl dX7_meet_44 ?_
      refine ev_getR fr_X7_45 shC_1 rfl dX7_meet_47 ?_
      refine ev_iload_n dX7_meet_50 rfl ?_
      obtain ⟨hi5, h⟩ := chk_t h
      refine ev_iald shC_9 hi5 dX7_meet_51 ?_
      refine ev_iastL (j := 1) shC_94 (by decide) (vpl _ _ (by decide)) dX7_meet_52 ?_
      refine ev_aload_n dX7_meet_53 rfl ?_
      refine ev_getR fr_X7_11 shC_93 rfl dX7_meet_54 ?_
      refine ev_iconst (v := (2 : Int32)) dX7_meet_57 (by decide) ?_
      refine ev_aload_n dX7_meet_58 rfl ?_
      refine ev_getR fr_X7_29 shC_93 rfl dX7_meet_59 ?_
      refine ev_getR fr_X7_48 shC_1 rfl dX7_meet_62 ?_
      refine ev_iload_n dX7_meet_65 rfl ?_
      obtain ⟨hi7, h⟩ := chk_t h
      refine ev_iald shC_10 hi7 dX7_meet_66 ?_
      refine ev_iastL (j := 2) shC_94 (by decide) (vpl _ _ (by decide)) dX7_meet_67 ?_
      refine ev_aload_n dX7_meet_68 rfl ?_
      refine ev_getR fr_X7_11 shC_93 rfl dX7_meet_69 ?_
      refine ev_iconst (v := (3 : Int32)) dX7_meet_72 (by decide) ?_
      refine ev_aload_n dX7_meet_73 rfl ?_
      refine ev_getR fr_X7_29 shC_93 rfl dX7_meet_74 ?_
      refine ev_getR fr_X7_51 shC_1 rfl dX7_meet_77 ?_
      refine ev_iload_n dX7_meet_80 rfl ?_
      obtain ⟨hi9, h⟩ := chk_t h
      refine ev_iald shC_12 hi9 dX7_meet_81 ?_
      refine ev_iload_n dX7_meet_82 rfl ?_
      refine ev_icmp_ne (tgt := 90) dX7_meet_83 (by decide) (fun hc10 => ?_) (fun hc10 => ?_)
      · replace h := ite_f hc10 h
        refine ev_iconst (v := (0 : Int32)) dX7_meet_90 (by decide) ?_
        exact ev_lt (f_X7_meet_j91_ok hs h) ⟨rfl, ⟨rfl, ⟨rfl, trivial⟩⟩⟩
      · replace h := ite_t hc10 h
        refine ev_iconst (v := (1 : Int32)) dX7_meet_86 (by decide) ?_
        refine ev_goto (tgt := 91) dX7_meet_87 (by decide) ?_
        exact ev_lt (f_X7_meet_j91_ok hs h) ⟨rfl, ⟨rfl, ⟨rfl, trivial⟩⟩⟩
    · replace h := ite_t hc2 h
      exact ev_vret rfl (by decide) (by decide) dX7_meet_22 (eqP_V h)
def f_X7_hear (G : Nat) (p1 p2 p3 : Int32) (μ : Mem) : Option Mem :=
  (let m1 := wr μ 94 5 p1
  (let m2 := wr m1 94 6 p2
  (if p3 = (0 : Int32) then
  (let m4 := wr m2 94 4 (0 : Int32)
  some m4)
  else
  (let m5 := wr m2 94 4 (1 : Int32)
  some m5))))
set_option maxHeartbeats 4000000 in
set_option maxRecDepth 100000 in
theorem c_X7_hear {bb : Bool} {G : Nat} {μ : Mem} {p1 p2 p3 : Int32} {μr : Mem}  (h : f_X7_hear G p1 p2 p3 μ = some μr) : Cn yX7_hear cX7_hear 4 none 1 0 0 [.ref 93, .int p1, .int p2, .int p3] (shC bb) μ (eqP none (shC bb) μr) := by
  refine cn_of (own := RX7) (ini := false) (loc := [some (.ref 93), some (.int p1), some (.int p2), some (.int p3)]) rfl (by decide) (fun q => by cases q) (Nat.le_of_ble_eq_true rfl) (by rfl) rfl ?_
  unfold f_X7_hear at h
  refine ev_aload_n dX7_hear_0 rfl ?_
  refine ev_getR fr_X7_11 shC_93 rfl dX7_hear_1 ?_
  refine ev_iconst (v := (5 : Int32)) dX7_hear_4 (by decide) ?_
  refine ev_iload_n dX7_hear_5 rfl ?_
  refine ev_iastL (j := 5) shC_94 (by decide) (vpl _ _ (by decide)) dX7_hear_6 ?_
  refine ev_aload_n dX7_hear_7 rfl ?_
  refine ev_getR fr_X7_11 shC_93 rfl dX7_hear_8 ?_
  refine ev_bipush (v := (6 : Int32)) dX7_hear_11 (by decide) ?_
  refine ev_iload_n dX7_hear_13 rfl ?_
  refine ev_iastL (j := 6) shC_94 (by decide) (vpl _ _ (by decide)) dX7_hear_14 ?_
  refine ev_aload_n dX7_hear_15 rfl ?_
  refine ev_getR fr_X7_11 shC_93 rfl dX7_hear_16 ?_
  refine ev_iconst (v := (4 : Int32)) dX7_hear_19 (by decide) ?_
  refine ev_iload_n dX7_hear_20 rfl ?_
  refine ev_if_eq (tgt := 28) dX7_hear_21 (by decide) (fun hc3 => ?_) (fun hc3 => ?_)
  · replace h := ite_t hc3 h
    refine ev_iconst (v := (0 : Int32)) dX7_hear_28 (by decide) ?_
    refine ev_iastL (j := 4) shC_94 (by decide) (vpl _ _ (by decide)) dX7_hear_29 ?_
    exact ev_vret rfl (by decide) (by decide) dX7_hear_30 (eqP_V h)
  · replace h := ite_f hc3 h
    refine ev_iconst (v := (1 : Int32)) dX7_hear_24 (by decide) ?_
    refine ev_goto (tgt := 29) dX7_hear_25 (by decide) ?_
    refine ev_iastL (j := 4) shC_94 (by decide) (vpl _ _ (by decide)) dX7_hear_29 ?_
    exact ev_vret rfl (by decide) (by decide) dX7_hear_30 (eqP_V h)
def f_X7_yesTold (G : Nat) (p1 p2 : Int32) (μ : Mem) : Option (Int32 × Mem) :=
  bndV (f_X7_hear G p1 p2 (0 : Int32) μ) (fun m2 =>
  bndE (f_X1_reckon G (10000 : Int32) ((((500 : Int32) + ((40 : Int32) * (m2 94 1))) - ((30 : Int32) * (m2 94 2))) + ((200 : Int32) * (m2 94 3))) m2) (fun w5 m4 =>
  some ((f_X11_held w5 (0 : Int32) (1000 : Int32)), m4)))
set_option maxHeartbeats 4000000 in
set_option maxRecDepth 100000 in
theorem c_X7_yesTold {bb : Bool} {G : Nat} {μ : Mem} {p1 p2 : Int32} {r : Int32} {μr : Mem}  (h : f_X7_yesTold G p1 p2 μ = some (r, μr)) : Cn yX7_yesTold cX7_yesTold 4 (some .int) 4 0 0 [.ref 93, .int p1, .int p2] (shC bb) μ (eqP (some r) (shC bb) μr) := by
  refine cn_of (own := RX7) (ini := false) (loc := [some (.ref 93), some (.int p1), some (.int p2), none]) rfl (by decide) (fun q => by cases q) (Nat.le_of_ble_eq_true rfl) (by rfl) rfl ?_
  unfold f_X7_yesTold at h
  refine ev_aload_n dX7_yesTold_0 rfl ?_
  refine ev_iload_n dX7_yesTold_1 rfl ?_
  refine ev_iload_n dX7_yesTold_2 rfl ?_
  refine ev_iconst (v := (0 : Int32)) dX7_yesTold_3 (by decide) ?_
  obtain ⟨m2, hq1, h⟩ := bndV_t h
  refine ev_cVv mv_X7_69 dX7_yesTold_4 (c_X7_hear hq1) rfl shC_93 rfl rfl (Nat.le_of_ble_eq_true rfl) (by rfl) (Nat.le_of_ble_eq_true rfl) (Nat.le_of_ble_eq_true rfl) (Nat.le_of_ble_eq_true rfl) ?_
  refine ev_sipush (v := (500 : Int32)) dX7_yesTold_7 (by decide) ?_
  refine ev_bipush (v := (40 : Int32)) dX7_yesTold_10 (by decide) ?_
  refine ev_aload_n dX7_yesTold_12 rfl ?_
  refine ev_getR fr_X7_11 shC_93 rfl dX7_yesTold_13 ?_
  refine ev_iconst (v := (1 : Int32)) dX7_yesTold_16 (by decide) ?_
  refine ev_ialdL (j := 1) shC_94 (by decide) (vpl _ _ (by decide)) dX7_yesTold_17 ?_
  refine ev_imul dX7_yesTold_18 ?_
  refine ev_iadd dX7_yesTold_19 ?_
  refine ev_bipush (v := (30 : Int32)) dX7_yesTold_20 (by decide) ?_
  refine ev_aload_n dX7_yesTold_22 rfl ?_
  refine ev_getR fr_X7_11 shC_93 rfl dX7_yesTold_23 ?_
  refine ev_iconst (v := (2 : Int32)) dX7_yesTold_26 (by decide) ?_
  refine ev_ialdL (j := 2) shC_94 (by decide) (vpl _ _ (by decide)) dX7_yesTold_27 ?_
  refine ev_imul dX7_yesTold_28 ?_
  refine ev_isub dX7_yesTold_29 ?_
  refine ev_sipush (v := (200 : Int32)) dX7_yesTold_30 (by decide) ?_
  refine ev_aload_n dX7_yesTold_33 rfl ?_
  refine ev_getR fr_X7_11 shC_93 rfl dX7_yesTold_34 ?_
  refine ev_iconst (v := (3 : Int32)) dX7_yesTold_37 (by decide) ?_
  refine ev_ialdL (j := 3) shC_94 (by decide) (vpl _ _ (by decide)) dX7_yesTold_38 ?_
  refine ev_imul dX7_yesTold_39 ?_
  refine ev_iadd dX7_yesTold_40 ?_
  refine ev_istore_n (loc' := [_, _, _, _]) dX7_yesTold_41 rfl (by decide) (by rfl) ?_
  refine ev_aload_n dX7_yesTold_42 rfl ?_
  refine ev_getR fr_X7_29 shC_93 rfl dX7_yesTold_43 ?_
  refine ev_getR fr_X7_73 shC_1 rfl dX7_yesTold_46 ?_
  refine ev_sipush (v := (10000 : Int32)) dX7_yesTold_49 (by decide) ?_
  refine ev_aload_n dX7_yesTold_52 rfl ?_
  refine ev_getR fr_X7_11 shC_93 rfl dX7_yesTold_53 ?_
  refine ev_iload_n dX7_yesTold_56 rfl ?_
  obtain ⟨w5, m4, hq3, h⟩ := bndE_t h
  refine ev_cVi mv_X7_77 dX7_yesTold_57 (c_X1_reckon hq3) rfl shC_13 rfl rfl (Nat.le_of_ble_eq_true rfl) (by rfl) (Nat.le_of_ble_eq_true rfl) (Nat.le_of_ble_eq_true rfl) (Nat.le_of_ble_eq_true rfl) ?_
  refine ev_iconst (v := (0 : Int32)) dX7_yesTold_60 (by decide) ?_
  refine ev_sipush (v := (1000 : Int32)) dX7_yesTold_61 (by decide) ?_
  refine ev_cNi mv_X7_83 dX7_yesTold_64 c_X11_held rfl rfl (Nat.le_of_ble_eq_true rfl) (by rfl) (Nat.le_of_ble_eq_true rfl) (Nat.le_of_ble_eq_true rfl) (Nat.le_of_ble_eq_true rfl) ?_
  exact ev_iret rfl rfl (by decide) (by decide) dX7_yesTold_67 (eqP_E h)
def f_X7_countsTold (G : Nat) (p1 p2 p3 : Int32) (μ : Mem) : Option (Int32 × Mem) :=
  bndV (f_X7_hear G p1 p2 p3 μ) (fun m2 =>
  bndE (f_X1_reckon G (10001 : Int32) (1 : Int32) m2) (fun w5 m4 =>
  some ((f_X11_held w5 (-99 : Int32) (99 : Int32)), m4)))
set_option maxHeartbeats 4000000 in
set_option maxRecDepth 100000 in
theorem c_X7_countsTold {bb : Bool} {G : Nat} {μ : Mem} {p1 p2 p3 : Int32} {r : Int32} {μr : Mem}  (h : f_X7_countsTold G p1 p2 p3 μ = some (r, μr)) : Cn yX7_countsTold cX7_countsTold 4 (some .int) 4 0 0 [.ref 93, .int p1, .int p2, .int p3] (shC bb) μ (eqP (some r) (shC bb) μr) := by
  refine cn_of (own := RX7) (ini := false) (loc := [some (.ref 93), some (.int p1), some (.int p2), some (.int p3)]) rfl (by decide) (fun q => by cases q) (Nat.le_of_ble_eq_true rfl) (by rfl) rfl ?_
  unfold f_X7_countsTold at h
  refine ev_aload_n dX7_countsTold_0 rfl ?_
  refine ev_iload_n dX7_countsTold_1 rfl ?_
  refine ev_iload_n dX7_countsTold_2 rfl ?_
  refine ev_iload_n dX7_countsTold_3 rfl ?_
  obtain ⟨m2, hq1, h⟩ := bndV_t h
  refine ev_cVv mv_X7_69 dX7_countsTold_4 (c_X7_hear hq1) rfl shC_93 rfl rfl (Nat.le_of_ble_eq_true rfl) (by rfl) (Nat.le_of_ble_eq_true rfl) (Nat.le_of_ble_eq_true rfl) (Nat.le_of_ble_eq_true rfl) ?_
  refine ev_aload_n dX7_countsTold_7 rfl ?_
  refine ev_getR fr_X7_29 shC_93 rfl dX7_countsTold_8 ?_
  refine ev_getR fr_X7_73 shC_1 rfl dX7_countsTold_11 ?_
  refine ev_sipush (v := (10001 : Int32)) dX7_countsTold_14 (by decide) ?_
  refine ev_aload_n dX7_countsTold_17 rfl ?_
  refine ev_getR fr_X7_11 shC_93 rfl dX7_countsTold_18 ?_
  refine ev_iconst (v := (1 : Int32)) dX7_countsTold_21 (by decide) ?_
  obtain ⟨w5, m4, hq3, h⟩ := bndE_t h
  refine ev_cVi mv_X7_77 dX7_countsTold_22 (c_X1_reckon hq3) rfl shC_13 rfl rfl (Nat.le_of_ble_eq_true rfl) (by rfl) (Nat.le_of_ble_eq_true rfl) (Nat.le_of_ble_eq_true rfl) (Nat.le_of_ble_eq_true rfl) ?_
  refine ev_bipush (v := (-99 : Int32)) dX7_countsTold_25 (by decide) ?_
  refine ev_bipush (v := (99 : Int32)) dX7_countsTold_27 (by decide) ?_
  refine ev_cNi mv_X7_83 dX7_countsTold_29 c_X11_held rfl rfl (Nat.le_of_ble_eq_true rfl) (by rfl) (Nat.le_of_ble_eq_true rfl) (Nat.le_of_ble_eq_true rfl) (Nat.le_of_ble_eq_true rfl) ?_
  exact ev_iret rfl rfl (by decide) (by decide) dX7_countsTold_32 (eqP_E h)
def f_X7_joyTold (G : Nat) (μ : Mem) : Option (Int32 × Mem) :=
  bndV (f_X7_hear G (0 : Int32) (0 : Int32) (0 : Int32) μ) (fun m2 =>
  bndE (f_X1_reckon G (10002 : Int32) (((m2 94 1) - (4 : Int32)) + (m2 94 3)) m2) (fun w5 m4 =>
  some ((f_X11_held w5 (-20 : Int32) (20 : Int32)), m4)))
set_option maxHeartbeats 4000000 in
set_option maxRecDepth 100000 in
theorem c_X7_joyTold {bb : Bool} {G : Nat} {μ : Mem} {r : Int32} {μr : Mem}  (h : f_X7_joyTold G μ = some (r, μr)) : Cn yX7_joyTold cX7_joyTold 2 (some .int) 4 0 0 [.ref 93] (shC bb) μ (eqP (some r) (shC bb) μr) := by
  refine cn_of (own := RX7) (ini := false) (loc := [some (.ref 93), none]) rfl (by decide) (fun q => by cases q) (Nat.le_of_ble_eq_true rfl) (by rfl) rfl ?_
  unfold f_X7_joyTold at h
  refine ev_aload_n dX7_joyTold_0 rfl ?_
  refine ev_iconst (v := (0 : Int32)) dX7_joyTold_1 (by decide) ?_
  refine ev_iconst (v := (0 : Int32)) dX7_joyTold_2 (by decide) ?_
  refine ev_iconst (v := (0 : Int32)) dX7_joyTold_3 (by decide) ?_
  obtain ⟨m2, hq1, h⟩ := bndV_t h
  refine ev_cVv mv_X7_69 dX7_joyTold_4 (c_X7_hear hq1) rfl shC_93 rfl rfl (Nat.le_of_ble_eq_true rfl) (by rfl) (Nat.le_of_ble_eq_true rfl) (Nat.le_of_ble_eq_true rfl) (Nat.le_of_ble_eq_true rfl) ?_
  refine ev_aload_n dX7_joyTold_7 rfl ?_
  refine ev_getR fr_X7_11 shC_93 rfl dX7_joyTold_8 ?_
  refine ev_iconst (v := (1 : Int32)) dX7_joyTold_11 (by decide) ?_
  refine ev_ialdL (j := 1) shC_94 (by decide) (vpl _ _ (by decide)) dX7_joyTold_12 ?_
  refine ev_iconst (v := (4 : Int32)) dX7_joyTold_13 (by decide) ?_
  refine ev_isub dX7_joyTold_14 ?_
  refine ev_aload_n dX7_joyTold_15 rfl ?_
  refine ev_getR fr_X7_11 shC_93 rfl dX7_joyTold_16 ?_
  refine ev_iconst (v := (3 : Int32)) dX7_joyTold_19 (by decide) ?_
  refine ev_ialdL (j := 3) shC_94 (by decide) (vpl _ _ (by decide)) dX7_joyTold_20 ?_
  refine ev_iadd dX7_joyTold_21 ?_
  refine ev_istore_n (loc' := [_, _]) dX7_joyTold_22 rfl (by decide) (by rfl) ?_
  refine ev_aload_n dX7_joyTold_23 rfl ?_
  refine ev_getR fr_X7_29 shC_93 rfl dX7_joyTold_24 ?_
  refine ev_getR fr_X7_73 shC_1 rfl dX7_joyTold_27 ?_
  refine ev_sipush (v := (10002 : Int32)) dX7_joyTold_30 (by decide) ?_
  refine ev_aload_n dX7_joyTold_33 rfl ?_
  refine ev_getR fr_X7_11 shC_93 rfl dX7_joyTold_34 ?_
  refine ev_iload_n dX7_joyTold_37 rfl ?_
  obtain ⟨w5, m4, hq3, h⟩ := bndE_t h
  refine ev_cVi mv_X7_77 dX7_joyTold_38 (c_X1_reckon hq3) rfl shC_13 rfl rfl (Nat.le_of_ble_eq_true rfl) (by rfl) (Nat.le_of_ble_eq_true rfl) (Nat.le_of_ble_eq_true rfl) (Nat.le_of_ble_eq_true rfl) ?_
  refine ev_bipush (v := (-20 : Int32)) dX7_joyTold_41 (by decide) ?_
  refine ev_bipush (v := (20 : Int32)) dX7_joyTold_43 (by decide) ?_
  refine ev_cNi mv_X7_83 dX7_joyTold_45 c_X11_held rfl rfl (Nat.le_of_ble_eq_true rfl) (by rfl) (Nat.le_of_ble_eq_true rfl) (Nat.le_of_ble_eq_true rfl) (Nat.le_of_ble_eq_true rfl) ?_
  exact ev_iret rfl rfl (by decide) (by decide) dX7_joyTold_48 (eqP_E h)
def f_X7_canWed (G : Nat) (s : Nat) (μ : Mem) (p1 p2 p3 p4 : Int32) : Option Int32 :=
  (if (f_X0_isGroom μ p1) = (0 : Int32) then
  some (0 : Int32)
  else
  (if (f_X0_areThree μ p2 p3 p4) = (0 : Int32) then
  some (0 : Int32)
  else
  chk p1 8 ((if (μ (s + 2) (ix p1)) = (-1 : Int32) then
  chk p2 12 ((if (μ (s + 1) (ix p2)) = (-1 : Int32) then
  chk p3 12 ((if (μ (s + 1) (ix p3)) = (-1 : Int32) then
  chk p4 12 ((if (μ (s + 1) (ix p4)) = (-1 : Int32) then
  some (1 : Int32)
  else
  some (0 : Int32)))
  else
  some (0 : Int32)))
  else
  some (0 : Int32)))
  else
  some (0 : Int32)))))
set_option maxHeartbeats 4000000 in
set_option maxRecDepth 100000 in
theorem c_X7_canWed {bb : Bool} {G : Nat} {s : Nat} {μ : Mem}  {p1 p2 p3 p4 : Int32} {r : Int32} (hs : At_X8 (shC bb) s) (h : f_X7_canWed G s μ p1 p2 p3 p4 = some r) : Cn yX7_canWed cX7_canWed 6 (some .boolean) 4 0 0 [.ref 93, .ref s, .int p1, .int p2, .int p3, .int p4] (shC bb) μ (eqP (some r) (shC bb) μ) := by
  refine cn_of (own := RX7) (ini := false) (loc := [some (.ref 93), some (.ref s), some (.int p1), some (.int p2), some (.int p3), some (.int p4)]) rfl (by decide) (fun q => by cases q) (Nat.le_of_ble_eq_true rfl) (by rfl) rfl ?_
  unfold f_X7_canWed at h
  refine ev_aload_n dX7_canWed_0 rfl ?_
  refine ev_getR fr_X7_29 shC_93 rfl dX7_canWed_1 ?_
  refine ev_iload_n dX7_canWed_4 rfl ?_
  refine ev_cVi mv_X7_33 dX7_canWed_5 c_X0_isGroom rfl shC_1 rfl rfl (Nat.le_of_ble_eq_true rfl) (by rfl) (Nat.le_of_ble_eq_true rfl) (Nat.le_of_ble_eq_true rfl) (Nat.le_of_ble_eq_true rfl) ?_
  refine ev_if_eq (tgt := 72) dX7_canWed_8 (by decide) (fun hc1 => ?_) (fun hc1 => ?_)
  · replace h := ite_t hc1 h
    refine ev_iconst (v := (0 : Int32)) dX7_canWed_72 (by decide) ?_
    exact ev_iret rfl rfl (by decide) (by decide) dX7_canWed_73 (eqP_O h)
  · replace h := ite_f hc1 h
    refine ev_aload_n dX7_canWed_11 rfl ?_
    refine ev_getR fr_X7_29 shC_93 rfl dX7_canWed_12 ?_
    refine ev_iload_n dX7_canWed_15 rfl ?_
    refine ev_iload dX7_canWed_16 rfl ?_
    refine ev_iload dX7_canWed_18 rfl ?_
    refine ev_cVi mv_X7_87 dX7_canWed_20 c_X0_areThree rfl shC_1 rfl rfl (Nat.le_of_ble_eq_true rfl) (by rfl) (Nat.le_of_ble_eq_true rfl) (Nat.le_of_ble_eq_true rfl) (Nat.le_of_ble_eq_true rfl) ?_
    refine ev_if_eq (tgt := 72) dX7_canWed_23 (by decide) (fun hc2 => ?_) (fun hc2 => ?_)
    · replace h := ite_t hc2 h
      refine ev_iconst (v := (0 : Int32)) dX7_canWed_72 (by decide) ?_
      exact ev_iret rfl rfl (by decide) (by decide) dX7_canWed_73 (eqP_O h)
    · replace h := ite_f hc2 h
      refine ev_aload_n dX7_canWed_26 rfl ?_
      refine ev_getR fr_X7_91 (hs.1) rfl dX7_canWed_27 ?_
      refine ev_iload_n dX7_canWed_30 rfl ?_
      obtain ⟨hi3, h⟩ := chk_t h
      refine ev_iald (hs.2.2.1) hi3 dX7_canWed_31 ?_
      refine ev_iconst (v := (-1 : Int32)) dX7_canWed_32 (by decide) ?_
      refine ev_icmp_ne (tgt := 72) dX7_canWed_33 (by decide) (fun hc4 => ?_) (fun hc4 => ?_)
      · replace h := ite_f hc4 h
        refine ev_iconst (v := (0 : Int32)) dX7_canWed_72 (by decide) ?_
        exact ev_iret rfl rfl (by decide) (by decide) dX7_canWed_73 (eqP_O h)
      · replace h := ite_t hc4 h
        refine ev_aload_n dX7_canWed_36 rfl ?_
        refine ev_getR fr_X7_94 (hs.1) rfl dX7_canWed_37 ?_
        refine ev_iload_n dX7_canWed_40 rfl ?_
        obtain ⟨hi5, h⟩ := chk_t h
        refine ev_iald (hs.2.1) hi5 dX7_canWed_41 ?_
        refine ev_iconst (v := (-1 : Int32)) dX7_canWed_42 (by decide) ?_
        refine ev_icmp_ne (tgt := 72) dX7_canWed_43 (by decide) (fun hc6 => ?_) (fun hc6 => ?_)
        · replace h := ite_f hc6 h
          refine ev_iconst (v := (0 : Int32)) dX7_canWed_72 (by decide) ?_
          exact ev_iret rfl rfl (by decide) (by decide) dX7_canWed_73 (eqP_O h)
        · replace h := ite_t hc6 h
          refine ev_aload_n dX7_canWed_46 rfl ?_
          refine ev_getR fr_X7_94 (hs.1) rfl dX7_canWed_47 ?_
          refine ev_iload dX7_canWed_50 rfl ?_
          obtain ⟨hi7, h⟩ := chk_t h
          refine ev_iald (hs.2.1) hi7 dX7_canWed_52 ?_
          refine ev_iconst (v := (-1 : Int32)) dX7_canWed_53 (by decide) ?_
          refine ev_icmp_ne (tgt := 72) dX7_canWed_54 (by decide) (fun hc8 => ?_) (fun hc8 => ?_)
          · replace h := ite_f hc8 h
            refine ev_iconst (v := (0 : Int32)) dX7_canWed_72 (by decide) ?_
            exact ev_iret rfl rfl (by decide) (by decide) dX7_canWed_73 (eqP_O h)
          · replace h := ite_t hc8 h
            refine ev_aload_n dX7_canWed_57 rfl ?_
            refine ev_getR fr_X7_94 (hs.1) rfl dX7_canWed_58 ?_
            refine ev_iload dX7_canWed_61 rfl ?_
            obtain ⟨hi9, h⟩ := chk_t h
            refine ev_iald (hs.2.1) hi9 dX7_canWed_63 ?_
            refine ev_iconst (v := (-1 : Int32)) dX7_canWed_64 (by decide) ?_
            refine ev_icmp_ne (tgt := 72) dX7_canWed_65 (by decide) (fun hc10 => ?_) (fun hc10 => ?_)
            · replace h := ite_f hc10 h
              refine ev_iconst (v := (0 : Int32)) dX7_canWed_72 (by decide) ?_
              exact ev_iret rfl rfl (by decide) (by decide) dX7_canWed_73 (eqP_O h)
            · replace h := ite_t hc10 h
              refine ev_iconst (v := (1 : Int32)) dX7_canWed_68 (by decide) ?_
              refine ev_goto (tgt := 73) dX7_canWed_69 (by decide) ?_
              exact ev_iret rfl rfl (by decide) (by decide) dX7_canWed_73 (eqP_O h)
def f_X7_seat (G : Nat) (p1 p2 p3 : Int32) (μ : Mem) : Option Mem :=
  (let m1 := wr μ 95 0 p1
  (let m2 := wr m1 95 1 p2
  (let m3 := wr m2 95 2 p3
  some m3)))
set_option maxHeartbeats 4000000 in
set_option maxRecDepth 100000 in
theorem c_X7_seat {bb : Bool} {G : Nat} {μ : Mem} {p1 p2 p3 : Int32} {μr : Mem}  (h : f_X7_seat G p1 p2 p3 μ = some μr) : Cn yX7_seat cX7_seat 4 none 1 0 0 [.ref 93, .int p1, .int p2, .int p3] (shC bb) μ (eqP none (shC bb) μr) := by
  refine cn_of (own := RX7) (ini := false) (loc := [some (.ref 93), some (.int p1), some (.int p2), some (.int p3)]) rfl (by decide) (fun q => by cases q) (Nat.le_of_ble_eq_true rfl) (by rfl) rfl ?_
  unfold f_X7_seat at h
  refine ev_aload_n dX7_seat_0 rfl ?_
  refine ev_getR fr_X7_17 shC_93 rfl dX7_seat_1 ?_
  refine ev_iconst (v := (0 : Int32)) dX7_seat_4 (by decide) ?_
  refine ev_iload_n dX7_seat_5 rfl ?_
  refine ev_iastL (j := 0) shC_95 (by decide) (vpl _ _ (by decide)) dX7_seat_6 ?_
  refine ev_aload_n dX7_seat_7 rfl ?_
  refine ev_getR fr_X7_17 shC_93 rfl dX7_seat_8 ?_
  refine ev_iconst (v := (1 : Int32)) dX7_seat_11 (by decide) ?_
  refine ev_iload_n dX7_seat_12 rfl ?_
  refine ev_iastL (j := 1) shC_95 (by decide) (vpl _ _ (by decide)) dX7_seat_13 ?_
  refine ev_aload_n dX7_seat_14 rfl ?_
  refine ev_getR fr_X7_17 shC_93 rfl dX7_seat_15 ?_
  refine ev_iconst (v := (2 : Int32)) dX7_seat_18 (by decide) ?_
  refine ev_iload_n dX7_seat_19 rfl ?_
  refine ev_iastL (j := 2) shC_95 (by decide) (vpl _ _ (by decide)) dX7_seat_20 ?_
  exact ev_vret rfl (by decide) (by decide) dX7_seat_21 (eqP_V h)
def f_X7_write (G : Nat) (s : Nat) (p1 p2 p3 p4 : Int32) (μ : Mem) : Option Mem :=
  (if p4 = (0 : Int32) then
  bndE (f_X2_add G 26 600 (μ s 5) p1 p2 p3 μ) (fun w4 m3 =>
  some m3)
  else
  some μ)
set_option maxHeartbeats 4000000 in
set_option maxRecDepth 100000 in
theorem c_X7_write {bb : Bool} {G : Nat} {s : Nat} {μ : Mem} {p1 p2 p3 p4 : Int32} {μr : Mem} (hs : At_X8 (shC bb) s) (h : f_X7_write G s p1 p2 p3 p4 μ = some μr) : Cn yX7_write cX7_write 6 none 4 0 0 [.ref 93, .ref s, .int p1, .int p2, .int p3, .int p4] (shC bb) μ (eqP none (shC bb) μr) := by
  refine cn_of (own := RX7) (ini := false) (loc := [some (.ref 93), some (.ref s), some (.int p1), some (.int p2), some (.int p3), some (.int p4)]) rfl (by decide) (fun q => by cases q) (Nat.le_of_ble_eq_true rfl) (by rfl) rfl ?_
  unfold f_X7_write at h
  refine ev_iload dX7_write_0 rfl ?_
  refine ev_if_ne (tgt := 24) dX7_write_2 (by decide) (fun hc1 => ?_) (fun hc1 => ?_)
  · replace h := ite_f hc1 h
    exact ev_vret rfl (by decide) (by decide) dX7_write_24 (eqP_V h)
  · replace h := ite_t hc1 h
    refine ev_aload_n dX7_write_5 rfl ?_
    refine ev_getR fr_X7_29 shC_93 rfl dX7_write_6 ?_
    refine ev_getR fr_X7_97 shC_1 rfl dX7_write_9 ?_
    refine ev_aload_n dX7_write_12 rfl ?_
    refine ev_getI fr_X7_57 (hs.1) rfl dX7_write_13 ?_
    refine ev_iload_n dX7_write_16 rfl ?_
    refine ev_iload_n dX7_write_17 rfl ?_
    refine ev_iload dX7_write_18 rfl ?_
    obtain ⟨w4, m3, hq2, h⟩ := bndE_t h
    refine ev_cVi mv_X7_101 dX7_write_20 (c_X2_add atC_26 hq2) rfl shC_26 rfl rfl (Nat.le_of_ble_eq_true rfl) (by rfl) (Nat.le_of_ble_eq_true rfl) (Nat.le_of_ble_eq_true rfl) (Nat.le_of_ble_eq_true rfl) ?_
    refine ev_pop dX7_write_23 (by rfl) ?_
    exact ev_vret rfl (by decide) (by decide) dX7_write_24 (eqP_V h)
def f_X8_drawOfThousand (G : Nat) (a : Nat) (μ : Mem) : Option (Int32 × Mem) :=
  (let m1 := wr μ a 8 (((1664525 : Int32) * (μ a 8)) + (1013904223 : Int32))
  some ((irm (su (m1 a 8) (8 : Int32)) (1000 : Int32)), m1))
set_option maxHeartbeats 4000000 in
set_option maxRecDepth 100000 in
theorem c_X8_drawOfThousand {sh : List Shp} {G : Nat} {a : Nat} {μ : Mem} {r : Int32} {μr : Mem} (ha : At_X8 sh a) (h : f_X8_drawOfThousand G a μ = some (r, μr)) : Cn yX8_drawOfThousand cX8_drawOfThousand 1 (some .int) 1 0 0 [.ref a] sh μ (eqP (some r) sh μr) := by
  refine cn_of (own := RX8) (ini := false) (loc := [some (.ref a)]) rfl (by decide) (fun q => by cases q) (Nat.le_of_ble_eq_true rfl) (by rfl) rfl ?_
  unfold f_X8_drawOfThousand at h
  refine ev_aload_n dX8_drawOfThousand_0 rfl ?_
  refine ev_ldc dX8_drawOfThousand_1 kc_X8_56 ?_
  refine ev_aload_n dX8_drawOfThousand_3 rfl ?_
  refine ev_getI fr_X8_49 (ha.1) rfl dX8_drawOfThousand_4 ?_
  refine ev_imul dX8_drawOfThousand_7 ?_
  refine ev_ldc dX8_drawOfThousand_8 kc_X8_57 ?_
  refine ev_iadd dX8_drawOfThousand_10 ?_
  refine ev_putI fr_X8_49 (ha.1) rfl rfl rfl dX8_drawOfThousand_11 ?_
  refine ev_aload_n dX8_drawOfThousand_14 rfl ?_
  refine ev_getI fr_X8_49 (ha.1) rfl dX8_drawOfThousand_15 ?_
  refine ev_bipush (v := (8 : Int32)) dX8_drawOfThousand_18 (by decide) ?_
  refine ev_iushr dX8_drawOfThousand_20 ?_
  refine ev_sipush (v := (1000 : Int32)) dX8_drawOfThousand_21 (by decide) ?_
  refine ev_irem dX8_drawOfThousand_24 (by decide) ?_
  exact ev_iret rfl rfl (by decide) (by decide) dX8_drawOfThousand_25 (eqP_E h)
def f_X7_answer_j90 (G : Nat) (s : Nat)  (v4 v5 v6 v7 v9 s0 : Int32) (μ : Mem) : Option (Int32 × Mem) :=
  bndV (f_X7_write G s s0 v6 v7 v5 μ) (fun m16 =>
  bndE (f_X7_countsTold G v7 v4 v9 m16) (fun w19 m18 =>
  some (w19, m18)))
set_option maxHeartbeats 4000000 in
set_option maxRecDepth 100000 in
theorem f_X7_answer_j90_ok {bb : Bool} {G : Nat} {s : Nat} {r : Int32} {μr : Mem} (hs : At_X8 (shC bb) s)   {v4 v5 v6 v7 v9 s0 : Int32} {μ : Mem} (h : f_X7_answer_j90 G s v4 v5 v6 v7 v9 s0 μ = some (r, μr)) : Ev RX7 cX7_answer 10 (some .int) false 5 0 0 (eqP (some r) (shC bb) μr) 90 [some (.ref 93), none, none, none, some (.int v4), some (.int v5), some (.int v6), some (.int v7), none, some (.int v9)] [.int s0, .ref s, .ref 93] (shC bb) μ 0 0 := by
  unfold f_X7_answer_j90 at h
  refine ev_iload dX7_answer_90 rfl ?_
  refine ev_iload dX7_answer_92 rfl ?_
  refine ev_iload dX7_answer_94 rfl ?_
  obtain ⟨m16, hq15, h⟩ := bndV_t h
  refine ev_cVv mv_X7_125 dX7_answer_96 (c_X7_write hs hq15) rfl shC_93 rfl rfl (Nat.le_of_ble_eq_true rfl) (by rfl) (Nat.le_of_ble_eq_true rfl) (Nat.le_of_ble_eq_true rfl) (Nat.le_of_ble_eq_true rfl) ?_
  refine ev_aload_n dX7_answer_99 rfl ?_
  refine ev_iload dX7_answer_100 rfl ?_
  refine ev_iload dX7_answer_102 rfl ?_
  refine ev_iload dX7_answer_104 rfl ?_
  obtain ⟨w19, m18, hq17, h⟩ := bndE_t h
  refine ev_cVi mv_X7_129 dX7_answer_106 (c_X7_countsTold hq17) rfl shC_93 rfl rfl (Nat.le_of_ble_eq_true rfl) (by rfl) (Nat.le_of_ble_eq_true rfl) (Nat.le_of_ble_eq_true rfl) (Nat.le_of_ble_eq_true rfl) ?_
  exact ev_iret rfl rfl (by decide) (by decide) dX7_answer_109 (eqP_E h)
def f_X7_answer_j76 (G : Nat) (s : Nat)  (v4 v5 v6 v7 s0 : Int32) (μ : Mem) : Option (Int32 × Mem) :=
  (if s0 = (0 : Int32) then
  f_X7_answer_j90 G s v4 v5 v6 v7 s0 (1 : Int32) μ
  else
  f_X7_answer_j90 G s v4 v5 v6 v7 s0 (0 : Int32) μ)
set_option maxHeartbeats 4000000 in
set_option maxRecDepth 100000 in
theorem f_X7_answer_j76_ok {bb : Bool} {G : Nat} {s : Nat} {r : Int32} {μr : Mem} (hs : At_X8 (shC bb) s)   {v4 v5 v6 v7 s0 : Int32} {μ : Mem} (h : f_X7_answer_j76 G s v4 v5 v6 v7 s0 μ = some (r, μr)) : Ev RX7 cX7_answer 10 (some .int) false 5 0 0 (eqP (some r) (shC bb) μr) 76 [some (.ref 93), some (.ref s), none, none, some (.int v4), some (.int v5), some (.int v6), some (.int v7), none, none] [.int s0] (shC bb) μ 0 0 := by
  unfold f_X7_answer_j76 at h
  refine ev_istore (loc' := [_, _, _, _, _, _, _, _, _, _]) dX7_answer_76 rfl (by decide) (by rfl) ?_
  refine ev_aload_n dX7_answer_78 rfl ?_
  refine ev_aload_n dX7_answer_79 rfl ?_
  refine ev_iload dX7_answer_80 rfl ?_
  refine ev_if_eq (tgt := 89) dX7_answer_82 (by decide) (fun hc14 => ?_) (fun hc14 => ?_)
  · replace h := ite_t hc14 h
    refine ev_iconst (v := (1 : Int32)) dX7_answer_89 (by decide) ?_
    exact ev_lt (f_X7_answer_j90_ok hs h) ⟨rfl, ⟨rfl, ⟨rfl, ⟨rfl, ⟨rfl, ⟨rfl, trivial⟩⟩⟩⟩⟩⟩
  · replace h := ite_f hc14 h
    refine ev_iconst (v := (0 : Int32)) dX7_answer_85 (by decide) ?_
    refine ev_goto (tgt := 90) dX7_answer_86 (by decide) ?_
    exact ev_lt (f_X7_answer_j90_ok hs h) ⟨rfl, ⟨rfl, ⟨rfl, ⟨rfl, ⟨rfl, ⟨rfl, trivial⟩⟩⟩⟩⟩⟩
def f_X7_answer (G : Nat) (s : Nat) (p1 p2 p3 p4 : Int32) (μ : Mem) : Option (Int32 × Mem) :=
  chk p3 3 (bndO (f_X2_at G 20 16 μ p2 (0 : Int32)) (fun w3 =>
  bndV (f_X7_meet G s p1 (μ 95 (ix p3)) μ) (fun m5 =>
  bndE (f_X7_yesTold G w3 p3 m5) (fun w8 m7 =>
  (if p4 = (0 : Int32) then
  bndE (f_X8_drawOfThousand G s m7) (fun w12 m11 =>
  (if w8 ≤ w12 then
  f_X7_answer_j76 G s p3 p4 (μ 95 (ix p3)) w3 (0 : Int32) m11
  else
  f_X7_answer_j76 G s p3 p4 (μ 95 (ix p3)) w3 (1 : Int32) m11))
  else
  (if w8 < (500 : Int32) then
  f_X7_answer_j76 G s p3 p4 (μ 95 (ix p3)) w3 (0 : Int32) m7
  else
  f_X7_answer_j76 G s p3 p4 (μ 95 (ix p3)) w3 (1 : Int32) m7))))))
set_option maxHeartbeats 4000000 in
set_option maxRecDepth 100000 in
theorem c_X7_answer {bb : Bool} {G : Nat} {s : Nat} {μ : Mem} {p1 p2 p3 p4 : Int32} {r : Int32} {μr : Mem} (hs : At_X8 (shC bb) s) (h : f_X7_answer G s p1 p2 p3 p4 μ = some (r, μr)) : Cn yX7_answer cX7_answer 10 (some .int) 5 0 0 [.ref 93, .ref s, .int p1, .int p2, .int p3, .int p4] (shC bb) μ (eqP (some r) (shC bb) μr) := by
  refine cn_of (own := RX7) (ini := false) (loc := [some (.ref 93), some (.ref s), some (.int p1), some (.int p2), some (.int p3), some (.int p4), none, none, none, none]) rfl (by decide) (fun q => by cases q) (Nat.le_of_ble_eq_true rfl) (by rfl) rfl ?_
  unfold f_X7_answer at h
  refine ev_aload_n dX7_answer_0 rfl ?_
  refine ev_getR fr_X7_17 shC_93 rfl dX7_answer_1 ?_
  refine ev_iload dX7_answer_4 rfl ?_
  obtain ⟨hi1, h⟩ := chk_t h
  refine ev_iald shC_95 hi1 dX7_answer_6 ?_
  refine ev_istore (loc' := [_, _, _, _, _, _, _, _, _, _]) dX7_answer_7 rfl (by decide) (by rfl) ?_
  refine ev_aload_n dX7_answer_9 rfl ?_
  refine ev_getR fr_X7_29 shC_93 rfl dX7_answer_10 ?_
  refine ev_getR fr_X7_107 shC_1 rfl dX7_answer_13 ?_
  refine ev_iload_n dX7_answer_16 rfl ?_
  refine ev_iconst (v := (0 : Int32)) dX7_answer_17 (by decide) ?_
  obtain ⟨w3, hq2, h⟩ := bndO_t h
  refine ev_cVi mv_X7_110 dX7_answer_18 (c_X2_at atC_20 hq2) rfl shC_20 rfl rfl (Nat.le_of_ble_eq_true rfl) (by rfl) (Nat.le_of_ble_eq_true rfl) (Nat.le_of_ble_eq_true rfl) (Nat.le_of_ble_eq_true rfl) ?_
  refine ev_istore (loc' := [_, _, _, _, _, _, _, _, _, _]) dX7_answer_21 rfl (by decide) (by rfl) ?_
  refine ev_aload_n dX7_answer_23 rfl ?_
  refine ev_aload_n dX7_answer_24 rfl ?_
  refine ev_iload_n dX7_answer_25 rfl ?_
  refine ev_iload dX7_answer_26 rfl ?_
  obtain ⟨m5, hq4, h⟩ := bndV_t h
  refine ev_cVv mv_X7_114 dX7_answer_28 (c_X7_meet hs hq4) rfl shC_93 rfl rfl (Nat.le_of_ble_eq_true rfl) (by rfl) (Nat.le_of_ble_eq_true rfl) (Nat.le_of_ble_eq_true rfl) (Nat.le_of_ble_eq_true rfl) ?_
  refine ev_aload_n dX7_answer_31 rfl ?_
  refine ev_iload dX7_answer_32 rfl ?_
  refine ev_iload dX7_answer_34 rfl ?_
  obtain ⟨w8, m7, hq6, h⟩ := bndE_t h
  refine ev_cVi mv_X7_118 dX7_answer_36 (c_X7_yesTold hq6) rfl shC_93 rfl rfl (Nat.le_of_ble_eq_true rfl) (by rfl) (Nat.le_of_ble_eq_true rfl) (Nat.le_of_ble_eq_true rfl) (Nat.le_of_ble_eq_true rfl) ?_
  refine ev_istore (loc' := [_, _, _, _, _, _, _, _, _, _]) dX7_answer_39 rfl (by decide) (by rfl) ?_
  refine ev_iload dX7_answer_41 rfl ?_
  refine ev_if_eq (tgt := 62) dX7_answer_43 (by decide) (fun hc9 => ?_) (fun hc9 => ?_)
  · replace h := ite_t hc9 h
    refine ev_aload_n dX7_answer_62 rfl ?_
    obtain ⟨w12, m11, hq10, h⟩ := bndE_t h
    refine ev_cVi mv_X7_121 dX7_answer_63 (c_X8_drawOfThousand hs hq10) rfl (hs.1) rfl rfl (Nat.le_of_ble_eq_true rfl) (by rfl) (Nat.le_of_ble_eq_true rfl) (Nat.le_of_ble_eq_true rfl) (Nat.le_of_ble_eq_true rfl) ?_
    refine ev_iload dX7_answer_66 rfl ?_
    refine ev_icmp_ge (tgt := 75) dX7_answer_68 (by decide) (fun hc13 => ?_) (fun hc13 => ?_)
    · replace h := ite_t hc13 h
      refine ev_iconst (v := (0 : Int32)) dX7_answer_75 (by decide) ?_
      exact ev_lt (f_X7_answer_j76_ok hs h) ⟨rfl, ⟨rfl, ⟨rfl, ⟨rfl, ⟨rfl, ⟨rfl, trivial⟩⟩⟩⟩⟩⟩
    · replace h := ite_f hc13 h
      refine ev_iconst (v := (1 : Int32)) dX7_answer_71 (by decide) ?_
      refine ev_goto (tgt := 76) dX7_answer_72 (by decide) ?_
      exact ev_lt (f_X7_answer_j76_ok hs h) ⟨rfl, ⟨rfl, ⟨rfl, ⟨rfl, ⟨rfl, ⟨rfl, trivial⟩⟩⟩⟩⟩⟩
  · replace h := ite_f hc9 h
    refine ev_iload dX7_answer_46 rfl ?_
    refine ev_sipush (v := (500 : Int32)) dX7_answer_48 (by decide) ?_
    refine ev_icmp_lt (tgt := 58) dX7_answer_51 (by decide) (fun hc20 => ?_) (fun hc20 => ?_)
    · replace h := ite_t hc20 h
      refine ev_iconst (v := (0 : Int32)) dX7_answer_58 (by decide) ?_
      refine ev_goto (tgt := 76) dX7_answer_59 (by decide) ?_
      exact ev_lt (f_X7_answer_j76_ok hs h) ⟨rfl, ⟨rfl, ⟨rfl, ⟨rfl, ⟨rfl, ⟨rfl, trivial⟩⟩⟩⟩⟩⟩
    · replace h := ite_f hc20 h
      refine ev_iconst (v := (1 : Int32)) dX7_answer_54 (by decide) ?_
      refine ev_goto (tgt := 76) dX7_answer_55 (by decide) ?_
      exact ev_lt (f_X7_answer_j76_ok hs h) ⟨rfl, ⟨rfl, ⟨rfl, ⟨rfl, ⟨rfl, ⟨rfl, trivial⟩⟩⟩⟩⟩⟩
def f_X8_isToCough (G : Nat) (a : Nat) (μ : Mem) (p1 : Int32) : Option Int32 :=
  bkk (f_X11_has (μ a 7) p1) (some (f_X11_has (μ a 7) p1))
set_option maxHeartbeats 4000000 in
set_option maxRecDepth 100000 in
theorem c_X8_isToCough {sh : List Shp} {G : Nat} {a : Nat} {μ : Mem}  {p1 : Int32} {r : Int32} (ha : At_X8 sh a) (h : f_X8_isToCough G a μ p1 = some r) : Cn yX8_isToCough cX8_isToCough 2 (some .boolean) 2 0 0 [.ref a, .int p1] sh μ (eqP (some r) sh μ) := by
  refine cn_of (own := RX8) (ini := false) (loc := [some (.ref a), some (.int p1)]) rfl (by decide) (fun q => by cases q) (Nat.le_of_ble_eq_true rfl) (by rfl) rfl ?_
  unfold f_X8_isToCough at h
  refine ev_aload_n dX8_isToCough_0 rfl ?_
  refine ev_getI fr_X8_46 (ha.1) rfl dX8_isToCough_1 ?_
  refine ev_iload_n dX8_isToCough_4 rfl ?_
  refine ev_cNi mv_X8_52 dX8_isToCough_5 c_X11_has rfl rfl (Nat.le_of_ble_eq_true rfl) (by rfl) (Nat.le_of_ble_eq_true rfl) (Nat.le_of_ble_eq_true rfl) (Nat.le_of_ble_eq_true rfl) ?_
  obtain ⟨hz1, h⟩ := bkk_t h
  exact ev_iret rfl (nzb hz1) (by decide) (by decide) dX8_isToCough_8 (eqP_O h)
def f_X7_landauWithMost_j20 (G : Nat) (μ : Mem)  (s0 : Int32) : Option Int32 :=
  chk s0 3 ((if (μ 96 2) ≤ (μ 96 (ix s0)) then
  some s0
  else
  some (2 : Int32)))
set_option maxHeartbeats 4000000 in
set_option maxRecDepth 100000 in
theorem f_X7_landauWithMost_j20_ok {bb : Bool} {G : Nat} {μ : Mem} {r : Int32}    {s0 : Int32}  (h : f_X7_landauWithMost_j20 G μ s0 = some r) : Ev RX7 cX7_landauWithMost 2 (some .int) false 1 0 0 (eqP (some r) (shC bb) μ) 20 [some (.ref 93), none] [.int s0] (shC bb) μ 0 0 := by
  unfold f_X7_landauWithMost_j20 at h
  refine ev_istore_n (loc' := [_, _]) dX7_landauWithMost_20 rfl (by decide) (by rfl) ?_
  refine ev_aload_n dX7_landauWithMost_21 rfl ?_
  refine ev_getR fr_X7_20 shC_93 rfl dX7_landauWithMost_22 ?_
  refine ev_iconst (v := (2 : Int32)) dX7_landauWithMost_25 (by decide) ?_
  refine ev_ialdL (j := 2) shC_96 (by decide) (vpl _ _ (by decide)) dX7_landauWithMost_26 ?_
  refine ev_aload_n dX7_landauWithMost_27 rfl ?_
  refine ev_getR fr_X7_20 shC_93 rfl dX7_landauWithMost_28 ?_
  refine ev_iload_n dX7_landauWithMost_31 rfl ?_
  obtain ⟨hi2, h⟩ := chk_t h
  refine ev_iald shC_96 hi2 dX7_landauWithMost_32 ?_
  refine ev_icmp_le (tgt := 40) dX7_landauWithMost_33 (by decide) (fun hc3 => ?_) (fun hc3 => ?_)
  · replace h := ite_t hc3 h
    refine ev_iload_n dX7_landauWithMost_40 rfl ?_
    exact ev_iret rfl rfl (by decide) (by decide) dX7_landauWithMost_41 (eqP_O h)
  · replace h := ite_f hc3 h
    refine ev_iconst (v := (2 : Int32)) dX7_landauWithMost_36 (by decide) ?_
    refine ev_goto (tgt := 41) dX7_landauWithMost_37 (by decide) ?_
    exact ev_iret rfl rfl (by decide) (by decide) dX7_landauWithMost_41 (eqP_O h)
def f_X7_landauWithMost (G : Nat) (μ : Mem) : Option Int32 :=
  (if (μ 96 1) ≤ (μ 96 0) then
  f_X7_landauWithMost_j20 G μ (0 : Int32)
  else
  f_X7_landauWithMost_j20 G μ (1 : Int32))
set_option maxHeartbeats 4000000 in
set_option maxRecDepth 100000 in
theorem c_X7_landauWithMost {bb : Bool} {G : Nat} {μ : Mem}  {r : Int32}  (h : f_X7_landauWithMost G μ = some r) : Cn yX7_landauWithMost cX7_landauWithMost 2 (some .int) 1 0 0 [.ref 93] (shC bb) μ (eqP (some r) (shC bb) μ) := by
  refine cn_of (own := RX7) (ini := false) (loc := [some (.ref 93), none]) rfl (by decide) (fun q => by cases q) (Nat.le_of_ble_eq_true rfl) (by rfl) rfl ?_
  unfold f_X7_landauWithMost at h
  refine ev_aload_n dX7_landauWithMost_0 rfl ?_
  refine ev_getR fr_X7_20 shC_93 rfl dX7_landauWithMost_1 ?_
  refine ev_iconst (v := (1 : Int32)) dX7_landauWithMost_4 (by decide) ?_
  refine ev_ialdL (j := 1) shC_96 (by decide) (vpl _ _ (by decide)) dX7_landauWithMost_5 ?_
  refine ev_aload_n dX7_landauWithMost_6 rfl ?_
  refine ev_getR fr_X7_20 shC_93 rfl dX7_landauWithMost_7 ?_
  refine ev_iconst (v := (0 : Int32)) dX7_landauWithMost_10 (by decide) ?_
  refine ev_ialdL (j := 0) shC_96 (by decide) (vpl _ _ (by decide)) dX7_landauWithMost_11 ?_
  refine ev_icmp_le (tgt := 19) dX7_landauWithMost_12 (by decide) (fun hc1 => ?_) (fun hc1 => ?_)
  · replace h := ite_t hc1 h
    refine ev_iconst (v := (0 : Int32)) dX7_landauWithMost_19 (by decide) ?_
    exact ev_lt (f_X7_landauWithMost_j20_ok h) ⟨rfl, trivial⟩
  · replace h := ite_f hc1 h
    refine ev_iconst (v := (1 : Int32)) dX7_landauWithMost_15 (by decide) ?_
    refine ev_goto (tgt := 20) dX7_landauWithMost_16 (by decide) ?_
    exact ev_lt (f_X7_landauWithMost_j20_ok h) ⟨rfl, trivial⟩
def f_X7_wedding_L38 (G : Nat) (s : Nat) (r20 : Int32 → Int32 → Int32 → Mem → Option (Int32 × Mem)) (k20_78 : Int32 → Int32 → Mem → Option (Int32 × Mem)) (k38_72 : Int32 → Int32 → Int32 → Mem → Option (Int32 × Mem)) : Nat → Int32 → Int32 → Int32 → Int32 → Mem → Option (Int32 × Mem)
  | 0, _, _, _, _, _ => none
  | g + 1, v2, v6, v7, v8, μ =>
  (if (3 : Int32) ≤ v8 then
  k38_72 v2 v6 v7 μ
  else
  chk v8 3 (bndE (f_X7_answer G s v2 v7 v8 v6 μ) (fun w10 m9 =>
  chk v8 3 (let m11 := wr m9 96 (ix v8) ((μ 96 (ix v8)) + w10)
  (f_X7_wedding_L38 G s r20 k20_78 k38_72 g) v2 v6 v7 (v8 + (1 : Int32)) m11))))
set_option maxHeartbeats 4000000 in
set_option maxRecDepth 100000 in
theorem f_X7_wedding_L38_ok {bb : Bool} {G : Nat} {s : Nat} {r : Int32} {μr : Mem} (hs : At_X8 (shC bb) s) {r20 : Int32 → Int32 → Int32 → Mem → Option (Int32 × Mem)} {k20_78 : Int32 → Int32 → Mem → Option (Int32 × Mem)} {k38_72 : Int32 → Int32 → Int32 → Mem → Option (Int32 × Mem)} (hr20 : ∀ (v2 : Int32) (v6 : Int32) (v7 : Int32) (m : Mem), r20 v2 v6 v7 m = some (r, μr) → Ev RX7 cX7_wedding 9 (some .int) false 6 0 0 (eqP (some r) (shC bb) μr) 20 [some (.ref 93), some (.ref s), some (.int v2), none, none, none, some (.int v6), some (.int v7), none] [] (shC bb) m 0 0) (hk20_78 : ∀ (v2 : Int32) (v6 : Int32) (m : Mem), k20_78 v2 v6 m = some (r, μr) → Ev RX7 cX7_wedding 9 (some .int) false 6 0 0 (eqP (some r) (shC bb) μr) 78 [some (.ref 93), some (.ref s), some (.int v2), none, none, none, some (.int v6), none, none] [] (shC bb) m 0 0) (hk38_72 : ∀ (v2 : Int32) (v6 : Int32) (v7 : Int32) (m : Mem), k38_72 v2 v6 v7 m = some (r, μr) → Ev RX7 cX7_wedding 9 (some .int) false 6 0 0 (eqP (some r) (shC bb) μr) 72 [some (.ref 93), some (.ref s), some (.int v2), none, none, none, some (.int v6), some (.int v7), none] [] (shC bb) m 0 0) : ∀ (g : Nat) (v2 v6 v7 v8 : Int32) (μ : Mem), f_X7_wedding_L38 G s r20 k20_78 k38_72 g v2 v6 v7 v8 μ = some (r, μr) → Ev RX7 cX7_wedding 9 (some .int) false 6 0 0 (eqP (some r) (shC bb) μr) 38 [some (.ref 93), some (.ref s), some (.int v2), none, none, none, some (.int v6), some (.int v7), some (.int v8)] [] (shC bb) μ 0 0 := by
  intro g
  induction g with
  | zero =>
    intro v2 v6 v7 v8 μ h
    cases h
  | succ g ih =>
    intro v2 v6 v7 v8 μ h
    rw [f_X7_wedding_L38] at h
    refine ev_iload dX7_wedding_38 rfl ?_
    refine ev_iconst (v := (3 : Int32)) dX7_wedding_40 (by decide) ?_
    refine ev_icmp_ge (tgt := 72) dX7_wedding_41 (by decide) (fun hc6 => ?_) (fun hc6 => ?_)
    · replace h := ite_t hc6 h
      exact ev_lt (hk38_72 _ _ _ _ h) ⟨rfl, ⟨rfl, ⟨rfl, ⟨rfl, ⟨rfl, trivial⟩⟩⟩⟩⟩
    · replace h := ite_f hc6 h
      refine ev_aload_n dX7_wedding_44 rfl ?_
      refine ev_getR fr_X7_20 shC_93 rfl dX7_wedding_45 ?_
      refine ev_iload dX7_wedding_48 rfl ?_
      refine ev_dup2 dX7_wedding_50 (by rfl) (by rfl) ?_
      obtain ⟨hi7, h⟩ := chk_t h
      refine ev_iald shC_96 hi7 dX7_wedding_51 ?_
      refine ev_aload_n dX7_wedding_52 rfl ?_
      refine ev_aload_n dX7_wedding_53 rfl ?_
      refine ev_iload_n dX7_wedding_54 rfl ?_
      refine ev_iload dX7_wedding_55 rfl ?_
      refine ev_iload dX7_wedding_57 rfl ?_
      refine ev_iload dX7_wedding_59 rfl ?_
      obtain ⟨w10, m9, hq8, h⟩ := bndE_t h
      refine ev_cVi mv_X7_146 dX7_wedding_61 (c_X7_answer hs hq8) rfl shC_93 rfl rfl (Nat.le_of_ble_eq_true rfl) (by rfl) (Nat.le_of_ble_eq_true rfl) (Nat.le_of_ble_eq_true rfl) (Nat.le_of_ble_eq_true rfl) ?_
      refine ev_iadd dX7_wedding_64 ?_
      obtain ⟨hi12, h⟩ := chk_t h
      refine ev_iast shC_96 hi12 dX7_wedding_65 ?_
      refine ev_iinc (cq := (1 : Int32)) (loc' := [_, _, _, _, _, _, _, _, _]) dX7_wedding_66 rfl (by decide) rfl (by decide) (by rfl) ?_
      refine ev_goto (tgt := 38) dX7_wedding_69 (by decide) ?_
      exact ev_lt (ih _ _ _ _ _ h) ⟨rfl, ⟨rfl, ⟨rfl, ⟨rfl, ⟨rfl, ⟨rfl, trivial⟩⟩⟩⟩⟩⟩
def f_X7_wedding_j72 (G : Nat) (s : Nat) (r20 : Int32 → Int32 → Int32 → Mem → Option (Int32 × Mem)) (k20_78 : Int32 → Int32 → Mem → Option (Int32 × Mem)) (v2 v6 v7 : Int32) (μ : Mem) : Option (Int32 × Mem) :=
  r20 v2 v6 (v7 + (1 : Int32)) μ
set_option maxHeartbeats 4000000 in
set_option maxRecDepth 100000 in
theorem f_X7_wedding_j72_ok {bb : Bool} {G : Nat} {s : Nat} {r : Int32} {μr : Mem} (hs : At_X8 (shC bb) s) {r20 : Int32 → Int32 → Int32 → Mem → Option (Int32 × Mem)} {k20_78 : Int32 → Int32 → Mem → Option (Int32 × Mem)} (hr20 : ∀ (v2 : Int32) (v6 : Int32) (v7 : Int32) (m : Mem), r20 v2 v6 v7 m = some (r, μr) → Ev RX7 cX7_wedding 9 (some .int) false 6 0 0 (eqP (some r) (shC bb) μr) 20 [some (.ref 93), some (.ref s), some (.int v2), none, none, none, some (.int v6), some (.int v7), none] [] (shC bb) m 0 0) (hk20_78 : ∀ (v2 : Int32) (v6 : Int32) (m : Mem), k20_78 v2 v6 m = some (r, μr) → Ev RX7 cX7_wedding 9 (some .int) false 6 0 0 (eqP (some r) (shC bb) μr) 78 [some (.ref 93), some (.ref s), some (.int v2), none, none, none, some (.int v6), none, none] [] (shC bb) m 0 0) {v2 v6 v7 : Int32} {μ : Mem} (h : f_X7_wedding_j72 G s r20 k20_78 v2 v6 v7 μ = some (r, μr)) : Ev RX7 cX7_wedding 9 (some .int) false 6 0 0 (eqP (some r) (shC bb) μr) 72 [some (.ref 93), some (.ref s), some (.int v2), none, none, none, some (.int v6), some (.int v7), none] [] (shC bb) μ 0 0 := by
  unfold f_X7_wedding_j72 at h
  refine ev_iinc (cq := (1 : Int32)) (loc' := [_, _, _, _, _, _, _, _, _]) dX7_wedding_72 rfl (by decide) rfl (by decide) (by rfl) ?_
  refine ev_goto (tgt := 20) dX7_wedding_75 (by decide) ?_
  exact ev_lt (hr20 _ _ _ _ h) ⟨rfl, ⟨rfl, ⟨rfl, ⟨rfl, ⟨rfl, trivial⟩⟩⟩⟩⟩
def f_X7_wedding_L20 (G : Nat) (s : Nat) (k20_78 : Int32 → Int32 → Mem → Option (Int32 × Mem)) : Nat → Int32 → Int32 → Int32 → Mem → Option (Int32 × Mem)
  | 0, _, _, _, _ => none
  | g + 1, v2, v6, v7, μ =>
  (if (μ 20 3) ≤ v7 then
  k20_78 v2 v6 μ
  else
  f_X7_wedding_L38 G s (f_X7_wedding_L20 G s k20_78 g) k20_78 (f_X7_wedding_j72 G s (f_X7_wedding_L20 G s k20_78 g) k20_78) G v2 v6 v7 (0 : Int32) μ)
set_option maxHeartbeats 4000000 in
set_option maxRecDepth 100000 in
theorem f_X7_wedding_L20_ok {bb : Bool} {G : Nat} {s : Nat} {r : Int32} {μr : Mem} (hs : At_X8 (shC bb) s) {k20_78 : Int32 → Int32 → Mem → Option (Int32 × Mem)} (hk20_78 : ∀ (v2 : Int32) (v6 : Int32) (m : Mem), k20_78 v2 v6 m = some (r, μr) → Ev RX7 cX7_wedding 9 (some .int) false 6 0 0 (eqP (some r) (shC bb) μr) 78 [some (.ref 93), some (.ref s), some (.int v2), none, none, none, some (.int v6), none, none] [] (shC bb) m 0 0) : ∀ (g : Nat) (v2 v6 v7 : Int32) (μ : Mem), f_X7_wedding_L20 G s k20_78 g v2 v6 v7 μ = some (r, μr) → Ev RX7 cX7_wedding 9 (some .int) false 6 0 0 (eqP (some r) (shC bb) μr) 20 [some (.ref 93), some (.ref s), some (.int v2), none, none, none, some (.int v6), some (.int v7), none] [] (shC bb) μ 0 0 := by
  intro g
  induction g with
  | zero =>
    intro v2 v6 v7 μ h
    cases h
  | succ g ih =>
    intro v2 v6 v7 μ h
    rw [f_X7_wedding_L20] at h
    refine ev_iload dX7_wedding_20 rfl ?_
    refine ev_aload_n dX7_wedding_22 rfl ?_
    refine ev_getR fr_X7_29 shC_93 rfl dX7_wedding_23 ?_
    refine ev_getR fr_X7_107 shC_1 rfl dX7_wedding_26 ?_
    refine ev_getI fr_X7_143 shC_20 rfl dX7_wedding_29 ?_
    refine ev_icmp_ge (tgt := 78) dX7_wedding_32 (by decide) (fun hc5 => ?_) (fun hc5 => ?_)
    · replace h := ite_t hc5 h
      exact ev_lt (hk20_78 _ _ _ h) ⟨rfl, ⟨rfl, ⟨rfl, ⟨rfl, trivial⟩⟩⟩⟩
    · replace h := ite_f hc5 h
      refine ev_iconst (v := (0 : Int32)) dX7_wedding_35 (by decide) ?_
      refine ev_istore (loc' := [_, _, _, _, _, _, _, _, _]) dX7_wedding_36 rfl (by decide) (by rfl) ?_
      exact ev_lt (f_X7_wedding_L38_ok hs ih hk20_78 (fun _ _ _ _ hh => f_X7_wedding_j72_ok hs ih hk20_78 hh) _ _ _ _ _ _ h) ⟨rfl, ⟨rfl, ⟨rfl, ⟨rfl, ⟨rfl, ⟨rfl, trivial⟩⟩⟩⟩⟩⟩
def f_X7_wedding_j144 (G : Nat) (s : Nat) (r81 : Int32 → Int32 → Int32 → Mem → Option (Int32 × Mem)) (k81_150 : Int32 → Int32 → Mem → Option (Int32 × Mem)) (v2 v6 v7 : Int32) (μ : Mem) : Option (Int32 × Mem) :=
  r81 v2 v6 (v7 + (1 : Int32)) μ
set_option maxHeartbeats 4000000 in
set_option maxRecDepth 100000 in
theorem f_X7_wedding_j144_ok {bb : Bool} {G : Nat} {s : Nat} {r : Int32} {μr : Mem} (hs : At_X8 (shC bb) s) {r81 : Int32 → Int32 → Int32 → Mem → Option (Int32 × Mem)} {k81_150 : Int32 → Int32 → Mem → Option (Int32 × Mem)} (hr81 : ∀ (v2 : Int32) (v6 : Int32) (v7 : Int32) (m : Mem), r81 v2 v6 v7 m = some (r, μr) → Ev RX7 cX7_wedding 9 (some .int) false 6 0 0 (eqP (some r) (shC bb) μr) 81 [some (.ref 93), some (.ref s), some (.int v2), none, none, none, some (.int v6), some (.int v7), none] [] (shC bb) m 0 0) (hk81_150 : ∀ (v2 : Int32) (v6 : Int32) (m : Mem), k81_150 v2 v6 m = some (r, μr) → Ev RX7 cX7_wedding 9 (some .int) false 6 0 0 (eqP (some r) (shC bb) μr) 150 [some (.ref 93), some (.ref s), some (.int v2), none, none, none, some (.int v6), none, none] [] (shC bb) m 0 0) {v2 v6 v7 : Int32} {μ : Mem} (h : f_X7_wedding_j144 G s r81 k81_150 v2 v6 v7 μ = some (r, μr)) : Ev RX7 cX7_wedding 9 (some .int) false 6 0 0 (eqP (some r) (shC bb) μr) 144 [some (.ref 93), some (.ref s), some (.int v2), none, none, none, some (.int v6), some (.int v7), none] [] (shC bb) μ 0 0 := by
  unfold f_X7_wedding_j144 at h
  refine ev_iinc (cq := (1 : Int32)) (loc' := [_, _, _, _, _, _, _, _, _]) dX7_wedding_144 rfl (by decide) rfl (by decide) (by rfl) ?_
  refine ev_goto (tgt := 81) dX7_wedding_147 (by decide) ?_
  exact ev_lt (hr81 _ _ _ _ h) ⟨rfl, ⟨rfl, ⟨rfl, ⟨rfl, ⟨rfl, trivial⟩⟩⟩⟩⟩
def f_X7_wedding_L81 (G : Nat) (s : Nat) (k81_150 : Int32 → Int32 → Mem → Option (Int32 × Mem)) : Nat → Int32 → Int32 → Int32 → Mem → Option (Int32 × Mem)
  | 0, _, _, _, _ => none
  | g + 1, v2, v6, v7, μ =>
  (if (3 : Int32) ≤ v7 then
  k81_150 v2 v6 μ
  else
  chk v7 3 (bndO (f_X8_isToCough G s μ (μ 95 (ix v7))) (fun w16 =>
  (if w16 = (0 : Int32) then
  f_X7_wedding_j144 G s (f_X7_wedding_L81 G s k81_150 g) k81_150 v2 v6 v7 μ
  else
  chk v7 3 (chk v7 3 (let m19 := wr μ 96 (ix v7) ((μ 96 (ix v7)) + (10 : Int32))
  (let m21 := wr m19 s 7 ((m19 s 7) &&& ((sl (1 : Int32) (μ 95 (ix v7))) ^^^ (-1 : Int32)))
  bndV (f_X7_write G s (2 : Int32) (μ 95 (ix v7)) v7 v6 m21) (fun m23 =>
  f_X7_wedding_j144 G s (f_X7_wedding_L81 G s k81_150 g) k81_150 v2 v6 v7 m23))))))))
set_option maxHeartbeats 4000000 in
set_option maxRecDepth 100000 in
theorem f_X7_wedding_L81_ok {bb : Bool} {G : Nat} {s : Nat} {r : Int32} {μr : Mem} (hs : At_X8 (shC bb) s) {k81_150 : Int32 → Int32 → Mem → Option (Int32 × Mem)} (hk81_150 : ∀ (v2 : Int32) (v6 : Int32) (m : Mem), k81_150 v2 v6 m = some (r, μr) → Ev RX7 cX7_wedding 9 (some .int) false 6 0 0 (eqP (some r) (shC bb) μr) 150 [some (.ref 93), some (.ref s), some (.int v2), none, none, none, some (.int v6), none, none] [] (shC bb) m 0 0) : ∀ (g : Nat) (v2 v6 v7 : Int32) (μ : Mem), f_X7_wedding_L81 G s k81_150 g v2 v6 v7 μ = some (r, μr) → Ev RX7 cX7_wedding 9 (some .int) false 6 0 0 (eqP (some r) (shC bb) μr) 81 [some (.ref 93), some (.ref s), some (.int v2), none, none, none, some (.int v6), some (.int v7), none] [] (shC bb) μ 0 0 := by
  intro g
  induction g with
  | zero =>
    intro v2 v6 v7 μ h
    cases h
  | succ g ih =>
    intro v2 v6 v7 μ h
    rw [f_X7_wedding_L81] at h
    refine ev_iload dX7_wedding_81 rfl ?_
    refine ev_iconst (v := (3 : Int32)) dX7_wedding_83 (by decide) ?_
    refine ev_icmp_ge (tgt := 150) dX7_wedding_84 (by decide) (fun hc13 => ?_) (fun hc13 => ?_)
    · replace h := ite_t hc13 h
      exact ev_lt (hk81_150 _ _ _ h) ⟨rfl, ⟨rfl, ⟨rfl, ⟨rfl, trivial⟩⟩⟩⟩
    · replace h := ite_f hc13 h
      refine ev_aload_n dX7_wedding_87 rfl ?_
      refine ev_getR fr_X7_17 shC_93 rfl dX7_wedding_88 ?_
      refine ev_iload dX7_wedding_91 rfl ?_
      obtain ⟨hi14, h⟩ := chk_t h
      refine ev_iald shC_95 hi14 dX7_wedding_93 ?_
      refine ev_istore (loc' := [_, _, _, _, _, _, _, _, _]) dX7_wedding_94 rfl (by decide) (by rfl) ?_
      refine ev_aload_n dX7_wedding_96 rfl ?_
      refine ev_iload dX7_wedding_97 rfl ?_
      obtain ⟨w16, hq15, h⟩ := bndO_t h
      refine ev_cVi mv_X7_150 dX7_wedding_99 (c_X8_isToCough hs hq15) rfl (hs.1) rfl rfl (Nat.le_of_ble_eq_true rfl) (by rfl) (Nat.le_of_ble_eq_true rfl) (Nat.le_of_ble_eq_true rfl) (Nat.le_of_ble_eq_true rfl) ?_
      refine ev_if_eq (tgt := 144) dX7_wedding_102 (by decide) (fun hc17 => ?_) (fun hc17 => ?_)
      · replace h := ite_t hc17 h
        exact ev_lt (f_X7_wedding_j144_ok hs ih hk81_150 h) ⟨rfl, ⟨rfl, ⟨rfl, ⟨rfl, ⟨rfl, trivial⟩⟩⟩⟩⟩
      · replace h := ite_f hc17 h
        refine ev_aload_n dX7_wedding_105 rfl ?_
        refine ev_getR fr_X7_20 shC_93 rfl dX7_wedding_106 ?_
        refine ev_iload dX7_wedding_109 rfl ?_
        refine ev_dup2 dX7_wedding_111 (by rfl) (by rfl) ?_
        obtain ⟨hi18, h⟩ := chk_t h
        refine ev_iald shC_96 hi18 dX7_wedding_112 ?_
        refine ev_bipush (v := (10 : Int32)) dX7_wedding_113 (by decide) ?_
        refine ev_iadd dX7_wedding_115 ?_
        obtain ⟨hi20, h⟩ := chk_t h
        refine ev_iast shC_96 hi20 dX7_wedding_116 ?_
        refine ev_aload_n dX7_wedding_117 rfl ?_
        refine ev_dup dX7_wedding_118 (by rfl) ?_
        refine ev_getI fr_X7_153 (hs.1) rfl dX7_wedding_119 ?_
        refine ev_iconst (v := (1 : Int32)) dX7_wedding_122 (by decide) ?_
        refine ev_iload dX7_wedding_123 rfl ?_
        refine ev_ishl dX7_wedding_125 ?_
        refine ev_iconst (v := (-1 : Int32)) dX7_wedding_126 (by decide) ?_
        refine ev_ixor dX7_wedding_127 ?_
        refine ev_iand dX7_wedding_128 ?_
        refine ev_putI fr_X7_153 (hs.1) rfl rfl rfl dX7_wedding_129 ?_
        refine ev_aload_n dX7_wedding_132 rfl ?_
        refine ev_aload_n dX7_wedding_133 rfl ?_
        refine ev_iconst (v := (2 : Int32)) dX7_wedding_134 (by decide) ?_
        refine ev_iload dX7_wedding_135 rfl ?_
        refine ev_iload dX7_wedding_137 rfl ?_
        refine ev_iload dX7_wedding_139 rfl ?_
        obtain ⟨m23, hq22, h⟩ := bndV_t h
        refine ev_cVv mv_X7_125 dX7_wedding_141 (c_X7_write hs hq22) rfl shC_93 rfl rfl (Nat.le_of_ble_eq_true rfl) (by rfl) (Nat.le_of_ble_eq_true rfl) (Nat.le_of_ble_eq_true rfl) (Nat.le_of_ble_eq_true rfl) ?_
        exact ev_lt (f_X7_wedding_j144_ok hs ih hk81_150 h) ⟨rfl, ⟨rfl, ⟨rfl, ⟨rfl, ⟨rfl, trivial⟩⟩⟩⟩⟩
def f_X7_wedding_j150 (G : Nat) (s : Nat)  (v2 v6 : Int32) (μ : Mem) : Option (Int32 × Mem) :=
  bndO (f_X7_landauWithMost G μ) (fun w25 =>
  chk w25 3 (chk w25 3 (bndV (f_X7_write G s (3 : Int32) (μ 95 (ix w25)) (μ 96 (ix w25)) v6 μ) (fun m29 =>
  chk v2 8 (let m30 := wr m29 (s + 2) (ix v2) (μ 95 (ix w25))
  chk (μ 95 (ix w25)) 12 (let m32 := wr m30 (s + 1) (ix (μ 95 (ix w25))) v2
  chk v2 8 (chk v2 8 (let m35 := wr m32 (s + 5) (ix v2) ((m32 (s + 5) (ix v2)) + (1 : Int32))
  chk v2 8 ((if (m35 12 (ix v2)) = (μ 95 (ix w25)) then
  (let m40 := wr m35 s 6 ((m35 s 6) + (-3 : Int32))
  some ((μ 95 (ix w25)), m40))
  else
  (let m39 := wr m35 s 6 ((m35 s 6) + (1 : Int32))
  some ((μ 95 (ix w25)), m39))))))))))))
set_option maxHeartbeats 4000000 in
set_option maxRecDepth 100000 in
theorem f_X7_wedding_j150_ok {bb : Bool} {G : Nat} {s : Nat} {r : Int32} {μr : Mem} (hs : At_X8 (shC bb) s)   {v2 v6 : Int32} {μ : Mem} (h : f_X7_wedding_j150 G s v2 v6 μ = some (r, μr)) : Ev RX7 cX7_wedding 9 (some .int) false 6 0 0 (eqP (some r) (shC bb) μr) 150 [some (.ref 93), some (.ref s), some (.int v2), none, none, none, some (.int v6), none, none] [] (shC bb) μ 0 0 := by
  unfold f_X7_wedding_j150 at h
  refine ev_aload_n dX7_wedding_150 rfl ?_
  obtain ⟨w25, hq24, h⟩ := bndO_t h
  refine ev_cVi mv_X7_156 dX7_wedding_151 (c_X7_landauWithMost hq24) rfl shC_93 rfl rfl (Nat.le_of_ble_eq_true rfl) (by rfl) (Nat.le_of_ble_eq_true rfl) (Nat.le_of_ble_eq_true rfl) (Nat.le_of_ble_eq_true rfl) ?_
  refine ev_istore (loc' := [_, _, _, _, _, _, _, _, _]) dX7_wedding_154 rfl (by decide) (by rfl) ?_
  refine ev_aload_n dX7_wedding_156 rfl ?_
  refine ev_getR fr_X7_17 shC_93 rfl dX7_wedding_157 ?_
  refine ev_iload dX7_wedding_160 rfl ?_
  obtain ⟨hi26, h⟩ := chk_t h
  refine ev_iald shC_95 hi26 dX7_wedding_162 ?_
  refine ev_istore (loc' := [_, _, _, _, _, _, _, _, _]) dX7_wedding_163 rfl (by decide) (by rfl) ?_
  refine ev_aload_n dX7_wedding_165 rfl ?_
  refine ev_aload_n dX7_wedding_166 rfl ?_
  refine ev_iconst (v := (3 : Int32)) dX7_wedding_167 (by decide) ?_
  refine ev_iload dX7_wedding_168 rfl ?_
  refine ev_aload_n dX7_wedding_170 rfl ?_
  refine ev_getR fr_X7_20 shC_93 rfl dX7_wedding_171 ?_
  refine ev_iload dX7_wedding_174 rfl ?_
  obtain ⟨hi27, h⟩ := chk_t h
  refine ev_iald shC_96 hi27 dX7_wedding_176 ?_
  refine ev_iload dX7_wedding_177 rfl ?_
  obtain ⟨m29, hq28, h⟩ := bndV_t h
  refine ev_cVv mv_X7_125 dX7_wedding_179 (c_X7_write hs hq28) rfl shC_93 rfl rfl (Nat.le_of_ble_eq_true rfl) (by rfl) (Nat.le_of_ble_eq_true rfl) (Nat.le_of_ble_eq_true rfl) (Nat.le_of_ble_eq_true rfl) ?_
  refine ev_aload_n dX7_wedding_182 rfl ?_
  refine ev_getR fr_X7_91 (hs.1) rfl dX7_wedding_183 ?_
  refine ev_iload_n dX7_wedding_186 rfl ?_
  refine ev_iload dX7_wedding_187 rfl ?_
  obtain ⟨hi31, h⟩ := chk_t h
  refine ev_iast (hs.2.2.1) hi31 dX7_wedding_189 ?_
  refine ev_aload_n dX7_wedding_190 rfl ?_
  refine ev_getR fr_X7_94 (hs.1) rfl dX7_wedding_191 ?_
  refine ev_iload dX7_wedding_194 rfl ?_
  refine ev_iload_n dX7_wedding_196 rfl ?_
  obtain ⟨hi33, h⟩ := chk_t h
  refine ev_iast (hs.2.1) hi33 dX7_wedding_197 ?_
  refine ev_aload_n dX7_wedding_198 rfl ?_
  refine ev_getR fr_X7_159 (hs.1) rfl dX7_wedding_199 ?_
  refine ev_iload_n dX7_wedding_202 rfl ?_
  refine ev_dup2 dX7_wedding_203 (by rfl) (by rfl) ?_
  obtain ⟨hi34, h⟩ := chk_t h
  refine ev_iald (hs.2.2.2.2.2) hi34 dX7_wedding_204 ?_
  refine ev_iconst (v := (1 : Int32)) dX7_wedding_205 (by decide) ?_
  refine ev_iadd dX7_wedding_206 ?_
  obtain ⟨hi36, h⟩ := chk_t h
  refine ev_iast (hs.2.2.2.2.2) hi36 dX7_wedding_207 ?_
  refine ev_aload_n dX7_wedding_208 rfl ?_
  refine ev_dup dX7_wedding_209 (by rfl) ?_
  refine ev_getI fr_X7_162 (hs.1) rfl dX7_wedding_210 ?_
  refine ev_aload_n dX7_wedding_213 rfl ?_
  refine ev_getR fr_X7_29 shC_93 rfl dX7_wedding_214 ?_
  refine ev_getR fr_X7_51 shC_1 rfl dX7_wedding_217 ?_
  refine ev_iload_n dX7_wedding_220 rfl ?_
  obtain ⟨hi37, h⟩ := chk_t h
  refine ev_iald shC_12 hi37 dX7_wedding_221 ?_
  refine ev_iload dX7_wedding_222 rfl ?_
  refine ev_icmp_ne (tgt := 232) dX7_wedding_224 (by decide) (fun hc38 => ?_) (fun hc38 => ?_)
  · replace h := ite_f hc38 h
    refine ev_iconst (v := (1 : Int32)) dX7_wedding_232 (by decide) ?_
    refine ev_iadd dX7_wedding_233 ?_
    refine ev_putI fr_X7_162 (hs.1) rfl rfl rfl dX7_wedding_234 ?_
    refine ev_iload dX7_wedding_237 rfl ?_
    exact ev_iret rfl rfl (by decide) (by decide) dX7_wedding_239 (eqP_E h)
  · replace h := ite_t hc38 h
    refine ev_bipush (v := (-3 : Int32)) dX7_wedding_227 (by decide) ?_
    refine ev_goto (tgt := 233) dX7_wedding_229 (by decide) ?_
    refine ev_iadd dX7_wedding_233 ?_
    refine ev_putI fr_X7_162 (hs.1) rfl rfl rfl dX7_wedding_234 ?_
    refine ev_iload dX7_wedding_237 rfl ?_
    exact ev_iret rfl rfl (by decide) (by decide) dX7_wedding_239 (eqP_E h)
def f_X7_wedding_j78 (G : Nat) (s : Nat)  (v2 v6 : Int32) (μ : Mem) : Option (Int32 × Mem) :=
  f_X7_wedding_L81 G s (f_X7_wedding_j150 G s) G v2 v6 (0 : Int32) μ
set_option maxHeartbeats 4000000 in
set_option maxRecDepth 100000 in
theorem f_X7_wedding_j78_ok {bb : Bool} {G : Nat} {s : Nat} {r : Int32} {μr : Mem} (hs : At_X8 (shC bb) s)   {v2 v6 : Int32} {μ : Mem} (h : f_X7_wedding_j78 G s v2 v6 μ = some (r, μr)) : Ev RX7 cX7_wedding 9 (some .int) false 6 0 0 (eqP (some r) (shC bb) μr) 78 [some (.ref 93), some (.ref s), some (.int v2), none, none, none, some (.int v6), none, none] [] (shC bb) μ 0 0 := by
  unfold f_X7_wedding_j78 at h
  refine ev_iconst (v := (0 : Int32)) dX7_wedding_78 (by decide) ?_
  refine ev_istore (loc' := [_, _, _, _, _, _, _, _, _]) dX7_wedding_79 rfl (by decide) (by rfl) ?_
  exact ev_lt (f_X7_wedding_L81_ok hs (fun _ _ _ hh => f_X7_wedding_j150_ok hs hh) _ _ _ _ _ h) ⟨rfl, ⟨rfl, ⟨rfl, ⟨rfl, ⟨rfl, trivial⟩⟩⟩⟩⟩
def f_X7_wedding (G : Nat) (s : Nat) (p1 p2 p3 p4 p5 : Int32) (μ : Mem) : Option (Int32 × Mem) :=
  bndV (f_X7_seat G p2 p3 p4 μ) (fun m2 =>
  bndV (f_J7_fill_53178 G 96 3 (0 : Int32) m2) (fun m4 =>
  f_X7_wedding_L20 G s (f_X7_wedding_j78 G s) G p1 p5 (0 : Int32) m4))
set_option maxHeartbeats 4000000 in
set_option maxRecDepth 100000 in
theorem c_X7_wedding {bb : Bool} {G : Nat} {s : Nat} {μ : Mem} {p1 p2 p3 p4 p5 : Int32} {r : Int32} {μr : Mem} (hs : At_X8 (shC bb) s) (h : f_X7_wedding G s p1 p2 p3 p4 p5 μ = some (r, μr)) : Cn yX7_wedding cX7_wedding 9 (some .int) 6 0 0 [.ref 93, .ref s, .int p1, .int p2, .int p3, .int p4, .int p5] (shC bb) μ (eqP (some r) (shC bb) μr) := by
  refine cn_of (own := RX7) (ini := false) (loc := [some (.ref 93), some (.ref s), some (.int p1), some (.int p2), some (.int p3), some (.int p4), some (.int p5), none, none]) rfl (by decide) (fun q => by cases q) (Nat.le_of_ble_eq_true rfl) (by rfl) rfl ?_
  unfold f_X7_wedding at h
  refine ev_aload_n dX7_wedding_0 rfl ?_
  refine ev_iload_n dX7_wedding_1 rfl ?_
  refine ev_iload dX7_wedding_2 rfl ?_
  refine ev_iload dX7_wedding_4 rfl ?_
  obtain ⟨m2, hq1, h⟩ := bndV_t h
  refine ev_cVv mv_X7_133 dX7_wedding_6 (c_X7_seat hq1) rfl shC_93 rfl rfl (Nat.le_of_ble_eq_true rfl) (by rfl) (Nat.le_of_ble_eq_true rfl) (Nat.le_of_ble_eq_true rfl) (Nat.le_of_ble_eq_true rfl) ?_
  refine ev_aload_n dX7_wedding_9 rfl ?_
  refine ev_getR fr_X7_20 shC_93 rfl dX7_wedding_10 ?_
  refine ev_iconst (v := (0 : Int32)) dX7_wedding_13 (by decide) ?_
  obtain ⟨m4, hq3, h⟩ := bndV_t h
  refine ev_cSv mv_X7_137 dX7_wedding_14 (c_J7_fill_53178 shC_96 hq3) rfl rfl (Nat.le_of_ble_eq_true rfl) (by rfl) (Nat.le_of_ble_eq_true rfl) (Nat.le_of_ble_eq_true rfl) (Nat.le_of_ble_eq_true rfl) ?_
  refine ev_iconst (v := (0 : Int32)) dX7_wedding_17 (by decide) ?_
  refine ev_istore (loc' := [_, _, _, _, _, _, _, _, _]) dX7_wedding_18 rfl (by decide) (by rfl) ?_
  exact ev_lt (f_X7_wedding_L20_ok hs (fun _ _ _ hh => f_X7_wedding_j78_ok hs hh) _ _ _ _ _ h) ⟨rfl, ⟨rfl, ⟨rfl, ⟨rfl, ⟨rfl, trivial⟩⟩⟩⟩⟩
def f_X7_parting_j21 (G : Nat) (s : Nat)  (v2 v3 s0 : Int32) (μ : Mem) : Option Mem :=
  (if (f_X0_isWoman μ s0) = (0 : Int32) then
  some μ
  else
  chk v2 8 (bndV (f_X7_write G s (5 : Int32) v2 (μ (s + 3) (ix v2)) v3 μ) (fun m5 =>
  chk s0 12 (let m6 := wr m5 (s + 1) (ix s0) (-1 : Int32)
  chk v2 8 (let m8 := wr m6 (s + 2) (ix v2) (-1 : Int32)
  chk v2 8 (let m10 := wr m8 (s + 3) (ix v2) (0 : Int32)
  some m10))))))
set_option maxHeartbeats 4000000 in
set_option maxRecDepth 100000 in
theorem f_X7_parting_j21_ok {bb : Bool} {G : Nat} {s : Nat} {μr : Mem} (hs : At_X8 (shC bb) s)   {v2 v3 s0 : Int32} {μ : Mem} (h : f_X7_parting_j21 G s v2 v3 s0 μ = some μr) : Ev RX7 cX7_parting 5 none false 5 0 0 (eqP none (shC bb) μr) 21 [some (.ref 93), some (.ref s), some (.int v2), some (.int v3), none] [.int s0] (shC bb) μ 0 0 := by
  unfold f_X7_parting_j21 at h
  refine ev_istore (loc' := [_, _, _, _, _]) dX7_parting_21 rfl (by decide) (by rfl) ?_
  refine ev_aload_n dX7_parting_23 rfl ?_
  refine ev_getR fr_X7_29 shC_93 rfl dX7_parting_24 ?_
  refine ev_iload dX7_parting_27 rfl ?_
  refine ev_cVi mv_X7_39 dX7_parting_29 c_X0_isWoman rfl shC_1 rfl rfl (Nat.le_of_ble_eq_true rfl) (by rfl) (Nat.le_of_ble_eq_true rfl) (Nat.le_of_ble_eq_true rfl) (Nat.le_of_ble_eq_true rfl) ?_
  refine ev_if_ne (tgt := 36) dX7_parting_32 (by decide) (fun hc2 => ?_) (fun hc2 => ?_)
  · replace h := ite_f hc2 h
    refine ev_aload_n dX7_parting_36 rfl ?_
    refine ev_aload_n dX7_parting_37 rfl ?_
    refine ev_iconst (v := (5 : Int32)) dX7_parting_38 (by decide) ?_
    refine ev_iload_n dX7_parting_39 rfl ?_
    refine ev_aload_n dX7_parting_40 rfl ?_
    refine ev_getR fr_X7_66 (hs.1) rfl dX7_parting_41 ?_
    refine ev_iload_n dX7_parting_44 rfl ?_
    obtain ⟨hi3, h⟩ := chk_t h
    refine ev_iald (hs.2.2.2.1) hi3 dX7_parting_45 ?_
    refine ev_iload_n dX7_parting_46 rfl ?_
    obtain ⟨m5, hq4, h⟩ := bndV_t h
    refine ev_cVv mv_X7_125 dX7_parting_47 (c_X7_write hs hq4) rfl shC_93 rfl rfl (Nat.le_of_ble_eq_true rfl) (by rfl) (Nat.le_of_ble_eq_true rfl) (Nat.le_of_ble_eq_true rfl) (Nat.le_of_ble_eq_true rfl) ?_
    refine ev_aload_n dX7_parting_50 rfl ?_
    refine ev_getR fr_X7_94 (hs.1) rfl dX7_parting_51 ?_
    refine ev_iload dX7_parting_54 rfl ?_
    refine ev_iconst (v := (-1 : Int32)) dX7_parting_56 (by decide) ?_
    obtain ⟨hi7, h⟩ := chk_t h
    refine ev_iast (hs.2.1) hi7 dX7_parting_57 ?_
    refine ev_aload_n dX7_parting_58 rfl ?_
    refine ev_getR fr_X7_91 (hs.1) rfl dX7_parting_59 ?_
    refine ev_iload_n dX7_parting_62 rfl ?_
    refine ev_iconst (v := (-1 : Int32)) dX7_parting_63 (by decide) ?_
    obtain ⟨hi9, h⟩ := chk_t h
    refine ev_iast (hs.2.2.1) hi9 dX7_parting_64 ?_
    refine ev_aload_n dX7_parting_65 rfl ?_
    refine ev_getR fr_X7_66 (hs.1) rfl dX7_parting_66 ?_
    refine ev_iload_n dX7_parting_69 rfl ?_
    refine ev_iconst (v := (0 : Int32)) dX7_parting_70 (by decide) ?_
    obtain ⟨hi11, h⟩ := chk_t h
    refine ev_iast (hs.2.2.2.1) hi11 dX7_parting_71 ?_
    exact ev_vret rfl (by decide) (by decide) dX7_parting_72 (eqP_V h)
  · replace h := ite_t hc2 h
    exact ev_vret rfl (by decide) (by decide) dX7_parting_35 (eqP_V h)
def f_X7_parting (G : Nat) (s : Nat) (p1 p2 : Int32) (μ : Mem) : Option Mem :=
  (if (f_X0_isGroom μ p1) = (0 : Int32) then
  f_X7_parting_j21 G s p1 p2 (-1 : Int32) μ
  else
  chk p1 8 (f_X7_parting_j21 G s p1 p2 (μ (s + 2) (ix p1)) μ))
set_option maxHeartbeats 4000000 in
set_option maxRecDepth 100000 in
theorem c_X7_parting {bb : Bool} {G : Nat} {s : Nat} {μ : Mem} {p1 p2 : Int32} {μr : Mem} (hs : At_X8 (shC bb) s) (h : f_X7_parting G s p1 p2 μ = some μr) : Cn yX7_parting cX7_parting 5 none 5 0 0 [.ref 93, .ref s, .int p1, .int p2] (shC bb) μ (eqP none (shC bb) μr) := by
  refine cn_of (own := RX7) (ini := false) (loc := [some (.ref 93), some (.ref s), some (.int p1), some (.int p2), none]) rfl (by decide) (fun q => by cases q) (Nat.le_of_ble_eq_true rfl) (by rfl) rfl ?_
  unfold f_X7_parting at h
  refine ev_aload_n dX7_parting_0 rfl ?_
  refine ev_getR fr_X7_29 shC_93 rfl dX7_parting_1 ?_
  refine ev_iload_n dX7_parting_4 rfl ?_
  refine ev_cVi mv_X7_33 dX7_parting_5 c_X0_isGroom rfl shC_1 rfl rfl (Nat.le_of_ble_eq_true rfl) (by rfl) (Nat.le_of_ble_eq_true rfl) (Nat.le_of_ble_eq_true rfl) (Nat.le_of_ble_eq_true rfl) ?_
  refine ev_if_eq (tgt := 20) dX7_parting_8 (by decide) (fun hc1 => ?_) (fun hc1 => ?_)
  · replace h := ite_t hc1 h
    refine ev_iconst (v := (-1 : Int32)) dX7_parting_20 (by decide) ?_
    exact ev_lt (f_X7_parting_j21_ok hs h) ⟨rfl, ⟨rfl, ⟨rfl, ⟨rfl, trivial⟩⟩⟩⟩
  · replace h := ite_f hc1 h
    refine ev_aload_n dX7_parting_11 rfl ?_
    refine ev_getR fr_X7_91 (hs.1) rfl dX7_parting_12 ?_
    refine ev_iload_n dX7_parting_15 rfl ?_
    obtain ⟨hi12, h⟩ := chk_t h
    refine ev_iald (hs.2.2.1) hi12 dX7_parting_16 ?_
    refine ev_goto (tgt := 21) dX7_parting_17 (by decide) ?_
    exact ev_lt (f_X7_parting_j21_ok hs h) ⟨rfl, ⟨rfl, ⟨rfl, ⟨rfl, trivial⟩⟩⟩⟩
def f_X7_liveYear_j103 (G : Nat) (s : Nat)  (v2 v3 s0 : Int32) (μ : Mem) : Option (Int32 × Mem) :=
  (if s0 = (0 : Int32) then
  bkk s0 (some (s0, μ))
  else
  chk v2 8 (chk v2 8 (let m21 := wr μ (s + 4) (ix v2) ((μ (s + 4) (ix v2)) + (1 : Int32))
  chk v2 8 (bndV (f_X7_write G s (4 : Int32) v2 (m21 (s + 4) (ix v2)) v3 m21) (fun m25 =>
  bkk s0 (some (s0, m25)))))))
set_option maxHeartbeats 4000000 in
set_option maxRecDepth 100000 in
theorem f_X7_liveYear_j103_ok {bb : Bool} {G : Nat} {s : Nat} {r : Int32} {μr : Mem} (hs : At_X8 (shC bb) s)   {v2 v3 s0 : Int32} {μ : Mem} (h : f_X7_liveYear_j103 G s v2 v3 s0 μ = some (r, μr)) : Ev RX7 cX7_liveYear 6 (some .boolean) false 5 0 0 (eqP (some r) (shC bb) μr) 103 [some (.ref 93), some (.ref s), some (.int v2), some (.int v3), none, none] [.int s0] (shC bb) μ 0 0 := by
  unfold f_X7_liveYear_j103 at h
  refine ev_istore (loc' := [_, _, _, _, _, _]) dX7_liveYear_103 rfl (by decide) (by rfl) ?_
  refine ev_iload dX7_liveYear_105 rfl ?_
  refine ev_if_eq (tgt := 134) dX7_liveYear_107 (by decide) (fun hc18 => ?_) (fun hc18 => ?_)
  · replace h := ite_t hc18 h
    refine ev_iload dX7_liveYear_134 rfl ?_
    obtain ⟨hz19, h⟩ := bkk_t h
    exact ev_iret rfl (nzb hz19) (by decide) (by decide) dX7_liveYear_136 (eqP_E h)
  · replace h := ite_f hc18 h
    refine ev_aload_n dX7_liveYear_110 rfl ?_
    refine ev_getR fr_X7_63 (hs.1) rfl dX7_liveYear_111 ?_
    refine ev_iload_n dX7_liveYear_114 rfl ?_
    refine ev_dup2 dX7_liveYear_115 (by rfl) (by rfl) ?_
    obtain ⟨hi20, h⟩ := chk_t h
    refine ev_iald (hs.2.2.2.2.1) hi20 dX7_liveYear_116 ?_
    refine ev_iconst (v := (1 : Int32)) dX7_liveYear_117 (by decide) ?_
    refine ev_iadd dX7_liveYear_118 ?_
    obtain ⟨hi22, h⟩ := chk_t h
    refine ev_iast (hs.2.2.2.2.1) hi22 dX7_liveYear_119 ?_
    refine ev_aload_n dX7_liveYear_120 rfl ?_
    refine ev_aload_n dX7_liveYear_121 rfl ?_
    refine ev_iconst (v := (4 : Int32)) dX7_liveYear_122 (by decide) ?_
    refine ev_iload_n dX7_liveYear_123 rfl ?_
    refine ev_aload_n dX7_liveYear_124 rfl ?_
    refine ev_getR fr_X7_63 (hs.1) rfl dX7_liveYear_125 ?_
    refine ev_iload_n dX7_liveYear_128 rfl ?_
    obtain ⟨hi23, h⟩ := chk_t h
    refine ev_iald (hs.2.2.2.2.1) hi23 dX7_liveYear_129 ?_
    refine ev_iload_n dX7_liveYear_130 rfl ?_
    obtain ⟨m25, hq24, h⟩ := bndV_t h
    refine ev_cVv mv_X7_125 dX7_liveYear_131 (c_X7_write hs hq24) rfl shC_93 rfl rfl (Nat.le_of_ble_eq_true rfl) (by rfl) (Nat.le_of_ble_eq_true rfl) (Nat.le_of_ble_eq_true rfl) (Nat.le_of_ble_eq_true rfl) ?_
    refine ev_iload dX7_liveYear_134 rfl ?_
    obtain ⟨hz26, h⟩ := bkk_t h
    exact ev_iret rfl (nzb hz26) (by decide) (by decide) dX7_liveYear_136 (eqP_E h)
def f_X7_liveYear (G : Nat) (s : Nat) (p1 p2 : Int32) (μ : Mem) : Option (Int32 × Mem) :=
  chk p1 8 (bndV (f_X7_meet G s p1 (μ (s + 2) (ix p1)) μ) (fun m3 =>
  chk p1 8 (bndE (f_X7_joyTold G m3) (fun w7 m6 =>
  chk p1 8 (let m8 := wr m6 (s + 3) (ix p1) (f_X11_held ((m3 (s + 3) (ix p1)) + w7) (-99 : Int32) (99 : Int32))
  chk p1 8 ((if (m8 (s + 4) (ix p1)) < (20 : Int32) then
  chk p1 8 ((if p2 = (0 : Int32) then
  bndE (f_X8_drawOfThousand G s m8) (fun w16 m15 =>
  (if (f_X11_held ((100 : Int32) + ((5 : Int32) * (m8 (s + 3) (ix p1)))) (0 : Int32) (1000 : Int32)) ≤ w16 then
  f_X7_liveYear_j103 G s p1 p2 (0 : Int32) m15
  else
  f_X7_liveYear_j103 G s p1 p2 (1 : Int32) m15))
  else
  (if (f_X11_held ((100 : Int32) + ((5 : Int32) * (m8 (s + 3) (ix p1)))) (0 : Int32) (1000 : Int32)) < (500 : Int32) then
  f_X7_liveYear_j103 G s p1 p2 (0 : Int32) m8
  else
  f_X7_liveYear_j103 G s p1 p2 (1 : Int32) m8)))
  else
  some ((0 : Int32), m8))))))))
set_option maxHeartbeats 4000000 in
set_option maxRecDepth 100000 in
theorem c_X7_liveYear {bb : Bool} {G : Nat} {s : Nat} {μ : Mem} {p1 p2 : Int32} {r : Int32} {μr : Mem} (hs : At_X8 (shC bb) s) (h : f_X7_liveYear G s p1 p2 μ = some (r, μr)) : Cn yX7_liveYear cX7_liveYear 6 (some .boolean) 5 0 0 [.ref 93, .ref s, .int p1, .int p2] (shC bb) μ (eqP (some r) (shC bb) μr) := by
  refine cn_of (own := RX7) (ini := false) (loc := [some (.ref 93), some (.ref s), some (.int p1), some (.int p2), none, none]) rfl (by decide) (fun q => by cases q) (Nat.le_of_ble_eq_true rfl) (by rfl) rfl ?_
  unfold f_X7_liveYear at h
  refine ev_aload_n dX7_liveYear_0 rfl ?_
  refine ev_aload_n dX7_liveYear_1 rfl ?_
  refine ev_iload_n dX7_liveYear_2 rfl ?_
  refine ev_aload_n dX7_liveYear_3 rfl ?_
  refine ev_getR fr_X7_91 (hs.1) rfl dX7_liveYear_4 ?_
  refine ev_iload_n dX7_liveYear_7 rfl ?_
  obtain ⟨hi1, h⟩ := chk_t h
  refine ev_iald (hs.2.2.1) hi1 dX7_liveYear_8 ?_
  obtain ⟨m3, hq2, h⟩ := bndV_t h
  refine ev_cVv mv_X7_114 dX7_liveYear_9 (c_X7_meet hs hq2) rfl shC_93 rfl rfl (Nat.le_of_ble_eq_true rfl) (by rfl) (Nat.le_of_ble_eq_true rfl) (Nat.le_of_ble_eq_true rfl) (Nat.le_of_ble_eq_true rfl) ?_
  refine ev_aload_n dX7_liveYear_12 rfl ?_
  refine ev_getR fr_X7_66 (hs.1) rfl dX7_liveYear_13 ?_
  refine ev_iload_n dX7_liveYear_16 rfl ?_
  refine ev_aload_n dX7_liveYear_17 rfl ?_
  refine ev_getR fr_X7_66 (hs.1) rfl dX7_liveYear_18 ?_
  refine ev_iload_n dX7_liveYear_21 rfl ?_
  obtain ⟨hi4, h⟩ := chk_t h
  refine ev_iald (hs.2.2.2.1) hi4 dX7_liveYear_22 ?_
  refine ev_aload_n dX7_liveYear_23 rfl ?_
  obtain ⟨w7, m6, hq5, h⟩ := bndE_t h
  refine ev_cVi mv_X7_187 dX7_liveYear_24 (c_X7_joyTold hq5) rfl shC_93 rfl rfl (Nat.le_of_ble_eq_true rfl) (by rfl) (Nat.le_of_ble_eq_true rfl) (Nat.le_of_ble_eq_true rfl) (Nat.le_of_ble_eq_true rfl) ?_
  refine ev_iadd dX7_liveYear_27 ?_
  refine ev_bipush (v := (-99 : Int32)) dX7_liveYear_28 (by decide) ?_
  refine ev_bipush (v := (99 : Int32)) dX7_liveYear_30 (by decide) ?_
  refine ev_cNi mv_X7_83 dX7_liveYear_32 c_X11_held rfl rfl (Nat.le_of_ble_eq_true rfl) (by rfl) (Nat.le_of_ble_eq_true rfl) (Nat.le_of_ble_eq_true rfl) (Nat.le_of_ble_eq_true rfl) ?_
  obtain ⟨hi9, h⟩ := chk_t h
  refine ev_iast (hs.2.2.2.1) hi9 dX7_liveYear_35 ?_
  refine ev_aload_n dX7_liveYear_36 rfl ?_
  refine ev_getR fr_X7_63 (hs.1) rfl dX7_liveYear_37 ?_
  refine ev_iload_n dX7_liveYear_40 rfl ?_
  obtain ⟨hi10, h⟩ := chk_t h
  refine ev_iald (hs.2.2.2.2.1) hi10 dX7_liveYear_41 ?_
  refine ev_bipush (v := (20 : Int32)) dX7_liveYear_42 (by decide) ?_
  refine ev_icmp_lt (tgt := 49) dX7_liveYear_44 (by decide) (fun hc11 => ?_) (fun hc11 => ?_)
  · replace h := ite_t hc11 h
    refine ev_bipush (v := (100 : Int32)) dX7_liveYear_49 (by decide) ?_
    refine ev_iconst (v := (5 : Int32)) dX7_liveYear_51 (by decide) ?_
    refine ev_aload_n dX7_liveYear_52 rfl ?_
    refine ev_getR fr_X7_66 (hs.1) rfl dX7_liveYear_53 ?_
    refine ev_iload_n dX7_liveYear_56 rfl ?_
    obtain ⟨hi12, h⟩ := chk_t h
    refine ev_iald (hs.2.2.2.1) hi12 dX7_liveYear_57 ?_
    refine ev_imul dX7_liveYear_58 ?_
    refine ev_iadd dX7_liveYear_59 ?_
    refine ev_iconst (v := (0 : Int32)) dX7_liveYear_60 (by decide) ?_
    refine ev_sipush (v := (1000 : Int32)) dX7_liveYear_61 (by decide) ?_
    refine ev_cNi mv_X7_83 dX7_liveYear_64 c_X11_held rfl rfl (Nat.le_of_ble_eq_true rfl) (by rfl) (Nat.le_of_ble_eq_true rfl) (Nat.le_of_ble_eq_true rfl) (Nat.le_of_ble_eq_true rfl) ?_
    refine ev_istore (loc' := [_, _, _, _, _, _]) dX7_liveYear_67 rfl (by decide) (by rfl) ?_
    refine ev_iload_n dX7_liveYear_69 rfl ?_
    refine ev_if_eq (tgt := 89) dX7_liveYear_70 (by decide) (fun hc13 => ?_) (fun hc13 => ?_)
    · replace h := ite_t hc13 h
      refine ev_aload_n dX7_liveYear_89 rfl ?_
      obtain ⟨w16, m15, hq14, h⟩ := bndE_t h
      refine ev_cVi mv_X7_121 dX7_liveYear_90 (c_X8_drawOfThousand hs hq14) rfl (hs.1) rfl rfl (Nat.le_of_ble_eq_true rfl) (by rfl) (Nat.le_of_ble_eq_true rfl) (Nat.le_of_ble_eq_true rfl) (Nat.le_of_ble_eq_true rfl) ?_
      refine ev_iload dX7_liveYear_93 rfl ?_
      refine ev_icmp_ge (tgt := 102) dX7_liveYear_95 (by decide) (fun hc17 => ?_) (fun hc17 => ?_)
      · replace h := ite_t hc17 h
        refine ev_iconst (v := (0 : Int32)) dX7_liveYear_102 (by decide) ?_
        exact ev_lt (f_X7_liveYear_j103_ok hs h) ⟨rfl, ⟨rfl, ⟨rfl, ⟨rfl, trivial⟩⟩⟩⟩
      · replace h := ite_f hc17 h
        refine ev_iconst (v := (1 : Int32)) dX7_liveYear_98 (by decide) ?_
        refine ev_goto (tgt := 103) dX7_liveYear_99 (by decide) ?_
        exact ev_lt (f_X7_liveYear_j103_ok hs h) ⟨rfl, ⟨rfl, ⟨rfl, ⟨rfl, trivial⟩⟩⟩⟩
    · replace h := ite_f hc13 h
      refine ev_iload dX7_liveYear_73 rfl ?_
      refine ev_sipush (v := (500 : Int32)) dX7_liveYear_75 (by decide) ?_
      refine ev_icmp_lt (tgt := 85) dX7_liveYear_78 (by decide) (fun hc27 => ?_) (fun hc27 => ?_)
      · replace h := ite_t hc27 h
        refine ev_iconst (v := (0 : Int32)) dX7_liveYear_85 (by decide) ?_
        refine ev_goto (tgt := 103) dX7_liveYear_86 (by decide) ?_
        exact ev_lt (f_X7_liveYear_j103_ok hs h) ⟨rfl, ⟨rfl, ⟨rfl, ⟨rfl, trivial⟩⟩⟩⟩
      · replace h := ite_f hc27 h
        refine ev_iconst (v := (1 : Int32)) dX7_liveYear_81 (by decide) ?_
        refine ev_goto (tgt := 103) dX7_liveYear_82 (by decide) ?_
        exact ev_lt (f_X7_liveYear_j103_ok hs h) ⟨rfl, ⟨rfl, ⟨rfl, ⟨rfl, trivial⟩⟩⟩⟩
  · replace h := ite_f hc11 h
    refine ev_iconst (v := (0 : Int32)) dX7_liveYear_47 (by decide) ?_
    exact ev_iret rfl rfl (by decide) (by decide) dX7_liveYear_48 (eqP_E h)
def f_X7_passYear_j156 (G : Nat) (s : Nat) (r11 : Int32 → Int32 → Mem → Option (Int32 × Mem)) (k11_162 : Int32 → Mem → Option (Int32 × Mem)) (v2 v4 : Int32) (μ : Mem) : Option (Int32 × Mem) :=
  r11 v2 (v4 + (1 : Int32)) μ
set_option maxHeartbeats 4000000 in
set_option maxRecDepth 100000 in
theorem f_X7_passYear_j156_ok {bb : Bool} {G : Nat} {s : Nat} {r : Int32} {μr : Mem} (hs : At_X8 (shC bb) s) {r11 : Int32 → Int32 → Mem → Option (Int32 × Mem)} {k11_162 : Int32 → Mem → Option (Int32 × Mem)} (hr11 : ∀ (v2 : Int32) (v4 : Int32) (m : Mem), r11 v2 v4 m = some (r, μr) → Ev RX7 cX7_passYear 10 (some .int) false 7 0 0 (eqP (some r) (shC bb) μr) 11 [some (.ref 93), some (.ref s), some (.int v2), some (.ref 22), some (.int v4), none, none, none, none, none] [] (shC bb) m 0 0) (hk11_162 : ∀ (v2 : Int32) (m : Mem), k11_162 v2 m = some (r, μr) → Ev RX7 cX7_passYear 10 (some .int) false 7 0 0 (eqP (some r) (shC bb) μr) 162 [some (.ref 93), some (.ref s), some (.int v2), none, none, none, none, none, none, none] [] (shC bb) m 0 0) {v2 v4 : Int32} {μ : Mem} (h : f_X7_passYear_j156 G s r11 k11_162 v2 v4 μ = some (r, μr)) : Ev RX7 cX7_passYear 10 (some .int) false 7 0 0 (eqP (some r) (shC bb) μr) 156 [some (.ref 93), some (.ref s), some (.int v2), some (.ref 22), some (.int v4), none, none, none, none, none] [] (shC bb) μ 0 0 := by
  unfold f_X7_passYear_j156 at h
  refine ev_iinc (cq := (1 : Int32)) (loc' := [_, _, _, _, _, _, _, _, _, _]) dX7_passYear_156 rfl (by decide) rfl (by decide) (by rfl) ?_
  refine ev_goto (tgt := 11) dX7_passYear_159 (by decide) ?_
  exact ev_lt (hr11 _ _ _ h) ⟨rfl, ⟨rfl, ⟨rfl, ⟨rfl, ⟨rfl, trivial⟩⟩⟩⟩⟩
def f_X7_passYear_L11 (G : Nat) (s : Nat) (k11_162 : Int32 → Mem → Option (Int32 × Mem)) : Nat → Int32 → Int32 → Mem → Option (Int32 × Mem)
  | 0, _, _, _ => none
  | g + 1, v2, v4, μ =>
  (if (μ 22 3) ≤ v4 then
  k11_162 v2 μ
  else
  bndO (f_X2_at G 22 96 μ v4 (0 : Int32)) (fun w3 =>
  (if w3 = (μ s 5) then
  bndO (f_X2_at G 22 96 μ v4 (1 : Int32)) (fun w6 =>
  bndO (f_X2_at G 22 96 μ v4 (2 : Int32)) (fun w8 =>
  bndO (f_X2_at G 22 96 μ v4 (3 : Int32)) (fun w10 =>
  bndO (f_X2_at G 22 96 μ v4 (4 : Int32)) (fun w12 =>
  bndO (f_X2_at G 22 96 μ v4 (5 : Int32)) (fun w14 =>
  (if w6 = (10021 : Int32) then
  (let m25 := wr μ s 7 ((μ s 7) ||| (sl (1 : Int32) w8))
  f_X7_passYear_j156 G s (f_X7_passYear_L11 G s k11_162 g) k11_162 v2 v4 m25)
  else
  (if w6 = (10022 : Int32) then
  bndV (f_X7_parting G s w8 v2 μ) (fun m24 =>
  f_X7_passYear_j156 G s (f_X7_passYear_L11 G s k11_162 g) k11_162 v2 v4 m24)
  else
  bndO (f_X7_canWed G s μ w8 w10 w12 w14) (fun w18 =>
  (if w18 = (0 : Int32) then
  f_X7_passYear_j156 G s (f_X7_passYear_L11 G s k11_162 g) k11_162 v2 v4 μ
  else
  bndE (f_X7_wedding G s w8 w10 w12 w14 v2 μ) (fun w22 m21 =>
  f_X7_passYear_j156 G s (f_X7_passYear_L11 G s k11_162 g) k11_162 v2 v4 m21))))))))))
  else
  f_X7_passYear_j156 G s (f_X7_passYear_L11 G s k11_162 g) k11_162 v2 v4 μ)))
set_option maxHeartbeats 4000000 in
set_option maxRecDepth 100000 in
theorem f_X7_passYear_L11_ok {bb : Bool} {G : Nat} {s : Nat} {r : Int32} {μr : Mem} (hs : At_X8 (shC bb) s) {k11_162 : Int32 → Mem → Option (Int32 × Mem)} (hk11_162 : ∀ (v2 : Int32) (m : Mem), k11_162 v2 m = some (r, μr) → Ev RX7 cX7_passYear 10 (some .int) false 7 0 0 (eqP (some r) (shC bb) μr) 162 [some (.ref 93), some (.ref s), some (.int v2), none, none, none, none, none, none, none] [] (shC bb) m 0 0) : ∀ (g : Nat) (v2 v4 : Int32) (μ : Mem), f_X7_passYear_L11 G s k11_162 g v2 v4 μ = some (r, μr) → Ev RX7 cX7_passYear 10 (some .int) false 7 0 0 (eqP (some r) (shC bb) μr) 11 [some (.ref 93), some (.ref s), some (.int v2), some (.ref 22), some (.int v4), none, none, none, none, none] [] (shC bb) μ 0 0 := by
  intro g
  induction g with
  | zero =>
    intro v2 v4 μ h
    cases h
  | succ g ih =>
    intro v2 v4 μ h
    rw [f_X7_passYear_L11] at h
    refine ev_iload dX7_passYear_11 rfl ?_
    refine ev_aload_n dX7_passYear_13 rfl ?_
    refine ev_getI fr_X7_143 shC_22 rfl dX7_passYear_14 ?_
    refine ev_icmp_ge (tgt := 162) dX7_passYear_17 (by decide) (fun hc1 => ?_) (fun hc1 => ?_)
    · replace h := ite_t hc1 h
      exact ev_lt (hk11_162 _ _ h) ⟨rfl, ⟨rfl, ⟨rfl, trivial⟩⟩⟩
    · replace h := ite_f hc1 h
      refine ev_aload_n dX7_passYear_20 rfl ?_
      refine ev_iload dX7_passYear_21 rfl ?_
      refine ev_iconst (v := (0 : Int32)) dX7_passYear_23 (by decide) ?_
      obtain ⟨w3, hq2, h⟩ := bndO_t h
      refine ev_cVi mv_X7_110 dX7_passYear_24 (c_X2_at atC_22 hq2) rfl shC_22 rfl rfl (Nat.le_of_ble_eq_true rfl) (by rfl) (Nat.le_of_ble_eq_true rfl) (Nat.le_of_ble_eq_true rfl) (Nat.le_of_ble_eq_true rfl) ?_
      refine ev_aload_n dX7_passYear_27 rfl ?_
      refine ev_getI fr_X7_57 (hs.1) rfl dX7_passYear_28 ?_
      refine ev_icmp_eq (tgt := 37) dX7_passYear_31 (by decide) (fun hc4 => ?_) (fun hc4 => ?_)
      · replace h := ite_t hc4 h
        refine ev_aload_n dX7_passYear_37 rfl ?_
        refine ev_iload dX7_passYear_38 rfl ?_
        refine ev_iconst (v := (1 : Int32)) dX7_passYear_40 (by decide) ?_
        obtain ⟨w6, hq5, h⟩ := bndO_t h
        refine ev_cVi mv_X7_110 dX7_passYear_41 (c_X2_at atC_22 hq5) rfl shC_22 rfl rfl (Nat.le_of_ble_eq_true rfl) (by rfl) (Nat.le_of_ble_eq_true rfl) (Nat.le_of_ble_eq_true rfl) (Nat.le_of_ble_eq_true rfl) ?_
        refine ev_istore (loc' := [_, _, _, _, _, _, _, _, _, _]) dX7_passYear_44 rfl (by decide) (by rfl) ?_
        refine ev_aload_n dX7_passYear_46 rfl ?_
        refine ev_iload dX7_passYear_47 rfl ?_
        refine ev_iconst (v := (2 : Int32)) dX7_passYear_49 (by decide) ?_
        obtain ⟨w8, hq7, h⟩ := bndO_t h
        refine ev_cVi mv_X7_110 dX7_passYear_50 (c_X2_at atC_22 hq7) rfl shC_22 rfl rfl (Nat.le_of_ble_eq_true rfl) (by rfl) (Nat.le_of_ble_eq_true rfl) (Nat.le_of_ble_eq_true rfl) (Nat.le_of_ble_eq_true rfl) ?_
        refine ev_istore (loc' := [_, _, _, _, _, _, _, _, _, _]) dX7_passYear_53 rfl (by decide) (by rfl) ?_
        refine ev_aload_n dX7_passYear_55 rfl ?_
        refine ev_iload dX7_passYear_56 rfl ?_
        refine ev_iconst (v := (3 : Int32)) dX7_passYear_58 (by decide) ?_
        obtain ⟨w10, hq9, h⟩ := bndO_t h
        refine ev_cVi mv_X7_110 dX7_passYear_59 (c_X2_at atC_22 hq9) rfl shC_22 rfl rfl (Nat.le_of_ble_eq_true rfl) (by rfl) (Nat.le_of_ble_eq_true rfl) (Nat.le_of_ble_eq_true rfl) (Nat.le_of_ble_eq_true rfl) ?_
        refine ev_istore (loc' := [_, _, _, _, _, _, _, _, _, _]) dX7_passYear_62 rfl (by decide) (by rfl) ?_
        refine ev_aload_n dX7_passYear_64 rfl ?_
        refine ev_iload dX7_passYear_65 rfl ?_
        refine ev_iconst (v := (4 : Int32)) dX7_passYear_67 (by decide) ?_
        obtain ⟨w12, hq11, h⟩ := bndO_t h
        refine ev_cVi mv_X7_110 dX7_passYear_68 (c_X2_at atC_22 hq11) rfl shC_22 rfl rfl (Nat.le_of_ble_eq_true rfl) (by rfl) (Nat.le_of_ble_eq_true rfl) (Nat.le_of_ble_eq_true rfl) (Nat.le_of_ble_eq_true rfl) ?_
        refine ev_istore (loc' := [_, _, _, _, _, _, _, _, _, _]) dX7_passYear_71 rfl (by decide) (by rfl) ?_
        refine ev_aload_n dX7_passYear_73 rfl ?_
        refine ev_iload dX7_passYear_74 rfl ?_
        refine ev_iconst (v := (5 : Int32)) dX7_passYear_76 (by decide) ?_
        obtain ⟨w14, hq13, h⟩ := bndO_t h
        refine ev_cVi mv_X7_110 dX7_passYear_77 (c_X2_at atC_22 hq13) rfl shC_22 rfl rfl (Nat.le_of_ble_eq_true rfl) (by rfl) (Nat.le_of_ble_eq_true rfl) (Nat.le_of_ble_eq_true rfl) (Nat.le_of_ble_eq_true rfl) ?_
        refine ev_istore (loc' := [_, _, _, _, _, _, _, _, _, _]) dX7_passYear_80 rfl (by decide) (by rfl) ?_
        refine ev_iload dX7_passYear_82 rfl ?_
        refine ev_sipush (v := (10021 : Int32)) dX7_passYear_84 (by decide) ?_
        refine ev_icmp_ne (tgt := 106) dX7_passYear_87 (by decide) (fun hc15 => ?_) (fun hc15 => ?_)
        · replace h := ite_f hc15 h
          refine ev_iload dX7_passYear_106 rfl ?_
          refine ev_sipush (v := (10022 : Int32)) dX7_passYear_108 (by decide) ?_
          refine ev_icmp_ne (tgt := 125) dX7_passYear_111 (by decide) (fun hc16 => ?_) (fun hc16 => ?_)
          · replace h := ite_f hc16 h
            refine ev_aload_n dX7_passYear_125 rfl ?_
            refine ev_aload_n dX7_passYear_126 rfl ?_
            refine ev_iload dX7_passYear_127 rfl ?_
            refine ev_iload dX7_passYear_129 rfl ?_
            refine ev_iload dX7_passYear_131 rfl ?_
            refine ev_iload dX7_passYear_133 rfl ?_
            obtain ⟨w18, hq17, h⟩ := bndO_t h
            refine ev_cVi mv_X7_172 dX7_passYear_135 (c_X7_canWed hs hq17) rfl shC_93 rfl rfl (Nat.le_of_ble_eq_true rfl) (by rfl) (Nat.le_of_ble_eq_true rfl) (Nat.le_of_ble_eq_true rfl) (Nat.le_of_ble_eq_true rfl) ?_
            refine ev_if_eq (tgt := 156) dX7_passYear_138 (by decide) (fun hc19 => ?_) (fun hc19 => ?_)
            · replace h := ite_t hc19 h
              exact ev_lt (f_X7_passYear_j156_ok hs ih hk11_162 h) ⟨rfl, ⟨rfl, ⟨rfl, ⟨rfl, ⟨rfl, trivial⟩⟩⟩⟩⟩
            · replace h := ite_f hc19 h
              refine ev_aload_n dX7_passYear_141 rfl ?_
              refine ev_aload_n dX7_passYear_142 rfl ?_
              refine ev_iload dX7_passYear_143 rfl ?_
              refine ev_iload dX7_passYear_145 rfl ?_
              refine ev_iload dX7_passYear_147 rfl ?_
              refine ev_iload dX7_passYear_149 rfl ?_
              refine ev_iload_n dX7_passYear_151 rfl ?_
              obtain ⟨w22, m21, hq20, h⟩ := bndE_t h
              refine ev_cVi mv_X7_176 dX7_passYear_152 (c_X7_wedding hs hq20) rfl shC_93 rfl rfl (Nat.le_of_ble_eq_true rfl) (by rfl) (Nat.le_of_ble_eq_true rfl) (Nat.le_of_ble_eq_true rfl) (Nat.le_of_ble_eq_true rfl) ?_
              refine ev_pop dX7_passYear_155 (by rfl) ?_
              exact ev_lt (f_X7_passYear_j156_ok hs ih hk11_162 h) ⟨rfl, ⟨rfl, ⟨rfl, ⟨rfl, ⟨rfl, trivial⟩⟩⟩⟩⟩
          · replace h := ite_t hc16 h
            refine ev_aload_n dX7_passYear_114 rfl ?_
            refine ev_aload_n dX7_passYear_115 rfl ?_
            refine ev_iload dX7_passYear_116 rfl ?_
            refine ev_iload_n dX7_passYear_118 rfl ?_
            obtain ⟨m24, hq23, h⟩ := bndV_t h
            refine ev_cVv mv_X7_168 dX7_passYear_119 (c_X7_parting hs hq23) rfl shC_93 rfl rfl (Nat.le_of_ble_eq_true rfl) (by rfl) (Nat.le_of_ble_eq_true rfl) (Nat.le_of_ble_eq_true rfl) (Nat.le_of_ble_eq_true rfl) ?_
            refine ev_goto (tgt := 156) dX7_passYear_122 (by decide) ?_
            exact ev_lt (f_X7_passYear_j156_ok hs ih hk11_162 h) ⟨rfl, ⟨rfl, ⟨rfl, ⟨rfl, ⟨rfl, trivial⟩⟩⟩⟩⟩
        · replace h := ite_t hc15 h
          refine ev_aload_n dX7_passYear_90 rfl ?_
          refine ev_dup dX7_passYear_91 (by rfl) ?_
          refine ev_getI fr_X7_153 (hs.1) rfl dX7_passYear_92 ?_
          refine ev_iconst (v := (1 : Int32)) dX7_passYear_95 (by decide) ?_
          refine ev_iload dX7_passYear_96 rfl ?_
          refine ev_ishl dX7_passYear_98 ?_
          refine ev_ior dX7_passYear_99 ?_
          refine ev_putI fr_X7_153 (hs.1) rfl rfl rfl dX7_passYear_100 ?_
          refine ev_goto (tgt := 156) dX7_passYear_103 (by decide) ?_
          exact ev_lt (f_X7_passYear_j156_ok hs ih hk11_162 h) ⟨rfl, ⟨rfl, ⟨rfl, ⟨rfl, ⟨rfl, trivial⟩⟩⟩⟩⟩
      · replace h := ite_f hc4 h
        refine ev_goto (tgt := 156) dX7_passYear_34 (by decide) ?_
        exact ev_lt (f_X7_passYear_j156_ok hs ih hk11_162 h) ⟨rfl, ⟨rfl, ⟨rfl, ⟨rfl, ⟨rfl, trivial⟩⟩⟩⟩⟩
def f_X7_passYear_j212 (G : Nat) (s : Nat) (r168 : Int32 → Int32 → Int32 → Mem → Option (Int32 × Mem)) (v2 v4 v5 : Int32) (μ : Mem) : Option (Int32 × Mem) :=
  r168 v2 v4 (v5 + (1 : Int32)) μ
set_option maxHeartbeats 4000000 in
set_option maxRecDepth 100000 in
theorem f_X7_passYear_j212_ok {bb : Bool} {G : Nat} {s : Nat} {r : Int32} {μr : Mem} (hs : At_X8 (shC bb) s) {r168 : Int32 → Int32 → Int32 → Mem → Option (Int32 × Mem)} (hr168 : ∀ (v2 : Int32) (v4 : Int32) (v5 : Int32) (m : Mem), r168 v2 v4 v5 m = some (r, μr) → Ev RX7 cX7_passYear 10 (some .int) false 7 0 0 (eqP (some r) (shC bb) μr) 168 [some (.ref 93), some (.ref s), some (.int v2), none, some (.int v4), some (.int v5), none, none, none, none] [] (shC bb) m 0 0) {v2 v4 v5 : Int32} {μ : Mem} (h : f_X7_passYear_j212 G s r168 v2 v4 v5 μ = some (r, μr)) : Ev RX7 cX7_passYear 10 (some .int) false 7 0 0 (eqP (some r) (shC bb) μr) 212 [some (.ref 93), some (.ref s), some (.int v2), none, some (.int v4), some (.int v5), none, none, none, none] [] (shC bb) μ 0 0 := by
  unfold f_X7_passYear_j212 at h
  refine ev_iinc (cq := (1 : Int32)) (loc' := [_, _, _, _, _, _, _, _, _, _]) dX7_passYear_212 rfl (by decide) rfl (by decide) (by rfl) ?_
  refine ev_goto (tgt := 168) dX7_passYear_215 (by decide) ?_
  exact ev_lt (hr168 _ _ _ _ h) ⟨rfl, ⟨rfl, ⟨rfl, ⟨rfl, ⟨rfl, trivial⟩⟩⟩⟩⟩
def f_X7_passYear_L168 (G : Nat) (s : Nat)  : Nat → Int32 → Int32 → Int32 → Mem → Option (Int32 × Mem)
  | 0, _, _, _, _ => none
  | g + 1, v2, v4, v5, μ =>
  (if (μ 1 7) ≤ v5 then
  (let m27 := wr μ s 5 ((μ s 5) + (1 : Int32))
  some (v4, m27))
  else
  (if (8 : Int32) ≤ v5 then
  (let m29 := wr μ s 5 ((μ s 5) + (1 : Int32))
  some (v4, m29))
  else
  chk v5 8 ((if (μ (s + 2) (ix v5)) = (-1 : Int32) then
  f_X7_passYear_j212 G s (f_X7_passYear_L168 G s g) v2 v4 v5 μ
  else
  bndE (f_X7_liveYear G s v5 v2 μ) (fun w34 m33 =>
  (if w34 = (0 : Int32) then
  f_X7_passYear_j212 G s (f_X7_passYear_L168 G s g) v2 v4 v5 m33
  else
  f_X7_passYear_j212 G s (f_X7_passYear_L168 G s g) v2 (v4 + (1 : Int32)) v5 m33))))))
set_option maxHeartbeats 4000000 in
set_option maxRecDepth 100000 in
theorem f_X7_passYear_L168_ok {bb : Bool} {G : Nat} {s : Nat} {r : Int32} {μr : Mem} (hs : At_X8 (shC bb) s)   : ∀ (g : Nat) (v2 v4 v5 : Int32) (μ : Mem), f_X7_passYear_L168 G s g v2 v4 v5 μ = some (r, μr) → Ev RX7 cX7_passYear 10 (some .int) false 7 0 0 (eqP (some r) (shC bb) μr) 168 [some (.ref 93), some (.ref s), some (.int v2), none, some (.int v4), some (.int v5), none, none, none, none] [] (shC bb) μ 0 0 := by
  intro g
  induction g with
  | zero =>
    intro v2 v4 v5 μ h
    cases h
  | succ g ih =>
    intro v2 v4 v5 μ h
    rw [f_X7_passYear_L168] at h
    refine ev_iload dX7_passYear_168 rfl ?_
    refine ev_aload_n dX7_passYear_170 rfl ?_
    refine ev_getR fr_X7_29 shC_93 rfl dX7_passYear_171 ?_
    refine ev_getI fr_X7_180 shC_1 rfl dX7_passYear_174 ?_
    refine ev_icmp_ge (tgt := 218) dX7_passYear_177 (by decide) (fun hc26 => ?_) (fun hc26 => ?_)
    · replace h := ite_t hc26 h
      refine ev_aload_n dX7_passYear_218 rfl ?_
      refine ev_dup dX7_passYear_219 (by rfl) ?_
      refine ev_getI fr_X7_57 (hs.1) rfl dX7_passYear_220 ?_
      refine ev_iconst (v := (1 : Int32)) dX7_passYear_223 (by decide) ?_
      refine ev_iadd dX7_passYear_224 ?_
      refine ev_putI fr_X7_57 (hs.1) rfl rfl rfl dX7_passYear_225 ?_
      refine ev_iload dX7_passYear_228 rfl ?_
      exact ev_iret rfl rfl (by decide) (by decide) dX7_passYear_230 (eqP_E h)
    · replace h := ite_f hc26 h
      refine ev_iload dX7_passYear_180 rfl ?_
      refine ev_bipush (v := (8 : Int32)) dX7_passYear_182 (by decide) ?_
      refine ev_icmp_ge (tgt := 218) dX7_passYear_184 (by decide) (fun hc28 => ?_) (fun hc28 => ?_)
      · replace h := ite_t hc28 h
        refine ev_aload_n dX7_passYear_218 rfl ?_
        refine ev_dup dX7_passYear_219 (by rfl) ?_
        refine ev_getI fr_X7_57 (hs.1) rfl dX7_passYear_220 ?_
        refine ev_iconst (v := (1 : Int32)) dX7_passYear_223 (by decide) ?_
        refine ev_iadd dX7_passYear_224 ?_
        refine ev_putI fr_X7_57 (hs.1) rfl rfl rfl dX7_passYear_225 ?_
        refine ev_iload dX7_passYear_228 rfl ?_
        exact ev_iret rfl rfl (by decide) (by decide) dX7_passYear_230 (eqP_E h)
      · replace h := ite_f hc28 h
        refine ev_aload_n dX7_passYear_187 rfl ?_
        refine ev_getR fr_X7_91 (hs.1) rfl dX7_passYear_188 ?_
        refine ev_iload dX7_passYear_191 rfl ?_
        obtain ⟨hi30, h⟩ := chk_t h
        refine ev_iald (hs.2.2.1) hi30 dX7_passYear_193 ?_
        refine ev_iconst (v := (-1 : Int32)) dX7_passYear_194 (by decide) ?_
        refine ev_icmp_eq (tgt := 212) dX7_passYear_195 (by decide) (fun hc31 => ?_) (fun hc31 => ?_)
        · replace h := ite_t hc31 h
          exact ev_lt (f_X7_passYear_j212_ok hs ih h) ⟨rfl, ⟨rfl, ⟨rfl, ⟨rfl, ⟨rfl, trivial⟩⟩⟩⟩⟩
        · replace h := ite_f hc31 h
          refine ev_aload_n dX7_passYear_198 rfl ?_
          refine ev_aload_n dX7_passYear_199 rfl ?_
          refine ev_iload dX7_passYear_200 rfl ?_
          refine ev_iload_n dX7_passYear_202 rfl ?_
          obtain ⟨w34, m33, hq32, h⟩ := bndE_t h
          refine ev_cVi mv_X7_183 dX7_passYear_203 (c_X7_liveYear hs hq32) rfl shC_93 rfl rfl (Nat.le_of_ble_eq_true rfl) (by rfl) (Nat.le_of_ble_eq_true rfl) (Nat.le_of_ble_eq_true rfl) (Nat.le_of_ble_eq_true rfl) ?_
          refine ev_if_eq (tgt := 212) dX7_passYear_206 (by decide) (fun hc35 => ?_) (fun hc35 => ?_)
          · replace h := ite_t hc35 h
            exact ev_lt (f_X7_passYear_j212_ok hs ih h) ⟨rfl, ⟨rfl, ⟨rfl, ⟨rfl, ⟨rfl, trivial⟩⟩⟩⟩⟩
          · replace h := ite_f hc35 h
            refine ev_iinc (cq := (1 : Int32)) (loc' := [_, _, _, _, _, _, _, _, _, _]) dX7_passYear_209 rfl (by decide) rfl (by decide) (by rfl) ?_
            exact ev_lt (f_X7_passYear_j212_ok hs ih h) ⟨rfl, ⟨rfl, ⟨rfl, ⟨rfl, ⟨rfl, trivial⟩⟩⟩⟩⟩
def f_X7_passYear_j162 (G : Nat) (s : Nat)  (v2 : Int32) (μ : Mem) : Option (Int32 × Mem) :=
  f_X7_passYear_L168 G s G v2 (0 : Int32) (0 : Int32) μ
set_option maxHeartbeats 4000000 in
set_option maxRecDepth 100000 in
theorem f_X7_passYear_j162_ok {bb : Bool} {G : Nat} {s : Nat} {r : Int32} {μr : Mem} (hs : At_X8 (shC bb) s)   {v2 : Int32} {μ : Mem} (h : f_X7_passYear_j162 G s v2 μ = some (r, μr)) : Ev RX7 cX7_passYear 10 (some .int) false 7 0 0 (eqP (some r) (shC bb) μr) 162 [some (.ref 93), some (.ref s), some (.int v2), none, none, none, none, none, none, none] [] (shC bb) μ 0 0 := by
  unfold f_X7_passYear_j162 at h
  refine ev_iconst (v := (0 : Int32)) dX7_passYear_162 (by decide) ?_
  refine ev_istore (loc' := [_, _, _, _, _, _, _, _, _, _]) dX7_passYear_163 rfl (by decide) (by rfl) ?_
  refine ev_iconst (v := (0 : Int32)) dX7_passYear_165 (by decide) ?_
  refine ev_istore (loc' := [_, _, _, _, _, _, _, _, _, _]) dX7_passYear_166 rfl (by decide) (by rfl) ?_
  exact ev_lt (f_X7_passYear_L168_ok hs _ _ _ _ _ h) ⟨rfl, ⟨rfl, ⟨rfl, ⟨rfl, ⟨rfl, trivial⟩⟩⟩⟩⟩
def f_X7_passYear (G : Nat) (s : Nat) (p1 : Int32) (μ : Mem) : Option (Int32 × Mem) :=
  f_X7_passYear_L11 G s (f_X7_passYear_j162 G s) G p1 (0 : Int32) μ
set_option maxHeartbeats 4000000 in
set_option maxRecDepth 100000 in
theorem c_X7_passYear {bb : Bool} {G : Nat} {s : Nat} {μ : Mem} {p1 : Int32} {r : Int32} {μr : Mem} (hs : At_X8 (shC bb) s) (h : f_X7_passYear G s p1 μ = some (r, μr)) : Cn yX7_passYear cX7_passYear 10 (some .int) 7 0 0 [.ref 93, .ref s, .int p1] (shC bb) μ (eqP (some r) (shC bb) μr) := by
  refine cn_of (own := RX7) (ini := false) (loc := [some (.ref 93), some (.ref s), some (.int p1), none, none, none, none, none, none, none]) rfl (by decide) (fun q => by cases q) (Nat.le_of_ble_eq_true rfl) (by rfl) rfl ?_
  unfold f_X7_passYear at h
  refine ev_aload_n dX7_passYear_0 rfl ?_
  refine ev_getR fr_X7_29 shC_93 rfl dX7_passYear_1 ?_
  refine ev_getR fr_X7_165 shC_1 rfl dX7_passYear_4 ?_
  refine ev_astore_n (loc' := [_, _, _, _, _, _, _, _, _, _]) dX7_passYear_7 rfl (by decide) (by rfl) ?_
  refine ev_iconst (v := (0 : Int32)) dX7_passYear_8 (by decide) ?_
  refine ev_istore (loc' := [_, _, _, _, _, _, _, _, _, _]) dX7_passYear_9 rfl (by decide) (by rfl) ?_
  exact ev_lt (f_X7_passYear_L11_ok hs (fun _ _ hh => f_X7_passYear_j162_ok hs hh) _ _ _ _ h) ⟨rfl, ⟨rfl, ⟨rfl, ⟨rfl, ⟨rfl, trivial⟩⟩⟩⟩⟩
def f_X7_thoughtPoints_L36 (G : Nat)  : Nat → Int32 → Int32 → Int32 → Int32 → Mem → Option (Int32 × Mem)
  | 0, _, _, _, _, _ => none
  | g + 1, v1, v3, v5, v6, μ =>
  (if (μ 20 3) ≤ v6 then
  some (v5, μ)
  else
  bndE (f_X7_answer G 2 v1 v6 v3 (1 : Int32) μ) (fun w9 m8 =>
  (f_X7_thoughtPoints_L36 G g) v1 v3 (v5 + w9) (v6 + (1 : Int32)) m8))
set_option maxHeartbeats 4000000 in
set_option maxRecDepth 100000 in
theorem f_X7_thoughtPoints_L36_ok {bb : Bool} {G : Nat} {r : Int32} {μr : Mem}    : ∀ (g : Nat) (v1 v3 v5 v6 : Int32) (μ : Mem), f_X7_thoughtPoints_L36 G g v1 v3 v5 v6 μ = some (r, μr) → Ev RX7 cX7_thoughtPoints 7 (some .int) false 6 0 0 (eqP (some r) (shC bb) μr) 36 [some (.ref 93), some (.int v1), none, some (.int v3), some (.ref 2), some (.int v5), some (.int v6)] [] (shC bb) μ 0 0 := by
  intro g
  induction g with
  | zero =>
    intro v1 v3 v5 v6 μ h
    cases h
  | succ g ih =>
    intro v1 v3 v5 v6 μ h
    rw [f_X7_thoughtPoints_L36] at h
    refine ev_iload dX7_thoughtPoints_36 rfl ?_
    refine ev_aload_n dX7_thoughtPoints_38 rfl ?_
    refine ev_getR fr_X7_29 shC_93 rfl dX7_thoughtPoints_39 ?_
    refine ev_getR fr_X7_107 shC_1 rfl dX7_thoughtPoints_42 ?_
    refine ev_getI fr_X7_143 shC_20 rfl dX7_thoughtPoints_45 ?_
    refine ev_icmp_ge (tgt := 73) dX7_thoughtPoints_48 (by decide) (fun hc6 => ?_) (fun hc6 => ?_)
    · replace h := ite_t hc6 h
      refine ev_iload dX7_thoughtPoints_73 rfl ?_
      exact ev_iret rfl rfl (by decide) (by decide) dX7_thoughtPoints_75 (eqP_E h)
    · replace h := ite_f hc6 h
      refine ev_iload dX7_thoughtPoints_51 rfl ?_
      refine ev_aload_n dX7_thoughtPoints_53 rfl ?_
      refine ev_aload dX7_thoughtPoints_54 rfl ?_
      refine ev_iload_n dX7_thoughtPoints_56 rfl ?_
      refine ev_iload dX7_thoughtPoints_57 rfl ?_
      refine ev_iload_n dX7_thoughtPoints_59 rfl ?_
      refine ev_iconst (v := (1 : Int32)) dX7_thoughtPoints_60 (by decide) ?_
      obtain ⟨w9, m8, hq7, h⟩ := bndE_t h
      refine ev_cVi mv_X7_146 dX7_thoughtPoints_61 (c_X7_answer atC_2 hq7) rfl shC_93 rfl rfl (Nat.le_of_ble_eq_true rfl) (by rfl) (Nat.le_of_ble_eq_true rfl) (Nat.le_of_ble_eq_true rfl) (Nat.le_of_ble_eq_true rfl) ?_
      refine ev_iadd dX7_thoughtPoints_64 ?_
      refine ev_istore (loc' := [_, _, _, _, _, _, _]) dX7_thoughtPoints_65 rfl (by decide) (by rfl) ?_
      refine ev_iinc (cq := (1 : Int32)) (loc' := [_, _, _, _, _, _, _]) dX7_thoughtPoints_67 rfl (by decide) rfl (by decide) (by rfl) ?_
      refine ev_goto (tgt := 36) dX7_thoughtPoints_70 (by decide) ?_
      exact ev_lt (ih _ _ _ _ _ h) ⟨rfl, ⟨rfl, ⟨rfl, ⟨rfl, ⟨rfl, ⟨rfl, trivial⟩⟩⟩⟩⟩⟩
def f_X7_thoughtPoints_j31 (G : Nat)  (v1 v3 s0 : Int32) (μ : Mem) : Option (Int32 × Mem) :=
  f_X7_thoughtPoints_L36 G G v1 v3 s0 (0 : Int32) μ
set_option maxHeartbeats 4000000 in
set_option maxRecDepth 100000 in
theorem f_X7_thoughtPoints_j31_ok {bb : Bool} {G : Nat} {r : Int32} {μr : Mem}    {v1 v3 s0 : Int32} {μ : Mem} (h : f_X7_thoughtPoints_j31 G v1 v3 s0 μ = some (r, μr)) : Ev RX7 cX7_thoughtPoints 7 (some .int) false 6 0 0 (eqP (some r) (shC bb) μr) 31 [some (.ref 93), some (.int v1), none, some (.int v3), some (.ref 2), none, none] [.int s0] (shC bb) μ 0 0 := by
  unfold f_X7_thoughtPoints_j31 at h
  refine ev_istore (loc' := [_, _, _, _, _, _, _]) dX7_thoughtPoints_31 rfl (by decide) (by rfl) ?_
  refine ev_iconst (v := (0 : Int32)) dX7_thoughtPoints_33 (by decide) ?_
  refine ev_istore (loc' := [_, _, _, _, _, _, _]) dX7_thoughtPoints_34 rfl (by decide) (by rfl) ?_
  exact ev_lt (f_X7_thoughtPoints_L36_ok _ _ _ _ _ _ h) ⟨rfl, ⟨rfl, ⟨rfl, ⟨rfl, ⟨rfl, ⟨rfl, trivial⟩⟩⟩⟩⟩⟩
def f_X7_thoughtPoints (G : Nat) (p1 p2 p3 : Int32) (μ : Mem) : Option (Int32 × Mem) :=
  chk p3 3 (let m1 := wr μ 95 (ix p3) p2
  bndO (f_X8_isToCough G 2 m1 p2) (fun w4 =>
  (if w4 = (0 : Int32) then
  f_X7_thoughtPoints_j31 G p1 p3 (0 : Int32) m1
  else
  f_X7_thoughtPoints_j31 G p1 p3 (10 : Int32) m1)))
set_option maxHeartbeats 4000000 in
set_option maxRecDepth 100000 in
theorem c_X7_thoughtPoints {bb : Bool} {G : Nat} {μ : Mem} {p1 p2 p3 : Int32} {r : Int32} {μr : Mem}  (h : f_X7_thoughtPoints G p1 p2 p3 μ = some (r, μr)) : Cn yX7_thoughtPoints cX7_thoughtPoints 7 (some .int) 6 0 0 [.ref 93, .int p1, .int p2, .int p3] (shC bb) μ (eqP (some r) (shC bb) μr) := by
  refine cn_of (own := RX7) (ini := false) (loc := [some (.ref 93), some (.int p1), some (.int p2), some (.int p3), none, none, none]) rfl (by decide) (fun q => by cases q) (Nat.le_of_ble_eq_true rfl) (by rfl) rfl ?_
  unfold f_X7_thoughtPoints at h
  refine ev_aload_n dX7_thoughtPoints_0 rfl ?_
  refine ev_getR fr_X7_29 shC_93 rfl dX7_thoughtPoints_1 ?_
  refine ev_getR fr_X7_190 shC_1 rfl dX7_thoughtPoints_4 ?_
  refine ev_astore (loc' := [_, _, _, _, _, _, _]) dX7_thoughtPoints_7 rfl (by decide) (by rfl) ?_
  refine ev_aload_n dX7_thoughtPoints_9 rfl ?_
  refine ev_getR fr_X7_17 shC_93 rfl dX7_thoughtPoints_10 ?_
  refine ev_iload_n dX7_thoughtPoints_13 rfl ?_
  refine ev_iload_n dX7_thoughtPoints_14 rfl ?_
  obtain ⟨hi2, h⟩ := chk_t h
  refine ev_iast shC_95 hi2 dX7_thoughtPoints_15 ?_
  refine ev_aload dX7_thoughtPoints_16 rfl ?_
  refine ev_iload_n dX7_thoughtPoints_18 rfl ?_
  obtain ⟨w4, hq3, h⟩ := bndO_t h
  refine ev_cVi mv_X7_150 dX7_thoughtPoints_19 (c_X8_isToCough atC_2 hq3) rfl shC_2 rfl rfl (Nat.le_of_ble_eq_true rfl) (by rfl) (Nat.le_of_ble_eq_true rfl) (Nat.le_of_ble_eq_true rfl) (Nat.le_of_ble_eq_true rfl) ?_
  refine ev_if_eq (tgt := 30) dX7_thoughtPoints_22 (by decide) (fun hc5 => ?_) (fun hc5 => ?_)
  · replace h := ite_t hc5 h
    refine ev_iconst (v := (0 : Int32)) dX7_thoughtPoints_30 (by decide) ?_
    exact ev_lt (f_X7_thoughtPoints_j31_ok h) ⟨rfl, ⟨rfl, ⟨rfl, ⟨rfl, trivial⟩⟩⟩⟩
  · replace h := ite_f hc5 h
    refine ev_bipush (v := (10 : Int32)) dX7_thoughtPoints_25 (by decide) ?_
    refine ev_goto (tgt := 31) dX7_thoughtPoints_27 (by decide) ?_
    exact ev_lt (f_X7_thoughtPoints_j31_ok h) ⟨rfl, ⟨rfl, ⟨rfl, ⟨rfl, trivial⟩⟩⟩⟩
def f_X7_wouldTake (G : Nat) (p1 p2 p3 p4 p5 : Int32) (μ : Mem) : Option (Int32 × Mem) :=
  bndE (f_X7_thoughtPoints G p1 p2 (0 : Int32) μ) (fun w3 m2 =>
  (let m4 := wr m2 96 0 w3
  bndE (f_X7_thoughtPoints G p1 p3 (1 : Int32) m4) (fun w7 m6 =>
  (let m8 := wr m6 96 1 w7
  bndE (f_X7_thoughtPoints G p1 p4 (2 : Int32) m8) (fun w11 m10 =>
  (let m12 := wr m10 96 2 w11
  bndO (f_X7_landauWithMost G m12) (fun w14 =>
  (if p5 = (0 : Int32) then
  chk w14 3 (some ((m12 95 (ix w14)), m12))
  else
  chk w14 3 (some ((m12 96 (ix w14)), m12))))))))))
set_option maxHeartbeats 4000000 in
set_option maxRecDepth 100000 in
theorem c_X7_wouldTake {bb : Bool} {G : Nat} {μ : Mem} {p1 p2 p3 p4 p5 : Int32} {r : Int32} {μr : Mem}  (h : f_X7_wouldTake G p1 p2 p3 p4 p5 μ = some (r, μr)) : Cn yX7_wouldTake cX7_wouldTake 7 (some .int) 7 0 0 [.ref 93, .int p1, .int p2, .int p3, .int p4, .int p5] (shC bb) μ (eqP (some r) (shC bb) μr) := by
  refine cn_of (own := RX7) (ini := false) (loc := [some (.ref 93), some (.int p1), some (.int p2), some (.int p3), some (.int p4), some (.int p5), none]) rfl (by decide) (fun q => by cases q) (Nat.le_of_ble_eq_true rfl) (by rfl) rfl ?_
  unfold f_X7_wouldTake at h
  refine ev_aload_n dX7_wouldTake_0 rfl ?_
  refine ev_getR fr_X7_20 shC_93 rfl dX7_wouldTake_1 ?_
  refine ev_iconst (v := (0 : Int32)) dX7_wouldTake_4 (by decide) ?_
  refine ev_aload_n dX7_wouldTake_5 rfl ?_
  refine ev_iload_n dX7_wouldTake_6 rfl ?_
  refine ev_iload_n dX7_wouldTake_7 rfl ?_
  refine ev_iconst (v := (0 : Int32)) dX7_wouldTake_8 (by decide) ?_
  obtain ⟨w3, m2, hq1, h⟩ := bndE_t h
  refine ev_cVi mv_X7_194 dX7_wouldTake_9 (c_X7_thoughtPoints hq1) rfl shC_93 rfl rfl (Nat.le_of_ble_eq_true rfl) (by rfl) (Nat.le_of_ble_eq_true rfl) (Nat.le_of_ble_eq_true rfl) (Nat.le_of_ble_eq_true rfl) ?_
  refine ev_iastL (j := 0) shC_96 (by decide) (vpl _ _ (by decide)) dX7_wouldTake_12 ?_
  refine ev_aload_n dX7_wouldTake_13 rfl ?_
  refine ev_getR fr_X7_20 shC_93 rfl dX7_wouldTake_14 ?_
  refine ev_iconst (v := (1 : Int32)) dX7_wouldTake_17 (by decide) ?_
  refine ev_aload_n dX7_wouldTake_18 rfl ?_
  refine ev_iload_n dX7_wouldTake_19 rfl ?_
  refine ev_iload_n dX7_wouldTake_20 rfl ?_
  refine ev_iconst (v := (1 : Int32)) dX7_wouldTake_21 (by decide) ?_
  obtain ⟨w7, m6, hq5, h⟩ := bndE_t h
  refine ev_cVi mv_X7_194 dX7_wouldTake_22 (c_X7_thoughtPoints hq5) rfl shC_93 rfl rfl (Nat.le_of_ble_eq_true rfl) (by rfl) (Nat.le_of_ble_eq_true rfl) (Nat.le_of_ble_eq_true rfl) (Nat.le_of_ble_eq_true rfl) ?_
  refine ev_iastL (j := 1) shC_96 (by decide) (vpl _ _ (by decide)) dX7_wouldTake_25 ?_
  refine ev_aload_n dX7_wouldTake_26 rfl ?_
  refine ev_getR fr_X7_20 shC_93 rfl dX7_wouldTake_27 ?_
  refine ev_iconst (v := (2 : Int32)) dX7_wouldTake_30 (by decide) ?_
  refine ev_aload_n dX7_wouldTake_31 rfl ?_
  refine ev_iload_n dX7_wouldTake_32 rfl ?_
  refine ev_iload dX7_wouldTake_33 rfl ?_
  refine ev_iconst (v := (2 : Int32)) dX7_wouldTake_35 (by decide) ?_
  obtain ⟨w11, m10, hq9, h⟩ := bndE_t h
  refine ev_cVi mv_X7_194 dX7_wouldTake_36 (c_X7_thoughtPoints hq9) rfl shC_93 rfl rfl (Nat.le_of_ble_eq_true rfl) (by rfl) (Nat.le_of_ble_eq_true rfl) (Nat.le_of_ble_eq_true rfl) (Nat.le_of_ble_eq_true rfl) ?_
  refine ev_iastL (j := 2) shC_96 (by decide) (vpl _ _ (by decide)) dX7_wouldTake_39 ?_
  refine ev_aload_n dX7_wouldTake_40 rfl ?_
  obtain ⟨w14, hq13, h⟩ := bndO_t h
  refine ev_cVi mv_X7_156 dX7_wouldTake_41 (c_X7_landauWithMost hq13) rfl shC_93 rfl rfl (Nat.le_of_ble_eq_true rfl) (by rfl) (Nat.le_of_ble_eq_true rfl) (Nat.le_of_ble_eq_true rfl) (Nat.le_of_ble_eq_true rfl) ?_
  refine ev_istore (loc' := [_, _, _, _, _, _, _]) dX7_wouldTake_44 rfl (by decide) (by rfl) ?_
  refine ev_iload dX7_wouldTake_46 rfl ?_
  refine ev_if_eq (tgt := 61) dX7_wouldTake_48 (by decide) (fun hc15 => ?_) (fun hc15 => ?_)
  · replace h := ite_t hc15 h
    refine ev_aload_n dX7_wouldTake_61 rfl ?_
    refine ev_getR fr_X7_17 shC_93 rfl dX7_wouldTake_62 ?_
    refine ev_iload dX7_wouldTake_65 rfl ?_
    obtain ⟨hi16, h⟩ := chk_t h
    refine ev_iald shC_95 hi16 dX7_wouldTake_67 ?_
    exact ev_iret rfl rfl (by decide) (by decide) dX7_wouldTake_68 (eqP_E h)
  · replace h := ite_f hc15 h
    refine ev_aload_n dX7_wouldTake_51 rfl ?_
    refine ev_getR fr_X7_20 shC_93 rfl dX7_wouldTake_52 ?_
    refine ev_iload dX7_wouldTake_55 rfl ?_
    obtain ⟨hi17, h⟩ := chk_t h
    refine ev_iald shC_96 hi17 dX7_wouldTake_57 ?_
    refine ev_goto (tgt := 68) dX7_wouldTake_58 (by decide) ?_
    exact ev_iret rfl rfl (by decide) (by decide) dX7_wouldTake_68 (eqP_E h)
def f_X7_nearestTo_L17 (G : Nat) (k17_63 : Int32 → Mem → Option (Int32 × Mem)) : Nat → Int32 → Int32 → Int32 → Int32 → Mem → Option (Int32 × Mem)
  | 0, _, _, _, _, _ => none
  | g + 1, v1, v2, v4, v5, μ =>
  (if (3 : Int32) ≤ v5 then
  k17_63 v1 μ
  else
  chk v5 3 (bndV (f_X7_meet G 2 v2 (μ 95 (ix v5)) μ) (fun m6 =>
  bndE (f_X7_yesTold G v4 v5 m6) (fun w9 m8 =>
  chk v5 3 (let m10 := wr m8 96 (ix v5) w9
  (f_X7_nearestTo_L17 G k17_63 g) v1 v2 v4 (v5 + (1 : Int32)) m10)))))
set_option maxHeartbeats 4000000 in
set_option maxRecDepth 100000 in
theorem f_X7_nearestTo_L17_ok {bb : Bool} {G : Nat} {r : Int32} {μr : Mem}  {k17_63 : Int32 → Mem → Option (Int32 × Mem)} (hk17_63 : ∀ (v1 : Int32) (m : Mem), k17_63 v1 m = some (r, μr) → Ev RX7 cX7_nearestTo 7 (some .int) false 5 0 0 (eqP (some r) (shC bb) μr) 63 [some (.ref 93), some (.int v1), none, none, none, none, none] [] (shC bb) m 0 0) : ∀ (g : Nat) (v1 v2 v4 v5 : Int32) (μ : Mem), f_X7_nearestTo_L17 G k17_63 g v1 v2 v4 v5 μ = some (r, μr) → Ev RX7 cX7_nearestTo 7 (some .int) false 5 0 0 (eqP (some r) (shC bb) μr) 17 [some (.ref 93), some (.int v1), some (.int v2), none, some (.int v4), some (.int v5), none] [] (shC bb) μ 0 0 := by
  intro g
  induction g with
  | zero =>
    intro v1 v2 v4 v5 μ h
    cases h
  | succ g ih =>
    intro v1 v2 v4 v5 μ h
    rw [f_X7_nearestTo_L17] at h
    refine ev_iload dX7_nearestTo_17 rfl ?_
    refine ev_iconst (v := (3 : Int32)) dX7_nearestTo_19 (by decide) ?_
    refine ev_icmp_ge (tgt := 63) dX7_nearestTo_20 (by decide) (fun hc3 => ?_) (fun hc3 => ?_)
    · replace h := ite_t hc3 h
      exact ev_lt (hk17_63 _ _ h) ⟨rfl, ⟨rfl, trivial⟩⟩
    · replace h := ite_f hc3 h
      refine ev_aload_n dX7_nearestTo_23 rfl ?_
      refine ev_aload_n dX7_nearestTo_24 rfl ?_
      refine ev_getR fr_X7_29 shC_93 rfl dX7_nearestTo_25 ?_
      refine ev_getR fr_X7_190 shC_1 rfl dX7_nearestTo_28 ?_
      refine ev_iload_n dX7_nearestTo_31 rfl ?_
      refine ev_aload_n dX7_nearestTo_32 rfl ?_
      refine ev_getR fr_X7_17 shC_93 rfl dX7_nearestTo_33 ?_
      refine ev_iload dX7_nearestTo_36 rfl ?_
      obtain ⟨hi4, h⟩ := chk_t h
      refine ev_iald shC_95 hi4 dX7_nearestTo_38 ?_
      obtain ⟨m6, hq5, h⟩ := bndV_t h
      refine ev_cVv mv_X7_114 dX7_nearestTo_39 (c_X7_meet atC_2 hq5) rfl shC_93 rfl rfl (Nat.le_of_ble_eq_true rfl) (by rfl) (Nat.le_of_ble_eq_true rfl) (Nat.le_of_ble_eq_true rfl) (Nat.le_of_ble_eq_true rfl) ?_
      refine ev_aload_n dX7_nearestTo_42 rfl ?_
      refine ev_getR fr_X7_20 shC_93 rfl dX7_nearestTo_43 ?_
      refine ev_iload dX7_nearestTo_46 rfl ?_
      refine ev_aload_n dX7_nearestTo_48 rfl ?_
      refine ev_iload dX7_nearestTo_49 rfl ?_
      refine ev_iload dX7_nearestTo_51 rfl ?_
      obtain ⟨w9, m8, hq7, h⟩ := bndE_t h
      refine ev_cVi mv_X7_118 dX7_nearestTo_53 (c_X7_yesTold hq7) rfl shC_93 rfl rfl (Nat.le_of_ble_eq_true rfl) (by rfl) (Nat.le_of_ble_eq_true rfl) (Nat.le_of_ble_eq_true rfl) (Nat.le_of_ble_eq_true rfl) ?_
      obtain ⟨hi11, h⟩ := chk_t h
      refine ev_iast shC_96 hi11 dX7_nearestTo_56 ?_
      refine ev_iinc (cq := (1 : Int32)) (loc' := [_, _, _, _, _, _, _]) dX7_nearestTo_57 rfl (by decide) rfl (by decide) (by rfl) ?_
      refine ev_goto (tgt := 17) dX7_nearestTo_60 (by decide) ?_
      exact ev_lt (ih _ _ _ _ _ h) ⟨rfl, ⟨rfl, ⟨rfl, ⟨rfl, ⟨rfl, trivial⟩⟩⟩⟩⟩
def f_X7_nearestTo_j107 (G : Nat) (r71 : Int32 → Int32 → Int32 → Mem → Option (Int32 × Mem)) (v1 v5 v6 : Int32) (μ : Mem) : Option (Int32 × Mem) :=
  r71 v1 v5 (v6 + (1 : Int32)) μ
set_option maxHeartbeats 4000000 in
set_option maxRecDepth 100000 in
theorem f_X7_nearestTo_j107_ok {bb : Bool} {G : Nat} {r : Int32} {μr : Mem}  {r71 : Int32 → Int32 → Int32 → Mem → Option (Int32 × Mem)} (hr71 : ∀ (v1 : Int32) (v5 : Int32) (v6 : Int32) (m : Mem), r71 v1 v5 v6 m = some (r, μr) → Ev RX7 cX7_nearestTo 7 (some .int) false 5 0 0 (eqP (some r) (shC bb) μr) 71 [some (.ref 93), some (.int v1), none, none, none, some (.int v5), some (.int v6)] [] (shC bb) m 0 0) {v1 v5 v6 : Int32} {μ : Mem} (h : f_X7_nearestTo_j107 G r71 v1 v5 v6 μ = some (r, μr)) : Ev RX7 cX7_nearestTo 7 (some .int) false 5 0 0 (eqP (some r) (shC bb) μr) 107 [some (.ref 93), some (.int v1), none, none, none, some (.int v5), some (.int v6)] [] (shC bb) μ 0 0 := by
  unfold f_X7_nearestTo_j107 at h
  refine ev_iinc (cq := (1 : Int32)) (loc' := [_, _, _, _, _, _, _]) dX7_nearestTo_107 rfl (by decide) rfl (by decide) (by rfl) ?_
  refine ev_goto (tgt := 71) dX7_nearestTo_110 (by decide) ?_
  exact ev_lt (hr71 _ _ _ _ h) ⟨rfl, ⟨rfl, ⟨rfl, ⟨rfl, trivial⟩⟩⟩⟩
def f_X7_nearestTo_L71 (G : Nat)  : Nat → Int32 → Int32 → Int32 → Mem → Option (Int32 × Mem)
  | 0, _, _, _, _ => none
  | g + 1, v1, v5, v6, μ =>
  (if (3 : Int32) ≤ v6 then
  some (v5, μ)
  else
  (if v6 = v1 then
  f_X7_nearestTo_j107 G (f_X7_nearestTo_L71 G g) v1 v5 v6 μ
  else
  chk v6 3 (chk v1 3 (f_X7_nearestTo_j107 G (f_X7_nearestTo_L71 G g) v1 (imin v5 (iabs ((μ 96 (ix v6)) - (μ 96 (ix v1))))) v6 μ))))
set_option maxHeartbeats 4000000 in
set_option maxRecDepth 100000 in
theorem f_X7_nearestTo_L71_ok {bb : Bool} {G : Nat} {r : Int32} {μr : Mem}    : ∀ (g : Nat) (v1 v5 v6 : Int32) (μ : Mem), f_X7_nearestTo_L71 G g v1 v5 v6 μ = some (r, μr) → Ev RX7 cX7_nearestTo 7 (some .int) false 5 0 0 (eqP (some r) (shC bb) μr) 71 [some (.ref 93), some (.int v1), none, none, none, some (.int v5), some (.int v6)] [] (shC bb) μ 0 0 := by
  intro g
  induction g with
  | zero =>
    intro v1 v5 v6 μ h
    cases h
  | succ g ih =>
    intro v1 v5 v6 μ h
    rw [f_X7_nearestTo_L71] at h
    refine ev_iload dX7_nearestTo_71 rfl ?_
    refine ev_iconst (v := (3 : Int32)) dX7_nearestTo_73 (by decide) ?_
    refine ev_icmp_ge (tgt := 113) dX7_nearestTo_74 (by decide) (fun hc12 => ?_) (fun hc12 => ?_)
    · replace h := ite_t hc12 h
      refine ev_iload dX7_nearestTo_113 rfl ?_
      exact ev_iret rfl rfl (by decide) (by decide) dX7_nearestTo_115 (eqP_E h)
    · replace h := ite_f hc12 h
      refine ev_iload dX7_nearestTo_77 rfl ?_
      refine ev_iload_n dX7_nearestTo_79 rfl ?_
      refine ev_icmp_eq (tgt := 107) dX7_nearestTo_80 (by decide) (fun hc13 => ?_) (fun hc13 => ?_)
      · replace h := ite_t hc13 h
        exact ev_lt (f_X7_nearestTo_j107_ok ih h) ⟨rfl, ⟨rfl, ⟨rfl, ⟨rfl, trivial⟩⟩⟩⟩
      · replace h := ite_f hc13 h
        refine ev_iload dX7_nearestTo_83 rfl ?_
        refine ev_aload_n dX7_nearestTo_85 rfl ?_
        refine ev_getR fr_X7_20 shC_93 rfl dX7_nearestTo_86 ?_
        refine ev_iload dX7_nearestTo_89 rfl ?_
        obtain ⟨hi14, h⟩ := chk_t h
        refine ev_iald shC_96 hi14 dX7_nearestTo_91 ?_
        refine ev_aload_n dX7_nearestTo_92 rfl ?_
        refine ev_getR fr_X7_20 shC_93 rfl dX7_nearestTo_93 ?_
        refine ev_iload_n dX7_nearestTo_96 rfl ?_
        obtain ⟨hi15, h⟩ := chk_t h
        refine ev_iald shC_96 hi15 dX7_nearestTo_97 ?_
        refine ev_isub dX7_nearestTo_98 ?_
        refine ev_abs mm_X7_200 dX7_nearestTo_99 (Nat.le_of_ble_eq_true rfl) (by rfl) (Nat.le_of_ble_eq_true rfl) (Nat.le_of_ble_eq_true rfl) (Nat.le_of_ble_eq_true rfl) ?_
        refine ev_min mm_X7_206 dX7_nearestTo_102 (Nat.le_of_ble_eq_true rfl) (by rfl) (Nat.le_of_ble_eq_true rfl) (Nat.le_of_ble_eq_true rfl) (Nat.le_of_ble_eq_true rfl) ?_
        refine ev_istore (loc' := [_, _, _, _, _, _, _]) dX7_nearestTo_105 rfl (by decide) (by rfl) ?_
        exact ev_lt (f_X7_nearestTo_j107_ok ih h) ⟨rfl, ⟨rfl, ⟨rfl, ⟨rfl, trivial⟩⟩⟩⟩
def f_X7_nearestTo_j63 (G : Nat)  (v1 : Int32) (μ : Mem) : Option (Int32 × Mem) :=
  f_X7_nearestTo_L71 G G v1 (1000 : Int32) (0 : Int32) μ
set_option maxHeartbeats 4000000 in
set_option maxRecDepth 100000 in
theorem f_X7_nearestTo_j63_ok {bb : Bool} {G : Nat} {r : Int32} {μr : Mem}    {v1 : Int32} {μ : Mem} (h : f_X7_nearestTo_j63 G v1 μ = some (r, μr)) : Ev RX7 cX7_nearestTo 7 (some .int) false 5 0 0 (eqP (some r) (shC bb) μr) 63 [some (.ref 93), some (.int v1), none, none, none, none, none] [] (shC bb) μ 0 0 := by
  unfold f_X7_nearestTo_j63 at h
  refine ev_sipush (v := (1000 : Int32)) dX7_nearestTo_63 (by decide) ?_
  refine ev_istore (loc' := [_, _, _, _, _, _, _]) dX7_nearestTo_66 rfl (by decide) (by rfl) ?_
  refine ev_iconst (v := (0 : Int32)) dX7_nearestTo_68 (by decide) ?_
  refine ev_istore (loc' := [_, _, _, _, _, _, _]) dX7_nearestTo_69 rfl (by decide) (by rfl) ?_
  exact ev_lt (f_X7_nearestTo_L71_ok _ _ _ _ _ h) ⟨rfl, ⟨rfl, ⟨rfl, ⟨rfl, trivial⟩⟩⟩⟩
def f_X7_nearestTo (G : Nat) (p1 p2 p3 : Int32) (μ : Mem) : Option (Int32 × Mem) :=
  bndO (f_X2_at G 20 16 μ p3 (0 : Int32)) (fun w2 =>
  f_X7_nearestTo_L17 G (f_X7_nearestTo_j63 G) G p1 p2 w2 (0 : Int32) μ)
set_option maxHeartbeats 4000000 in
set_option maxRecDepth 100000 in
theorem c_X7_nearestTo {bb : Bool} {G : Nat} {μ : Mem} {p1 p2 p3 : Int32} {r : Int32} {μr : Mem}  (h : f_X7_nearestTo G p1 p2 p3 μ = some (r, μr)) : Cn yX7_nearestTo cX7_nearestTo 7 (some .int) 5 0 0 [.ref 93, .int p1, .int p2, .int p3] (shC bb) μ (eqP (some r) (shC bb) μr) := by
  refine cn_of (own := RX7) (ini := false) (loc := [some (.ref 93), some (.int p1), some (.int p2), some (.int p3), none, none, none]) rfl (by decide) (fun q => by cases q) (Nat.le_of_ble_eq_true rfl) (by rfl) rfl ?_
  unfold f_X7_nearestTo at h
  refine ev_aload_n dX7_nearestTo_0 rfl ?_
  refine ev_getR fr_X7_29 shC_93 rfl dX7_nearestTo_1 ?_
  refine ev_getR fr_X7_107 shC_1 rfl dX7_nearestTo_4 ?_
  refine ev_iload_n dX7_nearestTo_7 rfl ?_
  refine ev_iconst (v := (0 : Int32)) dX7_nearestTo_8 (by decide) ?_
  obtain ⟨w2, hq1, h⟩ := bndO_t h
  refine ev_cVi mv_X7_110 dX7_nearestTo_9 (c_X2_at atC_20 hq1) rfl shC_20 rfl rfl (Nat.le_of_ble_eq_true rfl) (by rfl) (Nat.le_of_ble_eq_true rfl) (Nat.le_of_ble_eq_true rfl) (Nat.le_of_ble_eq_true rfl) ?_
  refine ev_istore (loc' := [_, _, _, _, _, _, _]) dX7_nearestTo_12 rfl (by decide) (by rfl) ?_
  refine ev_iconst (v := (0 : Int32)) dX7_nearestTo_14 (by decide) ?_
  refine ev_istore (loc' := [_, _, _, _, _, _, _]) dX7_nearestTo_15 rfl (by decide) (by rfl) ?_
  exact ev_lt (f_X7_nearestTo_L17_ok (fun _ _ hh => f_X7_nearestTo_j63_ok hh) _ _ _ _ _ _ h) ⟨rfl, ⟨rfl, ⟨rfl, ⟨rfl, ⟨rfl, trivial⟩⟩⟩⟩⟩
def f_X7_tellsMost_j106 (G : Nat) (r65 : Int32 → Int32 → Int32 → Int32 → Int32 → Int32 → Mem → Option (Int32 × Mem)) (k65_112 : Int32 → Int32 → Int32 → Mem → Option (Int32 × Mem)) (v1 v5 v7 v8 v9 v10 : Int32) (μ : Mem) : Option (Int32 × Mem) :=
  r65 v1 v5 v7 v8 v9 (v10 + (1 : Int32)) μ
set_option maxHeartbeats 4000000 in
set_option maxRecDepth 100000 in
theorem f_X7_tellsMost_j106_ok {bb : Bool} {G : Nat} {r : Int32} {μr : Mem}  {r65 : Int32 → Int32 → Int32 → Int32 → Int32 → Int32 → Mem → Option (Int32 × Mem)} {k65_112 : Int32 → Int32 → Int32 → Mem → Option (Int32 × Mem)} (hr65 : ∀ (v1 : Int32) (v5 : Int32) (v7 : Int32) (v8 : Int32) (v9 : Int32) (v10 : Int32) (m : Mem), r65 v1 v5 v7 v8 v9 v10 m = some (r, μr) → Ev RX7 cX7_tellsMost 12 (some .int) false 6 0 0 (eqP (some r) (shC bb) μr) 65 [some (.ref 93), some (.int v1), none, none, none, some (.int v5), none, some (.int v7), some (.int v8), some (.int v9), some (.int v10), none] [] (shC bb) m 0 0) (hk65_112 : ∀ (v5 : Int32) (v8 : Int32) (v9 : Int32) (m : Mem), k65_112 v5 v8 v9 m = some (r, μr) → Ev RX7 cX7_tellsMost 12 (some .int) false 6 0 0 (eqP (some r) (shC bb) μr) 112 [none, none, none, none, none, some (.int v5), none, none, some (.int v8), some (.int v9), none, none] [] (shC bb) m 0 0) {v1 v5 v7 v8 v9 v10 : Int32} {μ : Mem} (h : f_X7_tellsMost_j106 G r65 k65_112 v1 v5 v7 v8 v9 v10 μ = some (r, μr)) : Ev RX7 cX7_tellsMost 12 (some .int) false 6 0 0 (eqP (some r) (shC bb) μr) 106 [some (.ref 93), some (.int v1), none, none, none, some (.int v5), none, some (.int v7), some (.int v8), some (.int v9), some (.int v10), none] [] (shC bb) μ 0 0 := by
  unfold f_X7_tellsMost_j106 at h
  refine ev_iinc (cq := (1 : Int32)) (loc' := [_, _, _, _, _, _, _, _, _, _, _, _]) dX7_tellsMost_106 rfl (by decide) rfl (by decide) (by rfl) ?_
  refine ev_goto (tgt := 65) dX7_tellsMost_109 (by decide) ?_
  exact ev_lt (hr65 _ _ _ _ _ _ _ h) ⟨rfl, ⟨rfl, ⟨rfl, ⟨rfl, ⟨rfl, ⟨rfl, ⟨rfl, trivial⟩⟩⟩⟩⟩⟩⟩
def f_X7_tellsMost_L65 (G : Nat) (k65_112 : Int32 → Int32 → Int32 → Mem → Option (Int32 × Mem)) : Nat → Int32 → Int32 → Int32 → Int32 → Int32 → Int32 → Mem → Option (Int32 × Mem)
  | 0, _, _, _, _, _, _, _ => none
  | g + 1, v1, v5, v7, v8, v9, v10, μ =>
  (if (μ 20 3) ≤ v10 then
  k65_112 v5 v8 v9 μ
  else
  bndE (f_X7_nearestTo G v7 v1 v10 μ) (fun w11 m10 =>
  (if w11 ≤ v9 then
  f_X7_tellsMost_j106 G (f_X7_tellsMost_L65 G k65_112 g) k65_112 v1 v5 v7 v8 v9 v10 m10
  else
  f_X7_tellsMost_j106 G (f_X7_tellsMost_L65 G k65_112 g) k65_112 v1 v5 v7 v10 w11 v10 m10)))
set_option maxHeartbeats 4000000 in
set_option maxRecDepth 100000 in
theorem f_X7_tellsMost_L65_ok {bb : Bool} {G : Nat} {r : Int32} {μr : Mem}  {k65_112 : Int32 → Int32 → Int32 → Mem → Option (Int32 × Mem)} (hk65_112 : ∀ (v5 : Int32) (v8 : Int32) (v9 : Int32) (m : Mem), k65_112 v5 v8 v9 m = some (r, μr) → Ev RX7 cX7_tellsMost 12 (some .int) false 6 0 0 (eqP (some r) (shC bb) μr) 112 [none, none, none, none, none, some (.int v5), none, none, some (.int v8), some (.int v9), none, none] [] (shC bb) m 0 0) : ∀ (g : Nat) (v1 v5 v7 v8 v9 v10 : Int32) (μ : Mem), f_X7_tellsMost_L65 G k65_112 g v1 v5 v7 v8 v9 v10 μ = some (r, μr) → Ev RX7 cX7_tellsMost 12 (some .int) false 6 0 0 (eqP (some r) (shC bb) μr) 65 [some (.ref 93), some (.int v1), none, none, none, some (.int v5), none, some (.int v7), some (.int v8), some (.int v9), some (.int v10), none] [] (shC bb) μ 0 0 := by
  intro g
  induction g with
  | zero =>
    intro v1 v5 v7 v8 v9 v10 μ h
    cases h
  | succ g ih =>
    intro v1 v5 v7 v8 v9 v10 μ h
    rw [f_X7_tellsMost_L65] at h
    refine ev_iload dX7_tellsMost_65 rfl ?_
    refine ev_aload_n dX7_tellsMost_67 rfl ?_
    refine ev_getR fr_X7_29 shC_93 rfl dX7_tellsMost_68 ?_
    refine ev_getR fr_X7_107 shC_1 rfl dX7_tellsMost_71 ?_
    refine ev_getI fr_X7_143 shC_20 rfl dX7_tellsMost_74 ?_
    refine ev_icmp_ge (tgt := 112) dX7_tellsMost_77 (by decide) (fun hc8 => ?_) (fun hc8 => ?_)
    · replace h := ite_t hc8 h
      exact ev_lt (hk65_112 _ _ _ _ h) ⟨rfl, ⟨rfl, ⟨rfl, trivial⟩⟩⟩
    · replace h := ite_f hc8 h
      refine ev_aload_n dX7_tellsMost_80 rfl ?_
      refine ev_iload dX7_tellsMost_81 rfl ?_
      refine ev_iload_n dX7_tellsMost_83 rfl ?_
      refine ev_iload dX7_tellsMost_84 rfl ?_
      obtain ⟨w11, m10, hq9, h⟩ := bndE_t h
      refine ev_cVi mv_X7_197 dX7_tellsMost_86 (c_X7_nearestTo hq9) rfl shC_93 rfl rfl (Nat.le_of_ble_eq_true rfl) (by rfl) (Nat.le_of_ble_eq_true rfl) (Nat.le_of_ble_eq_true rfl) (Nat.le_of_ble_eq_true rfl) ?_
      refine ev_istore (loc' := [_, _, _, _, _, _, _, _, _, _, _, _]) dX7_tellsMost_89 rfl (by decide) (by rfl) ?_
      refine ev_iload dX7_tellsMost_91 rfl ?_
      refine ev_iload dX7_tellsMost_93 rfl ?_
      refine ev_icmp_le (tgt := 106) dX7_tellsMost_95 (by decide) (fun hc12 => ?_) (fun hc12 => ?_)
      · replace h := ite_t hc12 h
        exact ev_lt (f_X7_tellsMost_j106_ok ih hk65_112 h) ⟨rfl, ⟨rfl, ⟨rfl, ⟨rfl, ⟨rfl, ⟨rfl, ⟨rfl, trivial⟩⟩⟩⟩⟩⟩⟩
      · replace h := ite_f hc12 h
        refine ev_iload dX7_tellsMost_98 rfl ?_
        refine ev_istore (loc' := [_, _, _, _, _, _, _, _, _, _, _, _]) dX7_tellsMost_100 rfl (by decide) (by rfl) ?_
        refine ev_iload dX7_tellsMost_102 rfl ?_
        refine ev_istore (loc' := [_, _, _, _, _, _, _, _, _, _, _, _]) dX7_tellsMost_104 rfl (by decide) (by rfl) ?_
        exact ev_lt (f_X7_tellsMost_j106_ok ih hk65_112 h) ⟨rfl, ⟨rfl, ⟨rfl, ⟨rfl, ⟨rfl, ⟨rfl, ⟨rfl, trivial⟩⟩⟩⟩⟩⟩⟩
def f_X7_tellsMost_j112 (G : Nat)  (v5 v8 v9 : Int32) (μ : Mem) : Option (Int32 × Mem) :=
  (if v5 = (0 : Int32) then
  some (v8, μ)
  else
  some (v9, μ))
set_option maxHeartbeats 4000000 in
set_option maxRecDepth 100000 in
theorem f_X7_tellsMost_j112_ok {bb : Bool} {G : Nat} {r : Int32} {μr : Mem}    {v5 v8 v9 : Int32} {μ : Mem} (h : f_X7_tellsMost_j112 G v5 v8 v9 μ = some (r, μr)) : Ev RX7 cX7_tellsMost 12 (some .int) false 6 0 0 (eqP (some r) (shC bb) μr) 112 [none, none, none, none, none, some (.int v5), none, none, some (.int v8), some (.int v9), none, none] [] (shC bb) μ 0 0 := by
  unfold f_X7_tellsMost_j112 at h
  refine ev_iload dX7_tellsMost_112 rfl ?_
  refine ev_if_eq (tgt := 122) dX7_tellsMost_114 (by decide) (fun hc13 => ?_) (fun hc13 => ?_)
  · replace h := ite_t hc13 h
    refine ev_iload dX7_tellsMost_122 rfl ?_
    exact ev_iret rfl rfl (by decide) (by decide) dX7_tellsMost_124 (eqP_E h)
  · replace h := ite_f hc13 h
    refine ev_iload dX7_tellsMost_117 rfl ?_
    refine ev_goto (tgt := 124) dX7_tellsMost_119 (by decide) ?_
    exact ev_iret rfl rfl (by decide) (by decide) dX7_tellsMost_124 (eqP_E h)
def f_X7_tellsMost_j40 (G : Nat)  (v1 v5 v6 s0 : Int32) (μ : Mem) : Option (Int32 × Mem) :=
  chk s0 3 ((if (μ 95 (ix s0)) = v6 then
  f_X7_tellsMost_L65 G (f_X7_tellsMost_j112 G) G v1 v5 s0 (-1 : Int32) (-1 : Int32) (0 : Int32) μ
  else
  some ((-1 : Int32), μ)))
set_option maxHeartbeats 4000000 in
set_option maxRecDepth 100000 in
theorem f_X7_tellsMost_j40_ok {bb : Bool} {G : Nat} {r : Int32} {μr : Mem}    {v1 v5 v6 s0 : Int32} {μ : Mem} (h : f_X7_tellsMost_j40 G v1 v5 v6 s0 μ = some (r, μr)) : Ev RX7 cX7_tellsMost 12 (some .int) false 6 0 0 (eqP (some r) (shC bb) μr) 40 [some (.ref 93), some (.int v1), none, none, none, some (.int v5), some (.int v6), none, none, none, none, none] [.int s0] (shC bb) μ 0 0 := by
  unfold f_X7_tellsMost_j40 at h
  refine ev_istore (loc' := [_, _, _, _, _, _, _, _, _, _, _, _]) dX7_tellsMost_40 rfl (by decide) (by rfl) ?_
  refine ev_aload_n dX7_tellsMost_42 rfl ?_
  refine ev_getR fr_X7_17 shC_93 rfl dX7_tellsMost_43 ?_
  refine ev_iload dX7_tellsMost_46 rfl ?_
  obtain ⟨hi6, h⟩ := chk_t h
  refine ev_iald shC_95 hi6 dX7_tellsMost_48 ?_
  refine ev_iload dX7_tellsMost_49 rfl ?_
  refine ev_icmp_eq (tgt := 56) dX7_tellsMost_51 (by decide) (fun hc7 => ?_) (fun hc7 => ?_)
  · replace h := ite_t hc7 h
    refine ev_iconst (v := (-1 : Int32)) dX7_tellsMost_56 (by decide) ?_
    refine ev_istore (loc' := [_, _, _, _, _, _, _, _, _, _, _, _]) dX7_tellsMost_57 rfl (by decide) (by rfl) ?_
    refine ev_iconst (v := (-1 : Int32)) dX7_tellsMost_59 (by decide) ?_
    refine ev_istore (loc' := [_, _, _, _, _, _, _, _, _, _, _, _]) dX7_tellsMost_60 rfl (by decide) (by rfl) ?_
    refine ev_iconst (v := (0 : Int32)) dX7_tellsMost_62 (by decide) ?_
    refine ev_istore (loc' := [_, _, _, _, _, _, _, _, _, _, _, _]) dX7_tellsMost_63 rfl (by decide) (by rfl) ?_
    exact ev_lt (f_X7_tellsMost_L65_ok (fun _ _ _ _ hh => f_X7_tellsMost_j112_ok hh) _ _ _ _ _ _ _ _ h) ⟨rfl, ⟨rfl, ⟨rfl, ⟨rfl, ⟨rfl, ⟨rfl, ⟨rfl, trivial⟩⟩⟩⟩⟩⟩⟩
  · replace h := ite_f hc7 h
    refine ev_iconst (v := (-1 : Int32)) dX7_tellsMost_54 (by decide) ?_
    exact ev_iret rfl rfl (by decide) (by decide) dX7_tellsMost_55 (eqP_E h)
def f_X7_tellsMost (G : Nat) (p1 p2 p3 p4 p5 : Int32) (μ : Mem) : Option (Int32 × Mem) :=
  bndV (f_X7_seat G p2 p3 p4 μ) (fun m2 =>
  chk p1 8 ((if (m2 12 (ix p1)) = p2 then
  f_X7_tellsMost_j40 G p1 p5 (m2 12 (ix p1)) (0 : Int32) m2
  else
  (if (m2 12 (ix p1)) = p3 then
  f_X7_tellsMost_j40 G p1 p5 (m2 12 (ix p1)) (1 : Int32) m2
  else
  f_X7_tellsMost_j40 G p1 p5 (m2 12 (ix p1)) (2 : Int32) m2))))
set_option maxHeartbeats 4000000 in
set_option maxRecDepth 100000 in
theorem c_X7_tellsMost {bb : Bool} {G : Nat} {μ : Mem} {p1 p2 p3 p4 p5 : Int32} {r : Int32} {μr : Mem}  (h : f_X7_tellsMost G p1 p2 p3 p4 p5 μ = some (r, μr)) : Cn yX7_tellsMost cX7_tellsMost 12 (some .int) 6 0 0 [.ref 93, .int p1, .int p2, .int p3, .int p4, .int p5] (shC bb) μ (eqP (some r) (shC bb) μr) := by
  refine cn_of (own := RX7) (ini := false) (loc := [some (.ref 93), some (.int p1), some (.int p2), some (.int p3), some (.int p4), some (.int p5), none, none, none, none, none, none]) rfl (by decide) (fun q => by cases q) (Nat.le_of_ble_eq_true rfl) (by rfl) rfl ?_
  unfold f_X7_tellsMost at h
  refine ev_aload_n dX7_tellsMost_0 rfl ?_
  refine ev_iload_n dX7_tellsMost_1 rfl ?_
  refine ev_iload_n dX7_tellsMost_2 rfl ?_
  refine ev_iload dX7_tellsMost_3 rfl ?_
  obtain ⟨m2, hq1, h⟩ := bndV_t h
  refine ev_cVv mv_X7_133 dX7_tellsMost_5 (c_X7_seat hq1) rfl shC_93 rfl rfl (Nat.le_of_ble_eq_true rfl) (by rfl) (Nat.le_of_ble_eq_true rfl) (Nat.le_of_ble_eq_true rfl) (Nat.le_of_ble_eq_true rfl) ?_
  refine ev_aload_n dX7_tellsMost_8 rfl ?_
  refine ev_getR fr_X7_29 shC_93 rfl dX7_tellsMost_9 ?_
  refine ev_getR fr_X7_51 shC_1 rfl dX7_tellsMost_12 ?_
  refine ev_iload_n dX7_tellsMost_15 rfl ?_
  obtain ⟨hi3, h⟩ := chk_t h
  refine ev_iald shC_12 hi3 dX7_tellsMost_16 ?_
  refine ev_istore (loc' := [_, _, _, _, _, _, _, _, _, _, _, _]) dX7_tellsMost_17 rfl (by decide) (by rfl) ?_
  refine ev_iload dX7_tellsMost_19 rfl ?_
  refine ev_iload_n dX7_tellsMost_21 rfl ?_
  refine ev_icmp_ne (tgt := 29) dX7_tellsMost_22 (by decide) (fun hc4 => ?_) (fun hc4 => ?_)
  · replace h := ite_f hc4 h
    refine ev_iload dX7_tellsMost_29 rfl ?_
    refine ev_iload_n dX7_tellsMost_31 rfl ?_
    refine ev_icmp_ne (tgt := 39) dX7_tellsMost_32 (by decide) (fun hc5 => ?_) (fun hc5 => ?_)
    · replace h := ite_f hc5 h
      refine ev_iconst (v := (2 : Int32)) dX7_tellsMost_39 (by decide) ?_
      exact ev_lt (f_X7_tellsMost_j40_ok h) ⟨rfl, ⟨rfl, ⟨rfl, ⟨rfl, trivial⟩⟩⟩⟩
    · replace h := ite_t hc5 h
      refine ev_iconst (v := (1 : Int32)) dX7_tellsMost_35 (by decide) ?_
      refine ev_goto (tgt := 40) dX7_tellsMost_36 (by decide) ?_
      exact ev_lt (f_X7_tellsMost_j40_ok h) ⟨rfl, ⟨rfl, ⟨rfl, ⟨rfl, trivial⟩⟩⟩⟩
  · replace h := ite_t hc4 h
    refine ev_iconst (v := (0 : Int32)) dX7_tellsMost_25 (by decide) ?_
    refine ev_goto (tgt := 40) dX7_tellsMost_26 (by decide) ?_
    exact ev_lt (f_X7_tellsMost_j40_ok h) ⟨rfl, ⟨rfl, ⟨rfl, ⟨rfl, trivial⟩⟩⟩⟩
def f_X7_bestBeside_j97 (G : Nat) (r50 : Int32 → Int32 → Int32 → Int32 → Int32 → Mem → Option (Int32 × Mem)) (k50_103 : Int32 → Int32 → Int32 → Mem → Option (Int32 × Mem)) (v1 v2 v4 v5 v6 : Int32) (μ : Mem) : Option (Int32 × Mem) :=
  r50 v1 v2 v4 v5 (v6 + (1 : Int32)) μ
set_option maxHeartbeats 4000000 in
set_option maxRecDepth 100000 in
theorem f_X7_bestBeside_j97_ok {bb : Bool} {G : Nat} {r : Int32} {μr : Mem}  {r50 : Int32 → Int32 → Int32 → Int32 → Int32 → Mem → Option (Int32 × Mem)} {k50_103 : Int32 → Int32 → Int32 → Mem → Option (Int32 × Mem)} (hr50 : ∀ (v1 : Int32) (v2 : Int32) (v4 : Int32) (v5 : Int32) (v6 : Int32) (m : Mem), r50 v1 v2 v4 v5 v6 m = some (r, μr) → Ev RX7 cX7_bestBeside 11 (some .int) false 7 0 0 (eqP (some r) (shC bb) μr) 50 [some (.ref 93), some (.int v1), some (.int v2), none, some (.int v4), some (.int v5), some (.int v6), none, none, none, none] [] (shC bb) m 0 0) (hk50_103 : ∀ (v2 : Int32) (v4 : Int32) (v5 : Int32) (m : Mem), k50_103 v2 v4 v5 m = some (r, μr) → Ev RX7 cX7_bestBeside 11 (some .int) false 7 0 0 (eqP (some r) (shC bb) μr) 103 [some (.ref 93), none, some (.int v2), none, some (.int v4), some (.int v5), none, none, none, none, none] [] (shC bb) m 0 0) {v1 v2 v4 v5 v6 : Int32} {μ : Mem} (h : f_X7_bestBeside_j97 G r50 k50_103 v1 v2 v4 v5 v6 μ = some (r, μr)) : Ev RX7 cX7_bestBeside 11 (some .int) false 7 0 0 (eqP (some r) (shC bb) μr) 97 [some (.ref 93), some (.int v1), some (.int v2), none, some (.int v4), some (.int v5), some (.int v6), none, none, none, none] [] (shC bb) μ 0 0 := by
  unfold f_X7_bestBeside_j97 at h
  refine ev_iinc (cq := (1 : Int32)) (loc' := [_, _, _, _, _, _, _, _, _, _, _]) dX7_bestBeside_97 rfl (by decide) rfl (by decide) (by rfl) ?_
  refine ev_goto (tgt := 50) dX7_bestBeside_100 (by decide) ?_
  exact ev_lt (hr50 _ _ _ _ _ _ h) ⟨rfl, ⟨rfl, ⟨rfl, ⟨rfl, ⟨rfl, ⟨rfl, trivial⟩⟩⟩⟩⟩⟩
def f_X7_bestBeside_L50 (G : Nat) (k50_103 : Int32 → Int32 → Int32 → Mem → Option (Int32 × Mem)) : Nat → Int32 → Int32 → Int32 → Int32 → Int32 → Mem → Option (Int32 × Mem)
  | 0, _, _, _, _, _, _ => none
  | g + 1, v1, v2, v4, v5, v6, μ =>
  (if (12 : Int32) ≤ v6 then
  k50_103 v2 v4 v5 μ
  else
  (if (f_X11_has v4 v6) = (0 : Int32) then
  f_X7_bestBeside_j97 G (f_X7_bestBeside_L50 G k50_103 g) k50_103 v1 v2 v4 v5 v6 μ
  else
  bndE (f_X7_thoughtPoints G v1 v6 (0 : Int32) μ) (fun w12 m11 =>
  chk v6 12 (let m13 := wr m11 97 (ix v6) w12
  bndE (f_X7_thoughtPoints G v1 v6 (2 : Int32) m13) (fun w17 m16 =>
  chk v6 12 (let m18 := wr m16 98 (ix v6) w17
  f_X7_bestBeside_j97 G (f_X7_bestBeside_L50 G k50_103 g) k50_103 v1 v2 v4 v5 v6 m18))))))
set_option maxHeartbeats 4000000 in
set_option maxRecDepth 100000 in
theorem f_X7_bestBeside_L50_ok {bb : Bool} {G : Nat} {r : Int32} {μr : Mem}  {k50_103 : Int32 → Int32 → Int32 → Mem → Option (Int32 × Mem)} (hk50_103 : ∀ (v2 : Int32) (v4 : Int32) (v5 : Int32) (m : Mem), k50_103 v2 v4 v5 m = some (r, μr) → Ev RX7 cX7_bestBeside 11 (some .int) false 7 0 0 (eqP (some r) (shC bb) μr) 103 [some (.ref 93), none, some (.int v2), none, some (.int v4), some (.int v5), none, none, none, none, none] [] (shC bb) m 0 0) : ∀ (g : Nat) (v1 v2 v4 v5 v6 : Int32) (μ : Mem), f_X7_bestBeside_L50 G k50_103 g v1 v2 v4 v5 v6 μ = some (r, μr) → Ev RX7 cX7_bestBeside 11 (some .int) false 7 0 0 (eqP (some r) (shC bb) μr) 50 [some (.ref 93), some (.int v1), some (.int v2), none, some (.int v4), some (.int v5), some (.int v6), none, none, none, none] [] (shC bb) μ 0 0 := by
  intro g
  induction g with
  | zero =>
    intro v1 v2 v4 v5 v6 μ h
    cases h
  | succ g ih =>
    intro v1 v2 v4 v5 v6 μ h
    rw [f_X7_bestBeside_L50] at h
    refine ev_iload dX7_bestBeside_50 rfl ?_
    refine ev_bipush (v := (12 : Int32)) dX7_bestBeside_52 (by decide) ?_
    refine ev_icmp_ge (tgt := 103) dX7_bestBeside_54 (by decide) (fun hc8 => ?_) (fun hc8 => ?_)
    · replace h := ite_t hc8 h
      exact ev_lt (hk50_103 _ _ _ _ h) ⟨rfl, ⟨rfl, ⟨rfl, ⟨rfl, trivial⟩⟩⟩⟩
    · replace h := ite_f hc8 h
      refine ev_iload dX7_bestBeside_57 rfl ?_
      refine ev_iload dX7_bestBeside_59 rfl ?_
      refine ev_cNi mv_X7_217 dX7_bestBeside_61 c_X11_has rfl rfl (Nat.le_of_ble_eq_true rfl) (by rfl) (Nat.le_of_ble_eq_true rfl) (Nat.le_of_ble_eq_true rfl) (Nat.le_of_ble_eq_true rfl) ?_
      refine ev_if_eq (tgt := 97) dX7_bestBeside_64 (by decide) (fun hc9 => ?_) (fun hc9 => ?_)
      · replace h := ite_t hc9 h
        exact ev_lt (f_X7_bestBeside_j97_ok ih hk50_103 h) ⟨rfl, ⟨rfl, ⟨rfl, ⟨rfl, ⟨rfl, ⟨rfl, trivial⟩⟩⟩⟩⟩⟩
      · replace h := ite_f hc9 h
        refine ev_aload_n dX7_bestBeside_67 rfl ?_
        refine ev_getR fr_X7_23 shC_93 rfl dX7_bestBeside_68 ?_
        refine ev_iload dX7_bestBeside_71 rfl ?_
        refine ev_aload_n dX7_bestBeside_73 rfl ?_
        refine ev_iload_n dX7_bestBeside_74 rfl ?_
        refine ev_iload dX7_bestBeside_75 rfl ?_
        refine ev_iconst (v := (0 : Int32)) dX7_bestBeside_77 (by decide) ?_
        obtain ⟨w12, m11, hq10, h⟩ := bndE_t h
        refine ev_cVi mv_X7_194 dX7_bestBeside_78 (c_X7_thoughtPoints hq10) rfl shC_93 rfl rfl (Nat.le_of_ble_eq_true rfl) (by rfl) (Nat.le_of_ble_eq_true rfl) (Nat.le_of_ble_eq_true rfl) (Nat.le_of_ble_eq_true rfl) ?_
        obtain ⟨hi14, h⟩ := chk_t h
        refine ev_iast shC_97 hi14 dX7_bestBeside_81 ?_
        refine ev_aload_n dX7_bestBeside_82 rfl ?_
        refine ev_getR fr_X7_26 shC_93 rfl dX7_bestBeside_83 ?_
        refine ev_iload dX7_bestBeside_86 rfl ?_
        refine ev_aload_n dX7_bestBeside_88 rfl ?_
        refine ev_iload_n dX7_bestBeside_89 rfl ?_
        refine ev_iload dX7_bestBeside_90 rfl ?_
        refine ev_iconst (v := (2 : Int32)) dX7_bestBeside_92 (by decide) ?_
        obtain ⟨w17, m16, hq15, h⟩ := bndE_t h
        refine ev_cVi mv_X7_194 dX7_bestBeside_93 (c_X7_thoughtPoints hq15) rfl shC_93 rfl rfl (Nat.le_of_ble_eq_true rfl) (by rfl) (Nat.le_of_ble_eq_true rfl) (Nat.le_of_ble_eq_true rfl) (Nat.le_of_ble_eq_true rfl) ?_
        obtain ⟨hi19, h⟩ := chk_t h
        refine ev_iast shC_98 hi19 dX7_bestBeside_96 ?_
        exact ev_lt (f_X7_bestBeside_j97_ok ih hk50_103 h) ⟨rfl, ⟨rfl, ⟨rfl, ⟨rfl, ⟨rfl, ⟨rfl, trivial⟩⟩⟩⟩⟩⟩
def f_X7_bestBeside_j198 (G : Nat) (r112 : Int32 → Int32 → Int32 → Int32 → Int32 → Int32 → Mem → Option (Int32 × Mem)) (k112_210 : Int32 → Int32 → Int32 → Mem → Option (Int32 × Mem)) (r122 : Int32 → Int32 → Int32 → Int32 → Int32 → Int32 → Int32 → Mem → Option (Int32 × Mem)) (k122_204 : Int32 → Int32 → Int32 → Int32 → Int32 → Int32 → Mem → Option (Int32 × Mem)) (v2 v4 v5 v6 v7 v8 v9 : Int32) (μ : Mem) : Option (Int32 × Mem) :=
  r122 v2 v4 v5 v6 v7 v8 (v9 + (1 : Int32)) μ
set_option maxHeartbeats 4000000 in
set_option maxRecDepth 100000 in
theorem f_X7_bestBeside_j198_ok {bb : Bool} {G : Nat} {r : Int32} {μr : Mem}  {r112 : Int32 → Int32 → Int32 → Int32 → Int32 → Int32 → Mem → Option (Int32 × Mem)} {k112_210 : Int32 → Int32 → Int32 → Mem → Option (Int32 × Mem)} {r122 : Int32 → Int32 → Int32 → Int32 → Int32 → Int32 → Int32 → Mem → Option (Int32 × Mem)} {k122_204 : Int32 → Int32 → Int32 → Int32 → Int32 → Int32 → Mem → Option (Int32 × Mem)} (hr112 : ∀ (v2 : Int32) (v4 : Int32) (v5 : Int32) (v6 : Int32) (v7 : Int32) (v8 : Int32) (m : Mem), r112 v2 v4 v5 v6 v7 v8 m = some (r, μr) → Ev RX7 cX7_bestBeside 11 (some .int) false 7 0 0 (eqP (some r) (shC bb) μr) 112 [some (.ref 93), none, some (.int v2), none, some (.int v4), some (.int v5), some (.int v6), some (.int v7), some (.int v8), none, none] [] (shC bb) m 0 0) (hk112_210 : ∀ (v2 : Int32) (v6 : Int32) (v7 : Int32) (m : Mem), k112_210 v2 v6 v7 m = some (r, μr) → Ev RX7 cX7_bestBeside 11 (some .int) false 7 0 0 (eqP (some r) (shC bb) μr) 210 [none, none, some (.int v2), none, none, none, some (.int v6), some (.int v7), none, none, none] [] (shC bb) m 0 0) (hr122 : ∀ (v2 : Int32) (v4 : Int32) (v5 : Int32) (v6 : Int32) (v7 : Int32) (v8 : Int32) (v9 : Int32) (m : Mem), r122 v2 v4 v5 v6 v7 v8 v9 m = some (r, μr) → Ev RX7 cX7_bestBeside 11 (some .int) false 7 0 0 (eqP (some r) (shC bb) μr) 122 [some (.ref 93), none, some (.int v2), none, some (.int v4), some (.int v5), some (.int v6), some (.int v7), some (.int v8), some (.int v9), none] [] (shC bb) m 0 0) (hk122_204 : ∀ (v2 : Int32) (v4 : Int32) (v5 : Int32) (v6 : Int32) (v7 : Int32) (v8 : Int32) (m : Mem), k122_204 v2 v4 v5 v6 v7 v8 m = some (r, μr) → Ev RX7 cX7_bestBeside 11 (some .int) false 7 0 0 (eqP (some r) (shC bb) μr) 204 [some (.ref 93), none, some (.int v2), none, some (.int v4), some (.int v5), some (.int v6), some (.int v7), some (.int v8), none, none] [] (shC bb) m 0 0) {v2 v4 v5 v6 v7 v8 v9 : Int32} {μ : Mem} (h : f_X7_bestBeside_j198 G r112 k112_210 r122 k122_204 v2 v4 v5 v6 v7 v8 v9 μ = some (r, μr)) : Ev RX7 cX7_bestBeside 11 (some .int) false 7 0 0 (eqP (some r) (shC bb) μr) 198 [some (.ref 93), none, some (.int v2), none, some (.int v4), some (.int v5), some (.int v6), some (.int v7), some (.int v8), some (.int v9), none] [] (shC bb) μ 0 0 := by
  unfold f_X7_bestBeside_j198 at h
  refine ev_iinc (cq := (1 : Int32)) (loc' := [_, _, _, _, _, _, _, _, _, _, _]) dX7_bestBeside_198 rfl (by decide) rfl (by decide) (by rfl) ?_
  refine ev_goto (tgt := 122) dX7_bestBeside_201 (by decide) ?_
  exact ev_lt (hr122 _ _ _ _ _ _ _ _ h) ⟨rfl, ⟨rfl, ⟨rfl, ⟨rfl, ⟨rfl, ⟨rfl, ⟨rfl, ⟨rfl, trivial⟩⟩⟩⟩⟩⟩⟩⟩
def f_X7_bestBeside_j183 (G : Nat) (r112 : Int32 → Int32 → Int32 → Int32 → Int32 → Int32 → Mem → Option (Int32 × Mem)) (k112_210 : Int32 → Int32 → Int32 → Mem → Option (Int32 × Mem)) (r122 : Int32 → Int32 → Int32 → Int32 → Int32 → Int32 → Int32 → Mem → Option (Int32 × Mem)) (k122_204 : Int32 → Int32 → Int32 → Int32 → Int32 → Int32 → Mem → Option (Int32 × Mem)) (v2 v4 v5 v8 v9 v10 : Int32) (μ : Mem) : Option (Int32 × Mem) :=
  f_X7_bestBeside_j198 G r112 k112_210 r122 k122_204 v2 v4 v5 ((sl (1 : Int32) v9) ||| (sl (1 : Int32) v8)) v10 v8 v9 μ
set_option maxHeartbeats 4000000 in
set_option maxRecDepth 100000 in
theorem f_X7_bestBeside_j183_ok {bb : Bool} {G : Nat} {r : Int32} {μr : Mem}  {r112 : Int32 → Int32 → Int32 → Int32 → Int32 → Int32 → Mem → Option (Int32 × Mem)} {k112_210 : Int32 → Int32 → Int32 → Mem → Option (Int32 × Mem)} {r122 : Int32 → Int32 → Int32 → Int32 → Int32 → Int32 → Int32 → Mem → Option (Int32 × Mem)} {k122_204 : Int32 → Int32 → Int32 → Int32 → Int32 → Int32 → Mem → Option (Int32 × Mem)} (hr112 : ∀ (v2 : Int32) (v4 : Int32) (v5 : Int32) (v6 : Int32) (v7 : Int32) (v8 : Int32) (m : Mem), r112 v2 v4 v5 v6 v7 v8 m = some (r, μr) → Ev RX7 cX7_bestBeside 11 (some .int) false 7 0 0 (eqP (some r) (shC bb) μr) 112 [some (.ref 93), none, some (.int v2), none, some (.int v4), some (.int v5), some (.int v6), some (.int v7), some (.int v8), none, none] [] (shC bb) m 0 0) (hk112_210 : ∀ (v2 : Int32) (v6 : Int32) (v7 : Int32) (m : Mem), k112_210 v2 v6 v7 m = some (r, μr) → Ev RX7 cX7_bestBeside 11 (some .int) false 7 0 0 (eqP (some r) (shC bb) μr) 210 [none, none, some (.int v2), none, none, none, some (.int v6), some (.int v7), none, none, none] [] (shC bb) m 0 0) (hr122 : ∀ (v2 : Int32) (v4 : Int32) (v5 : Int32) (v6 : Int32) (v7 : Int32) (v8 : Int32) (v9 : Int32) (m : Mem), r122 v2 v4 v5 v6 v7 v8 v9 m = some (r, μr) → Ev RX7 cX7_bestBeside 11 (some .int) false 7 0 0 (eqP (some r) (shC bb) μr) 122 [some (.ref 93), none, some (.int v2), none, some (.int v4), some (.int v5), some (.int v6), some (.int v7), some (.int v8), some (.int v9), none] [] (shC bb) m 0 0) (hk122_204 : ∀ (v2 : Int32) (v4 : Int32) (v5 : Int32) (v6 : Int32) (v7 : Int32) (v8 : Int32) (m : Mem), k122_204 v2 v4 v5 v6 v7 v8 m = some (r, μr) → Ev RX7 cX7_bestBeside 11 (some .int) false 7 0 0 (eqP (some r) (shC bb) μr) 204 [some (.ref 93), none, some (.int v2), none, some (.int v4), some (.int v5), some (.int v6), some (.int v7), some (.int v8), none, none] [] (shC bb) m 0 0) {v2 v4 v5 v8 v9 v10 : Int32} {μ : Mem} (h : f_X7_bestBeside_j183 G r112 k112_210 r122 k122_204 v2 v4 v5 v8 v9 v10 μ = some (r, μr)) : Ev RX7 cX7_bestBeside 11 (some .int) false 7 0 0 (eqP (some r) (shC bb) μr) 183 [some (.ref 93), none, some (.int v2), none, some (.int v4), some (.int v5), none, none, some (.int v8), some (.int v9), some (.int v10)] [] (shC bb) μ 0 0 := by
  unfold f_X7_bestBeside_j183 at h
  refine ev_iconst (v := (1 : Int32)) dX7_bestBeside_183 (by decide) ?_
  refine ev_iload dX7_bestBeside_184 rfl ?_
  refine ev_ishl dX7_bestBeside_186 ?_
  refine ev_iconst (v := (1 : Int32)) dX7_bestBeside_187 (by decide) ?_
  refine ev_iload dX7_bestBeside_188 rfl ?_
  refine ev_ishl dX7_bestBeside_190 ?_
  refine ev_ior dX7_bestBeside_191 ?_
  refine ev_istore (loc' := [_, _, _, _, _, _, _, _, _, _, _]) dX7_bestBeside_192 rfl (by decide) (by rfl) ?_
  refine ev_iload dX7_bestBeside_194 rfl ?_
  refine ev_istore (loc' := [_, _, _, _, _, _, _, _, _, _, _]) dX7_bestBeside_196 rfl (by decide) (by rfl) ?_
  exact ev_lt (f_X7_bestBeside_j198_ok hr112 hk112_210 hr122 hk122_204 h) ⟨rfl, ⟨rfl, ⟨rfl, ⟨rfl, ⟨rfl, ⟨rfl, ⟨rfl, ⟨rfl, trivial⟩⟩⟩⟩⟩⟩⟩⟩
def f_X7_bestBeside_L122 (G : Nat) (r112 : Int32 → Int32 → Int32 → Int32 → Int32 → Int32 → Mem → Option (Int32 × Mem)) (k112_210 : Int32 → Int32 → Int32 → Mem → Option (Int32 × Mem)) (k122_204 : Int32 → Int32 → Int32 → Int32 → Int32 → Int32 → Mem → Option (Int32 × Mem)) : Nat → Int32 → Int32 → Int32 → Int32 → Int32 → Int32 → Int32 → Mem → Option (Int32 × Mem)
  | 0, _, _, _, _, _, _, _, _ => none
  | g + 1, v2, v4, v5, v6, v7, v8, v9, μ =>
  (if v8 ≤ v9 then
  k122_204 v2 v4 v5 v6 v7 v8 μ
  else
  chk v9 12 (chk v8 12 ((if (f_X11_has v4 v9) = (0 : Int32) then
  f_X7_bestBeside_j198 G r112 k112_210 (f_X7_bestBeside_L122 G r112 k112_210 k122_204 g) k122_204 v2 v4 v5 v6 v7 v8 v9 μ
  else
  (if (f_X11_has v4 v8) = (0 : Int32) then
  f_X7_bestBeside_j198 G r112 k112_210 (f_X7_bestBeside_L122 G r112 k112_210 k122_204 g) k122_204 v2 v4 v5 v6 v7 v8 v9 μ
  else
  (if v6 = (0 : Int32) then
  f_X7_bestBeside_j183 G r112 k112_210 (f_X7_bestBeside_L122 G r112 k112_210 k122_204 g) k122_204 v2 v4 v5 v8 v9 (v5 - (imax (μ 97 (ix v9)) (μ 98 (ix v8)))) μ
  else
  (if (v5 - (imax (μ 97 (ix v9)) (μ 98 (ix v8)))) ≤ v7 then
  f_X7_bestBeside_j198 G r112 k112_210 (f_X7_bestBeside_L122 G r112 k112_210 k122_204 g) k122_204 v2 v4 v5 v6 v7 v8 v9 μ
  else
  f_X7_bestBeside_j183 G r112 k112_210 (f_X7_bestBeside_L122 G r112 k112_210 k122_204 g) k122_204 v2 v4 v5 v8 v9 (v5 - (imax (μ 97 (ix v9)) (μ 98 (ix v8)))) μ)))))))
set_option maxHeartbeats 4000000 in
set_option maxRecDepth 100000 in
theorem f_X7_bestBeside_L122_ok {bb : Bool} {G : Nat} {r : Int32} {μr : Mem}  {r112 : Int32 → Int32 → Int32 → Int32 → Int32 → Int32 → Mem → Option (Int32 × Mem)} {k112_210 : Int32 → Int32 → Int32 → Mem → Option (Int32 × Mem)} {k122_204 : Int32 → Int32 → Int32 → Int32 → Int32 → Int32 → Mem → Option (Int32 × Mem)} (hr112 : ∀ (v2 : Int32) (v4 : Int32) (v5 : Int32) (v6 : Int32) (v7 : Int32) (v8 : Int32) (m : Mem), r112 v2 v4 v5 v6 v7 v8 m = some (r, μr) → Ev RX7 cX7_bestBeside 11 (some .int) false 7 0 0 (eqP (some r) (shC bb) μr) 112 [some (.ref 93), none, some (.int v2), none, some (.int v4), some (.int v5), some (.int v6), some (.int v7), some (.int v8), none, none] [] (shC bb) m 0 0) (hk112_210 : ∀ (v2 : Int32) (v6 : Int32) (v7 : Int32) (m : Mem), k112_210 v2 v6 v7 m = some (r, μr) → Ev RX7 cX7_bestBeside 11 (some .int) false 7 0 0 (eqP (some r) (shC bb) μr) 210 [none, none, some (.int v2), none, none, none, some (.int v6), some (.int v7), none, none, none] [] (shC bb) m 0 0) (hk122_204 : ∀ (v2 : Int32) (v4 : Int32) (v5 : Int32) (v6 : Int32) (v7 : Int32) (v8 : Int32) (m : Mem), k122_204 v2 v4 v5 v6 v7 v8 m = some (r, μr) → Ev RX7 cX7_bestBeside 11 (some .int) false 7 0 0 (eqP (some r) (shC bb) μr) 204 [some (.ref 93), none, some (.int v2), none, some (.int v4), some (.int v5), some (.int v6), some (.int v7), some (.int v8), none, none] [] (shC bb) m 0 0) : ∀ (g : Nat) (v2 v4 v5 v6 v7 v8 v9 : Int32) (μ : Mem), f_X7_bestBeside_L122 G r112 k112_210 k122_204 g v2 v4 v5 v6 v7 v8 v9 μ = some (r, μr) → Ev RX7 cX7_bestBeside 11 (some .int) false 7 0 0 (eqP (some r) (shC bb) μr) 122 [some (.ref 93), none, some (.int v2), none, some (.int v4), some (.int v5), some (.int v6), some (.int v7), some (.int v8), some (.int v9), none] [] (shC bb) μ 0 0 := by
  intro g
  induction g with
  | zero =>
    intro v2 v4 v5 v6 v7 v8 v9 μ h
    cases h
  | succ g ih =>
    intro v2 v4 v5 v6 v7 v8 v9 μ h
    rw [f_X7_bestBeside_L122] at h
    refine ev_iload dX7_bestBeside_122 rfl ?_
    refine ev_iload dX7_bestBeside_124 rfl ?_
    refine ev_icmp_ge (tgt := 204) dX7_bestBeside_126 (by decide) (fun hc21 => ?_) (fun hc21 => ?_)
    · replace h := ite_t hc21 h
      exact ev_lt (hk122_204 _ _ _ _ _ _ _ h) ⟨rfl, ⟨rfl, ⟨rfl, ⟨rfl, ⟨rfl, ⟨rfl, ⟨rfl, trivial⟩⟩⟩⟩⟩⟩⟩
    · replace h := ite_f hc21 h
      refine ev_iload dX7_bestBeside_129 rfl ?_
      refine ev_aload_n dX7_bestBeside_131 rfl ?_
      refine ev_getR fr_X7_23 shC_93 rfl dX7_bestBeside_132 ?_
      refine ev_iload dX7_bestBeside_135 rfl ?_
      obtain ⟨hi22, h⟩ := chk_t h
      refine ev_iald shC_97 hi22 dX7_bestBeside_137 ?_
      refine ev_aload_n dX7_bestBeside_138 rfl ?_
      refine ev_getR fr_X7_26 shC_93 rfl dX7_bestBeside_139 ?_
      refine ev_iload dX7_bestBeside_142 rfl ?_
      obtain ⟨hi23, h⟩ := chk_t h
      refine ev_iald shC_98 hi23 dX7_bestBeside_144 ?_
      refine ev_max mm_X7_221 dX7_bestBeside_145 (Nat.le_of_ble_eq_true rfl) (by rfl) (Nat.le_of_ble_eq_true rfl) (Nat.le_of_ble_eq_true rfl) (Nat.le_of_ble_eq_true rfl) ?_
      refine ev_isub dX7_bestBeside_148 ?_
      refine ev_istore (loc' := [_, _, _, _, _, _, _, _, _, _, _]) dX7_bestBeside_149 rfl (by decide) (by rfl) ?_
      refine ev_iload dX7_bestBeside_151 rfl ?_
      refine ev_iload dX7_bestBeside_153 rfl ?_
      refine ev_cNi mv_X7_217 dX7_bestBeside_155 c_X11_has rfl rfl (Nat.le_of_ble_eq_true rfl) (by rfl) (Nat.le_of_ble_eq_true rfl) (Nat.le_of_ble_eq_true rfl) (Nat.le_of_ble_eq_true rfl) ?_
      refine ev_if_eq (tgt := 198) dX7_bestBeside_158 (by decide) (fun hc24 => ?_) (fun hc24 => ?_)
      · replace h := ite_t hc24 h
        exact ev_lt (f_X7_bestBeside_j198_ok hr112 hk112_210 ih hk122_204 h) ⟨rfl, ⟨rfl, ⟨rfl, ⟨rfl, ⟨rfl, ⟨rfl, ⟨rfl, ⟨rfl, trivial⟩⟩⟩⟩⟩⟩⟩⟩
      · replace h := ite_f hc24 h
        refine ev_iload dX7_bestBeside_161 rfl ?_
        refine ev_iload dX7_bestBeside_163 rfl ?_
        refine ev_cNi mv_X7_217 dX7_bestBeside_165 c_X11_has rfl rfl (Nat.le_of_ble_eq_true rfl) (by rfl) (Nat.le_of_ble_eq_true rfl) (Nat.le_of_ble_eq_true rfl) (Nat.le_of_ble_eq_true rfl) ?_
        refine ev_if_eq (tgt := 198) dX7_bestBeside_168 (by decide) (fun hc25 => ?_) (fun hc25 => ?_)
        · replace h := ite_t hc25 h
          exact ev_lt (f_X7_bestBeside_j198_ok hr112 hk112_210 ih hk122_204 h) ⟨rfl, ⟨rfl, ⟨rfl, ⟨rfl, ⟨rfl, ⟨rfl, ⟨rfl, ⟨rfl, trivial⟩⟩⟩⟩⟩⟩⟩⟩
        · replace h := ite_f hc25 h
          refine ev_iload dX7_bestBeside_171 rfl ?_
          refine ev_if_eq (tgt := 183) dX7_bestBeside_173 (by decide) (fun hc26 => ?_) (fun hc26 => ?_)
          · replace h := ite_t hc26 h
            exact ev_lt (f_X7_bestBeside_j183_ok hr112 hk112_210 ih hk122_204 h) ⟨rfl, ⟨rfl, ⟨rfl, ⟨rfl, ⟨rfl, ⟨rfl, ⟨rfl, trivial⟩⟩⟩⟩⟩⟩⟩
          · replace h := ite_f hc26 h
            refine ev_iload dX7_bestBeside_176 rfl ?_
            refine ev_iload dX7_bestBeside_178 rfl ?_
            refine ev_icmp_le (tgt := 198) dX7_bestBeside_180 (by decide) (fun hc27 => ?_) (fun hc27 => ?_)
            · replace h := ite_t hc27 h
              exact ev_lt (f_X7_bestBeside_j198_ok hr112 hk112_210 ih hk122_204 h) ⟨rfl, ⟨rfl, ⟨rfl, ⟨rfl, ⟨rfl, ⟨rfl, ⟨rfl, ⟨rfl, trivial⟩⟩⟩⟩⟩⟩⟩⟩
            · replace h := ite_f hc27 h
              exact ev_lt (f_X7_bestBeside_j183_ok hr112 hk112_210 ih hk122_204 h) ⟨rfl, ⟨rfl, ⟨rfl, ⟨rfl, ⟨rfl, ⟨rfl, ⟨rfl, trivial⟩⟩⟩⟩⟩⟩⟩
def f_X7_bestBeside_j204 (G : Nat) (r112 : Int32 → Int32 → Int32 → Int32 → Int32 → Int32 → Mem → Option (Int32 × Mem)) (k112_210 : Int32 → Int32 → Int32 → Mem → Option (Int32 × Mem)) (v2 v4 v5 v6 v7 v8 : Int32) (μ : Mem) : Option (Int32 × Mem) :=
  r112 v2 v4 v5 v6 v7 (v8 + (1 : Int32)) μ
set_option maxHeartbeats 4000000 in
set_option maxRecDepth 100000 in
theorem f_X7_bestBeside_j204_ok {bb : Bool} {G : Nat} {r : Int32} {μr : Mem}  {r112 : Int32 → Int32 → Int32 → Int32 → Int32 → Int32 → Mem → Option (Int32 × Mem)} {k112_210 : Int32 → Int32 → Int32 → Mem → Option (Int32 × Mem)} (hr112 : ∀ (v2 : Int32) (v4 : Int32) (v5 : Int32) (v6 : Int32) (v7 : Int32) (v8 : Int32) (m : Mem), r112 v2 v4 v5 v6 v7 v8 m = some (r, μr) → Ev RX7 cX7_bestBeside 11 (some .int) false 7 0 0 (eqP (some r) (shC bb) μr) 112 [some (.ref 93), none, some (.int v2), none, some (.int v4), some (.int v5), some (.int v6), some (.int v7), some (.int v8), none, none] [] (shC bb) m 0 0) (hk112_210 : ∀ (v2 : Int32) (v6 : Int32) (v7 : Int32) (m : Mem), k112_210 v2 v6 v7 m = some (r, μr) → Ev RX7 cX7_bestBeside 11 (some .int) false 7 0 0 (eqP (some r) (shC bb) μr) 210 [none, none, some (.int v2), none, none, none, some (.int v6), some (.int v7), none, none, none] [] (shC bb) m 0 0) {v2 v4 v5 v6 v7 v8 : Int32} {μ : Mem} (h : f_X7_bestBeside_j204 G r112 k112_210 v2 v4 v5 v6 v7 v8 μ = some (r, μr)) : Ev RX7 cX7_bestBeside 11 (some .int) false 7 0 0 (eqP (some r) (shC bb) μr) 204 [some (.ref 93), none, some (.int v2), none, some (.int v4), some (.int v5), some (.int v6), some (.int v7), some (.int v8), none, none] [] (shC bb) μ 0 0 := by
  unfold f_X7_bestBeside_j204 at h
  refine ev_iinc (cq := (1 : Int32)) (loc' := [_, _, _, _, _, _, _, _, _, _, _]) dX7_bestBeside_204 rfl (by decide) rfl (by decide) (by rfl) ?_
  refine ev_goto (tgt := 112) dX7_bestBeside_207 (by decide) ?_
  exact ev_lt (hr112 _ _ _ _ _ _ _ h) ⟨rfl, ⟨rfl, ⟨rfl, ⟨rfl, ⟨rfl, ⟨rfl, ⟨rfl, trivial⟩⟩⟩⟩⟩⟩⟩
def f_X7_bestBeside_L112 (G : Nat) (k112_210 : Int32 → Int32 → Int32 → Mem → Option (Int32 × Mem)) : Nat → Int32 → Int32 → Int32 → Int32 → Int32 → Int32 → Mem → Option (Int32 × Mem)
  | 0, _, _, _, _, _, _, _ => none
  | g + 1, v2, v4, v5, v6, v7, v8, μ =>
  (if (12 : Int32) ≤ v8 then
  k112_210 v2 v6 v7 μ
  else
  f_X7_bestBeside_L122 G (f_X7_bestBeside_L112 G k112_210 g) k112_210 (f_X7_bestBeside_j204 G (f_X7_bestBeside_L112 G k112_210 g) k112_210) G v2 v4 v5 v6 v7 v8 (0 : Int32) μ)
set_option maxHeartbeats 4000000 in
set_option maxRecDepth 100000 in
theorem f_X7_bestBeside_L112_ok {bb : Bool} {G : Nat} {r : Int32} {μr : Mem}  {k112_210 : Int32 → Int32 → Int32 → Mem → Option (Int32 × Mem)} (hk112_210 : ∀ (v2 : Int32) (v6 : Int32) (v7 : Int32) (m : Mem), k112_210 v2 v6 v7 m = some (r, μr) → Ev RX7 cX7_bestBeside 11 (some .int) false 7 0 0 (eqP (some r) (shC bb) μr) 210 [none, none, some (.int v2), none, none, none, some (.int v6), some (.int v7), none, none, none] [] (shC bb) m 0 0) : ∀ (g : Nat) (v2 v4 v5 v6 v7 v8 : Int32) (μ : Mem), f_X7_bestBeside_L112 G k112_210 g v2 v4 v5 v6 v7 v8 μ = some (r, μr) → Ev RX7 cX7_bestBeside 11 (some .int) false 7 0 0 (eqP (some r) (shC bb) μr) 112 [some (.ref 93), none, some (.int v2), none, some (.int v4), some (.int v5), some (.int v6), some (.int v7), some (.int v8), none, none] [] (shC bb) μ 0 0 := by
  intro g
  induction g with
  | zero =>
    intro v2 v4 v5 v6 v7 v8 μ h
    cases h
  | succ g ih =>
    intro v2 v4 v5 v6 v7 v8 μ h
    rw [f_X7_bestBeside_L112] at h
    refine ev_iload dX7_bestBeside_112 rfl ?_
    refine ev_bipush (v := (12 : Int32)) dX7_bestBeside_114 (by decide) ?_
    refine ev_icmp_ge (tgt := 210) dX7_bestBeside_116 (by decide) (fun hc20 => ?_) (fun hc20 => ?_)
    · replace h := ite_t hc20 h
      exact ev_lt (hk112_210 _ _ _ _ h) ⟨rfl, ⟨rfl, ⟨rfl, trivial⟩⟩⟩
    · replace h := ite_f hc20 h
      refine ev_iconst (v := (0 : Int32)) dX7_bestBeside_119 (by decide) ?_
      refine ev_istore (loc' := [_, _, _, _, _, _, _, _, _, _, _]) dX7_bestBeside_120 rfl (by decide) (by rfl) ?_
      exact ev_lt (f_X7_bestBeside_L122_ok ih hk112_210 (fun _ _ _ _ _ _ _ hh => f_X7_bestBeside_j204_ok ih hk112_210 hh) _ _ _ _ _ _ _ _ _ h) ⟨rfl, ⟨rfl, ⟨rfl, ⟨rfl, ⟨rfl, ⟨rfl, ⟨rfl, ⟨rfl, trivial⟩⟩⟩⟩⟩⟩⟩⟩
def f_X7_bestBeside_j210 (G : Nat)  (v2 v6 v7 : Int32) (μ : Mem) : Option (Int32 × Mem) :=
  (if v2 = (0 : Int32) then
  some (v6, μ)
  else
  some (v7, μ))
set_option maxHeartbeats 4000000 in
set_option maxRecDepth 100000 in
theorem f_X7_bestBeside_j210_ok {bb : Bool} {G : Nat} {r : Int32} {μr : Mem}    {v2 v6 v7 : Int32} {μ : Mem} (h : f_X7_bestBeside_j210 G v2 v6 v7 μ = some (r, μr)) : Ev RX7 cX7_bestBeside 11 (some .int) false 7 0 0 (eqP (some r) (shC bb) μr) 210 [none, none, some (.int v2), none, none, none, some (.int v6), some (.int v7), none, none, none] [] (shC bb) μ 0 0 := by
  unfold f_X7_bestBeside_j210 at h
  refine ev_iload_n dX7_bestBeside_210 rfl ?_
  refine ev_if_eq (tgt := 219) dX7_bestBeside_211 (by decide) (fun hc28 => ?_) (fun hc28 => ?_)
  · replace h := ite_t hc28 h
    refine ev_iload dX7_bestBeside_219 rfl ?_
    exact ev_iret rfl rfl (by decide) (by decide) dX7_bestBeside_221 (eqP_E h)
  · replace h := ite_f hc28 h
    refine ev_iload dX7_bestBeside_214 rfl ?_
    refine ev_goto (tgt := 221) dX7_bestBeside_216 (by decide) ?_
    exact ev_iret rfl rfl (by decide) (by decide) dX7_bestBeside_221 (eqP_E h)
def f_X7_bestBeside_j103 (G : Nat)  (v2 v4 v5 : Int32) (μ : Mem) : Option (Int32 × Mem) :=
  f_X7_bestBeside_L112 G (f_X7_bestBeside_j210 G) G v2 v4 v5 (0 : Int32) (0 : Int32) (1 : Int32) μ
set_option maxHeartbeats 4000000 in
set_option maxRecDepth 100000 in
theorem f_X7_bestBeside_j103_ok {bb : Bool} {G : Nat} {r : Int32} {μr : Mem}    {v2 v4 v5 : Int32} {μ : Mem} (h : f_X7_bestBeside_j103 G v2 v4 v5 μ = some (r, μr)) : Ev RX7 cX7_bestBeside 11 (some .int) false 7 0 0 (eqP (some r) (shC bb) μr) 103 [some (.ref 93), none, some (.int v2), none, some (.int v4), some (.int v5), none, none, none, none, none] [] (shC bb) μ 0 0 := by
  unfold f_X7_bestBeside_j103 at h
  refine ev_iconst (v := (0 : Int32)) dX7_bestBeside_103 (by decide) ?_
  refine ev_istore (loc' := [_, _, _, _, _, _, _, _, _, _, _]) dX7_bestBeside_104 rfl (by decide) (by rfl) ?_
  refine ev_iconst (v := (0 : Int32)) dX7_bestBeside_106 (by decide) ?_
  refine ev_istore (loc' := [_, _, _, _, _, _, _, _, _, _, _]) dX7_bestBeside_107 rfl (by decide) (by rfl) ?_
  refine ev_iconst (v := (1 : Int32)) dX7_bestBeside_109 (by decide) ?_
  refine ev_istore (loc' := [_, _, _, _, _, _, _, _, _, _, _]) dX7_bestBeside_110 rfl (by decide) (by rfl) ?_
  exact ev_lt (f_X7_bestBeside_L112_ok (fun _ _ _ _ hh => f_X7_bestBeside_j210_ok hh) _ _ _ _ _ _ _ _ h) ⟨rfl, ⟨rfl, ⟨rfl, ⟨rfl, ⟨rfl, ⟨rfl, ⟨rfl, trivial⟩⟩⟩⟩⟩⟩⟩
def f_X7_bestBeside (G : Nat) (p1 p2 : Int32) (μ : Mem) : Option (Int32 × Mem) :=
  chk p1 8 (bndO (f_X0_freeWomen G μ) (fun w3 =>
  (if (2 : Int32) ≤ (f_J6_bitCount_0f7a4 (w3 &&& ((sl (1 : Int32) (μ 12 (ix p1))) ^^^ (-1 : Int32)))) then
  bndE (f_X7_thoughtPoints G p1 (μ 12 (ix p1)) (1 : Int32) μ) (fun w7 m6 =>
  f_X7_bestBeside_L50 G (f_X7_bestBeside_j103 G) G p1 p2 (w3 &&& ((sl (1 : Int32) (μ 12 (ix p1))) ^^^ (-1 : Int32))) w7 (0 : Int32) m6)
  else
  some ((-10000 : Int32), μ))))
set_option maxHeartbeats 4000000 in
set_option maxRecDepth 100000 in
theorem c_X7_bestBeside {bb : Bool} {G : Nat} {μ : Mem} {p1 p2 : Int32} {r : Int32} {μr : Mem}  (h : f_X7_bestBeside G p1 p2 μ = some (r, μr)) : Cn yX7_bestBeside cX7_bestBeside 11 (some .int) 7 0 0 [.ref 93, .int p1, .int p2] (shC bb) μ (eqP (some r) (shC bb) μr) := by
  refine cn_of (own := RX7) (ini := false) (loc := [some (.ref 93), some (.int p1), some (.int p2), none, none, none, none, none, none, none, none]) rfl (by decide) (fun q => by cases q) (Nat.le_of_ble_eq_true rfl) (by rfl) rfl ?_
  unfold f_X7_bestBeside at h
  refine ev_aload_n dX7_bestBeside_0 rfl ?_
  refine ev_getR fr_X7_29 shC_93 rfl dX7_bestBeside_1 ?_
  refine ev_getR fr_X7_51 shC_1 rfl dX7_bestBeside_4 ?_
  refine ev_iload_n dX7_bestBeside_7 rfl ?_
  obtain ⟨hi1, h⟩ := chk_t h
  refine ev_iald shC_12 hi1 dX7_bestBeside_8 ?_
  refine ev_istore_n (loc' := [_, _, _, _, _, _, _, _, _, _, _]) dX7_bestBeside_9 rfl (by decide) (by rfl) ?_
  refine ev_aload_n dX7_bestBeside_10 rfl ?_
  refine ev_getR fr_X7_29 shC_93 rfl dX7_bestBeside_11 ?_
  obtain ⟨w3, hq2, h⟩ := bndO_t h
  refine ev_cVi mv_X7_209 dX7_bestBeside_14 (c_X0_freeWomen hq2) rfl shC_1 rfl rfl (Nat.le_of_ble_eq_true rfl) (by rfl) (Nat.le_of_ble_eq_true rfl) (Nat.le_of_ble_eq_true rfl) (Nat.le_of_ble_eq_true rfl) ?_
  refine ev_iconst (v := (1 : Int32)) dX7_bestBeside_17 (by decide) ?_
  refine ev_iload_n dX7_bestBeside_18 rfl ?_
  refine ev_ishl dX7_bestBeside_19 ?_
  refine ev_iconst (v := (-1 : Int32)) dX7_bestBeside_20 (by decide) ?_
  refine ev_ixor dX7_bestBeside_21 ?_
  refine ev_iand dX7_bestBeside_22 ?_
  refine ev_istore (loc' := [_, _, _, _, _, _, _, _, _, _, _]) dX7_bestBeside_23 rfl (by decide) (by rfl) ?_
  refine ev_iload dX7_bestBeside_25 rfl ?_
  refine ev_cSi mv_X7_212 dX7_bestBeside_27 c_J6_bitCount_0f7a4 rfl rfl (Nat.le_of_ble_eq_true rfl) (by rfl) (Nat.le_of_ble_eq_true rfl) (Nat.le_of_ble_eq_true rfl) (Nat.le_of_ble_eq_true rfl) ?_
  refine ev_iconst (v := (2 : Int32)) dX7_bestBeside_30 (by decide) ?_
  refine ev_icmp_ge (tgt := 38) dX7_bestBeside_31 (by decide) (fun hc4 => ?_) (fun hc4 => ?_)
  · replace h := ite_t hc4 h
    refine ev_aload_n dX7_bestBeside_38 rfl ?_
    refine ev_iload_n dX7_bestBeside_39 rfl ?_
    refine ev_iload_n dX7_bestBeside_40 rfl ?_
    refine ev_iconst (v := (1 : Int32)) dX7_bestBeside_41 (by decide) ?_
    obtain ⟨w7, m6, hq5, h⟩ := bndE_t h
    refine ev_cVi mv_X7_194 dX7_bestBeside_42 (c_X7_thoughtPoints hq5) rfl shC_93 rfl rfl (Nat.le_of_ble_eq_true rfl) (by rfl) (Nat.le_of_ble_eq_true rfl) (Nat.le_of_ble_eq_true rfl) (Nat.le_of_ble_eq_true rfl) ?_
    refine ev_istore (loc' := [_, _, _, _, _, _, _, _, _, _, _]) dX7_bestBeside_45 rfl (by decide) (by rfl) ?_
    refine ev_iconst (v := (0 : Int32)) dX7_bestBeside_47 (by decide) ?_
    refine ev_istore (loc' := [_, _, _, _, _, _, _, _, _, _, _]) dX7_bestBeside_48 rfl (by decide) (by rfl) ?_
    exact ev_lt (f_X7_bestBeside_L50_ok (fun _ _ _ _ hh => f_X7_bestBeside_j103_ok hh) _ _ _ _ _ _ _ h) ⟨rfl, ⟨rfl, ⟨rfl, ⟨rfl, ⟨rfl, ⟨rfl, trivial⟩⟩⟩⟩⟩⟩
  · replace h := ite_f hc4 h
    refine ev_sipush (v := (-10000 : Int32)) dX7_bestBeside_34 (by decide) ?_
    exact ev_iret rfl rfl (by decide) (by decide) dX7_bestBeside_37 (eqP_E h)
def f_X8_wivesOf_j34 (G : Nat) (a : Nat) (μ : Mem) (r13 : Int32 → Int32 → Int32 → Option Int32) (v1 v3 v4 : Int32) : Option Int32 :=
  r13 v1 v3 (v4 + (1 : Int32))
set_option maxHeartbeats 4000000 in
set_option maxRecDepth 100000 in
theorem f_X8_wivesOf_j34_ok {sh : List Shp} {G : Nat} {a : Nat} {μ : Mem} {r : Int32} (ha : At_X8 sh a) {r13 : Int32 → Int32 → Int32 → Option Int32} (hr13 : ∀ (v1 : Int32) (v3 : Int32) (v4 : Int32), r13 v1 v3 v4 = some r → Ev RX8 cX8_wivesOf 6 (some .int) false 1 0 0 (eqP (some r) sh μ) 13 [none, some (.int v1), some (.ref (a + 2)), some (.int v3), some (.int v4), none] [] sh μ 0 0) {v1 v3 v4 : Int32}  (h : f_X8_wivesOf_j34 G a μ r13 v1 v3 v4 = some r) : Ev RX8 cX8_wivesOf 6 (some .int) false 1 0 0 (eqP (some r) sh μ) 34 [none, some (.int v1), some (.ref (a + 2)), some (.int v3), some (.int v4), none] [] sh μ 0 0 := by
  unfold f_X8_wivesOf_j34 at h
  refine ev_iinc (cq := (1 : Int32)) (loc' := [_, _, _, _, _, _]) dX8_wivesOf_34 rfl (by decide) rfl (by decide) (by rfl) ?_
  refine ev_goto (tgt := 13) dX8_wivesOf_37 (by decide) ?_
  exact ev_lt (hr13 _ _ _ h) ⟨rfl, ⟨rfl, ⟨rfl, ⟨rfl, trivial⟩⟩⟩⟩
def f_X8_wivesOf_L13 (G : Nat) (a : Nat) (μ : Mem)  : Nat → Int32 → Int32 → Int32 → Option Int32
  | 0, _, _, _ => none
  | g + 1, v1, v3, v4 =>
  (if v3 ≤ v4 then
  some v1
  else
  chk v4 8 ((if (μ (a + 2) (ix v4)) = (-1 : Int32) then
  f_X8_wivesOf_j34 G a μ (f_X8_wivesOf_L13 G a μ g) v1 v3 v4
  else
  f_X8_wivesOf_j34 G a μ (f_X8_wivesOf_L13 G a μ g) (v1 + (1 : Int32)) v3 v4)))
set_option maxHeartbeats 4000000 in
set_option maxRecDepth 100000 in
theorem f_X8_wivesOf_L13_ok {sh : List Shp} {G : Nat} {a : Nat} {μ : Mem} {r : Int32} (ha : At_X8 sh a)   : ∀ (g : Nat) (v1 v3 v4 : Int32), f_X8_wivesOf_L13 G a μ g v1 v3 v4 = some r → Ev RX8 cX8_wivesOf 6 (some .int) false 1 0 0 (eqP (some r) sh μ) 13 [none, some (.int v1), some (.ref (a + 2)), some (.int v3), some (.int v4), none] [] sh μ 0 0 := by
  intro g
  induction g with
  | zero =>
    intro v1 v3 v4 h
    cases h
  | succ g ih =>
    intro v1 v3 v4 h
    rw [f_X8_wivesOf_L13] at h
    refine ev_iload dX8_wivesOf_13 rfl ?_
    refine ev_iload_n dX8_wivesOf_15 rfl ?_
    refine ev_icmp_ge (tgt := 40) dX8_wivesOf_16 (by decide) (fun hc1 => ?_) (fun hc1 => ?_)
    · replace h := ite_t hc1 h
      refine ev_iload_n dX8_wivesOf_40 rfl ?_
      exact ev_iret rfl rfl (by decide) (by decide) dX8_wivesOf_41 (eqP_O h)
    · replace h := ite_f hc1 h
      refine ev_aload_n dX8_wivesOf_19 rfl ?_
      refine ev_iload dX8_wivesOf_20 rfl ?_
      obtain ⟨hi2, h⟩ := chk_t h
      refine ev_iald (ha.2.2.1) hi2 dX8_wivesOf_22 ?_
      refine ev_istore (loc' := [_, _, _, _, _, _]) dX8_wivesOf_23 rfl (by decide) (by rfl) ?_
      refine ev_iload dX8_wivesOf_25 rfl ?_
      refine ev_iconst (v := (-1 : Int32)) dX8_wivesOf_27 (by decide) ?_
      refine ev_icmp_eq (tgt := 34) dX8_wivesOf_28 (by decide) (fun hc3 => ?_) (fun hc3 => ?_)
      · replace h := ite_t hc3 h
        exact ev_lt (f_X8_wivesOf_j34_ok ha ih h) ⟨rfl, ⟨rfl, ⟨rfl, ⟨rfl, trivial⟩⟩⟩⟩
      · replace h := ite_f hc3 h
        refine ev_iinc (cq := (1 : Int32)) (loc' := [_, _, _, _, _, _]) dX8_wivesOf_31 rfl (by decide) rfl (by decide) (by rfl) ?_
        exact ev_lt (f_X8_wivesOf_j34_ok ha ih h) ⟨rfl, ⟨rfl, ⟨rfl, ⟨rfl, trivial⟩⟩⟩⟩
def f_X8_wivesOf (G : Nat) (a : Nat) (μ : Mem) : Option Int32 :=
  f_X8_wivesOf_L13 G a μ G (0 : Int32) (8 : Int32) (0 : Int32)
set_option maxHeartbeats 4000000 in
set_option maxRecDepth 100000 in
theorem c_X8_wivesOf {sh : List Shp} {G : Nat} {a : Nat} {μ : Mem}  {r : Int32} (ha : At_X8 sh a) (h : f_X8_wivesOf G a μ = some r) : Cn yX8_wivesOf cX8_wivesOf 6 (some .int) 1 0 0 [.ref a] sh μ (eqP (some r) sh μ) := by
  refine cn_of (own := RX8) (ini := false) (loc := [some (.ref a), none, none, none, none, none]) rfl (by decide) (fun q => by cases q) (Nat.le_of_ble_eq_true rfl) (by rfl) rfl ?_
  unfold f_X8_wivesOf at h
  refine ev_iconst (v := (0 : Int32)) dX8_wivesOf_0 (by decide) ?_
  refine ev_istore_n (loc' := [_, _, _, _, _, _]) dX8_wivesOf_1 rfl (by decide) (by rfl) ?_
  refine ev_aload_n dX8_wivesOf_2 rfl ?_
  refine ev_getR fr_X8_15 (ha.1) rfl dX8_wivesOf_3 ?_
  refine ev_astore_n (loc' := [_, _, _, _, _, _]) dX8_wivesOf_6 rfl (by decide) (by rfl) ?_
  refine ev_aload_n dX8_wivesOf_7 rfl ?_
  refine ev_alen (v := (8 : Int32)) (ha.2.2.1) (by decide) dX8_wivesOf_8 ?_
  refine ev_istore_n (loc' := [_, _, _, _, _, _]) dX8_wivesOf_9 rfl (by decide) (by rfl) ?_
  refine ev_iconst (v := (0 : Int32)) dX8_wivesOf_10 (by decide) ?_
  refine ev_istore (loc' := [_, _, _, _, _, _]) dX8_wivesOf_11 rfl (by decide) (by rfl) ?_
  exact ev_lt (f_X8_wivesOf_L13_ok ha _ _ _ _ h) ⟨rfl, ⟨rfl, ⟨rfl, ⟨rfl, trivial⟩⟩⟩⟩
def f_X9_lay_j51 (G : Nat) (r10 : Int32 → Mem → Option Mem) (v2 : Int32) (μ : Mem) : Option Mem :=
  r10 (v2 + (1 : Int32)) μ
set_option maxHeartbeats 4000000 in
set_option maxRecDepth 100000 in
theorem f_X9_lay_j51_ok {bb : Bool} {G : Nat} {μr : Mem}  {r10 : Int32 → Mem → Option Mem} (hr10 : ∀ (v2 : Int32) (m : Mem), r10 v2 m = some μr → Ev RX9 cX9_lay 4 none false 3 0 0 (eqP none (shC bb) μr) 10 [some (.ref 110), some (.ref 34), some (.int v2), none] [] (shC bb) m 0 0) {v2 : Int32} {μ : Mem} (h : f_X9_lay_j51 G r10 v2 μ = some μr) : Ev RX9 cX9_lay 4 none false 3 0 0 (eqP none (shC bb) μr) 51 [some (.ref 110), some (.ref 34), some (.int v2), none] [] (shC bb) μ 0 0 := by
  unfold f_X9_lay_j51 at h
  refine ev_iinc (cq := (1 : Int32)) (loc' := [_, _, _, _]) dX9_lay_51 rfl (by decide) rfl (by decide) (by rfl) ?_
  refine ev_goto (tgt := 10) dX9_lay_54 (by decide) ?_
  exact ev_lt (hr10 _ _ h) ⟨rfl, ⟨rfl, ⟨rfl, trivial⟩⟩⟩
def f_X9_lay_L10 (G : Nat)  : Nat → Int32 → Mem → Option Mem
  | 0, _, _ => none
  | g + 1, v2, μ =>
  (if (μ 34 3) ≤ v2 then
  some μ
  else
  bndO (f_X2_at G 34 32 μ v2 (0 : Int32)) (fun w5 =>
  (if (f_X11_isBelow w5 (10 : Int32)) = (0 : Int32) then
  f_X9_lay_j51 G (f_X9_lay_L10 G g) v2 μ
  else
  chk w5 10 (bndO (f_X2_at G 34 32 μ v2 (1 : Int32)) (fun w9 =>
  chk w5 10 (let m10 := wr μ 111 (ix w5) ((μ 111 (ix w5)) ||| (sl (1 : Int32) w9))
  f_X9_lay_j51 G (f_X9_lay_L10 G g) v2 m10))))))
set_option maxHeartbeats 4000000 in
set_option maxRecDepth 100000 in
theorem f_X9_lay_L10_ok {bb : Bool} {G : Nat} {μr : Mem}    : ∀ (g : Nat) (v2 : Int32) (μ : Mem), f_X9_lay_L10 G g v2 μ = some μr → Ev RX9 cX9_lay 4 none false 3 0 0 (eqP none (shC bb) μr) 10 [some (.ref 110), some (.ref 34), some (.int v2), none] [] (shC bb) μ 0 0 := by
  intro g
  induction g with
  | zero =>
    intro v2 μ h
    cases h
  | succ g ih =>
    intro v2 μ h
    rw [f_X9_lay_L10] at h
    refine ev_iload_n dX9_lay_10 rfl ?_
    refine ev_aload_n dX9_lay_11 rfl ?_
    refine ev_getI fr_X9_21 shC_34 rfl dX9_lay_12 ?_
    refine ev_icmp_ge (tgt := 57) dX9_lay_15 (by decide) (fun hc3 => ?_) (fun hc3 => ?_)
    · replace h := ite_t hc3 h
      exact ev_vret rfl (by decide) (by decide) dX9_lay_57 (eqP_V h)
    · replace h := ite_f hc3 h
      refine ev_aload_n dX9_lay_18 rfl ?_
      refine ev_iload_n dX9_lay_19 rfl ?_
      refine ev_iconst (v := (0 : Int32)) dX9_lay_20 (by decide) ?_
      obtain ⟨w5, hq4, h⟩ := bndO_t h
      refine ev_cVi mv_X9_27 dX9_lay_21 (c_X2_at atC_34 hq4) rfl shC_34 rfl rfl (Nat.le_of_ble_eq_true rfl) (by rfl) (Nat.le_of_ble_eq_true rfl) (Nat.le_of_ble_eq_true rfl) (Nat.le_of_ble_eq_true rfl) ?_
      refine ev_istore_n (loc' := [_, _, _, _]) dX9_lay_24 rfl (by decide) (by rfl) ?_
      refine ev_iload_n dX9_lay_25 rfl ?_
      refine ev_bipush (v := (10 : Int32)) dX9_lay_26 (by decide) ?_
      refine ev_cNi mv_X9_31 dX9_lay_28 c_X11_isBelow rfl rfl (Nat.le_of_ble_eq_true rfl) (by rfl) (Nat.le_of_ble_eq_true rfl) (Nat.le_of_ble_eq_true rfl) (Nat.le_of_ble_eq_true rfl) ?_
      refine ev_if_eq (tgt := 51) dX9_lay_31 (by decide) (fun hc6 => ?_) (fun hc6 => ?_)
      · replace h := ite_t hc6 h
        exact ev_lt (f_X9_lay_j51_ok ih h) ⟨rfl, ⟨rfl, ⟨rfl, trivial⟩⟩⟩
      · replace h := ite_f hc6 h
        refine ev_aload_n dX9_lay_34 rfl ?_
        refine ev_getR fr_X9_11 shC_110 rfl dX9_lay_35 ?_
        refine ev_iload_n dX9_lay_38 rfl ?_
        refine ev_dup2 dX9_lay_39 (by rfl) (by rfl) ?_
        obtain ⟨hi7, h⟩ := chk_t h
        refine ev_iald shC_111 hi7 dX9_lay_40 ?_
        refine ev_iconst (v := (1 : Int32)) dX9_lay_41 (by decide) ?_
        refine ev_aload_n dX9_lay_42 rfl ?_
        refine ev_iload_n dX9_lay_43 rfl ?_
        refine ev_iconst (v := (1 : Int32)) dX9_lay_44 (by decide) ?_
        obtain ⟨w9, hq8, h⟩ := bndO_t h
        refine ev_cVi mv_X9_27 dX9_lay_45 (c_X2_at atC_34 hq8) rfl shC_34 rfl rfl (Nat.le_of_ble_eq_true rfl) (by rfl) (Nat.le_of_ble_eq_true rfl) (Nat.le_of_ble_eq_true rfl) (Nat.le_of_ble_eq_true rfl) ?_
        refine ev_ishl dX9_lay_48 ?_
        refine ev_ior dX9_lay_49 ?_
        obtain ⟨hi11, h⟩ := chk_t h
        refine ev_iast shC_111 hi11 dX9_lay_50 ?_
        exact ev_lt (f_X9_lay_j51_ok ih h) ⟨rfl, ⟨rfl, ⟨rfl, trivial⟩⟩⟩
def f_X9_lay (G : Nat) (μ : Mem) : Option Mem :=
  bndV (f_J7_fill_53178 G 111 10 (0 : Int32) μ) (fun m2 =>
  f_X9_lay_L10 G G (0 : Int32) m2)
set_option maxHeartbeats 4000000 in
set_option maxRecDepth 100000 in
theorem c_X9_lay {bb : Bool} {G : Nat} {μ : Mem} {μr : Mem}  (h : f_X9_lay G μ = some μr) : Cn yX9_lay cX9_lay 4 none 3 0 0 [.ref 110, .ref 34] (shC bb) μ (eqP none (shC bb) μr) := by
  refine cn_of (own := RX9) (ini := false) (loc := [some (.ref 110), some (.ref 34), none, none]) rfl (by decide) (fun q => by cases q) (Nat.le_of_ble_eq_true rfl) (by rfl) rfl ?_
  unfold f_X9_lay at h
  refine ev_aload_n dX9_lay_0 rfl ?_
  refine ev_getR fr_X9_11 shC_110 rfl dX9_lay_1 ?_
  refine ev_iconst (v := (0 : Int32)) dX9_lay_4 (by decide) ?_
  obtain ⟨m2, hq1, h⟩ := bndV_t h
  refine ev_cSv mv_X9_15 dX9_lay_5 (c_J7_fill_53178 shC_111 hq1) rfl rfl (Nat.le_of_ble_eq_true rfl) (by rfl) (Nat.le_of_ble_eq_true rfl) (Nat.le_of_ble_eq_true rfl) (Nat.le_of_ble_eq_true rfl) ?_
  refine ev_iconst (v := (0 : Int32)) dX9_lay_8 (by decide) ?_
  refine ev_istore_n (loc' := [_, _, _, _]) dX9_lay_9 rfl (by decide) (by rfl) ?_
  exact ev_lt (f_X9_lay_L10_ok _ _ _ h) ⟨rfl, ⟨rfl, ⟨rfl, trivial⟩⟩⟩
def f_X9_reached_j27 (G : Nat) (μ : Mem) (r4 : Int32 → Int32 → Int32 → Option Int32) (v1 v2 v3 : Int32) : Option Int32 :=
  r4 v1 v2 (v3 + (1 : Int32))
set_option maxHeartbeats 4000000 in
set_option maxRecDepth 100000 in
theorem f_X9_reached_j27_ok {bb : Bool} {G : Nat} {μ : Mem} {r : Int32}  {r4 : Int32 → Int32 → Int32 → Option Int32} (hr4 : ∀ (v1 : Int32) (v2 : Int32) (v3 : Int32), r4 v1 v2 v3 = some r → Ev RX9 cX9_reached 4 (some .int) false 2 0 0 (eqP (some r) (shC bb) μ) 4 [some (.ref 110), some (.int v1), some (.int v2), some (.int v3)] [] (shC bb) μ 0 0) {v1 v2 v3 : Int32}  (h : f_X9_reached_j27 G μ r4 v1 v2 v3 = some r) : Ev RX9 cX9_reached 4 (some .int) false 2 0 0 (eqP (some r) (shC bb) μ) 27 [some (.ref 110), some (.int v1), some (.int v2), some (.int v3)] [] (shC bb) μ 0 0 := by
  unfold f_X9_reached_j27 at h
  refine ev_iinc (cq := (1 : Int32)) (loc' := [_, _, _, _]) dX9_reached_27 rfl (by decide) rfl (by decide) (by rfl) ?_
  refine ev_goto (tgt := 4) dX9_reached_30 (by decide) ?_
  exact ev_lt (hr4 _ _ _ h) ⟨rfl, ⟨rfl, ⟨rfl, ⟨rfl, trivial⟩⟩⟩⟩
def f_X9_reached_L4 (G : Nat) (μ : Mem)  : Nat → Int32 → Int32 → Int32 → Option Int32
  | 0, _, _, _ => none
  | g + 1, v1, v2, v3 =>
  (if (10 : Int32) ≤ v3 then
  some v2
  else
  (if (f_X11_has v1 v3) = (0 : Int32) then
  f_X9_reached_j27 G μ (f_X9_reached_L4 G μ g) v1 v2 v3
  else
  chk v3 10 (f_X9_reached_j27 G μ (f_X9_reached_L4 G μ g) v1 (v2 ||| (μ 111 (ix v3))) v3)))
set_option maxHeartbeats 4000000 in
set_option maxRecDepth 100000 in
theorem f_X9_reached_L4_ok {bb : Bool} {G : Nat} {μ : Mem} {r : Int32}    : ∀ (g : Nat) (v1 v2 v3 : Int32), f_X9_reached_L4 G μ g v1 v2 v3 = some r → Ev RX9 cX9_reached 4 (some .int) false 2 0 0 (eqP (some r) (shC bb) μ) 4 [some (.ref 110), some (.int v1), some (.int v2), some (.int v3)] [] (shC bb) μ 0 0 := by
  intro g
  induction g with
  | zero =>
    intro v1 v2 v3 h
    cases h
  | succ g ih =>
    intro v1 v2 v3 h
    rw [f_X9_reached_L4] at h
    refine ev_iload_n dX9_reached_4 rfl ?_
    refine ev_bipush (v := (10 : Int32)) dX9_reached_5 (by decide) ?_
    refine ev_icmp_ge (tgt := 33) dX9_reached_7 (by decide) (fun hc1 => ?_) (fun hc1 => ?_)
    · replace h := ite_t hc1 h
      refine ev_iload_n dX9_reached_33 rfl ?_
      exact ev_iret rfl rfl (by decide) (by decide) dX9_reached_34 (eqP_O h)
    · replace h := ite_f hc1 h
      refine ev_iload_n dX9_reached_10 rfl ?_
      refine ev_iload_n dX9_reached_11 rfl ?_
      refine ev_cNi mv_X9_35 dX9_reached_12 c_X11_has rfl rfl (Nat.le_of_ble_eq_true rfl) (by rfl) (Nat.le_of_ble_eq_true rfl) (Nat.le_of_ble_eq_true rfl) (Nat.le_of_ble_eq_true rfl) ?_
      refine ev_if_eq (tgt := 27) dX9_reached_15 (by decide) (fun hc2 => ?_) (fun hc2 => ?_)
      · replace h := ite_t hc2 h
        exact ev_lt (f_X9_reached_j27_ok ih h) ⟨rfl, ⟨rfl, ⟨rfl, ⟨rfl, trivial⟩⟩⟩⟩
      · replace h := ite_f hc2 h
        refine ev_iload_n dX9_reached_18 rfl ?_
        refine ev_aload_n dX9_reached_19 rfl ?_
        refine ev_getR fr_X9_11 shC_110 rfl dX9_reached_20 ?_
        refine ev_iload_n dX9_reached_23 rfl ?_
        obtain ⟨hi3, h⟩ := chk_t h
        refine ev_iald shC_111 hi3 dX9_reached_24 ?_
        refine ev_ior dX9_reached_25 ?_
        refine ev_istore_n (loc' := [_, _, _, _]) dX9_reached_26 rfl (by decide) (by rfl) ?_
        exact ev_lt (f_X9_reached_j27_ok ih h) ⟨rfl, ⟨rfl, ⟨rfl, ⟨rfl, trivial⟩⟩⟩⟩
def f_X9_reached (G : Nat) (μ : Mem) (p1 : Int32) : Option Int32 :=
  f_X9_reached_L4 G μ G p1 p1 (0 : Int32)
set_option maxHeartbeats 4000000 in
set_option maxRecDepth 100000 in
theorem c_X9_reached {bb : Bool} {G : Nat} {μ : Mem}  {p1 : Int32} {r : Int32}  (h : f_X9_reached G μ p1 = some r) : Cn yX9_reached cX9_reached 4 (some .int) 2 0 0 [.ref 110, .int p1] (shC bb) μ (eqP (some r) (shC bb) μ) := by
  refine cn_of (own := RX9) (ini := false) (loc := [some (.ref 110), some (.int p1), none, none]) rfl (by decide) (fun q => by cases q) (Nat.le_of_ble_eq_true rfl) (by rfl) rfl ?_
  unfold f_X9_reached at h
  refine ev_iload_n dX9_reached_0 rfl ?_
  refine ev_istore_n (loc' := [_, _, _, _]) dX9_reached_1 rfl (by decide) (by rfl) ?_
  refine ev_iconst (v := (0 : Int32)) dX9_reached_2 (by decide) ?_
  refine ev_istore_n (loc' := [_, _, _, _]) dX9_reached_3 rfl (by decide) (by rfl) ?_
  exact ev_lt (f_X9_reached_L4_ok _ _ _ _ h) ⟨rfl, ⟨rfl, ⟨rfl, ⟨rfl, trivial⟩⟩⟩⟩
def f_X9_shortest_L7 (G : Nat) (μ : Mem)  : Nat → Int32 → Int32 → Int32 → Option Int32
  | 0, _, _, _ => none
  | g + 1, v2, v3, v4 =>
  (if (10 : Int32) ≤ v4 then
  some (-1 : Int32)
  else
  bndO (f_X9_reached G μ v3) (fun w3 =>
  (if (f_X11_has w3 v2) = (0 : Int32) then
  (f_X9_shortest_L7 G μ g) v2 w3 (v4 + (1 : Int32))
  else
  some v4)))
set_option maxHeartbeats 4000000 in
set_option maxRecDepth 100000 in
theorem f_X9_shortest_L7_ok {bb : Bool} {G : Nat} {μ : Mem} {r : Int32}    : ∀ (g : Nat) (v2 v3 v4 : Int32), f_X9_shortest_L7 G μ g v2 v3 v4 = some r → Ev RX9 cX9_shortest 5 (some .int) false 3 0 0 (eqP (some r) (shC bb) μ) 7 [some (.ref 110), none, some (.int v2), some (.int v3), some (.int v4)] [] (shC bb) μ 0 0 := by
  intro g
  induction g with
  | zero =>
    intro v2 v3 v4 h
    cases h
  | succ g ih =>
    intro v2 v3 v4 h
    rw [f_X9_shortest_L7] at h
    refine ev_iload dX9_shortest_7 rfl ?_
    refine ev_bipush (v := (10 : Int32)) dX9_shortest_9 (by decide) ?_
    refine ev_icmp_ge (tgt := 37) dX9_shortest_11 (by decide) (fun hc1 => ?_) (fun hc1 => ?_)
    · replace h := ite_t hc1 h
      refine ev_iconst (v := (-1 : Int32)) dX9_shortest_37 (by decide) ?_
      exact ev_iret rfl rfl (by decide) (by decide) dX9_shortest_38 (eqP_O h)
    · replace h := ite_f hc1 h
      refine ev_aload_n dX9_shortest_14 rfl ?_
      refine ev_iload_n dX9_shortest_15 rfl ?_
      obtain ⟨w3, hq2, h⟩ := bndO_t h
      refine ev_cVi mv_X9_38 dX9_shortest_16 (c_X9_reached hq2) rfl shC_110 rfl rfl (Nat.le_of_ble_eq_true rfl) (by rfl) (Nat.le_of_ble_eq_true rfl) (Nat.le_of_ble_eq_true rfl) (Nat.le_of_ble_eq_true rfl) ?_
      refine ev_istore_n (loc' := [_, _, _, _, _]) dX9_shortest_19 rfl (by decide) (by rfl) ?_
      refine ev_iload_n dX9_shortest_20 rfl ?_
      refine ev_iload_n dX9_shortest_21 rfl ?_
      refine ev_cNi mv_X9_35 dX9_shortest_22 c_X11_has rfl rfl (Nat.le_of_ble_eq_true rfl) (by rfl) (Nat.le_of_ble_eq_true rfl) (Nat.le_of_ble_eq_true rfl) (Nat.le_of_ble_eq_true rfl) ?_
      refine ev_if_eq (tgt := 31) dX9_shortest_25 (by decide) (fun hc4 => ?_) (fun hc4 => ?_)
      · replace h := ite_t hc4 h
        refine ev_iinc (cq := (1 : Int32)) (loc' := [_, _, _, _, _]) dX9_shortest_31 rfl (by decide) rfl (by decide) (by rfl) ?_
        refine ev_goto (tgt := 7) dX9_shortest_34 (by decide) ?_
        exact ev_lt (ih _ _ _ h) ⟨rfl, ⟨rfl, ⟨rfl, ⟨rfl, trivial⟩⟩⟩⟩
      · replace h := ite_f hc4 h
        refine ev_iload dX9_shortest_28 rfl ?_
        exact ev_iret rfl rfl (by decide) (by decide) dX9_shortest_30 (eqP_O h)
def f_X9_shortest (G : Nat) (μ : Mem) (p1 p2 : Int32) : Option Int32 :=
  f_X9_shortest_L7 G μ G p2 (sl (1 : Int32) p1) (1 : Int32)
set_option maxHeartbeats 4000000 in
set_option maxRecDepth 100000 in
theorem c_X9_shortest {bb : Bool} {G : Nat} {μ : Mem}  {p1 p2 : Int32} {r : Int32}  (h : f_X9_shortest G μ p1 p2 = some r) : Cn yX9_shortest cX9_shortest 5 (some .int) 3 0 0 [.ref 110, .int p1, .int p2] (shC bb) μ (eqP (some r) (shC bb) μ) := by
  refine cn_of (own := RX9) (ini := false) (loc := [some (.ref 110), some (.int p1), some (.int p2), none, none]) rfl (by decide) (fun q => by cases q) (Nat.le_of_ble_eq_true rfl) (by rfl) rfl ?_
  unfold f_X9_shortest at h
  refine ev_iconst (v := (1 : Int32)) dX9_shortest_0 (by decide) ?_
  refine ev_iload_n dX9_shortest_1 rfl ?_
  refine ev_ishl dX9_shortest_2 ?_
  refine ev_istore_n (loc' := [_, _, _, _, _]) dX9_shortest_3 rfl (by decide) (by rfl) ?_
  refine ev_iconst (v := (1 : Int32)) dX9_shortest_4 (by decide) ?_
  refine ev_istore (loc' := [_, _, _, _, _]) dX9_shortest_5 rfl (by decide) (by rfl) ?_
  exact ev_lt (f_X9_shortest_L7_ok _ _ _ _ h) ⟨rfl, ⟨rfl, ⟨rfl, ⟨rfl, trivial⟩⟩⟩⟩
def f_X9_parts_j68 (G : Nat) (μ : Mem) (r12 : Int32 → Int32 → Int32 → Int32 → Int32 → Option Int32) (k12_95 : Int32 → Int32 → Option Int32) (v2 v3 v4 v5 v6 s0 : Int32) : Option Int32 :=
  r12 v2 v3 (v4 ||| s0) ((v5 &&& (v5 - (1 : Int32))) ||| s0) (v6 + (1 : Int32))
set_option maxHeartbeats 4000000 in
set_option maxRecDepth 100000 in
theorem f_X9_parts_j68_ok {bb : Bool} {G : Nat} {μ : Mem} {r : Int32}  {r12 : Int32 → Int32 → Int32 → Int32 → Int32 → Option Int32} {k12_95 : Int32 → Int32 → Option Int32} (hr12 : ∀ (v2 : Int32) (v3 : Int32) (v4 : Int32) (v5 : Int32) (v6 : Int32), r12 v2 v3 v4 v5 v6 = some r → Ev RX9 cX9_parts 9 (some .boolean) false 2 0 0 (eqP (some r) (shC bb) μ) 12 [some (.ref 110), none, some (.int v2), some (.int v3), some (.int v4), some (.int v5), some (.int v6), none, none] [] (shC bb) μ 0 0) (hk12_95 : ∀ (v2 : Int32) (v4 : Int32), k12_95 v2 v4 = some r → Ev RX9 cX9_parts 9 (some .boolean) false 2 0 0 (eqP (some r) (shC bb) μ) 95 [none, none, some (.int v2), none, some (.int v4), none, none, none, none] [] (shC bb) μ 0 0) {v2 v3 v4 v5 v6 s0 : Int32}  (h : f_X9_parts_j68 G μ r12 k12_95 v2 v3 v4 v5 v6 s0 = some r) : Ev RX9 cX9_parts 9 (some .boolean) false 2 0 0 (eqP (some r) (shC bb) μ) 68 [some (.ref 110), none, some (.int v2), some (.int v3), some (.int v4), some (.int v5), some (.int v6), none, none] [.int s0] (shC bb) μ 0 0 := by
  unfold f_X9_parts_j68 at h
  refine ev_istore (loc' := [_, _, _, _, _, _, _, _, _]) dX9_parts_68 rfl (by decide) (by rfl) ?_
  refine ev_iload dX9_parts_70 rfl ?_
  refine ev_iload dX9_parts_72 rfl ?_
  refine ev_ior dX9_parts_74 ?_
  refine ev_istore (loc' := [_, _, _, _, _, _, _, _, _]) dX9_parts_75 rfl (by decide) (by rfl) ?_
  refine ev_iload dX9_parts_77 rfl ?_
  refine ev_iload dX9_parts_79 rfl ?_
  refine ev_iconst (v := (1 : Int32)) dX9_parts_81 (by decide) ?_
  refine ev_isub dX9_parts_82 ?_
  refine ev_iand dX9_parts_83 ?_
  refine ev_iload dX9_parts_84 rfl ?_
  refine ev_ior dX9_parts_86 ?_
  refine ev_istore (loc' := [_, _, _, _, _, _, _, _, _]) dX9_parts_87 rfl (by decide) (by rfl) ?_
  refine ev_iinc (cq := (1 : Int32)) (loc' := [_, _, _, _, _, _, _, _, _]) dX9_parts_89 rfl (by decide) rfl (by decide) (by rfl) ?_
  refine ev_goto (tgt := 12) dX9_parts_92 (by decide) ?_
  exact ev_lt (hr12 _ _ _ _ _ h) ⟨rfl, ⟨rfl, ⟨rfl, ⟨rfl, ⟨rfl, ⟨rfl, trivial⟩⟩⟩⟩⟩⟩
def f_X9_parts_L12 (G : Nat) (μ : Mem) (k12_95 : Int32 → Int32 → Option Int32) : Nat → Int32 → Int32 → Int32 → Int32 → Int32 → Option Int32
  | 0, _, _, _, _, _ => none
  | g + 1, v2, v3, v4, v5, v6 =>
  (if (10 : Int32) ≤ v6 then
  k12_95 v2 v4
  else
  (if v5 = (0 : Int32) then
  k12_95 v2 v4
  else
  (if (f_X11_isBelow (f_J6_bitCount_0f7a4 ((v5 - (1 : Int32)) &&& (v5 ^^^ (-1 : Int32)))) (10 : Int32)) = (0 : Int32) then
  f_X9_parts_j68 G μ (f_X9_parts_L12 G μ k12_95 g) k12_95 v2 v3 v4 v5 v6 (0 : Int32)
  else
  chk (f_J6_bitCount_0f7a4 ((v5 - (1 : Int32)) &&& (v5 ^^^ (-1 : Int32)))) 10 (f_X9_parts_j68 G μ (f_X9_parts_L12 G μ k12_95 g) k12_95 v2 v3 v4 v5 v6 (((μ 111 (ix (f_J6_bitCount_0f7a4 ((v5 - (1 : Int32)) &&& (v5 ^^^ (-1 : Int32)))))) &&& (v3 ^^^ (-1 : Int32))) &&& (v4 ^^^ (-1 : Int32)))))))
set_option maxHeartbeats 4000000 in
set_option maxRecDepth 100000 in
theorem f_X9_parts_L12_ok {bb : Bool} {G : Nat} {μ : Mem} {r : Int32}  {k12_95 : Int32 → Int32 → Option Int32} (hk12_95 : ∀ (v2 : Int32) (v4 : Int32), k12_95 v2 v4 = some r → Ev RX9 cX9_parts 9 (some .boolean) false 2 0 0 (eqP (some r) (shC bb) μ) 95 [none, none, some (.int v2), none, some (.int v4), none, none, none, none] [] (shC bb) μ 0 0) : ∀ (g : Nat) (v2 v3 v4 v5 v6 : Int32), f_X9_parts_L12 G μ k12_95 g v2 v3 v4 v5 v6 = some r → Ev RX9 cX9_parts 9 (some .boolean) false 2 0 0 (eqP (some r) (shC bb) μ) 12 [some (.ref 110), none, some (.int v2), some (.int v3), some (.int v4), some (.int v5), some (.int v6), none, none] [] (shC bb) μ 0 0 := by
  intro g
  induction g with
  | zero =>
    intro v2 v3 v4 v5 v6 h
    cases h
  | succ g ih =>
    intro v2 v3 v4 v5 v6 h
    rw [f_X9_parts_L12] at h
    refine ev_iload dX9_parts_12 rfl ?_
    refine ev_bipush (v := (10 : Int32)) dX9_parts_14 (by decide) ?_
    refine ev_icmp_ge (tgt := 95) dX9_parts_16 (by decide) (fun hc1 => ?_) (fun hc1 => ?_)
    · replace h := ite_t hc1 h
      exact ev_lt (hk12_95 _ _ h) ⟨rfl, ⟨rfl, trivial⟩⟩
    · replace h := ite_f hc1 h
      refine ev_iload dX9_parts_19 rfl ?_
      refine ev_if_eq (tgt := 95) dX9_parts_21 (by decide) (fun hc2 => ?_) (fun hc2 => ?_)
      · replace h := ite_t hc2 h
        exact ev_lt (hk12_95 _ _ h) ⟨rfl, ⟨rfl, trivial⟩⟩
      · replace h := ite_f hc2 h
        refine ev_iload dX9_parts_24 rfl ?_
        refine ev_iconst (v := (1 : Int32)) dX9_parts_26 (by decide) ?_
        refine ev_isub dX9_parts_27 ?_
        refine ev_iload dX9_parts_28 rfl ?_
        refine ev_iconst (v := (-1 : Int32)) dX9_parts_30 (by decide) ?_
        refine ev_ixor dX9_parts_31 ?_
        refine ev_iand dX9_parts_32 ?_
        refine ev_cSi mv_X9_42 dX9_parts_33 c_J6_bitCount_0f7a4 rfl rfl (Nat.le_of_ble_eq_true rfl) (by rfl) (Nat.le_of_ble_eq_true rfl) (Nat.le_of_ble_eq_true rfl) (Nat.le_of_ble_eq_true rfl) ?_
        refine ev_istore (loc' := [_, _, _, _, _, _, _, _, _]) dX9_parts_36 rfl (by decide) (by rfl) ?_
        refine ev_iload dX9_parts_38 rfl ?_
        refine ev_bipush (v := (10 : Int32)) dX9_parts_40 (by decide) ?_
        refine ev_cNi mv_X9_31 dX9_parts_42 c_X11_isBelow rfl rfl (Nat.le_of_ble_eq_true rfl) (by rfl) (Nat.le_of_ble_eq_true rfl) (Nat.le_of_ble_eq_true rfl) (Nat.le_of_ble_eq_true rfl) ?_
        refine ev_if_eq (tgt := 67) dX9_parts_45 (by decide) (fun hc3 => ?_) (fun hc3 => ?_)
        · replace h := ite_t hc3 h
          refine ev_iconst (v := (0 : Int32)) dX9_parts_67 (by decide) ?_
          exact ev_lt (f_X9_parts_j68_ok ih hk12_95 h) ⟨rfl, ⟨rfl, ⟨rfl, ⟨rfl, ⟨rfl, ⟨rfl, trivial⟩⟩⟩⟩⟩⟩
        · replace h := ite_f hc3 h
          refine ev_aload_n dX9_parts_48 rfl ?_
          refine ev_getR fr_X9_11 shC_110 rfl dX9_parts_49 ?_
          refine ev_iload dX9_parts_52 rfl ?_
          obtain ⟨hi4, h⟩ := chk_t h
          refine ev_iald shC_111 hi4 dX9_parts_54 ?_
          refine ev_iload_n dX9_parts_55 rfl ?_
          refine ev_iconst (v := (-1 : Int32)) dX9_parts_56 (by decide) ?_
          refine ev_ixor dX9_parts_57 ?_
          refine ev_iand dX9_parts_58 ?_
          refine ev_iload dX9_parts_59 rfl ?_
          refine ev_iconst (v := (-1 : Int32)) dX9_parts_61 (by decide) ?_
          refine ev_ixor dX9_parts_62 ?_
          refine ev_iand dX9_parts_63 ?_
          refine ev_goto (tgt := 68) dX9_parts_64 (by decide) ?_
          exact ev_lt (f_X9_parts_j68_ok ih hk12_95 h) ⟨rfl, ⟨rfl, ⟨rfl, ⟨rfl, ⟨rfl, ⟨rfl, trivial⟩⟩⟩⟩⟩⟩
def f_X9_parts_j95 (G : Nat) (μ : Mem)  (v2 v4 : Int32) : Option Int32 :=
  (if (f_X11_has v4 v2) = (0 : Int32) then
  some (1 : Int32)
  else
  some (0 : Int32))
set_option maxHeartbeats 4000000 in
set_option maxRecDepth 100000 in
theorem f_X9_parts_j95_ok {bb : Bool} {G : Nat} {μ : Mem} {r : Int32}    {v2 v4 : Int32}  (h : f_X9_parts_j95 G μ v2 v4 = some r) : Ev RX9 cX9_parts 9 (some .boolean) false 2 0 0 (eqP (some r) (shC bb) μ) 95 [none, none, some (.int v2), none, some (.int v4), none, none, none, none] [] (shC bb) μ 0 0 := by
  unfold f_X9_parts_j95 at h
  refine ev_iload dX9_parts_95 rfl ?_
  refine ev_iload_n dX9_parts_97 rfl ?_
  refine ev_cNi mv_X9_35 dX9_parts_98 c_X11_has rfl rfl (Nat.le_of_ble_eq_true rfl) (by rfl) (Nat.le_of_ble_eq_true rfl) (Nat.le_of_ble_eq_true rfl) (Nat.le_of_ble_eq_true rfl) ?_
  refine ev_if_ne (tgt := 108) dX9_parts_101 (by decide) (fun hc5 => ?_) (fun hc5 => ?_)
  · replace h := ite_f hc5 h
    refine ev_iconst (v := (0 : Int32)) dX9_parts_108 (by decide) ?_
    exact ev_iret rfl rfl (by decide) (by decide) dX9_parts_109 (eqP_O h)
  · replace h := ite_t hc5 h
    refine ev_iconst (v := (1 : Int32)) dX9_parts_104 (by decide) ?_
    refine ev_goto (tgt := 109) dX9_parts_105 (by decide) ?_
    exact ev_iret rfl rfl (by decide) (by decide) dX9_parts_109 (eqP_O h)
def f_X9_parts (G : Nat) (μ : Mem) (p1 p2 p3 : Int32) : Option Int32 :=
  f_X9_parts_L12 G μ (f_X9_parts_j95 G μ) G p2 p3 (sl (1 : Int32) p1) (sl (1 : Int32) p1) (0 : Int32)
set_option maxHeartbeats 4000000 in
set_option maxRecDepth 100000 in
theorem c_X9_parts {bb : Bool} {G : Nat} {μ : Mem}  {p1 p2 p3 : Int32} {r : Int32}  (h : f_X9_parts G μ p1 p2 p3 = some r) : Cn yX9_parts cX9_parts 9 (some .boolean) 2 0 0 [.ref 110, .int p1, .int p2, .int p3] (shC bb) μ (eqP (some r) (shC bb) μ) := by
  refine cn_of (own := RX9) (ini := false) (loc := [some (.ref 110), some (.int p1), some (.int p2), some (.int p3), none, none, none, none, none]) rfl (by decide) (fun q => by cases q) (Nat.le_of_ble_eq_true rfl) (by rfl) rfl ?_
  unfold f_X9_parts at h
  refine ev_iconst (v := (1 : Int32)) dX9_parts_0 (by decide) ?_
  refine ev_iload_n dX9_parts_1 rfl ?_
  refine ev_ishl dX9_parts_2 ?_
  refine ev_istore (loc' := [_, _, _, _, _, _, _, _, _]) dX9_parts_3 rfl (by decide) (by rfl) ?_
  refine ev_iload dX9_parts_5 rfl ?_
  refine ev_istore (loc' := [_, _, _, _, _, _, _, _, _]) dX9_parts_7 rfl (by decide) (by rfl) ?_
  refine ev_iconst (v := (0 : Int32)) dX9_parts_9 (by decide) ?_
  refine ev_istore (loc' := [_, _, _, _, _, _, _, _, _]) dX9_parts_10 rfl (by decide) (by rfl) ?_
  exact ev_lt (f_X9_parts_L12_ok (fun _ _ hh => f_X9_parts_j95_ok hh) _ _ _ _ _ _ h) ⟨rfl, ⟨rfl, ⟨rfl, ⟨rfl, ⟨rfl, ⟨rfl, trivial⟩⟩⟩⟩⟩⟩
def f_X9_apart_j86 (G : Nat) (r32 : Int32 → Int32 → Int32 → Int32 → Int32 → Mem → Option (Int32 × Mem)) (v1 v2 v3 v4 v5 : Int32) (μ : Mem) : Option (Int32 × Mem) :=
  r32 v1 v2 v3 v4 (v5 + (1 : Int32)) μ
set_option maxHeartbeats 4000000 in
set_option maxRecDepth 100000 in
theorem f_X9_apart_j86_ok {bb : Bool} {G : Nat} {r : Int32} {μr : Mem}  {r32 : Int32 → Int32 → Int32 → Int32 → Int32 → Mem → Option (Int32 × Mem)} (hr32 : ∀ (v1 : Int32) (v2 : Int32) (v3 : Int32) (v4 : Int32) (v5 : Int32) (m : Mem), r32 v1 v2 v3 v4 v5 m = some (r, μr) → Ev RX9 cX9_apart 6 (some .int) false 3 0 0 (eqP (some r) (shC bb) μr) 32 [some (.ref 110), some (.int v1), some (.int v2), some (.int v3), some (.int v4), some (.int v5)] [] (shC bb) m 0 0) {v1 v2 v3 v4 v5 : Int32} {μ : Mem} (h : f_X9_apart_j86 G r32 v1 v2 v3 v4 v5 μ = some (r, μr)) : Ev RX9 cX9_apart 6 (some .int) false 3 0 0 (eqP (some r) (shC bb) μr) 86 [some (.ref 110), some (.int v1), some (.int v2), some (.int v3), some (.int v4), some (.int v5)] [] (shC bb) μ 0 0 := by
  unfold f_X9_apart_j86 at h
  refine ev_iinc (cq := (1 : Int32)) (loc' := [_, _, _, _, _, _]) dX9_apart_86 rfl (by decide) rfl (by decide) (by rfl) ?_
  refine ev_goto (tgt := 32) dX9_apart_89 (by decide) ?_
  exact ev_lt (hr32 _ _ _ _ _ _ h) ⟨rfl, ⟨rfl, ⟨rfl, ⟨rfl, ⟨rfl, ⟨rfl, trivial⟩⟩⟩⟩⟩⟩
def f_X9_apart_L32 (G : Nat)  : Nat → Int32 → Int32 → Int32 → Int32 → Int32 → Mem → Option (Int32 × Mem)
  | 0, _, _, _, _, _, _ => none
  | g + 1, v1, v2, v3, v4, v5, μ =>
  (if (1024 : Int32) ≤ v5 then
  some ((v4 + v3), μ)
  else
  (if (f_X11_has v5 v1) = (0 : Int32) then
  (if (f_X11_has v5 v2) = (0 : Int32) then
  (if v4 ≤ (f_J6_bitCount_0f7a4 v5) then
  f_X9_apart_j86 G (f_X9_apart_L32 G g) v1 v2 v3 v4 v5 μ
  else
  bndO (f_X9_parts G μ v1 v2 v5) (fun w10 =>
  (if w10 = (0 : Int32) then
  f_X9_apart_j86 G (f_X9_apart_L32 G g) v1 v2 v3 v4 v5 μ
  else
  f_X9_apart_j86 G (f_X9_apart_L32 G g) v1 v2 v3 (f_J6_bitCount_0f7a4 v5) v5 μ)))
  else
  f_X9_apart_j86 G (f_X9_apart_L32 G g) v1 v2 v3 v4 v5 μ)
  else
  f_X9_apart_j86 G (f_X9_apart_L32 G g) v1 v2 v3 v4 v5 μ))
set_option maxHeartbeats 4000000 in
set_option maxRecDepth 100000 in
theorem f_X9_apart_L32_ok {bb : Bool} {G : Nat} {r : Int32} {μr : Mem}    : ∀ (g : Nat) (v1 v2 v3 v4 v5 : Int32) (μ : Mem), f_X9_apart_L32 G g v1 v2 v3 v4 v5 μ = some (r, μr) → Ev RX9 cX9_apart 6 (some .int) false 3 0 0 (eqP (some r) (shC bb) μr) 32 [some (.ref 110), some (.int v1), some (.int v2), some (.int v3), some (.int v4), some (.int v5)] [] (shC bb) μ 0 0 := by
  intro g
  induction g with
  | zero =>
    intro v1 v2 v3 v4 v5 μ h
    cases h
  | succ g ih =>
    intro v1 v2 v3 v4 v5 μ h
    rw [f_X9_apart_L32] at h
    refine ev_iload dX9_apart_32 rfl ?_
    refine ev_sipush (v := (1024 : Int32)) dX9_apart_34 (by decide) ?_
    refine ev_icmp_ge (tgt := 92) dX9_apart_37 (by decide) (fun hc5 => ?_) (fun hc5 => ?_)
    · replace h := ite_t hc5 h
      refine ev_iload dX9_apart_92 rfl ?_
      refine ev_iload_n dX9_apart_94 rfl ?_
      refine ev_iadd dX9_apart_95 ?_
      exact ev_iret rfl rfl (by decide) (by decide) dX9_apart_96 (eqP_E h)
    · replace h := ite_f hc5 h
      refine ev_iload dX9_apart_40 rfl ?_
      refine ev_iload_n dX9_apart_42 rfl ?_
      refine ev_cNi mv_X9_35 dX9_apart_43 c_X11_has rfl rfl (Nat.le_of_ble_eq_true rfl) (by rfl) (Nat.le_of_ble_eq_true rfl) (Nat.le_of_ble_eq_true rfl) (Nat.le_of_ble_eq_true rfl) ?_
      refine ev_if_ne (tgt := 86) dX9_apart_46 (by decide) (fun hc6 => ?_) (fun hc6 => ?_)
      · replace h := ite_f hc6 h
        exact ev_lt (f_X9_apart_j86_ok ih h) ⟨rfl, ⟨rfl, ⟨rfl, ⟨rfl, ⟨rfl, ⟨rfl, trivial⟩⟩⟩⟩⟩⟩
      · replace h := ite_t hc6 h
        refine ev_iload dX9_apart_49 rfl ?_
        refine ev_iload_n dX9_apart_51 rfl ?_
        refine ev_cNi mv_X9_35 dX9_apart_52 c_X11_has rfl rfl (Nat.le_of_ble_eq_true rfl) (by rfl) (Nat.le_of_ble_eq_true rfl) (Nat.le_of_ble_eq_true rfl) (Nat.le_of_ble_eq_true rfl) ?_
        refine ev_if_ne (tgt := 86) dX9_apart_55 (by decide) (fun hc7 => ?_) (fun hc7 => ?_)
        · replace h := ite_f hc7 h
          exact ev_lt (f_X9_apart_j86_ok ih h) ⟨rfl, ⟨rfl, ⟨rfl, ⟨rfl, ⟨rfl, ⟨rfl, trivial⟩⟩⟩⟩⟩⟩
        · replace h := ite_t hc7 h
          refine ev_iload dX9_apart_58 rfl ?_
          refine ev_cSi mv_X9_42 dX9_apart_60 c_J6_bitCount_0f7a4 rfl rfl (Nat.le_of_ble_eq_true rfl) (by rfl) (Nat.le_of_ble_eq_true rfl) (Nat.le_of_ble_eq_true rfl) (Nat.le_of_ble_eq_true rfl) ?_
          refine ev_iload dX9_apart_63 rfl ?_
          refine ev_icmp_ge (tgt := 86) dX9_apart_65 (by decide) (fun hc8 => ?_) (fun hc8 => ?_)
          · replace h := ite_t hc8 h
            exact ev_lt (f_X9_apart_j86_ok ih h) ⟨rfl, ⟨rfl, ⟨rfl, ⟨rfl, ⟨rfl, ⟨rfl, trivial⟩⟩⟩⟩⟩⟩
          · replace h := ite_f hc8 h
            refine ev_aload_n dX9_apart_68 rfl ?_
            refine ev_iload_n dX9_apart_69 rfl ?_
            refine ev_iload_n dX9_apart_70 rfl ?_
            refine ev_iload dX9_apart_71 rfl ?_
            obtain ⟨w10, hq9, h⟩ := bndO_t h
            refine ev_cVi mv_X9_47 dX9_apart_73 (c_X9_parts hq9) rfl shC_110 rfl rfl (Nat.le_of_ble_eq_true rfl) (by rfl) (Nat.le_of_ble_eq_true rfl) (Nat.le_of_ble_eq_true rfl) (Nat.le_of_ble_eq_true rfl) ?_
            refine ev_if_eq (tgt := 86) dX9_apart_76 (by decide) (fun hc11 => ?_) (fun hc11 => ?_)
            · replace h := ite_t hc11 h
              exact ev_lt (f_X9_apart_j86_ok ih h) ⟨rfl, ⟨rfl, ⟨rfl, ⟨rfl, ⟨rfl, ⟨rfl, trivial⟩⟩⟩⟩⟩⟩
            · replace h := ite_f hc11 h
              refine ev_iload dX9_apart_79 rfl ?_
              refine ev_cSi mv_X9_42 dX9_apart_81 c_J6_bitCount_0f7a4 rfl rfl (Nat.le_of_ble_eq_true rfl) (by rfl) (Nat.le_of_ble_eq_true rfl) (Nat.le_of_ble_eq_true rfl) (Nat.le_of_ble_eq_true rfl) ?_
              refine ev_istore (loc' := [_, _, _, _, _, _]) dX9_apart_84 rfl (by decide) (by rfl) ?_
              exact ev_lt (f_X9_apart_j86_ok ih h) ⟨rfl, ⟨rfl, ⟨rfl, ⟨rfl, ⟨rfl, ⟨rfl, trivial⟩⟩⟩⟩⟩⟩
def f_X9_apart (G : Nat) (p1 p2 : Int32) (μ : Mem) : Option (Int32 × Mem) :=
  chk p1 10 (chk p1 10 (chk p1 10 (let m3 := wr μ 111 (ix p1) ((μ 111 (ix p1)) &&& ((sl (1 : Int32) p2) ^^^ (-1 : Int32)))
  f_X9_apart_L32 G G p1 p2 ((sr (μ 111 (ix p1)) p2) &&& (1 : Int32)) (10 : Int32) (0 : Int32) m3)))
set_option maxHeartbeats 4000000 in
set_option maxRecDepth 100000 in
theorem c_X9_apart {bb : Bool} {G : Nat} {μ : Mem} {p1 p2 : Int32} {r : Int32} {μr : Mem}  (h : f_X9_apart G p1 p2 μ = some (r, μr)) : Cn yX9_apart cX9_apart 6 (some .int) 3 0 0 [.ref 110, .int p1, .int p2] (shC bb) μ (eqP (some r) (shC bb) μr) := by
  refine cn_of (own := RX9) (ini := false) (loc := [some (.ref 110), some (.int p1), some (.int p2), none, none, none]) rfl (by decide) (fun q => by cases q) (Nat.le_of_ble_eq_true rfl) (by rfl) rfl ?_
  unfold f_X9_apart at h
  refine ev_aload_n dX9_apart_0 rfl ?_
  refine ev_getR fr_X9_11 shC_110 rfl dX9_apart_1 ?_
  refine ev_iload_n dX9_apart_4 rfl ?_
  obtain ⟨hi1, h⟩ := chk_t h
  refine ev_iald shC_111 hi1 dX9_apart_5 ?_
  refine ev_iload_n dX9_apart_6 rfl ?_
  refine ev_ishr dX9_apart_7 ?_
  refine ev_iconst (v := (1 : Int32)) dX9_apart_8 (by decide) ?_
  refine ev_iand dX9_apart_9 ?_
  refine ev_istore_n (loc' := [_, _, _, _, _, _]) dX9_apart_10 rfl (by decide) (by rfl) ?_
  refine ev_aload_n dX9_apart_11 rfl ?_
  refine ev_getR fr_X9_11 shC_110 rfl dX9_apart_12 ?_
  refine ev_iload_n dX9_apart_15 rfl ?_
  refine ev_dup2 dX9_apart_16 (by rfl) (by rfl) ?_
  obtain ⟨hi2, h⟩ := chk_t h
  refine ev_iald shC_111 hi2 dX9_apart_17 ?_
  refine ev_iconst (v := (1 : Int32)) dX9_apart_18 (by decide) ?_
  refine ev_iload_n dX9_apart_19 rfl ?_
  refine ev_ishl dX9_apart_20 ?_
  refine ev_iconst (v := (-1 : Int32)) dX9_apart_21 (by decide) ?_
  refine ev_ixor dX9_apart_22 ?_
  refine ev_iand dX9_apart_23 ?_
  obtain ⟨hi4, h⟩ := chk_t h
  refine ev_iast shC_111 hi4 dX9_apart_24 ?_
  refine ev_bipush (v := (10 : Int32)) dX9_apart_25 (by decide) ?_
  refine ev_istore (loc' := [_, _, _, _, _, _]) dX9_apart_27 rfl (by decide) (by rfl) ?_
  refine ev_iconst (v := (0 : Int32)) dX9_apart_29 (by decide) ?_
  refine ev_istore (loc' := [_, _, _, _, _, _]) dX9_apart_30 rfl (by decide) (by rfl) ?_
  exact ev_lt (f_X9_apart_L32_ok _ _ _ _ _ _ _ h) ⟨rfl, ⟨rfl, ⟨rfl, ⟨rfl, ⟨rfl, ⟨rfl, trivial⟩⟩⟩⟩⟩⟩
def f_X11_state (G : Nat) (p1 : Int32) (μ : Mem) : Option (Int32 × Mem) :=
  (let m1 := wr μ 2 8 p1
  bndV (f_X3_forget G m1) (fun m3 =>
  some ((μ 2 8), m3)))
set_option maxHeartbeats 4000000 in
set_option maxRecDepth 100000 in
theorem c_X11_state {bb : Bool} {G : Nat} {μ : Mem} {p1 : Int32} {r : Int32} {μr : Mem}  (h : f_X11_state G p1 μ = some (r, μr)) : Cn yX11_state cX11_state 3 (some .int) 2 0 0 [.ref 0, .int p1] (shC bb) μ (eqP (some r) (shC bb) μr) := by
  refine cn_of (own := RX11) (ini := false) (loc := [some (.ref 0), some (.int p1), none]) rfl (by decide) (fun q => by cases q) (Nat.le_of_ble_eq_true rfl) (by rfl) rfl ?_
  unfold f_X11_state at h
  refine ev_aload_n dX11_state_0 rfl ?_
  refine ev_getR fr_X11_12 shC_0 rfl dX11_state_1 ?_
  refine ev_getR fr_X11_63 shC_1 rfl dX11_state_4 ?_
  refine ev_getI fr_X11_66 shC_2 rfl dX11_state_7 ?_
  refine ev_istore_n (loc' := [_, _, _]) dX11_state_10 rfl (by decide) (by rfl) ?_
  refine ev_aload_n dX11_state_11 rfl ?_
  refine ev_getR fr_X11_12 shC_0 rfl dX11_state_12 ?_
  refine ev_getR fr_X11_63 shC_1 rfl dX11_state_15 ?_
  refine ev_iload_n dX11_state_18 rfl ?_
  refine ev_putI fr_X11_66 shC_2 rfl rfl rfl dX11_state_19 ?_
  refine ev_aload_n dX11_state_22 rfl ?_
  refine ev_getR fr_X11_26 shC_0 rfl dX11_state_23 ?_
  obtain ⟨m3, hq2, h⟩ := bndV_t h
  refine ev_cVv mv_X11_70 dX11_state_26 (c_X3_forget hq2) rfl shC_54 rfl rfl (Nat.le_of_ble_eq_true rfl) (by rfl) (Nat.le_of_ble_eq_true rfl) (Nat.le_of_ble_eq_true rfl) (Nat.le_of_ble_eq_true rfl) ?_
  refine ev_iload_n dX11_state_29 rfl ?_
  exact ev_iret rfl rfl (by decide) (by decide) dX11_state_30 (eqP_E h)
def f_X11_woman (G : Nat) (p1 p2 p3 : Int32) (μ : Mem) : Option (Int32 × Mem) :=
  (if (f_X11_isDigit p1) = (0 : Int32) then
  some ((-1 : Int32), μ)
  else
  (if (f_X11_isDigit p2) = (0 : Int32) then
  some ((-1 : Int32), μ)
  else
  (if (f_X11_isDigit p3) = (0 : Int32) then
  some ((-1 : Int32), μ)
  else
  bndE (f_X0_addWoman G p1 p2 p3 μ) (fun w6 m5 =>
  (if w6 = (-1 : Int32) then
  some (w6, m5)
  else
  bndV (f_X3_forget G m5) (fun m9 =>
  some (w6, m9)))))))
set_option maxHeartbeats 4000000 in
set_option maxRecDepth 100000 in
theorem c_X11_woman {bb : Bool} {G : Nat} {μ : Mem} {p1 p2 p3 : Int32} {r : Int32} {μr : Mem}  (h : f_X11_woman G p1 p2 p3 μ = some (r, μr)) : Cn yX11_woman cX11_woman 5 (some .int) 2 0 0 [.ref 0, .int p1, .int p2, .int p3] (shC bb) μ (eqP (some r) (shC bb) μr) := by
  refine cn_of (own := RX11) (ini := false) (loc := [some (.ref 0), some (.int p1), some (.int p2), some (.int p3), none]) rfl (by decide) (fun q => by cases q) (Nat.le_of_ble_eq_true rfl) (by rfl) rfl ?_
  unfold f_X11_woman at h
  refine ev_iload_n dX11_woman_0 rfl ?_
  refine ev_cSi mv_X11_73 dX11_woman_1 c_X11_isDigit rfl rfl (Nat.le_of_ble_eq_true rfl) (by rfl) (Nat.le_of_ble_eq_true rfl) (Nat.le_of_ble_eq_true rfl) (Nat.le_of_ble_eq_true rfl) ?_
  refine ev_if_eq (tgt := 21) dX11_woman_4 (by decide) (fun hc1 => ?_) (fun hc1 => ?_)
  · replace h := ite_t hc1 h
    refine ev_iconst (v := (-1 : Int32)) dX11_woman_21 (by decide) ?_
    exact ev_iret rfl rfl (by decide) (by decide) dX11_woman_22 (eqP_E h)
  · replace h := ite_f hc1 h
    refine ev_iload_n dX11_woman_7 rfl ?_
    refine ev_cSi mv_X11_73 dX11_woman_8 c_X11_isDigit rfl rfl (Nat.le_of_ble_eq_true rfl) (by rfl) (Nat.le_of_ble_eq_true rfl) (Nat.le_of_ble_eq_true rfl) (Nat.le_of_ble_eq_true rfl) ?_
    refine ev_if_eq (tgt := 21) dX11_woman_11 (by decide) (fun hc2 => ?_) (fun hc2 => ?_)
    · replace h := ite_t hc2 h
      refine ev_iconst (v := (-1 : Int32)) dX11_woman_21 (by decide) ?_
      exact ev_iret rfl rfl (by decide) (by decide) dX11_woman_22 (eqP_E h)
    · replace h := ite_f hc2 h
      refine ev_iload_n dX11_woman_14 rfl ?_
      refine ev_cSi mv_X11_73 dX11_woman_15 c_X11_isDigit rfl rfl (Nat.le_of_ble_eq_true rfl) (by rfl) (Nat.le_of_ble_eq_true rfl) (Nat.le_of_ble_eq_true rfl) (Nat.le_of_ble_eq_true rfl) ?_
      refine ev_if_ne (tgt := 23) dX11_woman_18 (by decide) (fun hc3 => ?_) (fun hc3 => ?_)
      · replace h := ite_f hc3 h
        refine ev_aload_n dX11_woman_23 rfl ?_
        refine ev_getR fr_X11_12 shC_0 rfl dX11_woman_24 ?_
        refine ev_iload_n dX11_woman_27 rfl ?_
        refine ev_iload_n dX11_woman_28 rfl ?_
        refine ev_iload_n dX11_woman_29 rfl ?_
        obtain ⟨w6, m5, hq4, h⟩ := bndE_t h
        refine ev_cVi mv_X11_77 dX11_woman_30 (c_X0_addWoman hq4) rfl shC_1 rfl rfl (Nat.le_of_ble_eq_true rfl) (by rfl) (Nat.le_of_ble_eq_true rfl) (Nat.le_of_ble_eq_true rfl) (Nat.le_of_ble_eq_true rfl) ?_
        refine ev_istore (loc' := [_, _, _, _, _]) dX11_woman_33 rfl (by decide) (by rfl) ?_
        refine ev_iload dX11_woman_35 rfl ?_
        refine ev_iconst (v := (-1 : Int32)) dX11_woman_37 (by decide) ?_
        refine ev_icmp_eq (tgt := 48) dX11_woman_38 (by decide) (fun hc7 => ?_) (fun hc7 => ?_)
        · replace h := ite_t hc7 h
          refine ev_iload dX11_woman_48 rfl ?_
          exact ev_iret rfl rfl (by decide) (by decide) dX11_woman_50 (eqP_E h)
        · replace h := ite_f hc7 h
          refine ev_aload_n dX11_woman_41 rfl ?_
          refine ev_getR fr_X11_26 shC_0 rfl dX11_woman_42 ?_
          obtain ⟨m9, hq8, h⟩ := bndV_t h
          refine ev_cVv mv_X11_70 dX11_woman_45 (c_X3_forget hq8) rfl shC_54 rfl rfl (Nat.le_of_ble_eq_true rfl) (by rfl) (Nat.le_of_ble_eq_true rfl) (Nat.le_of_ble_eq_true rfl) (Nat.le_of_ble_eq_true rfl) ?_
          refine ev_iload dX11_woman_48 rfl ?_
          exact ev_iret rfl rfl (by decide) (by decide) dX11_woman_50 (eqP_E h)
      · replace h := ite_t hc3 h
        refine ev_iconst (v := (-1 : Int32)) dX11_woman_21 (by decide) ?_
        exact ev_iret rfl rfl (by decide) (by decide) dX11_woman_22 (eqP_E h)
def f_X11_groom (G : Nat) (p1 p2 : Int32) (μ : Mem) : Option (Int32 × Mem) :=
  (if (f_X11_isDigit p1) = (0 : Int32) then
  some ((-1 : Int32), μ)
  else
  (if (f_X0_isWoman μ p2) = (0 : Int32) then
  some ((-1 : Int32), μ)
  else
  bndE (f_X0_addGroom G p1 p2 μ) (fun w5 m4 =>
  (if w5 = (-1 : Int32) then
  some (w5, m4)
  else
  bndV (f_X3_forget G m4) (fun m8 =>
  some (w5, m8))))))
set_option maxHeartbeats 4000000 in
set_option maxRecDepth 100000 in
theorem c_X11_groom {bb : Bool} {G : Nat} {μ : Mem} {p1 p2 : Int32} {r : Int32} {μr : Mem}  (h : f_X11_groom G p1 p2 μ = some (r, μr)) : Cn yX11_groom cX11_groom 4 (some .int) 3 0 0 [.ref 0, .int p1, .int p2] (shC bb) μ (eqP (some r) (shC bb) μr) := by
  refine cn_of (own := RX11) (ini := false) (loc := [some (.ref 0), some (.int p1), some (.int p2), none]) rfl (by decide) (fun q => by cases q) (Nat.le_of_ble_eq_true rfl) (by rfl) rfl ?_
  unfold f_X11_groom at h
  refine ev_iload_n dX11_groom_0 rfl ?_
  refine ev_cSi mv_X11_73 dX11_groom_1 c_X11_isDigit rfl rfl (Nat.le_of_ble_eq_true rfl) (by rfl) (Nat.le_of_ble_eq_true rfl) (Nat.le_of_ble_eq_true rfl) (Nat.le_of_ble_eq_true rfl) ?_
  refine ev_if_eq (tgt := 18) dX11_groom_4 (by decide) (fun hc1 => ?_) (fun hc1 => ?_)
  · replace h := ite_t hc1 h
    refine ev_iconst (v := (-1 : Int32)) dX11_groom_18 (by decide) ?_
    exact ev_iret rfl rfl (by decide) (by decide) dX11_groom_19 (eqP_E h)
  · replace h := ite_f hc1 h
    refine ev_aload_n dX11_groom_7 rfl ?_
    refine ev_getR fr_X11_12 shC_0 rfl dX11_groom_8 ?_
    refine ev_iload_n dX11_groom_11 rfl ?_
    refine ev_cVi mv_X11_81 dX11_groom_12 c_X0_isWoman rfl shC_1 rfl rfl (Nat.le_of_ble_eq_true rfl) (by rfl) (Nat.le_of_ble_eq_true rfl) (Nat.le_of_ble_eq_true rfl) (Nat.le_of_ble_eq_true rfl) ?_
    refine ev_if_ne (tgt := 20) dX11_groom_15 (by decide) (fun hc2 => ?_) (fun hc2 => ?_)
    · replace h := ite_f hc2 h
      refine ev_aload_n dX11_groom_20 rfl ?_
      refine ev_getR fr_X11_12 shC_0 rfl dX11_groom_21 ?_
      refine ev_iload_n dX11_groom_24 rfl ?_
      refine ev_iload_n dX11_groom_25 rfl ?_
      obtain ⟨w5, m4, hq3, h⟩ := bndE_t h
      refine ev_cVi mv_X11_84 dX11_groom_26 (c_X0_addGroom hq3) rfl shC_1 rfl rfl (Nat.le_of_ble_eq_true rfl) (by rfl) (Nat.le_of_ble_eq_true rfl) (Nat.le_of_ble_eq_true rfl) (Nat.le_of_ble_eq_true rfl) ?_
      refine ev_istore_n (loc' := [_, _, _, _]) dX11_groom_29 rfl (by decide) (by rfl) ?_
      refine ev_iload_n dX11_groom_30 rfl ?_
      refine ev_iconst (v := (-1 : Int32)) dX11_groom_31 (by decide) ?_
      refine ev_icmp_eq (tgt := 42) dX11_groom_32 (by decide) (fun hc6 => ?_) (fun hc6 => ?_)
      · replace h := ite_t hc6 h
        refine ev_iload_n dX11_groom_42 rfl ?_
        exact ev_iret rfl rfl (by decide) (by decide) dX11_groom_43 (eqP_E h)
      · replace h := ite_f hc6 h
        refine ev_aload_n dX11_groom_35 rfl ?_
        refine ev_getR fr_X11_26 shC_0 rfl dX11_groom_36 ?_
        obtain ⟨m8, hq7, h⟩ := bndV_t h
        refine ev_cVv mv_X11_70 dX11_groom_39 (c_X3_forget hq7) rfl shC_54 rfl rfl (Nat.le_of_ble_eq_true rfl) (by rfl) (Nat.le_of_ble_eq_true rfl) (Nat.le_of_ble_eq_true rfl) (Nat.le_of_ble_eq_true rfl) ?_
        refine ev_iload_n dX11_groom_42 rfl ?_
        exact ev_iret rfl rfl (by decide) (by decide) dX11_groom_43 (eqP_E h)
    · replace h := ite_t hc2 h
      refine ev_iconst (v := (-1 : Int32)) dX11_groom_18 (by decide) ?_
      exact ev_iret rfl rfl (by decide) (by decide) dX11_groom_19 (eqP_E h)
def f_X11_set (G : Nat) (p1 p2 p3 : Int32) (μ : Mem) : Option (Int32 × Mem) :=
  bndE (f_X0_change G p1 p2 p3 μ) (fun w3 m2 =>
  (if w3 = (0 : Int32) then
  some ((0 : Int32), m2)
  else
  bndV (f_X3_forget G m2) (fun m6 =>
  some ((1 : Int32), m6))))
set_option maxHeartbeats 4000000 in
set_option maxRecDepth 100000 in
theorem c_X11_set {bb : Bool} {G : Nat} {μ : Mem} {p1 p2 p3 : Int32} {r : Int32} {μr : Mem}  (h : f_X11_set G p1 p2 p3 μ = some (r, μr)) : Cn yX11_set cX11_set 4 (some .boolean) 4 0 0 [.ref 0, .int p1, .int p2, .int p3] (shC bb) μ (eqP (some r) (shC bb) μr) := by
  refine cn_of (own := RX11) (ini := false) (loc := [some (.ref 0), some (.int p1), some (.int p2), some (.int p3)]) rfl (by decide) (fun q => by cases q) (Nat.le_of_ble_eq_true rfl) (by rfl) rfl ?_
  unfold f_X11_set at h
  refine ev_aload_n dX11_set_0 rfl ?_
  refine ev_getR fr_X11_12 shC_0 rfl dX11_set_1 ?_
  refine ev_iload_n dX11_set_4 rfl ?_
  refine ev_iload_n dX11_set_5 rfl ?_
  refine ev_iload_n dX11_set_6 rfl ?_
  obtain ⟨w3, m2, hq1, h⟩ := bndE_t h
  refine ev_cVi mv_X11_88 dX11_set_7 (c_X0_change hq1) rfl shC_1 rfl rfl (Nat.le_of_ble_eq_true rfl) (by rfl) (Nat.le_of_ble_eq_true rfl) (Nat.le_of_ble_eq_true rfl) (Nat.le_of_ble_eq_true rfl) ?_
  refine ev_if_ne (tgt := 15) dX11_set_10 (by decide) (fun hc4 => ?_) (fun hc4 => ?_)
  · replace h := ite_f hc4 h
    refine ev_aload_n dX11_set_15 rfl ?_
    refine ev_getR fr_X11_26 shC_0 rfl dX11_set_16 ?_
    obtain ⟨m6, hq5, h⟩ := bndV_t h
    refine ev_cVv mv_X11_70 dX11_set_19 (c_X3_forget hq5) rfl shC_54 rfl rfl (Nat.le_of_ble_eq_true rfl) (by rfl) (Nat.le_of_ble_eq_true rfl) (Nat.le_of_ble_eq_true rfl) (Nat.le_of_ble_eq_true rfl) ?_
    refine ev_iconst (v := (1 : Int32)) dX11_set_22 (by decide) ?_
    exact ev_iret rfl rfl (by decide) (by decide) dX11_set_23 (eqP_E h)
  · replace h := ite_t hc4 h
    refine ev_iconst (v := (0 : Int32)) dX11_set_13 (by decide) ?_
    exact ev_iret rfl rfl (by decide) (by decide) dX11_set_14 (eqP_E h)
def f_X11_wed (G : Nat) (p1 p2 p3 p4 : Int32) (μ : Mem) : Option (Int32 × Mem) :=
  (if (f_X0_isGroom μ p1) = (0 : Int32) then
  some ((-1 : Int32), μ)
  else
  (if (f_X0_areThree μ p2 p3 p4) = (0 : Int32) then
  some ((-1 : Int32), μ)
  else
  bndO (f_X7_canWed G 2 μ p1 p2 p3 p4) (fun w4 =>
  (if w4 = (0 : Int32) then
  some ((-1 : Int32), μ)
  else
  bndV (f_X3_keep G μ) (fun m7 =>
  bndE (f_X7_wedding G 2 p1 p2 p3 p4 (0 : Int32) m7) (fun w10 m9 =>
  some (w10, m9)))))))
set_option maxHeartbeats 4000000 in
set_option maxRecDepth 100000 in
theorem c_X11_wed {bb : Bool} {G : Nat} {μ : Mem} {p1 p2 p3 p4 : Int32} {r : Int32} {μr : Mem}  (h : f_X11_wed G p1 p2 p3 p4 μ = some (r, μr)) : Cn yX11_wed cX11_wed 5 (some .int) 7 0 0 [.ref 0, .int p1, .int p2, .int p3, .int p4] (shC bb) μ (eqP (some r) (shC bb) μr) := by
  refine cn_of (own := RX11) (ini := false) (loc := [some (.ref 0), some (.int p1), some (.int p2), some (.int p3), some (.int p4)]) rfl (by decide) (fun q => by cases q) (Nat.le_of_ble_eq_true rfl) (by rfl) rfl ?_
  unfold f_X11_wed at h
  refine ev_aload_n dX11_wed_0 rfl ?_
  refine ev_getR fr_X11_12 shC_0 rfl dX11_wed_1 ?_
  refine ev_iload_n dX11_wed_4 rfl ?_
  refine ev_cVi mv_X11_92 dX11_wed_5 c_X0_isGroom rfl shC_1 rfl rfl (Nat.le_of_ble_eq_true rfl) (by rfl) (Nat.le_of_ble_eq_true rfl) (Nat.le_of_ble_eq_true rfl) (Nat.le_of_ble_eq_true rfl) ?_
  refine ev_if_eq (tgt := 47) dX11_wed_8 (by decide) (fun hc1 => ?_) (fun hc1 => ?_)
  · replace h := ite_t hc1 h
    refine ev_iconst (v := (-1 : Int32)) dX11_wed_47 (by decide) ?_
    exact ev_iret rfl rfl (by decide) (by decide) dX11_wed_48 (eqP_E h)
  · replace h := ite_f hc1 h
    refine ev_aload_n dX11_wed_11 rfl ?_
    refine ev_getR fr_X11_12 shC_0 rfl dX11_wed_12 ?_
    refine ev_iload_n dX11_wed_15 rfl ?_
    refine ev_iload_n dX11_wed_16 rfl ?_
    refine ev_iload dX11_wed_17 rfl ?_
    refine ev_cVi mv_X11_95 dX11_wed_19 c_X0_areThree rfl shC_1 rfl rfl (Nat.le_of_ble_eq_true rfl) (by rfl) (Nat.le_of_ble_eq_true rfl) (Nat.le_of_ble_eq_true rfl) (Nat.le_of_ble_eq_true rfl) ?_
    refine ev_if_eq (tgt := 47) dX11_wed_22 (by decide) (fun hc2 => ?_) (fun hc2 => ?_)
    · replace h := ite_t hc2 h
      refine ev_iconst (v := (-1 : Int32)) dX11_wed_47 (by decide) ?_
      exact ev_iret rfl rfl (by decide) (by decide) dX11_wed_48 (eqP_E h)
    · replace h := ite_f hc2 h
      refine ev_aload_n dX11_wed_25 rfl ?_
      refine ev_getR fr_X11_35 shC_0 rfl dX11_wed_26 ?_
      refine ev_aload_n dX11_wed_29 rfl ?_
      refine ev_getR fr_X11_12 shC_0 rfl dX11_wed_30 ?_
      refine ev_getR fr_X11_63 shC_1 rfl dX11_wed_33 ?_
      refine ev_iload_n dX11_wed_36 rfl ?_
      refine ev_iload_n dX11_wed_37 rfl ?_
      refine ev_iload_n dX11_wed_38 rfl ?_
      refine ev_iload dX11_wed_39 rfl ?_
      obtain ⟨w4, hq3, h⟩ := bndO_t h
      refine ev_cVi mv_X11_98 dX11_wed_41 (c_X7_canWed atC_2 hq3) rfl shC_93 rfl rfl (Nat.le_of_ble_eq_true rfl) (by rfl) (Nat.le_of_ble_eq_true rfl) (Nat.le_of_ble_eq_true rfl) (Nat.le_of_ble_eq_true rfl) ?_
      refine ev_if_ne (tgt := 49) dX11_wed_44 (by decide) (fun hc5 => ?_) (fun hc5 => ?_)
      · replace h := ite_f hc5 h
        refine ev_aload_n dX11_wed_49 rfl ?_
        refine ev_getR fr_X11_26 shC_0 rfl dX11_wed_50 ?_
        refine ev_aload_n dX11_wed_53 rfl ?_
        refine ev_getR fr_X11_12 shC_0 rfl dX11_wed_54 ?_
        obtain ⟨m7, hq6, h⟩ := bndV_t h
        refine ev_cVv mv_X11_102 dX11_wed_57 (c_X3_keep hq6) rfl shC_54 rfl rfl (Nat.le_of_ble_eq_true rfl) (by rfl) (Nat.le_of_ble_eq_true rfl) (Nat.le_of_ble_eq_true rfl) (Nat.le_of_ble_eq_true rfl) ?_
        refine ev_aload_n dX11_wed_60 rfl ?_
        refine ev_getR fr_X11_35 shC_0 rfl dX11_wed_61 ?_
        refine ev_aload_n dX11_wed_64 rfl ?_
        refine ev_getR fr_X11_12 shC_0 rfl dX11_wed_65 ?_
        refine ev_getR fr_X11_63 shC_1 rfl dX11_wed_68 ?_
        refine ev_iload_n dX11_wed_71 rfl ?_
        refine ev_iload_n dX11_wed_72 rfl ?_
        refine ev_iload_n dX11_wed_73 rfl ?_
        refine ev_iload dX11_wed_74 rfl ?_
        refine ev_iconst (v := (0 : Int32)) dX11_wed_76 (by decide) ?_
        obtain ⟨w10, m9, hq8, h⟩ := bndE_t h
        refine ev_cVi mv_X11_105 dX11_wed_77 (c_X7_wedding atC_2 hq8) rfl shC_93 rfl rfl (Nat.le_of_ble_eq_true rfl) (by rfl) (Nat.le_of_ble_eq_true rfl) (Nat.le_of_ble_eq_true rfl) (Nat.le_of_ble_eq_true rfl) ?_
        exact ev_iret rfl rfl (by decide) (by decide) dX11_wed_80 (eqP_E h)
      · replace h := ite_t hc5 h
        refine ev_iconst (v := (-1 : Int32)) dX11_wed_47 (by decide) ?_
        exact ev_iret rfl rfl (by decide) (by decide) dX11_wed_48 (eqP_E h)
def f_X11_part (G : Nat) (p1 : Int32) (μ : Mem) : Option (Int32 × Mem) :=
  (if (f_X0_isGroom μ p1) = (0 : Int32) then
  some ((0 : Int32), μ)
  else
  chk p1 8 ((if (μ 4 (ix p1)) = (-1 : Int32) then
  some ((0 : Int32), μ)
  else
  bndV (f_X3_keep G μ) (fun m5 =>
  bndV (f_X7_parting G 2 p1 (0 : Int32) m5) (fun m7 =>
  some ((1 : Int32), m7))))))
set_option maxHeartbeats 4000000 in
set_option maxRecDepth 100000 in
theorem c_X11_part {bb : Bool} {G : Nat} {μ : Mem} {p1 : Int32} {r : Int32} {μr : Mem}  (h : f_X11_part G p1 μ = some (r, μr)) : Cn yX11_part cX11_part 2 (some .boolean) 6 0 0 [.ref 0, .int p1] (shC bb) μ (eqP (some r) (shC bb) μr) := by
  refine cn_of (own := RX11) (ini := false) (loc := [some (.ref 0), some (.int p1)]) rfl (by decide) (fun q => by cases q) (Nat.le_of_ble_eq_true rfl) (by rfl) rfl ?_
  unfold f_X11_part at h
  refine ev_aload_n dX11_part_0 rfl ?_
  refine ev_getR fr_X11_12 shC_0 rfl dX11_part_1 ?_
  refine ev_iload_n dX11_part_4 rfl ?_
  refine ev_cVi mv_X11_92 dX11_part_5 c_X0_isGroom rfl shC_1 rfl rfl (Nat.le_of_ble_eq_true rfl) (by rfl) (Nat.le_of_ble_eq_true rfl) (Nat.le_of_ble_eq_true rfl) (Nat.le_of_ble_eq_true rfl) ?_
  refine ev_if_eq (tgt := 27) dX11_part_8 (by decide) (fun hc1 => ?_) (fun hc1 => ?_)
  · replace h := ite_t hc1 h
    refine ev_iconst (v := (0 : Int32)) dX11_part_27 (by decide) ?_
    exact ev_iret rfl rfl (by decide) (by decide) dX11_part_28 (eqP_E h)
  · replace h := ite_f hc1 h
    refine ev_aload_n dX11_part_11 rfl ?_
    refine ev_getR fr_X11_12 shC_0 rfl dX11_part_12 ?_
    refine ev_getR fr_X11_63 shC_1 rfl dX11_part_15 ?_
    refine ev_getR fr_X11_109 shC_2 rfl dX11_part_18 ?_
    refine ev_iload_n dX11_part_21 rfl ?_
    obtain ⟨hi2, h⟩ := chk_t h
    refine ev_iald shC_4 hi2 dX11_part_22 ?_
    refine ev_iconst (v := (-1 : Int32)) dX11_part_23 (by decide) ?_
    refine ev_icmp_ne (tgt := 29) dX11_part_24 (by decide) (fun hc3 => ?_) (fun hc3 => ?_)
    · replace h := ite_f hc3 h
      refine ev_aload_n dX11_part_29 rfl ?_
      refine ev_getR fr_X11_26 shC_0 rfl dX11_part_30 ?_
      refine ev_aload_n dX11_part_33 rfl ?_
      refine ev_getR fr_X11_12 shC_0 rfl dX11_part_34 ?_
      obtain ⟨m5, hq4, h⟩ := bndV_t h
      refine ev_cVv mv_X11_102 dX11_part_37 (c_X3_keep hq4) rfl shC_54 rfl rfl (Nat.le_of_ble_eq_true rfl) (by rfl) (Nat.le_of_ble_eq_true rfl) (Nat.le_of_ble_eq_true rfl) (Nat.le_of_ble_eq_true rfl) ?_
      refine ev_aload_n dX11_part_40 rfl ?_
      refine ev_getR fr_X11_35 shC_0 rfl dX11_part_41 ?_
      refine ev_aload_n dX11_part_44 rfl ?_
      refine ev_getR fr_X11_12 shC_0 rfl dX11_part_45 ?_
      refine ev_getR fr_X11_63 shC_1 rfl dX11_part_48 ?_
      refine ev_iload_n dX11_part_51 rfl ?_
      refine ev_iconst (v := (0 : Int32)) dX11_part_52 (by decide) ?_
      obtain ⟨m7, hq6, h⟩ := bndV_t h
      refine ev_cVv mv_X11_113 dX11_part_53 (c_X7_parting atC_2 hq6) rfl shC_93 rfl rfl (Nat.le_of_ble_eq_true rfl) (by rfl) (Nat.le_of_ble_eq_true rfl) (Nat.le_of_ble_eq_true rfl) (Nat.le_of_ble_eq_true rfl) ?_
      refine ev_iconst (v := (1 : Int32)) dX11_part_56 (by decide) ?_
      exact ev_iret rfl rfl (by decide) (by decide) dX11_part_57 (eqP_E h)
    · replace h := ite_t hc3 h
      refine ev_iconst (v := (0 : Int32)) dX11_part_27 (by decide) ?_
      exact ev_iret rfl rfl (by decide) (by decide) dX11_part_28 (eqP_E h)
def f_X11_cough (G : Nat) (p1 p2 : Int32) (μ : Mem) : Option (Int32 × Mem) :=
  (if (f_X0_isWoman μ p1) = (0 : Int32) then
  some ((0 : Int32), μ)
  else
  bndO (f_X8_isToCough G 2 μ p1) (fun w3 =>
  (if w3 = p2 then
  some ((0 : Int32), μ)
  else
  bndV (f_X3_keep G μ) (fun m6 =>
  (let m7 := wr m6 2 7 ((m6 2 7) ^^^ (sl (1 : Int32) p1))
  some ((1 : Int32), m7))))))
set_option maxHeartbeats 4000000 in
set_option maxRecDepth 100000 in
theorem c_X11_cough {bb : Bool} {G : Nat} {μ : Mem} {p1 p2 : Int32} {r : Int32} {μr : Mem}  (h : f_X11_cough G p1 p2 μ = some (r, μr)) : Cn yX11_cough cX11_cough 3 (some .boolean) 4 0 0 [.ref 0, .int p1, .int p2] (shC bb) μ (eqP (some r) (shC bb) μr) := by
  refine cn_of (own := RX11) (ini := false) (loc := [some (.ref 0), some (.int p1), some (.int p2)]) rfl (by decide) (fun q => by cases q) (Nat.le_of_ble_eq_true rfl) (by rfl) rfl ?_
  unfold f_X11_cough at h
  refine ev_aload_n dX11_cough_0 rfl ?_
  refine ev_getR fr_X11_12 shC_0 rfl dX11_cough_1 ?_
  refine ev_iload_n dX11_cough_4 rfl ?_
  refine ev_cVi mv_X11_81 dX11_cough_5 c_X0_isWoman rfl shC_1 rfl rfl (Nat.le_of_ble_eq_true rfl) (by rfl) (Nat.le_of_ble_eq_true rfl) (Nat.le_of_ble_eq_true rfl) (Nat.le_of_ble_eq_true rfl) ?_
  refine ev_if_eq (tgt := 26) dX11_cough_8 (by decide) (fun hc1 => ?_) (fun hc1 => ?_)
  · replace h := ite_t hc1 h
    refine ev_iconst (v := (0 : Int32)) dX11_cough_26 (by decide) ?_
    exact ev_iret rfl rfl (by decide) (by decide) dX11_cough_27 (eqP_E h)
  · replace h := ite_f hc1 h
    refine ev_aload_n dX11_cough_11 rfl ?_
    refine ev_getR fr_X11_12 shC_0 rfl dX11_cough_12 ?_
    refine ev_getR fr_X11_63 shC_1 rfl dX11_cough_15 ?_
    refine ev_iload_n dX11_cough_18 rfl ?_
    obtain ⟨w3, hq2, h⟩ := bndO_t h
    refine ev_cVi mv_X11_117 dX11_cough_19 (c_X8_isToCough atC_2 hq2) rfl shC_2 rfl rfl (Nat.le_of_ble_eq_true rfl) (by rfl) (Nat.le_of_ble_eq_true rfl) (Nat.le_of_ble_eq_true rfl) (Nat.le_of_ble_eq_true rfl) ?_
    refine ev_iload_n dX11_cough_22 rfl ?_
    refine ev_icmp_ne (tgt := 28) dX11_cough_23 (by decide) (fun hc4 => ?_) (fun hc4 => ?_)
    · replace h := ite_f hc4 h
      refine ev_aload_n dX11_cough_28 rfl ?_
      refine ev_getR fr_X11_26 shC_0 rfl dX11_cough_29 ?_
      refine ev_aload_n dX11_cough_32 rfl ?_
      refine ev_getR fr_X11_12 shC_0 rfl dX11_cough_33 ?_
      obtain ⟨m6, hq5, h⟩ := bndV_t h
      refine ev_cVv mv_X11_102 dX11_cough_36 (c_X3_keep hq5) rfl shC_54 rfl rfl (Nat.le_of_ble_eq_true rfl) (by rfl) (Nat.le_of_ble_eq_true rfl) (Nat.le_of_ble_eq_true rfl) (Nat.le_of_ble_eq_true rfl) ?_
      refine ev_aload_n dX11_cough_39 rfl ?_
      refine ev_getR fr_X11_12 shC_0 rfl dX11_cough_40 ?_
      refine ev_getR fr_X11_63 shC_1 rfl dX11_cough_43 ?_
      refine ev_dup dX11_cough_46 (by rfl) ?_
      refine ev_getI fr_X11_120 shC_2 rfl dX11_cough_47 ?_
      refine ev_iconst (v := (1 : Int32)) dX11_cough_50 (by decide) ?_
      refine ev_iload_n dX11_cough_51 rfl ?_
      refine ev_ishl dX11_cough_52 ?_
      refine ev_ixor dX11_cough_53 ?_
      refine ev_putI fr_X11_120 shC_2 rfl rfl rfl dX11_cough_54 ?_
      refine ev_iconst (v := (1 : Int32)) dX11_cough_57 (by decide) ?_
      exact ev_iret rfl rfl (by decide) (by decide) dX11_cough_58 (eqP_E h)
    · replace h := ite_t hc4 h
      refine ev_iconst (v := (0 : Int32)) dX11_cough_26 (by decide) ?_
      exact ev_iret rfl rfl (by decide) (by decide) dX11_cough_27 (eqP_E h)
def f_X11_years_L35 (G : Nat)  : Nat → Int32 → Int32 → Int32 → Mem → Option (Int32 × Mem)
  | 0, _, _, _, _ => none
  | g + 1, v1, v2, v3, μ =>
  (if v1 ≤ v3 then
  some (v2, μ)
  else
  bndV (f_X3_keep G μ) (fun m6 =>
  bndE (f_X7_passYear G 2 (0 : Int32) m6) (fun w9 m8 =>
  (f_X11_years_L35 G g) v1 (v2 + w9) (v3 + (1 : Int32)) m8)))
set_option maxHeartbeats 4000000 in
set_option maxRecDepth 100000 in
theorem f_X11_years_L35_ok {bb : Bool} {G : Nat} {r : Int32} {μr : Mem}    : ∀ (g : Nat) (v1 v2 v3 : Int32) (μ : Mem), f_X11_years_L35 G g v1 v2 v3 μ = some (r, μr) → Ev RX11 cX11_years 4 (some .int) false 8 0 0 (eqP (some r) (shC bb) μr) 35 [some (.ref 0), some (.int v1), some (.int v2), some (.int v3)] [] (shC bb) μ 0 0 := by
  intro g
  induction g with
  | zero =>
    intro v1 v2 v3 μ h
    cases h
  | succ g ih =>
    intro v1 v2 v3 μ h
    rw [f_X11_years_L35] at h
    refine ev_iload_n dX11_years_35 rfl ?_
    refine ev_iload_n dX11_years_36 rfl ?_
    refine ev_icmp_ge (tgt := 75) dX11_years_37 (by decide) (fun hc4 => ?_) (fun hc4 => ?_)
    · replace h := ite_t hc4 h
      refine ev_iload_n dX11_years_75 rfl ?_
      exact ev_iret rfl rfl (by decide) (by decide) dX11_years_76 (eqP_E h)
    · replace h := ite_f hc4 h
      refine ev_aload_n dX11_years_40 rfl ?_
      refine ev_getR fr_X11_26 shC_0 rfl dX11_years_41 ?_
      refine ev_aload_n dX11_years_44 rfl ?_
      refine ev_getR fr_X11_12 shC_0 rfl dX11_years_45 ?_
      obtain ⟨m6, hq5, h⟩ := bndV_t h
      refine ev_cVv mv_X11_102 dX11_years_48 (c_X3_keep hq5) rfl shC_54 rfl rfl (Nat.le_of_ble_eq_true rfl) (by rfl) (Nat.le_of_ble_eq_true rfl) (Nat.le_of_ble_eq_true rfl) (Nat.le_of_ble_eq_true rfl) ?_
      refine ev_iload_n dX11_years_51 rfl ?_
      refine ev_aload_n dX11_years_52 rfl ?_
      refine ev_getR fr_X11_35 shC_0 rfl dX11_years_53 ?_
      refine ev_aload_n dX11_years_56 rfl ?_
      refine ev_getR fr_X11_12 shC_0 rfl dX11_years_57 ?_
      refine ev_getR fr_X11_63 shC_1 rfl dX11_years_60 ?_
      refine ev_iconst (v := (0 : Int32)) dX11_years_63 (by decide) ?_
      obtain ⟨w9, m8, hq7, h⟩ := bndE_t h
      refine ev_cVi mv_X11_126 dX11_years_64 (c_X7_passYear atC_2 hq7) rfl shC_93 rfl rfl (Nat.le_of_ble_eq_true rfl) (by rfl) (Nat.le_of_ble_eq_true rfl) (Nat.le_of_ble_eq_true rfl) (Nat.le_of_ble_eq_true rfl) ?_
      refine ev_iadd dX11_years_67 ?_
      refine ev_istore_n (loc' := [_, _, _, _]) dX11_years_68 rfl (by decide) (by rfl) ?_
      refine ev_iinc (cq := (1 : Int32)) (loc' := [_, _, _, _]) dX11_years_69 rfl (by decide) rfl (by decide) (by rfl) ?_
      refine ev_goto (tgt := 35) dX11_years_72 (by decide) ?_
      exact ev_lt (ih _ _ _ _ h) ⟨rfl, ⟨rfl, ⟨rfl, ⟨rfl, trivial⟩⟩⟩⟩
def f_X11_years (G : Nat) (p1 : Int32) (μ : Mem) : Option (Int32 × Mem) :=
  (if p1 < (1 : Int32) then
  some ((-1 : Int32), μ)
  else
  (if (60 : Int32) < p1 then
  some ((-1 : Int32), μ)
  else
  (if ((μ 2 5) + p1) ≤ (9999 : Int32) then
  f_X11_years_L35 G G p1 (0 : Int32) (0 : Int32) μ
  else
  some ((-1 : Int32), μ))))
set_option maxHeartbeats 4000000 in
set_option maxRecDepth 100000 in
theorem c_X11_years {bb : Bool} {G : Nat} {μ : Mem} {p1 : Int32} {r : Int32} {μr : Mem}  (h : f_X11_years G p1 μ = some (r, μr)) : Cn yX11_years cX11_years 4 (some .int) 8 0 0 [.ref 0, .int p1] (shC bb) μ (eqP (some r) (shC bb) μr) := by
  refine cn_of (own := RX11) (ini := false) (loc := [some (.ref 0), some (.int p1), none, none]) rfl (by decide) (fun q => by cases q) (Nat.le_of_ble_eq_true rfl) (by rfl) rfl ?_
  unfold f_X11_years at h
  refine ev_iload_n dX11_years_0 rfl ?_
  refine ev_iconst (v := (1 : Int32)) dX11_years_1 (by decide) ?_
  refine ev_icmp_lt (tgt := 29) dX11_years_2 (by decide) (fun hc1 => ?_) (fun hc1 => ?_)
  · replace h := ite_t hc1 h
    refine ev_iconst (v := (-1 : Int32)) dX11_years_29 (by decide) ?_
    exact ev_iret rfl rfl (by decide) (by decide) dX11_years_30 (eqP_E h)
  · replace h := ite_f hc1 h
    refine ev_iload_n dX11_years_5 rfl ?_
    refine ev_bipush (v := (60 : Int32)) dX11_years_6 (by decide) ?_
    refine ev_icmp_gt (tgt := 29) dX11_years_8 (by decide) (fun hc2 => ?_) (fun hc2 => ?_)
    · replace h := ite_t hc2 h
      refine ev_iconst (v := (-1 : Int32)) dX11_years_29 (by decide) ?_
      exact ev_iret rfl rfl (by decide) (by decide) dX11_years_30 (eqP_E h)
    · replace h := ite_f hc2 h
      refine ev_aload_n dX11_years_11 rfl ?_
      refine ev_getR fr_X11_12 shC_0 rfl dX11_years_12 ?_
      refine ev_getR fr_X11_63 shC_1 rfl dX11_years_15 ?_
      refine ev_getI fr_X11_123 shC_2 rfl dX11_years_18 ?_
      refine ev_iload_n dX11_years_21 rfl ?_
      refine ev_iadd dX11_years_22 ?_
      refine ev_sipush (v := (9999 : Int32)) dX11_years_23 (by decide) ?_
      refine ev_icmp_le (tgt := 31) dX11_years_26 (by decide) (fun hc3 => ?_) (fun hc3 => ?_)
      · replace h := ite_t hc3 h
        refine ev_iconst (v := (0 : Int32)) dX11_years_31 (by decide) ?_
        refine ev_istore_n (loc' := [_, _, _, _]) dX11_years_32 rfl (by decide) (by rfl) ?_
        refine ev_iconst (v := (0 : Int32)) dX11_years_33 (by decide) ?_
        refine ev_istore_n (loc' := [_, _, _, _]) dX11_years_34 rfl (by decide) (by rfl) ?_
        exact ev_lt (f_X11_years_L35_ok _ _ _ _ _ h) ⟨rfl, ⟨rfl, ⟨rfl, ⟨rfl, trivial⟩⟩⟩⟩
      · replace h := ite_f hc3 h
        refine ev_iconst (v := (-1 : Int32)) dX11_years_29 (by decide) ?_
        exact ev_iret rfl rfl (by decide) (by decide) dX11_years_30 (eqP_E h)
def f_X11_feed (G : Nat) (p1 p2 p3 p4 p5 : Int32) (μ : Mem) : Option (Int32 × Mem) :=
  (if (f_X5_hasRoom μ (20 : Int32)) = (0 : Int32) then
  some ((-1 : Int32), μ)
  else
  bndV (f_X5_take G p1 μ) (fun m3 =>
  bndV (f_X5_take G p2 m3) (fun m5 =>
  bndV (f_X5_take G p3 m5) (fun m7 =>
  bndV (f_X5_take G p4 m7) (fun m9 =>
  bndV (f_X5_take G p5 m9) (fun m11 =>
  some ((m11 41 5), m11)))))))
set_option maxHeartbeats 4000000 in
set_option maxRecDepth 100000 in
theorem c_X11_feed {bb : Bool} {G : Nat} {μ : Mem} {p1 p2 p3 p4 p5 : Int32} {r : Int32} {μr : Mem}  (h : f_X11_feed G p1 p2 p3 p4 p5 μ = some (r, μr)) : Cn yX11_feed cX11_feed 6 (some .int) 2 0 0 [.ref 0, .int p1, .int p2, .int p3, .int p4, .int p5] (shC bb) μ (eqP (some r) (shC bb) μr) := by
  refine cn_of (own := RX11) (ini := false) (loc := [some (.ref 0), some (.int p1), some (.int p2), some (.int p3), some (.int p4), some (.int p5)]) rfl (by decide) (fun q => by cases q) (Nat.le_of_ble_eq_true rfl) (by rfl) rfl ?_
  unfold f_X11_feed at h
  refine ev_aload_n dX11_feed_0 rfl ?_
  refine ev_getR fr_X11_19 shC_0 rfl dX11_feed_1 ?_
  refine ev_bipush (v := (20 : Int32)) dX11_feed_4 (by decide) ?_
  refine ev_cVi mv_X11_130 dX11_feed_6 c_X5_hasRoom rfl shC_41 rfl rfl (Nat.le_of_ble_eq_true rfl) (by rfl) (Nat.le_of_ble_eq_true rfl) (Nat.le_of_ble_eq_true rfl) (Nat.le_of_ble_eq_true rfl) ?_
  refine ev_if_ne (tgt := 14) dX11_feed_9 (by decide) (fun hc1 => ?_) (fun hc1 => ?_)
  · replace h := ite_f hc1 h
    refine ev_aload_n dX11_feed_14 rfl ?_
    refine ev_getR fr_X11_19 shC_0 rfl dX11_feed_15 ?_
    refine ev_iload_n dX11_feed_18 rfl ?_
    obtain ⟨m3, hq2, h⟩ := bndV_t h
    refine ev_cVv mv_X11_133 dX11_feed_19 (c_X5_take hq2) rfl shC_41 rfl rfl (Nat.le_of_ble_eq_true rfl) (by rfl) (Nat.le_of_ble_eq_true rfl) (Nat.le_of_ble_eq_true rfl) (Nat.le_of_ble_eq_true rfl) ?_
    refine ev_aload_n dX11_feed_22 rfl ?_
    refine ev_getR fr_X11_19 shC_0 rfl dX11_feed_23 ?_
    refine ev_iload_n dX11_feed_26 rfl ?_
    obtain ⟨m5, hq4, h⟩ := bndV_t h
    refine ev_cVv mv_X11_133 dX11_feed_27 (c_X5_take hq4) rfl shC_41 rfl rfl (Nat.le_of_ble_eq_true rfl) (by rfl) (Nat.le_of_ble_eq_true rfl) (Nat.le_of_ble_eq_true rfl) (Nat.le_of_ble_eq_true rfl) ?_
    refine ev_aload_n dX11_feed_30 rfl ?_
    refine ev_getR fr_X11_19 shC_0 rfl dX11_feed_31 ?_
    refine ev_iload_n dX11_feed_34 rfl ?_
    obtain ⟨m7, hq6, h⟩ := bndV_t h
    refine ev_cVv mv_X11_133 dX11_feed_35 (c_X5_take hq6) rfl shC_41 rfl rfl (Nat.le_of_ble_eq_true rfl) (by rfl) (Nat.le_of_ble_eq_true rfl) (Nat.le_of_ble_eq_true rfl) (Nat.le_of_ble_eq_true rfl) ?_
    refine ev_aload_n dX11_feed_38 rfl ?_
    refine ev_getR fr_X11_19 shC_0 rfl dX11_feed_39 ?_
    refine ev_iload dX11_feed_42 rfl ?_
    obtain ⟨m9, hq8, h⟩ := bndV_t h
    refine ev_cVv mv_X11_133 dX11_feed_44 (c_X5_take hq8) rfl shC_41 rfl rfl (Nat.le_of_ble_eq_true rfl) (by rfl) (Nat.le_of_ble_eq_true rfl) (Nat.le_of_ble_eq_true rfl) (Nat.le_of_ble_eq_true rfl) ?_
    refine ev_aload_n dX11_feed_47 rfl ?_
    refine ev_getR fr_X11_19 shC_0 rfl dX11_feed_48 ?_
    refine ev_iload dX11_feed_51 rfl ?_
    obtain ⟨m11, hq10, h⟩ := bndV_t h
    refine ev_cVv mv_X11_133 dX11_feed_53 (c_X5_take hq10) rfl shC_41 rfl rfl (Nat.le_of_ble_eq_true rfl) (by rfl) (Nat.le_of_ble_eq_true rfl) (Nat.le_of_ble_eq_true rfl) (Nat.le_of_ble_eq_true rfl) ?_
    refine ev_aload_n dX11_feed_56 rfl ?_
    refine ev_getR fr_X11_19 shC_0 rfl dX11_feed_57 ?_
    refine ev_getI fr_X11_137 shC_41 rfl dX11_feed_60 ?_
    exact ev_iret rfl rfl (by decide) (by decide) dX11_feed_63 (eqP_E h)
  · replace h := ite_t hc1 h
    refine ev_iconst (v := (-1 : Int32)) dX11_feed_12 (by decide) ?_
    exact ev_iret rfl rfl (by decide) (by decide) dX11_feed_13 (eqP_E h)
def f_X11_end (G : Nat) (p1 : Int32) (μ : Mem) : Option (Int32 × Mem) :=
  (if p1 < (0 : Int32) then
  some ((0 : Int32), μ)
  else
  (if p1 ≤ (μ 41 5) then
  (let m3 := wr μ 41 5 p1
  some ((1 : Int32), m3))
  else
  some ((0 : Int32), μ)))
set_option maxHeartbeats 4000000 in
set_option maxRecDepth 100000 in
theorem c_X11_end {bb : Bool} {G : Nat} {μ : Mem} {p1 : Int32} {r : Int32} {μr : Mem}  (h : f_X11_end G p1 μ = some (r, μr)) : Cn yX11_end cX11_end 2 (some .boolean) 1 0 0 [.ref 0, .int p1] (shC bb) μ (eqP (some r) (shC bb) μr) := by
  refine cn_of (own := RX11) (ini := false) (loc := [some (.ref 0), some (.int p1)]) rfl (by decide) (fun q => by cases q) (Nat.le_of_ble_eq_true rfl) (by rfl) rfl ?_
  unfold f_X11_end at h
  refine ev_iload_n dX11_end_0 rfl ?_
  refine ev_if_lt (tgt := 15) dX11_end_1 (by decide) (fun hc1 => ?_) (fun hc1 => ?_)
  · replace h := ite_t hc1 h
    refine ev_iconst (v := (0 : Int32)) dX11_end_15 (by decide) ?_
    exact ev_iret rfl rfl (by decide) (by decide) dX11_end_16 (eqP_E h)
  · replace h := ite_f hc1 h
    refine ev_iload_n dX11_end_4 rfl ?_
    refine ev_aload_n dX11_end_5 rfl ?_
    refine ev_getR fr_X11_19 shC_0 rfl dX11_end_6 ?_
    refine ev_getI fr_X11_137 shC_41 rfl dX11_end_9 ?_
    refine ev_icmp_le (tgt := 17) dX11_end_12 (by decide) (fun hc2 => ?_) (fun hc2 => ?_)
    · replace h := ite_t hc2 h
      refine ev_aload_n dX11_end_17 rfl ?_
      refine ev_getR fr_X11_19 shC_0 rfl dX11_end_18 ?_
      refine ev_iload_n dX11_end_21 rfl ?_
      refine ev_putI fr_X11_137 shC_41 rfl rfl rfl dX11_end_22 ?_
      refine ev_iconst (v := (1 : Int32)) dX11_end_25 (by decide) ?_
      exact ev_iret rfl rfl (by decide) (by decide) dX11_end_26 (eqP_E h)
    · replace h := ite_f hc2 h
      refine ev_iconst (v := (0 : Int32)) dX11_end_15 (by decide) ?_
      exact ev_iret rfl rfl (by decide) (by decide) dX11_end_16 (eqP_E h)
def f_X11_text (G : Nat) (p1 : Int32) (μ : Mem) : Option (Int32 × Mem) :=
  bndE (f_X5_read G p1 (μ 1 6) (μ 1 7) μ) (fun w3 m2 =>
  (if w3 = (-1 : Int32) then
  some ((-1 : Int32), m2)
  else
  (if p1 = (0 : Int32) then
  bndV (f_X1_copyFrom G 13 45 m2) (fun m19 =>
  some (w3, m19))
  else
  (if p1 = (1 : Int32) then
  bndV (f_X2_copyFrom G 20 16 52 96 m2) (fun m15 =>
  bndV (f_X3_forget G m15) (fun m17 =>
  some (w3, m17)))
  else
  (if p1 = (2 : Int32) then
  bndV (f_X2_copyFrom G 22 96 52 96 m2) (fun m11 =>
  bndV (f_X3_forget G m11) (fun m13 =>
  some (w3, m13)))
  else
  bndV (f_X2_copyFrom G 24 32 52 96 m2) (fun m9 =>
  some (w3, m9)))))))
set_option maxHeartbeats 4000000 in
set_option maxRecDepth 100000 in
theorem c_X11_text {bb : Bool} {G : Nat} {μ : Mem} {p1 : Int32} {r : Int32} {μr : Mem}  (h : f_X11_text G p1 μ = some (r, μr)) : Cn yX11_text cX11_text 3 (some .int) 63 0 0 [.ref 0, .int p1] (shC bb) μ (eqP (some r) (shC bb) μr) := by
  refine cn_of (own := RX11) (ini := false) (loc := [some (.ref 0), some (.int p1), none]) rfl (by decide) (fun q => by cases q) (Nat.le_of_ble_eq_true rfl) (by rfl) rfl ?_
  unfold f_X11_text at h
  refine ev_aload_n dX11_text_0 rfl ?_
  refine ev_getR fr_X11_19 shC_0 rfl dX11_text_1 ?_
  refine ev_iload_n dX11_text_4 rfl ?_
  refine ev_aload_n dX11_text_5 rfl ?_
  refine ev_getR fr_X11_12 shC_0 rfl dX11_text_6 ?_
  refine ev_getI fr_X11_140 shC_1 rfl dX11_text_9 ?_
  refine ev_aload_n dX11_text_12 rfl ?_
  refine ev_getR fr_X11_12 shC_0 rfl dX11_text_13 ?_
  refine ev_getI fr_X11_143 shC_1 rfl dX11_text_16 ?_
  obtain ⟨w3, m2, hq1, h⟩ := bndE_t h
  refine ev_cVi mv_X11_146 dX11_text_19 (c_X5_read hq1) rfl shC_41 rfl rfl (Nat.le_of_ble_eq_true rfl) (by rfl) (Nat.le_of_ble_eq_true rfl) (Nat.le_of_ble_eq_true rfl) (Nat.le_of_ble_eq_true rfl) ?_
  refine ev_istore_n (loc' := [_, _, _]) dX11_text_22 rfl (by decide) (by rfl) ?_
  refine ev_iload_n dX11_text_23 rfl ?_
  refine ev_iconst (v := (-1 : Int32)) dX11_text_24 (by decide) ?_
  refine ev_icmp_ne (tgt := 30) dX11_text_25 (by decide) (fun hc4 => ?_) (fun hc4 => ?_)
  · replace h := ite_f hc4 h
    refine ev_iload_n dX11_text_30 rfl ?_
    refine ev_if_ne (tgt := 54) dX11_text_31 (by decide) (fun hc5 => ?_) (fun hc5 => ?_)
    · replace h := ite_f hc5 h
      refine ev_iload_n dX11_text_54 rfl ?_
      refine ev_iconst (v := (1 : Int32)) dX11_text_55 (by decide) ?_
      refine ev_icmp_ne (tgt := 86) dX11_text_56 (by decide) (fun hc6 => ?_) (fun hc6 => ?_)
      · replace h := ite_f hc6 h
        refine ev_iload_n dX11_text_86 rfl ?_
        refine ev_iconst (v := (2 : Int32)) dX11_text_87 (by decide) ?_
        refine ev_icmp_ne (tgt := 118) dX11_text_88 (by decide) (fun hc7 => ?_) (fun hc7 => ?_)
        · replace h := ite_f hc7 h
          refine ev_aload_n dX11_text_118 rfl ?_
          refine ev_getR fr_X11_12 shC_0 rfl dX11_text_119 ?_
          refine ev_getR fr_X11_175 shC_1 rfl dX11_text_122 ?_
          refine ev_aload_n dX11_text_125 rfl ?_
          refine ev_getR fr_X11_19 shC_0 rfl dX11_text_126 ?_
          refine ev_getR fr_X11_164 shC_41 rfl dX11_text_129 ?_
          obtain ⟨m9, hq8, h⟩ := bndV_t h
          refine ev_cVv mv_X11_167 dX11_text_132 (c_X2_copyFrom atC_24 atC_52 hq8) rfl shC_24 rfl rfl (Nat.le_of_ble_eq_true rfl) (by rfl) (Nat.le_of_ble_eq_true rfl) (Nat.le_of_ble_eq_true rfl) (Nat.le_of_ble_eq_true rfl) ?_
          refine ev_iload_n dX11_text_135 rfl ?_
          exact ev_iret rfl rfl (by decide) (by decide) dX11_text_136 (eqP_E h)
        · replace h := ite_t hc7 h
          refine ev_aload_n dX11_text_91 rfl ?_
          refine ev_getR fr_X11_12 shC_0 rfl dX11_text_92 ?_
          refine ev_getR fr_X11_172 shC_1 rfl dX11_text_95 ?_
          refine ev_aload_n dX11_text_98 rfl ?_
          refine ev_getR fr_X11_19 shC_0 rfl dX11_text_99 ?_
          refine ev_getR fr_X11_164 shC_41 rfl dX11_text_102 ?_
          obtain ⟨m11, hq10, h⟩ := bndV_t h
          refine ev_cVv mv_X11_167 dX11_text_105 (c_X2_copyFrom atC_22 atC_52 hq10) rfl shC_22 rfl rfl (Nat.le_of_ble_eq_true rfl) (by rfl) (Nat.le_of_ble_eq_true rfl) (Nat.le_of_ble_eq_true rfl) (Nat.le_of_ble_eq_true rfl) ?_
          refine ev_aload_n dX11_text_108 rfl ?_
          refine ev_getR fr_X11_26 shC_0 rfl dX11_text_109 ?_
          obtain ⟨m13, hq12, h⟩ := bndV_t h
          refine ev_cVv mv_X11_70 dX11_text_112 (c_X3_forget hq12) rfl shC_54 rfl rfl (Nat.le_of_ble_eq_true rfl) (by rfl) (Nat.le_of_ble_eq_true rfl) (Nat.le_of_ble_eq_true rfl) (Nat.le_of_ble_eq_true rfl) ?_
          refine ev_goto (tgt := 135) dX11_text_115 (by decide) ?_
          refine ev_iload_n dX11_text_135 rfl ?_
          exact ev_iret rfl rfl (by decide) (by decide) dX11_text_136 (eqP_E h)
      · replace h := ite_t hc6 h
        refine ev_aload_n dX11_text_59 rfl ?_
        refine ev_getR fr_X11_12 shC_0 rfl dX11_text_60 ?_
        refine ev_getR fr_X11_160 shC_1 rfl dX11_text_63 ?_
        refine ev_aload_n dX11_text_66 rfl ?_
        refine ev_getR fr_X11_19 shC_0 rfl dX11_text_67 ?_
        refine ev_getR fr_X11_164 shC_41 rfl dX11_text_70 ?_
        obtain ⟨m15, hq14, h⟩ := bndV_t h
        refine ev_cVv mv_X11_167 dX11_text_73 (c_X2_copyFrom atC_20 atC_52 hq14) rfl shC_20 rfl rfl (Nat.le_of_ble_eq_true rfl) (by rfl) (Nat.le_of_ble_eq_true rfl) (Nat.le_of_ble_eq_true rfl) (Nat.le_of_ble_eq_true rfl) ?_
        refine ev_aload_n dX11_text_76 rfl ?_
        refine ev_getR fr_X11_26 shC_0 rfl dX11_text_77 ?_
        obtain ⟨m17, hq16, h⟩ := bndV_t h
        refine ev_cVv mv_X11_70 dX11_text_80 (c_X3_forget hq16) rfl shC_54 rfl rfl (Nat.le_of_ble_eq_true rfl) (by rfl) (Nat.le_of_ble_eq_true rfl) (Nat.le_of_ble_eq_true rfl) (Nat.le_of_ble_eq_true rfl) ?_
        refine ev_goto (tgt := 135) dX11_text_83 (by decide) ?_
        refine ev_iload_n dX11_text_135 rfl ?_
        exact ev_iret rfl rfl (by decide) (by decide) dX11_text_136 (eqP_E h)
    · replace h := ite_t hc5 h
      refine ev_aload_n dX11_text_34 rfl ?_
      refine ev_getR fr_X11_12 shC_0 rfl dX11_text_35 ?_
      refine ev_getR fr_X11_149 shC_1 rfl dX11_text_38 ?_
      refine ev_aload_n dX11_text_41 rfl ?_
      refine ev_getR fr_X11_19 shC_0 rfl dX11_text_42 ?_
      refine ev_getR fr_X11_153 shC_41 rfl dX11_text_45 ?_
      obtain ⟨m19, hq18, h⟩ := bndV_t h
      refine ev_cVv mv_X11_154 dX11_text_48 (c_X1_copyFrom atC_13 atC_45 hq18) rfl shC_13 rfl rfl (Nat.le_of_ble_eq_true rfl) (by rfl) (Nat.le_of_ble_eq_true rfl) (Nat.le_of_ble_eq_true rfl) (Nat.le_of_ble_eq_true rfl) ?_
      refine ev_goto (tgt := 135) dX11_text_51 (by decide) ?_
      refine ev_iload_n dX11_text_135 rfl ?_
      exact ev_iret rfl rfl (by decide) (by decide) dX11_text_136 (eqP_E h)
  · replace h := ite_t hc4 h
    refine ev_iconst (v := (-1 : Int32)) dX11_text_28 (by decide) ?_
    exact ev_iret rfl rfl (by decide) (by decide) dX11_text_29 (eqP_E h)
def f_X11_fault (μ : Mem) (p1 : Int32) : Int32 :=
  (if p1 = (0 : Int32) then
  (μ 41 6)
  else
  (if p1 = (1 : Int32) then
  (μ 41 7)
  else
  (-1 : Int32)))
set_option maxHeartbeats 4000000 in
set_option maxRecDepth 100000 in
theorem c_X11_fault {bb : Bool} {μ : Mem}  {p1 : Int32}  : Cn yX11_fault cX11_fault 2 (some .int) 1 0 0 [.ref 0, .int p1] (shC bb) μ (eqP (some (f_X11_fault μ p1)) (shC bb) μ) := by
  obtain ⟨r, h⟩ : ∃ r, f_X11_fault μ p1 = r := ⟨_, rfl⟩
  rw [h]
  refine cn_of (own := RX11) (ini := false) (loc := [some (.ref 0), some (.int p1)]) rfl (by decide) (fun q => by cases q) (Nat.le_of_ble_eq_true rfl) (by rfl) rfl ?_
  unfold f_X11_fault at h
  refine ev_iload_n dX11_fault_0 rfl ?_
  refine ev_em (v := (0 : Int32)) (fun hc1 => ?_) (fun hc1 => ?_)
  · replace h := ite_t hc1 h
    refine ev_lsC (v := (0 : Int32)) (off := 27) (tgt := 28) dX11_fault_1 (by decide) hc1 (by decide) (by decide) ?_
    refine ev_aload_n dX11_fault_28 rfl ?_
    refine ev_getR fr_X11_19 shC_0 rfl dX11_fault_29 ?_
    refine ev_getI fr_X11_178 shC_41 rfl dX11_fault_32 ?_
    exact ev_iret rfl rfl (by decide) (by decide) dX11_fault_35 (eqP_P h)
  · replace h := ite_f hc1 h
    refine ev_em (v := (1 : Int32)) (fun hc2 => ?_) (fun hc2 => ?_)
    · replace h := ite_t hc2 h
      refine ev_lsC (v := (1 : Int32)) (off := 35) (tgt := 36) dX11_fault_1 (by decide) hc2 (by decide) (by decide) ?_
      refine ev_aload_n dX11_fault_36 rfl ?_
      refine ev_getR fr_X11_19 shC_0 rfl dX11_fault_37 ?_
      refine ev_getI fr_X11_181 shC_41 rfl dX11_fault_40 ?_
      exact ev_iret rfl rfl (by decide) (by decide) dX11_fault_43 (eqP_P h)
    · replace h := ite_f hc2 h
      refine ev_lsE (tgt := 44) dX11_fault_1 (by decide) ⟨hc1, ⟨hc2, trivial⟩⟩ (by decide) ?_
      refine ev_iconst (v := (-1 : Int32)) dX11_fault_44 (by decide) ?_
      exact ev_iret rfl rfl (by decide) (by decide) dX11_fault_45 (eqP_P h)
def f_X11_of (G : Nat) (μ : Mem) (p1 p2 : Int32) : Option Int32 :=
  (if (f_X0_isWoman μ p1) = (0 : Int32) then
  some (-2 : Int32)
  else
  (if p2 = (0 : Int32) then
  chk p1 12 (some (μ 8 (ix p1)))
  else
  (if p2 = (1 : Int32) then
  chk p1 12 (some (μ 9 (ix p1)))
  else
  (if p2 = (2 : Int32) then
  chk p1 12 (some (μ 10 (ix p1)))
  else
  (if p2 = (3 : Int32) then
  chk p1 12 (some (μ 3 (ix p1)))
  else
  (if p2 = (4 : Int32) then
  bndO (f_X0_sistersOf G μ (sl (1 : Int32) p1)) (fun w12 =>
  some w12)
  else
  (if p2 = (5 : Int32) then
  bndO (f_X8_isToCough G 2 μ p1) (fun w15 =>
  (if w15 = (0 : Int32) then
  some (0 : Int32)
  else
  some (1 : Int32)))
  else
  some (-2 : Int32))))))))
set_option maxHeartbeats 4000000 in
set_option maxRecDepth 100000 in
theorem c_X11_of {bb : Bool} {G : Nat} {μ : Mem}  {p1 p2 : Int32} {r : Int32}  (h : f_X11_of G μ p1 p2 = some r) : Cn yX11_of cX11_of 3 (some .int) 4 0 0 [.ref 0, .int p1, .int p2] (shC bb) μ (eqP (some r) (shC bb) μ) := by
  refine cn_of (own := RX11) (ini := false) (loc := [some (.ref 0), some (.int p1), some (.int p2)]) rfl (by decide) (fun q => by cases q) (Nat.le_of_ble_eq_true rfl) (by rfl) rfl ?_
  unfold f_X11_of at h
  refine ev_aload_n dX11_of_0 rfl ?_
  refine ev_getR fr_X11_12 shC_0 rfl dX11_of_1 ?_
  refine ev_iload_n dX11_of_4 rfl ?_
  refine ev_cVi mv_X11_81 dX11_of_5 c_X0_isWoman rfl shC_1 rfl rfl (Nat.le_of_ble_eq_true rfl) (by rfl) (Nat.le_of_ble_eq_true rfl) (Nat.le_of_ble_eq_true rfl) (Nat.le_of_ble_eq_true rfl) ?_
  refine ev_if_ne (tgt := 14) dX11_of_8 (by decide) (fun hc1 => ?_) (fun hc1 => ?_)
  · replace h := ite_f hc1 h
    refine ev_iload_n dX11_of_14 rfl ?_
    refine ev_em (v := (0 : Int32)) (fun hc2 => ?_) (fun hc2 => ?_)
    · replace h := ite_t hc2 h
      refine ev_tsC (v := (0 : Int32)) (off := 37) (tgt := 52) dX11_of_15 (by decide) hc2 (by decide) (by decide) ?_
      refine ev_aload_n dX11_of_52 rfl ?_
      refine ev_getR fr_X11_12 shC_0 rfl dX11_of_53 ?_
      refine ev_getR fr_X11_184 shC_1 rfl dX11_of_56 ?_
      refine ev_iload_n dX11_of_59 rfl ?_
      obtain ⟨hi3, h⟩ := chk_t h
      refine ev_iald shC_8 hi3 dX11_of_60 ?_
      exact ev_iret rfl rfl (by decide) (by decide) dX11_of_61 (eqP_O h)
    · replace h := ite_f hc2 h
      refine ev_em (v := (1 : Int32)) (fun hc4 => ?_) (fun hc4 => ?_)
      · replace h := ite_t hc4 h
        refine ev_tsC (v := (1 : Int32)) (off := 47) (tgt := 62) dX11_of_15 (by decide) hc4 (by decide) (by decide) ?_
        refine ev_aload_n dX11_of_62 rfl ?_
        refine ev_getR fr_X11_12 shC_0 rfl dX11_of_63 ?_
        refine ev_getR fr_X11_187 shC_1 rfl dX11_of_66 ?_
        refine ev_iload_n dX11_of_69 rfl ?_
        obtain ⟨hi5, h⟩ := chk_t h
        refine ev_iald shC_9 hi5 dX11_of_70 ?_
        exact ev_iret rfl rfl (by decide) (by decide) dX11_of_71 (eqP_O h)
      · replace h := ite_f hc4 h
        refine ev_em (v := (2 : Int32)) (fun hc6 => ?_) (fun hc6 => ?_)
        · replace h := ite_t hc6 h
          refine ev_tsC (v := (2 : Int32)) (off := 57) (tgt := 72) dX11_of_15 (by decide) hc6 (by decide) (by decide) ?_
          refine ev_aload_n dX11_of_72 rfl ?_
          refine ev_getR fr_X11_12 shC_0 rfl dX11_of_73 ?_
          refine ev_getR fr_X11_190 shC_1 rfl dX11_of_76 ?_
          refine ev_iload_n dX11_of_79 rfl ?_
          obtain ⟨hi7, h⟩ := chk_t h
          refine ev_iald shC_10 hi7 dX11_of_80 ?_
          exact ev_iret rfl rfl (by decide) (by decide) dX11_of_81 (eqP_O h)
        · replace h := ite_f hc6 h
          refine ev_em (v := (3 : Int32)) (fun hc8 => ?_) (fun hc8 => ?_)
          · replace h := ite_t hc8 h
            refine ev_tsC (v := (3 : Int32)) (off := 67) (tgt := 82) dX11_of_15 (by decide) hc8 (by decide) (by decide) ?_
            refine ev_aload_n dX11_of_82 rfl ?_
            refine ev_getR fr_X11_12 shC_0 rfl dX11_of_83 ?_
            refine ev_getR fr_X11_63 shC_1 rfl dX11_of_86 ?_
            refine ev_getR fr_X11_193 shC_2 rfl dX11_of_89 ?_
            refine ev_iload_n dX11_of_92 rfl ?_
            obtain ⟨hi9, h⟩ := chk_t h
            refine ev_iald shC_3 hi9 dX11_of_93 ?_
            exact ev_iret rfl rfl (by decide) (by decide) dX11_of_94 (eqP_O h)
          · replace h := ite_f hc8 h
            refine ev_em (v := (4 : Int32)) (fun hc10 => ?_) (fun hc10 => ?_)
            · replace h := ite_t hc10 h
              refine ev_tsC (v := (4 : Int32)) (off := 80) (tgt := 95) dX11_of_15 (by decide) hc10 (by decide) (by decide) ?_
              refine ev_aload_n dX11_of_95 rfl ?_
              refine ev_getR fr_X11_12 shC_0 rfl dX11_of_96 ?_
              refine ev_iconst (v := (1 : Int32)) dX11_of_99 (by decide) ?_
              refine ev_iload_n dX11_of_100 rfl ?_
              refine ev_ishl dX11_of_101 ?_
              obtain ⟨w12, hq11, h⟩ := bndO_t h
              refine ev_cVi mv_X11_196 dX11_of_102 (c_X0_sistersOf hq11) rfl shC_1 rfl rfl (Nat.le_of_ble_eq_true rfl) (by rfl) (Nat.le_of_ble_eq_true rfl) (Nat.le_of_ble_eq_true rfl) (Nat.le_of_ble_eq_true rfl) ?_
              exact ev_iret rfl rfl (by decide) (by decide) dX11_of_105 (eqP_O h)
            · replace h := ite_f hc10 h
              refine ev_em (v := (5 : Int32)) (fun hc13 => ?_) (fun hc13 => ?_)
              · replace h := ite_t hc13 h
                refine ev_tsC (v := (5 : Int32)) (off := 91) (tgt := 106) dX11_of_15 (by decide) hc13 (by decide) (by decide) ?_
                refine ev_aload_n dX11_of_106 rfl ?_
                refine ev_getR fr_X11_12 shC_0 rfl dX11_of_107 ?_
                refine ev_getR fr_X11_63 shC_1 rfl dX11_of_110 ?_
                refine ev_iload_n dX11_of_113 rfl ?_
                obtain ⟨w15, hq14, h⟩ := bndO_t h
                refine ev_cVi mv_X11_117 dX11_of_114 (c_X8_isToCough atC_2 hq14) rfl shC_2 rfl rfl (Nat.le_of_ble_eq_true rfl) (by rfl) (Nat.le_of_ble_eq_true rfl) (Nat.le_of_ble_eq_true rfl) (Nat.le_of_ble_eq_true rfl) ?_
                refine ev_if_eq (tgt := 124) dX11_of_117 (by decide) (fun hc16 => ?_) (fun hc16 => ?_)
                · replace h := ite_t hc16 h
                  refine ev_iconst (v := (0 : Int32)) dX11_of_124 (by decide) ?_
                  exact ev_iret rfl rfl (by decide) (by decide) dX11_of_125 (eqP_O h)
                · replace h := ite_f hc16 h
                  refine ev_iconst (v := (1 : Int32)) dX11_of_120 (by decide) ?_
                  refine ev_goto (tgt := 125) dX11_of_121 (by decide) ?_
                  exact ev_iret rfl rfl (by decide) (by decide) dX11_of_125 (eqP_O h)
              · replace h := ite_f hc13 h
                refine ev_tsE (tgt := 126) dX11_of_15 (by decide) ⟨Or.inr hc2, ⟨Or.inr hc4, ⟨Or.inr hc6, ⟨Or.inr hc8, ⟨Or.inr hc10, ⟨Or.inr hc13, trivial⟩⟩⟩⟩⟩⟩ (by decide) ?_
                refine ev_bipush (v := (-2 : Int32)) dX11_of_126 (by decide) ?_
                exact ev_iret rfl rfl (by decide) (by decide) dX11_of_128 (eqP_O h)
  · replace h := ite_t hc1 h
    refine ev_bipush (v := (-2 : Int32)) dX11_of_11 (by decide) ?_
    exact ev_iret rfl rfl (by decide) (by decide) dX11_of_13 (eqP_O h)
def f_X11_who (G : Nat) (p1 p2 : Int32) (μ : Mem) : Option (Int32 × Mem) :=
  (if (f_X0_isGroom μ p1) = (0 : Int32) then
  some ((-100 : Int32), μ)
  else
  (if p2 = (0 : Int32) then
  chk p1 8 (some ((μ 11 (ix p1)), μ))
  else
  (if p2 = (1 : Int32) then
  chk p1 8 (some ((μ 12 (ix p1)), μ))
  else
  (if p2 = (2 : Int32) then
  chk p1 8 (some ((μ 4 (ix p1)), μ))
  else
  (if p2 = (3 : Int32) then
  chk p1 8 (some ((μ 5 (ix p1)), μ))
  else
  (if p2 = (4 : Int32) then
  chk p1 8 (some ((μ 6 (ix p1)), μ))
  else
  (if p2 = (5 : Int32) then
  chk p1 8 (some ((μ 7 (ix p1)), μ))
  else
  (if p2 < (10 : Int32) then
  some ((-100 : Int32), μ)
  else
  (if (f_X0_isWoman μ (p2 - (10 : Int32))) = (0 : Int32) then
  some ((-100 : Int32), μ)
  else
  bndV (f_X7_meet G 2 p1 (p2 - (10 : Int32)) μ) (fun m17 =>
  bndE (f_X7_joyTold G m17) (fun w20 m19 =>
  some (w20, m19))))))))))))
set_option maxHeartbeats 4000000 in
set_option maxRecDepth 100000 in
theorem c_X11_who {bb : Bool} {G : Nat} {μ : Mem} {p1 p2 : Int32} {r : Int32} {μr : Mem}  (h : f_X11_who G p1 p2 μ = some (r, μr)) : Cn yX11_who cX11_who 3 (some .int) 5 0 0 [.ref 0, .int p1, .int p2] (shC bb) μ (eqP (some r) (shC bb) μr) := by
  refine cn_of (own := RX11) (ini := false) (loc := [some (.ref 0), some (.int p1), some (.int p2)]) rfl (by decide) (fun q => by cases q) (Nat.le_of_ble_eq_true rfl) (by rfl) rfl ?_
  unfold f_X11_who at h
  refine ev_aload_n dX11_who_0 rfl ?_
  refine ev_getR fr_X11_12 shC_0 rfl dX11_who_1 ?_
  refine ev_iload_n dX11_who_4 rfl ?_
  refine ev_cVi mv_X11_92 dX11_who_5 c_X0_isGroom rfl shC_1 rfl rfl (Nat.le_of_ble_eq_true rfl) (by rfl) (Nat.le_of_ble_eq_true rfl) (Nat.le_of_ble_eq_true rfl) (Nat.le_of_ble_eq_true rfl) ?_
  refine ev_if_ne (tgt := 14) dX11_who_8 (by decide) (fun hc1 => ?_) (fun hc1 => ?_)
  · replace h := ite_f hc1 h
    refine ev_iload_n dX11_who_14 rfl ?_
    refine ev_em (v := (0 : Int32)) (fun hc2 => ?_) (fun hc2 => ?_)
    · replace h := ite_t hc2 h
      refine ev_tsC (v := (0 : Int32)) (off := 37) (tgt := 52) dX11_who_15 (by decide) hc2 (by decide) (by decide) ?_
      refine ev_aload_n dX11_who_52 rfl ?_
      refine ev_getR fr_X11_12 shC_0 rfl dX11_who_53 ?_
      refine ev_getR fr_X11_200 shC_1 rfl dX11_who_56 ?_
      refine ev_iload_n dX11_who_59 rfl ?_
      obtain ⟨hi3, h⟩ := chk_t h
      refine ev_iald shC_11 hi3 dX11_who_60 ?_
      exact ev_iret rfl rfl (by decide) (by decide) dX11_who_61 (eqP_E h)
    · replace h := ite_f hc2 h
      refine ev_em (v := (1 : Int32)) (fun hc4 => ?_) (fun hc4 => ?_)
      · replace h := ite_t hc4 h
        refine ev_tsC (v := (1 : Int32)) (off := 47) (tgt := 62) dX11_who_15 (by decide) hc4 (by decide) (by decide) ?_
        refine ev_aload_n dX11_who_62 rfl ?_
        refine ev_getR fr_X11_12 shC_0 rfl dX11_who_63 ?_
        refine ev_getR fr_X11_203 shC_1 rfl dX11_who_66 ?_
        refine ev_iload_n dX11_who_69 rfl ?_
        obtain ⟨hi5, h⟩ := chk_t h
        refine ev_iald shC_12 hi5 dX11_who_70 ?_
        exact ev_iret rfl rfl (by decide) (by decide) dX11_who_71 (eqP_E h)
      · replace h := ite_f hc4 h
        refine ev_em (v := (2 : Int32)) (fun hc6 => ?_) (fun hc6 => ?_)
        · replace h := ite_t hc6 h
          refine ev_tsC (v := (2 : Int32)) (off := 57) (tgt := 72) dX11_who_15 (by decide) hc6 (by decide) (by decide) ?_
          refine ev_aload_n dX11_who_72 rfl ?_
          refine ev_getR fr_X11_12 shC_0 rfl dX11_who_73 ?_
          refine ev_getR fr_X11_63 shC_1 rfl dX11_who_76 ?_
          refine ev_getR fr_X11_109 shC_2 rfl dX11_who_79 ?_
          refine ev_iload_n dX11_who_82 rfl ?_
          obtain ⟨hi7, h⟩ := chk_t h
          refine ev_iald shC_4 hi7 dX11_who_83 ?_
          exact ev_iret rfl rfl (by decide) (by decide) dX11_who_84 (eqP_E h)
        · replace h := ite_f hc6 h
          refine ev_em (v := (3 : Int32)) (fun hc8 => ?_) (fun hc8 => ?_)
          · replace h := ite_t hc8 h
            refine ev_tsC (v := (3 : Int32)) (off := 70) (tgt := 85) dX11_who_15 (by decide) hc8 (by decide) (by decide) ?_
            refine ev_aload_n dX11_who_85 rfl ?_
            refine ev_getR fr_X11_12 shC_0 rfl dX11_who_86 ?_
            refine ev_getR fr_X11_63 shC_1 rfl dX11_who_89 ?_
            refine ev_getR fr_X11_206 shC_2 rfl dX11_who_92 ?_
            refine ev_iload_n dX11_who_95 rfl ?_
            obtain ⟨hi9, h⟩ := chk_t h
            refine ev_iald shC_5 hi9 dX11_who_96 ?_
            exact ev_iret rfl rfl (by decide) (by decide) dX11_who_97 (eqP_E h)
          · replace h := ite_f hc8 h
            refine ev_em (v := (4 : Int32)) (fun hc10 => ?_) (fun hc10 => ?_)
            · replace h := ite_t hc10 h
              refine ev_tsC (v := (4 : Int32)) (off := 83) (tgt := 98) dX11_who_15 (by decide) hc10 (by decide) (by decide) ?_
              refine ev_aload_n dX11_who_98 rfl ?_
              refine ev_getR fr_X11_12 shC_0 rfl dX11_who_99 ?_
              refine ev_getR fr_X11_63 shC_1 rfl dX11_who_102 ?_
              refine ev_getR fr_X11_209 shC_2 rfl dX11_who_105 ?_
              refine ev_iload_n dX11_who_108 rfl ?_
              obtain ⟨hi11, h⟩ := chk_t h
              refine ev_iald shC_6 hi11 dX11_who_109 ?_
              exact ev_iret rfl rfl (by decide) (by decide) dX11_who_110 (eqP_E h)
            · replace h := ite_f hc10 h
              refine ev_em (v := (5 : Int32)) (fun hc12 => ?_) (fun hc12 => ?_)
              · replace h := ite_t hc12 h
                refine ev_tsC (v := (5 : Int32)) (off := 96) (tgt := 111) dX11_who_15 (by decide) hc12 (by decide) (by decide) ?_
                refine ev_aload_n dX11_who_111 rfl ?_
                refine ev_getR fr_X11_12 shC_0 rfl dX11_who_112 ?_
                refine ev_getR fr_X11_63 shC_1 rfl dX11_who_115 ?_
                refine ev_getR fr_X11_212 shC_2 rfl dX11_who_118 ?_
                refine ev_iload_n dX11_who_121 rfl ?_
                obtain ⟨hi13, h⟩ := chk_t h
                refine ev_iald shC_7 hi13 dX11_who_122 ?_
                exact ev_iret rfl rfl (by decide) (by decide) dX11_who_123 (eqP_E h)
              · replace h := ite_f hc12 h
                refine ev_tsE (tgt := 124) dX11_who_15 (by decide) ⟨Or.inr hc2, ⟨Or.inr hc4, ⟨Or.inr hc6, ⟨Or.inr hc8, ⟨Or.inr hc10, ⟨Or.inr hc12, trivial⟩⟩⟩⟩⟩⟩ (by decide) ?_
                refine ev_iload_n dX11_who_124 rfl ?_
                refine ev_bipush (v := (10 : Int32)) dX11_who_125 (by decide) ?_
                refine ev_icmp_lt (tgt := 144) dX11_who_127 (by decide) (fun hc14 => ?_) (fun hc14 => ?_)
                · replace h := ite_t hc14 h
                  refine ev_bipush (v := (-100 : Int32)) dX11_who_144 (by decide) ?_
                  exact ev_iret rfl rfl (by decide) (by decide) dX11_who_146 (eqP_E h)
                · replace h := ite_f hc14 h
                  refine ev_aload_n dX11_who_130 rfl ?_
                  refine ev_getR fr_X11_12 shC_0 rfl dX11_who_131 ?_
                  refine ev_iload_n dX11_who_134 rfl ?_
                  refine ev_bipush (v := (10 : Int32)) dX11_who_135 (by decide) ?_
                  refine ev_isub dX11_who_137 ?_
                  refine ev_cVi mv_X11_81 dX11_who_138 c_X0_isWoman rfl shC_1 rfl rfl (Nat.le_of_ble_eq_true rfl) (by rfl) (Nat.le_of_ble_eq_true rfl) (Nat.le_of_ble_eq_true rfl) (Nat.le_of_ble_eq_true rfl) ?_
                  refine ev_if_ne (tgt := 147) dX11_who_141 (by decide) (fun hc15 => ?_) (fun hc15 => ?_)
                  · replace h := ite_f hc15 h
                    refine ev_aload_n dX11_who_147 rfl ?_
                    refine ev_getR fr_X11_35 shC_0 rfl dX11_who_148 ?_
                    refine ev_aload_n dX11_who_151 rfl ?_
                    refine ev_getR fr_X11_12 shC_0 rfl dX11_who_152 ?_
                    refine ev_getR fr_X11_63 shC_1 rfl dX11_who_155 ?_
                    refine ev_iload_n dX11_who_158 rfl ?_
                    refine ev_iload_n dX11_who_159 rfl ?_
                    refine ev_bipush (v := (10 : Int32)) dX11_who_160 (by decide) ?_
                    refine ev_isub dX11_who_162 ?_
                    obtain ⟨m17, hq16, h⟩ := bndV_t h
                    refine ev_cVv mv_X11_215 dX11_who_163 (c_X7_meet atC_2 hq16) rfl shC_93 rfl rfl (Nat.le_of_ble_eq_true rfl) (by rfl) (Nat.le_of_ble_eq_true rfl) (Nat.le_of_ble_eq_true rfl) (Nat.le_of_ble_eq_true rfl) ?_
                    refine ev_aload_n dX11_who_166 rfl ?_
                    refine ev_getR fr_X11_35 shC_0 rfl dX11_who_167 ?_
                    obtain ⟨w20, m19, hq18, h⟩ := bndE_t h
                    refine ev_cVi mv_X11_219 dX11_who_170 (c_X7_joyTold hq18) rfl shC_93 rfl rfl (Nat.le_of_ble_eq_true rfl) (by rfl) (Nat.le_of_ble_eq_true rfl) (Nat.le_of_ble_eq_true rfl) (Nat.le_of_ble_eq_true rfl) ?_
                    exact ev_iret rfl rfl (by decide) (by decide) dX11_who_173 (eqP_E h)
                  · replace h := ite_t hc15 h
                    refine ev_bipush (v := (-100 : Int32)) dX11_who_144 (by decide) ?_
                    exact ev_iret rfl rfl (by decide) (by decide) dX11_who_146 (eqP_E h)
  · replace h := ite_t hc1 h
    refine ev_bipush (v := (-100 : Int32)) dX11_who_11 (by decide) ?_
    exact ev_iret rfl rfl (by decide) (by decide) dX11_who_13 (eqP_E h)
def f_X11_canAnswer (μ : Mem) (p1 p2 p3 p4 : Int32) : Int32 :=
  (if (f_X0_isGroom μ p1) = (0 : Int32) then
  (0 : Int32)
  else
  (if (f_X0_isWoman μ p2) = (0 : Int32) then
  (0 : Int32)
  else
  (if (f_X11_isBelow p3 (μ 20 3)) = (0 : Int32) then
  (0 : Int32)
  else
  (if (f_X11_isBelow p4 (3 : Int32)) = (0 : Int32) then
  (0 : Int32)
  else
  (1 : Int32)))))
set_option maxHeartbeats 4000000 in
set_option maxRecDepth 100000 in
theorem c_X11_canAnswer {bb : Bool} {μ : Mem}  {p1 p2 p3 p4 : Int32}  : Cn yX11_canAnswer cX11_canAnswer 5 (some .boolean) 3 0 0 [.ref 0, .int p1, .int p2, .int p3, .int p4] (shC bb) μ (eqP (some (f_X11_canAnswer μ p1 p2 p3 p4)) (shC bb) μ) := by
  obtain ⟨r, h⟩ : ∃ r, f_X11_canAnswer μ p1 p2 p3 p4 = r := ⟨_, rfl⟩
  rw [h]
  refine cn_of (own := RX11) (ini := false) (loc := [some (.ref 0), some (.int p1), some (.int p2), some (.int p3), some (.int p4)]) rfl (by decide) (fun q => by cases q) (Nat.le_of_ble_eq_true rfl) (by rfl) rfl ?_
  unfold f_X11_canAnswer at h
  refine ev_aload_n dX11_canAnswer_0 rfl ?_
  refine ev_getR fr_X11_12 shC_0 rfl dX11_canAnswer_1 ?_
  refine ev_iload_n dX11_canAnswer_4 rfl ?_
  refine ev_cVi mv_X11_92 dX11_canAnswer_5 c_X0_isGroom rfl shC_1 rfl rfl (Nat.le_of_ble_eq_true rfl) (by rfl) (Nat.le_of_ble_eq_true rfl) (Nat.le_of_ble_eq_true rfl) (Nat.le_of_ble_eq_true rfl) ?_
  refine ev_if_eq (tgt := 52) dX11_canAnswer_8 (by decide) (fun hc1 => ?_) (fun hc1 => ?_)
  · replace h := ite_t hc1 h
    refine ev_iconst (v := (0 : Int32)) dX11_canAnswer_52 (by decide) ?_
    exact ev_iret rfl rfl (by decide) (by decide) dX11_canAnswer_53 (eqP_P h)
  · replace h := ite_f hc1 h
    refine ev_aload_n dX11_canAnswer_11 rfl ?_
    refine ev_getR fr_X11_12 shC_0 rfl dX11_canAnswer_12 ?_
    refine ev_iload_n dX11_canAnswer_15 rfl ?_
    refine ev_cVi mv_X11_81 dX11_canAnswer_16 c_X0_isWoman rfl shC_1 rfl rfl (Nat.le_of_ble_eq_true rfl) (by rfl) (Nat.le_of_ble_eq_true rfl) (Nat.le_of_ble_eq_true rfl) (Nat.le_of_ble_eq_true rfl) ?_
    refine ev_if_eq (tgt := 52) dX11_canAnswer_19 (by decide) (fun hc2 => ?_) (fun hc2 => ?_)
    · replace h := ite_t hc2 h
      refine ev_iconst (v := (0 : Int32)) dX11_canAnswer_52 (by decide) ?_
      exact ev_iret rfl rfl (by decide) (by decide) dX11_canAnswer_53 (eqP_P h)
    · replace h := ite_f hc2 h
      refine ev_iload_n dX11_canAnswer_22 rfl ?_
      refine ev_aload_n dX11_canAnswer_23 rfl ?_
      refine ev_getR fr_X11_12 shC_0 rfl dX11_canAnswer_24 ?_
      refine ev_getR fr_X11_160 shC_1 rfl dX11_canAnswer_27 ?_
      refine ev_getI fr_X11_240 shC_20 rfl dX11_canAnswer_30 ?_
      refine ev_cSi mv_X11_273 dX11_canAnswer_33 c_X11_isBelow rfl rfl (Nat.le_of_ble_eq_true rfl) (by rfl) (Nat.le_of_ble_eq_true rfl) (Nat.le_of_ble_eq_true rfl) (Nat.le_of_ble_eq_true rfl) ?_
      refine ev_if_eq (tgt := 52) dX11_canAnswer_36 (by decide) (fun hc3 => ?_) (fun hc3 => ?_)
      · replace h := ite_t hc3 h
        refine ev_iconst (v := (0 : Int32)) dX11_canAnswer_52 (by decide) ?_
        exact ev_iret rfl rfl (by decide) (by decide) dX11_canAnswer_53 (eqP_P h)
      · replace h := ite_f hc3 h
        refine ev_iload dX11_canAnswer_39 rfl ?_
        refine ev_iconst (v := (3 : Int32)) dX11_canAnswer_41 (by decide) ?_
        refine ev_cSi mv_X11_273 dX11_canAnswer_42 c_X11_isBelow rfl rfl (Nat.le_of_ble_eq_true rfl) (by rfl) (Nat.le_of_ble_eq_true rfl) (Nat.le_of_ble_eq_true rfl) (Nat.le_of_ble_eq_true rfl) ?_
        refine ev_if_eq (tgt := 52) dX11_canAnswer_45 (by decide) (fun hc4 => ?_) (fun hc4 => ?_)
        · replace h := ite_t hc4 h
          refine ev_iconst (v := (0 : Int32)) dX11_canAnswer_52 (by decide) ?_
          exact ev_iret rfl rfl (by decide) (by decide) dX11_canAnswer_53 (eqP_P h)
        · replace h := ite_f hc4 h
          refine ev_iconst (v := (1 : Int32)) dX11_canAnswer_48 (by decide) ?_
          refine ev_goto (tgt := 53) dX11_canAnswer_49 (by decide) ?_
          exact ev_iret rfl rfl (by decide) (by decide) dX11_canAnswer_53 (eqP_P h)
def f_X11_yes (G : Nat) (p1 p2 p3 p4 : Int32) (μ : Mem) : Option (Int32 × Mem) :=
  (if (f_X11_canAnswer μ p1 p2 p3 p4) = (0 : Int32) then
  some ((-1 : Int32), μ)
  else
  bndV (f_X7_meet G 2 p1 p2 μ) (fun m3 =>
  bndO (f_X2_at G 20 16 m3 p3 (0 : Int32)) (fun w5 =>
  bndE (f_X7_yesTold G w5 p4 m3) (fun w8 m7 =>
  some (w8, m7)))))
set_option maxHeartbeats 4000000 in
set_option maxRecDepth 100000 in
theorem c_X11_yes {bb : Bool} {G : Nat} {μ : Mem} {p1 p2 p3 p4 : Int32} {r : Int32} {μr : Mem}  (h : f_X11_yes G p1 p2 p3 p4 μ = some (r, μr)) : Cn yX11_yes cX11_yes 5 (some .int) 5 0 0 [.ref 0, .int p1, .int p2, .int p3, .int p4] (shC bb) μ (eqP (some r) (shC bb) μr) := by
  refine cn_of (own := RX11) (ini := false) (loc := [some (.ref 0), some (.int p1), some (.int p2), some (.int p3), some (.int p4)]) rfl (by decide) (fun q => by cases q) (Nat.le_of_ble_eq_true rfl) (by rfl) rfl ?_
  unfold f_X11_yes at h
  refine ev_aload_n dX11_yes_0 rfl ?_
  refine ev_iload_n dX11_yes_1 rfl ?_
  refine ev_iload_n dX11_yes_2 rfl ?_
  refine ev_iload_n dX11_yes_3 rfl ?_
  refine ev_iload dX11_yes_4 rfl ?_
  refine ev_cVi mv_X11_223 dX11_yes_6 c_X11_canAnswer rfl shC_0 rfl rfl (Nat.le_of_ble_eq_true rfl) (by rfl) (Nat.le_of_ble_eq_true rfl) (Nat.le_of_ble_eq_true rfl) (Nat.le_of_ble_eq_true rfl) ?_
  refine ev_if_ne (tgt := 14) dX11_yes_9 (by decide) (fun hc1 => ?_) (fun hc1 => ?_)
  · replace h := ite_f hc1 h
    refine ev_aload_n dX11_yes_14 rfl ?_
    refine ev_getR fr_X11_35 shC_0 rfl dX11_yes_15 ?_
    refine ev_aload_n dX11_yes_18 rfl ?_
    refine ev_getR fr_X11_12 shC_0 rfl dX11_yes_19 ?_
    refine ev_getR fr_X11_63 shC_1 rfl dX11_yes_22 ?_
    refine ev_iload_n dX11_yes_25 rfl ?_
    refine ev_iload_n dX11_yes_26 rfl ?_
    obtain ⟨m3, hq2, h⟩ := bndV_t h
    refine ev_cVv mv_X11_215 dX11_yes_27 (c_X7_meet atC_2 hq2) rfl shC_93 rfl rfl (Nat.le_of_ble_eq_true rfl) (by rfl) (Nat.le_of_ble_eq_true rfl) (Nat.le_of_ble_eq_true rfl) (Nat.le_of_ble_eq_true rfl) ?_
    refine ev_aload_n dX11_yes_30 rfl ?_
    refine ev_getR fr_X11_35 shC_0 rfl dX11_yes_31 ?_
    refine ev_aload_n dX11_yes_34 rfl ?_
    refine ev_getR fr_X11_12 shC_0 rfl dX11_yes_35 ?_
    refine ev_getR fr_X11_160 shC_1 rfl dX11_yes_38 ?_
    refine ev_iload_n dX11_yes_41 rfl ?_
    refine ev_iconst (v := (0 : Int32)) dX11_yes_42 (by decide) ?_
    obtain ⟨w5, hq4, h⟩ := bndO_t h
    refine ev_cVi mv_X11_227 dX11_yes_43 (c_X2_at atC_20 hq4) rfl shC_20 rfl rfl (Nat.le_of_ble_eq_true rfl) (by rfl) (Nat.le_of_ble_eq_true rfl) (Nat.le_of_ble_eq_true rfl) (Nat.le_of_ble_eq_true rfl) ?_
    refine ev_iload dX11_yes_46 rfl ?_
    obtain ⟨w8, m7, hq6, h⟩ := bndE_t h
    refine ev_cVi mv_X11_230 dX11_yes_48 (c_X7_yesTold hq6) rfl shC_93 rfl rfl (Nat.le_of_ble_eq_true rfl) (by rfl) (Nat.le_of_ble_eq_true rfl) (Nat.le_of_ble_eq_true rfl) (Nat.le_of_ble_eq_true rfl) ?_
    exact ev_iret rfl rfl (by decide) (by decide) dX11_yes_51 (eqP_E h)
  · replace h := ite_t hc1 h
    refine ev_iconst (v := (-1 : Int32)) dX11_yes_12 (by decide) ?_
    exact ev_iret rfl rfl (by decide) (by decide) dX11_yes_13 (eqP_E h)
def f_X11_counts (G : Nat) (p1 p2 p3 p4 p5 : Int32) (μ : Mem) : Option (Int32 × Mem) :=
  (if (f_X11_canAnswer μ p1 p2 p3 p4) = (0 : Int32) then
  some ((-100 : Int32), μ)
  else
  bndV (f_X7_meet G 2 p1 p2 μ) (fun m3 =>
  bndO (f_X2_at G 20 16 m3 p3 (0 : Int32)) (fun w5 =>
  bndE (f_X7_countsTold G w5 p4 p5 m3) (fun w8 m7 =>
  some (w8, m7)))))
set_option maxHeartbeats 4000000 in
set_option maxRecDepth 100000 in
theorem c_X11_counts {bb : Bool} {G : Nat} {μ : Mem} {p1 p2 p3 p4 p5 : Int32} {r : Int32} {μr : Mem}  (h : f_X11_counts G p1 p2 p3 p4 p5 μ = some (r, μr)) : Cn yX11_counts cX11_counts 6 (some .int) 5 0 0 [.ref 0, .int p1, .int p2, .int p3, .int p4, .int p5] (shC bb) μ (eqP (some r) (shC bb) μr) := by
  refine cn_of (own := RX11) (ini := false) (loc := [some (.ref 0), some (.int p1), some (.int p2), some (.int p3), some (.int p4), some (.int p5)]) rfl (by decide) (fun q => by cases q) (Nat.le_of_ble_eq_true rfl) (by rfl) rfl ?_
  unfold f_X11_counts at h
  refine ev_aload_n dX11_counts_0 rfl ?_
  refine ev_iload_n dX11_counts_1 rfl ?_
  refine ev_iload_n dX11_counts_2 rfl ?_
  refine ev_iload_n dX11_counts_3 rfl ?_
  refine ev_iload dX11_counts_4 rfl ?_
  refine ev_cVi mv_X11_223 dX11_counts_6 c_X11_canAnswer rfl shC_0 rfl rfl (Nat.le_of_ble_eq_true rfl) (by rfl) (Nat.le_of_ble_eq_true rfl) (Nat.le_of_ble_eq_true rfl) (Nat.le_of_ble_eq_true rfl) ?_
  refine ev_if_ne (tgt := 15) dX11_counts_9 (by decide) (fun hc1 => ?_) (fun hc1 => ?_)
  · replace h := ite_f hc1 h
    refine ev_aload_n dX11_counts_15 rfl ?_
    refine ev_getR fr_X11_35 shC_0 rfl dX11_counts_16 ?_
    refine ev_aload_n dX11_counts_19 rfl ?_
    refine ev_getR fr_X11_12 shC_0 rfl dX11_counts_20 ?_
    refine ev_getR fr_X11_63 shC_1 rfl dX11_counts_23 ?_
    refine ev_iload_n dX11_counts_26 rfl ?_
    refine ev_iload_n dX11_counts_27 rfl ?_
    obtain ⟨m3, hq2, h⟩ := bndV_t h
    refine ev_cVv mv_X11_215 dX11_counts_28 (c_X7_meet atC_2 hq2) rfl shC_93 rfl rfl (Nat.le_of_ble_eq_true rfl) (by rfl) (Nat.le_of_ble_eq_true rfl) (Nat.le_of_ble_eq_true rfl) (Nat.le_of_ble_eq_true rfl) ?_
    refine ev_aload_n dX11_counts_31 rfl ?_
    refine ev_getR fr_X11_35 shC_0 rfl dX11_counts_32 ?_
    refine ev_aload_n dX11_counts_35 rfl ?_
    refine ev_getR fr_X11_12 shC_0 rfl dX11_counts_36 ?_
    refine ev_getR fr_X11_160 shC_1 rfl dX11_counts_39 ?_
    refine ev_iload_n dX11_counts_42 rfl ?_
    refine ev_iconst (v := (0 : Int32)) dX11_counts_43 (by decide) ?_
    obtain ⟨w5, hq4, h⟩ := bndO_t h
    refine ev_cVi mv_X11_227 dX11_counts_44 (c_X2_at atC_20 hq4) rfl shC_20 rfl rfl (Nat.le_of_ble_eq_true rfl) (by rfl) (Nat.le_of_ble_eq_true rfl) (Nat.le_of_ble_eq_true rfl) (Nat.le_of_ble_eq_true rfl) ?_
    refine ev_iload dX11_counts_47 rfl ?_
    refine ev_iload dX11_counts_49 rfl ?_
    obtain ⟨w8, m7, hq6, h⟩ := bndE_t h
    refine ev_cVi mv_X11_233 dX11_counts_51 (c_X7_countsTold hq6) rfl shC_93 rfl rfl (Nat.le_of_ble_eq_true rfl) (by rfl) (Nat.le_of_ble_eq_true rfl) (Nat.le_of_ble_eq_true rfl) (Nat.le_of_ble_eq_true rfl) ?_
    exact ev_iret rfl rfl (by decide) (by decide) dX11_counts_54 (eqP_E h)
  · replace h := ite_t hc1 h
    refine ev_bipush (v := (-100 : Int32)) dX11_counts_12 (by decide) ?_
    exact ev_iret rfl rfl (by decide) (by decide) dX11_counts_14 (eqP_E h)
def f_X11_book (G : Nat) (μ : Mem) (p1 p2 : Int32) : Option Int32 :=
  (if p1 < (0 : Int32) then
  some (-10000 : Int32)
  else
  (if (μ 26 3) ≤ p1 then
  some (-10000 : Int32)
  else
  (if p2 < (0 : Int32) then
  some (-10000 : Int32)
  else
  (if p2 ≤ (3 : Int32) then
  bndO (f_X2_at G 26 600 μ p1 p2) (fun w6 =>
  some w6)
  else
  some (-10000 : Int32)))))
set_option maxHeartbeats 4000000 in
set_option maxRecDepth 100000 in
theorem c_X11_book {bb : Bool} {G : Nat} {μ : Mem}  {p1 p2 : Int32} {r : Int32}  (h : f_X11_book G μ p1 p2 = some r) : Cn yX11_book cX11_book 3 (some .int) 3 0 0 [.ref 0, .int p1, .int p2] (shC bb) μ (eqP (some r) (shC bb) μ) := by
  refine cn_of (own := RX11) (ini := false) (loc := [some (.ref 0), some (.int p1), some (.int p2)]) rfl (by decide) (fun q => by cases q) (Nat.le_of_ble_eq_true rfl) (by rfl) rfl ?_
  unfold f_X11_book at h
  refine ev_iload_n dX11_book_0 rfl ?_
  refine ev_if_lt (tgt := 27) dX11_book_1 (by decide) (fun hc1 => ?_) (fun hc1 => ?_)
  · replace h := ite_t hc1 h
    refine ev_sipush (v := (-10000 : Int32)) dX11_book_27 (by decide) ?_
    exact ev_iret rfl rfl (by decide) (by decide) dX11_book_30 (eqP_O h)
  · replace h := ite_f hc1 h
    refine ev_iload_n dX11_book_4 rfl ?_
    refine ev_aload_n dX11_book_5 rfl ?_
    refine ev_getR fr_X11_12 shC_0 rfl dX11_book_6 ?_
    refine ev_getR fr_X11_237 shC_1 rfl dX11_book_9 ?_
    refine ev_getI fr_X11_240 shC_26 rfl dX11_book_12 ?_
    refine ev_icmp_ge (tgt := 27) dX11_book_15 (by decide) (fun hc2 => ?_) (fun hc2 => ?_)
    · replace h := ite_t hc2 h
      refine ev_sipush (v := (-10000 : Int32)) dX11_book_27 (by decide) ?_
      exact ev_iret rfl rfl (by decide) (by decide) dX11_book_30 (eqP_O h)
    · replace h := ite_f hc2 h
      refine ev_iload_n dX11_book_18 rfl ?_
      refine ev_if_lt (tgt := 27) dX11_book_19 (by decide) (fun hc3 => ?_) (fun hc3 => ?_)
      · replace h := ite_t hc3 h
        refine ev_sipush (v := (-10000 : Int32)) dX11_book_27 (by decide) ?_
        exact ev_iret rfl rfl (by decide) (by decide) dX11_book_30 (eqP_O h)
      · replace h := ite_f hc3 h
        refine ev_iload_n dX11_book_22 rfl ?_
        refine ev_iconst (v := (3 : Int32)) dX11_book_23 (by decide) ?_
        refine ev_icmp_le (tgt := 31) dX11_book_24 (by decide) (fun hc4 => ?_) (fun hc4 => ?_)
        · replace h := ite_t hc4 h
          refine ev_aload_n dX11_book_31 rfl ?_
          refine ev_getR fr_X11_12 shC_0 rfl dX11_book_32 ?_
          refine ev_getR fr_X11_237 shC_1 rfl dX11_book_35 ?_
          refine ev_iload_n dX11_book_38 rfl ?_
          refine ev_iload_n dX11_book_39 rfl ?_
          obtain ⟨w6, hq5, h⟩ := bndO_t h
          refine ev_cVi mv_X11_227 dX11_book_40 (c_X2_at atC_26 hq5) rfl shC_26 rfl rfl (Nat.le_of_ble_eq_true rfl) (by rfl) (Nat.le_of_ble_eq_true rfl) (Nat.le_of_ble_eq_true rfl) (Nat.le_of_ble_eq_true rfl) ?_
          exact ev_iret rfl rfl (by decide) (by decide) dX11_book_43 (eqP_O h)
        · replace h := ite_f hc4 h
          refine ev_sipush (v := (-10000 : Int32)) dX11_book_27 (by decide) ?_
          exact ev_iret rfl rfl (by decide) (by decide) dX11_book_30 (eqP_O h)
def f_X11_would (G : Nat) (p1 p2 p3 p4 p5 : Int32) (μ : Mem) : Option (Int32 × Mem) :=
  (if (f_X0_isGroom μ p1) = (0 : Int32) then
  some ((-10000 : Int32), μ)
  else
  (if (f_X0_areThree μ p2 p3 p4) = (0 : Int32) then
  some ((-10000 : Int32), μ)
  else
  (if p5 < (0 : Int32) then
  some ((-10000 : Int32), μ)
  else
  (if p5 ≤ (1 : Int32) then
  (if p5 = (1 : Int32) then
  bndE (f_X7_wouldTake G p1 p2 p3 p4 (1 : Int32) μ) (fun w11 m10 =>
  some (w11, m10))
  else
  bndE (f_X7_wouldTake G p1 p2 p3 p4 (0 : Int32) μ) (fun w8 m7 =>
  some (w8, m7)))
  else
  some ((-10000 : Int32), μ)))))
set_option maxHeartbeats 4000000 in
set_option maxRecDepth 100000 in
theorem c_X11_would {bb : Bool} {G : Nat} {μ : Mem} {p1 p2 p3 p4 p5 : Int32} {r : Int32} {μr : Mem}  (h : f_X11_would G p1 p2 p3 p4 p5 μ = some (r, μr)) : Cn yX11_would cX11_would 6 (some .int) 8 0 0 [.ref 0, .int p1, .int p2, .int p3, .int p4, .int p5] (shC bb) μ (eqP (some r) (shC bb) μr) := by
  refine cn_of (own := RX11) (ini := false) (loc := [some (.ref 0), some (.int p1), some (.int p2), some (.int p3), some (.int p4), some (.int p5)]) rfl (by decide) (fun q => by cases q) (Nat.le_of_ble_eq_true rfl) (by rfl) rfl ?_
  unfold f_X11_would at h
  refine ev_aload_n dX11_would_0 rfl ?_
  refine ev_getR fr_X11_12 shC_0 rfl dX11_would_1 ?_
  refine ev_iload_n dX11_would_4 rfl ?_
  refine ev_cVi mv_X11_92 dX11_would_5 c_X0_isGroom rfl shC_1 rfl rfl (Nat.le_of_ble_eq_true rfl) (by rfl) (Nat.le_of_ble_eq_true rfl) (Nat.le_of_ble_eq_true rfl) (Nat.le_of_ble_eq_true rfl) ?_
  refine ev_if_eq (tgt := 36) dX11_would_8 (by decide) (fun hc1 => ?_) (fun hc1 => ?_)
  · replace h := ite_t hc1 h
    refine ev_sipush (v := (-10000 : Int32)) dX11_would_36 (by decide) ?_
    exact ev_iret rfl rfl (by decide) (by decide) dX11_would_39 (eqP_E h)
  · replace h := ite_f hc1 h
    refine ev_aload_n dX11_would_11 rfl ?_
    refine ev_getR fr_X11_12 shC_0 rfl dX11_would_12 ?_
    refine ev_iload_n dX11_would_15 rfl ?_
    refine ev_iload_n dX11_would_16 rfl ?_
    refine ev_iload dX11_would_17 rfl ?_
    refine ev_cVi mv_X11_95 dX11_would_19 c_X0_areThree rfl shC_1 rfl rfl (Nat.le_of_ble_eq_true rfl) (by rfl) (Nat.le_of_ble_eq_true rfl) (Nat.le_of_ble_eq_true rfl) (Nat.le_of_ble_eq_true rfl) ?_
    refine ev_if_eq (tgt := 36) dX11_would_22 (by decide) (fun hc2 => ?_) (fun hc2 => ?_)
    · replace h := ite_t hc2 h
      refine ev_sipush (v := (-10000 : Int32)) dX11_would_36 (by decide) ?_
      exact ev_iret rfl rfl (by decide) (by decide) dX11_would_39 (eqP_E h)
    · replace h := ite_f hc2 h
      refine ev_iload dX11_would_25 rfl ?_
      refine ev_if_lt (tgt := 36) dX11_would_27 (by decide) (fun hc3 => ?_) (fun hc3 => ?_)
      · replace h := ite_t hc3 h
        refine ev_sipush (v := (-10000 : Int32)) dX11_would_36 (by decide) ?_
        exact ev_iret rfl rfl (by decide) (by decide) dX11_would_39 (eqP_E h)
      · replace h := ite_f hc3 h
        refine ev_iload dX11_would_30 rfl ?_
        refine ev_iconst (v := (1 : Int32)) dX11_would_32 (by decide) ?_
        refine ev_icmp_le (tgt := 40) dX11_would_33 (by decide) (fun hc4 => ?_) (fun hc4 => ?_)
        · replace h := ite_t hc4 h
          refine ev_aload_n dX11_would_40 rfl ?_
          refine ev_getR fr_X11_35 shC_0 rfl dX11_would_41 ?_
          refine ev_iload_n dX11_would_44 rfl ?_
          refine ev_iload_n dX11_would_45 rfl ?_
          refine ev_iload_n dX11_would_46 rfl ?_
          refine ev_iload dX11_would_47 rfl ?_
          refine ev_iload dX11_would_49 rfl ?_
          refine ev_iconst (v := (1 : Int32)) dX11_would_51 (by decide) ?_
          refine ev_icmp_ne (tgt := 59) dX11_would_52 (by decide) (fun hc5 => ?_) (fun hc5 => ?_)
          · replace h := ite_f hc5 h
            refine ev_iconst (v := (0 : Int32)) dX11_would_59 (by decide) ?_
            obtain ⟨w8, m7, hq6, h⟩ := bndE_t h
            refine ev_cVi mv_X11_243 dX11_would_60 (c_X7_wouldTake hq6) rfl shC_93 rfl rfl (Nat.le_of_ble_eq_true rfl) (by rfl) (Nat.le_of_ble_eq_true rfl) (Nat.le_of_ble_eq_true rfl) (Nat.le_of_ble_eq_true rfl) ?_
            exact ev_iret rfl rfl (by decide) (by decide) dX11_would_63 (eqP_E h)
          · replace h := ite_t hc5 h
            refine ev_iconst (v := (1 : Int32)) dX11_would_55 (by decide) ?_
            refine ev_goto (tgt := 60) dX11_would_56 (by decide) ?_
            obtain ⟨w11, m10, hq9, h⟩ := bndE_t h
            refine ev_cVi mv_X11_243 dX11_would_60 (c_X7_wouldTake hq9) rfl shC_93 rfl rfl (Nat.le_of_ble_eq_true rfl) (by rfl) (Nat.le_of_ble_eq_true rfl) (Nat.le_of_ble_eq_true rfl) (Nat.le_of_ble_eq_true rfl) ?_
            exact ev_iret rfl rfl (by decide) (by decide) dX11_would_63 (eqP_E h)
        · replace h := ite_f hc4 h
          refine ev_sipush (v := (-10000 : Int32)) dX11_would_36 (by decide) ?_
          exact ev_iret rfl rfl (by decide) (by decide) dX11_would_39 (eqP_E h)
def f_X11_sumOf_L10 (G : Nat) (a : Nat) (n_a : Nat) (μ : Mem)  : Nat → Int32 → Int32 → Int32 → Option Int32
  | 0, _, _, _ => none
  | g + 1, v1, v3, v4 =>
  (if v3 ≤ v4 then
  some v1
  else
  chk v4 n_a ((f_X11_sumOf_L10 G a n_a μ g) (v1 + (μ a (ix v4))) v3 (v4 + (1 : Int32))))
set_option maxHeartbeats 4000000 in
set_option maxRecDepth 100000 in
theorem f_X11_sumOf_L10_ok {sh : List Shp} {G : Nat} {a : Nat} {n_a : Nat} {μ : Mem} {r : Int32} (ha : sh[a]? = some (.inl n_a))   : ∀ (g : Nat) (v1 v3 v4 : Int32), f_X11_sumOf_L10 G a n_a μ g v1 v3 v4 = some r → Ev RX11 cX11_sumOf 6 (some .int) false 1 0 0 (eqP (some r) sh μ) 10 [none, some (.int v1), some (.ref a), some (.int v3), some (.int v4), none] [] sh μ 0 0 := by
  intro g
  induction g with
  | zero =>
    intro v1 v3 v4 h
    cases h
  | succ g ih =>
    intro v1 v3 v4 h
    rw [f_X11_sumOf_L10] at h
    refine ev_iload dX11_sumOf_10 rfl ?_
    refine ev_iload_n dX11_sumOf_12 rfl ?_
    refine ev_icmp_ge (tgt := 33) dX11_sumOf_13 (by decide) (fun hc1 => ?_) (fun hc1 => ?_)
    · replace h := ite_t hc1 h
      refine ev_iload_n dX11_sumOf_33 rfl ?_
      exact ev_iret rfl rfl (by decide) (by decide) dX11_sumOf_34 (eqP_O h)
    · replace h := ite_f hc1 h
      refine ev_aload_n dX11_sumOf_16 rfl ?_
      refine ev_iload dX11_sumOf_17 rfl ?_
      obtain ⟨hi2, h⟩ := chk_t h
      refine ev_iald ha hi2 dX11_sumOf_19 ?_
      refine ev_istore (loc' := [_, _, _, _, _, _]) dX11_sumOf_20 rfl (by decide) (by rfl) ?_
      refine ev_iload_n dX11_sumOf_22 rfl ?_
      refine ev_iload dX11_sumOf_23 rfl ?_
      refine ev_iadd dX11_sumOf_25 ?_
      refine ev_istore_n (loc' := [_, _, _, _, _, _]) dX11_sumOf_26 rfl (by decide) (by rfl) ?_
      refine ev_iinc (cq := (1 : Int32)) (loc' := [_, _, _, _, _, _]) dX11_sumOf_27 rfl (by decide) rfl (by decide) (by rfl) ?_
      refine ev_goto (tgt := 10) dX11_sumOf_30 (by decide) ?_
      exact ev_lt (ih _ _ _ h) ⟨rfl, ⟨rfl, ⟨rfl, ⟨rfl, trivial⟩⟩⟩⟩
def f_X11_sumOf (G : Nat) (a : Nat) (n_a : Nat) (μ : Mem) : Option Int32 :=
  f_X11_sumOf_L10 G a n_a μ G (0 : Int32) (Int32.ofNat n_a) (0 : Int32)
set_option maxHeartbeats 4000000 in
set_option maxRecDepth 100000 in
theorem c_X11_sumOf {sh : List Shp} {G : Nat} {a : Nat} {n_a : Nat} {μ : Mem}  {r : Int32} (ha : sh[a]? = some (.inl n_a)) (h : f_X11_sumOf G a n_a μ = some r) : Cn yX11_sumOf cX11_sumOf 6 (some .int) 1 0 0 [.ref a] sh μ (eqP (some r) sh μ) := by
  refine cn_of (own := RX11) (ini := false) (loc := [some (.ref a), none, none, none, none, none]) rfl (by decide) (fun q => by cases q) (Nat.le_of_ble_eq_true rfl) (by rfl) rfl ?_
  unfold f_X11_sumOf at h
  refine ev_iconst (v := (0 : Int32)) dX11_sumOf_0 (by decide) ?_
  refine ev_istore_n (loc' := [_, _, _, _, _, _]) dX11_sumOf_1 rfl (by decide) (by rfl) ?_
  refine ev_aload_n dX11_sumOf_2 rfl ?_
  refine ev_astore_n (loc' := [_, _, _, _, _, _]) dX11_sumOf_3 rfl (by decide) (by rfl) ?_
  refine ev_aload_n dX11_sumOf_4 rfl ?_
  refine ev_alen ha rfl dX11_sumOf_5 ?_
  refine ev_istore_n (loc' := [_, _, _, _, _, _]) dX11_sumOf_6 rfl (by decide) (by rfl) ?_
  refine ev_iconst (v := (0 : Int32)) dX11_sumOf_7 (by decide) ?_
  refine ev_istore (loc' := [_, _, _, _, _, _]) dX11_sumOf_8 rfl (by decide) (by rfl) ?_
  exact ev_lt (f_X11_sumOf_L10_ok ha _ _ _ _ h) ⟨rfl, ⟨rfl, ⟨rfl, ⟨rfl, trivial⟩⟩⟩⟩
def f_X11_goes_L40 (G : Nat) (k40_64 : Int32 → Mem → Option (Int32 × Mem)) : Nat → Int32 → Int32 → Int32 → Mem → Option (Int32 × Mem)
  | 0, _, _, _, _ => none
  | g + 1, v1, v2, v3, μ =>
  (if v1 ≤ v3 then
  k40_64 v2 μ
  else
  bndE (f_X7_passYear G 99 (1 : Int32) μ) (fun w10 m9 =>
  (f_X11_goes_L40 G k40_64 g) v1 v2 (v3 + (1 : Int32)) m9))
set_option maxHeartbeats 4000000 in
set_option maxRecDepth 100000 in
theorem f_X11_goes_L40_ok {bb : Bool} {G : Nat} {r : Int32} {μr : Mem}  {k40_64 : Int32 → Mem → Option (Int32 × Mem)} (hk40_64 : ∀ (v2 : Int32) (m : Mem), k40_64 v2 m = some (r, μr) → Ev RX11 cX11_goes 4 (some .int) false 8 0 0 (eqP (some r) (shC bb) μr) 64 [some (.ref 0), none, some (.int v2), none] [] (shC bb) m 0 0) : ∀ (g : Nat) (v1 v2 v3 : Int32) (μ : Mem), f_X11_goes_L40 G k40_64 g v1 v2 v3 μ = some (r, μr) → Ev RX11 cX11_goes 4 (some .int) false 8 0 0 (eqP (some r) (shC bb) μr) 40 [some (.ref 0), some (.int v1), some (.int v2), some (.int v3)] [] (shC bb) μ 0 0 := by
  intro g
  induction g with
  | zero =>
    intro v1 v2 v3 μ h
    cases h
  | succ g ih =>
    intro v1 v2 v3 μ h
    rw [f_X11_goes_L40] at h
    refine ev_iload_n dX11_goes_40 rfl ?_
    refine ev_iload_n dX11_goes_41 rfl ?_
    refine ev_icmp_ge (tgt := 64) dX11_goes_42 (by decide) (fun hc7 => ?_) (fun hc7 => ?_)
    · replace h := ite_t hc7 h
      exact ev_lt (hk40_64 _ _ h) ⟨rfl, ⟨rfl, trivial⟩⟩
    · replace h := ite_f hc7 h
      refine ev_aload_n dX11_goes_45 rfl ?_
      refine ev_getR fr_X11_35 shC_0 rfl dX11_goes_46 ?_
      refine ev_aload_n dX11_goes_49 rfl ?_
      refine ev_getR fr_X11_42 shC_0 rfl dX11_goes_50 ?_
      refine ev_iconst (v := (1 : Int32)) dX11_goes_53 (by decide) ?_
      obtain ⟨w10, m9, hq8, h⟩ := bndE_t h
      refine ev_cVi mv_X11_126 dX11_goes_54 (c_X7_passYear atC_99 hq8) rfl shC_93 rfl rfl (Nat.le_of_ble_eq_true rfl) (by rfl) (Nat.le_of_ble_eq_true rfl) (Nat.le_of_ble_eq_true rfl) (Nat.le_of_ble_eq_true rfl) ?_
      refine ev_pop dX11_goes_57 (by rfl) ?_
      refine ev_iinc (cq := (1 : Int32)) (loc' := [_, _, _, _]) dX11_goes_58 rfl (by decide) rfl (by decide) (by rfl) ?_
      refine ev_goto (tgt := 40) dX11_goes_61 (by decide) ?_
      exact ev_lt (ih _ _ _ _ h) ⟨rfl, ⟨rfl, ⟨rfl, ⟨rfl, trivial⟩⟩⟩⟩
def f_X11_goes_j64 (G : Nat)  (v2 : Int32) (μ : Mem) : Option (Int32 × Mem) :=
  (if v2 = (0 : Int32) then
  some ((μ 99 6), μ)
  else
  (if v2 = (1 : Int32) then
  bndO (f_X11_sumOf G 103 8 μ) (fun w14 =>
  some (w14, μ))
  else
  (if v2 = (2 : Int32) then
  bndO (f_X11_sumOf G 102 8 μ) (fun w17 =>
  some (w17, μ))
  else
  bndO (f_X8_wivesOf G 99 μ) (fun w19 =>
  some (w19, μ)))))
set_option maxHeartbeats 4000000 in
set_option maxRecDepth 100000 in
theorem f_X11_goes_j64_ok {bb : Bool} {G : Nat} {r : Int32} {μr : Mem}    {v2 : Int32} {μ : Mem} (h : f_X11_goes_j64 G v2 μ = some (r, μr)) : Ev RX11 cX11_goes 4 (some .int) false 8 0 0 (eqP (some r) (shC bb) μr) 64 [some (.ref 0), none, some (.int v2), none] [] (shC bb) μ 0 0 := by
  unfold f_X11_goes_j64 at h
  refine ev_iload_n dX11_goes_64 rfl ?_
  refine ev_em (v := (0 : Int32)) (fun hc11 => ?_) (fun hc11 => ?_)
  · replace h := ite_t hc11 h
    refine ev_tsC (v := (0 : Int32)) (off := 27) (tgt := 92) dX11_goes_65 (by decide) hc11 (by decide) (by decide) ?_
    refine ev_aload_n dX11_goes_92 rfl ?_
    refine ev_getR fr_X11_42 shC_0 rfl dX11_goes_93 ?_
    refine ev_getI fr_X11_250 shC_99 rfl dX11_goes_96 ?_
    exact ev_iret rfl rfl (by decide) (by decide) dX11_goes_99 (eqP_E h)
  · replace h := ite_f hc11 h
    refine ev_em (v := (1 : Int32)) (fun hc12 => ?_) (fun hc12 => ?_)
    · replace h := ite_t hc12 h
      refine ev_tsC (v := (1 : Int32)) (off := 35) (tgt := 100) dX11_goes_65 (by decide) hc12 (by decide) (by decide) ?_
      refine ev_aload_n dX11_goes_100 rfl ?_
      refine ev_getR fr_X11_42 shC_0 rfl dX11_goes_101 ?_
      refine ev_getR fr_X11_209 shC_99 rfl dX11_goes_104 ?_
      obtain ⟨w14, hq13, h⟩ := bndO_t h
      refine ev_cSi mv_X11_253 dX11_goes_107 (c_X11_sumOf shC_103 hq13) rfl rfl (Nat.le_of_ble_eq_true rfl) (by rfl) (Nat.le_of_ble_eq_true rfl) (Nat.le_of_ble_eq_true rfl) (Nat.le_of_ble_eq_true rfl) ?_
      exact ev_iret rfl rfl (by decide) (by decide) dX11_goes_110 (eqP_E h)
    · replace h := ite_f hc12 h
      refine ev_em (v := (2 : Int32)) (fun hc15 => ?_) (fun hc15 => ?_)
      · replace h := ite_t hc15 h
        refine ev_tsC (v := (2 : Int32)) (off := 46) (tgt := 111) dX11_goes_65 (by decide) hc15 (by decide) (by decide) ?_
        refine ev_aload_n dX11_goes_111 rfl ?_
        refine ev_getR fr_X11_42 shC_0 rfl dX11_goes_112 ?_
        refine ev_getR fr_X11_206 shC_99 rfl dX11_goes_115 ?_
        obtain ⟨w17, hq16, h⟩ := bndO_t h
        refine ev_cSi mv_X11_253 dX11_goes_118 (c_X11_sumOf shC_102 hq16) rfl rfl (Nat.le_of_ble_eq_true rfl) (by rfl) (Nat.le_of_ble_eq_true rfl) (Nat.le_of_ble_eq_true rfl) (Nat.le_of_ble_eq_true rfl) ?_
        exact ev_iret rfl rfl (by decide) (by decide) dX11_goes_121 (eqP_E h)
      · replace h := ite_f hc15 h
        refine ev_tsE (tgt := 122) dX11_goes_65 (by decide) ⟨Or.inr hc11, ⟨Or.inr hc12, ⟨Or.inr hc15, trivial⟩⟩⟩ (by decide) ?_
        refine ev_aload_n dX11_goes_122 rfl ?_
        refine ev_getR fr_X11_42 shC_0 rfl dX11_goes_123 ?_
        obtain ⟨w19, hq18, h⟩ := bndO_t h
        refine ev_cVi mv_X11_257 dX11_goes_126 (c_X8_wivesOf atC_99 hq18) rfl shC_99 rfl rfl (Nat.le_of_ble_eq_true rfl) (by rfl) (Nat.le_of_ble_eq_true rfl) (Nat.le_of_ble_eq_true rfl) (Nat.le_of_ble_eq_true rfl) ?_
        exact ev_iret rfl rfl (by decide) (by decide) dX11_goes_129 (eqP_E h)
def f_X11_goes (G : Nat) (p1 p2 : Int32) (μ : Mem) : Option (Int32 × Mem) :=
  (if p1 < (1 : Int32) then
  some ((-10000 : Int32), μ)
  else
  (if (60 : Int32) < p1 then
  some ((-10000 : Int32), μ)
  else
  (if p2 < (0 : Int32) then
  some ((-10000 : Int32), μ)
  else
  (if p2 ≤ (3 : Int32) then
  bndV (f_X8_copyFrom G 99 2 μ) (fun m6 =>
  f_X11_goes_L40 G (f_X11_goes_j64 G) G p1 p2 (0 : Int32) m6)
  else
  some ((-10000 : Int32), μ)))))
set_option maxHeartbeats 4000000 in
set_option maxRecDepth 100000 in
theorem c_X11_goes {bb : Bool} {G : Nat} {μ : Mem} {p1 p2 : Int32} {r : Int32} {μr : Mem}  (h : f_X11_goes G p1 p2 μ = some (r, μr)) : Cn yX11_goes cX11_goes 4 (some .int) 8 0 0 [.ref 0, .int p1, .int p2] (shC bb) μ (eqP (some r) (shC bb) μr) := by
  refine cn_of (own := RX11) (ini := false) (loc := [some (.ref 0), some (.int p1), some (.int p2), none]) rfl (by decide) (fun q => by cases q) (Nat.le_of_ble_eq_true rfl) (by rfl) rfl ?_
  unfold f_X11_goes at h
  refine ev_iload_n dX11_goes_0 rfl ?_
  refine ev_iconst (v := (1 : Int32)) dX11_goes_1 (by decide) ?_
  refine ev_icmp_lt (tgt := 20) dX11_goes_2 (by decide) (fun hc1 => ?_) (fun hc1 => ?_)
  · replace h := ite_t hc1 h
    refine ev_sipush (v := (-10000 : Int32)) dX11_goes_20 (by decide) ?_
    exact ev_iret rfl rfl (by decide) (by decide) dX11_goes_23 (eqP_E h)
  · replace h := ite_f hc1 h
    refine ev_iload_n dX11_goes_5 rfl ?_
    refine ev_bipush (v := (60 : Int32)) dX11_goes_6 (by decide) ?_
    refine ev_icmp_gt (tgt := 20) dX11_goes_8 (by decide) (fun hc2 => ?_) (fun hc2 => ?_)
    · replace h := ite_t hc2 h
      refine ev_sipush (v := (-10000 : Int32)) dX11_goes_20 (by decide) ?_
      exact ev_iret rfl rfl (by decide) (by decide) dX11_goes_23 (eqP_E h)
    · replace h := ite_f hc2 h
      refine ev_iload_n dX11_goes_11 rfl ?_
      refine ev_if_lt (tgt := 20) dX11_goes_12 (by decide) (fun hc3 => ?_) (fun hc3 => ?_)
      · replace h := ite_t hc3 h
        refine ev_sipush (v := (-10000 : Int32)) dX11_goes_20 (by decide) ?_
        exact ev_iret rfl rfl (by decide) (by decide) dX11_goes_23 (eqP_E h)
      · replace h := ite_f hc3 h
        refine ev_iload_n dX11_goes_15 rfl ?_
        refine ev_iconst (v := (3 : Int32)) dX11_goes_16 (by decide) ?_
        refine ev_icmp_le (tgt := 24) dX11_goes_17 (by decide) (fun hc4 => ?_) (fun hc4 => ?_)
        · replace h := ite_t hc4 h
          refine ev_aload_n dX11_goes_24 rfl ?_
          refine ev_getR fr_X11_42 shC_0 rfl dX11_goes_25 ?_
          refine ev_aload_n dX11_goes_28 rfl ?_
          refine ev_getR fr_X11_12 shC_0 rfl dX11_goes_29 ?_
          refine ev_getR fr_X11_63 shC_1 rfl dX11_goes_32 ?_
          obtain ⟨m6, hq5, h⟩ := bndV_t h
          refine ev_cVv mv_X11_247 dX11_goes_35 (c_X8_copyFrom atC_99 atC_2 hq5) rfl shC_99 rfl rfl (Nat.le_of_ble_eq_true rfl) (by rfl) (Nat.le_of_ble_eq_true rfl) (Nat.le_of_ble_eq_true rfl) (Nat.le_of_ble_eq_true rfl) ?_
          refine ev_iconst (v := (0 : Int32)) dX11_goes_38 (by decide) ?_
          refine ev_istore_n (loc' := [_, _, _, _]) dX11_goes_39 rfl (by decide) (by rfl) ?_
          exact ev_lt (f_X11_goes_L40_ok (fun _ _ hh => f_X11_goes_j64_ok hh) _ _ _ _ _ h) ⟨rfl, ⟨rfl, ⟨rfl, ⟨rfl, trivial⟩⟩⟩⟩
        · replace h := ite_f hc4 h
          refine ev_sipush (v := (-10000 : Int32)) dX11_goes_20 (by decide) ?_
          exact ev_iret rfl rfl (by decide) (by decide) dX11_goes_23 (eqP_E h)
def f_X11_tells (G : Nat) (p1 p2 p3 p4 p5 : Int32) (μ : Mem) : Option (Int32 × Mem) :=
  (if (f_X0_isGroom μ p1) = (0 : Int32) then
  some ((-1 : Int32), μ)
  else
  (if (f_X0_areThree μ p2 p3 p4) = (0 : Int32) then
  some ((-1 : Int32), μ)
  else
  (if p5 < (0 : Int32) then
  some ((-1 : Int32), μ)
  else
  (if p5 ≤ (1 : Int32) then
  (if p5 = (1 : Int32) then
  bndE (f_X7_tellsMost G p1 p2 p3 p4 (1 : Int32) μ) (fun w11 m10 =>
  some (w11, m10))
  else
  bndE (f_X7_tellsMost G p1 p2 p3 p4 (0 : Int32) μ) (fun w8 m7 =>
  some (w8, m7)))
  else
  some ((-1 : Int32), μ)))))
set_option maxHeartbeats 4000000 in
set_option maxRecDepth 100000 in
theorem c_X11_tells {bb : Bool} {G : Nat} {μ : Mem} {p1 p2 p3 p4 p5 : Int32} {r : Int32} {μr : Mem}  (h : f_X11_tells G p1 p2 p3 p4 p5 μ = some (r, μr)) : Cn yX11_tells cX11_tells 6 (some .int) 7 0 0 [.ref 0, .int p1, .int p2, .int p3, .int p4, .int p5] (shC bb) μ (eqP (some r) (shC bb) μr) := by
  refine cn_of (own := RX11) (ini := false) (loc := [some (.ref 0), some (.int p1), some (.int p2), some (.int p3), some (.int p4), some (.int p5)]) rfl (by decide) (fun q => by cases q) (Nat.le_of_ble_eq_true rfl) (by rfl) rfl ?_
  unfold f_X11_tells at h
  refine ev_aload_n dX11_tells_0 rfl ?_
  refine ev_getR fr_X11_12 shC_0 rfl dX11_tells_1 ?_
  refine ev_iload_n dX11_tells_4 rfl ?_
  refine ev_cVi mv_X11_92 dX11_tells_5 c_X0_isGroom rfl shC_1 rfl rfl (Nat.le_of_ble_eq_true rfl) (by rfl) (Nat.le_of_ble_eq_true rfl) (Nat.le_of_ble_eq_true rfl) (Nat.le_of_ble_eq_true rfl) ?_
  refine ev_if_eq (tgt := 36) dX11_tells_8 (by decide) (fun hc1 => ?_) (fun hc1 => ?_)
  · replace h := ite_t hc1 h
    refine ev_iconst (v := (-1 : Int32)) dX11_tells_36 (by decide) ?_
    exact ev_iret rfl rfl (by decide) (by decide) dX11_tells_37 (eqP_E h)
  · replace h := ite_f hc1 h
    refine ev_aload_n dX11_tells_11 rfl ?_
    refine ev_getR fr_X11_12 shC_0 rfl dX11_tells_12 ?_
    refine ev_iload_n dX11_tells_15 rfl ?_
    refine ev_iload_n dX11_tells_16 rfl ?_
    refine ev_iload dX11_tells_17 rfl ?_
    refine ev_cVi mv_X11_95 dX11_tells_19 c_X0_areThree rfl shC_1 rfl rfl (Nat.le_of_ble_eq_true rfl) (by rfl) (Nat.le_of_ble_eq_true rfl) (Nat.le_of_ble_eq_true rfl) (Nat.le_of_ble_eq_true rfl) ?_
    refine ev_if_eq (tgt := 36) dX11_tells_22 (by decide) (fun hc2 => ?_) (fun hc2 => ?_)
    · replace h := ite_t hc2 h
      refine ev_iconst (v := (-1 : Int32)) dX11_tells_36 (by decide) ?_
      exact ev_iret rfl rfl (by decide) (by decide) dX11_tells_37 (eqP_E h)
    · replace h := ite_f hc2 h
      refine ev_iload dX11_tells_25 rfl ?_
      refine ev_if_lt (tgt := 36) dX11_tells_27 (by decide) (fun hc3 => ?_) (fun hc3 => ?_)
      · replace h := ite_t hc3 h
        refine ev_iconst (v := (-1 : Int32)) dX11_tells_36 (by decide) ?_
        exact ev_iret rfl rfl (by decide) (by decide) dX11_tells_37 (eqP_E h)
      · replace h := ite_f hc3 h
        refine ev_iload dX11_tells_30 rfl ?_
        refine ev_iconst (v := (1 : Int32)) dX11_tells_32 (by decide) ?_
        refine ev_icmp_le (tgt := 38) dX11_tells_33 (by decide) (fun hc4 => ?_) (fun hc4 => ?_)
        · replace h := ite_t hc4 h
          refine ev_aload_n dX11_tells_38 rfl ?_
          refine ev_getR fr_X11_35 shC_0 rfl dX11_tells_39 ?_
          refine ev_iload_n dX11_tells_42 rfl ?_
          refine ev_iload_n dX11_tells_43 rfl ?_
          refine ev_iload_n dX11_tells_44 rfl ?_
          refine ev_iload dX11_tells_45 rfl ?_
          refine ev_iload dX11_tells_47 rfl ?_
          refine ev_iconst (v := (1 : Int32)) dX11_tells_49 (by decide) ?_
          refine ev_icmp_ne (tgt := 57) dX11_tells_50 (by decide) (fun hc5 => ?_) (fun hc5 => ?_)
          · replace h := ite_f hc5 h
            refine ev_iconst (v := (0 : Int32)) dX11_tells_57 (by decide) ?_
            obtain ⟨w8, m7, hq6, h⟩ := bndE_t h
            refine ev_cVi mv_X11_260 dX11_tells_58 (c_X7_tellsMost hq6) rfl shC_93 rfl rfl (Nat.le_of_ble_eq_true rfl) (by rfl) (Nat.le_of_ble_eq_true rfl) (Nat.le_of_ble_eq_true rfl) (Nat.le_of_ble_eq_true rfl) ?_
            exact ev_iret rfl rfl (by decide) (by decide) dX11_tells_61 (eqP_E h)
          · replace h := ite_t hc5 h
            refine ev_iconst (v := (1 : Int32)) dX11_tells_53 (by decide) ?_
            refine ev_goto (tgt := 58) dX11_tells_54 (by decide) ?_
            obtain ⟨w11, m10, hq9, h⟩ := bndE_t h
            refine ev_cVi mv_X11_260 dX11_tells_58 (c_X7_tellsMost hq9) rfl shC_93 rfl rfl (Nat.le_of_ble_eq_true rfl) (by rfl) (Nat.le_of_ble_eq_true rfl) (Nat.le_of_ble_eq_true rfl) (Nat.le_of_ble_eq_true rfl) ?_
            exact ev_iret rfl rfl (by decide) (by decide) dX11_tells_61 (eqP_E h)
        · replace h := ite_f hc4 h
          refine ev_iconst (v := (-1 : Int32)) dX11_tells_36 (by decide) ?_
          exact ev_iret rfl rfl (by decide) (by decide) dX11_tells_37 (eqP_E h)
end
