section
def f_X12_keepsTold_L2 (G : Nat) (k2_94 : Mem → Option Mem) : Nat → Int32 → Mem → Option Mem
  | 0, _, _ => none
  | g + 1, v1, μ =>
  (if (12 : Int32) ≤ v1 then
  k2_94  μ
  else
  chk v1 12 (bndE (f_X12_keeps G (μ 4 (ix v1)) μ) (fun w5 m4 =>
  chk v1 12 (let m6 := wr m4 4 (ix v1) w5
  chk v1 12 (bndE (f_X12_keeps G (m6 5 (ix v1)) m6) (fun w11 m10 =>
  chk v1 12 (let m12 := wr m10 5 (ix v1) w11
  chk v1 12 (bndE (f_X12_keeps G (m12 6 (ix v1)) m12) (fun w17 m16 =>
  chk v1 12 (let m18 := wr m16 6 (ix v1) w17
  chk v1 24 (bndE (f_X12_keeps G (m18 22 (ix v1)) m18) (fun w23 m22 =>
  chk v1 24 (let m24 := wr m22 22 (ix v1) w23
  chk v1 12 (bndE (f_X12_keeps G (m24 39 (ix v1)) m24) (fun w29 m28 =>
  chk v1 12 (let m30 := wr m28 39 (ix v1) w29
  (f_X12_keepsTold_L2 G k2_94 g) (v1 + (1 : Int32)) m30))))))))))))))))
set_option maxHeartbeats 4000000 in
set_option maxRecDepth 100000 in
theorem f_X12_keepsTold_L2_ok  {G : Nat} {μr : Mem}  {k2_94 : Mem → Option Mem} (hk2_94 : ∀ (m : Mem), k2_94 m = some μr → Ev RX12 cX12_keepsTold 2 none false 2 0 0 (eqP none shR μr) 94 [some (.ref 0), none] [] shR m 0 0) : ∀ (g : Nat) (v1 : Int32) (μ : Mem), f_X12_keepsTold_L2 G k2_94 g v1 μ = some μr → Ev RX12 cX12_keepsTold 2 none false 2 0 0 (eqP none shR μr) 2 [some (.ref 0), some (.int v1)] [] shR μ 0 0 := by
  intro g
  induction g with
  | zero =>
    intro v1 μ h
    cases h
  | succ g ih =>
    intro v1 μ h
    rw [f_X12_keepsTold_L2] at h
    refine ev_iload_n dX12_keepsTold_2 rfl ?_
    refine ev_bipush (v := (12 : Int32)) dX12_keepsTold_3 (by decide) ?_
    refine ev_icmp_ge (tgt := 94) dX12_keepsTold_5 (by decide) (fun hc1 => ?_) (fun hc1 => ?_)
    · replace h := ite_t hc1 h
      exact ev_lt (hk2_94 _ h) ⟨rfl, trivial⟩
    · replace h := ite_f hc1 h
      refine ev_aload_n dX12_keepsTold_8 rfl ?_
      refine ev_getR fr_X12_19 shR_0 rfl dX12_keepsTold_9 ?_
      refine ev_iload_n dX12_keepsTold_12 rfl ?_
      refine ev_aload_n dX12_keepsTold_13 rfl ?_
      refine ev_aload_n dX12_keepsTold_14 rfl ?_
      refine ev_getR fr_X12_19 shR_0 rfl dX12_keepsTold_15 ?_
      refine ev_iload_n dX12_keepsTold_18 rfl ?_
      obtain ⟨hi2, h⟩ := chk_t h
      refine ev_iald shR_4 hi2 dX12_keepsTold_19 ?_
      obtain ⟨w5, m4, hq3, h⟩ := bndE_t h
      refine ev_cVi mv_X12_540 dX12_keepsTold_20 (c_X12_keeps hq3) rfl shR_0 rfl rfl (Nat.le_of_ble_eq_true rfl) (by rfl) (Nat.le_of_ble_eq_true rfl) (Nat.le_of_ble_eq_true rfl) (Nat.le_of_ble_eq_true rfl) ?_
      obtain ⟨hi7, h⟩ := chk_t h
      refine ev_iast shR_4 hi7 dX12_keepsTold_23 ?_
      refine ev_aload_n dX12_keepsTold_24 rfl ?_
      refine ev_getR fr_X12_22 shR_0 rfl dX12_keepsTold_25 ?_
      refine ev_iload_n dX12_keepsTold_28 rfl ?_
      refine ev_aload_n dX12_keepsTold_29 rfl ?_
      refine ev_aload_n dX12_keepsTold_30 rfl ?_
      refine ev_getR fr_X12_22 shR_0 rfl dX12_keepsTold_31 ?_
      refine ev_iload_n dX12_keepsTold_34 rfl ?_
      obtain ⟨hi8, h⟩ := chk_t h
      refine ev_iald shR_5 hi8 dX12_keepsTold_35 ?_
      obtain ⟨w11, m10, hq9, h⟩ := bndE_t h
      refine ev_cVi mv_X12_540 dX12_keepsTold_36 (c_X12_keeps hq9) rfl shR_0 rfl rfl (Nat.le_of_ble_eq_true rfl) (by rfl) (Nat.le_of_ble_eq_true rfl) (Nat.le_of_ble_eq_true rfl) (Nat.le_of_ble_eq_true rfl) ?_
      obtain ⟨hi13, h⟩ := chk_t h
      refine ev_iast shR_5 hi13 dX12_keepsTold_39 ?_
      refine ev_aload_n dX12_keepsTold_40 rfl ?_
      refine ev_getR fr_X12_25 shR_0 rfl dX12_keepsTold_41 ?_
      refine ev_iload_n dX12_keepsTold_44 rfl ?_
      refine ev_aload_n dX12_keepsTold_45 rfl ?_
      refine ev_aload_n dX12_keepsTold_46 rfl ?_
      refine ev_getR fr_X12_25 shR_0 rfl dX12_keepsTold_47 ?_
      refine ev_iload_n dX12_keepsTold_50 rfl ?_
      obtain ⟨hi14, h⟩ := chk_t h
      refine ev_iald shR_6 hi14 dX12_keepsTold_51 ?_
      obtain ⟨w17, m16, hq15, h⟩ := bndE_t h
      refine ev_cVi mv_X12_540 dX12_keepsTold_52 (c_X12_keeps hq15) rfl shR_0 rfl rfl (Nat.le_of_ble_eq_true rfl) (by rfl) (Nat.le_of_ble_eq_true rfl) (Nat.le_of_ble_eq_true rfl) (Nat.le_of_ble_eq_true rfl) ?_
      obtain ⟨hi19, h⟩ := chk_t h
      refine ev_iast shR_6 hi19 dX12_keepsTold_55 ?_
      refine ev_aload_n dX12_keepsTold_56 rfl ?_
      refine ev_getR fr_X12_77 shR_0 rfl dX12_keepsTold_57 ?_
      refine ev_iload_n dX12_keepsTold_60 rfl ?_
      refine ev_aload_n dX12_keepsTold_61 rfl ?_
      refine ev_aload_n dX12_keepsTold_62 rfl ?_
      refine ev_getR fr_X12_77 shR_0 rfl dX12_keepsTold_63 ?_
      refine ev_iload_n dX12_keepsTold_66 rfl ?_
      obtain ⟨hi20, h⟩ := chk_t h
      refine ev_iald shR_22 hi20 dX12_keepsTold_67 ?_
      obtain ⟨w23, m22, hq21, h⟩ := bndE_t h
      refine ev_cVi mv_X12_540 dX12_keepsTold_68 (c_X12_keeps hq21) rfl shR_0 rfl rfl (Nat.le_of_ble_eq_true rfl) (by rfl) (Nat.le_of_ble_eq_true rfl) (Nat.le_of_ble_eq_true rfl) (Nat.le_of_ble_eq_true rfl) ?_
      obtain ⟨hi25, h⟩ := chk_t h
      refine ev_iast shR_22 hi25 dX12_keepsTold_71 ?_
      refine ev_aload_n dX12_keepsTold_72 rfl ?_
      refine ev_getR fr_X12_128 shR_0 rfl dX12_keepsTold_73 ?_
      refine ev_iload_n dX12_keepsTold_76 rfl ?_
      refine ev_aload_n dX12_keepsTold_77 rfl ?_
      refine ev_aload_n dX12_keepsTold_78 rfl ?_
      refine ev_getR fr_X12_128 shR_0 rfl dX12_keepsTold_79 ?_
      refine ev_iload_n dX12_keepsTold_82 rfl ?_
      obtain ⟨hi26, h⟩ := chk_t h
      refine ev_iald shR_39 hi26 dX12_keepsTold_83 ?_
      obtain ⟨w29, m28, hq27, h⟩ := bndE_t h
      refine ev_cVi mv_X12_540 dX12_keepsTold_84 (c_X12_keeps hq27) rfl shR_0 rfl rfl (Nat.le_of_ble_eq_true rfl) (by rfl) (Nat.le_of_ble_eq_true rfl) (Nat.le_of_ble_eq_true rfl) (Nat.le_of_ble_eq_true rfl) ?_
      obtain ⟨hi31, h⟩ := chk_t h
      refine ev_iast shR_39 hi31 dX12_keepsTold_87 ?_
      refine ev_iinc (cq := (1 : Int32)) (loc' := [_, _]) dX12_keepsTold_88 rfl (by decide) rfl (by decide) (by rfl) ?_
      refine ev_goto (tgt := 2) dX12_keepsTold_91 (by decide) ?_
      exact ev_lt (ih _ _ h) ⟨rfl, ⟨rfl, trivial⟩⟩
def f_X12_keepsTold_L96 (G : Nat) (k96_172 : Mem → Option Mem) : Nat → Int32 → Mem → Option Mem
  | 0, _, _ => none
  | g + 1, v1, μ =>
  (if (8 : Int32) ≤ v1 then
  k96_172  μ
  else
  chk v1 8 (bndE (f_X12_keeps G (μ 7 (ix v1)) μ) (fun w36 m35 =>
  chk v1 8 (let m37 := wr m35 7 (ix v1) w36
  chk v1 8 (bndE (f_X12_keeps G (m37 8 (ix v1)) m37) (fun w42 m41 =>
  chk v1 8 (let m43 := wr m41 8 (ix v1) w42
  chk v1 8 (bndE (f_X12_keeps G (m43 30 (ix v1)) m43) (fun w48 m47 =>
  chk v1 8 (let m49 := wr m47 30 (ix v1) w48
  chk v1 8 (bndE (f_X12_keeps G (m49 31 (ix v1)) m49) (fun w54 m53 =>
  chk v1 8 (let m55 := wr m53 31 (ix v1) w54
  (f_X12_keepsTold_L96 G k96_172 g) (v1 + (1 : Int32)) m55)))))))))))))
set_option maxHeartbeats 4000000 in
set_option maxRecDepth 100000 in
theorem f_X12_keepsTold_L96_ok  {G : Nat} {μr : Mem}  {k96_172 : Mem → Option Mem} (hk96_172 : ∀ (m : Mem), k96_172 m = some μr → Ev RX12 cX12_keepsTold 2 none false 2 0 0 (eqP none shR μr) 172 [some (.ref 0), none] [] shR m 0 0) : ∀ (g : Nat) (v1 : Int32) (μ : Mem), f_X12_keepsTold_L96 G k96_172 g v1 μ = some μr → Ev RX12 cX12_keepsTold 2 none false 2 0 0 (eqP none shR μr) 96 [some (.ref 0), some (.int v1)] [] shR μ 0 0 := by
  intro g
  induction g with
  | zero =>
    intro v1 μ h
    cases h
  | succ g ih =>
    intro v1 μ h
    rw [f_X12_keepsTold_L96] at h
    refine ev_iload_n dX12_keepsTold_96 rfl ?_
    refine ev_bipush (v := (8 : Int32)) dX12_keepsTold_97 (by decide) ?_
    refine ev_icmp_ge (tgt := 172) dX12_keepsTold_99 (by decide) (fun hc32 => ?_) (fun hc32 => ?_)
    · replace h := ite_t hc32 h
      exact ev_lt (hk96_172 _ h) ⟨rfl, trivial⟩
    · replace h := ite_f hc32 h
      refine ev_aload_n dX12_keepsTold_102 rfl ?_
      refine ev_getR fr_X12_28 shR_0 rfl dX12_keepsTold_103 ?_
      refine ev_iload_n dX12_keepsTold_106 rfl ?_
      refine ev_aload_n dX12_keepsTold_107 rfl ?_
      refine ev_aload_n dX12_keepsTold_108 rfl ?_
      refine ev_getR fr_X12_28 shR_0 rfl dX12_keepsTold_109 ?_
      refine ev_iload_n dX12_keepsTold_112 rfl ?_
      obtain ⟨hi33, h⟩ := chk_t h
      refine ev_iald shR_7 hi33 dX12_keepsTold_113 ?_
      obtain ⟨w36, m35, hq34, h⟩ := bndE_t h
      refine ev_cVi mv_X12_540 dX12_keepsTold_114 (c_X12_keeps hq34) rfl shR_0 rfl rfl (Nat.le_of_ble_eq_true rfl) (by rfl) (Nat.le_of_ble_eq_true rfl) (Nat.le_of_ble_eq_true rfl) (Nat.le_of_ble_eq_true rfl) ?_
      obtain ⟨hi38, h⟩ := chk_t h
      refine ev_iast shR_7 hi38 dX12_keepsTold_117 ?_
      refine ev_aload_n dX12_keepsTold_118 rfl ?_
      refine ev_getR fr_X12_31 shR_0 rfl dX12_keepsTold_119 ?_
      refine ev_iload_n dX12_keepsTold_122 rfl ?_
      refine ev_aload_n dX12_keepsTold_123 rfl ?_
      refine ev_aload_n dX12_keepsTold_124 rfl ?_
      refine ev_getR fr_X12_31 shR_0 rfl dX12_keepsTold_125 ?_
      refine ev_iload_n dX12_keepsTold_128 rfl ?_
      obtain ⟨hi39, h⟩ := chk_t h
      refine ev_iald shR_8 hi39 dX12_keepsTold_129 ?_
      obtain ⟨w42, m41, hq40, h⟩ := bndE_t h
      refine ev_cVi mv_X12_540 dX12_keepsTold_130 (c_X12_keeps hq40) rfl shR_0 rfl rfl (Nat.le_of_ble_eq_true rfl) (by rfl) (Nat.le_of_ble_eq_true rfl) (Nat.le_of_ble_eq_true rfl) (Nat.le_of_ble_eq_true rfl) ?_
      obtain ⟨hi44, h⟩ := chk_t h
      refine ev_iast shR_8 hi44 dX12_keepsTold_133 ?_
      refine ev_aload_n dX12_keepsTold_134 rfl ?_
      refine ev_getR fr_X12_101 shR_0 rfl dX12_keepsTold_135 ?_
      refine ev_iload_n dX12_keepsTold_138 rfl ?_
      refine ev_aload_n dX12_keepsTold_139 rfl ?_
      refine ev_aload_n dX12_keepsTold_140 rfl ?_
      refine ev_getR fr_X12_101 shR_0 rfl dX12_keepsTold_141 ?_
      refine ev_iload_n dX12_keepsTold_144 rfl ?_
      obtain ⟨hi45, h⟩ := chk_t h
      refine ev_iald shR_30 hi45 dX12_keepsTold_145 ?_
      obtain ⟨w48, m47, hq46, h⟩ := bndE_t h
      refine ev_cVi mv_X12_540 dX12_keepsTold_146 (c_X12_keeps hq46) rfl shR_0 rfl rfl (Nat.le_of_ble_eq_true rfl) (by rfl) (Nat.le_of_ble_eq_true rfl) (Nat.le_of_ble_eq_true rfl) (Nat.le_of_ble_eq_true rfl) ?_
      obtain ⟨hi50, h⟩ := chk_t h
      refine ev_iast shR_30 hi50 dX12_keepsTold_149 ?_
      refine ev_aload_n dX12_keepsTold_150 rfl ?_
      refine ev_getR fr_X12_104 shR_0 rfl dX12_keepsTold_151 ?_
      refine ev_iload_n dX12_keepsTold_154 rfl ?_
      refine ev_aload_n dX12_keepsTold_155 rfl ?_
      refine ev_aload_n dX12_keepsTold_156 rfl ?_
      refine ev_getR fr_X12_104 shR_0 rfl dX12_keepsTold_157 ?_
      refine ev_iload_n dX12_keepsTold_160 rfl ?_
      obtain ⟨hi51, h⟩ := chk_t h
      refine ev_iald shR_31 hi51 dX12_keepsTold_161 ?_
      obtain ⟨w54, m53, hq52, h⟩ := bndE_t h
      refine ev_cVi mv_X12_540 dX12_keepsTold_162 (c_X12_keeps hq52) rfl shR_0 rfl rfl (Nat.le_of_ble_eq_true rfl) (by rfl) (Nat.le_of_ble_eq_true rfl) (Nat.le_of_ble_eq_true rfl) (Nat.le_of_ble_eq_true rfl) ?_
      obtain ⟨hi56, h⟩ := chk_t h
      refine ev_iast shR_31 hi56 dX12_keepsTold_165 ?_
      refine ev_iinc (cq := (1 : Int32)) (loc' := [_, _]) dX12_keepsTold_166 rfl (by decide) rfl (by decide) (by rfl) ?_
      refine ev_goto (tgt := 96) dX12_keepsTold_169 (by decide) ?_
      exact ev_lt (ih _ _ h) ⟨rfl, ⟨rfl, trivial⟩⟩
def f_X12_keepsTold_L174 (G : Nat) (k174_250 : Mem → Option Mem) : Nat → Int32 → Mem → Option Mem
  | 0, _, _ => none
  | g + 1, v1, μ =>
  (if (10 : Int32) ≤ v1 then
  k174_250  μ
  else
  chk v1 10 (bndE (f_X12_keeps G (μ 27 (ix v1)) μ) (fun w61 m60 =>
  chk v1 10 (let m62 := wr m60 27 (ix v1) w61
  chk v1 10 (bndE (f_X12_keeps G (m62 28 (ix v1)) m62) (fun w67 m66 =>
  chk v1 10 (let m68 := wr m66 28 (ix v1) w67
  chk v1 10 (bndE (f_X12_keeps G (m68 29 (ix v1)) m68) (fun w73 m72 =>
  chk v1 10 (let m74 := wr m72 29 (ix v1) w73
  chk v1 10 (bndE (f_X12_keeps G (m74 36 (ix v1)) m74) (fun w79 m78 =>
  chk v1 10 (let m80 := wr m78 36 (ix v1) w79
  (f_X12_keepsTold_L174 G k174_250 g) (v1 + (1 : Int32)) m80)))))))))))))
set_option maxHeartbeats 4000000 in
set_option maxRecDepth 100000 in
theorem f_X12_keepsTold_L174_ok  {G : Nat} {μr : Mem}  {k174_250 : Mem → Option Mem} (hk174_250 : ∀ (m : Mem), k174_250 m = some μr → Ev RX12 cX12_keepsTold 2 none false 2 0 0 (eqP none shR μr) 250 [some (.ref 0), none] [] shR m 0 0) : ∀ (g : Nat) (v1 : Int32) (μ : Mem), f_X12_keepsTold_L174 G k174_250 g v1 μ = some μr → Ev RX12 cX12_keepsTold 2 none false 2 0 0 (eqP none shR μr) 174 [some (.ref 0), some (.int v1)] [] shR μ 0 0 := by
  intro g
  induction g with
  | zero =>
    intro v1 μ h
    cases h
  | succ g ih =>
    intro v1 μ h
    rw [f_X12_keepsTold_L174] at h
    refine ev_iload_n dX12_keepsTold_174 rfl ?_
    refine ev_bipush (v := (10 : Int32)) dX12_keepsTold_175 (by decide) ?_
    refine ev_icmp_ge (tgt := 250) dX12_keepsTold_177 (by decide) (fun hc57 => ?_) (fun hc57 => ?_)
    · replace h := ite_t hc57 h
      exact ev_lt (hk174_250 _ h) ⟨rfl, trivial⟩
    · replace h := ite_f hc57 h
      refine ev_aload_n dX12_keepsTold_180 rfl ?_
      refine ev_getR fr_X12_92 shR_0 rfl dX12_keepsTold_181 ?_
      refine ev_iload_n dX12_keepsTold_184 rfl ?_
      refine ev_aload_n dX12_keepsTold_185 rfl ?_
      refine ev_aload_n dX12_keepsTold_186 rfl ?_
      refine ev_getR fr_X12_92 shR_0 rfl dX12_keepsTold_187 ?_
      refine ev_iload_n dX12_keepsTold_190 rfl ?_
      obtain ⟨hi58, h⟩ := chk_t h
      refine ev_iald shR_27 hi58 dX12_keepsTold_191 ?_
      obtain ⟨w61, m60, hq59, h⟩ := bndE_t h
      refine ev_cVi mv_X12_540 dX12_keepsTold_192 (c_X12_keeps hq59) rfl shR_0 rfl rfl (Nat.le_of_ble_eq_true rfl) (by rfl) (Nat.le_of_ble_eq_true rfl) (Nat.le_of_ble_eq_true rfl) (Nat.le_of_ble_eq_true rfl) ?_
      obtain ⟨hi63, h⟩ := chk_t h
      refine ev_iast shR_27 hi63 dX12_keepsTold_195 ?_
      refine ev_aload_n dX12_keepsTold_196 rfl ?_
      refine ev_getR fr_X12_95 shR_0 rfl dX12_keepsTold_197 ?_
      refine ev_iload_n dX12_keepsTold_200 rfl ?_
      refine ev_aload_n dX12_keepsTold_201 rfl ?_
      refine ev_aload_n dX12_keepsTold_202 rfl ?_
      refine ev_getR fr_X12_95 shR_0 rfl dX12_keepsTold_203 ?_
      refine ev_iload_n dX12_keepsTold_206 rfl ?_
      obtain ⟨hi64, h⟩ := chk_t h
      refine ev_iald shR_28 hi64 dX12_keepsTold_207 ?_
      obtain ⟨w67, m66, hq65, h⟩ := bndE_t h
      refine ev_cVi mv_X12_540 dX12_keepsTold_208 (c_X12_keeps hq65) rfl shR_0 rfl rfl (Nat.le_of_ble_eq_true rfl) (by rfl) (Nat.le_of_ble_eq_true rfl) (Nat.le_of_ble_eq_true rfl) (Nat.le_of_ble_eq_true rfl) ?_
      obtain ⟨hi69, h⟩ := chk_t h
      refine ev_iast shR_28 hi69 dX12_keepsTold_211 ?_
      refine ev_aload_n dX12_keepsTold_212 rfl ?_
      refine ev_getR fr_X12_98 shR_0 rfl dX12_keepsTold_213 ?_
      refine ev_iload_n dX12_keepsTold_216 rfl ?_
      refine ev_aload_n dX12_keepsTold_217 rfl ?_
      refine ev_aload_n dX12_keepsTold_218 rfl ?_
      refine ev_getR fr_X12_98 shR_0 rfl dX12_keepsTold_219 ?_
      refine ev_iload_n dX12_keepsTold_222 rfl ?_
      obtain ⟨hi70, h⟩ := chk_t h
      refine ev_iald shR_29 hi70 dX12_keepsTold_223 ?_
      obtain ⟨w73, m72, hq71, h⟩ := bndE_t h
      refine ev_cVi mv_X12_540 dX12_keepsTold_224 (c_X12_keeps hq71) rfl shR_0 rfl rfl (Nat.le_of_ble_eq_true rfl) (by rfl) (Nat.le_of_ble_eq_true rfl) (Nat.le_of_ble_eq_true rfl) (Nat.le_of_ble_eq_true rfl) ?_
      obtain ⟨hi75, h⟩ := chk_t h
      refine ev_iast shR_29 hi75 dX12_keepsTold_227 ?_
      refine ev_aload_n dX12_keepsTold_228 rfl ?_
      refine ev_getR fr_X12_119 shR_0 rfl dX12_keepsTold_229 ?_
      refine ev_iload_n dX12_keepsTold_232 rfl ?_
      refine ev_aload_n dX12_keepsTold_233 rfl ?_
      refine ev_aload_n dX12_keepsTold_234 rfl ?_
      refine ev_getR fr_X12_119 shR_0 rfl dX12_keepsTold_235 ?_
      refine ev_iload_n dX12_keepsTold_238 rfl ?_
      obtain ⟨hi76, h⟩ := chk_t h
      refine ev_iald shR_36 hi76 dX12_keepsTold_239 ?_
      obtain ⟨w79, m78, hq77, h⟩ := bndE_t h
      refine ev_cVi mv_X12_540 dX12_keepsTold_240 (c_X12_keeps hq77) rfl shR_0 rfl rfl (Nat.le_of_ble_eq_true rfl) (by rfl) (Nat.le_of_ble_eq_true rfl) (Nat.le_of_ble_eq_true rfl) (Nat.le_of_ble_eq_true rfl) ?_
      obtain ⟨hi81, h⟩ := chk_t h
      refine ev_iast shR_36 hi81 dX12_keepsTold_243 ?_
      refine ev_iinc (cq := (1 : Int32)) (loc' := [_, _]) dX12_keepsTold_244 rfl (by decide) rfl (by decide) (by rfl) ?_
      refine ev_goto (tgt := 174) dX12_keepsTold_247 (by decide) ?_
      exact ev_lt (ih _ _ h) ⟨rfl, ⟨rfl, trivial⟩⟩
def f_X12_keepsTold_L252 (G : Nat) (k252_296 : Mem → Option Mem) : Nat → Int32 → Mem → Option Mem
  | 0, _, _ => none
  | g + 1, v1, μ =>
  (if (6 : Int32) ≤ v1 then
  k252_296  μ
  else
  chk v1 6 (bndE (f_X12_keeps G (μ 34 (ix v1)) μ) (fun w86 m85 =>
  chk v1 6 (let m87 := wr m85 34 (ix v1) w86
  chk v1 6 (bndE (f_X12_keeps G (m87 35 (ix v1)) m87) (fun w92 m91 =>
  chk v1 6 (let m93 := wr m91 35 (ix v1) w92
  (f_X12_keepsTold_L252 G k252_296 g) (v1 + (1 : Int32)) m93)))))))
set_option maxHeartbeats 4000000 in
set_option maxRecDepth 100000 in
theorem f_X12_keepsTold_L252_ok  {G : Nat} {μr : Mem}  {k252_296 : Mem → Option Mem} (hk252_296 : ∀ (m : Mem), k252_296 m = some μr → Ev RX12 cX12_keepsTold 2 none false 2 0 0 (eqP none shR μr) 296 [some (.ref 0), none] [] shR m 0 0) : ∀ (g : Nat) (v1 : Int32) (μ : Mem), f_X12_keepsTold_L252 G k252_296 g v1 μ = some μr → Ev RX12 cX12_keepsTold 2 none false 2 0 0 (eqP none shR μr) 252 [some (.ref 0), some (.int v1)] [] shR μ 0 0 := by
  intro g
  induction g with
  | zero =>
    intro v1 μ h
    cases h
  | succ g ih =>
    intro v1 μ h
    rw [f_X12_keepsTold_L252] at h
    refine ev_iload_n dX12_keepsTold_252 rfl ?_
    refine ev_bipush (v := (6 : Int32)) dX12_keepsTold_253 (by decide) ?_
    refine ev_icmp_ge (tgt := 296) dX12_keepsTold_255 (by decide) (fun hc82 => ?_) (fun hc82 => ?_)
    · replace h := ite_t hc82 h
      exact ev_lt (hk252_296 _ h) ⟨rfl, trivial⟩
    · replace h := ite_f hc82 h
      refine ev_aload_n dX12_keepsTold_258 rfl ?_
      refine ev_getR fr_X12_113 shR_0 rfl dX12_keepsTold_259 ?_
      refine ev_iload_n dX12_keepsTold_262 rfl ?_
      refine ev_aload_n dX12_keepsTold_263 rfl ?_
      refine ev_aload_n dX12_keepsTold_264 rfl ?_
      refine ev_getR fr_X12_113 shR_0 rfl dX12_keepsTold_265 ?_
      refine ev_iload_n dX12_keepsTold_268 rfl ?_
      obtain ⟨hi83, h⟩ := chk_t h
      refine ev_iald shR_34 hi83 dX12_keepsTold_269 ?_
      obtain ⟨w86, m85, hq84, h⟩ := bndE_t h
      refine ev_cVi mv_X12_540 dX12_keepsTold_270 (c_X12_keeps hq84) rfl shR_0 rfl rfl (Nat.le_of_ble_eq_true rfl) (by rfl) (Nat.le_of_ble_eq_true rfl) (Nat.le_of_ble_eq_true rfl) (Nat.le_of_ble_eq_true rfl) ?_
      obtain ⟨hi88, h⟩ := chk_t h
      refine ev_iast shR_34 hi88 dX12_keepsTold_273 ?_
      refine ev_aload_n dX12_keepsTold_274 rfl ?_
      refine ev_getR fr_X12_116 shR_0 rfl dX12_keepsTold_275 ?_
      refine ev_iload_n dX12_keepsTold_278 rfl ?_
      refine ev_aload_n dX12_keepsTold_279 rfl ?_
      refine ev_aload_n dX12_keepsTold_280 rfl ?_
      refine ev_getR fr_X12_116 shR_0 rfl dX12_keepsTold_281 ?_
      refine ev_iload_n dX12_keepsTold_284 rfl ?_
      obtain ⟨hi89, h⟩ := chk_t h
      refine ev_iald shR_35 hi89 dX12_keepsTold_285 ?_
      obtain ⟨w92, m91, hq90, h⟩ := bndE_t h
      refine ev_cVi mv_X12_540 dX12_keepsTold_286 (c_X12_keeps hq90) rfl shR_0 rfl rfl (Nat.le_of_ble_eq_true rfl) (by rfl) (Nat.le_of_ble_eq_true rfl) (Nat.le_of_ble_eq_true rfl) (Nat.le_of_ble_eq_true rfl) ?_
      obtain ⟨hi94, h⟩ := chk_t h
      refine ev_iast shR_35 hi94 dX12_keepsTold_289 ?_
      refine ev_iinc (cq := (1 : Int32)) (loc' := [_, _]) dX12_keepsTold_290 rfl (by decide) rfl (by decide) (by rfl) ?_
      refine ev_goto (tgt := 252) dX12_keepsTold_293 (by decide) ?_
      exact ev_lt (ih _ _ h) ⟨rfl, ⟨rfl, trivial⟩⟩
def f_X12_keepsTold_L298 (G : Nat) (k298_341 : Mem → Option Mem) : Nat → Int32 → Mem → Option Mem
  | 0, _, _ => none
  | g + 1, v1, μ =>
  (if (3 : Int32) ≤ v1 then
  k298_341  μ
  else
  chk v1 3 (bndE (f_X12_keeps G (μ 40 (ix v1)) μ) (fun w99 m98 =>
  chk v1 3 (let m100 := wr m98 40 (ix v1) w99
  chk v1 3 (bndE (f_X12_keeps G (m100 41 (ix v1)) m100) (fun w105 m104 =>
  chk v1 3 (let m106 := wr m104 41 (ix v1) w105
  (f_X12_keepsTold_L298 G k298_341 g) (v1 + (1 : Int32)) m106)))))))
set_option maxHeartbeats 4000000 in
set_option maxRecDepth 100000 in
theorem f_X12_keepsTold_L298_ok  {G : Nat} {μr : Mem}  {k298_341 : Mem → Option Mem} (hk298_341 : ∀ (m : Mem), k298_341 m = some μr → Ev RX12 cX12_keepsTold 2 none false 2 0 0 (eqP none shR μr) 341 [some (.ref 0), none] [] shR m 0 0) : ∀ (g : Nat) (v1 : Int32) (μ : Mem), f_X12_keepsTold_L298 G k298_341 g v1 μ = some μr → Ev RX12 cX12_keepsTold 2 none false 2 0 0 (eqP none shR μr) 298 [some (.ref 0), some (.int v1)] [] shR μ 0 0 := by
  intro g
  induction g with
  | zero =>
    intro v1 μ h
    cases h
  | succ g ih =>
    intro v1 μ h
    rw [f_X12_keepsTold_L298] at h
    refine ev_iload_n dX12_keepsTold_298 rfl ?_
    refine ev_iconst (v := (3 : Int32)) dX12_keepsTold_299 (by decide) ?_
    refine ev_icmp_ge (tgt := 341) dX12_keepsTold_300 (by decide) (fun hc95 => ?_) (fun hc95 => ?_)
    · replace h := ite_t hc95 h
      exact ev_lt (hk298_341 _ h) ⟨rfl, trivial⟩
    · replace h := ite_f hc95 h
      refine ev_aload_n dX12_keepsTold_303 rfl ?_
      refine ev_getR fr_X12_131 shR_0 rfl dX12_keepsTold_304 ?_
      refine ev_iload_n dX12_keepsTold_307 rfl ?_
      refine ev_aload_n dX12_keepsTold_308 rfl ?_
      refine ev_aload_n dX12_keepsTold_309 rfl ?_
      refine ev_getR fr_X12_131 shR_0 rfl dX12_keepsTold_310 ?_
      refine ev_iload_n dX12_keepsTold_313 rfl ?_
      obtain ⟨hi96, h⟩ := chk_t h
      refine ev_iald shR_40 hi96 dX12_keepsTold_314 ?_
      obtain ⟨w99, m98, hq97, h⟩ := bndE_t h
      refine ev_cVi mv_X12_540 dX12_keepsTold_315 (c_X12_keeps hq97) rfl shR_0 rfl rfl (Nat.le_of_ble_eq_true rfl) (by rfl) (Nat.le_of_ble_eq_true rfl) (Nat.le_of_ble_eq_true rfl) (Nat.le_of_ble_eq_true rfl) ?_
      obtain ⟨hi101, h⟩ := chk_t h
      refine ev_iast shR_40 hi101 dX12_keepsTold_318 ?_
      refine ev_aload_n dX12_keepsTold_319 rfl ?_
      refine ev_getR fr_X12_134 shR_0 rfl dX12_keepsTold_320 ?_
      refine ev_iload_n dX12_keepsTold_323 rfl ?_
      refine ev_aload_n dX12_keepsTold_324 rfl ?_
      refine ev_aload_n dX12_keepsTold_325 rfl ?_
      refine ev_getR fr_X12_134 shR_0 rfl dX12_keepsTold_326 ?_
      refine ev_iload_n dX12_keepsTold_329 rfl ?_
      obtain ⟨hi102, h⟩ := chk_t h
      refine ev_iald shR_41 hi102 dX12_keepsTold_330 ?_
      obtain ⟨w105, m104, hq103, h⟩ := bndE_t h
      refine ev_cVi mv_X12_540 dX12_keepsTold_331 (c_X12_keeps hq103) rfl shR_0 rfl rfl (Nat.le_of_ble_eq_true rfl) (by rfl) (Nat.le_of_ble_eq_true rfl) (Nat.le_of_ble_eq_true rfl) (Nat.le_of_ble_eq_true rfl) ?_
      obtain ⟨hi107, h⟩ := chk_t h
      refine ev_iast shR_41 hi107 dX12_keepsTold_334 ?_
      refine ev_iinc (cq := (1 : Int32)) (loc' := [_, _]) dX12_keepsTold_335 rfl (by decide) rfl (by decide) (by rfl) ?_
      refine ev_goto (tgt := 298) dX12_keepsTold_338 (by decide) ?_
      exact ev_lt (ih _ _ h) ⟨rfl, ⟨rfl, trivial⟩⟩
def f_X12_keepsTold_L343 (G : Nat) (k343_371 : Mem → Option Mem) : Nat → Int32 → Mem → Option Mem
  | 0, _, _ => none
  | g + 1, v1, μ =>
  (if (7 : Int32) ≤ v1 then
  k343_371  μ
  else
  chk v1 7 (bndE (f_X12_keeps G (μ 42 (ix v1)) μ) (fun w112 m111 =>
  chk v1 7 (let m113 := wr m111 42 (ix v1) w112
  (f_X12_keepsTold_L343 G k343_371 g) (v1 + (1 : Int32)) m113))))
set_option maxHeartbeats 4000000 in
set_option maxRecDepth 100000 in
theorem f_X12_keepsTold_L343_ok  {G : Nat} {μr : Mem}  {k343_371 : Mem → Option Mem} (hk343_371 : ∀ (m : Mem), k343_371 m = some μr → Ev RX12 cX12_keepsTold 2 none false 2 0 0 (eqP none shR μr) 371 [some (.ref 0), none] [] shR m 0 0) : ∀ (g : Nat) (v1 : Int32) (μ : Mem), f_X12_keepsTold_L343 G k343_371 g v1 μ = some μr → Ev RX12 cX12_keepsTold 2 none false 2 0 0 (eqP none shR μr) 343 [some (.ref 0), some (.int v1)] [] shR μ 0 0 := by
  intro g
  induction g with
  | zero =>
    intro v1 μ h
    cases h
  | succ g ih =>
    intro v1 μ h
    rw [f_X12_keepsTold_L343] at h
    refine ev_iload_n dX12_keepsTold_343 rfl ?_
    refine ev_bipush (v := (7 : Int32)) dX12_keepsTold_344 (by decide) ?_
    refine ev_icmp_ge (tgt := 371) dX12_keepsTold_346 (by decide) (fun hc108 => ?_) (fun hc108 => ?_)
    · replace h := ite_t hc108 h
      exact ev_lt (hk343_371 _ h) ⟨rfl, trivial⟩
    · replace h := ite_f hc108 h
      refine ev_aload_n dX12_keepsTold_349 rfl ?_
      refine ev_getR fr_X12_137 shR_0 rfl dX12_keepsTold_350 ?_
      refine ev_iload_n dX12_keepsTold_353 rfl ?_
      refine ev_aload_n dX12_keepsTold_354 rfl ?_
      refine ev_aload_n dX12_keepsTold_355 rfl ?_
      refine ev_getR fr_X12_137 shR_0 rfl dX12_keepsTold_356 ?_
      refine ev_iload_n dX12_keepsTold_359 rfl ?_
      obtain ⟨hi109, h⟩ := chk_t h
      refine ev_iald shR_42 hi109 dX12_keepsTold_360 ?_
      obtain ⟨w112, m111, hq110, h⟩ := bndE_t h
      refine ev_cVi mv_X12_540 dX12_keepsTold_361 (c_X12_keeps hq110) rfl shR_0 rfl rfl (Nat.le_of_ble_eq_true rfl) (by rfl) (Nat.le_of_ble_eq_true rfl) (Nat.le_of_ble_eq_true rfl) (Nat.le_of_ble_eq_true rfl) ?_
      obtain ⟨hi114, h⟩ := chk_t h
      refine ev_iast shR_42 hi114 dX12_keepsTold_364 ?_
      refine ev_iinc (cq := (1 : Int32)) (loc' := [_, _]) dX12_keepsTold_365 rfl (by decide) rfl (by decide) (by rfl) ?_
      refine ev_goto (tgt := 343) dX12_keepsTold_368 (by decide) ?_
      exact ev_lt (ih _ _ h) ⟨rfl, ⟨rfl, trivial⟩⟩
def f_X12_keepsTold_L373 (G : Nat) (k373_401 : Mem → Option Mem) : Nat → Int32 → Mem → Option Mem
  | 0, _, _ => none
  | g + 1, v1, μ =>
  (if (16 : Int32) ≤ v1 then
  k373_401  μ
  else
  chk v1 32 (bndE (f_X12_keeps G (μ 20 (ix v1)) μ) (fun w119 m118 =>
  chk v1 32 (let m120 := wr m118 20 (ix v1) w119
  (f_X12_keepsTold_L373 G k373_401 g) (v1 + (1 : Int32)) m120))))
set_option maxHeartbeats 4000000 in
set_option maxRecDepth 100000 in
theorem f_X12_keepsTold_L373_ok  {G : Nat} {μr : Mem}  {k373_401 : Mem → Option Mem} (hk373_401 : ∀ (m : Mem), k373_401 m = some μr → Ev RX12 cX12_keepsTold 2 none false 2 0 0 (eqP none shR μr) 401 [some (.ref 0), none] [] shR m 0 0) : ∀ (g : Nat) (v1 : Int32) (μ : Mem), f_X12_keepsTold_L373 G k373_401 g v1 μ = some μr → Ev RX12 cX12_keepsTold 2 none false 2 0 0 (eqP none shR μr) 373 [some (.ref 0), some (.int v1)] [] shR μ 0 0 := by
  intro g
  induction g with
  | zero =>
    intro v1 μ h
    cases h
  | succ g ih =>
    intro v1 μ h
    rw [f_X12_keepsTold_L373] at h
    refine ev_iload_n dX12_keepsTold_373 rfl ?_
    refine ev_bipush (v := (16 : Int32)) dX12_keepsTold_374 (by decide) ?_
    refine ev_icmp_ge (tgt := 401) dX12_keepsTold_376 (by decide) (fun hc115 => ?_) (fun hc115 => ?_)
    · replace h := ite_t hc115 h
      exact ev_lt (hk373_401 _ h) ⟨rfl, trivial⟩
    · replace h := ite_f hc115 h
      refine ev_aload_n dX12_keepsTold_379 rfl ?_
      refine ev_getR fr_X12_71 shR_0 rfl dX12_keepsTold_380 ?_
      refine ev_iload_n dX12_keepsTold_383 rfl ?_
      refine ev_aload_n dX12_keepsTold_384 rfl ?_
      refine ev_aload_n dX12_keepsTold_385 rfl ?_
      refine ev_getR fr_X12_71 shR_0 rfl dX12_keepsTold_386 ?_
      refine ev_iload_n dX12_keepsTold_389 rfl ?_
      obtain ⟨hi116, h⟩ := chk_t h
      refine ev_iald shR_20 hi116 dX12_keepsTold_390 ?_
      obtain ⟨w119, m118, hq117, h⟩ := bndE_t h
      refine ev_cVi mv_X12_540 dX12_keepsTold_391 (c_X12_keeps hq117) rfl shR_0 rfl rfl (Nat.le_of_ble_eq_true rfl) (by rfl) (Nat.le_of_ble_eq_true rfl) (Nat.le_of_ble_eq_true rfl) (Nat.le_of_ble_eq_true rfl) ?_
      obtain ⟨hi121, h⟩ := chk_t h
      refine ev_iast shR_20 hi121 dX12_keepsTold_394 ?_
      refine ev_iinc (cq := (1 : Int32)) (loc' := [_, _]) dX12_keepsTold_395 rfl (by decide) rfl (by decide) (by rfl) ?_
      refine ev_goto (tgt := 373) dX12_keepsTold_398 (by decide) ?_
      exact ev_lt (ih _ _ h) ⟨rfl, ⟨rfl, trivial⟩⟩
def f_X12_keepsTold_L403 (G : Nat)  : Nat → Int32 → Mem → Option Mem
  | 0, _, _ => none
  | g + 1, v1, μ =>
  (if (96 : Int32) ≤ v1 then
  some μ
  else
  chk v1 192 (bndE (f_X12_keeps G (μ 21 (ix v1)) μ) (fun w126 m125 =>
  chk v1 192 (let m127 := wr m125 21 (ix v1) w126
  (f_X12_keepsTold_L403 G g) (v1 + (1 : Int32)) m127))))
set_option maxHeartbeats 4000000 in
set_option maxRecDepth 100000 in
theorem f_X12_keepsTold_L403_ok  {G : Nat} {μr : Mem}    : ∀ (g : Nat) (v1 : Int32) (μ : Mem), f_X12_keepsTold_L403 G g v1 μ = some μr → Ev RX12 cX12_keepsTold 2 none false 2 0 0 (eqP none shR μr) 403 [some (.ref 0), some (.int v1)] [] shR μ 0 0 := by
  intro g
  induction g with
  | zero =>
    intro v1 μ h
    cases h
  | succ g ih =>
    intro v1 μ h
    rw [f_X12_keepsTold_L403] at h
    refine ev_iload_n dX12_keepsTold_403 rfl ?_
    refine ev_bipush (v := (96 : Int32)) dX12_keepsTold_404 (by decide) ?_
    refine ev_icmp_ge (tgt := 431) dX12_keepsTold_406 (by decide) (fun hc122 => ?_) (fun hc122 => ?_)
    · replace h := ite_t hc122 h
      exact ev_vret rfl (by decide) (by decide) dX12_keepsTold_431 (eqP_V h)
    · replace h := ite_f hc122 h
      refine ev_aload_n dX12_keepsTold_409 rfl ?_
      refine ev_getR fr_X12_74 shR_0 rfl dX12_keepsTold_410 ?_
      refine ev_iload_n dX12_keepsTold_413 rfl ?_
      refine ev_aload_n dX12_keepsTold_414 rfl ?_
      refine ev_aload_n dX12_keepsTold_415 rfl ?_
      refine ev_getR fr_X12_74 shR_0 rfl dX12_keepsTold_416 ?_
      refine ev_iload_n dX12_keepsTold_419 rfl ?_
      obtain ⟨hi123, h⟩ := chk_t h
      refine ev_iald shR_21 hi123 dX12_keepsTold_420 ?_
      obtain ⟨w126, m125, hq124, h⟩ := bndE_t h
      refine ev_cVi mv_X12_540 dX12_keepsTold_421 (c_X12_keeps hq124) rfl shR_0 rfl rfl (Nat.le_of_ble_eq_true rfl) (by rfl) (Nat.le_of_ble_eq_true rfl) (Nat.le_of_ble_eq_true rfl) (Nat.le_of_ble_eq_true rfl) ?_
      obtain ⟨hi128, h⟩ := chk_t h
      refine ev_iast shR_21 hi128 dX12_keepsTold_424 ?_
      refine ev_iinc (cq := (1 : Int32)) (loc' := [_, _]) dX12_keepsTold_425 rfl (by decide) rfl (by decide) (by rfl) ?_
      refine ev_goto (tgt := 403) dX12_keepsTold_428 (by decide) ?_
      exact ev_lt (ih _ _ h) ⟨rfl, ⟨rfl, trivial⟩⟩
def f_X12_keepsTold_j401 (G : Nat)  (μ : Mem) : Option Mem :=
  f_X12_keepsTold_L403 G G (0 : Int32) μ
set_option maxHeartbeats 4000000 in
set_option maxRecDepth 100000 in
theorem f_X12_keepsTold_j401_ok  {G : Nat} {μr : Mem}    {μ : Mem} (h : f_X12_keepsTold_j401 G μ = some μr) : Ev RX12 cX12_keepsTold 2 none false 2 0 0 (eqP none shR μr) 401 [some (.ref 0), none] [] shR μ 0 0 := by
  unfold f_X12_keepsTold_j401 at h
  refine ev_iconst (v := (0 : Int32)) dX12_keepsTold_401 (by decide) ?_
  refine ev_istore_n (loc' := [_, _]) dX12_keepsTold_402 rfl (by decide) (by rfl) ?_
  exact ev_lt (f_X12_keepsTold_L403_ok _ _ _ h) ⟨rfl, ⟨rfl, trivial⟩⟩
def f_X12_keepsTold_j371 (G : Nat)  (μ : Mem) : Option Mem :=
  f_X12_keepsTold_L373 G (f_X12_keepsTold_j401 G) G (0 : Int32) μ
set_option maxHeartbeats 4000000 in
set_option maxRecDepth 100000 in
theorem f_X12_keepsTold_j371_ok  {G : Nat} {μr : Mem}    {μ : Mem} (h : f_X12_keepsTold_j371 G μ = some μr) : Ev RX12 cX12_keepsTold 2 none false 2 0 0 (eqP none shR μr) 371 [some (.ref 0), none] [] shR μ 0 0 := by
  unfold f_X12_keepsTold_j371 at h
  refine ev_iconst (v := (0 : Int32)) dX12_keepsTold_371 (by decide) ?_
  refine ev_istore_n (loc' := [_, _]) dX12_keepsTold_372 rfl (by decide) (by rfl) ?_
  exact ev_lt (f_X12_keepsTold_L373_ok (fun _ hh => f_X12_keepsTold_j401_ok hh) _ _ _ h) ⟨rfl, ⟨rfl, trivial⟩⟩
def f_X12_keepsTold_j341 (G : Nat)  (μ : Mem) : Option Mem :=
  f_X12_keepsTold_L343 G (f_X12_keepsTold_j371 G) G (0 : Int32) μ
set_option maxHeartbeats 4000000 in
set_option maxRecDepth 100000 in
theorem f_X12_keepsTold_j341_ok  {G : Nat} {μr : Mem}    {μ : Mem} (h : f_X12_keepsTold_j341 G μ = some μr) : Ev RX12 cX12_keepsTold 2 none false 2 0 0 (eqP none shR μr) 341 [some (.ref 0), none] [] shR μ 0 0 := by
  unfold f_X12_keepsTold_j341 at h
  refine ev_iconst (v := (0 : Int32)) dX12_keepsTold_341 (by decide) ?_
  refine ev_istore_n (loc' := [_, _]) dX12_keepsTold_342 rfl (by decide) (by rfl) ?_
  exact ev_lt (f_X12_keepsTold_L343_ok (fun _ hh => f_X12_keepsTold_j371_ok hh) _ _ _ h) ⟨rfl, ⟨rfl, trivial⟩⟩
def f_X12_keepsTold_j296 (G : Nat)  (μ : Mem) : Option Mem :=
  f_X12_keepsTold_L298 G (f_X12_keepsTold_j341 G) G (0 : Int32) μ
set_option maxHeartbeats 4000000 in
set_option maxRecDepth 100000 in
theorem f_X12_keepsTold_j296_ok  {G : Nat} {μr : Mem}    {μ : Mem} (h : f_X12_keepsTold_j296 G μ = some μr) : Ev RX12 cX12_keepsTold 2 none false 2 0 0 (eqP none shR μr) 296 [some (.ref 0), none] [] shR μ 0 0 := by
  unfold f_X12_keepsTold_j296 at h
  refine ev_iconst (v := (0 : Int32)) dX12_keepsTold_296 (by decide) ?_
  refine ev_istore_n (loc' := [_, _]) dX12_keepsTold_297 rfl (by decide) (by rfl) ?_
  exact ev_lt (f_X12_keepsTold_L298_ok (fun _ hh => f_X12_keepsTold_j341_ok hh) _ _ _ h) ⟨rfl, ⟨rfl, trivial⟩⟩
def f_X12_keepsTold_j250 (G : Nat)  (μ : Mem) : Option Mem :=
  f_X12_keepsTold_L252 G (f_X12_keepsTold_j296 G) G (0 : Int32) μ
set_option maxHeartbeats 4000000 in
set_option maxRecDepth 100000 in
theorem f_X12_keepsTold_j250_ok  {G : Nat} {μr : Mem}    {μ : Mem} (h : f_X12_keepsTold_j250 G μ = some μr) : Ev RX12 cX12_keepsTold 2 none false 2 0 0 (eqP none shR μr) 250 [some (.ref 0), none] [] shR μ 0 0 := by
  unfold f_X12_keepsTold_j250 at h
  refine ev_iconst (v := (0 : Int32)) dX12_keepsTold_250 (by decide) ?_
  refine ev_istore_n (loc' := [_, _]) dX12_keepsTold_251 rfl (by decide) (by rfl) ?_
  exact ev_lt (f_X12_keepsTold_L252_ok (fun _ hh => f_X12_keepsTold_j296_ok hh) _ _ _ h) ⟨rfl, ⟨rfl, trivial⟩⟩
def f_X12_keepsTold_j172 (G : Nat)  (μ : Mem) : Option Mem :=
  f_X12_keepsTold_L174 G (f_X12_keepsTold_j250 G) G (0 : Int32) μ
set_option maxHeartbeats 4000000 in
set_option maxRecDepth 100000 in
theorem f_X12_keepsTold_j172_ok  {G : Nat} {μr : Mem}    {μ : Mem} (h : f_X12_keepsTold_j172 G μ = some μr) : Ev RX12 cX12_keepsTold 2 none false 2 0 0 (eqP none shR μr) 172 [some (.ref 0), none] [] shR μ 0 0 := by
  unfold f_X12_keepsTold_j172 at h
  refine ev_iconst (v := (0 : Int32)) dX12_keepsTold_172 (by decide) ?_
  refine ev_istore_n (loc' := [_, _]) dX12_keepsTold_173 rfl (by decide) (by rfl) ?_
  exact ev_lt (f_X12_keepsTold_L174_ok (fun _ hh => f_X12_keepsTold_j250_ok hh) _ _ _ h) ⟨rfl, ⟨rfl, trivial⟩⟩
def f_X12_keepsTold_j94 (G : Nat)  (μ : Mem) : Option Mem :=
  f_X12_keepsTold_L96 G (f_X12_keepsTold_j172 G) G (0 : Int32) μ
set_option maxHeartbeats 4000000 in
set_option maxRecDepth 100000 in
theorem f_X12_keepsTold_j94_ok  {G : Nat} {μr : Mem}    {μ : Mem} (h : f_X12_keepsTold_j94 G μ = some μr) : Ev RX12 cX12_keepsTold 2 none false 2 0 0 (eqP none shR μr) 94 [some (.ref 0), none] [] shR μ 0 0 := by
  unfold f_X12_keepsTold_j94 at h
  refine ev_iconst (v := (0 : Int32)) dX12_keepsTold_94 (by decide) ?_
  refine ev_istore_n (loc' := [_, _]) dX12_keepsTold_95 rfl (by decide) (by rfl) ?_
  exact ev_lt (f_X12_keepsTold_L96_ok (fun _ hh => f_X12_keepsTold_j172_ok hh) _ _ _ h) ⟨rfl, ⟨rfl, trivial⟩⟩
def f_X12_keepsTold (G : Nat) (μ : Mem) : Option Mem :=
  f_X12_keepsTold_L2 G (f_X12_keepsTold_j94 G) G (0 : Int32) μ
set_option maxHeartbeats 4000000 in
set_option maxRecDepth 100000 in
theorem c_X12_keepsTold  {G : Nat} {μ : Mem} {μr : Mem}  (h : f_X12_keepsTold G μ = some μr) : Cn yX12_keepsTold cX12_keepsTold 2 none 2 0 0 [.ref 0] shR μ (eqP none shR μr) := by
  refine cn_of (own := RX12) (ini := false) (loc := [some (.ref 0), none]) rfl (by decide) (fun q => by cases q) (Nat.le_of_ble_eq_true rfl) (by rfl) rfl ?_
  unfold f_X12_keepsTold at h
  refine ev_iconst (v := (0 : Int32)) dX12_keepsTold_0 (by decide) ?_
  refine ev_istore_n (loc' := [_, _]) dX12_keepsTold_1 rfl (by decide) (by rfl) ?_
  exact ev_lt (f_X12_keepsTold_L2_ok (fun _ hh => f_X12_keepsTold_j94_ok hh) _ _ _ h) ⟨rfl, ⟨rfl, trivial⟩⟩
def f_X12_image_L35 (G : Nat) (k35_63 : Int32 → Mem → Option (Int32 × Mem)) : Nat → Int32 → Int32 → Mem → Option (Int32 × Mem)
  | 0, _, _, _ => none
  | g + 1, v1, v2, μ =>
  (if (49 : Int32) ≤ v2 then
  k35_63 v1 μ
  else
  chk v2 49 (bndE (f_X12_keeps G (μ 1 (ix v2)) μ) (fun w11 m10 =>
  chk v2 49 (let m12 := wr m10 1 (ix v2) w11
  (f_X12_image_L35 G k35_63 g) v1 (v2 + (1 : Int32)) m12))))
set_option maxHeartbeats 4000000 in
set_option maxRecDepth 100000 in
theorem f_X12_image_L35_ok  {G : Nat} {r : Int32} {μr : Mem}  {k35_63 : Int32 → Mem → Option (Int32 × Mem)} (hk35_63 : ∀ (v1 : Int32) (m : Mem), k35_63 v1 m = some (r, μr) → Ev RX12 cX12_image 3 (some .boolean) false 3 0 0 (eqP (some r) shR μr) 63 [some (.ref 0), some (.int v1), none] [] shR m 0 0) : ∀ (g : Nat) (v1 v2 : Int32) (μ : Mem), f_X12_image_L35 G k35_63 g v1 v2 μ = some (r, μr) → Ev RX12 cX12_image 3 (some .boolean) false 3 0 0 (eqP (some r) shR μr) 35 [some (.ref 0), some (.int v1), some (.int v2)] [] shR μ 0 0 := by
  intro g
  induction g with
  | zero =>
    intro v1 v2 μ h
    cases h
  | succ g ih =>
    intro v1 v2 μ h
    rw [f_X12_image_L35] at h
    refine ev_iload_n dX12_image_35 rfl ?_
    refine ev_bipush (v := (49 : Int32)) dX12_image_36 (by decide) ?_
    refine ev_icmp_ge (tgt := 63) dX12_image_38 (by decide) (fun hc7 => ?_) (fun hc7 => ?_)
    · replace h := ite_t hc7 h
      exact ev_lt (hk35_63 _ _ h) ⟨rfl, ⟨rfl, trivial⟩⟩
    · replace h := ite_f hc7 h
      refine ev_aload_n dX12_image_41 rfl ?_
      refine ev_getR fr_X12_7 shR_0 rfl dX12_image_42 ?_
      refine ev_iload_n dX12_image_45 rfl ?_
      refine ev_aload_n dX12_image_46 rfl ?_
      refine ev_aload_n dX12_image_47 rfl ?_
      refine ev_getR fr_X12_7 shR_0 rfl dX12_image_48 ?_
      refine ev_iload_n dX12_image_51 rfl ?_
      obtain ⟨hi8, h⟩ := chk_t h
      refine ev_iald shR_1 hi8 dX12_image_52 ?_
      obtain ⟨w11, m10, hq9, h⟩ := bndE_t h
      refine ev_cVi mv_X12_540 dX12_image_53 (c_X12_keeps hq9) rfl shR_0 rfl rfl (Nat.le_of_ble_eq_true rfl) (by rfl) (Nat.le_of_ble_eq_true rfl) (Nat.le_of_ble_eq_true rfl) (Nat.le_of_ble_eq_true rfl) ?_
      obtain ⟨hi13, h⟩ := chk_t h
      refine ev_iast shR_1 hi13 dX12_image_56 ?_
      refine ev_iinc (cq := (1 : Int32)) (loc' := [_, _, _]) dX12_image_57 rfl (by decide) rfl (by decide) (by rfl) ?_
      refine ev_goto (tgt := 35) dX12_image_60 (by decide) ?_
      exact ev_lt (ih _ _ _ h) ⟨rfl, ⟨rfl, ⟨rfl, trivial⟩⟩⟩
def f_X12_image_L73 (G : Nat) (k73_102 : Int32 → Mem → Option (Int32 × Mem)) : Nat → Int32 → Int32 → Mem → Option (Int32 × Mem)
  | 0, _, _, _ => none
  | g + 1, v1, v2, μ =>
  (if (600 : Int32) ≤ v2 then
  k73_102 v1 μ
  else
  chk v2 600 (bndE (f_X12_keeps G (μ 9 (ix v2)) μ) (fun w22 m21 =>
  chk v2 600 (let m23 := wr m21 9 (ix v2) w22
  (f_X12_image_L73 G k73_102 g) v1 (v2 + (1 : Int32)) m23))))
set_option maxHeartbeats 4000000 in
set_option maxRecDepth 100000 in
theorem f_X12_image_L73_ok  {G : Nat} {r : Int32} {μr : Mem}  {k73_102 : Int32 → Mem → Option (Int32 × Mem)} (hk73_102 : ∀ (v1 : Int32) (m : Mem), k73_102 v1 m = some (r, μr) → Ev RX12 cX12_image 3 (some .boolean) false 3 0 0 (eqP (some r) shR μr) 102 [some (.ref 0), some (.int v1), none] [] shR m 0 0) : ∀ (g : Nat) (v1 v2 : Int32) (μ : Mem), f_X12_image_L73 G k73_102 g v1 v2 μ = some (r, μr) → Ev RX12 cX12_image 3 (some .boolean) false 3 0 0 (eqP (some r) shR μr) 73 [some (.ref 0), some (.int v1), some (.int v2)] [] shR μ 0 0 := by
  intro g
  induction g with
  | zero =>
    intro v1 v2 μ h
    cases h
  | succ g ih =>
    intro v1 v2 μ h
    rw [f_X12_image_L73] at h
    refine ev_iload_n dX12_image_73 rfl ?_
    refine ev_sipush (v := (600 : Int32)) dX12_image_74 (by decide) ?_
    refine ev_icmp_ge (tgt := 102) dX12_image_77 (by decide) (fun hc18 => ?_) (fun hc18 => ?_)
    · replace h := ite_t hc18 h
      exact ev_lt (hk73_102 _ _ h) ⟨rfl, ⟨rfl, trivial⟩⟩
    · replace h := ite_f hc18 h
      refine ev_aload_n dX12_image_80 rfl ?_
      refine ev_getR fr_X12_34 shR_0 rfl dX12_image_81 ?_
      refine ev_iload_n dX12_image_84 rfl ?_
      refine ev_aload_n dX12_image_85 rfl ?_
      refine ev_aload_n dX12_image_86 rfl ?_
      refine ev_getR fr_X12_34 shR_0 rfl dX12_image_87 ?_
      refine ev_iload_n dX12_image_90 rfl ?_
      obtain ⟨hi19, h⟩ := chk_t h
      refine ev_iald shR_9 hi19 dX12_image_91 ?_
      obtain ⟨w22, m21, hq20, h⟩ := bndE_t h
      refine ev_cVi mv_X12_540 dX12_image_92 (c_X12_keeps hq20) rfl shR_0 rfl rfl (Nat.le_of_ble_eq_true rfl) (by rfl) (Nat.le_of_ble_eq_true rfl) (Nat.le_of_ble_eq_true rfl) (Nat.le_of_ble_eq_true rfl) ?_
      obtain ⟨hi24, h⟩ := chk_t h
      refine ev_iast shR_9 hi24 dX12_image_95 ?_
      refine ev_iinc (cq := (1 : Int32)) (loc' := [_, _, _]) dX12_image_96 rfl (by decide) rfl (by decide) (by rfl) ?_
      refine ev_goto (tgt := 73) dX12_image_99 (by decide) ?_
      exact ev_lt (ih _ _ _ h) ⟨rfl, ⟨rfl, ⟨rfl, trivial⟩⟩⟩
def f_X12_image_j102 (G : Nat)  (v1 : Int32) (μ : Mem) : Option (Int32 × Mem) :=
  bndV (f_X12_keepsLaw G μ) (fun m26 =>
  (if v1 = (0 : Int32) then
  (let m28 := wr m26 0 3 (0 : Int32)
  some ((1 : Int32), m28))
  else
  some ((1 : Int32), m26)))
set_option maxHeartbeats 4000000 in
set_option maxRecDepth 100000 in
theorem f_X12_image_j102_ok  {G : Nat} {r : Int32} {μr : Mem}    {v1 : Int32} {μ : Mem} (h : f_X12_image_j102 G v1 μ = some (r, μr)) : Ev RX12 cX12_image 3 (some .boolean) false 3 0 0 (eqP (some r) shR μr) 102 [some (.ref 0), some (.int v1), none] [] shR μ 0 0 := by
  unfold f_X12_image_j102 at h
  refine ev_aload_n dX12_image_102 rfl ?_
  obtain ⟨m26, hq25, h⟩ := bndV_t h
  refine ev_cVv mv_X12_552 dX12_image_103 (c_X12_keepsLaw hq25) rfl shR_0 rfl rfl (Nat.le_of_ble_eq_true rfl) (by rfl) (Nat.le_of_ble_eq_true rfl) (Nat.le_of_ble_eq_true rfl) (Nat.le_of_ble_eq_true rfl) ?_
  refine ev_iload_n dX12_image_106 rfl ?_
  refine ev_if_ne (tgt := 115) dX12_image_107 (by decide) (fun hc27 => ?_) (fun hc27 => ?_)
  · replace h := ite_f hc27 h
    refine ev_iconst (v := (1 : Int32)) dX12_image_115 (by decide) ?_
    exact ev_iret rfl rfl (by decide) (by decide) dX12_image_116 (eqP_E h)
  · replace h := ite_t hc27 h
    refine ev_aload_n dX12_image_110 rfl ?_
    refine ev_iconst (v := (0 : Int32)) dX12_image_111 (by decide) ?_
    refine ev_putI fr_X12_152 shR_0 rfl rfl rfl dX12_image_112 ?_
    refine ev_iconst (v := (1 : Int32)) dX12_image_115 (by decide) ?_
    exact ev_iret rfl rfl (by decide) (by decide) dX12_image_116 (eqP_E h)
def f_X12_image_j63 (G : Nat)  (v1 : Int32) (μ : Mem) : Option (Int32 × Mem) :=
  bndV (f_X12_keepsMany G μ) (fun m15 =>
  bndV (f_X12_keepsTold G m15) (fun m17 =>
  f_X12_image_L73 G (f_X12_image_j102 G) G v1 (0 : Int32) m17))
set_option maxHeartbeats 4000000 in
set_option maxRecDepth 100000 in
theorem f_X12_image_j63_ok  {G : Nat} {r : Int32} {μr : Mem}    {v1 : Int32} {μ : Mem} (h : f_X12_image_j63 G v1 μ = some (r, μr)) : Ev RX12 cX12_image 3 (some .boolean) false 3 0 0 (eqP (some r) shR μr) 63 [some (.ref 0), some (.int v1), none] [] shR μ 0 0 := by
  unfold f_X12_image_j63 at h
  refine ev_aload_n dX12_image_63 rfl ?_
  obtain ⟨m15, hq14, h⟩ := bndV_t h
  refine ev_cVv mv_X12_546 dX12_image_64 (c_X12_keepsMany hq14) rfl shR_0 rfl rfl (Nat.le_of_ble_eq_true rfl) (by rfl) (Nat.le_of_ble_eq_true rfl) (Nat.le_of_ble_eq_true rfl) (Nat.le_of_ble_eq_true rfl) ?_
  refine ev_aload_n dX12_image_67 rfl ?_
  obtain ⟨m17, hq16, h⟩ := bndV_t h
  refine ev_cVv mv_X12_549 dX12_image_68 (c_X12_keepsTold hq16) rfl shR_0 rfl rfl (Nat.le_of_ble_eq_true rfl) (by rfl) (Nat.le_of_ble_eq_true rfl) (Nat.le_of_ble_eq_true rfl) (Nat.le_of_ble_eq_true rfl) ?_
  refine ev_iconst (v := (0 : Int32)) dX12_image_71 (by decide) ?_
  refine ev_istore_n (loc' := [_, _, _]) dX12_image_72 rfl (by decide) (by rfl) ?_
  exact ev_lt (f_X12_image_L73_ok (fun _ _ hh => f_X12_image_j102_ok hh) _ _ _ _ h) ⟨rfl, ⟨rfl, ⟨rfl, trivial⟩⟩⟩
def f_X12_image_j18 (G : Nat)  (v1 : Int32) (μ : Mem) : Option (Int32 × Mem) :=
  bkk v1 (let m3 := wr μ 0 72 v1
  (let m5 := wr m3 0 73 (1 : Int32)
  (let m6 := wr m5 0 74 (0 : Int32)
  f_X12_image_L35 G (f_X12_image_j63 G) G v1 (0 : Int32) m6)))
set_option maxHeartbeats 4000000 in
set_option maxRecDepth 100000 in
theorem f_X12_image_j18_ok  {G : Nat} {r : Int32} {μr : Mem}    {v1 : Int32} {μ : Mem} (h : f_X12_image_j18 G v1 μ = some (r, μr)) : Ev RX12 cX12_image 3 (some .boolean) false 3 0 0 (eqP (some r) shR μr) 18 [some (.ref 0), some (.int v1), none] [] shR μ 0 0 := by
  unfold f_X12_image_j18 at h
  refine ev_aload_n dX12_image_18 rfl ?_
  refine ev_iload_n dX12_image_19 rfl ?_
  obtain ⟨hz4, h⟩ := bkk_t h
  refine ev_putI fr_X12_537 shR_0 rfl (nzb hz4) (fzb hz4) dX12_image_20 ?_
  refine ev_aload_n dX12_image_23 rfl ?_
  refine ev_iconst (v := (1 : Int32)) dX12_image_24 (by decide) ?_
  refine ev_putI fr_X12_543 shR_0 rfl rfl rfl dX12_image_25 ?_
  refine ev_aload_n dX12_image_28 rfl ?_
  refine ev_iconst (v := (0 : Int32)) dX12_image_29 (by decide) ?_
  refine ev_putI fr_X12_534 shR_0 rfl rfl rfl dX12_image_30 ?_
  refine ev_iconst (v := (0 : Int32)) dX12_image_33 (by decide) ?_
  refine ev_istore_n (loc' := [_, _, _]) dX12_image_34 rfl (by decide) (by rfl) ?_
  exact ev_lt (f_X12_image_L35_ok (fun _ _ hh => f_X12_image_j63_ok hh) _ _ _ _ h) ⟨rfl, ⟨rfl, ⟨rfl, trivial⟩⟩⟩
def f_X12_image (G : Nat) (p1 : Int32) (μ : Mem) : Option (Int32 × Mem) :=
  (let m1 := wr μ 0 0 (0 : Int32)
  (if p1 = (0 : Int32) then
  (if (m1 0 73) = (0 : Int32) then
  some ((0 : Int32), m1)
  else
  f_X12_image_j18 G p1 m1)
  else
  f_X12_image_j18 G p1 m1))
set_option maxHeartbeats 4000000 in
set_option maxRecDepth 100000 in
theorem c_X12_image  {G : Nat} {μ : Mem} {p1 : Int32} {r : Int32} {μr : Mem}  (h : f_X12_image G p1 μ = some (r, μr)) : Cn yX12_image cX12_image 3 (some .boolean) 3 0 0 [.ref 0, .int p1] shR μ (eqP (some r) shR μr) := by
  refine cn_of (own := RX12) (ini := false) (loc := [some (.ref 0), some (.int p1), none]) rfl (by decide) (fun q => by cases q) (Nat.le_of_ble_eq_true rfl) (by rfl) rfl ?_
  unfold f_X12_image at h
  refine ev_aload_n dX12_image_0 rfl ?_
  refine ev_iconst (v := (0 : Int32)) dX12_image_1 (by decide) ?_
  refine ev_putI fr_X12_149 shR_0 rfl rfl rfl dX12_image_2 ?_
  refine ev_iload_n dX12_image_5 rfl ?_
  refine ev_if_ne (tgt := 18) dX12_image_6 (by decide) (fun hc2 => ?_) (fun hc2 => ?_)
  · replace h := ite_f hc2 h
    exact ev_lt (f_X12_image_j18_ok h) ⟨rfl, ⟨rfl, trivial⟩⟩
  · replace h := ite_t hc2 h
    refine ev_aload_n dX12_image_9 rfl ?_
    refine ev_getI fr_X12_543 shR_0 rfl dX12_image_10 ?_
    refine ev_if_ne (tgt := 18) dX12_image_13 (by decide) (fun hc29 => ?_) (fun hc29 => ?_)
    · replace h := ite_f hc29 h
      exact ev_lt (f_X12_image_j18_ok h) ⟨rfl, ⟨rfl, trivial⟩⟩
    · replace h := ite_t hc29 h
      refine ev_iconst (v := (0 : Int32)) dX12_image_16 (by decide) ?_
      exact ev_iret rfl rfl (by decide) (by decide) dX12_image_17 (eqP_E h)
def f_X12_freeSet_j26 (G : Nat) (μ : Mem) (r4 : Int32 → Int32 → Option Int32) (v1 v2 : Int32) : Option Int32 :=
  r4 v1 (v2 + (1 : Int32))
set_option maxHeartbeats 4000000 in
set_option maxRecDepth 100000 in
theorem f_X12_freeSet_j26_ok  {G : Nat} {μ : Mem} {r : Int32}  {r4 : Int32 → Int32 → Option Int32} (hr4 : ∀ (v1 : Int32) (v2 : Int32), r4 v1 v2 = some r → Ev RX12 cX12_freeSet 3 (some .int) false 2 0 0 (eqP (some r) shR μ) 4 [some (.ref 0), some (.int v1), some (.int v2)] [] shR μ 0 0) {v1 v2 : Int32}  (h : f_X12_freeSet_j26 G μ r4 v1 v2 = some r) : Ev RX12 cX12_freeSet 3 (some .int) false 2 0 0 (eqP (some r) shR μ) 26 [some (.ref 0), some (.int v1), some (.int v2)] [] shR μ 0 0 := by
  unfold f_X12_freeSet_j26 at h
  refine ev_iinc (cq := (1 : Int32)) (loc' := [_, _, _]) dX12_freeSet_26 rfl (by decide) rfl (by decide) (by rfl) ?_
  refine ev_goto (tgt := 4) dX12_freeSet_29 (by decide) ?_
  exact ev_lt (hr4 _ _ h) ⟨rfl, ⟨rfl, ⟨rfl, trivial⟩⟩⟩
def f_X12_freeSet_L4 (G : Nat) (μ : Mem)  : Nat → Int32 → Int32 → Option Int32
  | 0, _, _ => none
  | g + 1, v1, v2 =>
  (if (μ 0 6) ≤ v2 then
  some v1
  else
  bndO (f_X12_isFree G μ v2) (fun w3 =>
  (if w3 = (0 : Int32) then
  f_X12_freeSet_j26 G μ (f_X12_freeSet_L4 G μ g) v1 v2
  else
  f_X12_freeSet_j26 G μ (f_X12_freeSet_L4 G μ g) (v1 ||| (sl (1 : Int32) v2)) v2)))
set_option maxHeartbeats 4000000 in
set_option maxRecDepth 100000 in
theorem f_X12_freeSet_L4_ok  {G : Nat} {μ : Mem} {r : Int32}    : ∀ (g : Nat) (v1 v2 : Int32), f_X12_freeSet_L4 G μ g v1 v2 = some r → Ev RX12 cX12_freeSet 3 (some .int) false 2 0 0 (eqP (some r) shR μ) 4 [some (.ref 0), some (.int v1), some (.int v2)] [] shR μ 0 0 := by
  intro g
  induction g with
  | zero =>
    intro v1 v2 h
    cases h
  | succ g ih =>
    intro v1 v2 h
    rw [f_X12_freeSet_L4] at h
    refine ev_iload_n dX12_freeSet_4 rfl ?_
    refine ev_aload_n dX12_freeSet_5 rfl ?_
    refine ev_getI fr_X12_161 shR_0 rfl dX12_freeSet_6 ?_
    refine ev_icmp_ge (tgt := 32) dX12_freeSet_9 (by decide) (fun hc1 => ?_) (fun hc1 => ?_)
    · replace h := ite_t hc1 h
      refine ev_iload_n dX12_freeSet_32 rfl ?_
      exact ev_iret rfl rfl (by decide) (by decide) dX12_freeSet_33 (eqP_O h)
    · replace h := ite_f hc1 h
      refine ev_aload_n dX12_freeSet_12 rfl ?_
      refine ev_iload_n dX12_freeSet_13 rfl ?_
      obtain ⟨w3, hq2, h⟩ := bndO_t h
      refine ev_cVi mv_X12_384 dX12_freeSet_14 (c_X12_isFree hq2) rfl shR_0 rfl rfl (Nat.le_of_ble_eq_true rfl) (by rfl) (Nat.le_of_ble_eq_true rfl) (Nat.le_of_ble_eq_true rfl) (Nat.le_of_ble_eq_true rfl) ?_
      refine ev_if_eq (tgt := 26) dX12_freeSet_17 (by decide) (fun hc4 => ?_) (fun hc4 => ?_)
      · replace h := ite_t hc4 h
        exact ev_lt (f_X12_freeSet_j26_ok ih h) ⟨rfl, ⟨rfl, ⟨rfl, trivial⟩⟩⟩
      · replace h := ite_f hc4 h
        refine ev_iload_n dX12_freeSet_20 rfl ?_
        refine ev_iconst (v := (1 : Int32)) dX12_freeSet_21 (by decide) ?_
        refine ev_iload_n dX12_freeSet_22 rfl ?_
        refine ev_ishl dX12_freeSet_23 ?_
        refine ev_ior dX12_freeSet_24 ?_
        refine ev_istore_n (loc' := [_, _, _]) dX12_freeSet_25 rfl (by decide) (by rfl) ?_
        exact ev_lt (f_X12_freeSet_j26_ok ih h) ⟨rfl, ⟨rfl, ⟨rfl, trivial⟩⟩⟩
def f_X12_freeSet (G : Nat) (μ : Mem) : Option Int32 :=
  f_X12_freeSet_L4 G μ G (0 : Int32) (0 : Int32)
set_option maxHeartbeats 4000000 in
set_option maxRecDepth 100000 in
theorem c_X12_freeSet  {G : Nat} {μ : Mem}  {r : Int32}  (h : f_X12_freeSet G μ = some r) : Cn yX12_freeSet cX12_freeSet 3 (some .int) 2 0 0 [.ref 0] shR μ (eqP (some r) shR μ) := by
  refine cn_of (own := RX12) (ini := false) (loc := [some (.ref 0), none, none]) rfl (by decide) (fun q => by cases q) (Nat.le_of_ble_eq_true rfl) (by rfl) rfl ?_
  unfold f_X12_freeSet at h
  refine ev_iconst (v := (0 : Int32)) dX12_freeSet_0 (by decide) ?_
  refine ev_istore_n (loc' := [_, _, _]) dX12_freeSet_1 rfl (by decide) (by rfl) ?_
  refine ev_iconst (v := (0 : Int32)) dX12_freeSet_2 (by decide) ?_
  refine ev_istore_n (loc' := [_, _, _]) dX12_freeSet_3 rfl (by decide) (by rfl) ?_
  exact ev_lt (f_X12_freeSet_L4_ok _ _ _ h) ⟨rfl, ⟨rfl, ⟨rfl, trivial⟩⟩⟩
def f_X12_look (G : Nat) (p1 : Int32) (μ : Mem) : Option (Int32 × Mem) :=
  (let m1 := wr μ 0 0 (0 : Int32)
  (if p1 = (0 : Int32) then
  some ((m1 0 6), m1)
  else
  (if p1 = (1 : Int32) then
  some ((m1 0 7), m1)
  else
  (if p1 = (2 : Int32) then
  some ((m1 1 0), m1)
  else
  (if p1 = (3 : Int32) then
  some ((m1 1 3), m1)
  else
  (if p1 = (4 : Int32) then
  some ((m1 1 4), m1)
  else
  (if p1 = (5 : Int32) then
  bndO (f_X12_freeSet G m1) (fun w16 =>
  some (w16, m1))
  else
  (if p1 = (6 : Int32) then
  some ((m1 1 2), m1)
  else
  (if p1 = (7 : Int32) then
  some ((m1 1 1), m1)
  else
  (if p1 = (8 : Int32) then
  some ((m1 12 0), m1)
  else
  (if p1 = (9 : Int32) then
  some ((m1 0 37), m1)
  else
  (if p1 = (10 : Int32) then
  some ((m1 0 39), m1)
  else
  (if p1 = (11 : Int32) then
  some ((m1 0 41), m1)
  else
  (if p1 = (12 : Int32) then
  some ((m1 0 3), m1)
  else
  some ((-10000 : Int32), m1)))))))))))))))
set_option maxHeartbeats 4000000 in
set_option maxRecDepth 100000 in
theorem c_X12_look  {G : Nat} {μ : Mem} {p1 : Int32} {r : Int32} {μr : Mem}  (h : f_X12_look G p1 μ = some (r, μr)) : Cn yX12_look cX12_look 2 (some .int) 3 0 0 [.ref 0, .int p1] shR μ (eqP (some r) shR μr) := by
  refine cn_of (own := RX12) (ini := false) (loc := [some (.ref 0), some (.int p1)]) rfl (by decide) (fun q => by cases q) (Nat.le_of_ble_eq_true rfl) (by rfl) rfl ?_
  unfold f_X12_look at h
  refine ev_aload_n dX12_look_0 rfl ?_
  refine ev_iconst (v := (0 : Int32)) dX12_look_1 (by decide) ?_
  refine ev_putI fr_X12_149 shR_0 rfl rfl rfl dX12_look_2 ?_
  refine ev_iload_n dX12_look_5 rfl ?_
  refine ev_if_ne (tgt := 14) dX12_look_6 (by decide) (fun hc2 => ?_) (fun hc2 => ?_)
  · replace h := ite_f hc2 h
    refine ev_iload_n dX12_look_14 rfl ?_
    refine ev_iconst (v := (1 : Int32)) dX12_look_15 (by decide) ?_
    refine ev_icmp_ne (tgt := 24) dX12_look_16 (by decide) (fun hc3 => ?_) (fun hc3 => ?_)
    · replace h := ite_f hc3 h
      refine ev_iload_n dX12_look_24 rfl ?_
      refine ev_iconst (v := (2 : Int32)) dX12_look_25 (by decide) ?_
      refine ev_icmp_ne (tgt := 36) dX12_look_26 (by decide) (fun hc4 => ?_) (fun hc4 => ?_)
      · replace h := ite_f hc4 h
        refine ev_iload_n dX12_look_36 rfl ?_
        refine ev_iconst (v := (3 : Int32)) dX12_look_37 (by decide) ?_
        refine ev_icmp_ne (tgt := 48) dX12_look_38 (by decide) (fun hc5 => ?_) (fun hc5 => ?_)
        · replace h := ite_f hc5 h
          refine ev_iload_n dX12_look_48 rfl ?_
          refine ev_iconst (v := (4 : Int32)) dX12_look_49 (by decide) ?_
          refine ev_icmp_ne (tgt := 60) dX12_look_50 (by decide) (fun hc6 => ?_) (fun hc6 => ?_)
          · replace h := ite_f hc6 h
            refine ev_iload_n dX12_look_60 rfl ?_
            refine ev_iconst (v := (5 : Int32)) dX12_look_61 (by decide) ?_
            refine ev_icmp_ne (tgt := 70) dX12_look_62 (by decide) (fun hc7 => ?_) (fun hc7 => ?_)
            · replace h := ite_f hc7 h
              refine ev_iload_n dX12_look_70 rfl ?_
              refine ev_bipush (v := (6 : Int32)) dX12_look_71 (by decide) ?_
              refine ev_icmp_ne (tgt := 83) dX12_look_73 (by decide) (fun hc8 => ?_) (fun hc8 => ?_)
              · replace h := ite_f hc8 h
                refine ev_iload_n dX12_look_83 rfl ?_
                refine ev_bipush (v := (7 : Int32)) dX12_look_84 (by decide) ?_
                refine ev_icmp_ne (tgt := 96) dX12_look_86 (by decide) (fun hc9 => ?_) (fun hc9 => ?_)
                · replace h := ite_f hc9 h
                  refine ev_iload_n dX12_look_96 rfl ?_
                  refine ev_bipush (v := (8 : Int32)) dX12_look_97 (by decide) ?_
                  refine ev_icmp_ne (tgt := 109) dX12_look_99 (by decide) (fun hc10 => ?_) (fun hc10 => ?_)
                  · replace h := ite_f hc10 h
                    refine ev_iload_n dX12_look_109 rfl ?_
                    refine ev_bipush (v := (9 : Int32)) dX12_look_110 (by decide) ?_
                    refine ev_icmp_ne (tgt := 120) dX12_look_112 (by decide) (fun hc11 => ?_) (fun hc11 => ?_)
                    · replace h := ite_f hc11 h
                      refine ev_iload_n dX12_look_120 rfl ?_
                      refine ev_bipush (v := (10 : Int32)) dX12_look_121 (by decide) ?_
                      refine ev_icmp_ne (tgt := 131) dX12_look_123 (by decide) (fun hc12 => ?_) (fun hc12 => ?_)
                      · replace h := ite_f hc12 h
                        refine ev_iload_n dX12_look_131 rfl ?_
                        refine ev_bipush (v := (11 : Int32)) dX12_look_132 (by decide) ?_
                        refine ev_icmp_ne (tgt := 142) dX12_look_134 (by decide) (fun hc13 => ?_) (fun hc13 => ?_)
                        · replace h := ite_f hc13 h
                          refine ev_iload_n dX12_look_142 rfl ?_
                          refine ev_bipush (v := (12 : Int32)) dX12_look_143 (by decide) ?_
                          refine ev_icmp_ne (tgt := 155) dX12_look_145 (by decide) (fun hc14 => ?_) (fun hc14 => ?_)
                          · replace h := ite_f hc14 h
                            refine ev_sipush (v := (-10000 : Int32)) dX12_look_155 (by decide) ?_
                            exact ev_iret rfl rfl (by decide) (by decide) dX12_look_158 (eqP_E h)
                          · replace h := ite_t hc14 h
                            refine ev_aload_n dX12_look_148 rfl ?_
                            refine ev_getI fr_X12_152 shR_0 rfl dX12_look_149 ?_
                            refine ev_goto (tgt := 158) dX12_look_152 (by decide) ?_
                            exact ev_iret rfl rfl (by decide) (by decide) dX12_look_158 (eqP_E h)
                        · replace h := ite_t hc13 h
                          refine ev_aload_n dX12_look_137 rfl ?_
                          refine ev_getI fr_X12_314 shR_0 rfl dX12_look_138 ?_
                          exact ev_iret rfl rfl (by decide) (by decide) dX12_look_141 (eqP_E h)
                      · replace h := ite_t hc12 h
                        refine ev_aload_n dX12_look_126 rfl ?_
                        refine ev_getI fr_X12_320 shR_0 rfl dX12_look_127 ?_
                        exact ev_iret rfl rfl (by decide) (by decide) dX12_look_130 (eqP_E h)
                    · replace h := ite_t hc11 h
                      refine ev_aload_n dX12_look_115 rfl ?_
                      refine ev_getI fr_X12_317 shR_0 rfl dX12_look_116 ?_
                      exact ev_iret rfl rfl (by decide) (by decide) dX12_look_119 (eqP_E h)
                  · replace h := ite_t hc10 h
                    refine ev_aload_n dX12_look_102 rfl ?_
                    refine ev_getR fr_X12_43 shR_0 rfl dX12_look_103 ?_
                    refine ev_iconst (v := (0 : Int32)) dX12_look_106 (by decide) ?_
                    refine ev_ialdL (j := 0) shR_12 (by decide) (vpl _ _ (by decide)) dX12_look_107 ?_
                    exact ev_iret rfl rfl (by decide) (by decide) dX12_look_108 (eqP_E h)
                · replace h := ite_t hc9 h
                  refine ev_aload_n dX12_look_89 rfl ?_
                  refine ev_getR fr_X12_7 shR_0 rfl dX12_look_90 ?_
                  refine ev_iconst (v := (1 : Int32)) dX12_look_93 (by decide) ?_
                  refine ev_ialdL (j := 1) shR_1 (by decide) (vpl _ _ (by decide)) dX12_look_94 ?_
                  exact ev_iret rfl rfl (by decide) (by decide) dX12_look_95 (eqP_E h)
              · replace h := ite_t hc8 h
                refine ev_aload_n dX12_look_76 rfl ?_
                refine ev_getR fr_X12_7 shR_0 rfl dX12_look_77 ?_
                refine ev_iconst (v := (2 : Int32)) dX12_look_80 (by decide) ?_
                refine ev_ialdL (j := 2) shR_1 (by decide) (vpl _ _ (by decide)) dX12_look_81 ?_
                exact ev_iret rfl rfl (by decide) (by decide) dX12_look_82 (eqP_E h)
            · replace h := ite_t hc7 h
              refine ev_aload_n dX12_look_65 rfl ?_
              obtain ⟨w16, hq15, h⟩ := bndO_t h
              refine ev_cVi mv_X12_555 dX12_look_66 (c_X12_freeSet hq15) rfl shR_0 rfl rfl (Nat.le_of_ble_eq_true rfl) (by rfl) (Nat.le_of_ble_eq_true rfl) (Nat.le_of_ble_eq_true rfl) (Nat.le_of_ble_eq_true rfl) ?_
              exact ev_iret rfl rfl (by decide) (by decide) dX12_look_69 (eqP_E h)
          · replace h := ite_t hc6 h
            refine ev_aload_n dX12_look_53 rfl ?_
            refine ev_getR fr_X12_7 shR_0 rfl dX12_look_54 ?_
            refine ev_iconst (v := (4 : Int32)) dX12_look_57 (by decide) ?_
            refine ev_ialdL (j := 4) shR_1 (by decide) (vpl _ _ (by decide)) dX12_look_58 ?_
            exact ev_iret rfl rfl (by decide) (by decide) dX12_look_59 (eqP_E h)
        · replace h := ite_t hc5 h
          refine ev_aload_n dX12_look_41 rfl ?_
          refine ev_getR fr_X12_7 shR_0 rfl dX12_look_42 ?_
          refine ev_iconst (v := (3 : Int32)) dX12_look_45 (by decide) ?_
          refine ev_ialdL (j := 3) shR_1 (by decide) (vpl _ _ (by decide)) dX12_look_46 ?_
          exact ev_iret rfl rfl (by decide) (by decide) dX12_look_47 (eqP_E h)
      · replace h := ite_t hc4 h
        refine ev_aload_n dX12_look_29 rfl ?_
        refine ev_getR fr_X12_7 shR_0 rfl dX12_look_30 ?_
        refine ev_iconst (v := (0 : Int32)) dX12_look_33 (by decide) ?_
        refine ev_ialdL (j := 0) shR_1 (by decide) (vpl _ _ (by decide)) dX12_look_34 ?_
        exact ev_iret rfl rfl (by decide) (by decide) dX12_look_35 (eqP_E h)
    · replace h := ite_t hc3 h
      refine ev_aload_n dX12_look_19 rfl ?_
      refine ev_getI fr_X12_164 shR_0 rfl dX12_look_20 ?_
      exact ev_iret rfl rfl (by decide) (by decide) dX12_look_23 (eqP_E h)
  · replace h := ite_t hc2 h
    refine ev_aload_n dX12_look_9 rfl ?_
    refine ev_getI fr_X12_161 shR_0 rfl dX12_look_10 ?_
    exact ev_iret rfl rfl (by decide) (by decide) dX12_look_13 (eqP_E h)
end
