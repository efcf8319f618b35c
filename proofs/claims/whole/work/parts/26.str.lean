section
/-! the one text: its length and its chars, by the JDK's own methods -/
variable {own : String} {cc : ByteArray} {nL : Nat} {ret : Option FieldType} {ini : Bool} {d mc ms : Nat} {post : Option Int32 → List Shp → Mem → Prop} {pc : Nat} {loc : List (Option Value)} {stk : List Value} {sh : List Shp} {μ μr : Mem} {nc ns : Nat}
theorem ev_ldcK (ho : own = RX5) (hdq : decode cc pc = .ok (.ldc 115, 2)) (kk : Ev own cc nL ret ini d mc ms post (pc + 2) loc (.long 2 :: stk) sh μ nc ns) : Ev own cc nL ret ini d mc ms post pc loc stk sh μ nc ns := by
  intro p l e R s m args below meth c D cI cS A ad0 n0 tt C ad H locs ls h1 h2 hP hD hS hl
  subst ho
  exact va_ldcS C.1 C.2.1 C.2.2.2.2.1 C.2.2.2.2.2.2.2.2.2.2.2.1.2.2 hdq (kk p l e R s m args below meth c D cI cS A ad0 n0 tt C ad H locs ls h1 h2 hP hD hS hl)
theorem ev_getVal {idx : Nat} (hf : Cond.fieldLink own idx RJ0 "value" "[B" ∈ TBL) (hdq : decode cc pc = .ok (.getfield idx, 3)) (kk : Ev own cc nL ret ini d mc ms post (pc + 3) loc (.long 3 :: stk) sh μ nc ns) : Ev own cc nL ret ini d mc ms post pc loc (.long 2 :: stk) sh μ nc ns := by
  intro p l e R s m args below meth c D cI cS A ad0 n0 tt C ad H locs ls h1 h2 hP hD hS hl
  exact vk_getf C.1 C.2.1 ((C.2.2.2.2.2.2.2.2.2.2.2.2.2.2.1.1 0 (by decide)).2.2.1) hS C.2.2.2.2.1 (C.2.2.2.2.2.1 _ hf) (fun _ h => h) hdq (kk p l e R s m args below meth c D cI cS A ad0 n0 tt C ad H locs ls h1 h2 hP hD hS hl)
theorem ev_getCod {idx : Nat} (hf : Cond.fieldLink own idx RJ0 "coder" "B" ∈ TBL) (hdq : decode cc pc = .ok (.getfield idx, 3)) (kk : Ev own cc nL ret ini d mc ms post (pc + 3) loc (.int 0 :: stk) sh μ nc ns) : Ev own cc nL ret ini d mc ms post pc loc (.long 2 :: stk) sh μ nc ns := by
  intro p l e R s m args below meth c D cI cS A ad0 n0 tt C ad H locs ls h1 h2 hP hD hS hl
  exact vk_getf C.1 C.2.1 ((C.2.2.2.2.2.2.2.2.2.2.2.2.2.2.1.1 0 (by decide)).2.1) hS C.2.2.2.2.1 (C.2.2.2.2.2.1 _ hf) (fun _ h => h) hdq (kk p l e R s m args below meth c D cI cS A ad0 n0 tt C ad H locs ls h1 h2 hP hD hS hl)
theorem ev_alenK (hdq : decode cc pc = .ok (.arraylength, 1)) (kk : Ev own cc nL ret ini d mc ms post (pc + 1) loc (.int 131 :: stk) sh μ nc ns) : Ev own cc nL ret ini d mc ms post pc loc (.long 3 :: stk) sh μ nc ns := by
  intro p l e R s m args below meth c D cI cS A ad0 n0 tt C ad H locs ls h1 h2 hP hD hS hl
  exact va_tlen C.1 C.2.1 ((C.2.2.2.2.2.2.2.2.2.2.2.2.2.2.1.1 0 (by decide)).2.2.2) hS rfl hdq (kk p l e R s m args below meth c D cI cS A ad0 n0 tt C ad H locs ls h1 h2 hP hD hS hl)
theorem ev_baldK {i : Int32} (hin : vp_in i 131) (hdq : decode cc pc = .ok (.baload, 1)) (kk : Ev own cc nL ret ini d mc ms post (pc + 1) loc (.int (keyB.getD (ix i) 0) :: stk) sh μ nc ns) : Ev own cc nL ret ini d mc ms post pc loc (.int i :: .long 3 :: stk) sh μ nc ns := by
  intro p l e R s m args below meth c D cI cS A ad0 n0 tt C ad H locs ls h1 h2 hP hD hS hl
  exact va_tb C.1 C.2.1 ((C.2.2.2.2.2.2.2.2.2.2.2.2.2.2.1.1 0 (by decide)).2.2.2) hS hin rfl hdq (kk p l e R s m args below meth c D cI cS A ad0 n0 tt C ad H locs ls h1 h2 hP hD hS hl)
theorem ev_getsZ {idx : Nat} (hf : Cond.fieldLink own idx RJ0 "COMPACT_STRINGS" "Z" ∈ TBL) (hdq : decode cc pc = .ok (.getstatic idx, 3)) (kk : Ev own cc nL ret ini d mc ms post (pc + 3) loc (.int 1 :: stk) sh μ nc ns) : Ev own cc nL ret ini d mc ms post pc loc stk sh μ nc ns := by
  intro p l e R s m args below meth c D cI cS A ad0 n0 tt C ad H locs ls h1 h2 hP hD hS hl
  exact va_gets C.1 C.2.1 C.2.2.2.2.2.2.2.2.2.2.2.2.2.2.2.1 hS C.2.2.2.2.1 (C.2.2.2.2.2.1 _ hf) (fun _ h => h) hdq (kk p l e R s m args below meth c D cI cS A ad0 n0 tt C ad H locs ls h1 h2 hP hD hS hl)
theorem ev_getsQ {idx : Nat} (hf : Cond.fieldLink own idx RJ3 "SIOOBE_FORMATTER" "Ljava/util/function/BiFunction;" ∈ TBL) (hdq : decode cc pc = .ok (.getstatic idx, 3)) (kk : ∀ x : Value, okV x = true → Ev own cc nL ret ini d mc ms post (pc + 3) loc (x :: stk) sh μ nc ns) : Ev own cc nL ret ini d mc ms post pc loc stk sh μ nc ns := by
  intro p l e R s m args below meth c D cI cS A ad0 n0 tt C ad H locs ls h1 h2 hP hD hS hl
  rcases C.2.2.2.2.2.2.2.2.2.2.2.2.2.2.2.2 with g | g
  · exact va_gets C.1 C.2.1 g hS C.2.2.2.2.1 (C.2.2.2.2.2.1 _ hf) (fun _ h => h) hdq (kk .null rfl p l e R s m args below meth c D cI cS A ad0 n0 tt C ad H locs ls h1 h2 hP hD hS hl)
  · exact va_gets C.1 C.2.1 g hS C.2.2.2.2.1 (C.2.2.2.2.2.1 _ hf) (fun _ h => h) hdq (kk (.long 4) rfl p l e R s m args below meth c D cI cS A ad0 n0 tt C ad H locs ls h1 h2 hP hD hS hl)
variable {y : MethodName} {cy : ByteArray} {ny : Nat} {ry : Option FieldType} {n idx dq : Nat} {as : List Value} {st0 : List Value} {rr : Int32}
/-- a call of a method of the text -/
theorem ev_cKi (hm : MRV own idx y cy ny ry n) (hyc : y.cls = RJ0) (hdq : decode cc pc = .ok (.invokevirtual idx, 3)) (hc : Cn y cy ny ry dq 0 0 (.long 2 :: as) sh μ (eqP (some rr) sh μr)) (hst : as.reverse ++ .long 2 :: stk = st0) (hn : as.length = n) (hk : stk.length ≤ 8) (hok : stk.all okV = true) (hdd : dq + 1 ≤ d) (hcc : nc ≤ mc) (hss : ns ≤ ms)
    (kk : Ev own cc nL ret ini d mc ms post (pc + 3) loc (.int rr :: stk) sh μr nc ns) : Ev own cc nL ret ini d mc ms post pc loc st0 sh μ nc ns := by
  intro p l e R s m args below meth c D cI cS A ad0 n0 tt C ad H locs ls h1 h2 hP hD hS hl
  subst hst
  have hR : R = rmK d mc ms := C.2.2.2.2.2.2.2.2.1
  obtain ⟨⟨k1, k2, k3, k4⟩, k5, k6, k7⟩ := hm
  have hts := C.2.2.2.2.2.1
  refine ev_after (post' := eqP (some rr) sh μr) (mc' := 0) (ms' := 0) (a := (Value.ref (tt 2) :: as.map (vmp ad tt)).toArray) C h1 h2 hD hS hl (fun _ _ _ g => Or.inl (by rw [g.2.1])) ?_ (fun v sh' μ' g => by obtain ⟨rfl, rfl, rfl⟩ := g; exact kk)
  refine va_runV (As := as.map (vmp ad tt)) (C := y.cls) (b := tt 2) (nL := nL) (n := n) (Ts := TBL) (bytes := cy) (maxL := ny) (ret := ry) (own := own) (index := idx) ⟨C.1, C.2.1, C.2.2.2.1, C.2.2.2.2.1, hts⟩ (hc l D cI cS ad tt H.size) ⟨callB_of n hts (good_tbl k1) rfl rfl rfl (hts _ k2) (hts _ k5) k3 ⟨by rw [hR]; exact hdd, by rw [hR]; show 8 + (ny + 11) + 64 * dq ≤ 64 * d; omega⟩, hts _ k6, hts _ k7⟩ ⟨PU_blind, ?_, ?_⟩ rfl (by simpa using hn) hl.1 ?_ (lv_room (sum_cat hk hok)) hdq (by rw [hR]; exact ⟨hcc, hss⟩)
  · rw [hyc]
    exact vk_recv (i := 0) C.2.2.2.2.2.2.2.2.2.2.2.2.2.2.1 (by decide) hS
  · exact pu_of C hP hD hS (as := .long 2 :: as)
  · simp [vmp]
set_option maxHeartbeats 4000000 in
theorem c_J0_coder {sh : List Shp} {μ : Mem} : Cn yJ0_coder_7d493 cJ0_coder_7d493 1 (some .byte) 1 0 0 [.long 2] sh μ (eqP (some 0) sh μ) := by
  refine cn_of (own := RJ0) (ini := false) (loc := [some (.long 2)]) rfl (by decide) (fun q => by cases q) (Nat.le_of_ble_eq_true rfl) (by rfl) rfl ?_
  refine ev_getsZ fl_J0_38 dJ0_coder_7d493_0 ?_
  refine ev_if_eq (tgt := 13) dJ0_coder_7d493_3 (by decide) (fun g => absurd g (by decide)) (fun _ => ?_)
  refine ev_aloadS_n dJ0_coder_7d493_6 rfl ?_
  refine ev_getCod fl_J0_15 dJ0_coder_7d493_7 ?_
  refine ev_goto (tgt := 14) dJ0_coder_7d493_10 (by decide) ?_
  exact ev_iret rfl rfl (Nat.le_refl _) (Nat.le_refl _) dJ0_coder_7d493_14 (eqP_P rfl)
set_option maxHeartbeats 4000000 in
theorem c_J0_isLatin1 {sh : List Shp} {μ : Mem} : Cn yJ0_isLatin1_aae02 cJ0_isLatin1_aae02 1 (some .boolean) 1 0 0 [.long 2] sh μ (eqP (some 1) sh μ) := by
  refine cn_of (own := RJ0) (ini := false) (loc := [some (.long 2)]) rfl (by decide) (fun q => by cases q) (Nat.le_of_ble_eq_true rfl) (by rfl) rfl ?_
  refine ev_getsZ fl_J0_38 dJ0_isLatin1_aae02_0 ?_
  refine ev_if_eq (tgt := 17) dJ0_isLatin1_aae02_3 (by decide) (fun g => absurd g (by decide)) (fun _ => ?_)
  refine ev_aloadS_n dJ0_isLatin1_aae02_6 rfl ?_
  refine ev_getCod fl_J0_15 dJ0_isLatin1_aae02_7 ?_
  refine ev_if_ne (tgt := 17) dJ0_isLatin1_aae02_10 (by decide) (fun g => absurd rfl g) (fun _ => ?_)
  refine ev_iconst (v := 1) dJ0_isLatin1_aae02_13 (by decide) ?_
  refine ev_goto (tgt := 18) dJ0_isLatin1_aae02_14 (by decide) ?_
  exact ev_iret rfl rfl (Nat.le_refl _) (Nat.le_refl _) dJ0_isLatin1_aae02_18 (eqP_P rfl)
set_option maxHeartbeats 4000000 in
theorem c_J0_length {sh : List Shp} {μ : Mem} : Cn yJ0_length_8abf5 cJ0_length_8abf5 1 (some .int) 2 0 0 [.long 2] sh μ (eqP (some 131) sh μ) := by
  refine cn_of (own := RJ0) (ini := false) (loc := [some (.long 2)]) rfl (by decide) (fun q => by cases q) (Nat.le_of_ble_eq_true rfl) (by rfl) rfl ?_
  refine ev_aloadS_n dJ0_length_8abf5_0 rfl ?_
  refine ev_getVal fl_J0_9 dJ0_length_8abf5_1 ?_
  refine ev_alenK dJ0_length_8abf5_4 ?_
  refine ev_aloadS_n dJ0_length_8abf5_5 rfl ?_
  refine ev_cKi mv_J0_335 rfl dJ0_length_8abf5_6 c_J0_coder rfl rfl (Nat.le_of_ble_eq_true rfl) (by rfl) (Nat.le_of_ble_eq_true rfl) (Nat.le_refl _) (Nat.le_refl _) ?_
  refine ev_ishr dJ0_length_8abf5_9 ?_
  exact ev_iret rfl rfl (Nat.le_refl _) (Nat.le_refl _) dJ0_length_8abf5_10 (eqP_P (by decide))
set_option maxHeartbeats 4000000 in
theorem c_J3_checkIndex {sh : List Shp} {μ : Mem} {i k : Int32} {x : Value} (hx : okV x = true) (g1 : ¬ i < 0) (g2 : i < k) : Cn yJ3_checkIndex_8e157 cJ3_checkIndex_8e157 3 (some .int) 1 0 0 [.int i, .int k, x] sh μ (eqP (some i) sh μ) := by
  refine cn_of (own := RJ3) (ini := false) (loc := [some (.int i), some (.int k), some x]) rfl (by decide) (fun q => by cases q) (Nat.le_of_ble_eq_true rfl) (by simp only [List.all_cons, List.all_nil, hx]; rfl) rfl ?_
  refine ev_iload_n dJ3_checkIndex_8e157_0 rfl ?_
  refine ev_if_lt (tgt := 9) dJ3_checkIndex_8e157_1 (by decide) (fun g => absurd g g1) (fun _ => ?_)
  refine ev_iload_n dJ3_checkIndex_8e157_4 rfl ?_
  refine ev_iload_n dJ3_checkIndex_8e157_5 rfl ?_
  refine ev_icmp_lt (tgt := 16) dJ3_checkIndex_8e157_6 (by decide) (fun _ => ?_) (fun g => absurd g2 g)
  refine ev_iload_n dJ3_checkIndex_8e157_16 rfl ?_
  exact ev_iret rfl rfl (Nat.le_refl _) (Nat.le_refl _) dJ3_checkIndex_8e157_17 (eqP_P rfl)
set_option maxHeartbeats 4000000 in
theorem c_J0_checkIndex {sh : List Shp} {μ : Mem} {i k : Int32} (g1 : ¬ i < 0) (g2 : i < k) : Cn yJ0_checkIndex_df160 cJ0_checkIndex_df160 2 none 2 0 0 [.int i, .int k] sh μ (eqP none sh μ) := by
  refine cn_of (own := RJ0) (ini := false) (loc := [some (.int i), some (.int k)]) rfl (by decide) (fun q => by cases q) (Nat.le_of_ble_eq_true rfl) (by rfl) rfl ?_
  refine ev_iload_n dJ0_checkIndex_df160_0 rfl ?_
  refine ev_iload_n dJ0_checkIndex_df160_1 rfl ?_
  refine ev_getsQ fl_J0_1053 dJ0_checkIndex_df160_2 (fun x hx => ?_)
  refine ev_cSi mv_J0_1059 dJ0_checkIndex_df160_5 (c_J3_checkIndex hx g1 g2) rfl rfl (Nat.le_of_ble_eq_true rfl) (by rfl) (Nat.le_of_ble_eq_true rfl) (Nat.le_refl _) (Nat.le_refl _) ?_
  refine ev_pop dJ0_checkIndex_df160_8 (by rfl) ?_
  exact ev_vret rfl (Nat.le_refl _) (Nat.le_refl _) dJ0_checkIndex_df160_9 ⟨rfl, rfl, rfl⟩
/-- the char at i -/
def keyC (i : Nat) : Int32 := keyB.getD i 0
theorem keyC_nar : ∀ j, j < 131 → ((keyB.getD j 0 &&& 255).toUInt32 % 65536).toInt32 = keyC j ∧ narrow .char (.int (keyC j)) = .int (keyC j) := by decide +kernel
set_option maxHeartbeats 4000000 in
theorem c_J1_charAt {sh : List Shp} {μ : Mem} {i : Int32} (g : vp_in i 131) : Cn yJ1_charAt_3b067 cJ1_charAt_3b067 2 (some .char) 3 0 0 [.long 3, .int i] sh μ (eqP (some (keyC (ix i))) sh μ) := by
  have hlt : ix i < 131 := Nat.not_le.mp fun q => g (Or.inr q)
  have g1 : ¬ i < 0 := fun q => g (Or.inl q)
  have g2 : i < 131 := by
    have h0 := (vp_in_iff.mp g).2
    rw [Int32.lt_iff_toInt_lt]
    exact h0
  refine cn_of (own := RJ1) (ini := false) (loc := [some (.long 3), some (.int i)]) rfl (by decide) (fun q => by cases q) (Nat.le_of_ble_eq_true rfl) (by rfl) rfl ?_
  refine ev_iload_n dJ1_charAt_3b067_0 rfl ?_
  refine ev_aloadS_n dJ1_charAt_3b067_1 rfl ?_
  refine ev_alenK dJ1_charAt_3b067_2 ?_
  refine ev_cSv mv_J1_9 dJ1_charAt_3b067_3 (c_J0_checkIndex g1 g2) rfl rfl (Nat.le_of_ble_eq_true rfl) (by rfl) (Nat.le_of_ble_eq_true rfl) (Nat.le_refl _) (Nat.le_refl _) ?_
  refine ev_aloadS_n dJ1_charAt_3b067_6 rfl ?_
  refine ev_iload_n dJ1_charAt_3b067_7 rfl ?_
  refine ev_baldK g dJ1_charAt_3b067_8 ?_
  refine ev_sipush (v := 255) dJ1_charAt_3b067_9 (by decide) ?_
  refine ev_iand dJ1_charAt_3b067_12 ?_
  refine ev_i2c dJ1_charAt_3b067_13 (keyC_nar _ hlt).1 ?_
  exact ev_iret rfl (keyC_nar _ hlt).2 (Nat.le_refl _) (Nat.le_refl _) dJ1_charAt_3b067_14 (eqP_P rfl)
set_option maxHeartbeats 4000000 in
theorem c_J0_charAt {sh : List Shp} {μ : Mem} {i : Int32} (g : vp_in i 131) : Cn yJ0_charAt_5068e cJ0_charAt_5068e 2 (some .char) 4 0 0 [.long 2, .int i] sh μ (eqP (some (keyC (ix i))) sh μ) := by
  have hlt : ix i < 131 := Nat.not_le.mp fun q => g (Or.inr q)
  refine cn_of (own := RJ0) (ini := false) (loc := [some (.long 2), some (.int i)]) rfl (by decide) (fun q => by cases q) (Nat.le_of_ble_eq_true rfl) (by rfl) rfl ?_
  refine ev_aloadS_n dJ0_charAt_5068e_0 rfl ?_
  refine ev_cKi mv_J0_492 rfl dJ0_charAt_5068e_1 c_J0_isLatin1 rfl rfl (Nat.le_of_ble_eq_true rfl) (by rfl) (Nat.le_of_ble_eq_true rfl) (Nat.le_refl _) (Nat.le_refl _) ?_
  refine ev_if_eq (tgt := 16) dJ0_charAt_5068e_4 (by decide) (fun q => absurd q (by decide)) (fun _ => ?_)
  refine ev_aloadS_n dJ0_charAt_5068e_7 rfl ?_
  refine ev_getVal fl_J0_9 dJ0_charAt_5068e_8 ?_
  refine ev_iload_n dJ0_charAt_5068e_11 rfl ?_
  refine ev_cSi mv_J0_495 dJ0_charAt_5068e_12 (c_J1_charAt g) rfl rfl (Nat.le_of_ble_eq_true rfl) (by rfl) (Nat.le_of_ble_eq_true rfl) (Nat.le_refl _) (Nat.le_refl _) ?_
  exact ev_iret rfl (keyC_nar _ hlt).2 (Nat.le_refl _) (Nat.le_refl _) dJ0_charAt_5068e_15 (eqP_P rfl)
end
