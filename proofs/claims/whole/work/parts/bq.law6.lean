section
theorem pastG_F : pastG 54 = pastF := by
  funext k
  match k with
  | 0 => rfl
  | 1 => rfl
  | 2 => rfl
  | 3 => rfl
  | 4 => rfl
  | 5 => rfl
  | k + 6 =>
    unfold pastG pastF va_up
    rw [show ix (0 : Int32) = 0 by decide, show ix ((0 : Int32) + (1 : Int32)) = 1 by decide, show ix (((0 : Int32) + (1 : Int32)) + (1 : Int32)) = 2 by decide, show ix ((((0 : Int32) + (1 : Int32)) + (1 : Int32)) + (1 : Int32)) = 3 by decide, show ix (((((0 : Int32) + (1 : Int32)) + (1 : Int32)) + (1 : Int32)) + (1 : Int32)) = 4 by decide, show ix ((((((0 : Int32) + (1 : Int32)) + (1 : Int32)) + (1 : Int32)) + (1 : Int32)) + (1 : Int32)) = 5 by decide]
    simp
theorem shC_new : [] ++ full_X11 0 = shC false :=
  Eq.trans (show [] ++ full_X11 0 = (shC false).set 55 (.inr (.inl (6, pastG 54))) from rfl) (by rw [pastG_F]; rfl)
theorem shR_new : [] ++ full_X12 0 = shR := rfl
theorem w12 : wfS (([] : List Shp) ++ [.inr (.inr (10, [none, some none, some none, none, some none, none, none, none, some none, some none, some none, some none, some none, some none, some none, none, none, none, none, none, some none, some none, some none, some none, some none, some none, some none, some none, none, none, none, some none, none, none, none, none, none, none, some none, none, some none, none, some none, some none, some none, some none, some none, none, some none, some none, some none, none, some none, some none, some none, none, some none, none, some none, some none, none, some none, some none, some none, none, some none, some none, some none, none, some none, some none, some none, none, none, none, some none]))]) := by
  intro c hc
  rw [List.mem_singleton.mp hc]
  intro b hb
  simp at hb
set_option maxHeartbeats 16000000 in
/-- THE LAW, from its entry -/
theorem whole_start {p : Program} {e : Env} {s : State} {m : MethodId} {below : List Frame} {meth : Method} {c : Code} (l : Launch) (hflags : l.flags = flags0) {b L : Nat} {xs : Nat → Int32} (hL : L ≤ 3072) (C0 : lw_At p s m meth c b L xs) : W p l e room_1 s m #[Value.ref b] below meth c s.heap [] 0 0 (lw_Z below #[Value.ref b] s) (entryFrame m ([Value.ref b] : List Value).toArray 4) := by
  obtain ⟨D, cI, cS, tt, X⟩ := lx_of C0
  obtain ⟨x1, x2, x3, x4, x5, x6, x7, x8, x9, x10, x11, x12⟩ := id X
  have hS : va_S (LA s) s.heap s.heap [] := va_S.rf
  have hP : va_P D vwCl [] s.heap := fun k q h => by simp at h
  have hD : va_D (LA s) [] := ⟨fun i j p q h => by simp at h, fun k q h => by simp at h⟩
  have hl := lv_entry ([.ref b]) (n := 4) (Nat.le_of_ble_eq_true rfl)
  rw [lg_entry_eq]
  generalize (lg_sl ([.ref b]) ++ List.replicate (4 - (lg_sl ([.ref b])).length) Slot.unset).toArray = ls at hl ⊢
  have hl : lv_has ls 4 [(0, .ref b)] := hl
  obtain ⟨μ, ρ, i1, i2, hR⟩ := ar_first (G := 10000) (m := fun _ _ => 0) (n := fun _ _ => 0) (by decide)
  refine law_new X cr_L_7 hP hD hS (Nat.le_of_ble_eq_true rfl) (Nat.le_of_ble_eq_true rfl) dL_law_0 (fun q1 H hP1 hD1 _ hdj hS => ?_)
  refine lv_dup x1 x2 dL_law_3 rfl ?_
  have w1 : wfS (([] : List Shp) ++ [.inr (.inr (9, [some none, some none, some none, some none, some none, some none, some none, some none]))]) := by
    intro c hc
    rw [List.mem_singleton.mp hc]
    intro b hb
    simp at hb
  refine law_callI (ad := fun _ => q1) X hP1 hD1 (W2 := []) (fun k q h => by simp at h) hdj hS hl.1 mv_L_9 (c_X11_init (pre := []) (a := 0) rfl w1 i1) dL_law_4 (Nat.le_of_ble_eq_true rfl) (by decide) (Nat.le_of_ble_eq_true rfl) (Nat.le_of_ble_eq_true rfl) (fun v sh' μ' ad1 H locs hp had hP1 hD1 _ _ hS => ?_)
  obtain ⟨rfl, rfl, rfl, -⟩ := hp
  rw [shC_new] at hP1 hD1
  have e1 : q1 = ad1 0 := (had 0 (by decide)).symm
  rw [e1]
  refine lv_astore_n (lv' := [(1, .ref (ad1 0)), (0, .ref b)]) x1 x2 dL_law_7 rfl hl (by decide) rfl (fun ls hl => ?_)
  refine law_new X cr_L_10 hP1 hD1 hS (Nat.le_of_ble_eq_true rfl) (Nat.le_of_ble_eq_true rfl) dL_law_8 (fun q2 H hP2 hD2 hP1 hdj hS => ?_)
  refine lv_dup x1 x2 dL_law_11 rfl ?_
  refine law_callI (ad := fun _ => q2) X hP2 hD2 hP1 hdj hS hl.1 mv_L_12 (c_X12_init (pre := []) (a := 0) rfl w12 i2) dL_law_12 (Nat.le_of_ble_eq_true rfl) (by decide) (Nat.le_of_ble_eq_true rfl) (Nat.le_of_ble_eq_true rfl) (fun v sh' μ' ad2 H locs hp had hP2 hD2 hP1 hdj hS => ?_)
  obtain ⟨rfl, rfl, rfl, -⟩ := hp
  rw [shR_new] at hP2 hD2 hdj
  have e2 : q2 = ad2 0 := (had 0 (by decide)).symm
  rw [e2]
  refine lv_astore_n (lv' := [(2, .ref (ad2 0)), (1, .ref (ad1 0)), (0, .ref b)]) x1 x2 dL_law_15 rfl hl (by decide) rfl (fun ls hl => ?_)
  refine lv_iconst (v := 0) x1 x2 dL_law_16 (by decide) ?_
  refine lv_istore_n (lv' := [(3, .int 0), (2, .ref (ad2 0)), (1, .ref (ad1 0)), (0, .ref b)]) x1 x2 dL_law_17 rfl hl (by decide) rfl (fun ls hl => ?_)
  exact law_loop X hL 514 0 _ _ (by omega) (by omega) (by decide) (by decide) false _ _ ad1 ad2 H locs ls hR hP1 hD1 hP2 hD2 hdj.symm hS (lv_sub hl [3, 2, 1, 0] rfl)
end
