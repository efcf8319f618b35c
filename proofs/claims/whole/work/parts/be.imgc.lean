section
def f_X11_image (G : Nat) (bb : Bool) (p : Int32) (μ : Mem) : Option (Int32 × Mem) :=
  if p = 0 then (if bb = true then bndV (f_X0_copyFrom G 1 112 μ) (fun m1 => bndV (f_X3_forget G m1) (fun m2 => bndV (f_X4_forget G m2) (fun m3 => some ((1 : Int32), m3)))) else some ((0 : Int32), μ))
  else (if bb = true then bndV (f_X0_copyFrom G 112 1 μ) (fun m1 => some ((1 : Int32), m1))
  else bndV (f_X0_init G 112 (zr μ 112)) (fun m1 => bndV (f_X0_copyFrom G 112 1 m1) (fun m2 => some ((1 : Int32), m2))))
set_option maxRecDepth 100000 in
theorem wf_shC : wfS (shC false) := by
  show ∀ c ∈ shC false, wfC 112 c
  unfold shC
  refine List.forall_mem_append.mpr ⟨?_, fun c hc => ?_⟩
  · repeat' (refine List.forall_mem_cons.mpr ⟨?_, ?_⟩)
    all_goals first
      | trivial
      | (intro b hb; simp [keptF] at hb; omega)
      | (intro k b hb; simp only [pastF] at hb; split at hb; (cases hb; omega); cases hb)
      | (intro b hb; cases hb)
  · cases hc
set_option maxHeartbeats 4000000 in
set_option maxRecDepth 100000 in
theorem c_X11_image_n {G : Nat} {μ μr : Mem} {r p : Int32} (hp : ¬ p = 0) (h : f_X11_image G false p μ = some (r, μr)) : Cn yX11_image cX11_image 2 (some .boolean) 5 40 1544 [.ref 0, .int p] (shC false) μ (eqP (some r) (shC true) μr) := by
  refine cn_of (own := RX11) (ini := false) (loc := [some (.ref 0), some (.int p)]) rfl (by decide) (fun q => by cases q) (Nat.le_of_ble_eq_true rfl) (by rfl) rfl ?_
  unfold f_X11_image at h
  replace h := ite_f hp h
  replace h := ite_f (by decide) h
  obtain ⟨m1, hq, h⟩ := bndV_t h
  obtain ⟨m2, hq2, h⟩ := bndV_t h
  refine ev_iload_n dX11_image_0 rfl ?_
  refine ev_if_eq (tgt := 35) dX11_image_1 (by decide) (fun hc => absurd hc hp) (fun _ => ?_)
  refine ev_aload_n dX11_image_4 rfl ?_
  refine ev_getN fr_X11_60 shC_0 rfl dX11_image_5 ?_
  refine ev_nonnullN dX11_image_8 ?_
  refine ev_aload_n dX11_image_11 rfl ?_
  rw [← List.append_nil (shC false)]
  refine ev_newT (q := 112) (L' := [_]) cr_X11_9 dX11_image_12 rfl rfl (by rw [List.append_nil]; exact wf_shC) (okR_of (by simp only [okRl, List.length_cons, List.length_nil, and_true, Nat.lt_eq]; first | done | omega) (by simp only [okRs, List.length_cons, List.length_nil, and_true, Nat.lt_eq]; first | done | omega)) (Nat.le_of_ble_eq_true rfl) (Nat.le_of_ble_eq_true rfl) (fun hw => ?_)
  refine ev_dup dX11_image_15 (by rfl) ?_
  refine ev_cIN (L := []) (L' := full_X0 112) mv_X11_11 dX11_image_16 (c_X0_init (by rw [List.append_nil]; rfl) (by rw [List.append_assoc]; exact hw) hq) rfl rfl rfl rfl (Nat.le_of_ble_eq_true rfl) (by rfl) (Nat.le_of_ble_eq_true rfl) (Nat.le_of_ble_eq_true rfl) (Nat.le_of_ble_eq_true rfl) (okR_of (by simp only [okRl, List.length_cons, List.length_nil, and_true, Nat.lt_eq]; first | done | omega) (by simp only [okRs, List.length_cons, List.length_nil, and_true, Nat.lt_eq]; first | done | decide)) (fun hw => ?_)
  refine ev_putR (sh' := shC true) fr_X11_60 (show (shC false ++ full_X0 112)[0]? = _ from shC_0 (bb := false)) rfl (fun _ => rfl) (fun _ => rfl) dX11_image_19 rfl ?_
  refine ev_aload_n dX11_image_22 rfl ?_
  refine ev_getR fr_X11_60 shC_0 rfl dX11_image_23 ?_
  refine ev_aload_n dX11_image_26 rfl ?_
  refine ev_getR fr_X11_12 shC_0 rfl dX11_image_27 ?_
  refine ev_cVv mv_X11_369 dX11_image_30 (c_X0_copyFrom atK_112 atC_1 hq2) rfl atK_112.1 rfl rfl (Nat.le_of_ble_eq_true rfl) (by rfl) (Nat.le_of_ble_eq_true rfl) (Nat.le_of_ble_eq_true rfl) (Nat.le_of_ble_eq_true rfl) ?_
  refine ev_iconst (v := (1 : Int32)) dX11_image_33 (by decide) ?_
  exact ev_iret rfl rfl (by decide) (by decide) dX11_image_34 (eqP_E h)
set_option maxHeartbeats 4000000 in
set_option maxRecDepth 100000 in
theorem c_X11_image_t {G : Nat} {μ μr : Mem} {r p : Int32} (hp : ¬ p = 0) (h : f_X11_image G true p μ = some (r, μr)) : Cn yX11_image cX11_image 2 (some .boolean) 5 0 0 [.ref 0, .int p] (shC true) μ (eqP (some r) (shC true) μr) := by
  refine cn_of (own := RX11) (ini := false) (loc := [some (.ref 0), some (.int p)]) rfl (by decide) (fun q => by cases q) (Nat.le_of_ble_eq_true rfl) (by rfl) rfl ?_
  unfold f_X11_image at h
  replace h := ite_f hp h
  replace h := ite_t rfl h
  obtain ⟨m2, hq2, h⟩ := bndV_t h
  refine ev_iload_n dX11_image_0 rfl ?_
  refine ev_if_eq (tgt := 35) dX11_image_1 (by decide) (fun hc => absurd hc hp) (fun _ => ?_)
  refine ev_aload_n dX11_image_4 rfl ?_
  refine ev_getR fr_X11_60 shC_0 rfl dX11_image_5 ?_
  refine ev_nonnull (tgt := 22) dX11_image_8 (by decide) ?_
  refine ev_aload_n dX11_image_22 rfl ?_
  refine ev_getR fr_X11_60 shC_0 rfl dX11_image_23 ?_
  refine ev_aload_n dX11_image_26 rfl ?_
  refine ev_getR fr_X11_12 shC_0 rfl dX11_image_27 ?_
  refine ev_cVv mv_X11_369 dX11_image_30 (c_X0_copyFrom atK_112 atC_1 hq2) rfl atK_112.1 rfl rfl (Nat.le_of_ble_eq_true rfl) (by rfl) (Nat.le_of_ble_eq_true rfl) (Nat.le_of_ble_eq_true rfl) (Nat.le_of_ble_eq_true rfl) ?_
  refine ev_iconst (v := (1 : Int32)) dX11_image_33 (by decide) ?_
  exact ev_iret rfl rfl (by decide) (by decide) dX11_image_34 (eqP_E h)
set_option maxHeartbeats 4000000 in
set_option maxRecDepth 100000 in
theorem c_X11_image_f {G : Nat} {μ μr : Mem} {r p : Int32} (hp : p = 0) (h : f_X11_image G false p μ = some (r, μr)) : Cn yX11_image cX11_image 2 (some .boolean) 5 0 0 [.ref 0, .int p] (shC false) μ (eqP (some r) (shC false) μr) := by
  refine cn_of (own := RX11) (ini := false) (loc := [some (.ref 0), some (.int p)]) rfl (by decide) (fun q => by cases q) (Nat.le_of_ble_eq_true rfl) (by rfl) rfl ?_
  unfold f_X11_image at h
  replace h := ite_t hp h
  replace h := ite_f (by decide) h
  refine ev_iload_n dX11_image_0 rfl ?_
  refine ev_if_eq (tgt := 35) dX11_image_1 (by decide) (fun _ => ?_) (fun hc => absurd hp hc)
  refine ev_aload_n dX11_image_35 rfl ?_
  refine ev_getN fr_X11_60 shC_0 rfl dX11_image_36 ?_
  refine ev_nonnullN dX11_image_39 ?_
  refine ev_iconst (v := (0 : Int32)) dX11_image_42 (by decide) ?_
  exact ev_iret rfl rfl (by decide) (by decide) dX11_image_43 (eqP_E h)
set_option maxHeartbeats 4000000 in
set_option maxRecDepth 100000 in
theorem c_X11_image_b {G : Nat} {μ μr : Mem} {r p : Int32} (hp : p = 0) (h : f_X11_image G true p μ = some (r, μr)) : Cn yX11_image cX11_image 2 (some .boolean) 5 0 0 [.ref 0, .int p] (shC true) μ (eqP (some r) (shC true) μr) := by
  refine cn_of (own := RX11) (ini := false) (loc := [some (.ref 0), some (.int p)]) rfl (by decide) (fun q => by cases q) (Nat.le_of_ble_eq_true rfl) (by rfl) rfl ?_
  unfold f_X11_image at h
  replace h := ite_t hp h
  replace h := ite_t rfl h
  obtain ⟨m1, hq1, h⟩ := bndV_t h
  obtain ⟨m2, hq2, h⟩ := bndV_t h
  obtain ⟨m3, hq3, h⟩ := bndV_t h
  refine ev_iload_n dX11_image_0 rfl ?_
  refine ev_if_eq (tgt := 35) dX11_image_1 (by decide) (fun _ => ?_) (fun hc => absurd hp hc)
  refine ev_aload_n dX11_image_35 rfl ?_
  refine ev_getR fr_X11_60 shC_0 rfl dX11_image_36 ?_
  refine ev_nonnull (tgt := 44) dX11_image_39 (by decide) ?_
  refine ev_aload_n dX11_image_44 rfl ?_
  refine ev_getR fr_X11_12 shC_0 rfl dX11_image_45 ?_
  refine ev_aload_n dX11_image_48 rfl ?_
  refine ev_getR fr_X11_60 shC_0 rfl dX11_image_49 ?_
  refine ev_cVv mv_X11_369 dX11_image_52 (c_X0_copyFrom atC_1 atK_112 hq1) rfl atC_1.1 rfl rfl (Nat.le_of_ble_eq_true rfl) (by rfl) (Nat.le_of_ble_eq_true rfl) (Nat.le_of_ble_eq_true rfl) (Nat.le_of_ble_eq_true rfl) ?_
  refine ev_aload_n dX11_image_55 rfl ?_
  refine ev_getR fr_X11_26 shC_0 rfl dX11_image_56 ?_
  refine ev_cVv mv_X11_70 dX11_image_59 (c_X3_forget hq2) rfl shC_54 rfl rfl (Nat.le_of_ble_eq_true rfl) (by rfl) (Nat.le_of_ble_eq_true rfl) (Nat.le_of_ble_eq_true rfl) (Nat.le_of_ble_eq_true rfl) ?_
  refine ev_aload_n dX11_image_62 rfl ?_
  refine ev_getR fr_X11_49 shC_0 rfl dX11_image_63 ?_
  refine ev_cVv mv_X11_287 dX11_image_66 (c_X4_forget hq3) rfl shC_105 rfl rfl (Nat.le_of_ble_eq_true rfl) (by rfl) (Nat.le_of_ble_eq_true rfl) (Nat.le_of_ble_eq_true rfl) (Nat.le_of_ble_eq_true rfl) ?_
  refine ev_iconst (v := (1 : Int32)) dX11_image_69 (by decide) ?_
  exact ev_iret rfl rfl (by decide) (by decide) dX11_image_70 (eqP_E h)
end
