set_option maxHeartbeats 4000000 in
set_option maxRecDepth 100000 in
theorem t_X0_init (l : Launch) (g : GG) (h0 : Nat) (sz : Nat) : Met l yX0_init (wm yX0_init cX0_init 1 none) (rmm 1 1 4) (pW g [(h0, .inr (0, [.null, .int (iI 0)]))] sz [.ref h0]) (qW g [(h0, .inr (0, [.null, .int (iI 0)]))] (fun vv ww => vv = none ∧ ∃ y0 : Nat, ww = [(h0, .inr (0, [.ref y0, .int (iI 0)])), (y0, eI g 4 (fun _ => 0))])) 1 4 (va_A [(h0, .inr (0, [.null, .int (iI 0)]))] sz) := by
  refine met_w (by decide) (Nat.le_of_ble_eq_true rfl) ?_
  intro p e s m args below meth c Q ls A hx hb hml hown hts hl w hin hend
  obtain ⟨H, hH0⟩ : ∃ H, H = s.heap := ⟨_, rfl⟩
  obtain ⟨locs, hL0⟩ : ∃ locs : List Loc, locs = [] := ⟨_, rfl⟩
  rw [← hH0, ← hL0] at w
  rw [← hH0, ← hL0]
  have hin := hin rfl
  have hl : lv_has ls 1 [(0, .ref h0)] := hl
  refine lv_aload_n hx hb dX0_init_0 rfl (lv_at hl 0 rfl) ?_
  refine ri_objInit hx hb (hml.trans hl.1.symm) hown hts (W0_of k_ml_RX0_3 rfl) ⟨Nat.le_of_ble_eq_true rfl, Nat.le_of_ble_eq_true rfl⟩ dX0_init_1 ?_
  refine lv_aload_n hx hb dX0_init_4 rfl (lv_at hl 0 rfl) ?_
  refine ri_iconst hx hb dX0_init_5 ?_
  refine ri_newaI (N' := 4) hx hb hts w (by omega) (by omega) ⟨Nat.le_of_ble_eq_true rfl, Nat.le_of_ble_eq_true rfl⟩ dX0_init_6 (fun q1 H w => ?_)
  have w : Wd g A [(h0, .inr (0, [.null, .int (iI 0)])), (q1, eI g 4 (fun _ => 0))] s H locs := w
  refine ri_putF hx hb hts hown w fX0 0 0 (W0_of k_fl_RX0_9 rfl) rfl (Nat.le_of_ble_eq_true rfl) (by decide) rfl hin rfl rfl rfl dX0_init_8 (fun H locs w => ?_)
  have w : Wd g A [(h0, .inr (0, [.ref q1, .int (iI 0)])), (q1, eI g 4 (fun _ => 0))] s H locs := w
  refine lv_aload_n hx hb dX0_init_11 rfl (lv_at hl 0 rfl) ?_
  refine ri_iconst hx hb dX0_init_12 ?_
  refine ri_put hx hb hts hown w fX0 0 1 (W0_of k_fl_RX0_15 rfl) rfl (Nat.le_of_ble_eq_true rfl) (by decide) rfl rfl rfl dX0_init_13 (fun H locs w => ?_)
  have w : Wd g A [(h0, .inr (0, [.ref q1, .int (iI 0)])), (q1, eI g 4 (fun _ => 0))] s H locs := w
  exact hend.1 rfl _ _ _ _ _ dX0_init_16 w ⟨rfl, q1, rfl⟩

set_option maxHeartbeats 4000000 in
set_option maxRecDepth 100000 in
theorem t_X1_init (l : Launch) (g : GG) (h0 : Nat) (sz : Nat) : Met l yX1_init (wm yX1_init cX1_init 1 none) (rmm 1 3 24) (pW g [(h0, .inr (1, [.null, .null, .null, .int (iI 0)]))] sz [.ref h0]) (qW g [(h0, .inr (1, [.null, .null, .null, .int (iI 0)]))] (fun vv ww => vv = none ∧ ∃ y0 y1 y2 : Nat, ww = [(h0, .inr (1, [.ref y0, .ref y1, .ref y2, .int (iI 0)])), (y0, eI g 8 (fun _ => 0)), (y1, eI g 8 (fun _ => 0)), (y2, eI g 8 (fun _ => 0))])) 3 24 (va_A [(h0, .inr (1, [.null, .null, .null, .int (iI 0)]))] sz) := by
  refine met_w (by decide) (Nat.le_of_ble_eq_true rfl) ?_
  intro p e s m args below meth c Q ls A hx hb hml hown hts hl w hin hend
  obtain ⟨H, hH0⟩ : ∃ H, H = s.heap := ⟨_, rfl⟩
  obtain ⟨locs, hL0⟩ : ∃ locs : List Loc, locs = [] := ⟨_, rfl⟩
  rw [← hH0, ← hL0] at w
  rw [← hH0, ← hL0]
  have hin := hin rfl
  have hl : lv_has ls 1 [(0, .ref h0)] := hl
  refine lv_aload_n hx hb dX1_init_0 rfl (lv_at hl 0 rfl) ?_
  refine ri_objInit hx hb (hml.trans hl.1.symm) hown hts (W0_of k_ml_RX1_3 rfl) ⟨Nat.le_of_ble_eq_true rfl, Nat.le_of_ble_eq_true rfl⟩ dX1_init_1 ?_
  refine lv_aload_n hx hb dX1_init_4 rfl (lv_at hl 0 rfl) ?_
  refine ri_bipush hx hb dX1_init_5 (by decide) ?_
  refine ri_newaI (N' := 8) hx hb hts w (by omega) (by omega) ⟨Nat.le_of_ble_eq_true rfl, Nat.le_of_ble_eq_true rfl⟩ dX1_init_7 (fun q1 H w => ?_)
  have w : Wd g A [(h0, .inr (1, [.null, .null, .null, .int (iI 0)])), (q1, eI g 8 (fun _ => 0))] s H locs := w
  refine ri_putF hx hb hts hown w fX1 0 0 (W0_of k_fl_RX1_9 rfl) rfl (Nat.le_of_ble_eq_true rfl) (by decide) rfl hin rfl rfl rfl dX1_init_9 (fun H locs w => ?_)
  have w : Wd g A [(h0, .inr (1, [.ref q1, .null, .null, .int (iI 0)])), (q1, eI g 8 (fun _ => 0))] s H locs := w
  refine lv_aload_n hx hb dX1_init_12 rfl (lv_at hl 0 rfl) ?_
  refine ri_bipush hx hb dX1_init_13 (by decide) ?_
  refine ri_newaI (N' := 8) hx hb hts w (by omega) (by omega) ⟨Nat.le_of_ble_eq_true rfl, Nat.le_of_ble_eq_true rfl⟩ dX1_init_15 (fun q2 H w => ?_)
  have w : Wd g A [(h0, .inr (1, [.ref q1, .null, .null, .int (iI 0)])), (q1, eI g 8 (fun _ => 0)), (q2, eI g 8 (fun _ => 0))] s H locs := w
  refine ri_putF hx hb hts hown w fX1 0 1 (W0_of k_fl_RX1_15 rfl) rfl (Nat.le_of_ble_eq_true rfl) (by decide) rfl hin rfl rfl rfl dX1_init_17 (fun H locs w => ?_)
  have w : Wd g A [(h0, .inr (1, [.ref q1, .ref q2, .null, .int (iI 0)])), (q1, eI g 8 (fun _ => 0)), (q2, eI g 8 (fun _ => 0))] s H locs := w
  refine lv_aload_n hx hb dX1_init_20 rfl (lv_at hl 0 rfl) ?_
  refine ri_bipush hx hb dX1_init_21 (by decide) ?_
  refine ri_newaI (N' := 8) hx hb hts w (by omega) (by omega) ⟨Nat.le_of_ble_eq_true rfl, Nat.le_of_ble_eq_true rfl⟩ dX1_init_23 (fun q3 H w => ?_)
  have w : Wd g A [(h0, .inr (1, [.ref q1, .ref q2, .null, .int (iI 0)])), (q1, eI g 8 (fun _ => 0)), (q2, eI g 8 (fun _ => 0)), (q3, eI g 8 (fun _ => 0))] s H locs := w
  refine ri_putF hx hb hts hown w fX1 0 2 (W0_of k_fl_RX1_18 rfl) rfl (Nat.le_of_ble_eq_true rfl) (by decide) rfl hin rfl rfl rfl dX1_init_25 (fun H locs w => ?_)
  have w : Wd g A [(h0, .inr (1, [.ref q1, .ref q2, .ref q3, .int (iI 0)])), (q1, eI g 8 (fun _ => 0)), (q2, eI g 8 (fun _ => 0)), (q3, eI g 8 (fun _ => 0))] s H locs := w
  refine lv_aload_n hx hb dX1_init_28 rfl (lv_at hl 0 rfl) ?_
  refine ri_iconst hx hb dX1_init_29 ?_
  refine ri_put hx hb hts hown w fX1 0 3 (W0_of k_fl_RX1_21 rfl) rfl (Nat.le_of_ble_eq_true rfl) (by decide) rfl rfl rfl dX1_init_30 (fun H locs w => ?_)
  have w : Wd g A [(h0, .inr (1, [.ref q1, .ref q2, .ref q3, .int (iI 0)])), (q1, eI g 8 (fun _ => 0)), (q2, eI g 8 (fun _ => 0)), (q3, eI g 8 (fun _ => 0))] s H locs := w
  exact hend.1 rfl _ _ _ _ _ dX1_init_33 w ⟨rfl, q1, q2, q3, rfl⟩

set_option maxHeartbeats 4000000 in
set_option maxRecDepth 100000 in
theorem t_X4_init (l : Launch) (g : GG) (h0 : Nat) (sz : Nat) : Met l yX4_init (wm yX4_init cX4_init 2 none) (rmm 3 17 261) (pW g [(h0, .inr (4, [.null, .null, .null, .null, .null, .null, .null, .null, .null, .null, .null, .null, .null, .int (iI 0), .int (iI 0), .int (iI 0), .int (iI 0), .int (iI 0)]))] sz [.ref h0]) (qW g [(h0, .inr (4, [.null, .null, .null, .null, .null, .null, .null, .null, .null, .null, .null, .null, .null, .int (iI 0), .int (iI 0), .int (iI 0), .int (iI 0), .int (iI 0)]))] (fun vv ww => vv = none ∧ ∃ a : Nat → Nat, a 0 = h0 ∧ ww = st_ws g a T_0)) 17 261 (va_A [(h0, .inr (4, [.null, .null, .null, .null, .null, .null, .null, .null, .null, .null, .null, .null, .null, .int (iI 0), .int (iI 0), .int (iI 0), .int (iI 0), .int (iI 0)]))] sz) := by
  refine met_w (by decide) (Nat.le_of_ble_eq_true rfl) ?_
  intro p e s m args below meth c Q ls A hx hb hml hown hts hl w hin hend
  obtain ⟨H, hH0⟩ : ∃ H, H = s.heap := ⟨_, rfl⟩
  obtain ⟨locs, hL0⟩ : ∃ locs : List Loc, locs = [] := ⟨_, rfl⟩
  rw [← hH0, ← hL0] at w
  rw [← hH0, ← hL0]
  have hin := hin rfl
  have hl : lv_has ls 2 [(0, .ref h0)] := hl
  refine lv_aload_n hx hb dX4_init_0 rfl (lv_at hl 0 rfl) ?_
  refine ri_objInit hx hb (hml.trans hl.1.symm) hown hts (W0_of k_ml_RX4_3 rfl) ⟨Nat.le_of_ble_eq_true rfl, Nat.le_of_ble_eq_true rfl⟩ dX4_init_1 ?_
  refine lv_aload_n hx hb dX4_init_4 rfl (lv_at hl 0 rfl) ?_
  refine ri_bipush hx hb dX4_init_5 (by decide) ?_
  refine ri_newaI (N' := 6) hx hb hts w (by omega) (by omega) ⟨Nat.le_of_ble_eq_true rfl, Nat.le_of_ble_eq_true rfl⟩ dX4_init_7 (fun q1 H w => ?_)
  have w : Wd g A [(h0, .inr (4, [.null, .null, .null, .null, .null, .null, .null, .null, .null, .null, .null, .null, .null, .int (iI 0), .int (iI 0), .int (iI 0), .int (iI 0), .int (iI 0)])), (q1, eI g 6 (fun _ => 0))] s H locs := w
  refine ri_putF hx hb hts hown w fX4 0 0 (W0_of k_fl_RX4_9 rfl) rfl (Nat.le_of_ble_eq_true rfl) (by decide) rfl hin rfl rfl rfl dX4_init_9 (fun H locs w => ?_)
  have w : Wd g A [(h0, .inr (4, [.ref q1, .null, .null, .null, .null, .null, .null, .null, .null, .null, .null, .null, .null, .int (iI 0), .int (iI 0), .int (iI 0), .int (iI 0), .int (iI 0)])), (q1, eI g 6 (fun _ => 0))] s H locs := w
  refine lv_aload_n hx hb dX4_init_12 rfl (lv_at hl 0 rfl) ?_
  refine ri_bipush hx hb dX4_init_13 (by decide) ?_
  refine ri_newaI (N' := 6) hx hb hts w (by omega) (by omega) ⟨Nat.le_of_ble_eq_true rfl, Nat.le_of_ble_eq_true rfl⟩ dX4_init_15 (fun q2 H w => ?_)
  have w : Wd g A [(h0, .inr (4, [.ref q1, .null, .null, .null, .null, .null, .null, .null, .null, .null, .null, .null, .null, .int (iI 0), .int (iI 0), .int (iI 0), .int (iI 0), .int (iI 0)])), (q1, eI g 6 (fun _ => 0)), (q2, eI g 6 (fun _ => 0))] s H locs := w
  refine ri_putF hx hb hts hown w fX4 0 1 (W0_of k_fl_RX4_15 rfl) rfl (Nat.le_of_ble_eq_true rfl) (by decide) rfl hin rfl rfl rfl dX4_init_17 (fun H locs w => ?_)
  have w : Wd g A [(h0, .inr (4, [.ref q1, .ref q2, .null, .null, .null, .null, .null, .null, .null, .null, .null, .null, .null, .int (iI 0), .int (iI 0), .int (iI 0), .int (iI 0), .int (iI 0)])), (q1, eI g 6 (fun _ => 0)), (q2, eI g 6 (fun _ => 0))] s H locs := w
  refine lv_aload_n hx hb dX4_init_20 rfl (lv_at hl 0 rfl) ?_
  refine ri_bipush hx hb dX4_init_21 (by decide) ?_
  refine ri_newaZ (N' := 6) hx hb hts w (by omega) (by omega) ⟨Nat.le_of_ble_eq_true rfl, Nat.le_of_ble_eq_true rfl⟩ dX4_init_23 (fun q3 H w => ?_)
  have w : Wd g A [(h0, .inr (4, [.ref q1, .ref q2, .null, .null, .null, .null, .null, .null, .null, .null, .null, .null, .null, .int (iI 0), .int (iI 0), .int (iI 0), .int (iI 0), .int (iI 0)])), (q1, eI g 6 (fun _ => 0)), (q2, eI g 6 (fun _ => 0)), (q3, eZ g 6 (fun _ => 0))] s H locs := w
  refine ri_putF hx hb hts hown w fX4 0 2 (W0_of k_fl_RX4_18 rfl) rfl (Nat.le_of_ble_eq_true rfl) (by decide) rfl hin rfl rfl rfl dX4_init_25 (fun H locs w => ?_)
  have w : Wd g A [(h0, .inr (4, [.ref q1, .ref q2, .ref q3, .null, .null, .null, .null, .null, .null, .null, .null, .null, .null, .int (iI 0), .int (iI 0), .int (iI 0), .int (iI 0), .int (iI 0)])), (q1, eI g 6 (fun _ => 0)), (q2, eI g 6 (fun _ => 0)), (q3, eZ g 6 (fun _ => 0))] s H locs := w
  refine lv_aload_n hx hb dX4_init_28 rfl (lv_at hl 0 rfl) ?_
  refine ri_bipush hx hb dX4_init_29 (by decide) ?_
  refine ri_newaI (N' := 6) hx hb hts w (by omega) (by omega) ⟨Nat.le_of_ble_eq_true rfl, Nat.le_of_ble_eq_true rfl⟩ dX4_init_31 (fun q4 H w => ?_)
  have w : Wd g A [(h0, .inr (4, [.ref q1, .ref q2, .ref q3, .null, .null, .null, .null, .null, .null, .null, .null, .null, .null, .int (iI 0), .int (iI 0), .int (iI 0), .int (iI 0), .int (iI 0)])), (q1, eI g 6 (fun _ => 0)), (q2, eI g 6 (fun _ => 0)), (q3, eZ g 6 (fun _ => 0)), (q4, eI g 6 (fun _ => 0))] s H locs := w
  refine ri_putF hx hb hts hown w fX4 0 3 (W0_of k_fl_RX4_22 rfl) rfl (Nat.le_of_ble_eq_true rfl) (by decide) rfl hin rfl rfl rfl dX4_init_33 (fun H locs w => ?_)
  have w : Wd g A [(h0, .inr (4, [.ref q1, .ref q2, .ref q3, .ref q4, .null, .null, .null, .null, .null, .null, .null, .null, .null, .int (iI 0), .int (iI 0), .int (iI 0), .int (iI 0), .int (iI 0)])), (q1, eI g 6 (fun _ => 0)), (q2, eI g 6 (fun _ => 0)), (q3, eZ g 6 (fun _ => 0)), (q4, eI g 6 (fun _ => 0))] s H locs := w
  refine lv_aload_n hx hb dX4_init_36 rfl (lv_at hl 0 rfl) ?_
  refine ri_bipush hx hb dX4_init_37 (by decide) ?_
  refine ri_newaI (N' := 6) hx hb hts w (by omega) (by omega) ⟨Nat.le_of_ble_eq_true rfl, Nat.le_of_ble_eq_true rfl⟩ dX4_init_39 (fun q5 H w => ?_)
  have w : Wd g A [(h0, .inr (4, [.ref q1, .ref q2, .ref q3, .ref q4, .null, .null, .null, .null, .null, .null, .null, .null, .null, .int (iI 0), .int (iI 0), .int (iI 0), .int (iI 0), .int (iI 0)])), (q1, eI g 6 (fun _ => 0)), (q2, eI g 6 (fun _ => 0)), (q3, eZ g 6 (fun _ => 0)), (q4, eI g 6 (fun _ => 0)), (q5, eI g 6 (fun _ => 0))] s H locs := w
  refine ri_putF hx hb hts hown w fX4 0 4 (W0_of k_fl_RX4_25 rfl) rfl (Nat.le_of_ble_eq_true rfl) (by decide) rfl hin rfl rfl rfl dX4_init_41 (fun H locs w => ?_)
  have w : Wd g A [(h0, .inr (4, [.ref q1, .ref q2, .ref q3, .ref q4, .ref q5, .null, .null, .null, .null, .null, .null, .null, .null, .int (iI 0), .int (iI 0), .int (iI 0), .int (iI 0), .int (iI 0)])), (q1, eI g 6 (fun _ => 0)), (q2, eI g 6 (fun _ => 0)), (q3, eZ g 6 (fun _ => 0)), (q4, eI g 6 (fun _ => 0)), (q5, eI g 6 (fun _ => 0))] s H locs := w
  refine lv_aload_n hx hb dX4_init_44 rfl (lv_at hl 0 rfl) ?_
  refine ri_bipush hx hb dX4_init_45 (by decide) ?_
  refine ri_newaI (N' := 48) hx hb hts w (by omega) (by omega) ⟨Nat.le_of_ble_eq_true rfl, Nat.le_of_ble_eq_true rfl⟩ dX4_init_47 (fun q6 H w => ?_)
  have w : Wd g A [(h0, .inr (4, [.ref q1, .ref q2, .ref q3, .ref q4, .ref q5, .null, .null, .null, .null, .null, .null, .null, .null, .int (iI 0), .int (iI 0), .int (iI 0), .int (iI 0), .int (iI 0)])), (q1, eI g 6 (fun _ => 0)), (q2, eI g 6 (fun _ => 0)), (q3, eZ g 6 (fun _ => 0)), (q4, eI g 6 (fun _ => 0)), (q5, eI g 6 (fun _ => 0)), (q6, eI g 48 (fun _ => 0))] s H locs := w
  refine ri_putF hx hb hts hown w fX4 0 5 (W0_of k_fl_RX4_28 rfl) rfl (Nat.le_of_ble_eq_true rfl) (by decide) rfl hin rfl rfl rfl dX4_init_49 (fun H locs w => ?_)
  have w : Wd g A [(h0, .inr (4, [.ref q1, .ref q2, .ref q3, .ref q4, .ref q5, .ref q6, .null, .null, .null, .null, .null, .null, .null, .int (iI 0), .int (iI 0), .int (iI 0), .int (iI 0), .int (iI 0)])), (q1, eI g 6 (fun _ => 0)), (q2, eI g 6 (fun _ => 0)), (q3, eZ g 6 (fun _ => 0)), (q4, eI g 6 (fun _ => 0)), (q5, eI g 6 (fun _ => 0)), (q6, eI g 48 (fun _ => 0))] s H locs := w
  refine lv_aload_n hx hb dX4_init_52 rfl (lv_at hl 0 rfl) ?_
  refine ri_bipush hx hb dX4_init_53 (by decide) ?_
  refine ri_newaI (N' := 48) hx hb hts w (by omega) (by omega) ⟨Nat.le_of_ble_eq_true rfl, Nat.le_of_ble_eq_true rfl⟩ dX4_init_55 (fun q7 H w => ?_)
  have w : Wd g A [(h0, .inr (4, [.ref q1, .ref q2, .ref q3, .ref q4, .ref q5, .ref q6, .null, .null, .null, .null, .null, .null, .null, .int (iI 0), .int (iI 0), .int (iI 0), .int (iI 0), .int (iI 0)])), (q1, eI g 6 (fun _ => 0)), (q2, eI g 6 (fun _ => 0)), (q3, eZ g 6 (fun _ => 0)), (q4, eI g 6 (fun _ => 0)), (q5, eI g 6 (fun _ => 0)), (q6, eI g 48 (fun _ => 0)), (q7, eI g 48 (fun _ => 0))] s H locs := w
  refine ri_putF hx hb hts hown w fX4 0 6 (W0_of k_fl_RX4_31 rfl) rfl (Nat.le_of_ble_eq_true rfl) (by decide) rfl hin rfl rfl rfl dX4_init_57 (fun H locs w => ?_)
  have w : Wd g A [(h0, .inr (4, [.ref q1, .ref q2, .ref q3, .ref q4, .ref q5, .ref q6, .ref q7, .null, .null, .null, .null, .null, .null, .int (iI 0), .int (iI 0), .int (iI 0), .int (iI 0), .int (iI 0)])), (q1, eI g 6 (fun _ => 0)), (q2, eI g 6 (fun _ => 0)), (q3, eZ g 6 (fun _ => 0)), (q4, eI g 6 (fun _ => 0)), (q5, eI g 6 (fun _ => 0)), (q6, eI g 48 (fun _ => 0)), (q7, eI g 48 (fun _ => 0))] s H locs := w
  refine lv_aload_n hx hb dX4_init_60 rfl (lv_at hl 0 rfl) ?_
  refine ri_bipush hx hb dX4_init_61 (by decide) ?_
  refine ri_newaI (N' := 48) hx hb hts w (by omega) (by omega) ⟨Nat.le_of_ble_eq_true rfl, Nat.le_of_ble_eq_true rfl⟩ dX4_init_63 (fun q8 H w => ?_)
  have w : Wd g A [(h0, .inr (4, [.ref q1, .ref q2, .ref q3, .ref q4, .ref q5, .ref q6, .ref q7, .null, .null, .null, .null, .null, .null, .int (iI 0), .int (iI 0), .int (iI 0), .int (iI 0), .int (iI 0)])), (q1, eI g 6 (fun _ => 0)), (q2, eI g 6 (fun _ => 0)), (q3, eZ g 6 (fun _ => 0)), (q4, eI g 6 (fun _ => 0)), (q5, eI g 6 (fun _ => 0)), (q6, eI g 48 (fun _ => 0)), (q7, eI g 48 (fun _ => 0)), (q8, eI g 48 (fun _ => 0))] s H locs := w
  refine ri_putF hx hb hts hown w fX4 0 7 (W0_of k_fl_RX4_34 rfl) rfl (Nat.le_of_ble_eq_true rfl) (by decide) rfl hin rfl rfl rfl dX4_init_65 (fun H locs w => ?_)
  have w : Wd g A [(h0, .inr (4, [.ref q1, .ref q2, .ref q3, .ref q4, .ref q5, .ref q6, .ref q7, .ref q8, .null, .null, .null, .null, .null, .int (iI 0), .int (iI 0), .int (iI 0), .int (iI 0), .int (iI 0)])), (q1, eI g 6 (fun _ => 0)), (q2, eI g 6 (fun _ => 0)), (q3, eZ g 6 (fun _ => 0)), (q4, eI g 6 (fun _ => 0)), (q5, eI g 6 (fun _ => 0)), (q6, eI g 48 (fun _ => 0)), (q7, eI g 48 (fun _ => 0)), (q8, eI g 48 (fun _ => 0))] s H locs := w
  refine lv_aload_n hx hb dX4_init_68 rfl (lv_at hl 0 rfl) ?_
  refine ri_bipush hx hb dX4_init_69 (by decide) ?_
  refine ri_newaI (N' := 24) hx hb hts w (by omega) (by omega) ⟨Nat.le_of_ble_eq_true rfl, Nat.le_of_ble_eq_true rfl⟩ dX4_init_71 (fun q9 H w => ?_)
  have w : Wd g A [(h0, .inr (4, [.ref q1, .ref q2, .ref q3, .ref q4, .ref q5, .ref q6, .ref q7, .ref q8, .null, .null, .null, .null, .null, .int (iI 0), .int (iI 0), .int (iI 0), .int (iI 0), .int (iI 0)])), (q1, eI g 6 (fun _ => 0)), (q2, eI g 6 (fun _ => 0)), (q3, eZ g 6 (fun _ => 0)), (q4, eI g 6 (fun _ => 0)), (q5, eI g 6 (fun _ => 0)), (q6, eI g 48 (fun _ => 0)), (q7, eI g 48 (fun _ => 0)), (q8, eI g 48 (fun _ => 0)), (q9, eI g 24 (fun _ => 0))] s H locs := w
  refine ri_putF hx hb hts hown w fX4 0 8 (W0_of k_fl_RX4_37 rfl) rfl (Nat.le_of_ble_eq_true rfl) (by decide) rfl hin rfl rfl rfl dX4_init_73 (fun H locs w => ?_)
  have w : Wd g A [(h0, .inr (4, [.ref q1, .ref q2, .ref q3, .ref q4, .ref q5, .ref q6, .ref q7, .ref q8, .ref q9, .null, .null, .null, .null, .int (iI 0), .int (iI 0), .int (iI 0), .int (iI 0), .int (iI 0)])), (q1, eI g 6 (fun _ => 0)), (q2, eI g 6 (fun _ => 0)), (q3, eZ g 6 (fun _ => 0)), (q4, eI g 6 (fun _ => 0)), (q5, eI g 6 (fun _ => 0)), (q6, eI g 48 (fun _ => 0)), (q7, eI g 48 (fun _ => 0)), (q8, eI g 48 (fun _ => 0)), (q9, eI g 24 (fun _ => 0))] s H locs := w
  refine lv_aload_n hx hb dX4_init_76 rfl (lv_at hl 0 rfl) ?_
  refine ri_bipush hx hb dX4_init_77 (by decide) ?_
  refine ri_newaI (N' := 24) hx hb hts w (by omega) (by omega) ⟨Nat.le_of_ble_eq_true rfl, Nat.le_of_ble_eq_true rfl⟩ dX4_init_79 (fun q10 H w => ?_)
  have w : Wd g A [(h0, .inr (4, [.ref q1, .ref q2, .ref q3, .ref q4, .ref q5, .ref q6, .ref q7, .ref q8, .ref q9, .null, .null, .null, .null, .int (iI 0), .int (iI 0), .int (iI 0), .int (iI 0), .int (iI 0)])), (q1, eI g 6 (fun _ => 0)), (q2, eI g 6 (fun _ => 0)), (q3, eZ g 6 (fun _ => 0)), (q4, eI g 6 (fun _ => 0)), (q5, eI g 6 (fun _ => 0)), (q6, eI g 48 (fun _ => 0)), (q7, eI g 48 (fun _ => 0)), (q8, eI g 48 (fun _ => 0)), (q9, eI g 24 (fun _ => 0)), (q10, eI g 24 (fun _ => 0))] s H locs := w
  refine ri_putF hx hb hts hown w fX4 0 9 (W0_of k_fl_RX4_40 rfl) rfl (Nat.le_of_ble_eq_true rfl) (by decide) rfl hin rfl rfl rfl dX4_init_81 (fun H locs w => ?_)
  have w : Wd g A [(h0, .inr (4, [.ref q1, .ref q2, .ref q3, .ref q4, .ref q5, .ref q6, .ref q7, .ref q8, .ref q9, .ref q10, .null, .null, .null, .int (iI 0), .int (iI 0), .int (iI 0), .int (iI 0), .int (iI 0)])), (q1, eI g 6 (fun _ => 0)), (q2, eI g 6 (fun _ => 0)), (q3, eZ g 6 (fun _ => 0)), (q4, eI g 6 (fun _ => 0)), (q5, eI g 6 (fun _ => 0)), (q6, eI g 48 (fun _ => 0)), (q7, eI g 48 (fun _ => 0)), (q8, eI g 48 (fun _ => 0)), (q9, eI g 24 (fun _ => 0)), (q10, eI g 24 (fun _ => 0))] s H locs := w
  refine lv_aload_n hx hb dX4_init_84 rfl (lv_at hl 0 rfl) ?_
  refine ri_iconst hx hb dX4_init_85 ?_
  refine ri_newaI (N' := 5) hx hb hts w (by omega) (by omega) ⟨Nat.le_of_ble_eq_true rfl, Nat.le_of_ble_eq_true rfl⟩ dX4_init_86 (fun q11 H w => ?_)
  have w : Wd g A [(h0, .inr (4, [.ref q1, .ref q2, .ref q3, .ref q4, .ref q5, .ref q6, .ref q7, .ref q8, .ref q9, .ref q10, .null, .null, .null, .int (iI 0), .int (iI 0), .int (iI 0), .int (iI 0), .int (iI 0)])), (q1, eI g 6 (fun _ => 0)), (q2, eI g 6 (fun _ => 0)), (q3, eZ g 6 (fun _ => 0)), (q4, eI g 6 (fun _ => 0)), (q5, eI g 6 (fun _ => 0)), (q6, eI g 48 (fun _ => 0)), (q7, eI g 48 (fun _ => 0)), (q8, eI g 48 (fun _ => 0)), (q9, eI g 24 (fun _ => 0)), (q10, eI g 24 (fun _ => 0)), (q11, eI g 5 (fun _ => 0))] s H locs := w
  refine ri_putF hx hb hts hown w fX4 0 10 (W0_of k_fl_RX4_43 rfl) rfl (Nat.le_of_ble_eq_true rfl) (by decide) rfl hin rfl rfl rfl dX4_init_88 (fun H locs w => ?_)
  have w : Wd g A [(h0, .inr (4, [.ref q1, .ref q2, .ref q3, .ref q4, .ref q5, .ref q6, .ref q7, .ref q8, .ref q9, .ref q10, .ref q11, .null, .null, .int (iI 0), .int (iI 0), .int (iI 0), .int (iI 0), .int (iI 0)])), (q1, eI g 6 (fun _ => 0)), (q2, eI g 6 (fun _ => 0)), (q3, eZ g 6 (fun _ => 0)), (q4, eI g 6 (fun _ => 0)), (q5, eI g 6 (fun _ => 0)), (q6, eI g 48 (fun _ => 0)), (q7, eI g 48 (fun _ => 0)), (q8, eI g 48 (fun _ => 0)), (q9, eI g 24 (fun _ => 0)), (q10, eI g 24 (fun _ => 0)), (q11, eI g 5 (fun _ => 0))] s H locs := w
  refine lv_aload_n hx hb dX4_init_91 rfl (lv_at hl 0 rfl) ?_
  refine ri_new (fs := [.null, .int (iI 0)]) hx hb hown hts w fX0 (W0_of k_cl_RX4_46 rfl) (W0_of k_new_RX0 rfl) (W0_of k_ini_RX0 rfl) (fun j hj => by match j, hj with | 0, _ => rfl | 1, _ => rfl) ⟨Nat.le_of_ble_eq_true rfl, Nat.le_of_ble_eq_true rfl⟩ dX4_init_92 (fun q12 H w => ?_)
  have w : Wd g A [(h0, .inr (4, [.ref q1, .ref q2, .ref q3, .ref q4, .ref q5, .ref q6, .ref q7, .ref q8, .ref q9, .ref q10, .ref q11, .null, .null, .int (iI 0), .int (iI 0), .int (iI 0), .int (iI 0), .int (iI 0)])), (q1, eI g 6 (fun _ => 0)), (q2, eI g 6 (fun _ => 0)), (q3, eZ g 6 (fun _ => 0)), (q4, eI g 6 (fun _ => 0)), (q5, eI g 6 (fun _ => 0)), (q6, eI g 48 (fun _ => 0)), (q7, eI g 48 (fun _ => 0)), (q8, eI g 48 (fun _ => 0)), (q9, eI g 24 (fun _ => 0)), (q10, eI g 24 (fun _ => 0)), (q11, eI g 5 (fun _ => 0)), (q12, .inr (0, [.null, .int (iI 0)]))] s H locs := w
  refine lv_dup hx hb dX4_init_95 rfl ?_
  refine call_wJ (wr := [(h0, .inr (4, [.ref q1, .ref q2, .ref q3, .ref q4, .ref q5, .ref q6, .ref q7, .ref q8, .ref q9, .ref q10, .ref q11, .null, .null, .int (iI 0), .int (iI 0), .int (iI 0), .int (iI 0), .int (iI 0)])), (q1, eI g 6 (fun _ => 0)), (q2, eI g 6 (fun _ => 0)), (q3, eZ g 6 (fun _ => 0)), (q4, eI g 6 (fun _ => 0)), (q5, eI g 6 (fun _ => 0)), (q6, eI g 48 (fun _ => 0)), (q7, eI g 48 (fun _ => 0)), (q8, eI g 48 (fun _ => 0)), (q9, eI g 24 (fun _ => 0)), (q10, eI g 24 (fun _ => 0)), (q11, eI g 5 (fun _ => 0))]) (As := []) (rest := [.ref q12, .ref h0]) hx hb (hml.trans hl.1.symm) hown hts w lk_RX4_48 (fun sz => t_X0_init l g q12 sz) [12] [0, 1, 2, 3, 4, 5, 6, 7, 8, 9, 10, 11] rfl rfl rfl rfl (by decide) rfl rfl (Nat.le_of_ble_eq_true rfl) ⟨Nat.le_of_ble_eq_true rfl, Nat.le_of_ble_eq_true rfl⟩ ⟨Nat.le_of_ble_eq_true rfl, Nat.le_of_ble_eq_true rfl⟩ dX4_init_96 (fun v w1 H locs hr w => ?_)
  obtain ⟨rfl, y13, rfl⟩ := hr
  have w : Wd g A [(h0, .inr (4, [.ref q1, .ref q2, .ref q3, .ref q4, .ref q5, .ref q6, .ref q7, .ref q8, .ref q9, .ref q10, .ref q11, .null, .null, .int (iI 0), .int (iI 0), .int (iI 0), .int (iI 0), .int (iI 0)])), (q1, eI g 6 (fun _ => 0)), (q2, eI g 6 (fun _ => 0)), (q3, eZ g 6 (fun _ => 0)), (q4, eI g 6 (fun _ => 0)), (q5, eI g 6 (fun _ => 0)), (q6, eI g 48 (fun _ => 0)), (q7, eI g 48 (fun _ => 0)), (q8, eI g 48 (fun _ => 0)), (q9, eI g 24 (fun _ => 0)), (q10, eI g 24 (fun _ => 0)), (q11, eI g 5 (fun _ => 0)), (q12, .inr (0, [.ref y13, .int (iI 0)])), (y13, eI g 4 (fun _ => 0))] s H locs := w
  refine ri_putF hx hb hts hown w fX4 0 11 (W0_of k_fl_RX4_49 rfl) rfl (Nat.le_of_ble_eq_true rfl) (by decide) rfl hin rfl rfl rfl dX4_init_99 (fun H locs w => ?_)
  have w : Wd g A [(h0, .inr (4, [.ref q1, .ref q2, .ref q3, .ref q4, .ref q5, .ref q6, .ref q7, .ref q8, .ref q9, .ref q10, .ref q11, .ref q12, .null, .int (iI 0), .int (iI 0), .int (iI 0), .int (iI 0), .int (iI 0)])), (q1, eI g 6 (fun _ => 0)), (q2, eI g 6 (fun _ => 0)), (q3, eZ g 6 (fun _ => 0)), (q4, eI g 6 (fun _ => 0)), (q5, eI g 6 (fun _ => 0)), (q6, eI g 48 (fun _ => 0)), (q7, eI g 48 (fun _ => 0)), (q8, eI g 48 (fun _ => 0)), (q9, eI g 24 (fun _ => 0)), (q10, eI g 24 (fun _ => 0)), (q11, eI g 5 (fun _ => 0)), (q12, .inr (0, [.ref y13, .int (iI 0)])), (y13, eI g 4 (fun _ => 0))] s H locs := w
  refine lv_aload_n hx hb dX4_init_102 rfl (lv_at hl 0 rfl) ?_
  refine ri_new (fs := [.null, .null, .null, .int (iI 0)]) hx hb hown hts w fX1 (W0_of k_cl_RX4_53 rfl) (W0_of k_new_RX1 rfl) (W0_of k_ini_RX1 rfl) (fun j hj => by match j, hj with | 0, _ => rfl | 1, _ => rfl | 2, _ => rfl | 3, _ => rfl) ⟨Nat.le_of_ble_eq_true rfl, Nat.le_of_ble_eq_true rfl⟩ dX4_init_103 (fun q14 H w => ?_)
  have w : Wd g A [(h0, .inr (4, [.ref q1, .ref q2, .ref q3, .ref q4, .ref q5, .ref q6, .ref q7, .ref q8, .ref q9, .ref q10, .ref q11, .ref q12, .null, .int (iI 0), .int (iI 0), .int (iI 0), .int (iI 0), .int (iI 0)])), (q1, eI g 6 (fun _ => 0)), (q2, eI g 6 (fun _ => 0)), (q3, eZ g 6 (fun _ => 0)), (q4, eI g 6 (fun _ => 0)), (q5, eI g 6 (fun _ => 0)), (q6, eI g 48 (fun _ => 0)), (q7, eI g 48 (fun _ => 0)), (q8, eI g 48 (fun _ => 0)), (q9, eI g 24 (fun _ => 0)), (q10, eI g 24 (fun _ => 0)), (q11, eI g 5 (fun _ => 0)), (q12, .inr (0, [.ref y13, .int (iI 0)])), (y13, eI g 4 (fun _ => 0)), (q14, .inr (1, [.null, .null, .null, .int (iI 0)]))] s H locs := w
  refine lv_dup hx hb dX4_init_106 rfl ?_
  refine call_wJ (wr := [(h0, .inr (4, [.ref q1, .ref q2, .ref q3, .ref q4, .ref q5, .ref q6, .ref q7, .ref q8, .ref q9, .ref q10, .ref q11, .ref q12, .null, .int (iI 0), .int (iI 0), .int (iI 0), .int (iI 0), .int (iI 0)])), (q1, eI g 6 (fun _ => 0)), (q2, eI g 6 (fun _ => 0)), (q3, eZ g 6 (fun _ => 0)), (q4, eI g 6 (fun _ => 0)), (q5, eI g 6 (fun _ => 0)), (q6, eI g 48 (fun _ => 0)), (q7, eI g 48 (fun _ => 0)), (q8, eI g 48 (fun _ => 0)), (q9, eI g 24 (fun _ => 0)), (q10, eI g 24 (fun _ => 0)), (q11, eI g 5 (fun _ => 0)), (q12, .inr (0, [.ref y13, .int (iI 0)])), (y13, eI g 4 (fun _ => 0))]) (As := []) (rest := [.ref q14, .ref h0]) hx hb (hml.trans hl.1.symm) hown hts w lk_RX4_55 (fun sz => t_X1_init l g q14 sz) [14] [0, 1, 2, 3, 4, 5, 6, 7, 8, 9, 10, 11, 12, 13] rfl rfl rfl rfl (by decide) rfl rfl (Nat.le_of_ble_eq_true rfl) ⟨Nat.le_of_ble_eq_true rfl, Nat.le_of_ble_eq_true rfl⟩ ⟨Nat.le_of_ble_eq_true rfl, Nat.le_of_ble_eq_true rfl⟩ dX4_init_107 (fun v w1 H locs hr w => ?_)
  obtain ⟨rfl, y15, y16, y17, rfl⟩ := hr
  have w : Wd g A [(h0, .inr (4, [.ref q1, .ref q2, .ref q3, .ref q4, .ref q5, .ref q6, .ref q7, .ref q8, .ref q9, .ref q10, .ref q11, .ref q12, .null, .int (iI 0), .int (iI 0), .int (iI 0), .int (iI 0), .int (iI 0)])), (q1, eI g 6 (fun _ => 0)), (q2, eI g 6 (fun _ => 0)), (q3, eZ g 6 (fun _ => 0)), (q4, eI g 6 (fun _ => 0)), (q5, eI g 6 (fun _ => 0)), (q6, eI g 48 (fun _ => 0)), (q7, eI g 48 (fun _ => 0)), (q8, eI g 48 (fun _ => 0)), (q9, eI g 24 (fun _ => 0)), (q10, eI g 24 (fun _ => 0)), (q11, eI g 5 (fun _ => 0)), (q12, .inr (0, [.ref y13, .int (iI 0)])), (y13, eI g 4 (fun _ => 0)), (q14, .inr (1, [.ref y15, .ref y16, .ref y17, .int (iI 0)])), (y15, eI g 8 (fun _ => 0)), (y16, eI g 8 (fun _ => 0)), (y17, eI g 8 (fun _ => 0))] s H locs := w
  refine ri_putF hx hb hts hown w fX4 0 12 (W0_of k_fl_RX4_56 rfl) rfl (Nat.le_of_ble_eq_true rfl) (by decide) rfl hin rfl rfl rfl dX4_init_110 (fun H locs w => ?_)
  have w : Wd g A [(h0, .inr (4, [.ref q1, .ref q2, .ref q3, .ref q4, .ref q5, .ref q6, .ref q7, .ref q8, .ref q9, .ref q10, .ref q11, .ref q12, .ref q14, .int (iI 0), .int (iI 0), .int (iI 0), .int (iI 0), .int (iI 0)])), (q1, eI g 6 (fun _ => 0)), (q2, eI g 6 (fun _ => 0)), (q3, eZ g 6 (fun _ => 0)), (q4, eI g 6 (fun _ => 0)), (q5, eI g 6 (fun _ => 0)), (q6, eI g 48 (fun _ => 0)), (q7, eI g 48 (fun _ => 0)), (q8, eI g 48 (fun _ => 0)), (q9, eI g 24 (fun _ => 0)), (q10, eI g 24 (fun _ => 0)), (q11, eI g 5 (fun _ => 0)), (q12, .inr (0, [.ref y13, .int (iI 0)])), (y13, eI g 4 (fun _ => 0)), (q14, .inr (1, [.ref y15, .ref y16, .ref y17, .int (iI 0)])), (y15, eI g 8 (fun _ => 0)), (y16, eI g 8 (fun _ => 0)), (y17, eI g 8 (fun _ => 0))] s H locs := w
  refine lv_aload_n hx hb dX4_init_113 rfl (lv_at hl 0 rfl) ?_
  refine ri_iconst hx hb dX4_init_114 ?_
  refine ri_put hx hb hts hown w fX4 0 13 (W0_of k_fl_RX4_60 rfl) rfl (Nat.le_of_ble_eq_true rfl) (by decide) rfl rfl rfl dX4_init_115 (fun H locs w => ?_)
  have w : Wd g A [(h0, .inr (4, [.ref q1, .ref q2, .ref q3, .ref q4, .ref q5, .ref q6, .ref q7, .ref q8, .ref q9, .ref q10, .ref q11, .ref q12, .ref q14, .int (iI (-1)), .int (iI 0), .int (iI 0), .int (iI 0), .int (iI 0)])), (q1, eI g 6 (fun _ => 0)), (q2, eI g 6 (fun _ => 0)), (q3, eZ g 6 (fun _ => 0)), (q4, eI g 6 (fun _ => 0)), (q5, eI g 6 (fun _ => 0)), (q6, eI g 48 (fun _ => 0)), (q7, eI g 48 (fun _ => 0)), (q8, eI g 48 (fun _ => 0)), (q9, eI g 24 (fun _ => 0)), (q10, eI g 24 (fun _ => 0)), (q11, eI g 5 (fun _ => 0)), (q12, .inr (0, [.ref y13, .int (iI 0)])), (y13, eI g 4 (fun _ => 0)), (q14, .inr (1, [.ref y15, .ref y16, .ref y17, .int (iI 0)])), (y15, eI g 8 (fun _ => 0)), (y16, eI g 8 (fun _ => 0)), (y17, eI g 8 (fun _ => 0))] s H locs := w
  refine lv_aload_n hx hb dX4_init_118 rfl (lv_at hl 0 rfl) ?_
  refine ri_iconst hx hb dX4_init_119 ?_
  refine ri_put hx hb hts hown w fX4 0 14 (W0_of k_fl_RX4_64 rfl) rfl (Nat.le_of_ble_eq_true rfl) (by decide) rfl rfl rfl dX4_init_120 (fun H locs w => ?_)
  have w : Wd g A [(h0, .inr (4, [.ref q1, .ref q2, .ref q3, .ref q4, .ref q5, .ref q6, .ref q7, .ref q8, .ref q9, .ref q10, .ref q11, .ref q12, .ref q14, .int (iI (-1)), .int (iI 0), .int (iI 0), .int (iI 0), .int (iI 0)])), (q1, eI g 6 (fun _ => 0)), (q2, eI g 6 (fun _ => 0)), (q3, eZ g 6 (fun _ => 0)), (q4, eI g 6 (fun _ => 0)), (q5, eI g 6 (fun _ => 0)), (q6, eI g 48 (fun _ => 0)), (q7, eI g 48 (fun _ => 0)), (q8, eI g 48 (fun _ => 0)), (q9, eI g 24 (fun _ => 0)), (q10, eI g 24 (fun _ => 0)), (q11, eI g 5 (fun _ => 0)), (q12, .inr (0, [.ref y13, .int (iI 0)])), (y13, eI g 4 (fun _ => 0)), (q14, .inr (1, [.ref y15, .ref y16, .ref y17, .int (iI 0)])), (y15, eI g 8 (fun _ => 0)), (y16, eI g 8 (fun _ => 0)), (y17, eI g 8 (fun _ => 0))] s H locs := w
  refine lv_aload_n hx hb dX4_init_123 rfl (lv_at hl 0 rfl) ?_
  refine ri_iconst hx hb dX4_init_124 ?_
  refine ri_put hx hb hts hown w fX4 0 15 (W0_of k_fl_RX4_67 rfl) rfl (Nat.le_of_ble_eq_true rfl) (by decide) rfl rfl rfl dX4_init_125 (fun H locs w => ?_)
  have w : Wd g A [(h0, .inr (4, [.ref q1, .ref q2, .ref q3, .ref q4, .ref q5, .ref q6, .ref q7, .ref q8, .ref q9, .ref q10, .ref q11, .ref q12, .ref q14, .int (iI (-1)), .int (iI 0), .int (iI 0), .int (iI 0), .int (iI 0)])), (q1, eI g 6 (fun _ => 0)), (q2, eI g 6 (fun _ => 0)), (q3, eZ g 6 (fun _ => 0)), (q4, eI g 6 (fun _ => 0)), (q5, eI g 6 (fun _ => 0)), (q6, eI g 48 (fun _ => 0)), (q7, eI g 48 (fun _ => 0)), (q8, eI g 48 (fun _ => 0)), (q9, eI g 24 (fun _ => 0)), (q10, eI g 24 (fun _ => 0)), (q11, eI g 5 (fun _ => 0)), (q12, .inr (0, [.ref y13, .int (iI 0)])), (y13, eI g 4 (fun _ => 0)), (q14, .inr (1, [.ref y15, .ref y16, .ref y17, .int (iI 0)])), (y15, eI g 8 (fun _ => 0)), (y16, eI g 8 (fun _ => 0)), (y17, eI g 8 (fun _ => 0))] s H locs := w
  refine lv_aload_n hx hb dX4_init_128 rfl (lv_at hl 0 rfl) ?_
  refine ri_iconst hx hb dX4_init_129 ?_
  refine ri_put hx hb hts hown w fX4 0 16 (W0_of k_fl_RX4_70 rfl) rfl (Nat.le_of_ble_eq_true rfl) (by decide) rfl rfl rfl dX4_init_130 (fun H locs w => ?_)
  have w : Wd g A [(h0, .inr (4, [.ref q1, .ref q2, .ref q3, .ref q4, .ref q5, .ref q6, .ref q7, .ref q8, .ref q9, .ref q10, .ref q11, .ref q12, .ref q14, .int (iI (-1)), .int (iI 0), .int (iI 0), .int (iI 0), .int (iI 0)])), (q1, eI g 6 (fun _ => 0)), (q2, eI g 6 (fun _ => 0)), (q3, eZ g 6 (fun _ => 0)), (q4, eI g 6 (fun _ => 0)), (q5, eI g 6 (fun _ => 0)), (q6, eI g 48 (fun _ => 0)), (q7, eI g 48 (fun _ => 0)), (q8, eI g 48 (fun _ => 0)), (q9, eI g 24 (fun _ => 0)), (q10, eI g 24 (fun _ => 0)), (q11, eI g 5 (fun _ => 0)), (q12, .inr (0, [.ref y13, .int (iI 0)])), (y13, eI g 4 (fun _ => 0)), (q14, .inr (1, [.ref y15, .ref y16, .ref y17, .int (iI 0)])), (y15, eI g 8 (fun _ => 0)), (y16, eI g 8 (fun _ => 0)), (y17, eI g 8 (fun _ => 0))] s H locs := w
  refine lv_aload_n hx hb dX4_init_133 rfl (lv_at hl 0 rfl) ?_
  refine ri_iconst hx hb dX4_init_134 ?_
  refine ri_put hx hb hts hown w fX4 0 17 (W0_of k_fl_RX4_73 rfl) rfl (Nat.le_of_ble_eq_true rfl) (by decide) rfl rfl rfl dX4_init_135 (fun H locs w => ?_)
  have w : Wd g A [(h0, .inr (4, [.ref q1, .ref q2, .ref q3, .ref q4, .ref q5, .ref q6, .ref q7, .ref q8, .ref q9, .ref q10, .ref q11, .ref q12, .ref q14, .int (iI (-1)), .int (iI 0), .int (iI 0), .int (iI 0), .int (iI 0)])), (q1, eI g 6 (fun _ => 0)), (q2, eI g 6 (fun _ => 0)), (q3, eZ g 6 (fun _ => 0)), (q4, eI g 6 (fun _ => 0)), (q5, eI g 6 (fun _ => 0)), (q6, eI g 48 (fun _ => 0)), (q7, eI g 48 (fun _ => 0)), (q8, eI g 48 (fun _ => 0)), (q9, eI g 24 (fun _ => 0)), (q10, eI g 24 (fun _ => 0)), (q11, eI g 5 (fun _ => 0)), (q12, .inr (0, [.ref y13, .int (iI 0)])), (y13, eI g 4 (fun _ => 0)), (q14, .inr (1, [.ref y15, .ref y16, .ref y17, .int (iI 0)])), (y15, eI g 8 (fun _ => 0)), (y16, eI g 8 (fun _ => 0)), (y17, eI g 8 (fun _ => 0))] s H locs := w
  refine ri_gets (own := RX4) hx hb hown w 0 (by decide) (by simp [NNl, stn]) dX4_init_138 ?_
  refine ri_iconst hx hb dX4_init_141 ?_
  refine lv_aload_n hx hb dX4_init_142 rfl (lv_at hl 0 rfl) ?_
  refine ri_get (v := .ref q1) hx hb hts hown w fX4 0 0 (W0_of k_fl_RX4_9 rfl) rfl rfl (by decide) dX4_init_143 ?_
  refine ri_iconst hx hb dX4_init_146 ?_
  refine ri_bipush hx hb dX4_init_147 (by decide) ?_
  refine ri_copyT hx hb (hml.trans hl.1.symm) hown hts w (W0_of k_ml_RX4_79 rfl) 0 (by decide) 1 rfl rfl (z := 6) rfl (by decide) ⟨Nat.le_of_ble_eq_true rfl, Nat.le_of_ble_eq_true rfl⟩ dX4_init_149 (fun H locs w => ?_)
  have w : Wd g A [(h0, .inr (4, [.ref q1, .ref q2, .ref q3, .ref q4, .ref q5, .ref q6, .ref q7, .ref q8, .ref q9, .ref q10, .ref q11, .ref q12, .ref q14, .int (iI (-1)), .int (iI 0), .int (iI 0), .int (iI 0), .int (iI 0)])), (q1, eI g 6 (stf 0)), (q2, eI g 6 (fun _ => 0)), (q3, eZ g 6 (fun _ => 0)), (q4, eI g 6 (fun _ => 0)), (q5, eI g 6 (fun _ => 0)), (q6, eI g 48 (fun _ => 0)), (q7, eI g 48 (fun _ => 0)), (q8, eI g 48 (fun _ => 0)), (q9, eI g 24 (fun _ => 0)), (q10, eI g 24 (fun _ => 0)), (q11, eI g 5 (fun _ => 0)), (q12, .inr (0, [.ref y13, .int (iI 0)])), (y13, eI g 4 (fun _ => 0)), (q14, .inr (1, [.ref y15, .ref y16, .ref y17, .int (iI 0)])), (y15, eI g 8 (fun _ => 0)), (y16, eI g 8 (fun _ => 0)), (y17, eI g 8 (fun _ => 0))] s H locs := w
  refine ri_gets (own := RX4) hx hb hown w 1 (by decide) (by simp [NNl, stn]) dX4_init_152 ?_
  refine ri_iconst hx hb dX4_init_155 ?_
  refine lv_aload_n hx hb dX4_init_156 rfl (lv_at hl 0 rfl) ?_
  refine ri_get (v := .ref q11) hx hb hts hown w fX4 0 10 (W0_of k_fl_RX4_43 rfl) rfl rfl (by decide) dX4_init_157 ?_
  refine ri_iconst hx hb dX4_init_160 ?_
  refine ri_iconst hx hb dX4_init_161 ?_
  refine ri_copyT hx hb (hml.trans hl.1.symm) hown hts w (W0_of k_ml_RX4_79 rfl) 1 (by decide) 11 rfl rfl (z := 5) rfl (by decide) ⟨Nat.le_of_ble_eq_true rfl, Nat.le_of_ble_eq_true rfl⟩ dX4_init_162 (fun H locs w => ?_)
  have w : Wd g A [(h0, .inr (4, [.ref q1, .ref q2, .ref q3, .ref q4, .ref q5, .ref q6, .ref q7, .ref q8, .ref q9, .ref q10, .ref q11, .ref q12, .ref q14, .int (iI (-1)), .int (iI 0), .int (iI 0), .int (iI 0), .int (iI 0)])), (q1, eI g 6 (stf 0)), (q2, eI g 6 (fun _ => 0)), (q3, eZ g 6 (fun _ => 0)), (q4, eI g 6 (fun _ => 0)), (q5, eI g 6 (fun _ => 0)), (q6, eI g 48 (fun _ => 0)), (q7, eI g 48 (fun _ => 0)), (q8, eI g 48 (fun _ => 0)), (q9, eI g 24 (fun _ => 0)), (q10, eI g 24 (fun _ => 0)), (q11, eI g 5 (stf 1)), (q12, .inr (0, [.ref y13, .int (iI 0)])), (y13, eI g 4 (fun _ => 0)), (q14, .inr (1, [.ref y15, .ref y16, .ref y17, .int (iI 0)])), (y15, eI g 8 (fun _ => 0)), (y16, eI g 8 (fun _ => 0)), (y17, eI g 8 (fun _ => 0))] s H locs := w
  refine ri_iconst hx hb dX4_init_165 ?_
  refine lv_istore_n (lv' := [(1, .int (iI 0)), (0, .ref h0)]) hx hb dX4_init_166 rfl hl (by decide) rfl (fun ls hl => ?_)
  have w : Wd g A [(h0, .inr (4, [.ref q1, .ref q2, .ref q3, .ref q4, .ref q5, .ref q6, .ref q7, .ref q8, .ref q9, .ref q10, .ref q11, .ref q12, .ref q14, .int (iI (-1)), .int (iI 0), .int (iI 0), .int (iI 0), .int (iI 0)])), (q1, eI g 6 (stf 0)), (q2, eI g 6 (fun _ => 0)), (q3, eZ g 6 (fun _ => 0)), (q4, eI g 6 (fun _ => 0)), (q5, eI g 6 (fun _ => 0)), (q6, eI g 48 (fil 0)), (q7, eI g 48 (fun _ => 0)), (q8, eI g 48 (fun _ => 0)), (q9, eI g 24 (fun _ => 0)), (q10, eI g 24 (fun _ => 0)), (q11, eI g 5 (stf 1)), (q12, .inr (0, [.ref y13, .int (iI 0)])), (y13, eI g 4 (fun _ => 0)), (q14, .inr (1, [.ref y15, .ref y16, .ref y17, .int (iI 0)])), (y15, eI g 8 (fun _ => 0)), (y16, eI g 8 (fun _ => 0)), (y17, eI g 8 (fun _ => 0))] s H locs := by rw [fil_0]; exact w
  have L167 : ∀ (n : Nat) (xk : Int), (xk + n = 48) → (0 ≤ xk) → ∀ (ls : Array Slot) (H : Heap) (locs : List Loc), lv_has ls 2 [(0, .ref h0), (1, .int (iI xk))] → Wd g A [(h0, .inr (4, [.ref q1, .ref q2, .ref q3, .ref q4, .ref q5, .ref q6, .ref q7, .ref q8, .ref q9, .ref q10, .ref q11, .ref q12, .ref q14, .int (iI (-1)), .int (iI 0), .int (iI 0), .int (iI 0), .int (iI 0)])), (q1, eI g 6 (stf 0)), (q2, eI g 6 (fun _ => 0)), (q3, eZ g 6 (fun _ => 0)), (q4, eI g 6 (fun _ => 0)), (q5, eI g 6 (fun _ => 0)), (q6, eI g 48 (fil xk)), (q7, eI g 48 (fun _ => 0)), (q8, eI g 48 (fun _ => 0)), (q9, eI g 24 (fun _ => 0)), (q10, eI g 24 (fun _ => 0)), (q11, eI g 5 (stf 1)), (q12, .inr (0, [.ref y13, .int (iI 0)])), (y13, eI g 4 (fun _ => 0)), (q14, .inr (1, [.ref y15, .ref y16, .ref y17, .int (iI 0)])), (y15, eI g 8 (fun _ => 0)), (y16, eI g 8 (fun _ => 0)), (y17, eI g 8 (fun _ => 0))] s H locs → (∀ (ls : Array Slot) (H : Heap) (locs : List Loc), lv_has ls 2 [(0, .ref h0)] → Wd g A [(h0, .inr (4, [.ref q1, .ref q2, .ref q3, .ref q4, .ref q5, .ref q6, .ref q7, .ref q8, .ref q9, .ref q10, .ref q11, .ref q12, .ref q14, .int (iI (-1)), .int (iI 0), .int (iI 0), .int (iI 0), .int (iI 0)])), (q1, eI g 6 (stf 0)), (q2, eI g 6 (fun _ => 0)), (q3, eZ g 6 (fun _ => 0)), (q4, eI g 6 (fun _ => 0)), (q5, eI g 6 (fun _ => 0)), (q6, eI g 48 (fun _ => -1)), (q7, eI g 48 (fun _ => 0)), (q8, eI g 48 (fun _ => 0)), (q9, eI g 24 (fun _ => 0)), (q10, eI g 24 (fun _ => 0)), (q11, eI g 5 (stf 1)), (q12, .inr (0, [.ref y13, .int (iI 0)])), (y13, eI g 4 (fun _ => 0)), (q14, .inr (1, [.ref y15, .ref y16, .ref y17, .int (iI 0)])), (y15, eI g 8 (fun _ => 0)), (y16, eI g 8 (fun _ => 0)), (y17, eI g 8 (fun _ => 0))] s H locs → W p l e (rmm 3 17 261) s m args below meth c H locs 17 261 Q (F0 m 186 ls [])) → W p l e (rmm 3 17 261) s m args below meth c H locs 17 261 Q (F0 m 167 ls []) := by
    intro n
    induction n with
    | zero =>
      intro xk hn hlo ls H locs hl w kk167
      refine lv_iload_n hx hb dX4_init_167 rfl (lv_at hl 1 rfl) ?_
      refine ri_bipush hx hb dX4_init_168 (by decide) ?_
      refine ri_icmp_ge (tgt := 186) hx hb dX4_init_170 (by decide) (by omega) (by omega) (fun c18 => ?_) (fun c18 => ?_)
      · have w := w.re 6 (f' := fun _ => -1) rfl (fun i q0 q1 => if_pos ⟨q0, by omega⟩)
        have w : Wd g A [(h0, .inr (4, [.ref q1, .ref q2, .ref q3, .ref q4, .ref q5, .ref q6, .ref q7, .ref q8, .ref q9, .ref q10, .ref q11, .ref q12, .ref q14, .int (iI (-1)), .int (iI 0), .int (iI 0), .int (iI 0), .int (iI 0)])), (q1, eI g 6 (stf 0)), (q2, eI g 6 (fun _ => 0)), (q3, eZ g 6 (fun _ => 0)), (q4, eI g 6 (fun _ => 0)), (q5, eI g 6 (fun _ => 0)), (q6, eI g 48 (fun _ => -1)), (q7, eI g 48 (fun _ => 0)), (q8, eI g 48 (fun _ => 0)), (q9, eI g 24 (fun _ => 0)), (q10, eI g 24 (fun _ => 0)), (q11, eI g 5 (stf 1)), (q12, .inr (0, [.ref y13, .int (iI 0)])), (y13, eI g 4 (fun _ => 0)), (q14, .inr (1, [.ref y15, .ref y16, .ref y17, .int (iI 0)])), (y15, eI g 8 (fun _ => 0)), (y16, eI g 8 (fun _ => 0)), (y17, eI g 8 (fun _ => 0))] s H locs := w
        exact kk167  ls H locs  (lv_sub hl [0] rfl) w
      · exact absurd c18 (by omega)
    | succ n ih167 =>
      intro xk hn hlo ls H locs hl w kk167
      refine lv_iload_n hx hb dX4_init_167 rfl (lv_at hl 1 rfl) ?_
      refine ri_bipush hx hb dX4_init_168 (by decide) ?_
      refine ri_icmp_ge (tgt := 186) hx hb dX4_init_170 (by decide) (by omega) (by omega) (fun c19 => ?_) (fun c19 => ?_)
      · exact absurd c19 (by omega)
      refine lv_aload_n hx hb dX4_init_173 rfl (lv_at hl 0 rfl) ?_
      refine ri_get (v := .ref q6) hx hb hts hown w fX4 0 5 (W0_of k_fl_RX4_28 rfl) rfl rfl (by decide) dX4_init_174 ?_
      refine lv_iload_n hx hb dX4_init_177 rfl (lv_at hl 1 rfl) ?_
      refine ri_iconst hx hb dX4_init_178 ?_
      refine ri_iast hx hb w 6 rfl (by omega) dX4_init_179 (by omega) (fun H locs w => ?_)
      have w : Wd g A [(h0, .inr (4, [.ref q1, .ref q2, .ref q3, .ref q4, .ref q5, .ref q6, .ref q7, .ref q8, .ref q9, .ref q10, .ref q11, .ref q12, .ref q14, .int (iI (-1)), .int (iI 0), .int (iI 0), .int (iI 0), .int (iI 0)])), (q1, eI g 6 (stf 0)), (q2, eI g 6 (fun _ => 0)), (q3, eZ g 6 (fun _ => 0)), (q4, eI g 6 (fun _ => 0)), (q5, eI g 6 (fun _ => 0)), (q6, eI g 48 (up (fil xk) xk (-1))), (q7, eI g 48 (fun _ => 0)), (q8, eI g 48 (fun _ => 0)), (q9, eI g 24 (fun _ => 0)), (q10, eI g 24 (fun _ => 0)), (q11, eI g 5 (stf 1)), (q12, .inr (0, [.ref y13, .int (iI 0)])), (y13, eI g 4 (fun _ => 0)), (q14, .inr (1, [.ref y15, .ref y16, .ref y17, .int (iI 0)])), (y15, eI g 8 (fun _ => 0)), (y16, eI g 8 (fun _ => 0)), (y17, eI g 8 (fun _ => 0))] s H locs := w
      refine ri_iinc (k := 1) (z := xk + 1) (lv' := [(1, .int (iI (xk + 1))), (0, .ref h0)]) hx hb dX4_init_180 hl rfl (by omega) (by decide) rfl (fun ls hl => ?_)
      refine lv_goto (tgt := 167) hx hb dX4_init_183 (by decide) ?_
      rw [fil_s (by omega)] at w
      exact ih167 (xk + 1)  (by omega) (by omega) ls H locs (lv_sub hl [1, 0] rfl) w kk167
  refine L167 48 0  (by omega) (by omega) ls H locs (lv_sub hl [1, 0] rfl) w (fun ls H locs hl w => ?_)
  refine ri_iconst hx hb dX4_init_186 ?_
  refine lv_istore_n (lv' := [(1, .int (iI 0)), (0, .ref h0)]) hx hb dX4_init_187 rfl hl (by decide) rfl (fun ls hl => ?_)
  have w : Wd g A [(h0, .inr (4, [.ref q1, .ref q2, .ref q3, .ref q4, .ref q5, .ref q6, .ref q7, .ref q8, .ref q9, .ref q10, .ref q11, .ref q12, .ref q14, .int (iI (-1)), .int (iI 0), .int (iI 0), .int (iI 0), .int (iI 0)])), (q1, eI g 6 (stf 0)), (q2, eI g 6 (fun _ => 0)), (q3, eZ g 6 (fun _ => 0)), (q4, eI g 6 (fun _ => 0)), (q5, eI g 6 (fun _ => 0)), (q6, eI g 48 (fun _ => -1)), (q7, eI g 48 (fun _ => 0)), (q8, eI g 48 (fun _ => 0)), (q9, eI g 24 (fil 0)), (q10, eI g 24 (fun _ => 0)), (q11, eI g 5 (stf 1)), (q12, .inr (0, [.ref y13, .int (iI 0)])), (y13, eI g 4 (fun _ => 0)), (q14, .inr (1, [.ref y15, .ref y16, .ref y17, .int (iI 0)])), (y15, eI g 8 (fun _ => 0)), (y16, eI g 8 (fun _ => 0)), (y17, eI g 8 (fun _ => 0))] s H locs := by rw [fil_0]; exact w
  have L188 : ∀ (n : Nat) (xk : Int), (xk + n = 24) → (0 ≤ xk) → ∀ (ls : Array Slot) (H : Heap) (locs : List Loc), lv_has ls 2 [(0, .ref h0), (1, .int (iI xk))] → Wd g A [(h0, .inr (4, [.ref q1, .ref q2, .ref q3, .ref q4, .ref q5, .ref q6, .ref q7, .ref q8, .ref q9, .ref q10, .ref q11, .ref q12, .ref q14, .int (iI (-1)), .int (iI 0), .int (iI 0), .int (iI 0), .int (iI 0)])), (q1, eI g 6 (stf 0)), (q2, eI g 6 (fun _ => 0)), (q3, eZ g 6 (fun _ => 0)), (q4, eI g 6 (fun _ => 0)), (q5, eI g 6 (fun _ => 0)), (q6, eI g 48 (fun _ => -1)), (q7, eI g 48 (fun _ => 0)), (q8, eI g 48 (fun _ => 0)), (q9, eI g 24 (fil xk)), (q10, eI g 24 (fun _ => 0)), (q11, eI g 5 (stf 1)), (q12, .inr (0, [.ref y13, .int (iI 0)])), (y13, eI g 4 (fun _ => 0)), (q14, .inr (1, [.ref y15, .ref y16, .ref y17, .int (iI 0)])), (y15, eI g 8 (fun _ => 0)), (y16, eI g 8 (fun _ => 0)), (y17, eI g 8 (fun _ => 0))] s H locs → (∀ (ls : Array Slot) (H : Heap) (locs : List Loc), lv_has ls 2 [] → Wd g A [(h0, .inr (4, [.ref q1, .ref q2, .ref q3, .ref q4, .ref q5, .ref q6, .ref q7, .ref q8, .ref q9, .ref q10, .ref q11, .ref q12, .ref q14, .int (iI (-1)), .int (iI 0), .int (iI 0), .int (iI 0), .int (iI 0)])), (q1, eI g 6 (stf 0)), (q2, eI g 6 (fun _ => 0)), (q3, eZ g 6 (fun _ => 0)), (q4, eI g 6 (fun _ => 0)), (q5, eI g 6 (fun _ => 0)), (q6, eI g 48 (fun _ => -1)), (q7, eI g 48 (fun _ => 0)), (q8, eI g 48 (fun _ => 0)), (q9, eI g 24 (fun _ => -1)), (q10, eI g 24 (fun _ => 0)), (q11, eI g 5 (stf 1)), (q12, .inr (0, [.ref y13, .int (iI 0)])), (y13, eI g 4 (fun _ => 0)), (q14, .inr (1, [.ref y15, .ref y16, .ref y17, .int (iI 0)])), (y15, eI g 8 (fun _ => 0)), (y16, eI g 8 (fun _ => 0)), (y17, eI g 8 (fun _ => 0))] s H locs → W p l e (rmm 3 17 261) s m args below meth c H locs 17 261 Q (F0 m 207 ls [])) → W p l e (rmm 3 17 261) s m args below meth c H locs 17 261 Q (F0 m 188 ls []) := by
    intro n
    induction n with
    | zero =>
      intro xk hn hlo ls H locs hl w kk188
      refine lv_iload_n hx hb dX4_init_188 rfl (lv_at hl 1 rfl) ?_
      refine ri_bipush hx hb dX4_init_189 (by decide) ?_
      refine ri_icmp_ge (tgt := 207) hx hb dX4_init_191 (by decide) (by omega) (by omega) (fun c20 => ?_) (fun c20 => ?_)
      · have w := w.re 9 (f' := fun _ => -1) rfl (fun i q0 q1 => if_pos ⟨q0, by omega⟩)
        have w : Wd g A [(h0, .inr (4, [.ref q1, .ref q2, .ref q3, .ref q4, .ref q5, .ref q6, .ref q7, .ref q8, .ref q9, .ref q10, .ref q11, .ref q12, .ref q14, .int (iI (-1)), .int (iI 0), .int (iI 0), .int (iI 0), .int (iI 0)])), (q1, eI g 6 (stf 0)), (q2, eI g 6 (fun _ => 0)), (q3, eZ g 6 (fun _ => 0)), (q4, eI g 6 (fun _ => 0)), (q5, eI g 6 (fun _ => 0)), (q6, eI g 48 (fun _ => -1)), (q7, eI g 48 (fun _ => 0)), (q8, eI g 48 (fun _ => 0)), (q9, eI g 24 (fun _ => -1)), (q10, eI g 24 (fun _ => 0)), (q11, eI g 5 (stf 1)), (q12, .inr (0, [.ref y13, .int (iI 0)])), (y13, eI g 4 (fun _ => 0)), (q14, .inr (1, [.ref y15, .ref y16, .ref y17, .int (iI 0)])), (y15, eI g 8 (fun _ => 0)), (y16, eI g 8 (fun _ => 0)), (y17, eI g 8 (fun _ => 0))] s H locs := w
        exact kk188  ls H locs  (lv_sub hl [] rfl) w
      · exact absurd c20 (by omega)
    | succ n ih188 =>
      intro xk hn hlo ls H locs hl w kk188
      refine lv_iload_n hx hb dX4_init_188 rfl (lv_at hl 1 rfl) ?_
      refine ri_bipush hx hb dX4_init_189 (by decide) ?_
      refine ri_icmp_ge (tgt := 207) hx hb dX4_init_191 (by decide) (by omega) (by omega) (fun c21 => ?_) (fun c21 => ?_)
      · exact absurd c21 (by omega)
      refine lv_aload_n hx hb dX4_init_194 rfl (lv_at hl 0 rfl) ?_
      refine ri_get (v := .ref q9) hx hb hts hown w fX4 0 8 (W0_of k_fl_RX4_37 rfl) rfl rfl (by decide) dX4_init_195 ?_
      refine lv_iload_n hx hb dX4_init_198 rfl (lv_at hl 1 rfl) ?_
      refine ri_iconst hx hb dX4_init_199 ?_
      refine ri_iast hx hb w 9 rfl (by omega) dX4_init_200 (by omega) (fun H locs w => ?_)
      have w : Wd g A [(h0, .inr (4, [.ref q1, .ref q2, .ref q3, .ref q4, .ref q5, .ref q6, .ref q7, .ref q8, .ref q9, .ref q10, .ref q11, .ref q12, .ref q14, .int (iI (-1)), .int (iI 0), .int (iI 0), .int (iI 0), .int (iI 0)])), (q1, eI g 6 (stf 0)), (q2, eI g 6 (fun _ => 0)), (q3, eZ g 6 (fun _ => 0)), (q4, eI g 6 (fun _ => 0)), (q5, eI g 6 (fun _ => 0)), (q6, eI g 48 (fun _ => -1)), (q7, eI g 48 (fun _ => 0)), (q8, eI g 48 (fun _ => 0)), (q9, eI g 24 (up (fil xk) xk (-1))), (q10, eI g 24 (fun _ => 0)), (q11, eI g 5 (stf 1)), (q12, .inr (0, [.ref y13, .int (iI 0)])), (y13, eI g 4 (fun _ => 0)), (q14, .inr (1, [.ref y15, .ref y16, .ref y17, .int (iI 0)])), (y15, eI g 8 (fun _ => 0)), (y16, eI g 8 (fun _ => 0)), (y17, eI g 8 (fun _ => 0))] s H locs := w
      refine ri_iinc (k := 1) (z := xk + 1) (lv' := [(1, .int (iI (xk + 1))), (0, .ref h0)]) hx hb dX4_init_201 hl rfl (by omega) (by decide) rfl (fun ls hl => ?_)
      refine lv_goto (tgt := 188) hx hb dX4_init_204 (by decide) ?_
      rw [fil_s (by omega)] at w
      exact ih188 (xk + 1)  (by omega) (by omega) ls H locs (lv_sub hl [1, 0] rfl) w kk188
  refine L188 24 0  (by omega) (by omega) ls H locs (lv_sub hl [1, 0] rfl) w (fun ls H locs hl w => ?_)
  have w := w.perm (wc := st_ws g (adr [h0, q1, q2, q3, q4, q5, q6, q7, q8, q9, q10, q11, q12, q14, y13, y15, y16, y17]) T_0) [0, 1, 2, 3, 4, 5, 6, 7, 8, 9, 10, 11, 12, 14, 13, 15, 16, 17] (by decide) rfl
  exact hend.1 rfl _ _ _ _ _ dX4_init_207 w ⟨rfl, adr [h0, q1, q2, q3, q4, q5, q6, q7, q8, q9, q10, q11, q12, q14, y13, y15, y16, y17], rfl, rfl⟩
