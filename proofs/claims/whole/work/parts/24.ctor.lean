set_option maxHeartbeats 4000000 in
set_option maxRecDepth 100000 in
theorem t_X6_init (l : Launch) (g : GG) (h0 : Nat) (sz : Nat) : Met l yX6_init (wm yX6_init cX6_init 2 none) (rmm 1 8 2020) (pW g [(h0, .inr (6, [.null, .null, .null, .null, .int (iI 0), .null, .int (iI 0), .null, .int (iI 0), .int (iI 0), .int (iI 0), .null, .int (iI 0), .null, .int (iI 0)]))] sz [.ref h0]) (qW g [(h0, .inr (6, [.null, .null, .null, .null, .int (iI 0), .null, .int (iI 0), .null, .int (iI 0), .int (iI 0), .int (iI 0), .null, .int (iI 0), .null, .int (iI 0)]))] (fun vv ww => vv = none ∧ ∃ b : Nat → Nat, b 0 = h0 ∧ ww = mo_ws g b b_0 (fun _ _ => 0))) 8 2020 (va_A [(h0, .inr (6, [.null, .null, .null, .null, .int (iI 0), .null, .int (iI 0), .null, .int (iI 0), .int (iI 0), .int (iI 0), .null, .int (iI 0), .null, .int (iI 0)]))] sz) := by
  refine met_w (by decide) (Nat.le_of_ble_eq_true rfl) ?_
  intro p e s m args below meth c Q ls A hx hb hml hown hts hl w hin hend
  obtain ⟨H, hH0⟩ : ∃ H, H = s.heap := ⟨_, rfl⟩
  obtain ⟨locs, hL0⟩ : ∃ locs : List Loc, locs = [] := ⟨_, rfl⟩
  rw [← hH0, ← hL0] at w
  rw [← hH0, ← hL0]
  have hin := hin rfl
  have hl : lv_has ls 2 [(0, .ref h0)] := hl
  refine lv_aload_n hx hb dX6_init_0 rfl (lv_at hl 0 rfl) ?_
  refine ri_objInit hx hb (hml.trans hl.1.symm) hown hts (W0_of k_ml_RX6_1 rfl) ⟨Nat.le_of_ble_eq_true rfl, Nat.le_of_ble_eq_true rfl⟩ dX6_init_1 ?_
  refine lv_aload_n hx hb dX6_init_4 rfl (lv_at hl 0 rfl) ?_
  refine ri_sipush hx hb dX6_init_5 (by decide) ?_
  refine ri_newaI (N' := 233) hx hb hts w (by omega) (by omega) ⟨Nat.le_of_ble_eq_true rfl, Nat.le_of_ble_eq_true rfl⟩ dX6_init_8 (fun q1 H w => ?_)
  have w : Wd g A [(h0, .inr (6, [.null, .null, .null, .null, .int (iI 0), .null, .int (iI 0), .null, .int (iI 0), .int (iI 0), .int (iI 0), .null, .int (iI 0), .null, .int (iI 0)])), (q1, eI g 233 (fun _ => 0))] s H locs := w
  refine ri_putF hx hb hts hown w fX6 0 0 (W0_of k_fl_RX6_7 rfl) rfl (Nat.le_of_ble_eq_true rfl) (by decide) rfl hin rfl rfl rfl dX6_init_10 (fun H locs w => ?_)
  have w : Wd g A [(h0, .inr (6, [.ref q1, .null, .null, .null, .int (iI 0), .null, .int (iI 0), .null, .int (iI 0), .int (iI 0), .int (iI 0), .null, .int (iI 0), .null, .int (iI 0)])), (q1, eI g 233 (fun _ => 0))] s H locs := w
  refine lv_aload_n hx hb dX6_init_13 rfl (lv_at hl 0 rfl) ?_
  refine ri_sipush hx hb dX6_init_14 (by decide) ?_
  refine ri_newaI (N' := 233) hx hb hts w (by omega) (by omega) ⟨Nat.le_of_ble_eq_true rfl, Nat.le_of_ble_eq_true rfl⟩ dX6_init_17 (fun q2 H w => ?_)
  have w : Wd g A [(h0, .inr (6, [.ref q1, .null, .null, .null, .int (iI 0), .null, .int (iI 0), .null, .int (iI 0), .int (iI 0), .int (iI 0), .null, .int (iI 0), .null, .int (iI 0)])), (q1, eI g 233 (fun _ => 0)), (q2, eI g 233 (fun _ => 0))] s H locs := w
  refine ri_putF hx hb hts hown w fX6 0 1 (W0_of k_fl_RX6_13 rfl) rfl (Nat.le_of_ble_eq_true rfl) (by decide) rfl hin rfl rfl rfl dX6_init_19 (fun H locs w => ?_)
  have w : Wd g A [(h0, .inr (6, [.ref q1, .ref q2, .null, .null, .int (iI 0), .null, .int (iI 0), .null, .int (iI 0), .int (iI 0), .int (iI 0), .null, .int (iI 0), .null, .int (iI 0)])), (q1, eI g 233 (fun _ => 0)), (q2, eI g 233 (fun _ => 0))] s H locs := w
  refine lv_aload_n hx hb dX6_init_22 rfl (lv_at hl 0 rfl) ?_
  refine ri_sipush hx hb dX6_init_23 (by decide) ?_
  refine ri_newaI (N' := 233) hx hb hts w (by omega) (by omega) ⟨Nat.le_of_ble_eq_true rfl, Nat.le_of_ble_eq_true rfl⟩ dX6_init_26 (fun q3 H w => ?_)
  have w : Wd g A [(h0, .inr (6, [.ref q1, .ref q2, .null, .null, .int (iI 0), .null, .int (iI 0), .null, .int (iI 0), .int (iI 0), .int (iI 0), .null, .int (iI 0), .null, .int (iI 0)])), (q1, eI g 233 (fun _ => 0)), (q2, eI g 233 (fun _ => 0)), (q3, eI g 233 (fun _ => 0))] s H locs := w
  refine ri_putF hx hb hts hown w fX6 0 2 (W0_of k_fl_RX6_16 rfl) rfl (Nat.le_of_ble_eq_true rfl) (by decide) rfl hin rfl rfl rfl dX6_init_28 (fun H locs w => ?_)
  have w : Wd g A [(h0, .inr (6, [.ref q1, .ref q2, .ref q3, .null, .int (iI 0), .null, .int (iI 0), .null, .int (iI 0), .int (iI 0), .int (iI 0), .null, .int (iI 0), .null, .int (iI 0)])), (q1, eI g 233 (fun _ => 0)), (q2, eI g 233 (fun _ => 0)), (q3, eI g 233 (fun _ => 0))] s H locs := w
  refine lv_aload_n hx hb dX6_init_31 rfl (lv_at hl 0 rfl) ?_
  refine ri_sipush hx hb dX6_init_32 (by decide) ?_
  refine ri_newaI (N' := 932) hx hb hts w (by omega) (by omega) ⟨Nat.le_of_ble_eq_true rfl, Nat.le_of_ble_eq_true rfl⟩ dX6_init_35 (fun q4 H w => ?_)
  have w : Wd g A [(h0, .inr (6, [.ref q1, .ref q2, .ref q3, .null, .int (iI 0), .null, .int (iI 0), .null, .int (iI 0), .int (iI 0), .int (iI 0), .null, .int (iI 0), .null, .int (iI 0)])), (q1, eI g 233 (fun _ => 0)), (q2, eI g 233 (fun _ => 0)), (q3, eI g 233 (fun _ => 0)), (q4, eI g 932 (fun _ => 0))] s H locs := w
  refine ri_putF hx hb hts hown w fX6 0 3 (W0_of k_fl_RX6_19 rfl) rfl (Nat.le_of_ble_eq_true rfl) (by decide) rfl hin rfl rfl rfl dX6_init_37 (fun H locs w => ?_)
  have w : Wd g A [(h0, .inr (6, [.ref q1, .ref q2, .ref q3, .ref q4, .int (iI 0), .null, .int (iI 0), .null, .int (iI 0), .int (iI 0), .int (iI 0), .null, .int (iI 0), .null, .int (iI 0)])), (q1, eI g 233 (fun _ => 0)), (q2, eI g 233 (fun _ => 0)), (q3, eI g 233 (fun _ => 0)), (q4, eI g 932 (fun _ => 0))] s H locs := w
  refine lv_aload_n hx hb dX6_init_40 rfl (lv_at hl 0 rfl) ?_
  refine ri_sipush hx hb dX6_init_41 (by decide) ?_
  refine ri_newaI (N' := 233) hx hb hts w (by omega) (by omega) ⟨Nat.le_of_ble_eq_true rfl, Nat.le_of_ble_eq_true rfl⟩ dX6_init_44 (fun q5 H w => ?_)
  have w : Wd g A [(h0, .inr (6, [.ref q1, .ref q2, .ref q3, .ref q4, .int (iI 0), .null, .int (iI 0), .null, .int (iI 0), .int (iI 0), .int (iI 0), .null, .int (iI 0), .null, .int (iI 0)])), (q1, eI g 233 (fun _ => 0)), (q2, eI g 233 (fun _ => 0)), (q3, eI g 233 (fun _ => 0)), (q4, eI g 932 (fun _ => 0)), (q5, eI g 233 (fun _ => 0))] s H locs := w
  refine ri_putF hx hb hts hown w fX6 0 5 (W0_of k_fl_RX6_22 rfl) rfl (Nat.le_of_ble_eq_true rfl) (by decide) rfl hin rfl rfl rfl dX6_init_46 (fun H locs w => ?_)
  have w : Wd g A [(h0, .inr (6, [.ref q1, .ref q2, .ref q3, .ref q4, .int (iI 0), .ref q5, .int (iI 0), .null, .int (iI 0), .int (iI 0), .int (iI 0), .null, .int (iI 0), .null, .int (iI 0)])), (q1, eI g 233 (fun _ => 0)), (q2, eI g 233 (fun _ => 0)), (q3, eI g 233 (fun _ => 0)), (q4, eI g 932 (fun _ => 0)), (q5, eI g 233 (fun _ => 0))] s H locs := w
  refine lv_aload_n hx hb dX6_init_49 rfl (lv_at hl 0 rfl) ?_
  refine ri_bipush hx hb dX6_init_50 (by decide) ?_
  refine ri_newaI (N' := 60) hx hb hts w (by omega) (by omega) ⟨Nat.le_of_ble_eq_true rfl, Nat.le_of_ble_eq_true rfl⟩ dX6_init_52 (fun q6 H w => ?_)
  have w : Wd g A [(h0, .inr (6, [.ref q1, .ref q2, .ref q3, .ref q4, .int (iI 0), .ref q5, .int (iI 0), .null, .int (iI 0), .int (iI 0), .int (iI 0), .null, .int (iI 0), .null, .int (iI 0)])), (q1, eI g 233 (fun _ => 0)), (q2, eI g 233 (fun _ => 0)), (q3, eI g 233 (fun _ => 0)), (q4, eI g 932 (fun _ => 0)), (q5, eI g 233 (fun _ => 0)), (q6, eI g 60 (fun _ => 0))] s H locs := w
  refine ri_putF hx hb hts hown w fX6 0 7 (W0_of k_fl_RX6_25 rfl) rfl (Nat.le_of_ble_eq_true rfl) (by decide) rfl hin rfl rfl rfl dX6_init_54 (fun H locs w => ?_)
  have w : Wd g A [(h0, .inr (6, [.ref q1, .ref q2, .ref q3, .ref q4, .int (iI 0), .ref q5, .int (iI 0), .ref q6, .int (iI 0), .int (iI 0), .int (iI 0), .null, .int (iI 0), .null, .int (iI 0)])), (q1, eI g 233 (fun _ => 0)), (q2, eI g 233 (fun _ => 0)), (q3, eI g 233 (fun _ => 0)), (q4, eI g 932 (fun _ => 0)), (q5, eI g 233 (fun _ => 0)), (q6, eI g 60 (fun _ => 0))] s H locs := w
  refine lv_aload_n hx hb dX6_init_57 rfl (lv_at hl 0 rfl) ?_
  refine ri_bipush hx hb dX6_init_58 (by decide) ?_
  refine ri_newaI (N' := 93) hx hb hts w (by omega) (by omega) ⟨Nat.le_of_ble_eq_true rfl, Nat.le_of_ble_eq_true rfl⟩ dX6_init_60 (fun q7 H w => ?_)
  have w : Wd g A [(h0, .inr (6, [.ref q1, .ref q2, .ref q3, .ref q4, .int (iI 0), .ref q5, .int (iI 0), .ref q6, .int (iI 0), .int (iI 0), .int (iI 0), .null, .int (iI 0), .null, .int (iI 0)])), (q1, eI g 233 (fun _ => 0)), (q2, eI g 233 (fun _ => 0)), (q3, eI g 233 (fun _ => 0)), (q4, eI g 932 (fun _ => 0)), (q5, eI g 233 (fun _ => 0)), (q6, eI g 60 (fun _ => 0)), (q7, eI g 93 (fun _ => 0))] s H locs := w
  refine ri_putF hx hb hts hown w fX6 0 11 (W0_of k_fl_RX6_28 rfl) rfl (Nat.le_of_ble_eq_true rfl) (by decide) rfl hin rfl rfl rfl dX6_init_62 (fun H locs w => ?_)
  have w : Wd g A [(h0, .inr (6, [.ref q1, .ref q2, .ref q3, .ref q4, .int (iI 0), .ref q5, .int (iI 0), .ref q6, .int (iI 0), .int (iI 0), .int (iI 0), .ref q7, .int (iI 0), .null, .int (iI 0)])), (q1, eI g 233 (fun _ => 0)), (q2, eI g 233 (fun _ => 0)), (q3, eI g 233 (fun _ => 0)), (q4, eI g 932 (fun _ => 0)), (q5, eI g 233 (fun _ => 0)), (q6, eI g 60 (fun _ => 0)), (q7, eI g 93 (fun _ => 0))] s H locs := w
  refine lv_aload_n hx hb dX6_init_65 rfl (lv_at hl 0 rfl) ?_
  refine ri_iconst hx hb dX6_init_66 ?_
  refine ri_newaI (N' := 3) hx hb hts w (by omega) (by omega) ⟨Nat.le_of_ble_eq_true rfl, Nat.le_of_ble_eq_true rfl⟩ dX6_init_67 (fun q8 H w => ?_)
  have w : Wd g A [(h0, .inr (6, [.ref q1, .ref q2, .ref q3, .ref q4, .int (iI 0), .ref q5, .int (iI 0), .ref q6, .int (iI 0), .int (iI 0), .int (iI 0), .ref q7, .int (iI 0), .null, .int (iI 0)])), (q1, eI g 233 (fun _ => 0)), (q2, eI g 233 (fun _ => 0)), (q3, eI g 233 (fun _ => 0)), (q4, eI g 932 (fun _ => 0)), (q5, eI g 233 (fun _ => 0)), (q6, eI g 60 (fun _ => 0)), (q7, eI g 93 (fun _ => 0)), (q8, eI g 3 (fun _ => 0))] s H locs := w
  refine ri_putF hx hb hts hown w fX6 0 13 (W0_of k_fl_RX6_31 rfl) rfl (Nat.le_of_ble_eq_true rfl) (by decide) rfl hin rfl rfl rfl dX6_init_69 (fun H locs w => ?_)
  have w : Wd g A [(h0, .inr (6, [.ref q1, .ref q2, .ref q3, .ref q4, .int (iI 0), .ref q5, .int (iI 0), .ref q6, .int (iI 0), .int (iI 0), .int (iI 0), .ref q7, .int (iI 0), .ref q8, .int (iI 0)])), (q1, eI g 233 (fun _ => 0)), (q2, eI g 233 (fun _ => 0)), (q3, eI g 233 (fun _ => 0)), (q4, eI g 932 (fun _ => 0)), (q5, eI g 233 (fun _ => 0)), (q6, eI g 60 (fun _ => 0)), (q7, eI g 93 (fun _ => 0)), (q8, eI g 3 (fun _ => 0))] s H locs := w
  refine lv_aload_n hx hb dX6_init_72 rfl (lv_at hl 0 rfl) ?_
  refine ri_get (v := .ref q1) hx hb hts hown w fX6 0 0 (W0_of k_fl_RX6_7 rfl) rfl rfl (by decide) dX6_init_73 ?_
  refine ri_iconst hx hb dX6_init_76 ?_
  refine ri_bipush hx hb dX6_init_77 (by decide) ?_
  refine ri_iast hx hb w 1 rfl (by omega) dX6_init_79 (by omega) (fun H locs w => ?_)
  have w : Wd g A [(h0, .inr (6, [.ref q1, .ref q2, .ref q3, .ref q4, .int (iI 0), .ref q5, .int (iI 0), .ref q6, .int (iI 0), .int (iI 0), .int (iI 0), .ref q7, .int (iI 0), .ref q8, .int (iI 0)])), (q1, eI g 233 (up (fun _ => 0) 1 75)), (q2, eI g 233 (fun _ => 0)), (q3, eI g 233 (fun _ => 0)), (q4, eI g 932 (fun _ => 0)), (q5, eI g 233 (fun _ => 0)), (q6, eI g 60 (fun _ => 0)), (q7, eI g 93 (fun _ => 0)), (q8, eI g 3 (fun _ => 0))] s H locs := w
  refine lv_aload_n hx hb dX6_init_80 rfl (lv_at hl 0 rfl) ?_
  refine ri_get (v := .ref q1) hx hb hts hown w fX6 0 0 (W0_of k_fl_RX6_7 rfl) rfl rfl (by decide) dX6_init_81 ?_
  refine ri_iconst hx hb dX6_init_84 ?_
  refine ri_sipush hx hb dX6_init_85 (by decide) ?_
  refine ri_iast hx hb w 1 rfl (by omega) dX6_init_88 (by omega) (fun H locs w => ?_)
  have w : Wd g A [(h0, .inr (6, [.ref q1, .ref q2, .ref q3, .ref q4, .int (iI 0), .ref q5, .int (iI 0), .ref q6, .int (iI 0), .int (iI 0), .int (iI 0), .ref q7, .int (iI 0), .ref q8, .int (iI 0)])), (q1, eI g 233 (up (up (fun _ => 0) 1 75) 2 200)), (q2, eI g 233 (fun _ => 0)), (q3, eI g 233 (fun _ => 0)), (q4, eI g 932 (fun _ => 0)), (q5, eI g 233 (fun _ => 0)), (q6, eI g 60 (fun _ => 0)), (q7, eI g 93 (fun _ => 0)), (q8, eI g 3 (fun _ => 0))] s H locs := w
  refine lv_aload_n hx hb dX6_init_89 rfl (lv_at hl 0 rfl) ?_
  refine ri_get (v := .ref q1) hx hb hts hown w fX6 0 0 (W0_of k_fl_RX6_7 rfl) rfl rfl (by decide) dX6_init_90 ?_
  refine ri_iconst hx hb dX6_init_93 ?_
  refine ri_iconst hx hb dX6_init_94 ?_
  refine ri_iast hx hb w 1 rfl (by omega) dX6_init_95 (by omega) (fun H locs w => ?_)
  have w : Wd g A [(h0, .inr (6, [.ref q1, .ref q2, .ref q3, .ref q4, .int (iI 0), .ref q5, .int (iI 0), .ref q6, .int (iI 0), .int (iI 0), .int (iI 0), .ref q7, .int (iI 0), .ref q8, .int (iI 0)])), (q1, eI g 233 (up (up (up (fun _ => 0) 1 75) 2 200) 3 1)), (q2, eI g 233 (fun _ => 0)), (q3, eI g 233 (fun _ => 0)), (q4, eI g 932 (fun _ => 0)), (q5, eI g 233 (fun _ => 0)), (q6, eI g 60 (fun _ => 0)), (q7, eI g 93 (fun _ => 0)), (q8, eI g 3 (fun _ => 0))] s H locs := w
  refine lv_aload_n hx hb dX6_init_96 rfl (lv_at hl 0 rfl) ?_
  refine ri_get (v := .ref q1) hx hb hts hown w fX6 0 0 (W0_of k_fl_RX6_7 rfl) rfl rfl (by decide) dX6_init_97 ?_
  refine ri_iconst hx hb dX6_init_100 ?_
  refine ri_iconst hx hb dX6_init_101 ?_
  refine ri_iast hx hb w 1 rfl (by omega) dX6_init_102 (by omega) (fun H locs w => ?_)
  have w : Wd g A [(h0, .inr (6, [.ref q1, .ref q2, .ref q3, .ref q4, .int (iI 0), .ref q5, .int (iI 0), .ref q6, .int (iI 0), .int (iI 0), .int (iI 0), .ref q7, .int (iI 0), .ref q8, .int (iI 0)])), (q1, eI g 233 (up (up (up (up (fun _ => 0) 1 75) 2 200) 3 1) 4 2)), (q2, eI g 233 (fun _ => 0)), (q3, eI g 233 (fun _ => 0)), (q4, eI g 932 (fun _ => 0)), (q5, eI g 233 (fun _ => 0)), (q6, eI g 60 (fun _ => 0)), (q7, eI g 93 (fun _ => 0)), (q8, eI g 3 (fun _ => 0))] s H locs := w
  refine lv_aload_n hx hb dX6_init_103 rfl (lv_at hl 0 rfl) ?_
  refine ri_get (v := .ref q1) hx hb hts hown w fX6 0 0 (W0_of k_fl_RX6_7 rfl) rfl rfl (by decide) dX6_init_104 ?_
  refine ri_iconst hx hb dX6_init_107 ?_
  refine ri_iconst hx hb dX6_init_108 ?_
  refine ri_iast hx hb w 1 rfl (by omega) dX6_init_109 (by omega) (fun H locs w => ?_)
  have w : Wd g A [(h0, .inr (6, [.ref q1, .ref q2, .ref q3, .ref q4, .int (iI 0), .ref q5, .int (iI 0), .ref q6, .int (iI 0), .int (iI 0), .int (iI 0), .ref q7, .int (iI 0), .ref q8, .int (iI 0)])), (q1, eI g 233 (up (up (up (up (up (fun _ => 0) 1 75) 2 200) 3 1) 4 2) 5 1)), (q2, eI g 233 (fun _ => 0)), (q3, eI g 233 (fun _ => 0)), (q4, eI g 932 (fun _ => 0)), (q5, eI g 233 (fun _ => 0)), (q6, eI g 60 (fun _ => 0)), (q7, eI g 93 (fun _ => 0)), (q8, eI g 3 (fun _ => 0))] s H locs := w
  refine lv_aload_n hx hb dX6_init_110 rfl (lv_at hl 0 rfl) ?_
  refine ri_get (v := .ref q1) hx hb hts hown w fX6 0 0 (W0_of k_fl_RX6_7 rfl) rfl rfl (by decide) dX6_init_111 ?_
  refine ri_bipush hx hb dX6_init_114 (by decide) ?_
  refine ri_bipush hx hb dX6_init_116 (by decide) ?_
  refine ri_iast hx hb w 1 rfl (by omega) dX6_init_118 (by omega) (fun H locs w => ?_)
  have w : Wd g A [(h0, .inr (6, [.ref q1, .ref q2, .ref q3, .ref q4, .int (iI 0), .ref q5, .int (iI 0), .ref q6, .int (iI 0), .int (iI 0), .int (iI 0), .ref q7, .int (iI 0), .ref q8, .int (iI 0)])), (q1, eI g 233 (up (up (up (up (up (up (fun _ => 0) 1 75) 2 200) 3 1) 4 2) 5 1) 6 (-5))), (q2, eI g 233 (fun _ => 0)), (q3, eI g 233 (fun _ => 0)), (q4, eI g 932 (fun _ => 0)), (q5, eI g 233 (fun _ => 0)), (q6, eI g 60 (fun _ => 0)), (q7, eI g 93 (fun _ => 0)), (q8, eI g 3 (fun _ => 0))] s H locs := w
  refine ri_iconst hx hb dX6_init_119 ?_
  refine lv_istore_n (lv' := [(1, .int (iI 0)), (0, .ref h0)]) hx hb dX6_init_120 rfl hl (by decide) rfl (fun ls hl => ?_)
  have L121 : ∀ (n : Nat) (xk : Int) (G : Int → Int), (xk + n = 6) → (fo n xk G s_i1 = f_01) → (0 ≤ xk) → ∀ (ls : Array Slot) (H : Heap) (locs : List Loc), lv_has ls 2 [(0, .ref h0), (1, .int (iI xk))] → Wd g A [(h0, .inr (6, [.ref q1, .ref q2, .ref q3, .ref q4, .int (iI 0), .ref q5, .int (iI 0), .ref q6, .int (iI 0), .int (iI 0), .int (iI 0), .ref q7, .int (iI 0), .ref q8, .int (iI 0)])), (q1, eI g 233 G), (q2, eI g 233 (fun _ => 0)), (q3, eI g 233 (fun _ => 0)), (q4, eI g 932 (fun _ => 0)), (q5, eI g 233 (fun _ => 0)), (q6, eI g 60 (fun _ => 0)), (q7, eI g 93 (fun _ => 0)), (q8, eI g 3 (fun _ => 0))] s H locs → (∀ (ls : Array Slot) (H : Heap) (locs : List Loc), lv_has ls 2 [(0, .ref h0)] → Wd g A [(h0, .inr (6, [.ref q1, .ref q2, .ref q3, .ref q4, .int (iI 0), .ref q5, .int (iI 0), .ref q6, .int (iI 0), .int (iI 0), .int (iI 0), .ref q7, .int (iI 0), .ref q8, .int (iI 0)])), (q1, eI g 233 f_01), (q2, eI g 233 (fun _ => 0)), (q3, eI g 233 (fun _ => 0)), (q4, eI g 932 (fun _ => 0)), (q5, eI g 233 (fun _ => 0)), (q6, eI g 60 (fun _ => 0)), (q7, eI g 93 (fun _ => 0)), (q8, eI g 3 (fun _ => 0))] s H locs → W p l e (rmm 1 8 2020) s m args below meth c H locs 8 2020 Q (F0 m 163 ls [])) → W p l e (rmm 1 8 2020) s m args below meth c H locs 8 2020 Q (F0 m 121 ls []) := by
    intro n
    induction n with
    | zero =>
      intro xk G hn hX hlo ls H locs hl w kk121
      refine lv_iload_n hx hb dX6_init_121 rfl (lv_at hl 1 rfl) ?_
      refine ri_bipush hx hb dX6_init_122 (by decide) ?_
      refine ri_icmp_ge (tgt := 163) hx hb dX6_init_124 (by decide) (by omega) (by omega) (fun c9 => ?_) (fun c9 => ?_)
      · have e0 : G = f_01 := hX
        rw [e0] at w
        exact kk121  ls H locs  (lv_sub hl [0] rfl) w
      · exact absurd c9 (by omega)
    | succ n ih121 =>
      intro xk G hn hX hlo ls H locs hl w kk121
      refine lv_iload_n hx hb dX6_init_121 rfl (lv_at hl 1 rfl) ?_
      refine ri_bipush hx hb dX6_init_122 (by decide) ?_
      refine ri_icmp_ge (tgt := 163) hx hb dX6_init_124 (by decide) (by omega) (by omega) (fun c10 => ?_) (fun c10 => ?_)
      · exact absurd c10 (by omega)
      refine lv_aload_n hx hb dX6_init_127 rfl (lv_at hl 0 rfl) ?_
      refine ri_get (v := .ref q1) hx hb hts hown w fX6 0 0 (W0_of k_fl_RX6_7 rfl) rfl rfl (by decide) dX6_init_128 ?_
      refine ri_bipush hx hb dX6_init_131 (by decide) ?_
      refine ri_iconst hx hb dX6_init_133 ?_
      refine lv_iload_n hx hb dX6_init_134 rfl (lv_at hl 1 rfl) ?_
      refine ri_imul (z := 4 * xk) hx hb dX6_init_135 rfl ?_
      refine ri_iadd (z := 4 * xk + 41) hx hb dX6_init_136 (by omega) ?_
      refine lv_iload_n hx hb dX6_init_137 rfl (lv_at hl 1 rfl) ?_
      refine ri_iconst hx hb dX6_init_138 ?_
      refine ri_icmp_ge (tgt := 146) hx hb dX6_init_139 (by decide) (by omega) (by omega) (fun c11 => ?_) (fun c11 => ?_)
      · refine lv_iload_n hx hb dX6_init_146 rfl (lv_at hl 1 rfl) ?_
        refine ri_iconst hx hb dX6_init_147 ?_
        refine ri_icmp_ge (tgt := 155) hx hb dX6_init_148 (by decide) (by omega) (by omega) (fun c12 => ?_) (fun c12 => ?_)
        · refine ri_iconst hx hb dX6_init_155 ?_
          refine ri_iast hx hb w 1 rfl (by omega) dX6_init_156 (by omega) (fun H locs w => ?_)
          have w : Wd g A [(h0, .inr (6, [.ref q1, .ref q2, .ref q3, .ref q4, .int (iI 0), .ref q5, .int (iI 0), .ref q6, .int (iI 0), .int (iI 0), .int (iI 0), .ref q7, .int (iI 0), .ref q8, .int (iI 0)])), (q1, eI g 233 (up G (4 * xk + 41) 2)), (q2, eI g 233 (fun _ => 0)), (q3, eI g 233 (fun _ => 0)), (q4, eI g 932 (fun _ => 0)), (q5, eI g 233 (fun _ => 0)), (q6, eI g 60 (fun _ => 0)), (q7, eI g 93 (fun _ => 0)), (q8, eI g 3 (fun _ => 0))] s H locs := w
          refine ri_iinc (k := 1) (z := xk + 1) (lv' := [(1, .int (iI (xk + 1))), (0, .ref h0)]) hx hb dX6_init_157 hl rfl (by omega) (by decide) rfl (fun ls hl => ?_)
          refine lv_goto (tgt := 121) hx hb dX6_init_160 (by decide) ?_
          exact ih121 (xk + 1) ((up G (4 * xk + 41) 2)) (by omega) (fo_s hX (by unfold s_i1; first | rw [if_pos (by omega)] | rw [if_neg (by omega), if_pos (by omega)] | rw [if_neg (by omega), if_neg (by omega)])) (by omega) ls H locs (lv_sub hl [1, 0] rfl) w kk121
        · refine ri_iconst hx hb dX6_init_151 ?_
          refine lv_goto (tgt := 156) hx hb dX6_init_152 (by decide) ?_
          refine ri_iast hx hb w 1 rfl (by omega) dX6_init_156 (by omega) (fun H locs w => ?_)
          have w : Wd g A [(h0, .inr (6, [.ref q1, .ref q2, .ref q3, .ref q4, .int (iI 0), .ref q5, .int (iI 0), .ref q6, .int (iI 0), .int (iI 0), .int (iI 0), .ref q7, .int (iI 0), .ref q8, .int (iI 0)])), (q1, eI g 233 (up G (4 * xk + 41) 1)), (q2, eI g 233 (fun _ => 0)), (q3, eI g 233 (fun _ => 0)), (q4, eI g 932 (fun _ => 0)), (q5, eI g 233 (fun _ => 0)), (q6, eI g 60 (fun _ => 0)), (q7, eI g 93 (fun _ => 0)), (q8, eI g 3 (fun _ => 0))] s H locs := w
          refine ri_iinc (k := 1) (z := xk + 1) (lv' := [(1, .int (iI (xk + 1))), (0, .ref h0)]) hx hb dX6_init_157 hl rfl (by omega) (by decide) rfl (fun ls hl => ?_)
          refine lv_goto (tgt := 121) hx hb dX6_init_160 (by decide) ?_
          exact ih121 (xk + 1) ((up G (4 * xk + 41) 1)) (by omega) (fo_s hX (by unfold s_i1; first | rw [if_pos (by omega)] | rw [if_neg (by omega), if_pos (by omega)] | rw [if_neg (by omega), if_neg (by omega)])) (by omega) ls H locs (lv_sub hl [1, 0] rfl) w kk121
      · refine ri_iconst hx hb dX6_init_142 ?_
        refine lv_goto (tgt := 156) hx hb dX6_init_143 (by decide) ?_
        refine ri_iast hx hb w 1 rfl (by omega) dX6_init_156 (by omega) (fun H locs w => ?_)
        have w : Wd g A [(h0, .inr (6, [.ref q1, .ref q2, .ref q3, .ref q4, .int (iI 0), .ref q5, .int (iI 0), .ref q6, .int (iI 0), .int (iI 0), .int (iI 0), .ref q7, .int (iI 0), .ref q8, .int (iI 0)])), (q1, eI g 233 (up G (4 * xk + 41) 0)), (q2, eI g 233 (fun _ => 0)), (q3, eI g 233 (fun _ => 0)), (q4, eI g 932 (fun _ => 0)), (q5, eI g 233 (fun _ => 0)), (q6, eI g 60 (fun _ => 0)), (q7, eI g 93 (fun _ => 0)), (q8, eI g 3 (fun _ => 0))] s H locs := w
        refine ri_iinc (k := 1) (z := xk + 1) (lv' := [(1, .int (iI (xk + 1))), (0, .ref h0)]) hx hb dX6_init_157 hl rfl (by omega) (by decide) rfl (fun ls hl => ?_)
        refine lv_goto (tgt := 121) hx hb dX6_init_160 (by decide) ?_
        exact ih121 (xk + 1) ((up G (4 * xk + 41) 0)) (by omega) (fo_s hX (by unfold s_i1; first | rw [if_pos (by omega)] | rw [if_neg (by omega), if_pos (by omega)] | rw [if_neg (by omega), if_neg (by omega)])) (by omega) ls H locs (lv_sub hl [1, 0] rfl) w kk121
  refine L121 6 0 (f_00) (by omega) (rfl) (by omega) ls H locs (lv_sub hl [1, 0] rfl) w (fun ls H locs hl w => ?_)
  refine ri_iconst hx hb dX6_init_163 ?_
  refine lv_istore_n (lv' := [(1, .int (iI 0)), (0, .ref h0)]) hx hb dX6_init_164 rfl hl (by decide) rfl (fun ls hl => ?_)
  have L165 : ∀ (n : Nat) (xk : Int) (G : Int → Int), (xk + n = 48) → (fo n xk G s_i2 = f_0) → (0 ≤ xk) → ∀ (ls : Array Slot) (H : Heap) (locs : List Loc), lv_has ls 2 [(0, .ref h0), (1, .int (iI xk))] → Wd g A [(h0, .inr (6, [.ref q1, .ref q2, .ref q3, .ref q4, .int (iI 0), .ref q5, .int (iI 0), .ref q6, .int (iI 0), .int (iI 0), .int (iI 0), .ref q7, .int (iI 0), .ref q8, .int (iI 0)])), (q1, eI g 233 G), (q2, eI g 233 (fun _ => 0)), (q3, eI g 233 (fun _ => 0)), (q4, eI g 932 (fun _ => 0)), (q5, eI g 233 (fun _ => 0)), (q6, eI g 60 (fun _ => 0)), (q7, eI g 93 (fun _ => 0)), (q8, eI g 3 (fun _ => 0))] s H locs → (∀ (ls : Array Slot) (H : Heap) (locs : List Loc), lv_has ls 2 [] → Wd g A [(h0, .inr (6, [.ref q1, .ref q2, .ref q3, .ref q4, .int (iI 0), .ref q5, .int (iI 0), .ref q6, .int (iI 0), .int (iI 0), .int (iI 0), .ref q7, .int (iI 0), .ref q8, .int (iI 0)])), (q1, eI g 233 f_0), (q2, eI g 233 (fun _ => 0)), (q3, eI g 233 (fun _ => 0)), (q4, eI g 932 (fun _ => 0)), (q5, eI g 233 (fun _ => 0)), (q6, eI g 60 (fun _ => 0)), (q7, eI g 93 (fun _ => 0)), (q8, eI g 3 (fun _ => 0))] s H locs → W p l e (rmm 1 8 2020) s m args below meth c H locs 8 2020 Q (F0 m 189 ls [])) → W p l e (rmm 1 8 2020) s m args below meth c H locs 8 2020 Q (F0 m 165 ls []) := by
    intro n
    induction n with
    | zero =>
      intro xk G hn hX hlo ls H locs hl w kk165
      refine lv_iload_n hx hb dX6_init_165 rfl (lv_at hl 1 rfl) ?_
      refine ri_bipush hx hb dX6_init_166 (by decide) ?_
      refine ri_icmp_ge (tgt := 189) hx hb dX6_init_168 (by decide) (by omega) (by omega) (fun c13 => ?_) (fun c13 => ?_)
      · have e0 : G = f_0 := hX
        rw [e0] at w
        exact kk165  ls H locs  (lv_sub hl [] rfl) w
      · exact absurd c13 (by omega)
    | succ n ih165 =>
      intro xk G hn hX hlo ls H locs hl w kk165
      refine lv_iload_n hx hb dX6_init_165 rfl (lv_at hl 1 rfl) ?_
      refine ri_bipush hx hb dX6_init_166 (by decide) ?_
      refine ri_icmp_ge (tgt := 189) hx hb dX6_init_168 (by decide) (by omega) (by omega) (fun c14 => ?_) (fun c14 => ?_)
      · exact absurd c14 (by omega)
      refine lv_aload_n hx hb dX6_init_171 rfl (lv_at hl 0 rfl) ?_
      refine ri_get (v := .ref q1) hx hb hts hown w fX6 0 0 (W0_of k_fl_RX6_7 rfl) rfl rfl (by decide) dX6_init_172 ?_
      refine ri_bipush hx hb dX6_init_175 (by decide) ?_
      refine ri_iconst hx hb dX6_init_177 ?_
      refine lv_iload_n hx hb dX6_init_178 rfl (lv_at hl 1 rfl) ?_
      refine ri_imul (z := 3 * xk) hx hb dX6_init_179 rfl ?_
      refine ri_iadd (z := 3 * xk + 65) hx hb dX6_init_180 (by omega) ?_
      refine ri_iconst hx hb dX6_init_181 ?_
      refine ri_iast hx hb w 1 rfl (by omega) dX6_init_182 (by omega) (fun H locs w => ?_)
      have w : Wd g A [(h0, .inr (6, [.ref q1, .ref q2, .ref q3, .ref q4, .int (iI 0), .ref q5, .int (iI 0), .ref q6, .int (iI 0), .int (iI 0), .int (iI 0), .ref q7, .int (iI 0), .ref q8, .int (iI 0)])), (q1, eI g 233 (up G (3 * xk + 65) (-1))), (q2, eI g 233 (fun _ => 0)), (q3, eI g 233 (fun _ => 0)), (q4, eI g 932 (fun _ => 0)), (q5, eI g 233 (fun _ => 0)), (q6, eI g 60 (fun _ => 0)), (q7, eI g 93 (fun _ => 0)), (q8, eI g 3 (fun _ => 0))] s H locs := w
      refine ri_iinc (k := 1) (z := xk + 1) (lv' := [(1, .int (iI (xk + 1))), (0, .ref h0)]) hx hb dX6_init_183 hl rfl (by omega) (by decide) rfl (fun ls hl => ?_)
      refine lv_goto (tgt := 165) hx hb dX6_init_186 (by decide) ?_
      exact ih165 (xk + 1) ((up G (3 * xk + 65) (-1))) (by omega) (fo_s hX rfl) (by omega) ls H locs (lv_sub hl [1, 0] rfl) w kk165
  refine L165 48 0 (f_01) (by omega) (rfl) (by omega) ls H locs (lv_sub hl [1, 0] rfl) w (fun ls H locs hl w => ?_)
  exact hend.1 rfl _ _ _ _ _ dX6_init_189 w ⟨rfl, adr [h0, q1, q2, q3, q4, q5, q6, q7, q8], rfl, rfl⟩
