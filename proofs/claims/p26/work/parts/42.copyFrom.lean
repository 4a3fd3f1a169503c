set_option maxHeartbeats 4000000 in
set_option maxRecDepth 100000 in
theorem t_X0_copyFrom (l : Launch) (g : GG) (x : Nat) (y0 : Nat) (f0 : Int → Int) (z : Int) (X : Nat) (Y0 : Nat) (h0 : Int → Int) (Z : Int) (sz : Nat) : Met l yX0_copyFrom (wm yX0_copyFrom cX0_copyFrom 2 none) (rmm 1 0 0) (pW g [(x, .inr (0, [.ref y0, .int (iI z)])), (y0, eI g 4 f0), (X, .inr (0, [.ref Y0, .int (iI Z)])), (Y0, eI g 4 h0)] sz [.ref x, .ref X]) (qW g [(x, .inr (0, [.ref y0, .int (iI z)])), (y0, eI g 4 f0), (X, .inr (0, [.ref Y0, .int (iI Z)])), (Y0, eI g 4 h0)] (fun vv ww => vv = none ∧ ww = [(x, .inr (0, [.ref y0, .int (iI Z)])), (y0, eI g 4 h0), (X, .inr (0, [.ref Y0, .int (iI Z)])), (Y0, eI g 4 h0)])) 0 0 (va_A [(x, .inr (0, [.ref y0, .int (iI z)])), (y0, eI g 4 f0), (X, .inr (0, [.ref Y0, .int (iI Z)])), (Y0, eI g 4 h0)] sz) := by
  refine met_w (by decide) (Nat.le_of_ble_eq_true rfl) ?_
  intro p e s m args below meth c Q ls A hx hb hml hown hts hl w hin hend
  obtain ⟨H, hH0⟩ : ∃ H, H = s.heap := ⟨_, rfl⟩
  obtain ⟨locs, hL0⟩ : ∃ locs : List Loc, locs = [] := ⟨_, rfl⟩
  rw [← hH0, ← hL0] at w
  rw [← hH0, ← hL0]
  have hl : lv_has ls 2 [(0, .ref x), (1, .ref X)] := hl
  refine lv_aload_n hx hb dX0_copyFrom_0 rfl (lv_at hl 1 rfl) ?_
  refine ri_get (v := .ref Y0) hx hb hts hown w fX0 2 0 (W0_of k_fl_RX0_9 rfl) rfl rfl (by decide) dX0_copyFrom_1 ?_
  refine ri_iconst hx hb dX0_copyFrom_4 ?_
  refine lv_aload_n hx hb dX0_copyFrom_5 rfl (lv_at hl 0 rfl) ?_
  refine ri_get (v := .ref y0) hx hb hts hown w fX0 0 0 (W0_of k_fl_RX0_9 rfl) rfl rfl (by decide) dX0_copyFrom_6 ?_
  refine ri_iconst hx hb dX0_copyFrom_9 ?_
  refine ri_iconst hx hb dX0_copyFrom_10 ?_
  refine ri_copy hx hb (hml.trans hl.1.symm) hown hts w (W0_of k_ml_RX0_19 rfl) 3 1 rfl rfl (z := 4) rfl (by decide) ⟨Nat.le_of_ble_eq_true rfl, Nat.le_of_ble_eq_true rfl⟩ dX0_copyFrom_11 (fun H locs w => ?_)
  have w : Wd g A [(x, .inr (0, [.ref y0, .int (iI z)])), (y0, eI g 4 h0), (X, .inr (0, [.ref Y0, .int (iI Z)])), (Y0, eI g 4 h0)] s H locs := w
  refine lv_aload_n hx hb dX0_copyFrom_14 rfl (lv_at hl 0 rfl) ?_
  refine lv_aload_n hx hb dX0_copyFrom_15 rfl (lv_at hl 1 rfl) ?_
  refine ri_get (v := .int (iI Z)) hx hb hts hown w fX0 2 1 (W0_of k_fl_RX0_15 rfl) rfl rfl (by decide) dX0_copyFrom_16 ?_
  refine ri_put hx hb hts hown w fX0 0 1 (W0_of k_fl_RX0_15 rfl) rfl (Nat.le_of_ble_eq_true rfl) (by decide) rfl rfl rfl dX0_copyFrom_19 (fun H locs w => ?_)
  have w : Wd g A [(x, .inr (0, [.ref y0, .int (iI Z)])), (y0, eI g 4 h0), (X, .inr (0, [.ref Y0, .int (iI Z)])), (Y0, eI g 4 h0)] s H locs := w
  exact hend.1 rfl _ _ _ _ _ dX0_copyFrom_22 w ⟨rfl, rfl⟩

set_option maxHeartbeats 4000000 in
set_option maxRecDepth 100000 in
theorem t_X1_copyFrom (l : Launch) (g : GG) (x : Nat) (y0 : Nat) (y1 : Nat) (y2 : Nat) (f0 : Int → Int) (f1 : Int → Int) (f2 : Int → Int) (z : Int) (X : Nat) (Y0 : Nat) (Y1 : Nat) (Y2 : Nat) (h0 : Int → Int) (h1 : Int → Int) (h2 : Int → Int) (Z : Int) (sz : Nat) : Met l yX1_copyFrom (wm yX1_copyFrom cX1_copyFrom 2 none) (rmm 1 0 0) (pW g [(x, .inr (1, [.ref y0, .ref y1, .ref y2, .int (iI z)])), (y0, eI g 8 f0), (y1, eI g 8 f1), (y2, eI g 8 f2), (X, .inr (1, [.ref Y0, .ref Y1, .ref Y2, .int (iI Z)])), (Y0, eI g 8 h0), (Y1, eI g 8 h1), (Y2, eI g 8 h2)] sz [.ref x, .ref X]) (qW g [(x, .inr (1, [.ref y0, .ref y1, .ref y2, .int (iI z)])), (y0, eI g 8 f0), (y1, eI g 8 f1), (y2, eI g 8 f2), (X, .inr (1, [.ref Y0, .ref Y1, .ref Y2, .int (iI Z)])), (Y0, eI g 8 h0), (Y1, eI g 8 h1), (Y2, eI g 8 h2)] (fun vv ww => vv = none ∧ ww = [(x, .inr (1, [.ref y0, .ref y1, .ref y2, .int (iI Z)])), (y0, eI g 8 h0), (y1, eI g 8 h1), (y2, eI g 8 h2), (X, .inr (1, [.ref Y0, .ref Y1, .ref Y2, .int (iI Z)])), (Y0, eI g 8 h0), (Y1, eI g 8 h1), (Y2, eI g 8 h2)])) 0 0 (va_A [(x, .inr (1, [.ref y0, .ref y1, .ref y2, .int (iI z)])), (y0, eI g 8 f0), (y1, eI g 8 f1), (y2, eI g 8 f2), (X, .inr (1, [.ref Y0, .ref Y1, .ref Y2, .int (iI Z)])), (Y0, eI g 8 h0), (Y1, eI g 8 h1), (Y2, eI g 8 h2)] sz) := by
  refine met_w (by decide) (Nat.le_of_ble_eq_true rfl) ?_
  intro p e s m args below meth c Q ls A hx hb hml hown hts hl w hin hend
  obtain ⟨H, hH0⟩ : ∃ H, H = s.heap := ⟨_, rfl⟩
  obtain ⟨locs, hL0⟩ : ∃ locs : List Loc, locs = [] := ⟨_, rfl⟩
  rw [← hH0, ← hL0] at w
  rw [← hH0, ← hL0]
  have hl : lv_has ls 2 [(0, .ref x), (1, .ref X)] := hl
  refine lv_aload_n hx hb dX1_copyFrom_0 rfl (lv_at hl 1 rfl) ?_
  refine ri_get (v := .ref Y0) hx hb hts hown w fX1 4 0 (W0_of k_fl_RX1_9 rfl) rfl rfl (by decide) dX1_copyFrom_1 ?_
  refine ri_iconst hx hb dX1_copyFrom_4 ?_
  refine lv_aload_n hx hb dX1_copyFrom_5 rfl (lv_at hl 0 rfl) ?_
  refine ri_get (v := .ref y0) hx hb hts hown w fX1 0 0 (W0_of k_fl_RX1_9 rfl) rfl rfl (by decide) dX1_copyFrom_6 ?_
  refine ri_iconst hx hb dX1_copyFrom_9 ?_
  refine ri_bipush hx hb dX1_copyFrom_10 (by decide) ?_
  refine ri_copy hx hb (hml.trans hl.1.symm) hown hts w (W0_of k_ml_RX1_25 rfl) 5 1 rfl rfl (z := 8) rfl (by decide) ⟨Nat.le_of_ble_eq_true rfl, Nat.le_of_ble_eq_true rfl⟩ dX1_copyFrom_12 (fun H locs w => ?_)
  have w : Wd g A [(x, .inr (1, [.ref y0, .ref y1, .ref y2, .int (iI z)])), (y0, eI g 8 h0), (y1, eI g 8 f1), (y2, eI g 8 f2), (X, .inr (1, [.ref Y0, .ref Y1, .ref Y2, .int (iI Z)])), (Y0, eI g 8 h0), (Y1, eI g 8 h1), (Y2, eI g 8 h2)] s H locs := w
  refine lv_aload_n hx hb dX1_copyFrom_15 rfl (lv_at hl 1 rfl) ?_
  refine ri_get (v := .ref Y1) hx hb hts hown w fX1 4 1 (W0_of k_fl_RX1_15 rfl) rfl rfl (by decide) dX1_copyFrom_16 ?_
  refine ri_iconst hx hb dX1_copyFrom_19 ?_
  refine lv_aload_n hx hb dX1_copyFrom_20 rfl (lv_at hl 0 rfl) ?_
  refine ri_get (v := .ref y1) hx hb hts hown w fX1 0 1 (W0_of k_fl_RX1_15 rfl) rfl rfl (by decide) dX1_copyFrom_21 ?_
  refine ri_iconst hx hb dX1_copyFrom_24 ?_
  refine ri_bipush hx hb dX1_copyFrom_25 (by decide) ?_
  refine ri_copy hx hb (hml.trans hl.1.symm) hown hts w (W0_of k_ml_RX1_25 rfl) 6 2 rfl rfl (z := 8) rfl (by decide) ⟨Nat.le_of_ble_eq_true rfl, Nat.le_of_ble_eq_true rfl⟩ dX1_copyFrom_27 (fun H locs w => ?_)
  have w : Wd g A [(x, .inr (1, [.ref y0, .ref y1, .ref y2, .int (iI z)])), (y0, eI g 8 h0), (y1, eI g 8 h1), (y2, eI g 8 f2), (X, .inr (1, [.ref Y0, .ref Y1, .ref Y2, .int (iI Z)])), (Y0, eI g 8 h0), (Y1, eI g 8 h1), (Y2, eI g 8 h2)] s H locs := w
  refine lv_aload_n hx hb dX1_copyFrom_30 rfl (lv_at hl 1 rfl) ?_
  refine ri_get (v := .ref Y2) hx hb hts hown w fX1 4 2 (W0_of k_fl_RX1_18 rfl) rfl rfl (by decide) dX1_copyFrom_31 ?_
  refine ri_iconst hx hb dX1_copyFrom_34 ?_
  refine lv_aload_n hx hb dX1_copyFrom_35 rfl (lv_at hl 0 rfl) ?_
  refine ri_get (v := .ref y2) hx hb hts hown w fX1 0 2 (W0_of k_fl_RX1_18 rfl) rfl rfl (by decide) dX1_copyFrom_36 ?_
  refine ri_iconst hx hb dX1_copyFrom_39 ?_
  refine ri_bipush hx hb dX1_copyFrom_40 (by decide) ?_
  refine ri_copy hx hb (hml.trans hl.1.symm) hown hts w (W0_of k_ml_RX1_25 rfl) 7 3 rfl rfl (z := 8) rfl (by decide) ⟨Nat.le_of_ble_eq_true rfl, Nat.le_of_ble_eq_true rfl⟩ dX1_copyFrom_42 (fun H locs w => ?_)
  have w : Wd g A [(x, .inr (1, [.ref y0, .ref y1, .ref y2, .int (iI z)])), (y0, eI g 8 h0), (y1, eI g 8 h1), (y2, eI g 8 h2), (X, .inr (1, [.ref Y0, .ref Y1, .ref Y2, .int (iI Z)])), (Y0, eI g 8 h0), (Y1, eI g 8 h1), (Y2, eI g 8 h2)] s H locs := w
  refine lv_aload_n hx hb dX1_copyFrom_45 rfl (lv_at hl 0 rfl) ?_
  refine lv_aload_n hx hb dX1_copyFrom_46 rfl (lv_at hl 1 rfl) ?_
  refine ri_get (v := .int (iI Z)) hx hb hts hown w fX1 4 3 (W0_of k_fl_RX1_21 rfl) rfl rfl (by decide) dX1_copyFrom_47 ?_
  refine ri_put hx hb hts hown w fX1 0 3 (W0_of k_fl_RX1_21 rfl) rfl (Nat.le_of_ble_eq_true rfl) (by decide) rfl rfl rfl dX1_copyFrom_50 (fun H locs w => ?_)
  have w : Wd g A [(x, .inr (1, [.ref y0, .ref y1, .ref y2, .int (iI Z)])), (y0, eI g 8 h0), (y1, eI g 8 h1), (y2, eI g 8 h2), (X, .inr (1, [.ref Y0, .ref Y1, .ref Y2, .int (iI Z)])), (Y0, eI g 8 h0), (Y1, eI g 8 h1), (Y2, eI g 8 h2)] s H locs := w
  exact hend.1 rfl _ _ _ _ _ dX1_copyFrom_53 w ⟨rfl, rfl⟩

set_option maxHeartbeats 4000000 in
set_option maxRecDepth 100000 in
theorem t_X4_copyFrom (l : Launch) (g : GG) (a : Nat → Nat) (o : Nat → Nat) (T : Nat → Int → Int) (U : Nat → Int → Int) (hz : ∀ b, 0 ≤ b → b < 6 → U 3 b = 0 ∨ U 3 b = 1) (sz : Nat) : Met l yX4_copyFrom (wm yX4_copyFrom cX4_copyFrom 3 none) (rmm 2 0 0) (pW g (st_ws g a T ++ st_ws g o U) sz [.ref (a 0), .ref (o 0)]) (qW g (st_ws g a T ++ st_ws g o U) (fun vv ww => vv = none ∧ ww = st_ws g a U ++ st_ws g o U)) 0 0 (va_A (st_ws g a T ++ st_ws g o U) sz) := by
  refine met_w (by decide) (Nat.le_of_ble_eq_true rfl) ?_
  intro p e s m args below meth c Q ls A hx hb hml hown hts hl w hin hend
  obtain ⟨H, hH0⟩ : ∃ H, H = s.heap := ⟨_, rfl⟩
  obtain ⟨locs, hL0⟩ : ∃ locs : List Loc, locs = [] := ⟨_, rfl⟩
  rw [← hH0, ← hL0] at w
  rw [← hH0, ← hL0]
  have hl : lv_has ls 3 [(0, .ref (a 0)), (1, .ref (o 0))] := hl
  refine lv_aload_n hx hb dX4_copyFrom_0 rfl (lv_at hl 1 rfl) ?_
  refine ri_get (v := .ref (o 1)) hx hb hts hown w fX4 18 0 (W0_of k_fl_RX4_9 rfl) rfl rfl (by decide) dX4_copyFrom_1 ?_
  refine ri_iconst hx hb dX4_copyFrom_4 ?_
  refine lv_aload_n hx hb dX4_copyFrom_5 rfl (lv_at hl 0 rfl) ?_
  refine ri_get (v := .ref (a 1)) hx hb hts hown w fX4 0 0 (W0_of k_fl_RX4_9 rfl) rfl rfl (by decide) dX4_copyFrom_6 ?_
  refine ri_iconst hx hb dX4_copyFrom_9 ?_
  refine ri_bipush hx hb dX4_copyFrom_10 (by decide) ?_
  refine ri_copy hx hb (hml.trans hl.1.symm) hown hts w (W0_of k_ml_RX4_79 rfl) 19 1 rfl rfl (z := 6) rfl (by decide) ⟨Nat.le_of_ble_eq_true rfl, Nat.le_of_ble_eq_true rfl⟩ dX4_copyFrom_12 (fun H locs w => ?_)
  have w : Wd g A (st_ws g a (upT T 1 (U 1)) ++ st_ws g o U) s H locs := w
  refine lv_aload_n hx hb dX4_copyFrom_15 rfl (lv_at hl 1 rfl) ?_
  refine ri_get (v := .ref (o 2)) hx hb hts hown w fX4 18 1 (W0_of k_fl_RX4_15 rfl) rfl rfl (by decide) dX4_copyFrom_16 ?_
  refine ri_iconst hx hb dX4_copyFrom_19 ?_
  refine lv_aload_n hx hb dX4_copyFrom_20 rfl (lv_at hl 0 rfl) ?_
  refine ri_get (v := .ref (a 2)) hx hb hts hown w fX4 0 1 (W0_of k_fl_RX4_15 rfl) rfl rfl (by decide) dX4_copyFrom_21 ?_
  refine ri_iconst hx hb dX4_copyFrom_24 ?_
  refine ri_bipush hx hb dX4_copyFrom_25 (by decide) ?_
  refine ri_copy hx hb (hml.trans hl.1.symm) hown hts w (W0_of k_ml_RX4_79 rfl) 20 2 rfl rfl (z := 6) rfl (by decide) ⟨Nat.le_of_ble_eq_true rfl, Nat.le_of_ble_eq_true rfl⟩ dX4_copyFrom_27 (fun H locs w => ?_)
  have w : Wd g A (st_ws g a (upT (upT T 1 (U 1)) 2 (U 2)) ++ st_ws g o U) s H locs := w
  refine lv_aload_n hx hb dX4_copyFrom_30 rfl (lv_at hl 1 rfl) ?_
  refine ri_get (v := .ref (o 4)) hx hb hts hown w fX4 18 3 (W0_of k_fl_RX4_22 rfl) rfl rfl (by decide) dX4_copyFrom_31 ?_
  refine ri_iconst hx hb dX4_copyFrom_34 ?_
  refine lv_aload_n hx hb dX4_copyFrom_35 rfl (lv_at hl 0 rfl) ?_
  refine ri_get (v := .ref (a 4)) hx hb hts hown w fX4 0 3 (W0_of k_fl_RX4_22 rfl) rfl rfl (by decide) dX4_copyFrom_36 ?_
  refine ri_iconst hx hb dX4_copyFrom_39 ?_
  refine ri_bipush hx hb dX4_copyFrom_40 (by decide) ?_
  refine ri_copy hx hb (hml.trans hl.1.symm) hown hts w (W0_of k_ml_RX4_79 rfl) 22 4 rfl rfl (z := 6) rfl (by decide) ⟨Nat.le_of_ble_eq_true rfl, Nat.le_of_ble_eq_true rfl⟩ dX4_copyFrom_42 (fun H locs w => ?_)
  have w : Wd g A (st_ws g a (upT (upT (upT T 1 (U 1)) 2 (U 2)) 4 (U 4)) ++ st_ws g o U) s H locs := w
  refine lv_aload_n hx hb dX4_copyFrom_45 rfl (lv_at hl 1 rfl) ?_
  refine ri_get (v := .ref (o 5)) hx hb hts hown w fX4 18 4 (W0_of k_fl_RX4_25 rfl) rfl rfl (by decide) dX4_copyFrom_46 ?_
  refine ri_iconst hx hb dX4_copyFrom_49 ?_
  refine lv_aload_n hx hb dX4_copyFrom_50 rfl (lv_at hl 0 rfl) ?_
  refine ri_get (v := .ref (a 5)) hx hb hts hown w fX4 0 4 (W0_of k_fl_RX4_25 rfl) rfl rfl (by decide) dX4_copyFrom_51 ?_
  refine ri_iconst hx hb dX4_copyFrom_54 ?_
  refine ri_bipush hx hb dX4_copyFrom_55 (by decide) ?_
  refine ri_copy hx hb (hml.trans hl.1.symm) hown hts w (W0_of k_ml_RX4_79 rfl) 23 5 rfl rfl (z := 6) rfl (by decide) ⟨Nat.le_of_ble_eq_true rfl, Nat.le_of_ble_eq_true rfl⟩ dX4_copyFrom_57 (fun H locs w => ?_)
  have w : Wd g A (st_ws g a (upT (upT (upT (upT T 1 (U 1)) 2 (U 2)) 4 (U 4)) 5 (U 5)) ++ st_ws g o U) s H locs := w
  refine lv_aload_n hx hb dX4_copyFrom_60 rfl (lv_at hl 1 rfl) ?_
  refine ri_get (v := .ref (o 6)) hx hb hts hown w fX4 18 5 (W0_of k_fl_RX4_28 rfl) rfl rfl (by decide) dX4_copyFrom_61 ?_
  refine ri_iconst hx hb dX4_copyFrom_64 ?_
  refine lv_aload_n hx hb dX4_copyFrom_65 rfl (lv_at hl 0 rfl) ?_
  refine ri_get (v := .ref (a 6)) hx hb hts hown w fX4 0 5 (W0_of k_fl_RX4_28 rfl) rfl rfl (by decide) dX4_copyFrom_66 ?_
  refine ri_iconst hx hb dX4_copyFrom_69 ?_
  refine ri_bipush hx hb dX4_copyFrom_70 (by decide) ?_
  refine ri_copy hx hb (hml.trans hl.1.symm) hown hts w (W0_of k_ml_RX4_79 rfl) 24 6 rfl rfl (z := 48) rfl (by decide) ⟨Nat.le_of_ble_eq_true rfl, Nat.le_of_ble_eq_true rfl⟩ dX4_copyFrom_72 (fun H locs w => ?_)
  have w : Wd g A (st_ws g a (upT (upT (upT (upT (upT T 1 (U 1)) 2 (U 2)) 4 (U 4)) 5 (U 5)) 6 (U 6)) ++ st_ws g o U) s H locs := w
  refine lv_aload_n hx hb dX4_copyFrom_75 rfl (lv_at hl 1 rfl) ?_
  refine ri_get (v := .ref (o 7)) hx hb hts hown w fX4 18 6 (W0_of k_fl_RX4_31 rfl) rfl rfl (by decide) dX4_copyFrom_76 ?_
  refine ri_iconst hx hb dX4_copyFrom_79 ?_
  refine lv_aload_n hx hb dX4_copyFrom_80 rfl (lv_at hl 0 rfl) ?_
  refine ri_get (v := .ref (a 7)) hx hb hts hown w fX4 0 6 (W0_of k_fl_RX4_31 rfl) rfl rfl (by decide) dX4_copyFrom_81 ?_
  refine ri_iconst hx hb dX4_copyFrom_84 ?_
  refine ri_bipush hx hb dX4_copyFrom_85 (by decide) ?_
  refine ri_copy hx hb (hml.trans hl.1.symm) hown hts w (W0_of k_ml_RX4_79 rfl) 25 7 rfl rfl (z := 48) rfl (by decide) ⟨Nat.le_of_ble_eq_true rfl, Nat.le_of_ble_eq_true rfl⟩ dX4_copyFrom_87 (fun H locs w => ?_)
  have w : Wd g A (st_ws g a (upT (upT (upT (upT (upT (upT T 1 (U 1)) 2 (U 2)) 4 (U 4)) 5 (U 5)) 6 (U 6)) 7 (U 7)) ++ st_ws g o U) s H locs := w
  refine lv_aload_n hx hb dX4_copyFrom_90 rfl (lv_at hl 1 rfl) ?_
  refine ri_get (v := .ref (o 8)) hx hb hts hown w fX4 18 7 (W0_of k_fl_RX4_34 rfl) rfl rfl (by decide) dX4_copyFrom_91 ?_
  refine ri_iconst hx hb dX4_copyFrom_94 ?_
  refine lv_aload_n hx hb dX4_copyFrom_95 rfl (lv_at hl 0 rfl) ?_
  refine ri_get (v := .ref (a 8)) hx hb hts hown w fX4 0 7 (W0_of k_fl_RX4_34 rfl) rfl rfl (by decide) dX4_copyFrom_96 ?_
  refine ri_iconst hx hb dX4_copyFrom_99 ?_
  refine ri_bipush hx hb dX4_copyFrom_100 (by decide) ?_
  refine ri_copy hx hb (hml.trans hl.1.symm) hown hts w (W0_of k_ml_RX4_79 rfl) 26 8 rfl rfl (z := 48) rfl (by decide) ⟨Nat.le_of_ble_eq_true rfl, Nat.le_of_ble_eq_true rfl⟩ dX4_copyFrom_102 (fun H locs w => ?_)
  have w : Wd g A (st_ws g a (upT (upT (upT (upT (upT (upT (upT T 1 (U 1)) 2 (U 2)) 4 (U 4)) 5 (U 5)) 6 (U 6)) 7 (U 7)) 8 (U 8)) ++ st_ws g o U) s H locs := w
  refine lv_aload_n hx hb dX4_copyFrom_105 rfl (lv_at hl 1 rfl) ?_
  refine ri_get (v := .ref (o 9)) hx hb hts hown w fX4 18 8 (W0_of k_fl_RX4_37 rfl) rfl rfl (by decide) dX4_copyFrom_106 ?_
  refine ri_iconst hx hb dX4_copyFrom_109 ?_
  refine lv_aload_n hx hb dX4_copyFrom_110 rfl (lv_at hl 0 rfl) ?_
  refine ri_get (v := .ref (a 9)) hx hb hts hown w fX4 0 8 (W0_of k_fl_RX4_37 rfl) rfl rfl (by decide) dX4_copyFrom_111 ?_
  refine ri_iconst hx hb dX4_copyFrom_114 ?_
  refine ri_bipush hx hb dX4_copyFrom_115 (by decide) ?_
  refine ri_copy hx hb (hml.trans hl.1.symm) hown hts w (W0_of k_ml_RX4_79 rfl) 27 9 rfl rfl (z := 24) rfl (by decide) ⟨Nat.le_of_ble_eq_true rfl, Nat.le_of_ble_eq_true rfl⟩ dX4_copyFrom_117 (fun H locs w => ?_)
  have w : Wd g A (st_ws g a (upT (upT (upT (upT (upT (upT (upT (upT T 1 (U 1)) 2 (U 2)) 4 (U 4)) 5 (U 5)) 6 (U 6)) 7 (U 7)) 8 (U 8)) 9 (U 9)) ++ st_ws g o U) s H locs := w
  refine lv_aload_n hx hb dX4_copyFrom_120 rfl (lv_at hl 1 rfl) ?_
  refine ri_get (v := .ref (o 10)) hx hb hts hown w fX4 18 9 (W0_of k_fl_RX4_40 rfl) rfl rfl (by decide) dX4_copyFrom_121 ?_
  refine ri_iconst hx hb dX4_copyFrom_124 ?_
  refine lv_aload_n hx hb dX4_copyFrom_125 rfl (lv_at hl 0 rfl) ?_
  refine ri_get (v := .ref (a 10)) hx hb hts hown w fX4 0 9 (W0_of k_fl_RX4_40 rfl) rfl rfl (by decide) dX4_copyFrom_126 ?_
  refine ri_iconst hx hb dX4_copyFrom_129 ?_
  refine ri_bipush hx hb dX4_copyFrom_130 (by decide) ?_
  refine ri_copy hx hb (hml.trans hl.1.symm) hown hts w (W0_of k_ml_RX4_79 rfl) 28 10 rfl rfl (z := 24) rfl (by decide) ⟨Nat.le_of_ble_eq_true rfl, Nat.le_of_ble_eq_true rfl⟩ dX4_copyFrom_132 (fun H locs w => ?_)
  have w : Wd g A (st_ws g a (upT (upT (upT (upT (upT (upT (upT (upT (upT T 1 (U 1)) 2 (U 2)) 4 (U 4)) 5 (U 5)) 6 (U 6)) 7 (U 7)) 8 (U 8)) 9 (U 9)) 10 (U 10)) ++ st_ws g o U) s H locs := w
  refine lv_aload_n hx hb dX4_copyFrom_135 rfl (lv_at hl 1 rfl) ?_
  refine ri_get (v := .ref (o 11)) hx hb hts hown w fX4 18 10 (W0_of k_fl_RX4_43 rfl) rfl rfl (by decide) dX4_copyFrom_136 ?_
  refine ri_iconst hx hb dX4_copyFrom_139 ?_
  refine lv_aload_n hx hb dX4_copyFrom_140 rfl (lv_at hl 0 rfl) ?_
  refine ri_get (v := .ref (a 11)) hx hb hts hown w fX4 0 10 (W0_of k_fl_RX4_43 rfl) rfl rfl (by decide) dX4_copyFrom_141 ?_
  refine ri_iconst hx hb dX4_copyFrom_144 ?_
  refine ri_iconst hx hb dX4_copyFrom_145 ?_
  refine ri_copy hx hb (hml.trans hl.1.symm) hown hts w (W0_of k_ml_RX4_79 rfl) 29 11 rfl rfl (z := 5) rfl (by decide) ⟨Nat.le_of_ble_eq_true rfl, Nat.le_of_ble_eq_true rfl⟩ dX4_copyFrom_146 (fun H locs w => ?_)
  have w : Wd g A (st_ws g a (upT (upT (upT (upT (upT (upT (upT (upT (upT (upT T 1 (U 1)) 2 (U 2)) 4 (U 4)) 5 (U 5)) 6 (U 6)) 7 (U 7)) 8 (U 8)) 9 (U 9)) 10 (U 10)) 11 (U 11)) ++ st_ws g o U) s H locs := w
  refine ri_iconst hx hb dX4_copyFrom_149 ?_
  refine lv_istore_n (lv' := [(2, .int (iI 0)), (0, .ref (a 0)), (1, .ref (o 0))]) hx hb dX4_copyFrom_150 rfl hl (by decide) rfl (fun ls hl => ?_)
  have w : Wd g A (st_ws g a (upT (upT (upT (upT (upT (upT (upT (upT (upT (upT (upT T 1 (U 1)) 2 (U 2)) 4 (U 4)) 5 (U 5)) 6 (U 6)) 7 (U 7)) 8 (U 8)) 9 (U 9)) 10 (U 10)) 11 (U 11)) 3 (lk (U 3) (T 3) 0)) ++ st_ws g o U) s H locs := by rw [lk_0]; exact w
  have L151 : ∀ (n : Nat) (xk : Int), (xk + n = 6) → (0 ≤ xk) → ∀ (ls : Array Slot) (H : Heap) (locs : List Loc), lv_has ls 3 [(0, .ref (a 0)), (1, .ref (o 0)), (2, .int (iI xk))] → Wd g A (st_ws g a (upT (upT (upT (upT (upT (upT (upT (upT (upT (upT (upT T 1 (U 1)) 2 (U 2)) 4 (U 4)) 5 (U 5)) 6 (U 6)) 7 (U 7)) 8 (U 8)) 9 (U 9)) 10 (U 10)) 11 (U 11)) 3 (lk (U 3) (T 3) xk)) ++ st_ws g o U) s H locs → (∀ (ls : Array Slot) (H : Heap) (locs : List Loc), lv_has ls 3 [(0, .ref (a 0)), (1, .ref (o 0))] → Wd g A (st_ws g a (upT (upT (upT (upT (upT (upT (upT (upT (upT (upT (upT T 1 (U 1)) 2 (U 2)) 4 (U 4)) 5 (U 5)) 6 (U 6)) 7 (U 7)) 8 (U 8)) 9 (U 9)) 10 (U 10)) 11 (U 11)) 3 (U 3)) ++ st_ws g o U) s H locs → W p l e (rmm 2 0 0) s m args below meth c H locs 0 0 Q (F0 m 175 ls [])) → W p l e (rmm 2 0 0) s m args below meth c H locs 0 0 Q (F0 m 151 ls []) := by
    intro n
    induction n with
    | zero =>
      intro xk hn hlo ls H locs hl w kk151
      refine lv_iload_n hx hb dX4_copyFrom_151 rfl (lv_at hl 2 rfl) ?_
      refine ri_bipush hx hb dX4_copyFrom_152 (by decide) ?_
      refine ri_icmp_ge (tgt := 175) hx hb dX4_copyFrom_154 (by decide) (by omega) (by omega) (fun c1 => ?_) (fun c1 => ?_)
      · have w := w.reZ 3 (f' := U 3) rfl (fun i q0 q1 => if_pos ⟨q0, by omega⟩)
        have w : Wd g A (st_ws g a (upT (upT (upT (upT (upT (upT (upT (upT (upT (upT (upT T 1 (U 1)) 2 (U 2)) 4 (U 4)) 5 (U 5)) 6 (U 6)) 7 (U 7)) 8 (U 8)) 9 (U 9)) 10 (U 10)) 11 (U 11)) 3 (U 3)) ++ st_ws g o U) s H locs := w
        exact kk151  ls H locs  (lv_sub hl [0, 1] rfl) w
      · exact absurd c1 (by omega)
    | succ n ih151 =>
      intro xk hn hlo ls H locs hl w kk151
      have hz1 := hz xk (by omega) (by omega)
      refine lv_iload_n hx hb dX4_copyFrom_151 rfl (lv_at hl 2 rfl) ?_
      refine ri_bipush hx hb dX4_copyFrom_152 (by decide) ?_
      refine ri_icmp_ge (tgt := 175) hx hb dX4_copyFrom_154 (by decide) (by omega) (by omega) (fun c2 => ?_) (fun c2 => ?_)
      · exact absurd c2 (by omega)
      refine lv_aload_n hx hb dX4_copyFrom_157 rfl (lv_at hl 0 rfl) ?_
      refine ri_get (v := .ref (a 3)) hx hb hts hown w fX4 0 2 (W0_of k_fl_RX4_18 rfl) rfl rfl (by decide) dX4_copyFrom_158 ?_
      refine lv_iload_n hx hb dX4_copyFrom_161 rfl (lv_at hl 2 rfl) ?_
      refine lv_aload_n hx hb dX4_copyFrom_162 rfl (lv_at hl 1 rfl) ?_
      refine ri_get (v := .ref (o 3)) hx hb hts hown w fX4 18 2 (W0_of k_fl_RX4_18 rfl) rfl rfl (by decide) dX4_copyFrom_163 ?_
      refine lv_iload_n hx hb dX4_copyFrom_166 rfl (lv_at hl 2 rfl) ?_
      refine ri_zald (f := U 3) (v := (U 3) xk) hx hb w 21 rfl (by omega) (rfl) dX4_copyFrom_167 (by omega) ?_
      refine ri_zast hx hb w 3 rfl (by omega) (by omega) dX4_copyFrom_168 (by omega) (fun H locs w => ?_)
      have w : Wd g A (st_ws g a (upT (upT (upT (upT (upT (upT (upT (upT (upT (upT (upT T 1 (U 1)) 2 (U 2)) 4 (U 4)) 5 (U 5)) 6 (U 6)) 7 (U 7)) 8 (U 8)) 9 (U 9)) 10 (U 10)) 11 (U 11)) 3 (up (lk (U 3) (T 3) xk) xk ((U 3) xk))) ++ st_ws g o U) s H locs := w
      refine ri_iinc (k := 2) (z := xk + 1) (lv' := [(2, .int (iI (xk + 1))), (0, .ref (a 0)), (1, .ref (o 0))]) hx hb dX4_copyFrom_169 hl rfl (by omega) (by decide) rfl (fun ls hl => ?_)
      refine lv_goto (tgt := 151) hx hb dX4_copyFrom_172 (by decide) ?_
      rw [lk_s (by omega)] at w
      exact ih151 (xk + 1)  (by omega) (by omega) ls H locs (lv_sub hl [1, 2, 0] rfl) w kk151
  refine L151 6 0  (by omega) (by omega) ls H locs (lv_sub hl [1, 2, 0] rfl) w (fun ls H locs hl w => ?_)
  refine lv_aload_n hx hb dX4_copyFrom_175 rfl (lv_at hl 0 rfl) ?_
  refine ri_get (v := .ref (a 12)) hx hb hts hown w fX4 0 11 (W0_of k_fl_RX4_49 rfl) rfl rfl (by decide) dX4_copyFrom_176 ?_
  refine lv_aload_n hx hb dX4_copyFrom_179 rfl (lv_at hl 1 rfl) ?_
  refine ri_get (v := .ref (o 12)) hx hb hts hown w fX4 18 11 (W0_of k_fl_RX4_49 rfl) rfl rfl (by decide) dX4_copyFrom_180 ?_
  refine call_wV (wr := [(a 0, .inr (4, [.ref (a 1), .ref (a 2), .ref (a 3), .ref (a 4), .ref (a 5), .ref (a 6), .ref (a 7), .ref (a 8), .ref (a 9), .ref (a 10), .ref (a 11), .ref (a 12), .ref (a 13), .int (iI (T 18 0)), .int (iI (T 19 0)), .int (iI (T 20 0)), .int (iI (T 21 0)), .int (iI (T 22 0))])), (a 1, eI g 6 (U 1)), (a 2, eI g 6 (U 2)), (a 3, eZ g 6 (U 3)), (a 4, eI g 6 (U 4)), (a 5, eI g 6 (U 5)), (a 6, eI g 48 (U 6)), (a 7, eI g 48 (U 7)), (a 8, eI g 48 (U 8)), (a 9, eI g 24 (U 9)), (a 10, eI g 24 (U 10)), (a 11, eI g 5 (U 11)), (a 13, .inr (1, [.ref (a 15), .ref (a 16), .ref (a 17), .int (iI (T 24 0))])), (a 15, eI g 8 (T 15)), (a 16, eI g 8 (T 16)), (a 17, eI g 8 (T 17)), (o 0, .inr (4, [.ref (o 1), .ref (o 2), .ref (o 3), .ref (o 4), .ref (o 5), .ref (o 6), .ref (o 7), .ref (o 8), .ref (o 9), .ref (o 10), .ref (o 11), .ref (o 12), .ref (o 13), .int (iI (U 18 0)), .int (iI (U 19 0)), .int (iI (U 20 0)), .int (iI (U 21 0)), .int (iI (U 22 0))])), (o 1, eI g 6 (U 1)), (o 2, eI g 6 (U 2)), (o 3, eZ g 6 (U 3)), (o 4, eI g 6 (U 4)), (o 5, eI g 6 (U 5)), (o 6, eI g 48 (U 6)), (o 7, eI g 48 (U 7)), (o 8, eI g 48 (U 8)), (o 9, eI g 24 (U 9)), (o 10, eI g 24 (U 10)), (o 11, eI g 5 (U 11)), (o 13, .inr (1, [.ref (o 15), .ref (o 16), .ref (o 17), .int (iI (U 24 0))])), (o 15, eI g 8 (U 15)), (o 16, eI g 8 (U 16)), (o 17, eI g 8 (U 17))]) (As := [.ref (o 12)]) (rest := []) hx hb (hml.trans hl.1.symm) hown hts w lk_RX4_88 (fun sz => t_X0_copyFrom l g (a 12) (a 14) (T 14) (T 23 0) (o 12) (o 14) (U 14) (U 23 0) sz) [12, 14, 30, 32] [0, 1, 2, 3, 4, 5, 6, 7, 8, 9, 10, 11, 13, 15, 16, 17, 18, 19, 20, 21, 22, 23, 24, 25, 26, 27, 28, 29, 31, 33, 34, 35] rfl rfl rfl rfl (by decide) (call_recv w (q0 := 12) rfl fX0.1) rfl rfl (Nat.le_of_ble_eq_true rfl) ⟨Nat.le_of_ble_eq_true rfl, Nat.le_of_ble_eq_true rfl⟩ ⟨Nat.le_of_ble_eq_true rfl, Nat.le_of_ble_eq_true rfl⟩ dX4_copyFrom_183 (fun v w1 H locs hr w => ?_)
  obtain ⟨rfl, rfl⟩ := hr
  have w := w.perm (wc := [(a 0, .inr (4, [.ref (a 1), .ref (a 2), .ref (a 3), .ref (a 4), .ref (a 5), .ref (a 6), .ref (a 7), .ref (a 8), .ref (a 9), .ref (a 10), .ref (a 11), .ref (a 12), .ref (a 13), .int (iI (T 18 0)), .int (iI (T 19 0)), .int (iI (T 20 0)), .int (iI (T 21 0)), .int (iI (T 22 0))])), (a 1, eI g 6 (U 1)), (a 2, eI g 6 (U 2)), (a 3, eZ g 6 (U 3)), (a 4, eI g 6 (U 4)), (a 5, eI g 6 (U 5)), (a 6, eI g 48 (U 6)), (a 7, eI g 48 (U 7)), (a 8, eI g 48 (U 8)), (a 9, eI g 24 (U 9)), (a 10, eI g 24 (U 10)), (a 11, eI g 5 (U 11)), (a 12, .inr (0, [.ref (a 14), .int (iI (U 23 0))])), (a 13, .inr (1, [.ref (a 15), .ref (a 16), .ref (a 17), .int (iI (T 24 0))])), (a 14, eI g 4 (U 14)), (a 15, eI g 8 (T 15)), (a 16, eI g 8 (T 16)), (a 17, eI g 8 (T 17)), (o 0, .inr (4, [.ref (o 1), .ref (o 2), .ref (o 3), .ref (o 4), .ref (o 5), .ref (o 6), .ref (o 7), .ref (o 8), .ref (o 9), .ref (o 10), .ref (o 11), .ref (o 12), .ref (o 13), .int (iI (U 18 0)), .int (iI (U 19 0)), .int (iI (U 20 0)), .int (iI (U 21 0)), .int (iI (U 22 0))])), (o 1, eI g 6 (U 1)), (o 2, eI g 6 (U 2)), (o 3, eZ g 6 (U 3)), (o 4, eI g 6 (U 4)), (o 5, eI g 6 (U 5)), (o 6, eI g 48 (U 6)), (o 7, eI g 48 (U 7)), (o 8, eI g 48 (U 8)), (o 9, eI g 24 (U 9)), (o 10, eI g 24 (U 10)), (o 11, eI g 5 (U 11)), (o 12, .inr (0, [.ref (o 14), .int (iI (U 23 0))])), (o 13, .inr (1, [.ref (o 15), .ref (o 16), .ref (o 17), .int (iI (U 24 0))])), (o 14, eI g 4 (U 14)), (o 15, eI g 8 (U 15)), (o 16, eI g 8 (U 16)), (o 17, eI g 8 (U 17))]) [0, 1, 2, 3, 4, 5, 6, 7, 8, 9, 10, 11, 32, 12, 33, 13, 14, 15, 16, 17, 18, 19, 20, 21, 22, 23, 24, 25, 26, 27, 34, 28, 35, 29, 30, 31] (by decide) rfl
  have w : Wd g A (st_ws g a (upT (upT (upT (upT (upT (upT (upT (upT (upT (upT (upT (upT (upT T 1 (U 1)) 2 (U 2)) 4 (U 4)) 5 (U 5)) 6 (U 6)) 7 (U 7)) 8 (U 8)) 9 (U 9)) 10 (U 10)) 11 (U 11)) 3 (U 3)) 14 (U 14)) 23 (fun _ => U 23 0)) ++ st_ws g o U) s H locs := w
  refine lv_aload_n hx hb dX4_copyFrom_186 rfl (lv_at hl 0 rfl) ?_
  refine ri_get (v := .ref (a 13)) hx hb hts hown w fX4 0 12 (W0_of k_fl_RX4_56 rfl) rfl rfl (by decide) dX4_copyFrom_187 ?_
  refine lv_aload_n hx hb dX4_copyFrom_190 rfl (lv_at hl 1 rfl) ?_
  refine ri_get (v := .ref (o 13)) hx hb hts hown w fX4 18 12 (W0_of k_fl_RX4_56 rfl) rfl rfl (by decide) dX4_copyFrom_191 ?_
  refine call_wV (wr := [(a 0, .inr (4, [.ref (a 1), .ref (a 2), .ref (a 3), .ref (a 4), .ref (a 5), .ref (a 6), .ref (a 7), .ref (a 8), .ref (a 9), .ref (a 10), .ref (a 11), .ref (a 12), .ref (a 13), .int (iI (T 18 0)), .int (iI (T 19 0)), .int (iI (T 20 0)), .int (iI (T 21 0)), .int (iI (T 22 0))])), (a 1, eI g 6 (U 1)), (a 2, eI g 6 (U 2)), (a 3, eZ g 6 (U 3)), (a 4, eI g 6 (U 4)), (a 5, eI g 6 (U 5)), (a 6, eI g 48 (U 6)), (a 7, eI g 48 (U 7)), (a 8, eI g 48 (U 8)), (a 9, eI g 24 (U 9)), (a 10, eI g 24 (U 10)), (a 11, eI g 5 (U 11)), (a 12, .inr (0, [.ref (a 14), .int (iI (U 23 0))])), (a 14, eI g 4 (U 14)), (o 0, .inr (4, [.ref (o 1), .ref (o 2), .ref (o 3), .ref (o 4), .ref (o 5), .ref (o 6), .ref (o 7), .ref (o 8), .ref (o 9), .ref (o 10), .ref (o 11), .ref (o 12), .ref (o 13), .int (iI (U 18 0)), .int (iI (U 19 0)), .int (iI (U 20 0)), .int (iI (U 21 0)), .int (iI (U 22 0))])), (o 1, eI g 6 (U 1)), (o 2, eI g 6 (U 2)), (o 3, eZ g 6 (U 3)), (o 4, eI g 6 (U 4)), (o 5, eI g 6 (U 5)), (o 6, eI g 48 (U 6)), (o 7, eI g 48 (U 7)), (o 8, eI g 48 (U 8)), (o 9, eI g 24 (U 9)), (o 10, eI g 24 (U 10)), (o 11, eI g 5 (U 11)), (o 12, .inr (0, [.ref (o 14), .int (iI (U 23 0))])), (o 14, eI g 4 (U 14))]) (As := [.ref (o 13)]) (rest := []) hx hb (hml.trans hl.1.symm) hown hts w lk_RX4_92 (fun sz => t_X1_copyFrom l g (a 13) (a 15) (a 16) (a 17) (T 15) (T 16) (T 17) (T 24 0) (o 13) (o 15) (o 16) (o 17) (U 15) (U 16) (U 17) (U 24 0) sz) [13, 15, 16, 17, 31, 33, 34, 35] [0, 1, 2, 3, 4, 5, 6, 7, 8, 9, 10, 11, 12, 14, 18, 19, 20, 21, 22, 23, 24, 25, 26, 27, 28, 29, 30, 32] rfl rfl rfl rfl (by decide) (call_recv w (q0 := 13) rfl fX1.1) rfl rfl (Nat.le_of_ble_eq_true rfl) ⟨Nat.le_of_ble_eq_true rfl, Nat.le_of_ble_eq_true rfl⟩ ⟨Nat.le_of_ble_eq_true rfl, Nat.le_of_ble_eq_true rfl⟩ dX4_copyFrom_194 (fun v w1 H locs hr w => ?_)
  obtain ⟨rfl, rfl⟩ := hr
  have w := w.perm (wc := [(a 0, .inr (4, [.ref (a 1), .ref (a 2), .ref (a 3), .ref (a 4), .ref (a 5), .ref (a 6), .ref (a 7), .ref (a 8), .ref (a 9), .ref (a 10), .ref (a 11), .ref (a 12), .ref (a 13), .int (iI (T 18 0)), .int (iI (T 19 0)), .int (iI (T 20 0)), .int (iI (T 21 0)), .int (iI (T 22 0))])), (a 1, eI g 6 (U 1)), (a 2, eI g 6 (U 2)), (a 3, eZ g 6 (U 3)), (a 4, eI g 6 (U 4)), (a 5, eI g 6 (U 5)), (a 6, eI g 48 (U 6)), (a 7, eI g 48 (U 7)), (a 8, eI g 48 (U 8)), (a 9, eI g 24 (U 9)), (a 10, eI g 24 (U 10)), (a 11, eI g 5 (U 11)), (a 12, .inr (0, [.ref (a 14), .int (iI (U 23 0))])), (a 13, .inr (1, [.ref (a 15), .ref (a 16), .ref (a 17), .int (iI (U 24 0))])), (a 14, eI g 4 (U 14)), (a 15, eI g 8 (U 15)), (a 16, eI g 8 (U 16)), (a 17, eI g 8 (U 17)), (o 0, .inr (4, [.ref (o 1), .ref (o 2), .ref (o 3), .ref (o 4), .ref (o 5), .ref (o 6), .ref (o 7), .ref (o 8), .ref (o 9), .ref (o 10), .ref (o 11), .ref (o 12), .ref (o 13), .int (iI (U 18 0)), .int (iI (U 19 0)), .int (iI (U 20 0)), .int (iI (U 21 0)), .int (iI (U 22 0))])), (o 1, eI g 6 (U 1)), (o 2, eI g 6 (U 2)), (o 3, eZ g 6 (U 3)), (o 4, eI g 6 (U 4)), (o 5, eI g 6 (U 5)), (o 6, eI g 48 (U 6)), (o 7, eI g 48 (U 7)), (o 8, eI g 48 (U 8)), (o 9, eI g 24 (U 9)), (o 10, eI g 24 (U 10)), (o 11, eI g 5 (U 11)), (o 12, .inr (0, [.ref (o 14), .int (iI (U 23 0))])), (o 13, .inr (1, [.ref (o 15), .ref (o 16), .ref (o 17), .int (iI (U 24 0))])), (o 14, eI g 4 (U 14)), (o 15, eI g 8 (U 15)), (o 16, eI g 8 (U 16)), (o 17, eI g 8 (U 17))]) [0, 1, 2, 3, 4, 5, 6, 7, 8, 9, 10, 11, 12, 28, 13, 29, 30, 31, 14, 15, 16, 17, 18, 19, 20, 21, 22, 23, 24, 25, 26, 32, 27, 33, 34, 35] (by decide) rfl
  have w : Wd g A (st_ws g a (upT (upT (upT (upT (upT (upT (upT (upT (upT (upT (upT (upT (upT (upT (upT (upT (upT T 1 (U 1)) 2 (U 2)) 4 (U 4)) 5 (U 5)) 6 (U 6)) 7 (U 7)) 8 (U 8)) 9 (U 9)) 10 (U 10)) 11 (U 11)) 3 (U 3)) 14 (U 14)) 23 (fun _ => U 23 0)) 15 (U 15)) 16 (U 16)) 17 (U 17)) 24 (fun _ => U 24 0)) ++ st_ws g o U) s H locs := w
  refine lv_aload_n hx hb dX4_copyFrom_197 rfl (lv_at hl 0 rfl) ?_
  refine lv_aload_n hx hb dX4_copyFrom_198 rfl (lv_at hl 1 rfl) ?_
  refine ri_get (v := .int (iI (U 18 0))) hx hb hts hown w fX4 18 13 (W0_of k_fl_RX4_60 rfl) rfl rfl (by decide) dX4_copyFrom_199 ?_
  refine ri_put hx hb hts hown w fX4 0 13 (W0_of k_fl_RX4_60 rfl) rfl (Nat.le_of_ble_eq_true rfl) (by decide) rfl rfl rfl dX4_copyFrom_202 (fun H locs w => ?_)
  have w : Wd g A (st_ws g a (upT (upT (upT (upT (upT (upT (upT (upT (upT (upT (upT (upT (upT (upT (upT (upT (upT (upT T 1 (U 1)) 2 (U 2)) 4 (U 4)) 5 (U 5)) 6 (U 6)) 7 (U 7)) 8 (U 8)) 9 (U 9)) 10 (U 10)) 11 (U 11)) 3 (U 3)) 14 (U 14)) 23 (fun _ => U 23 0)) 15 (U 15)) 16 (U 16)) 17 (U 17)) 24 (fun _ => U 24 0)) 18 (fun _ => U 18 0)) ++ st_ws g o U) s H locs := w
  refine lv_aload_n hx hb dX4_copyFrom_205 rfl (lv_at hl 0 rfl) ?_
  refine lv_aload_n hx hb dX4_copyFrom_206 rfl (lv_at hl 1 rfl) ?_
  refine ri_get (v := .int (iI (U 19 0))) hx hb hts hown w fX4 18 14 (W0_of k_fl_RX4_64 rfl) rfl rfl (by decide) dX4_copyFrom_207 ?_
  refine ri_put hx hb hts hown w fX4 0 14 (W0_of k_fl_RX4_64 rfl) rfl (Nat.le_of_ble_eq_true rfl) (by decide) rfl rfl rfl dX4_copyFrom_210 (fun H locs w => ?_)
  have w : Wd g A (st_ws g a (upT (upT (upT (upT (upT (upT (upT (upT (upT (upT (upT (upT (upT (upT (upT (upT (upT (upT (upT T 1 (U 1)) 2 (U 2)) 4 (U 4)) 5 (U 5)) 6 (U 6)) 7 (U 7)) 8 (U 8)) 9 (U 9)) 10 (U 10)) 11 (U 11)) 3 (U 3)) 14 (U 14)) 23 (fun _ => U 23 0)) 15 (U 15)) 16 (U 16)) 17 (U 17)) 24 (fun _ => U 24 0)) 18 (fun _ => U 18 0)) 19 (fun _ => U 19 0)) ++ st_ws g o U) s H locs := w
  refine lv_aload_n hx hb dX4_copyFrom_213 rfl (lv_at hl 0 rfl) ?_
  refine lv_aload_n hx hb dX4_copyFrom_214 rfl (lv_at hl 1 rfl) ?_
  refine ri_get (v := .int (iI (U 20 0))) hx hb hts hown w fX4 18 15 (W0_of k_fl_RX4_67 rfl) rfl rfl (by decide) dX4_copyFrom_215 ?_
  refine ri_put hx hb hts hown w fX4 0 15 (W0_of k_fl_RX4_67 rfl) rfl (Nat.le_of_ble_eq_true rfl) (by decide) rfl rfl rfl dX4_copyFrom_218 (fun H locs w => ?_)
  have w : Wd g A (st_ws g a (upT (upT (upT (upT (upT (upT (upT (upT (upT (upT (upT (upT (upT (upT (upT (upT (upT (upT (upT (upT T 1 (U 1)) 2 (U 2)) 4 (U 4)) 5 (U 5)) 6 (U 6)) 7 (U 7)) 8 (U 8)) 9 (U 9)) 10 (U 10)) 11 (U 11)) 3 (U 3)) 14 (U 14)) 23 (fun _ => U 23 0)) 15 (U 15)) 16 (U 16)) 17 (U 17)) 24 (fun _ => U 24 0)) 18 (fun _ => U 18 0)) 19 (fun _ => U 19 0)) 20 (fun _ => U 20 0)) ++ st_ws g o U) s H locs := w
  refine lv_aload_n hx hb dX4_copyFrom_221 rfl (lv_at hl 0 rfl) ?_
  refine lv_aload_n hx hb dX4_copyFrom_222 rfl (lv_at hl 1 rfl) ?_
  refine ri_get (v := .int (iI (U 21 0))) hx hb hts hown w fX4 18 16 (W0_of k_fl_RX4_70 rfl) rfl rfl (by decide) dX4_copyFrom_223 ?_
  refine ri_put hx hb hts hown w fX4 0 16 (W0_of k_fl_RX4_70 rfl) rfl (Nat.le_of_ble_eq_true rfl) (by decide) rfl rfl rfl dX4_copyFrom_226 (fun H locs w => ?_)
  have w : Wd g A (st_ws g a (upT (upT (upT (upT (upT (upT (upT (upT (upT (upT (upT (upT (upT (upT (upT (upT (upT (upT (upT (upT (upT T 1 (U 1)) 2 (U 2)) 4 (U 4)) 5 (U 5)) 6 (U 6)) 7 (U 7)) 8 (U 8)) 9 (U 9)) 10 (U 10)) 11 (U 11)) 3 (U 3)) 14 (U 14)) 23 (fun _ => U 23 0)) 15 (U 15)) 16 (U 16)) 17 (U 17)) 24 (fun _ => U 24 0)) 18 (fun _ => U 18 0)) 19 (fun _ => U 19 0)) 20 (fun _ => U 20 0)) 21 (fun _ => U 21 0)) ++ st_ws g o U) s H locs := w
  refine lv_aload_n hx hb dX4_copyFrom_229 rfl (lv_at hl 0 rfl) ?_
  refine lv_aload_n hx hb dX4_copyFrom_230 rfl (lv_at hl 1 rfl) ?_
  refine ri_get (v := .int (iI (U 22 0))) hx hb hts hown w fX4 18 17 (W0_of k_fl_RX4_73 rfl) rfl rfl (by decide) dX4_copyFrom_231 ?_
  refine ri_put hx hb hts hown w fX4 0 17 (W0_of k_fl_RX4_73 rfl) rfl (Nat.le_of_ble_eq_true rfl) (by decide) rfl rfl rfl dX4_copyFrom_234 (fun H locs w => ?_)
  have w : Wd g A (st_ws g a (upT (upT (upT (upT (upT (upT (upT (upT (upT (upT (upT (upT (upT (upT (upT (upT (upT (upT (upT (upT (upT (upT T 1 (U 1)) 2 (U 2)) 4 (U 4)) 5 (U 5)) 6 (U 6)) 7 (U 7)) 8 (U 8)) 9 (U 9)) 10 (U 10)) 11 (U 11)) 3 (U 3)) 14 (U 14)) 23 (fun _ => U 23 0)) 15 (U 15)) 16 (U 16)) 17 (U 17)) 24 (fun _ => U 24 0)) 18 (fun _ => U 18 0)) 19 (fun _ => U 19 0)) 20 (fun _ => U 20 0)) 21 (fun _ => U 21 0)) 22 (fun _ => U 22 0)) ++ st_ws g o U) s H locs := w
  exact hend.1 rfl _ _ _ _ _ dX4_copyFrom_237 w ⟨rfl, rfl⟩
