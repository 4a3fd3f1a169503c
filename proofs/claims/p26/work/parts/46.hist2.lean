set_option maxHeartbeats 4000000 in
set_option maxRecDepth 100000 in
theorem t_X2_init (l : Launch) (g : GG) (h0 : Nat) (sz : Nat) : Met l yX2_init (wm yX2_init cX2_init 2 none) (rmm 4 73 1120) (pW g [(h0, .inr (2, [.null, .int (iI 0)]))] sz [.ref h0]) (qW g [(h0, .inr (2, [.null, .int (iI 0)]))] (fun vv ww => vv = none ∧ ∃ (x : Nat → Nat) (h : Nat → Nat → Nat), x 0 = h0 ∧ ww = hi_ws g x h (fun _ => T_0) 0)) 73 1120 (va_A [(h0, .inr (2, [.null, .int (iI 0)]))] sz) := by
  refine met_w (by decide) (Nat.le_of_ble_eq_true rfl) ?_
  intro p e s m args below meth c Q ls A hx hb hml hown hts hl w hin hend
  obtain ⟨H, hH0⟩ : ∃ H, H = s.heap := ⟨_, rfl⟩
  obtain ⟨locs, hL0⟩ : ∃ locs : List Loc, locs = [] := ⟨_, rfl⟩
  rw [← hH0, ← hL0] at w
  rw [← hH0, ← hL0]
  have hin := hin rfl
  have hl : lv_has ls 2 [(0, .ref h0)] := hl
  refine lv_aload_n hx hb dX2_init_0 rfl (lv_at hl 0 rfl) ?_
  refine ri_objInit hx hb (hml.trans hl.1.symm) hown hts (W0_of k_ml_RX2_3 rfl) ⟨Nat.le_of_ble_eq_true rfl, Nat.le_of_ble_eq_true rfl⟩ dX2_init_1 ?_
  refine lv_aload_n hx hb dX2_init_4 rfl (lv_at hl 0 rfl) ?_
  refine ri_iconst hx hb dX2_init_5 ?_
  refine ri_newq (N' := 4) hx hb hown hts w (W0_of k_cl_RX2_9 rfl) (by omega) (by omega) ⟨Nat.le_of_ble_eq_true rfl, Nat.le_of_ble_eq_true rfl⟩ dX2_init_6 (fun q1 H w => ?_)
  have w : Wd g A [(h0, .inr (2, [.null, .int (iI 0)])), (q1, eO g 4 (qf [none, none, none, none]))] s H locs := by rw [← qf_0]; exact w
  refine ri_putF hx hb hts hown w fX2 0 0 (W0_of k_fl_RX2_11 rfl) rfl (Nat.le_of_ble_eq_true rfl) (by decide) rfl hin rfl rfl rfl dX2_init_9 (fun H locs w => ?_)
  have w : Wd g A [(h0, .inr (2, [.ref q1, .int (iI 0)])), (q1, eO g 4 (qf [none, none, none, none]))] s H locs := w
  refine lv_aload_n hx hb dX2_init_12 rfl (lv_at hl 0 rfl) ?_
  refine ri_iconst hx hb dX2_init_13 ?_
  refine ri_put hx hb hts hown w fX2 0 1 (W0_of k_fl_RX2_17 rfl) rfl (Nat.le_of_ble_eq_true rfl) (by decide) rfl rfl rfl dX2_init_14 (fun H locs w => ?_)
  have w : Wd g A [(h0, .inr (2, [.ref q1, .int (iI 0)])), (q1, eO g 4 (qf [none, none, none, none]))] s H locs := w
  refine ri_iconst hx hb dX2_init_17 ?_
  refine lv_istore_n (lv' := [(1, .int (iI 0)), (0, .ref h0)]) hx hb dX2_init_18 rfl hl (by decide) rfl (fun ls hl => ?_)
  refine lv_iload_n hx hb dX2_init_19 rfl (lv_at hl 0 rfl) ?_
  refine ri_iconst hx hb dX2_init_20 ?_
  refine ri_icmp_ge (tgt := 43) hx hb dX2_init_21 (by decide) (by omega) (by omega) (fun c2 => ?_) (fun c2 => ?_)
  · exact absurd c2 (by omega)
  refine lv_aload_n hx hb dX2_init_24 rfl (lv_at hl 1 rfl) ?_
  refine ri_get (v := .ref q1) hx hb hts hown w fX2 0 0 (W0_of k_fl_RX2_11 rfl) rfl rfl (by decide) dX2_init_25 ?_
  refine lv_iload_n hx hb dX2_init_28 rfl (lv_at hl 0 rfl) ?_
  refine ri_new (fs := [.null, .null, .null, .null, .null, .null, .null, .null, .null, .null, .null, .null, .null, .int (iI 0), .int (iI 0), .int (iI 0), .int (iI 0), .int (iI 0)]) hx hb hown hts w fX4 (W0_of k_cl_RX2_9 rfl) (W0_of k_new_RX4 rfl) (W0_of k_ini_RX4 rfl) (fun j hj => by match j, hj with | 0, _ => rfl | 1, _ => rfl | 2, _ => rfl | 3, _ => rfl | 4, _ => rfl | 5, _ => rfl | 6, _ => rfl | 7, _ => rfl | 8, _ => rfl | 9, _ => rfl | 10, _ => rfl | 11, _ => rfl | 12, _ => rfl | 13, _ => rfl | 14, _ => rfl | 15, _ => rfl | 16, _ => rfl | 17, _ => rfl | n + 18, hj => exact absurd hj (by omega)) ⟨Nat.le_of_ble_eq_true rfl, Nat.le_of_ble_eq_true rfl⟩ dX2_init_29 (fun q3 H w => ?_)
  have w : Wd g A [(h0, .inr (2, [.ref q1, .int (iI 0)])), (q1, eO g 4 (qf [none, none, none, none])), (q3, .inr (4, [.null, .null, .null, .null, .null, .null, .null, .null, .null, .null, .null, .null, .null, .int (iI 0), .int (iI 0), .int (iI 0), .int (iI 0), .int (iI 0)]))] s H locs := w
  refine lv_dup hx hb dX2_init_32 rfl ?_
  refine call_wI (wr := [(h0, .inr (2, [.ref q1, .int (iI 0)])), (q1, eO g 4 (qf [none, none, none, none]))]) (As := []) (rest := [.ref q3, .int (iI 0), .ref q1]) hx hb (hml.trans hl.1.symm) hown hts w lk_RX2_21 (fun sz => t_X4_init l g q3 sz) [2] [0, 1] rfl rfl rfl rfl (by decide) rfl rfl (Nat.le_of_ble_eq_true rfl) ⟨Nat.le_of_ble_eq_true rfl, Nat.le_of_ble_eq_true rfl⟩ ⟨Nat.le_of_ble_eq_true rfl, Nat.le_of_ble_eq_true rfl⟩ dX2_init_33 (fun v w1 H locs hr w => ?_)
  obtain ⟨rfl, a4, rfl, rfl⟩ := hr
  have w : Wd g A ([(h0, .inr (2, [.ref q1, .int (iI 0)])), (q1, eO g 4 (qf [none, none, none, none]))] ++ st_ws g a4 T_0) s H locs := w
  refine ri_astq hx hb w 1 2 rfl rfl (by omega) (f' := (qf [some (a4 0), none, none, none])) (qf_up (Nat.le_of_ble_eq_true rfl) rfl) dX2_init_36 (by omega) (fun H locs w => ?_)
  have w : Wd g A ([(h0, .inr (2, [.ref q1, .int (iI 0)])), (q1, eO g 4 (qf [some (a4 0), none, none, none]))] ++ st_ws g a4 T_0) s H locs := w
  refine ri_iinc (k := 0) (z := 1) (lv' := [(1, .int (iI 1)), (0, .ref h0)]) hx hb dX2_init_37 hl rfl (by omega) (by decide) rfl (fun ls hl => ?_)
  refine lv_goto (tgt := 19) hx hb dX2_init_40 (by decide) ?_
  refine lv_iload_n hx hb dX2_init_19 rfl (lv_at hl 0 rfl) ?_
  refine ri_iconst hx hb dX2_init_20 ?_
  refine ri_icmp_ge (tgt := 43) hx hb dX2_init_21 (by decide) (by omega) (by omega) (fun c5 => ?_) (fun c5 => ?_)
  · exact absurd c5 (by omega)
  refine lv_aload_n hx hb dX2_init_24 rfl (lv_at hl 1 rfl) ?_
  refine ri_get (v := .ref q1) hx hb hts hown w fX2 0 0 (W0_of k_fl_RX2_11 rfl) rfl rfl (by decide) dX2_init_25 ?_
  refine lv_iload_n hx hb dX2_init_28 rfl (lv_at hl 0 rfl) ?_
  refine ri_new (fs := [.null, .null, .null, .null, .null, .null, .null, .null, .null, .null, .null, .null, .null, .int (iI 0), .int (iI 0), .int (iI 0), .int (iI 0), .int (iI 0)]) hx hb hown hts w fX4 (W0_of k_cl_RX2_9 rfl) (W0_of k_new_RX4 rfl) (W0_of k_ini_RX4 rfl) (fun j hj => by match j, hj with | 0, _ => rfl | 1, _ => rfl | 2, _ => rfl | 3, _ => rfl | 4, _ => rfl | 5, _ => rfl | 6, _ => rfl | 7, _ => rfl | 8, _ => rfl | 9, _ => rfl | 10, _ => rfl | 11, _ => rfl | 12, _ => rfl | 13, _ => rfl | 14, _ => rfl | 15, _ => rfl | 16, _ => rfl | 17, _ => rfl | n + 18, hj => exact absurd hj (by omega)) ⟨Nat.le_of_ble_eq_true rfl, Nat.le_of_ble_eq_true rfl⟩ dX2_init_29 (fun q6 H w => ?_)
  have w : Wd g A ([(h0, .inr (2, [.ref q1, .int (iI 0)])), (q1, eO g 4 (qf [some (a4 0), none, none, none]))] ++ st_ws g a4 T_0 ++ [(q6, .inr (4, [.null, .null, .null, .null, .null, .null, .null, .null, .null, .null, .null, .null, .null, .int (iI 0), .int (iI 0), .int (iI 0), .int (iI 0), .int (iI 0)]))]) s H locs := w
  refine lv_dup hx hb dX2_init_32 rfl ?_
  refine call_wI (wr := ([(h0, .inr (2, [.ref q1, .int (iI 0)])), (q1, eO g 4 (qf [some (a4 0), none, none, none]))] ++ st_ws g a4 T_0)) (As := []) (rest := [.ref q6, .int (iI 1), .ref q1]) hx hb (hml.trans hl.1.symm) hown hts w lk_RX2_21 (fun sz => t_X4_init l g q6 sz) [20] [0, 1, 2, 3, 4, 5, 6, 7, 8, 9, 10, 11, 12, 13, 14, 15, 16, 17, 18, 19] rfl rfl rfl rfl (by decide) rfl rfl (Nat.le_of_ble_eq_true rfl) ⟨Nat.le_of_ble_eq_true rfl, Nat.le_of_ble_eq_true rfl⟩ ⟨Nat.le_of_ble_eq_true rfl, Nat.le_of_ble_eq_true rfl⟩ dX2_init_33 (fun v w1 H locs hr w => ?_)
  obtain ⟨rfl, a7, rfl, rfl⟩ := hr
  have w : Wd g A ([(h0, .inr (2, [.ref q1, .int (iI 0)])), (q1, eO g 4 (qf [some (a4 0), none, none, none]))] ++ st_ws g a4 T_0 ++ st_ws g a7 T_0) s H locs := w
  refine ri_astq hx hb w 1 20 rfl rfl (by omega) (f' := (qf [some (a4 0), some (a7 0), none, none])) (qf_up (Nat.le_of_ble_eq_true rfl) rfl) dX2_init_36 (by omega) (fun H locs w => ?_)
  have w : Wd g A ([(h0, .inr (2, [.ref q1, .int (iI 0)])), (q1, eO g 4 (qf [some (a4 0), some (a7 0), none, none]))] ++ st_ws g a4 T_0 ++ st_ws g a7 T_0) s H locs := w
  refine ri_iinc (k := 0) (z := 2) (lv' := [(1, .int (iI 2)), (0, .ref h0)]) hx hb dX2_init_37 hl rfl (by omega) (by decide) rfl (fun ls hl => ?_)
  refine lv_goto (tgt := 19) hx hb dX2_init_40 (by decide) ?_
  refine lv_iload_n hx hb dX2_init_19 rfl (lv_at hl 0 rfl) ?_
  refine ri_iconst hx hb dX2_init_20 ?_
  refine ri_icmp_ge (tgt := 43) hx hb dX2_init_21 (by decide) (by omega) (by omega) (fun c8 => ?_) (fun c8 => ?_)
  · exact absurd c8 (by omega)
  refine lv_aload_n hx hb dX2_init_24 rfl (lv_at hl 1 rfl) ?_
  refine ri_get (v := .ref q1) hx hb hts hown w fX2 0 0 (W0_of k_fl_RX2_11 rfl) rfl rfl (by decide) dX2_init_25 ?_
  refine lv_iload_n hx hb dX2_init_28 rfl (lv_at hl 0 rfl) ?_
  refine ri_new (fs := [.null, .null, .null, .null, .null, .null, .null, .null, .null, .null, .null, .null, .null, .int (iI 0), .int (iI 0), .int (iI 0), .int (iI 0), .int (iI 0)]) hx hb hown hts w fX4 (W0_of k_cl_RX2_9 rfl) (W0_of k_new_RX4 rfl) (W0_of k_ini_RX4 rfl) (fun j hj => by match j, hj with | 0, _ => rfl | 1, _ => rfl | 2, _ => rfl | 3, _ => rfl | 4, _ => rfl | 5, _ => rfl | 6, _ => rfl | 7, _ => rfl | 8, _ => rfl | 9, _ => rfl | 10, _ => rfl | 11, _ => rfl | 12, _ => rfl | 13, _ => rfl | 14, _ => rfl | 15, _ => rfl | 16, _ => rfl | 17, _ => rfl | n + 18, hj => exact absurd hj (by omega)) ⟨Nat.le_of_ble_eq_true rfl, Nat.le_of_ble_eq_true rfl⟩ dX2_init_29 (fun q9 H w => ?_)
  have w : Wd g A ([(h0, .inr (2, [.ref q1, .int (iI 0)])), (q1, eO g 4 (qf [some (a4 0), some (a7 0), none, none]))] ++ st_ws g a4 T_0 ++ st_ws g a7 T_0 ++ [(q9, .inr (4, [.null, .null, .null, .null, .null, .null, .null, .null, .null, .null, .null, .null, .null, .int (iI 0), .int (iI 0), .int (iI 0), .int (iI 0), .int (iI 0)]))]) s H locs := w
  refine lv_dup hx hb dX2_init_32 rfl ?_
  refine call_wI (wr := ([(h0, .inr (2, [.ref q1, .int (iI 0)])), (q1, eO g 4 (qf [some (a4 0), some (a7 0), none, none]))] ++ st_ws g a4 T_0 ++ st_ws g a7 T_0)) (As := []) (rest := [.ref q9, .int (iI 2), .ref q1]) hx hb (hml.trans hl.1.symm) hown hts w lk_RX2_21 (fun sz => t_X4_init l g q9 sz) [38] [0, 1, 2, 3, 4, 5, 6, 7, 8, 9, 10, 11, 12, 13, 14, 15, 16, 17, 18, 19, 20, 21, 22, 23, 24, 25, 26, 27, 28, 29, 30, 31, 32, 33, 34, 35, 36, 37] rfl rfl rfl rfl (by decide) rfl rfl (Nat.le_of_ble_eq_true rfl) ⟨Nat.le_of_ble_eq_true rfl, Nat.le_of_ble_eq_true rfl⟩ ⟨Nat.le_of_ble_eq_true rfl, Nat.le_of_ble_eq_true rfl⟩ dX2_init_33 (fun v w1 H locs hr w => ?_)
  obtain ⟨rfl, a10, rfl, rfl⟩ := hr
  have w : Wd g A ([(h0, .inr (2, [.ref q1, .int (iI 0)])), (q1, eO g 4 (qf [some (a4 0), some (a7 0), none, none]))] ++ st_ws g a4 T_0 ++ st_ws g a7 T_0 ++ st_ws g a10 T_0) s H locs := w
  refine ri_astq hx hb w 1 38 rfl rfl (by omega) (f' := (qf [some (a4 0), some (a7 0), some (a10 0), none])) (qf_up (Nat.le_of_ble_eq_true rfl) rfl) dX2_init_36 (by omega) (fun H locs w => ?_)
  have w : Wd g A ([(h0, .inr (2, [.ref q1, .int (iI 0)])), (q1, eO g 4 (qf [some (a4 0), some (a7 0), some (a10 0), none]))] ++ st_ws g a4 T_0 ++ st_ws g a7 T_0 ++ st_ws g a10 T_0) s H locs := w
  refine ri_iinc (k := 0) (z := 3) (lv' := [(1, .int (iI 3)), (0, .ref h0)]) hx hb dX2_init_37 hl rfl (by omega) (by decide) rfl (fun ls hl => ?_)
  refine lv_goto (tgt := 19) hx hb dX2_init_40 (by decide) ?_
  refine lv_iload_n hx hb dX2_init_19 rfl (lv_at hl 0 rfl) ?_
  refine ri_iconst hx hb dX2_init_20 ?_
  refine ri_icmp_ge (tgt := 43) hx hb dX2_init_21 (by decide) (by omega) (by omega) (fun c11 => ?_) (fun c11 => ?_)
  · exact absurd c11 (by omega)
  refine lv_aload_n hx hb dX2_init_24 rfl (lv_at hl 1 rfl) ?_
  refine ri_get (v := .ref q1) hx hb hts hown w fX2 0 0 (W0_of k_fl_RX2_11 rfl) rfl rfl (by decide) dX2_init_25 ?_
  refine lv_iload_n hx hb dX2_init_28 rfl (lv_at hl 0 rfl) ?_
  refine ri_new (fs := [.null, .null, .null, .null, .null, .null, .null, .null, .null, .null, .null, .null, .null, .int (iI 0), .int (iI 0), .int (iI 0), .int (iI 0), .int (iI 0)]) hx hb hown hts w fX4 (W0_of k_cl_RX2_9 rfl) (W0_of k_new_RX4 rfl) (W0_of k_ini_RX4 rfl) (fun j hj => by match j, hj with | 0, _ => rfl | 1, _ => rfl | 2, _ => rfl | 3, _ => rfl | 4, _ => rfl | 5, _ => rfl | 6, _ => rfl | 7, _ => rfl | 8, _ => rfl | 9, _ => rfl | 10, _ => rfl | 11, _ => rfl | 12, _ => rfl | 13, _ => rfl | 14, _ => rfl | 15, _ => rfl | 16, _ => rfl | 17, _ => rfl | n + 18, hj => exact absurd hj (by omega)) ⟨Nat.le_of_ble_eq_true rfl, Nat.le_of_ble_eq_true rfl⟩ dX2_init_29 (fun q12 H w => ?_)
  have w : Wd g A ([(h0, .inr (2, [.ref q1, .int (iI 0)])), (q1, eO g 4 (qf [some (a4 0), some (a7 0), some (a10 0), none]))] ++ st_ws g a4 T_0 ++ st_ws g a7 T_0 ++ st_ws g a10 T_0 ++ [(q12, .inr (4, [.null, .null, .null, .null, .null, .null, .null, .null, .null, .null, .null, .null, .null, .int (iI 0), .int (iI 0), .int (iI 0), .int (iI 0), .int (iI 0)]))]) s H locs := w
  refine lv_dup hx hb dX2_init_32 rfl ?_
  refine call_wI (wr := ([(h0, .inr (2, [.ref q1, .int (iI 0)])), (q1, eO g 4 (qf [some (a4 0), some (a7 0), some (a10 0), none]))] ++ st_ws g a4 T_0 ++ st_ws g a7 T_0 ++ st_ws g a10 T_0)) (As := []) (rest := [.ref q12, .int (iI 3), .ref q1]) hx hb (hml.trans hl.1.symm) hown hts w lk_RX2_21 (fun sz => t_X4_init l g q12 sz) [56] [0, 1, 2, 3, 4, 5, 6, 7, 8, 9, 10, 11, 12, 13, 14, 15, 16, 17, 18, 19, 20, 21, 22, 23, 24, 25, 26, 27, 28, 29, 30, 31, 32, 33, 34, 35, 36, 37, 38, 39, 40, 41, 42, 43, 44, 45, 46, 47, 48, 49, 50, 51, 52, 53, 54, 55] rfl rfl rfl rfl (by decide) rfl rfl (Nat.le_of_ble_eq_true rfl) ⟨Nat.le_of_ble_eq_true rfl, Nat.le_of_ble_eq_true rfl⟩ ⟨Nat.le_of_ble_eq_true rfl, Nat.le_of_ble_eq_true rfl⟩ dX2_init_33 (fun v w1 H locs hr w => ?_)
  obtain ⟨rfl, a13, rfl, rfl⟩ := hr
  have w : Wd g A ([(h0, .inr (2, [.ref q1, .int (iI 0)])), (q1, eO g 4 (qf [some (a4 0), some (a7 0), some (a10 0), none]))] ++ st_ws g a4 T_0 ++ st_ws g a7 T_0 ++ st_ws g a10 T_0 ++ st_ws g a13 T_0) s H locs := w
  refine ri_astq hx hb w 1 56 rfl rfl (by omega) (f' := (qf [some (a4 0), some (a7 0), some (a10 0), some (a13 0)])) (qf_up (Nat.le_of_ble_eq_true rfl) rfl) dX2_init_36 (by omega) (fun H locs w => ?_)
  have w : Wd g A ([(h0, .inr (2, [.ref q1, .int (iI 0)])), (q1, eO g 4 (qf [some (a4 0), some (a7 0), some (a10 0), some (a13 0)]))] ++ st_ws g a4 T_0 ++ st_ws g a7 T_0 ++ st_ws g a10 T_0 ++ st_ws g a13 T_0) s H locs := w
  refine ri_iinc (k := 0) (z := 4) (lv' := [(1, .int (iI 4)), (0, .ref h0)]) hx hb dX2_init_37 hl rfl (by omega) (by decide) rfl (fun ls hl => ?_)
  refine lv_goto (tgt := 19) hx hb dX2_init_40 (by decide) ?_
  refine lv_iload_n hx hb dX2_init_19 rfl (lv_at hl 0 rfl) ?_
  refine ri_iconst hx hb dX2_init_20 ?_
  refine ri_icmp_ge (tgt := 43) hx hb dX2_init_21 (by decide) (by omega) (by omega) (fun c14 => ?_) (fun c14 => ?_)
  · exact hend.1 rfl _ _ _ _ _ dX2_init_43 w ⟨rfl, adr [h0, q1], hsel a4 a7 a10 a13, rfl, rfl⟩
  · exact absurd c14 (by omega)

set_option maxHeartbeats 4000000 in
set_option maxRecDepth 100000 in
theorem t_X3_init (l : Launch) (g : GG) (h0 : Nat) (sz : Nat) : Met l yX3_init (wm yX3_init cX3_init 1 none) (rmm 1 4 156) (pW g [(h0, .inr (3, [.null, .int (iI 0), .null, .null, .null, .int (iI 0), .int (iI 0)]))] sz [.ref h0]) (qW g [(h0, .inr (3, [.null, .int (iI 0), .null, .null, .null, .int (iI 0), .int (iI 0)]))] (fun vv ww => vv = none ∧ ∃ o : Nat → Nat, o 0 = h0 ∧ ww = or_ws g o (fun _ _ => 0))) 4 156 (va_A [(h0, .inr (3, [.null, .int (iI 0), .null, .null, .null, .int (iI 0), .int (iI 0)]))] sz) := by
  refine met_w (by decide) (Nat.le_of_ble_eq_true rfl) ?_
  intro p e s m args below meth c Q ls A hx hb hml hown hts hl w hin hend
  obtain ⟨H, hH0⟩ : ∃ H, H = s.heap := ⟨_, rfl⟩
  obtain ⟨locs, hL0⟩ : ∃ locs : List Loc, locs = [] := ⟨_, rfl⟩
  rw [← hH0, ← hL0] at w
  rw [← hH0, ← hL0]
  have hin := hin rfl
  have hl : lv_has ls 1 [(0, .ref h0)] := hl
  refine lv_aload_n hx hb dX3_init_0 rfl (lv_at hl 0 rfl) ?_
  refine ri_objInit hx hb (hml.trans hl.1.symm) hown hts (W0_of k_ml_RX3_3 rfl) ⟨Nat.le_of_ble_eq_true rfl, Nat.le_of_ble_eq_true rfl⟩ dX3_init_1 ?_
  refine lv_aload_n hx hb dX3_init_4 rfl (lv_at hl 0 rfl) ?_
  refine ri_bipush hx hb dX3_init_5 (by decide) ?_
  refine ri_newaC (N' := 60) hx hb hts w (by omega) (by omega) ⟨Nat.le_of_ble_eq_true rfl, Nat.le_of_ble_eq_true rfl⟩ dX3_init_7 (fun q1 H w => ?_)
  have w : Wd g A [(h0, .inr (3, [.null, .int (iI 0), .null, .null, .null, .int (iI 0), .int (iI 0)])), (q1, eC g 60 (fun _ => 0))] s H locs := w
  refine ri_putF hx hb hts hown w fX3 0 0 (W0_of k_fl_RX3_9 rfl) rfl (Nat.le_of_ble_eq_true rfl) (by decide) rfl hin rfl rfl rfl dX3_init_9 (fun H locs w => ?_)
  have w : Wd g A [(h0, .inr (3, [.ref q1, .int (iI 0), .null, .null, .null, .int (iI 0), .int (iI 0)])), (q1, eC g 60 (fun _ => 0))] s H locs := w
  refine lv_aload_n hx hb dX3_init_12 rfl (lv_at hl 0 rfl) ?_
  refine ri_iconst hx hb dX3_init_13 ?_
  refine ri_put hx hb hts hown w fX3 0 1 (W0_of k_fl_RX3_15 rfl) rfl (Nat.le_of_ble_eq_true rfl) (by decide) rfl rfl rfl dX3_init_14 (fun H locs w => ?_)
  have w : Wd g A [(h0, .inr (3, [.ref q1, .int (iI 0), .null, .null, .null, .int (iI 0), .int (iI 0)])), (q1, eC g 60 (fun _ => 0))] s H locs := w
  refine lv_aload_n hx hb dX3_init_17 rfl (lv_at hl 0 rfl) ?_
  refine ri_bipush hx hb dX3_init_18 (by decide) ?_
  refine ri_newaC (N' := 32) hx hb hts w (by omega) (by omega) ⟨Nat.le_of_ble_eq_true rfl, Nat.le_of_ble_eq_true rfl⟩ dX3_init_20 (fun q2 H w => ?_)
  have w : Wd g A [(h0, .inr (3, [.ref q1, .int (iI 0), .null, .null, .null, .int (iI 0), .int (iI 0)])), (q1, eC g 60 (fun _ => 0)), (q2, eC g 32 (fun _ => 0))] s H locs := w
  refine ri_putF hx hb hts hown w fX3 0 2 (W0_of k_fl_RX3_19 rfl) rfl (Nat.le_of_ble_eq_true rfl) (by decide) rfl hin rfl rfl rfl dX3_init_22 (fun H locs w => ?_)
  have w : Wd g A [(h0, .inr (3, [.ref q1, .int (iI 0), .ref q2, .null, .null, .int (iI 0), .int (iI 0)])), (q1, eC g 60 (fun _ => 0)), (q2, eC g 32 (fun _ => 0))] s H locs := w
  refine lv_aload_n hx hb dX3_init_25 rfl (lv_at hl 0 rfl) ?_
  refine ri_bipush hx hb dX3_init_26 (by decide) ?_
  refine ri_newaI (N' := 32) hx hb hts w (by omega) (by omega) ⟨Nat.le_of_ble_eq_true rfl, Nat.le_of_ble_eq_true rfl⟩ dX3_init_28 (fun q3 H w => ?_)
  have w : Wd g A [(h0, .inr (3, [.ref q1, .int (iI 0), .ref q2, .null, .null, .int (iI 0), .int (iI 0)])), (q1, eC g 60 (fun _ => 0)), (q2, eC g 32 (fun _ => 0)), (q3, eI g 32 (fun _ => 0))] s H locs := w
  refine ri_putF hx hb hts hown w fX3 0 3 (W0_of k_fl_RX3_22 rfl) rfl (Nat.le_of_ble_eq_true rfl) (by decide) rfl hin rfl rfl rfl dX3_init_30 (fun H locs w => ?_)
  have w : Wd g A [(h0, .inr (3, [.ref q1, .int (iI 0), .ref q2, .ref q3, .null, .int (iI 0), .int (iI 0)])), (q1, eC g 60 (fun _ => 0)), (q2, eC g 32 (fun _ => 0)), (q3, eI g 32 (fun _ => 0))] s H locs := w
  refine lv_aload_n hx hb dX3_init_33 rfl (lv_at hl 0 rfl) ?_
  refine ri_bipush hx hb dX3_init_34 (by decide) ?_
  refine ri_newaI (N' := 32) hx hb hts w (by omega) (by omega) ⟨Nat.le_of_ble_eq_true rfl, Nat.le_of_ble_eq_true rfl⟩ dX3_init_36 (fun q4 H w => ?_)
  have w : Wd g A [(h0, .inr (3, [.ref q1, .int (iI 0), .ref q2, .ref q3, .null, .int (iI 0), .int (iI 0)])), (q1, eC g 60 (fun _ => 0)), (q2, eC g 32 (fun _ => 0)), (q3, eI g 32 (fun _ => 0)), (q4, eI g 32 (fun _ => 0))] s H locs := w
  refine ri_putF hx hb hts hown w fX3 0 4 (W0_of k_fl_RX3_26 rfl) rfl (Nat.le_of_ble_eq_true rfl) (by decide) rfl hin rfl rfl rfl dX3_init_38 (fun H locs w => ?_)
  have w : Wd g A [(h0, .inr (3, [.ref q1, .int (iI 0), .ref q2, .ref q3, .ref q4, .int (iI 0), .int (iI 0)])), (q1, eC g 60 (fun _ => 0)), (q2, eC g 32 (fun _ => 0)), (q3, eI g 32 (fun _ => 0)), (q4, eI g 32 (fun _ => 0))] s H locs := w
  refine lv_aload_n hx hb dX3_init_41 rfl (lv_at hl 0 rfl) ?_
  refine ri_iconst hx hb dX3_init_42 ?_
  refine ri_put hx hb hts hown w fX3 0 5 (W0_of k_fl_RX3_29 rfl) rfl (Nat.le_of_ble_eq_true rfl) (by decide) rfl rfl rfl dX3_init_43 (fun H locs w => ?_)
  have w : Wd g A [(h0, .inr (3, [.ref q1, .int (iI 0), .ref q2, .ref q3, .ref q4, .int (iI 0), .int (iI 0)])), (q1, eC g 60 (fun _ => 0)), (q2, eC g 32 (fun _ => 0)), (q3, eI g 32 (fun _ => 0)), (q4, eI g 32 (fun _ => 0))] s H locs := w
  refine lv_aload_n hx hb dX3_init_46 rfl (lv_at hl 0 rfl) ?_
  refine ri_iconst hx hb dX3_init_47 ?_
  refine ri_put hx hb hts hown w fX3 0 6 (W0_of k_fl_RX3_32 rfl) rfl (Nat.le_of_ble_eq_true rfl) (by decide) rfl rfl rfl dX3_init_48 (fun H locs w => ?_)
  have w : Wd g A [(h0, .inr (3, [.ref q1, .int (iI 0), .ref q2, .ref q3, .ref q4, .int (iI 0), .int (iI 0)])), (q1, eC g 60 (fun _ => 0)), (q2, eC g 32 (fun _ => 0)), (q3, eI g 32 (fun _ => 0)), (q4, eI g 32 (fun _ => 0))] s H locs := w
  exact hend.1 rfl _ _ _ _ _ dX3_init_51 w ⟨rfl, adr [h0, q1, q2, q3, q4], rfl, rfl⟩

set_option maxHeartbeats 4000000 in
set_option maxRecDepth 100000 in
theorem t_X2_record (l : Launch) (g : GG) (x : Nat → Nat) (h : Nat → Nat → Nat) (K : Nat → Nat → Int → Int) (z : Int) (u : Nat → Nat) (U : Nat → Int → Int) (h1 : 0 ≤ z ∧ z ≤ 4) (hz : ∀ b, 0 ≤ b → b < 6 → U 3 b = 0 ∨ U 3 b = 1) (sz : Nat) : Met l yX2_record (wm yX2_record cX2_record 4 none) (rmm 3 0 0) (pW g ([(x 0, .inr (2, [.ref (x 1), .int (iI z)])), (x 1, eO g 4 (qf [some (h 0 0), some (h 1 0), some (h 2 0), some (h 3 0)]))] ++ st_ws g (h 0) (K 0) ++ st_ws g (h 1) (K 1) ++ st_ws g (h 2) (K 2) ++ st_ws g (h 3) (K 3) ++ st_ws g u U) sz [.ref (x 0), .ref (u 0)]) (qW g ([(x 0, .inr (2, [.ref (x 1), .int (iI z)])), (x 1, eO g 4 (qf [some (h 0 0), some (h 1 0), some (h 2 0), some (h 3 0)]))] ++ st_ws g (h 0) (K 0) ++ st_ws g (h 1) (K 1) ++ st_ws g (h 2) (K 2) ++ st_ws g (h 3) (K 3) ++ st_ws g u U) (fun vv ww => vv = none ∧ ww = hi_ws g x (rot h) (reK K U) (if 4 < z + 1 then 4 else z + 1) ++ st_ws g u U)) 0 0 (va_A ([(x 0, .inr (2, [.ref (x 1), .int (iI z)])), (x 1, eO g 4 (qf [some (h 0 0), some (h 1 0), some (h 2 0), some (h 3 0)]))] ++ st_ws g (h 0) (K 0) ++ st_ws g (h 1) (K 1) ++ st_ws g (h 2) (K 2) ++ st_ws g (h 3) (K 3) ++ st_ws g u U) sz) := by
  refine met_w (by decide) (Nat.le_of_ble_eq_true rfl) ?_
  intro p e s m args below meth c Q ls A hx hb hml hown hts hl w hin hend
  obtain ⟨H, hH0⟩ : ∃ H, H = s.heap := ⟨_, rfl⟩
  obtain ⟨locs, hL0⟩ : ∃ locs : List Loc, locs = [] := ⟨_, rfl⟩
  rw [← hH0, ← hL0] at w
  rw [← hH0, ← hL0]
  have hl : lv_has ls 4 [(0, .ref (x 0)), (1, .ref (u 0))] := hl
  refine lv_aload_n hx hb dX2_record_0 rfl (lv_at hl 0 rfl) ?_
  refine ri_get (v := .ref (x 1)) hx hb hts hown w fX2 0 0 (W0_of k_fl_RX2_11 rfl) rfl rfl (by decide) dX2_record_1 ?_
  refine ri_iconst hx hb dX2_record_4 ?_
  refine ri_aldq hx hb w 1 rfl (by omega) (v := h 3 0) rfl dX2_record_5 (by omega) ?_
  refine lv_astore_n (lv' := [(2, .ref (h 3 0)), (0, .ref (x 0)), (1, .ref (u 0))]) hx hb dX2_record_6 rfl hl (by decide) rfl (fun ls hl => ?_)
  refine ri_iconst hx hb dX2_record_7 ?_
  refine lv_istore_n (lv' := [(3, .int (iI 3)), (2, .ref (h 3 0)), (0, .ref (x 0)), (1, .ref (u 0))]) hx hb dX2_record_8 rfl hl (by decide) rfl (fun ls hl => ?_)
  refine lv_iload_n hx hb dX2_record_9 rfl (lv_at hl 0 rfl) ?_
  refine ri_if_le (tgt := 33) hx hb dX2_record_10 (by decide) (by omega) (fun c1 => ?_) (fun c1 => ?_)
  · exact absurd c1 (by omega)
  refine lv_aload_n hx hb dX2_record_13 rfl (lv_at hl 2 rfl) ?_
  refine ri_get (v := .ref (x 1)) hx hb hts hown w fX2 0 0 (W0_of k_fl_RX2_11 rfl) rfl rfl (by decide) dX2_record_14 ?_
  refine lv_iload_n hx hb dX2_record_17 rfl (lv_at hl 0 rfl) ?_
  refine lv_aload_n hx hb dX2_record_18 rfl (lv_at hl 2 rfl) ?_
  refine ri_get (v := .ref (x 1)) hx hb hts hown w fX2 0 0 (W0_of k_fl_RX2_11 rfl) rfl rfl (by decide) dX2_record_19 ?_
  refine lv_iload_n hx hb dX2_record_22 rfl (lv_at hl 0 rfl) ?_
  refine ri_iconst hx hb dX2_record_23 ?_
  refine ri_isub (z := 2) hx hb dX2_record_24 (by omega) ?_
  refine ri_aldq hx hb w 1 rfl (by omega) (v := h 2 0) rfl dX2_record_25 (by omega) ?_
  refine ri_astq hx hb w 1 38 rfl rfl (by omega) (f' := (qf [some (h 0 0), some (h 1 0), some (h 2 0), some (h 2 0)])) (qf_up (Nat.le_of_ble_eq_true rfl) rfl) dX2_record_26 (by omega) (fun H locs w => ?_)
  have w : Wd g A ([(x 0, .inr (2, [.ref (x 1), .int (iI z)])), (x 1, eO g 4 (qf [some (h 0 0), some (h 1 0), some (h 2 0), some (h 2 0)]))] ++ st_ws g (h 0) (K 0) ++ st_ws g (h 1) (K 1) ++ st_ws g (h 2) (K 2) ++ st_ws g (h 3) (K 3) ++ st_ws g u U) s H locs := w
  refine ri_iinc (k := 0) (z := 2) (lv' := [(3, .int (iI 2)), (2, .ref (h 3 0)), (0, .ref (x 0)), (1, .ref (u 0))]) hx hb dX2_record_27 hl rfl (by omega) (by decide) rfl (fun ls hl => ?_)
  refine lv_goto (tgt := 9) hx hb dX2_record_30 (by decide) ?_
  refine lv_iload_n hx hb dX2_record_9 rfl (lv_at hl 0 rfl) ?_
  refine ri_if_le (tgt := 33) hx hb dX2_record_10 (by decide) (by omega) (fun c2 => ?_) (fun c2 => ?_)
  · exact absurd c2 (by omega)
  refine lv_aload_n hx hb dX2_record_13 rfl (lv_at hl 2 rfl) ?_
  refine ri_get (v := .ref (x 1)) hx hb hts hown w fX2 0 0 (W0_of k_fl_RX2_11 rfl) rfl rfl (by decide) dX2_record_14 ?_
  refine lv_iload_n hx hb dX2_record_17 rfl (lv_at hl 0 rfl) ?_
  refine lv_aload_n hx hb dX2_record_18 rfl (lv_at hl 2 rfl) ?_
  refine ri_get (v := .ref (x 1)) hx hb hts hown w fX2 0 0 (W0_of k_fl_RX2_11 rfl) rfl rfl (by decide) dX2_record_19 ?_
  refine lv_iload_n hx hb dX2_record_22 rfl (lv_at hl 0 rfl) ?_
  refine ri_iconst hx hb dX2_record_23 ?_
  refine ri_isub (z := 1) hx hb dX2_record_24 (by omega) ?_
  refine ri_aldq hx hb w 1 rfl (by omega) (v := h 1 0) rfl dX2_record_25 (by omega) ?_
  refine ri_astq hx hb w 1 20 rfl rfl (by omega) (f' := (qf [some (h 0 0), some (h 1 0), some (h 1 0), some (h 2 0)])) (qf_up (Nat.le_of_ble_eq_true rfl) rfl) dX2_record_26 (by omega) (fun H locs w => ?_)
  have w : Wd g A ([(x 0, .inr (2, [.ref (x 1), .int (iI z)])), (x 1, eO g 4 (qf [some (h 0 0), some (h 1 0), some (h 1 0), some (h 2 0)]))] ++ st_ws g (h 0) (K 0) ++ st_ws g (h 1) (K 1) ++ st_ws g (h 2) (K 2) ++ st_ws g (h 3) (K 3) ++ st_ws g u U) s H locs := w
  refine ri_iinc (k := 0) (z := 1) (lv' := [(3, .int (iI 1)), (2, .ref (h 3 0)), (0, .ref (x 0)), (1, .ref (u 0))]) hx hb dX2_record_27 hl rfl (by omega) (by decide) rfl (fun ls hl => ?_)
  refine lv_goto (tgt := 9) hx hb dX2_record_30 (by decide) ?_
  refine lv_iload_n hx hb dX2_record_9 rfl (lv_at hl 0 rfl) ?_
  refine ri_if_le (tgt := 33) hx hb dX2_record_10 (by decide) (by omega) (fun c3 => ?_) (fun c3 => ?_)
  · exact absurd c3 (by omega)
  refine lv_aload_n hx hb dX2_record_13 rfl (lv_at hl 2 rfl) ?_
  refine ri_get (v := .ref (x 1)) hx hb hts hown w fX2 0 0 (W0_of k_fl_RX2_11 rfl) rfl rfl (by decide) dX2_record_14 ?_
  refine lv_iload_n hx hb dX2_record_17 rfl (lv_at hl 0 rfl) ?_
  refine lv_aload_n hx hb dX2_record_18 rfl (lv_at hl 2 rfl) ?_
  refine ri_get (v := .ref (x 1)) hx hb hts hown w fX2 0 0 (W0_of k_fl_RX2_11 rfl) rfl rfl (by decide) dX2_record_19 ?_
  refine lv_iload_n hx hb dX2_record_22 rfl (lv_at hl 0 rfl) ?_
  refine ri_iconst hx hb dX2_record_23 ?_
  refine ri_isub (z := 0) hx hb dX2_record_24 (by omega) ?_
  refine ri_aldq hx hb w 1 rfl (by omega) (v := h 0 0) rfl dX2_record_25 (by omega) ?_
  refine ri_astq hx hb w 1 2 rfl rfl (by omega) (f' := (qf [some (h 0 0), some (h 0 0), some (h 1 0), some (h 2 0)])) (qf_up (Nat.le_of_ble_eq_true rfl) rfl) dX2_record_26 (by omega) (fun H locs w => ?_)
  have w : Wd g A ([(x 0, .inr (2, [.ref (x 1), .int (iI z)])), (x 1, eO g 4 (qf [some (h 0 0), some (h 0 0), some (h 1 0), some (h 2 0)]))] ++ st_ws g (h 0) (K 0) ++ st_ws g (h 1) (K 1) ++ st_ws g (h 2) (K 2) ++ st_ws g (h 3) (K 3) ++ st_ws g u U) s H locs := w
  refine ri_iinc (k := 0) (z := 0) (lv' := [(3, .int (iI 0)), (2, .ref (h 3 0)), (0, .ref (x 0)), (1, .ref (u 0))]) hx hb dX2_record_27 hl rfl (by omega) (by decide) rfl (fun ls hl => ?_)
  refine lv_goto (tgt := 9) hx hb dX2_record_30 (by decide) ?_
  refine lv_iload_n hx hb dX2_record_9 rfl (lv_at hl 0 rfl) ?_
  refine ri_if_le (tgt := 33) hx hb dX2_record_10 (by decide) (by omega) (fun c4 => ?_) (fun c4 => ?_)
  · refine lv_aload_n hx hb dX2_record_33 rfl (lv_at hl 2 rfl) ?_
    refine ri_get (v := .ref (x 1)) hx hb hts hown w fX2 0 0 (W0_of k_fl_RX2_11 rfl) rfl rfl (by decide) dX2_record_34 ?_
    refine ri_iconst hx hb dX2_record_37 ?_
    refine lv_aload_n hx hb dX2_record_38 rfl (lv_at hl 1 rfl) ?_
    refine ri_astq hx hb w 1 56 rfl rfl (by omega) (f' := (qf [some (h 3 0), some (h 0 0), some (h 1 0), some (h 2 0)])) (qf_up (Nat.le_of_ble_eq_true rfl) rfl) dX2_record_39 (by omega) (fun H locs w => ?_)
    have w : Wd g A ([(x 0, .inr (2, [.ref (x 1), .int (iI z)])), (x 1, eO g 4 (qf [some (h 3 0), some (h 0 0), some (h 1 0), some (h 2 0)]))] ++ st_ws g (h 0) (K 0) ++ st_ws g (h 1) (K 1) ++ st_ws g (h 2) (K 2) ++ st_ws g (h 3) (K 3) ++ st_ws g u U) s H locs := w
    refine lv_aload_n hx hb dX2_record_40 rfl (lv_at hl 1 rfl) ?_
    refine lv_ifnull hx hb dX2_record_41 ?_
    refine lv_aload_n hx hb dX2_record_44 rfl (lv_at hl 1 rfl) ?_
    refine lv_aload_n hx hb dX2_record_45 rfl (lv_at hl 3 rfl) ?_
    refine call_wV (wr := ([(x 0, .inr (2, [.ref (x 1), .int (iI z)])), (x 1, eO g 4 (qf [some (h 3 0), some (h 0 0), some (h 1 0), some (h 2 0)]))] ++ st_ws g (h 0) (K 0) ++ st_ws g (h 1) (K 1) ++ st_ws g (h 2) (K 2))) (As := [.ref (u 0)]) (rest := []) hx hb (hml.trans hl.1.symm) hown hts w lk_RX2_22 (fun sz => t_X4_copyFrom l g (h 3) u (K 3) U (hz) sz) [56, 57, 58, 59, 60, 61, 62, 63, 64, 65, 66, 67, 68, 69, 70, 71, 72, 73, 74, 75, 76, 77, 78, 79, 80, 81, 82, 83, 84, 85, 86, 87, 88, 89, 90, 91] [0, 1, 2, 3, 4, 5, 6, 7, 8, 9, 10, 11, 12, 13, 14, 15, 16, 17, 18, 19, 20, 21, 22, 23, 24, 25, 26, 27, 28, 29, 30, 31, 32, 33, 34, 35, 36, 37, 38, 39, 40, 41, 42, 43, 44, 45, 46, 47, 48, 49, 50, 51, 52, 53, 54, 55] rfl rfl rfl rfl (by decide) (call_recv w (q0 := 56) rfl fX4.1) rfl rfl (Nat.le_of_ble_eq_true rfl) ⟨Nat.le_of_ble_eq_true rfl, Nat.le_of_ble_eq_true rfl⟩ ⟨Nat.le_of_ble_eq_true rfl, Nat.le_of_ble_eq_true rfl⟩ dX2_record_46 (fun v w1 H locs hr w => ?_)
    obtain ⟨rfl, rfl⟩ := hr
    have w : Wd g A ([(x 0, .inr (2, [.ref (x 1), .int (iI z)])), (x 1, eO g 4 (qf [some (h 3 0), some (h 0 0), some (h 1 0), some (h 2 0)]))] ++ st_ws g (h 0) (K 0) ++ st_ws g (h 1) (K 1) ++ st_ws g (h 2) (K 2) ++ st_ws g (h 3) U ++ st_ws g u U) s H locs := w
    refine lv_aload_n hx hb dX2_record_49 rfl (lv_at hl 2 rfl) ?_
    refine lv_aload_n hx hb dX2_record_50 rfl (lv_at hl 2 rfl) ?_
    refine ri_get (v := .int (iI z)) hx hb hts hown w fX2 0 1 (W0_of k_fl_RX2_17 rfl) rfl rfl (by decide) dX2_record_51 ?_
    refine ri_iconst hx hb dX2_record_54 ?_
    refine ri_iadd (z := z + 1) hx hb dX2_record_55 rfl ?_
    refine ri_iconst hx hb dX2_record_56 ?_
    refine ri_min (z := (if 4 < z + 1 then 4 else z + 1)) hx hb (hml.trans hl.1.symm) hown hts m_RX2_26 ⟨Nat.le_of_ble_eq_true rfl, Nat.le_of_ble_eq_true rfl, Nat.le_of_ble_eq_true rfl, Nat.le_of_ble_eq_true rfl⟩ (by omega) (by omega) rfl dX2_record_57 ?_
    refine ri_put hx hb hts hown w fX2 0 1 (W0_of k_fl_RX2_17 rfl) rfl (Nat.le_of_ble_eq_true rfl) (by decide) rfl rfl rfl dX2_record_60 (fun H locs w => ?_)
    have w : Wd g A ([(x 0, .inr (2, [.ref (x 1), .int (iI (if 4 < z + 1 then 4 else z + 1))])), (x 1, eO g 4 (qf [some (h 3 0), some (h 0 0), some (h 1 0), some (h 2 0)]))] ++ st_ws g (h 0) (K 0) ++ st_ws g (h 1) (K 1) ++ st_ws g (h 2) (K 2) ++ st_ws g (h 3) U ++ st_ws g u U) s H locs := w
    have w := w.perm (wc := hi_ws g x (rot h) (reK K U) (if 4 < z + 1 then 4 else z + 1) ++ st_ws g u U) [0, 1, 56, 57, 58, 59, 60, 61, 62, 63, 64, 65, 66, 67, 68, 69, 70, 71, 72, 73, 2, 3, 4, 5, 6, 7, 8, 9, 10, 11, 12, 13, 14, 15, 16, 17, 18, 19, 20, 21, 22, 23, 24, 25, 26, 27, 28, 29, 30, 31, 32, 33, 34, 35, 36, 37, 38, 39, 40, 41, 42, 43, 44, 45, 46, 47, 48, 49, 50, 51, 52, 53, 54, 55, 74, 75, 76, 77, 78, 79, 80, 81, 82, 83, 84, 85, 86, 87, 88, 89, 90, 91] (by decide) rfl
    exact hend.1 rfl _ _ _ _ _ dX2_record_63 w ⟨rfl, rfl⟩
  · exact absurd c4 (by omega)

set_option maxHeartbeats 4000000 in
set_option maxRecDepth 100000 in
theorem t_X2_takeLatest (l : Launch) (g : GG) (x : Nat → Nat) (h : Nat → Nat → Nat) (K : Nat → Nat → Int → Int) (z : Int) (u : Nat → Nat) (U : Nat → Int → Int) (h1 : 0 < z ∧ z ≤ 4) (hz : ∀ b, 0 ≤ b → b < 6 → K 0 3 b = 0 ∨ K 0 3 b = 1) (sz : Nat) : Met l yX2_takeLatest (wm yX2_takeLatest cX2_takeLatest 4 none) (rmm 3 0 0) (pW g ([(x 0, .inr (2, [.ref (x 1), .int (iI z)])), (x 1, eO g 4 (qf [some (h 0 0), some (h 1 0), some (h 2 0), some (h 3 0)]))] ++ st_ws g (h 0) (K 0) ++ st_ws g (h 1) (K 1) ++ st_ws g (h 2) (K 2) ++ st_ws g (h 3) (K 3) ++ st_ws g u U) sz [.ref (x 0), .ref (u 0)]) (qW g ([(x 0, .inr (2, [.ref (x 1), .int (iI z)])), (x 1, eO g 4 (qf [some (h 0 0), some (h 1 0), some (h 2 0), some (h 3 0)]))] ++ st_ws g (h 0) (K 0) ++ st_ws g (h 1) (K 1) ++ st_ws g (h 2) (K 2) ++ st_ws g (h 3) (K 3) ++ st_ws g u U) (fun vv ww => vv = none ∧ ww = hi_ws g x (tor h) (tor K) (z - 1) ++ st_ws g u (K 0))) 0 0 (va_A ([(x 0, .inr (2, [.ref (x 1), .int (iI z)])), (x 1, eO g 4 (qf [some (h 0 0), some (h 1 0), some (h 2 0), some (h 3 0)]))] ++ st_ws g (h 0) (K 0) ++ st_ws g (h 1) (K 1) ++ st_ws g (h 2) (K 2) ++ st_ws g (h 3) (K 3) ++ st_ws g u U) sz) := by
  refine met_w (by decide) (Nat.le_of_ble_eq_true rfl) ?_
  intro p e s m args below meth c Q ls A hx hb hml hown hts hl w hin hend
  obtain ⟨H, hH0⟩ : ∃ H, H = s.heap := ⟨_, rfl⟩
  obtain ⟨locs, hL0⟩ : ∃ locs : List Loc, locs = [] := ⟨_, rfl⟩
  rw [← hH0, ← hL0] at w
  rw [← hH0, ← hL0]
  have hl : lv_has ls 4 [(0, .ref (x 0)), (1, .ref (u 0))] := hl
  refine lv_aload_n hx hb dX2_takeLatest_0 rfl (lv_at hl 0 rfl) ?_
  refine ri_get (v := .ref (x 1)) hx hb hts hown w fX2 0 0 (W0_of k_fl_RX2_11 rfl) rfl rfl (by decide) dX2_takeLatest_1 ?_
  refine ri_iconst hx hb dX2_takeLatest_4 ?_
  refine ri_aldq hx hb w 1 rfl (by omega) (v := h 0 0) rfl dX2_takeLatest_5 (by omega) ?_
  refine lv_astore_n (lv' := [(2, .ref (h 0 0)), (0, .ref (x 0)), (1, .ref (u 0))]) hx hb dX2_takeLatest_6 rfl hl (by decide) rfl (fun ls hl => ?_)
  refine lv_aload_n hx hb dX2_takeLatest_7 rfl (lv_at hl 1 rfl) ?_
  refine ri_get (v := .int (iI z)) hx hb hts hown w fX2 0 1 (W0_of k_fl_RX2_17 rfl) rfl rfl (by decide) dX2_takeLatest_8 ?_
  refine ri_if_eq (tgt := 18) hx hb dX2_takeLatest_11 (by decide) (by omega) (fun c1 => ?_) (fun c1 => ?_)
  · exact absurd c1 (by omega)
  refine lv_aload_n hx hb dX2_takeLatest_14 rfl (lv_at hl 0 rfl) ?_
  refine lv_ifnonnull (tgt := 19) hx hb dX2_takeLatest_15 (by decide) ?_
  refine lv_aload_n hx hb dX2_takeLatest_19 rfl (lv_at hl 2 rfl) ?_
  refine lv_aload_n hx hb dX2_takeLatest_20 rfl (lv_at hl 0 rfl) ?_
  refine call_wV (wr := ([(x 0, .inr (2, [.ref (x 1), .int (iI z)])), (x 1, eO g 4 (qf [some (h 0 0), some (h 1 0), some (h 2 0), some (h 3 0)]))] ++ st_ws g (h 1) (K 1) ++ st_ws g (h 2) (K 2) ++ st_ws g (h 3) (K 3))) (As := [.ref (h 0 0)]) (rest := []) hx hb (hml.trans hl.1.symm) hown hts w lk_RX2_22 (fun sz => t_X4_copyFrom l g u (h 0) U (K 0) (hz) sz) [74, 75, 76, 77, 78, 79, 80, 81, 82, 83, 84, 85, 86, 87, 88, 89, 90, 91, 2, 3, 4, 5, 6, 7, 8, 9, 10, 11, 12, 13, 14, 15, 16, 17, 18, 19] [0, 1, 20, 21, 22, 23, 24, 25, 26, 27, 28, 29, 30, 31, 32, 33, 34, 35, 36, 37, 38, 39, 40, 41, 42, 43, 44, 45, 46, 47, 48, 49, 50, 51, 52, 53, 54, 55, 56, 57, 58, 59, 60, 61, 62, 63, 64, 65, 66, 67, 68, 69, 70, 71, 72, 73] rfl rfl rfl rfl (by decide) (call_recv w (q0 := 74) rfl fX4.1) rfl rfl (Nat.le_of_ble_eq_true rfl) ⟨Nat.le_of_ble_eq_true rfl, Nat.le_of_ble_eq_true rfl⟩ ⟨Nat.le_of_ble_eq_true rfl, Nat.le_of_ble_eq_true rfl⟩ dX2_takeLatest_21 (fun v w1 H locs hr w => ?_)
  obtain ⟨rfl, rfl⟩ := hr
  have w := w.perm (wc := [(x 0, .inr (2, [.ref (x 1), .int (iI z)])), (x 1, eO g 4 (qf [some (h 0 0), some (h 1 0), some (h 2 0), some (h 3 0)])), (h 0 0, .inr (4, [.ref (h 0 1), .ref (h 0 2), .ref (h 0 3), .ref (h 0 4), .ref (h 0 5), .ref (h 0 6), .ref (h 0 7), .ref (h 0 8), .ref (h 0 9), .ref (h 0 10), .ref (h 0 11), .ref (h 0 12), .ref (h 0 13), .int (iI ((K 0) 18 0)), .int (iI ((K 0) 19 0)), .int (iI ((K 0) 20 0)), .int (iI ((K 0) 21 0)), .int (iI ((K 0) 22 0))])), (h 0 1, eI g 6 ((K 0) 1)), (h 0 2, eI g 6 ((K 0) 2)), (h 0 3, eZ g 6 ((K 0) 3)), (h 0 4, eI g 6 ((K 0) 4)), (h 0 5, eI g 6 ((K 0) 5)), (h 0 6, eI g 48 ((K 0) 6)), (h 0 7, eI g 48 ((K 0) 7)), (h 0 8, eI g 48 ((K 0) 8)), (h 0 9, eI g 24 ((K 0) 9)), (h 0 10, eI g 24 ((K 0) 10)), (h 0 11, eI g 5 ((K 0) 11)), (h 0 12, .inr (0, [.ref (h 0 14), .int (iI ((K 0) 23 0))])), (h 0 13, .inr (1, [.ref (h 0 15), .ref (h 0 16), .ref (h 0 17), .int (iI ((K 0) 24 0))])), (h 0 14, eI g 4 ((K 0) 14)), (h 0 15, eI g 8 ((K 0) 15)), (h 0 16, eI g 8 ((K 0) 16)), (h 0 17, eI g 8 ((K 0) 17)), (h 1 0, .inr (4, [.ref (h 1 1), .ref (h 1 2), .ref (h 1 3), .ref (h 1 4), .ref (h 1 5), .ref (h 1 6), .ref (h 1 7), .ref (h 1 8), .ref (h 1 9), .ref (h 1 10), .ref (h 1 11), .ref (h 1 12), .ref (h 1 13), .int (iI ((K 1) 18 0)), .int (iI ((K 1) 19 0)), .int (iI ((K 1) 20 0)), .int (iI ((K 1) 21 0)), .int (iI ((K 1) 22 0))])), (h 1 1, eI g 6 ((K 1) 1)), (h 1 2, eI g 6 ((K 1) 2)), (h 1 3, eZ g 6 ((K 1) 3)), (h 1 4, eI g 6 ((K 1) 4)), (h 1 5, eI g 6 ((K 1) 5)), (h 1 6, eI g 48 ((K 1) 6)), (h 1 7, eI g 48 ((K 1) 7)), (h 1 8, eI g 48 ((K 1) 8)), (h 1 9, eI g 24 ((K 1) 9)), (h 1 10, eI g 24 ((K 1) 10)), (h 1 11, eI g 5 ((K 1) 11)), (h 1 12, .inr (0, [.ref (h 1 14), .int (iI ((K 1) 23 0))])), (h 1 13, .inr (1, [.ref (h 1 15), .ref (h 1 16), .ref (h 1 17), .int (iI ((K 1) 24 0))])), (h 1 14, eI g 4 ((K 1) 14)), (h 1 15, eI g 8 ((K 1) 15)), (h 1 16, eI g 8 ((K 1) 16)), (h 1 17, eI g 8 ((K 1) 17)), (h 2 0, .inr (4, [.ref (h 2 1), .ref (h 2 2), .ref (h 2 3), .ref (h 2 4), .ref (h 2 5), .ref (h 2 6), .ref (h 2 7), .ref (h 2 8), .ref (h 2 9), .ref (h 2 10), .ref (h 2 11), .ref (h 2 12), .ref (h 2 13), .int (iI ((K 2) 18 0)), .int (iI ((K 2) 19 0)), .int (iI ((K 2) 20 0)), .int (iI ((K 2) 21 0)), .int (iI ((K 2) 22 0))])), (h 2 1, eI g 6 ((K 2) 1)), (h 2 2, eI g 6 ((K 2) 2)), (h 2 3, eZ g 6 ((K 2) 3)), (h 2 4, eI g 6 ((K 2) 4)), (h 2 5, eI g 6 ((K 2) 5)), (h 2 6, eI g 48 ((K 2) 6)), (h 2 7, eI g 48 ((K 2) 7)), (h 2 8, eI g 48 ((K 2) 8)), (h 2 9, eI g 24 ((K 2) 9)), (h 2 10, eI g 24 ((K 2) 10)), (h 2 11, eI g 5 ((K 2) 11)), (h 2 12, .inr (0, [.ref (h 2 14), .int (iI ((K 2) 23 0))])), (h 2 13, .inr (1, [.ref (h 2 15), .ref (h 2 16), .ref (h 2 17), .int (iI ((K 2) 24 0))])), (h 2 14, eI g 4 ((K 2) 14)), (h 2 15, eI g 8 ((K 2) 15)), (h 2 16, eI g 8 ((K 2) 16)), (h 2 17, eI g 8 ((K 2) 17)), (h 3 0, .inr (4, [.ref (h 3 1), .ref (h 3 2), .ref (h 3 3), .ref (h 3 4), .ref (h 3 5), .ref (h 3 6), .ref (h 3 7), .ref (h 3 8), .ref (h 3 9), .ref (h 3 10), .ref (h 3 11), .ref (h 3 12), .ref (h 3 13), .int (iI ((K 3) 18 0)), .int (iI ((K 3) 19 0)), .int (iI ((K 3) 20 0)), .int (iI ((K 3) 21 0)), .int (iI ((K 3) 22 0))])), (h 3 1, eI g 6 ((K 3) 1)), (h 3 2, eI g 6 ((K 3) 2)), (h 3 3, eZ g 6 ((K 3) 3)), (h 3 4, eI g 6 ((K 3) 4)), (h 3 5, eI g 6 ((K 3) 5)), (h 3 6, eI g 48 ((K 3) 6)), (h 3 7, eI g 48 ((K 3) 7)), (h 3 8, eI g 48 ((K 3) 8)), (h 3 9, eI g 24 ((K 3) 9)), (h 3 10, eI g 24 ((K 3) 10)), (h 3 11, eI g 5 ((K 3) 11)), (h 3 12, .inr (0, [.ref (h 3 14), .int (iI ((K 3) 23 0))])), (h 3 13, .inr (1, [.ref (h 3 15), .ref (h 3 16), .ref (h 3 17), .int (iI ((K 3) 24 0))])), (h 3 14, eI g 4 ((K 3) 14)), (h 3 15, eI g 8 ((K 3) 15)), (h 3 16, eI g 8 ((K 3) 16)), (h 3 17, eI g 8 ((K 3) 17)), (u 0, .inr (4, [.ref (u 1), .ref (u 2), .ref (u 3), .ref (u 4), .ref (u 5), .ref (u 6), .ref (u 7), .ref (u 8), .ref (u 9), .ref (u 10), .ref (u 11), .ref (u 12), .ref (u 13), .int (iI ((K 0) 18 0)), .int (iI ((K 0) 19 0)), .int (iI ((K 0) 20 0)), .int (iI ((K 0) 21 0)), .int (iI ((K 0) 22 0))])), (u 1, eI g 6 ((K 0) 1)), (u 2, eI g 6 ((K 0) 2)), (u 3, eZ g 6 ((K 0) 3)), (u 4, eI g 6 ((K 0) 4)), (u 5, eI g 6 ((K 0) 5)), (u 6, eI g 48 ((K 0) 6)), (u 7, eI g 48 ((K 0) 7)), (u 8, eI g 48 ((K 0) 8)), (u 9, eI g 24 ((K 0) 9)), (u 10, eI g 24 ((K 0) 10)), (u 11, eI g 5 ((K 0) 11)), (u 12, .inr (0, [.ref (u 14), .int (iI ((K 0) 23 0))])), (u 13, .inr (1, [.ref (u 15), .ref (u 16), .ref (u 17), .int (iI ((K 0) 24 0))])), (u 14, eI g 4 ((K 0) 14)), (u 15, eI g 8 ((K 0) 15)), (u 16, eI g 8 ((K 0) 16)), (u 17, eI g 8 ((K 0) 17))]) [0, 1, 74, 75, 76, 77, 78, 79, 80, 81, 82, 83, 84, 85, 86, 87, 88, 89, 90, 91, 2, 3, 4, 5, 6, 7, 8, 9, 10, 11, 12, 13, 14, 15, 16, 17, 18, 19, 20, 21, 22, 23, 24, 25, 26, 27, 28, 29, 30, 31, 32, 33, 34, 35, 36, 37, 38, 39, 40, 41, 42, 43, 44, 45, 46, 47, 48, 49, 50, 51, 52, 53, 54, 55, 56, 57, 58, 59, 60, 61, 62, 63, 64, 65, 66, 67, 68, 69, 70, 71, 72, 73] (by decide) rfl
  have w : Wd g A ([(x 0, .inr (2, [.ref (x 1), .int (iI z)])), (x 1, eO g 4 (qf [some (h 0 0), some (h 1 0), some (h 2 0), some (h 3 0)]))] ++ st_ws g (h 0) (K 0) ++ st_ws g (h 1) (K 1) ++ st_ws g (h 2) (K 2) ++ st_ws g (h 3) (K 3) ++ st_ws g u (K 0)) s H locs := w
  refine ri_iconst hx hb dX2_takeLatest_24 ?_
  refine lv_istore_n (lv' := [(3, .int (iI 1)), (2, .ref (h 0 0)), (0, .ref (x 0)), (1, .ref (u 0))]) hx hb dX2_takeLatest_25 rfl hl (by decide) rfl (fun ls hl => ?_)
  refine lv_iload_n hx hb dX2_takeLatest_26 rfl (lv_at hl 0 rfl) ?_
  refine ri_iconst hx hb dX2_takeLatest_27 ?_
  refine ri_icmp_ge (tgt := 51) hx hb dX2_takeLatest_28 (by decide) (by omega) (by omega) (fun c2 => ?_) (fun c2 => ?_)
  · exact absurd c2 (by omega)
  refine lv_aload_n hx hb dX2_takeLatest_31 rfl (lv_at hl 2 rfl) ?_
  refine ri_get (v := .ref (x 1)) hx hb hts hown w fX2 0 0 (W0_of k_fl_RX2_11 rfl) rfl rfl (by decide) dX2_takeLatest_32 ?_
  refine lv_iload_n hx hb dX2_takeLatest_35 rfl (lv_at hl 0 rfl) ?_
  refine ri_iconst hx hb dX2_takeLatest_36 ?_
  refine ri_isub (z := 0) hx hb dX2_takeLatest_37 (by omega) ?_
  refine lv_aload_n hx hb dX2_takeLatest_38 rfl (lv_at hl 2 rfl) ?_
  refine ri_get (v := .ref (x 1)) hx hb hts hown w fX2 0 0 (W0_of k_fl_RX2_11 rfl) rfl rfl (by decide) dX2_takeLatest_39 ?_
  refine lv_iload_n hx hb dX2_takeLatest_42 rfl (lv_at hl 0 rfl) ?_
  refine ri_aldq hx hb w 1 rfl (by omega) (v := h 1 0) rfl dX2_takeLatest_43 (by omega) ?_
  refine ri_astq hx hb w 1 20 rfl rfl (by omega) (f' := (qf [some (h 1 0), some (h 1 0), some (h 2 0), some (h 3 0)])) (qf_up (Nat.le_of_ble_eq_true rfl) rfl) dX2_takeLatest_44 (by omega) (fun H locs w => ?_)
  have w : Wd g A ([(x 0, .inr (2, [.ref (x 1), .int (iI z)])), (x 1, eO g 4 (qf [some (h 1 0), some (h 1 0), some (h 2 0), some (h 3 0)]))] ++ st_ws g (h 0) (K 0) ++ st_ws g (h 1) (K 1) ++ st_ws g (h 2) (K 2) ++ st_ws g (h 3) (K 3) ++ st_ws g u (K 0)) s H locs := w
  refine ri_iinc (k := 0) (z := 2) (lv' := [(3, .int (iI 2)), (2, .ref (h 0 0)), (0, .ref (x 0)), (1, .ref (u 0))]) hx hb dX2_takeLatest_45 hl rfl (by omega) (by decide) rfl (fun ls hl => ?_)
  refine lv_goto (tgt := 26) hx hb dX2_takeLatest_48 (by decide) ?_
  refine lv_iload_n hx hb dX2_takeLatest_26 rfl (lv_at hl 0 rfl) ?_
  refine ri_iconst hx hb dX2_takeLatest_27 ?_
  refine ri_icmp_ge (tgt := 51) hx hb dX2_takeLatest_28 (by decide) (by omega) (by omega) (fun c3 => ?_) (fun c3 => ?_)
  · exact absurd c3 (by omega)
  refine lv_aload_n hx hb dX2_takeLatest_31 rfl (lv_at hl 2 rfl) ?_
  refine ri_get (v := .ref (x 1)) hx hb hts hown w fX2 0 0 (W0_of k_fl_RX2_11 rfl) rfl rfl (by decide) dX2_takeLatest_32 ?_
  refine lv_iload_n hx hb dX2_takeLatest_35 rfl (lv_at hl 0 rfl) ?_
  refine ri_iconst hx hb dX2_takeLatest_36 ?_
  refine ri_isub (z := 1) hx hb dX2_takeLatest_37 (by omega) ?_
  refine lv_aload_n hx hb dX2_takeLatest_38 rfl (lv_at hl 2 rfl) ?_
  refine ri_get (v := .ref (x 1)) hx hb hts hown w fX2 0 0 (W0_of k_fl_RX2_11 rfl) rfl rfl (by decide) dX2_takeLatest_39 ?_
  refine lv_iload_n hx hb dX2_takeLatest_42 rfl (lv_at hl 0 rfl) ?_
  refine ri_aldq hx hb w 1 rfl (by omega) (v := h 2 0) rfl dX2_takeLatest_43 (by omega) ?_
  refine ri_astq hx hb w 1 38 rfl rfl (by omega) (f' := (qf [some (h 1 0), some (h 2 0), some (h 2 0), some (h 3 0)])) (qf_up (Nat.le_of_ble_eq_true rfl) rfl) dX2_takeLatest_44 (by omega) (fun H locs w => ?_)
  have w : Wd g A ([(x 0, .inr (2, [.ref (x 1), .int (iI z)])), (x 1, eO g 4 (qf [some (h 1 0), some (h 2 0), some (h 2 0), some (h 3 0)]))] ++ st_ws g (h 0) (K 0) ++ st_ws g (h 1) (K 1) ++ st_ws g (h 2) (K 2) ++ st_ws g (h 3) (K 3) ++ st_ws g u (K 0)) s H locs := w
  refine ri_iinc (k := 0) (z := 3) (lv' := [(3, .int (iI 3)), (2, .ref (h 0 0)), (0, .ref (x 0)), (1, .ref (u 0))]) hx hb dX2_takeLatest_45 hl rfl (by omega) (by decide) rfl (fun ls hl => ?_)
  refine lv_goto (tgt := 26) hx hb dX2_takeLatest_48 (by decide) ?_
  refine lv_iload_n hx hb dX2_takeLatest_26 rfl (lv_at hl 0 rfl) ?_
  refine ri_iconst hx hb dX2_takeLatest_27 ?_
  refine ri_icmp_ge (tgt := 51) hx hb dX2_takeLatest_28 (by decide) (by omega) (by omega) (fun c4 => ?_) (fun c4 => ?_)
  · exact absurd c4 (by omega)
  refine lv_aload_n hx hb dX2_takeLatest_31 rfl (lv_at hl 2 rfl) ?_
  refine ri_get (v := .ref (x 1)) hx hb hts hown w fX2 0 0 (W0_of k_fl_RX2_11 rfl) rfl rfl (by decide) dX2_takeLatest_32 ?_
  refine lv_iload_n hx hb dX2_takeLatest_35 rfl (lv_at hl 0 rfl) ?_
  refine ri_iconst hx hb dX2_takeLatest_36 ?_
  refine ri_isub (z := 2) hx hb dX2_takeLatest_37 (by omega) ?_
  refine lv_aload_n hx hb dX2_takeLatest_38 rfl (lv_at hl 2 rfl) ?_
  refine ri_get (v := .ref (x 1)) hx hb hts hown w fX2 0 0 (W0_of k_fl_RX2_11 rfl) rfl rfl (by decide) dX2_takeLatest_39 ?_
  refine lv_iload_n hx hb dX2_takeLatest_42 rfl (lv_at hl 0 rfl) ?_
  refine ri_aldq hx hb w 1 rfl (by omega) (v := h 3 0) rfl dX2_takeLatest_43 (by omega) ?_
  refine ri_astq hx hb w 1 56 rfl rfl (by omega) (f' := (qf [some (h 1 0), some (h 2 0), some (h 3 0), some (h 3 0)])) (qf_up (Nat.le_of_ble_eq_true rfl) rfl) dX2_takeLatest_44 (by omega) (fun H locs w => ?_)
  have w : Wd g A ([(x 0, .inr (2, [.ref (x 1), .int (iI z)])), (x 1, eO g 4 (qf [some (h 1 0), some (h 2 0), some (h 3 0), some (h 3 0)]))] ++ st_ws g (h 0) (K 0) ++ st_ws g (h 1) (K 1) ++ st_ws g (h 2) (K 2) ++ st_ws g (h 3) (K 3) ++ st_ws g u (K 0)) s H locs := w
  refine ri_iinc (k := 0) (z := 4) (lv' := [(3, .int (iI 4)), (2, .ref (h 0 0)), (0, .ref (x 0)), (1, .ref (u 0))]) hx hb dX2_takeLatest_45 hl rfl (by omega) (by decide) rfl (fun ls hl => ?_)
  refine lv_goto (tgt := 26) hx hb dX2_takeLatest_48 (by decide) ?_
  refine lv_iload_n hx hb dX2_takeLatest_26 rfl (lv_at hl 0 rfl) ?_
  refine ri_iconst hx hb dX2_takeLatest_27 ?_
  refine ri_icmp_ge (tgt := 51) hx hb dX2_takeLatest_28 (by decide) (by omega) (by omega) (fun c5 => ?_) (fun c5 => ?_)
  · refine lv_aload_n hx hb dX2_takeLatest_51 rfl (lv_at hl 2 rfl) ?_
    refine ri_get (v := .ref (x 1)) hx hb hts hown w fX2 0 0 (W0_of k_fl_RX2_11 rfl) rfl rfl (by decide) dX2_takeLatest_52 ?_
    refine ri_iconst hx hb dX2_takeLatest_55 ?_
    refine lv_aload_n hx hb dX2_takeLatest_56 rfl (lv_at hl 1 rfl) ?_
    refine ri_astq hx hb w 1 2 rfl rfl (by omega) (f' := (qf [some (h 1 0), some (h 2 0), some (h 3 0), some (h 0 0)])) (qf_up (Nat.le_of_ble_eq_true rfl) rfl) dX2_takeLatest_57 (by omega) (fun H locs w => ?_)
    have w : Wd g A ([(x 0, .inr (2, [.ref (x 1), .int (iI z)])), (x 1, eO g 4 (qf [some (h 1 0), some (h 2 0), some (h 3 0), some (h 0 0)]))] ++ st_ws g (h 0) (K 0) ++ st_ws g (h 1) (K 1) ++ st_ws g (h 2) (K 2) ++ st_ws g (h 3) (K 3) ++ st_ws g u (K 0)) s H locs := w
    refine lv_aload_n hx hb dX2_takeLatest_58 rfl (lv_at hl 2 rfl) ?_
    refine lv_dup hx hb dX2_takeLatest_59 rfl ?_
    refine ri_get (v := .int (iI z)) hx hb hts hown w fX2 0 1 (W0_of k_fl_RX2_17 rfl) rfl rfl (by decide) dX2_takeLatest_60 ?_
    refine ri_iconst hx hb dX2_takeLatest_63 ?_
    refine ri_isub (z := z - 1) hx hb dX2_takeLatest_64 rfl ?_
    refine ri_put hx hb hts hown w fX2 0 1 (W0_of k_fl_RX2_17 rfl) rfl (Nat.le_of_ble_eq_true rfl) (by decide) rfl rfl rfl dX2_takeLatest_65 (fun H locs w => ?_)
    have w : Wd g A ([(x 0, .inr (2, [.ref (x 1), .int (iI (z - 1))])), (x 1, eO g 4 (qf [some (h 1 0), some (h 2 0), some (h 3 0), some (h 0 0)]))] ++ st_ws g (h 0) (K 0) ++ st_ws g (h 1) (K 1) ++ st_ws g (h 2) (K 2) ++ st_ws g (h 3) (K 3) ++ st_ws g u (K 0)) s H locs := w
    have w := w.perm (wc := hi_ws g x (tor h) (tor K) (z - 1) ++ st_ws g u (K 0)) [0, 1, 20, 21, 22, 23, 24, 25, 26, 27, 28, 29, 30, 31, 32, 33, 34, 35, 36, 37, 38, 39, 40, 41, 42, 43, 44, 45, 46, 47, 48, 49, 50, 51, 52, 53, 54, 55, 56, 57, 58, 59, 60, 61, 62, 63, 64, 65, 66, 67, 68, 69, 70, 71, 72, 73, 2, 3, 4, 5, 6, 7, 8, 9, 10, 11, 12, 13, 14, 15, 16, 17, 18, 19, 74, 75, 76, 77, 78, 79, 80, 81, 82, 83, 84, 85, 86, 87, 88, 89, 90, 91] (by decide) rfl
    exact hend.1 rfl _ _ _ _ _ dX2_takeLatest_68 w ⟨rfl, rfl⟩
  · exact absurd c5 (by omega)
