set_option maxHeartbeats 4000000 in
set_option maxRecDepth 100000 in
theorem t_X5_quietIn (l : Launch) (g : GG) (c0 : Nat) (na : Nat → Nat) (be : Nat → Nat) (tr : Nat → Nat) (sn : Nat → Nat) (x : Nat → Nat) (h : Nat → Nat → Nat) (o : Nat → Nat) (T : Nat → Int → Int) (T1 : Nat → Int → Int) (T2 : Nat → Int → Int) (T3 : Nat → Int → Int) (K : Nat → Nat → Int → Int) (z : Int) (P : Nat → Int → Int) (C : Nat → Int) (N : Int) (B : Nat → Int → Int) (hW : WB N B) (hC : RelC B T T3 K z P C) (hN : N + 40000 ≤ 200000000) (sz : Nat) : Met l yX5_quietIn (wm yX5_quietIn cX5_quietIn 2 (some .int)) (rmm 7 0 0) (pW g (List.flatten ([[(c0, .inr (5, [.ref (na 0), .ref (be 0), .ref (tr 0), .ref (sn 0), .int (iI (C 0)), .ref (x 0), .ref (o 0), .int (iI (C 1)), .int (iI (C 2)), .int (iI (C 3)), .int (iI (C 4))]))], st_ws g na T, st_ws g be T1, st_ws g tr T2, st_ws g sn T3, hi_ws g x h K z, or_ws g o P] : List va_W)) sz [.ref c0]) (qW g (List.flatten ([[(c0, .inr (5, [.ref (na 0), .ref (be 0), .ref (tr 0), .ref (sn 0), .int (iI (C 0)), .ref (x 0), .ref (o 0), .int (iI (C 1)), .int (iI (C 2)), .int (iI (C 3)), .int (iI (C 4))]))], st_ws g na T, st_ws g be T1, st_ws g tr T2, st_ws g sn T3, hi_ws g x h K z, or_ws g o P] : List va_W)) (fun vv ww => vv = some (.int (iI (c_quiet (B 0)))) ∧ ∃ (h' : Nat → Nat → Nat) (T' T1' T2' T3' : Nat → Int → Int) (K' : Nat → Nat → Int → Int) (z' : Int) (P' : Nat → Int → Int) (C' : Nat → Int), ww = wp_ws g c0 na be tr sn x h' o T' T1' T2' T3' K' z' P' C' ∧ RelC B T' T3' K' z' P' C')) 0 0 (va_A (List.flatten ([[(c0, .inr (5, [.ref (na 0), .ref (be 0), .ref (tr 0), .ref (sn 0), .int (iI (C 0)), .ref (x 0), .ref (o 0), .int (iI (C 1)), .int (iI (C 2)), .int (iI (C 3)), .int (iI (C 4))]))], st_ws g na T, st_ws g be T1, st_ws g tr T2, st_ws g sn T3, hi_ws g x h K z, or_ws g o P] : List va_W)) sz) := by
  have hk := hW.k
  have hj := hW.j
  have htl := hW.tl
  have hrf := hW.rf
  have hTx := hW.tx
  have hrr := hW.rr
  have hW0 := hW.1
  have hR := hC.1
  have hrz := hC.zz
  have hc0 := hC.c0
  refine met_w (by decide) (Nat.le_of_ble_eq_true rfl) ?_
  intro p e s m args below meth c Q ls A hx hb hml hown hts hl w hin hend
  obtain ⟨H, hH0⟩ : ∃ H, H = s.heap := ⟨_, rfl⟩
  obtain ⟨locs, hL0⟩ : ∃ locs : List Loc, locs = [] := ⟨_, rfl⟩
  rw [← hH0, ← hL0] at w
  rw [← hH0, ← hL0]
  have hl : lv_has ls 2 [(0, .ref c0)] := hl
  refine lv_aload_n hx hb dX5_quietIn_0 rfl (lv_at hl 0 rfl) ?_
  refine ri_get (v := .ref (tr 0)) hx hb hts hown w fX5 0 2 (W0_of k_fl_RX5_19 rfl) rfl rfl (by decide) dX5_quietIn_1 ?_
  refine lv_aload_n hx hb dX5_quietIn_4 rfl (lv_at hl 0 rfl) ?_
  refine ri_get (v := .ref (na 0)) hx hb hts hown w fX5 0 0 (W0_of k_fl_RX5_10 rfl) rfl rfl (by decide) dX5_quietIn_5 ?_
  refine cb_wV (bc := [st_ws g tr T2, st_ws g na T]) (br := [[(c0, .inr (5, [.ref (na 0), .ref (be 0), .ref (tr 0), .ref (sn 0), .int (iI (C 0)), .ref (x 0), .ref (o 0), .int (iI (C 1)), .int (iI (C 2)), .int (iI (C 3)), .int (iI (C 4))]))], st_ws g be T1, st_ws g sn T3, hi_ws g x h K z, or_ws g o P]) (kb := 7) (As := [.ref (na 0)]) (rest := []) hx hb (hml.trans hl.1.symm) hown hts w lk_RX5_56 (fun sz => t_X4_copyFrom l g tr na T2 T (fun b h0 h1 => by have q1 := hR.ca h0 h1; have q2 := hW0.bl h0 h1; omega) sz) [3, 1, 0, 2, 4, 5, 6] (by decide) rfl rfl rfl (call_recv w (q0 := 37) rfl fX4.1) rfl rfl (Nat.le_of_ble_eq_true rfl) ⟨Nat.le_of_ble_eq_true rfl, Nat.le_of_ble_eq_true rfl⟩ ⟨Nat.le_of_ble_eq_true rfl, Nat.le_of_ble_eq_true rfl⟩ dX5_quietIn_8 (fun v w1 H locs hr w => ?_)
  obtain ⟨rfl, rfl⟩ := hr
  have w := w.two
  have w : Wd g A (List.flatten ([[(c0, .inr (5, [.ref (na 0), .ref (be 0), .ref (tr 0), .ref (sn 0), .int (iI (C 0)), .ref (x 0), .ref (o 0), .int (iI (C 1)), .int (iI (C 2)), .int (iI (C 3)), .int (iI (C 4))]))], st_ws g be T1, st_ws g sn T3, hi_ws g x h K z, or_ws g o P, st_ws g tr T, st_ws g na T] : List va_W)) s H locs := w
  refine ri_iconst hx hb dX5_quietIn_11 ?_
  refine lv_istore_n (lv' := [(1, .int (iI 0)), (0, .ref c0)]) hx hb dX5_quietIn_12 rfl hl (by decide) rfl (fun ls hl => ?_)
  have L13 : ∀ (n : Nat) (xk : Int) (G : Int → Int) (Y : Nat → Int → Int), (xk + n = 301) → (r_quietL n G xk = c_quiet (B 0)) → (0 ≤ xk) → (WF (N + 100 * xk) G) → (Rel G Y) → ∀ (ls : Array Slot) (H : Heap) (locs : List Loc), lv_has ls 2 [(0, .ref c0), (1, .int (iI xk))] → Wd g A (List.flatten ([[(c0, .inr (5, [.ref (na 0), .ref (be 0), .ref (tr 0), .ref (sn 0), .int (iI (C 0)), .ref (x 0), .ref (o 0), .int (iI (C 1)), .int (iI (C 2)), .int (iI (C 3)), .int (iI (C 4))]))], st_ws g be T1, st_ws g sn T3, hi_ws g x h K z, or_ws g o P, st_ws g tr Y, st_ws g na T] : List va_W)) s H locs → (∀ (Y : Nat → Int → Int) (hZ : c_quiet (B 0) = -5) (ls : Array Slot) (H : Heap) (locs : List Loc), lv_has ls 2 [] → Wd g A (List.flatten ([[(c0, .inr (5, [.ref (na 0), .ref (be 0), .ref (tr 0), .ref (sn 0), .int (iI (C 0)), .ref (x 0), .ref (o 0), .int (iI (C 1)), .int (iI (C 2)), .int (iI (C 3)), .int (iI (C 4))]))], st_ws g be T1, st_ws g sn T3, hi_ws g x h K z, or_ws g o P, st_ws g tr Y, st_ws g na T] : List va_W)) s H locs → W p l e (rmm 7 0 0) s m args below meth c H locs 0 0 Q (F0 m 46 ls [])) → W p l e (rmm 7 0 0) s m args below meth c H locs 0 0 Q (F0 m 13 ls []) := by
    intro n
    induction n with
    | zero =>
      intro xk G Y hn hX hlo hWG hRG ls H locs hl w kk13
      refine lv_iload_n hx hb dX5_quietIn_13 rfl (lv_at hl 1 rfl) ?_
      refine ri_sipush hx hb dX5_quietIn_14 (by decide) ?_
      refine ri_icmp_gt (tgt := 46) hx hb dX5_quietIn_17 (by decide) (by omega) (by omega) (fun c1 => ?_) (fun c1 => ?_)
      · exact kk13 Y hX.symm ls H locs  (lv_sub hl [] rfl) w
      · exact absurd c1 (by omega)
    | succ n ih13 =>
      intro xk G Y hn hX hlo hWG hRG ls H locs hl w kk13
      refine lv_iload_n hx hb dX5_quietIn_13 rfl (lv_at hl 1 rfl) ?_
      refine ri_sipush hx hb dX5_quietIn_14 (by decide) ?_
      refine ri_icmp_gt (tgt := 46) hx hb dX5_quietIn_17 (by decide) (by omega) (by omega) (fun c2 => ?_) (fun c2 => ?_)
      · exact absurd c2 (by omega)
      refine lv_aload_n hx hb dX5_quietIn_20 rfl (lv_at hl 0 rfl) ?_
      refine ri_get (v := .ref (tr 0)) hx hb hts hown w fX5 0 2 (W0_of k_fl_RX5_19 rfl) rfl rfl (by decide) dX5_quietIn_21 ?_
      refine cb_rV (bc := [st_ws g tr Y]) (br := [[(c0, .inr (5, [.ref (na 0), .ref (be 0), .ref (tr 0), .ref (sn 0), .int (iI (C 0)), .ref (x 0), .ref (o 0), .int (iI (C 1)), .int (iI (C 2)), .int (iI (C 3)), .int (iI (C 4))]))], st_ws g be T1, st_ws g sn T3, hi_ws g x h K z, or_ws g o P, st_ws g na T]) (kb := 7) (As := []) (rest := []) hx hb (hml.trans hl.1.symm) hown hts w lk_RX5_205 (t_X4_markedBlocks l g tr _ G Y  (hWG) (hRG) ) [5, 0, 1, 2, 3, 4, 6] (by decide) rfl rfl rfl (call_recv w (q0 := 116) rfl fX4.1) rfl rfl (Nat.le_of_ble_eq_true rfl) ⟨Nat.le_of_ble_eq_true rfl, Nat.le_of_ble_eq_true rfl⟩ ⟨Nat.le_of_ble_eq_true rfl, Nat.le_of_ble_eq_true rfl⟩ dX5_quietIn_24 ?_
      have r3 := marks_rg G
      refine ri_if_ne (tgt := 32) hx hb dX5_quietIn_27 (by decide) (by omega) (fun c4 => ?_) (fun c4 => ?_)
      · refine lv_aload_n hx hb dX5_quietIn_32 rfl (lv_at hl 0 rfl) ?_
        refine ri_get (v := .ref (tr 0)) hx hb hts hown w fX5 0 2 (W0_of k_fl_RX5_19 rfl) rfl rfl (by decide) dX5_quietIn_33 ?_
        refine cb_wV (bc := [st_ws g tr Y]) (br := [[(c0, .inr (5, [.ref (na 0), .ref (be 0), .ref (tr 0), .ref (sn 0), .int (iI (C 0)), .ref (x 0), .ref (o 0), .int (iI (C 1)), .int (iI (C 2)), .int (iI (C 3)), .int (iI (C 4))]))], st_ws g be T1, st_ws g sn T3, hi_ws g x h K z, or_ws g o P, st_ws g na T]) (kb := 7) (As := []) (rest := []) hx hb (hml.trans hl.1.symm) hown hts w lk_RX5_208 (fun sz => t_X4_passOne l g tr _ G Y  (hWG) (hRG) (by omega) sz) [5, 0, 1, 2, 3, 4, 6] (by decide) rfl rfl rfl (call_recv w (q0 := 116) rfl fX4.1) rfl rfl (Nat.le_of_ble_eq_true rfl) ⟨Nat.le_of_ble_eq_true rfl, Nat.le_of_ble_eq_true rfl⟩ ⟨Nat.le_of_ble_eq_true rfl, Nat.le_of_ble_eq_true rfl⟩ dX5_quietIn_36 (fun v w1 H locs hr w => ?_)
        obtain ⟨rfl, T5, rfl, hRT5⟩ := hr
        have w : Wd g A (List.flatten ([[(c0, .inr (5, [.ref (na 0), .ref (be 0), .ref (tr 0), .ref (sn 0), .int (iI (C 0)), .ref (x 0), .ref (o 0), .int (iI (C 1)), .int (iI (C 2)), .int (iI (C 3)), .int (iI (C 4))]))], st_ws g be T1, st_ws g sn T3, hi_ws g x h K z, or_ws g o P, st_ws g na T, st_ws g tr T5] : List va_W)) s H locs := w
        have r6 := tick_rg hWG 
        refine lv_pop hx hb dX5_quietIn_39 rfl ?_
        refine ri_iinc (k := 1) (z := xk + 1) (lv' := [(1, .int (iI (xk + 1))), (0, .ref c0)]) hx hb dX5_quietIn_40 hl rfl (by omega) (by decide) rfl (fun ls hl => ?_)
        refine lv_goto (tgt := 13) hx hb dX5_quietIn_43 (by decide) ?_
        have w := w.blk (bc := [[(c0, .inr (5, [.ref (na 0), .ref (be 0), .ref (tr 0), .ref (sn 0), .int (iI (C 0)), .ref (x 0), .ref (o 0), .int (iI (C 1)), .int (iI (C 2)), .int (iI (C 3)), .int (iI (C 4))]))], st_ws g be T1, st_ws g sn T3, hi_ws g x h K z, or_ws g o P, st_ws g tr T5, st_ws g na T]) [0, 1, 2, 3, 4, 6, 5] (k := 7) (by decide) rfl rfl
        have w : Wd g A (List.flatten ([[(c0, .inr (5, [.ref (na 0), .ref (be 0), .ref (tr 0), .ref (sn 0), .int (iI (C 0)), .ref (x 0), .ref (o 0), .int (iI (C 1)), .int (iI (C 2)), .int (iI (C 3)), .int (iI (C 4))]))], st_ws g be T1, st_ws g sn T3, hi_ws g x h K z, or_ws g o P, st_ws g tr T5, st_ws g na T] : List va_W)) s H locs := w
        exact ih13 (xk + 1) ((r_tick G).2) (T5) (by omega) ((by rw [← hX]; rw [quietL_s, if_neg (by omega)])) (by omega) ((wf_tick hWG (by omega)).cast (by omega)) (hRT5) ls H locs (lv_sub hl [1, 0] rfl) w kk13
      · refine lv_iload_n hx hb dX5_quietIn_30 rfl (lv_at hl 1 rfl) ?_
        have w := w.blk (bc := [[(c0, .inr (5, [.ref (na 0), .ref (be 0), .ref (tr 0), .ref (sn 0), .int (iI (C 0)), .ref (x 0), .ref (o 0), .int (iI (C 1)), .int (iI (C 2)), .int (iI (C 3)), .int (iI (C 4))]))], st_ws g na T, st_ws g be T1, st_ws g tr Y, st_ws g sn T3, hi_ws g x h K z, or_ws g o P]) [0, 6, 1, 5, 2, 3, 4] (k := 7) (by decide) rfl rfl
        have w : Wd g A (wp_ws g c0 na be tr sn x h o T T1 Y T3 K z P C) s H locs := w
        exact hend.2 _ _ _ _ ⟨_, rfl, rfl⟩ _ _ dX5_quietIn_31 w ⟨(congrArg (fun z => some (Value.int (iI z))) (show xk = c_quiet (B 0) from by rw [← hX, quietL_s, if_pos (by omega)])), h, T, T1, Y, T3, K, z, P, C, rfl, hC⟩
  refine L13 301 0 (B 0) (T) (by omega) (rfl) (by omega) (by rw [show N + 100 * (0 : Int) = N from by omega]; exact hW0) (hR) ls H locs (lv_sub hl [1, 0] rfl) w (fun Y hZ ls H locs hl w => ?_)
  refine ri_bipush hx hb dX5_quietIn_46 (by decide) ?_
  have w := w.blk (bc := [[(c0, .inr (5, [.ref (na 0), .ref (be 0), .ref (tr 0), .ref (sn 0), .int (iI (C 0)), .ref (x 0), .ref (o 0), .int (iI (C 1)), .int (iI (C 2)), .int (iI (C 3)), .int (iI (C 4))]))], st_ws g na T, st_ws g be T1, st_ws g tr Y, st_ws g sn T3, hi_ws g x h K z, or_ws g o P]) [0, 6, 1, 5, 2, 3, 4] (k := 7) (by decide) rfl rfl
  have w : Wd g A (wp_ws g c0 na be tr sn x h o T T1 Y T3 K z P C) s H locs := w
  exact hend.2 _ _ _ _ ⟨_, rfl, rfl⟩ _ _ dX5_quietIn_48 w ⟨(congrArg (fun z => some (Value.int (iI z))) (show -5 = c_quiet (B 0) from by exact hZ.symm)), h, T, T1, Y, T3, K, z, P, C, rfl, hC⟩

set_option maxHeartbeats 4000000 in
set_option maxRecDepth 100000 in
theorem t_X5_noteRefusal (l : Launch) (g : GG) (c0 : Nat) (na : Nat → Nat) (be : Nat → Nat) (tr : Nat → Nat) (sn : Nat → Nat) (x : Nat → Nat) (o : Nat → Nat) (C : Nat → Int) (u : Int) (v : Int) (t : Int) (sz : Nat) : Met l yX5_noteRefusal (wm yX5_noteRefusal cX5_noteRefusal 4 none) (rmm 0 0 0) (pW g (List.flatten ([[(c0, .inr (5, [.ref (na 0), .ref (be 0), .ref (tr 0), .ref (sn 0), .int (iI (C 0)), .ref (x 0), .ref (o 0), .int (iI (C 1)), .int (iI (C 2)), .int (iI (C 3)), .int (iI (C 4))]))]] : List va_W)) sz [.ref c0, .int (iI u), .int (iI v), .int (iI t)]) (qW g (List.flatten ([[(c0, .inr (5, [.ref (na 0), .ref (be 0), .ref (tr 0), .ref (sn 0), .int (iI (C 0)), .ref (x 0), .ref (o 0), .int (iI (C 1)), .int (iI (C 2)), .int (iI (C 3)), .int (iI (C 4))]))]] : List va_W)) (fun vv ww => vv = none ∧ ww = [(c0, .inr (5, [.ref (na 0), .ref (be 0), .ref (tr 0), .ref (sn 0), .int (iI (C 0)), .ref (x 0), .ref (o 0), .int (iI 1), .int (iI u), .int (iI v), .int (iI t)]))])) 0 0 (va_A (List.flatten ([[(c0, .inr (5, [.ref (na 0), .ref (be 0), .ref (tr 0), .ref (sn 0), .int (iI (C 0)), .ref (x 0), .ref (o 0), .int (iI (C 1)), .int (iI (C 2)), .int (iI (C 3)), .int (iI (C 4))]))]] : List va_W)) sz) := by
  refine met_w (by decide) (Nat.le_of_ble_eq_true rfl) ?_
  intro p e s m args below meth c Q ls A hx hb hml hown hts hl w hin hend
  obtain ⟨H, hH0⟩ : ∃ H, H = s.heap := ⟨_, rfl⟩
  obtain ⟨locs, hL0⟩ : ∃ locs : List Loc, locs = [] := ⟨_, rfl⟩
  rw [← hH0, ← hL0] at w
  rw [← hH0, ← hL0]
  have hl : lv_has ls 4 [(0, .ref c0), (1, .int (iI u)), (2, .int (iI v)), (3, .int (iI t))] := hl
  refine lv_aload_n hx hb dX5_noteRefusal_0 rfl (lv_at hl 0 rfl) ?_
  refine ri_iconst hx hb dX5_noteRefusal_1 ?_
  refine ri_put hx hb hts hown w fX5 0 7 (W0_of k_fl_RX5_43 rfl) rfl (Nat.le_of_ble_eq_true rfl) (by decide) rfl (by decide) (by decide) dX5_noteRefusal_2 (fun H locs w => ?_)
  have w : Wd g A (List.flatten ([[(c0, .inr (5, [.ref (na 0), .ref (be 0), .ref (tr 0), .ref (sn 0), .int (iI (C 0)), .ref (x 0), .ref (o 0), .int (iI 1), .int (iI (C 2)), .int (iI (C 3)), .int (iI (C 4))]))]] : List va_W)) s H locs := w
  refine lv_aload_n hx hb dX5_noteRefusal_5 rfl (lv_at hl 0 rfl) ?_
  refine lv_iload_n hx hb dX5_noteRefusal_6 rfl (lv_at hl 1 rfl) ?_
  refine ri_put hx hb hts hown w fX5 0 8 (W0_of k_fl_RX5_46 rfl) rfl (Nat.le_of_ble_eq_true rfl) (by decide) rfl rfl rfl dX5_noteRefusal_7 (fun H locs w => ?_)
  have w : Wd g A (List.flatten ([[(c0, .inr (5, [.ref (na 0), .ref (be 0), .ref (tr 0), .ref (sn 0), .int (iI (C 0)), .ref (x 0), .ref (o 0), .int (iI 1), .int (iI u), .int (iI (C 3)), .int (iI (C 4))]))]] : List va_W)) s H locs := w
  refine lv_aload_n hx hb dX5_noteRefusal_10 rfl (lv_at hl 0 rfl) ?_
  refine lv_iload_n hx hb dX5_noteRefusal_11 rfl (lv_at hl 2 rfl) ?_
  refine ri_put hx hb hts hown w fX5 0 9 (W0_of k_fl_RX5_50 rfl) rfl (Nat.le_of_ble_eq_true rfl) (by decide) rfl rfl rfl dX5_noteRefusal_12 (fun H locs w => ?_)
  have w : Wd g A (List.flatten ([[(c0, .inr (5, [.ref (na 0), .ref (be 0), .ref (tr 0), .ref (sn 0), .int (iI (C 0)), .ref (x 0), .ref (o 0), .int (iI 1), .int (iI u), .int (iI v), .int (iI (C 4))]))]] : List va_W)) s H locs := w
  refine lv_aload_n hx hb dX5_noteRefusal_15 rfl (lv_at hl 0 rfl) ?_
  refine lv_iload_n hx hb dX5_noteRefusal_16 rfl (lv_at hl 3 rfl) ?_
  refine ri_put hx hb hts hown w fX5 0 10 (W0_of k_fl_RX5_53 rfl) rfl (Nat.le_of_ble_eq_true rfl) (by decide) rfl rfl rfl dX5_noteRefusal_17 (fun H locs w => ?_)
  have w : Wd g A (List.flatten ([[(c0, .inr (5, [.ref (na 0), .ref (be 0), .ref (tr 0), .ref (sn 0), .int (iI (C 0)), .ref (x 0), .ref (o 0), .int (iI 1), .int (iI u), .int (iI v), .int (iI t)]))]] : List va_W)) s H locs := w
  exact hend.1 rfl _ _ _ _ _ dX5_noteRefusal_20 w ⟨rfl, rfl⟩

set_option maxHeartbeats 4000000 in
set_option maxRecDepth 100000 in
theorem t_X5_performOnce (l : Launch) (g : GG) (c0 : Nat) (na : Nat → Nat) (be : Nat → Nat) (tr : Nat → Nat) (sn : Nat → Nat) (x : Nat → Nat) (o : Nat → Nat) (T : Nat → Int → Int) (P : Nat → Int → Int) (C : Nat → Int) (N : Int) (F : Int → Int) (v : Int) (hW : WF N F) (hR : Rel F T) (hv : 0 ≤ v ∧ v < P 6 0) (hp6 : P 6 0 ≤ 32) (hlet : P 2 v = 114 ∨ P 2 v = 119 ∨ P 2 v = 116) (harg : 0 ≤ P 3 v ∧ P 3 v ≤ 99) (hN : N + 10000 ≤ 200000000) (hTx : Tx (P 1)) (htl : 0 ≤ P 5 0 ∧ P 5 0 ≤ 60) (sz : Nat) : Met l yX5_performOnce (wm yX5_performOnce cX5_performOnce 4 (some .int)) (rmm 9 0 0) (pW g (List.flatten ([[(c0, .inr (5, [.ref (na 0), .ref (be 0), .ref (tr 0), .ref (sn 0), .int (iI (C 0)), .ref (x 0), .ref (o 0), .int (iI (C 1)), .int (iI (C 2)), .int (iI (C 3)), .int (iI (C 4))]))], st_ws g na T, or_ws g o P] : List va_W)) sz [.ref c0, .int (iI v)]) (qW g (List.flatten ([[(c0, .inr (5, [.ref (na 0), .ref (be 0), .ref (tr 0), .ref (sn 0), .int (iI (C 0)), .ref (x 0), .ref (o 0), .int (iI (C 1)), .int (iI (C 2)), .int (iI (C 3)), .int (iI (C 4))]))], st_ws g na T, or_ws g o P] : List va_W)) (fun vv ww => vv = some (.int (iI (e_one F (P 2 v) (P 3 v)).1)) ∧ ∃ T' : Nat → Int → Int, ww = List.flatten ([[(c0, .inr (5, [.ref (na 0), .ref (be 0), .ref (tr 0), .ref (sn 0), .int (iI (C 0)), .ref (x 0), .ref (o 0), .int (iI (C 1)), .int (iI (C 2)), .int (iI (C 3)), .int (iI (C 4))]))], st_ws g na T', or_ws g o P] : List va_W) ∧ (0 ≤ (e_one F (P 2 v) (P 3 v)).1 → Rel (e_one F (P 2 v) (P 3 v)).2 T'))) 0 0 (va_A (List.flatten ([[(c0, .inr (5, [.ref (na 0), .ref (be 0), .ref (tr 0), .ref (sn 0), .int (iI (C 0)), .ref (x 0), .ref (o 0), .int (iI (C 1)), .int (iI (C 2)), .int (iI (C 3)), .int (iI (C 4))]))], st_ws g na T, or_ws g o P] : List va_W)) sz) := by
  refine met_w (by decide) (Nat.le_of_ble_eq_true rfl) ?_
  intro p e s m args below meth c Q ls A hx hb hml hown hts hl w hin hend
  obtain ⟨H, hH0⟩ : ∃ H, H = s.heap := ⟨_, rfl⟩
  obtain ⟨locs, hL0⟩ : ∃ locs : List Loc, locs = [] := ⟨_, rfl⟩
  rw [← hH0, ← hL0] at w
  rw [← hH0, ← hL0]
  have hl : lv_has ls 4 [(0, .ref c0), (1, .int (iI v))] := hl
  refine lv_aload_n hx hb dX5_performOnce_0 rfl (lv_at hl 0 rfl) ?_
  refine ri_get (v := .ref (o 0)) hx hb hts hown w fX5 0 6 (W0_of k_fl_RX5_39 rfl) rfl rfl (by decide) dX5_performOnce_1 ?_
  refine lv_iload_n hx hb dX5_performOnce_4 rfl (lv_at hl 1 rfl) ?_
  refine cb_rV (bc := [or_ws g o P]) (br := [[(c0, .inr (5, [.ref (na 0), .ref (be 0), .ref (tr 0), .ref (sn 0), .int (iI (C 0)), .ref (x 0), .ref (o 0), .int (iI (C 1)), .int (iI (C 2)), .int (iI (C 3)), .int (iI (C 4))]))], st_ws g na T]) (kb := 3) (As := [.int (iI v)]) (rest := []) hx hb (hml.trans hl.1.symm) hown hts w lk_RX5_117 (t_X3_letterOf l g o P (P 1) (P 5 0) v rfl rfl (hTx) (htl) (by omega) (by omega) (by omega)) [2, 0, 1] (by decide) rfl rfl rfl (call_recv w (q0 := 19) rfl fX3.1) rfl rfl (Nat.le_of_ble_eq_true rfl) ⟨Nat.le_of_ble_eq_true rfl, Nat.le_of_ble_eq_true rfl⟩ ⟨Nat.le_of_ble_eq_true rfl, Nat.le_of_ble_eq_true rfl⟩ dX5_performOnce_5 ?_
  refine lv_istore_n (lv' := [(2, .int (iI (P 2 v))), (0, .ref c0), (1, .int (iI v))]) hx hb dX5_performOnce_8 rfl hl (by decide) rfl (fun ls hl => ?_)
  refine lv_aload_n hx hb dX5_performOnce_9 rfl (lv_at hl 1 rfl) ?_
  refine ri_get (v := .ref (o 0)) hx hb hts hown w fX5 0 6 (W0_of k_fl_RX5_39 rfl) rfl rfl (by decide) dX5_performOnce_10 ?_
  refine lv_iload_n hx hb dX5_performOnce_13 rfl (lv_at hl 2 rfl) ?_
  refine cb_rV (bc := [or_ws g o P]) (br := [[(c0, .inr (5, [.ref (na 0), .ref (be 0), .ref (tr 0), .ref (sn 0), .int (iI (C 0)), .ref (x 0), .ref (o 0), .int (iI (C 1)), .int (iI (C 2)), .int (iI (C 3)), .int (iI (C 4))]))], st_ws g na T]) (kb := 3) (As := [.int (iI v)]) (rest := []) hx hb (hml.trans hl.1.symm) hown hts w lk_RX5_121 (t_X3_argumentOf l g o P (P 1) (P 5 0) v rfl rfl (hTx) (htl) (by omega) (by omega)) [2, 0, 1] (by decide) rfl rfl rfl (call_recv w (q0 := 19) rfl fX3.1) rfl rfl (Nat.le_of_ble_eq_true rfl) ⟨Nat.le_of_ble_eq_true rfl, Nat.le_of_ble_eq_true rfl⟩ ⟨Nat.le_of_ble_eq_true rfl, Nat.le_of_ble_eq_true rfl⟩ dX5_performOnce_14 ?_
  refine lv_istore_n (lv' := [(3, .int (iI (P 3 v))), (2, .int (iI (P 2 v))), (0, .ref c0), (1, .int (iI v))]) hx hb dX5_performOnce_17 rfl hl (by decide) rfl (fun ls hl => ?_)
  refine lv_iload_n hx hb dX5_performOnce_18 rfl (lv_at hl 1 rfl) ?_
  refine ri_bipush hx hb dX5_performOnce_19 (by decide) ?_
  refine ri_icmp_ne (tgt := 33) hx hb dX5_performOnce_21 (by decide) (by omega) (by omega) (fun c1 => ?_) (fun c1 => ?_)
  · refine lv_iload_n hx hb dX5_performOnce_33 rfl (lv_at hl 1 rfl) ?_
    refine ri_bipush hx hb dX5_performOnce_34 (by decide) ?_
    refine ri_icmp_ne (tgt := 48) hx hb dX5_performOnce_36 (by decide) (by omega) (by omega) (fun c2 => ?_) (fun c2 => ?_)
    · refine lv_aload_n hx hb dX5_performOnce_48 rfl (lv_at hl 2 rfl) ?_
      refine ri_get (v := .ref (na 0)) hx hb hts hown w fX5 0 0 (W0_of k_fl_RX5_10 rfl) rfl rfl (by decide) dX5_performOnce_49 ?_
      refine lv_iload_n hx hb dX5_performOnce_52 rfl (lv_at hl 0 rfl) ?_
      refine cb_wV (bc := [st_ws g na T]) (br := [[(c0, .inr (5, [.ref (na 0), .ref (be 0), .ref (tr 0), .ref (sn 0), .int (iI (C 0)), .ref (x 0), .ref (o 0), .int (iI (C 1)), .int (iI (C 2)), .int (iI (C 3)), .int (iI (C 4))]))], or_ws g o P]) (kb := 3) (As := [.int (iI (P 3 v))]) (rest := []) hx hb (hml.trans hl.1.symm) hown hts w lk_RX5_87 (fun sz => t_X4_passTicks l g na _ F T (P 3 v) (hW) (hR) (by omega) (by omega) sz) [1, 0, 2] (by decide) rfl rfl rfl (call_recv w (q0 := 1) rfl fX4.1) rfl rfl (Nat.le_of_ble_eq_true rfl) ⟨Nat.le_of_ble_eq_true rfl, Nat.le_of_ble_eq_true rfl⟩ ⟨Nat.le_of_ble_eq_true rfl, Nat.le_of_ble_eq_true rfl⟩ dX5_performOnce_53 (fun v w1 H locs hr w => ?_)
      obtain ⟨rfl, T3, rfl, hRT3⟩ := hr
      have w : Wd g A (List.flatten ([[(c0, .inr (5, [.ref (na 0), .ref (be 0), .ref (tr 0), .ref (sn 0), .int (iI (C 0)), .ref (x 0), .ref (o 0), .int (iI (C 1)), .int (iI (C 2)), .int (iI (C 3)), .int (iI (C 4))]))], or_ws g o P, st_ws g na T3] : List va_W)) s H locs := w
      have r4 := pass_rg hW (P 3 v)
      have w := w.blk (bc := [[(c0, .inr (5, [.ref (na 0), .ref (be 0), .ref (tr 0), .ref (sn 0), .int (iI (C 0)), .ref (x 0), .ref (o 0), .int (iI (C 1)), .int (iI (C 2)), .int (iI (C 3)), .int (iI (C 4))]))], st_ws g na T3, or_ws g o P]) [0, 2, 1] (k := 3) (by decide) rfl rfl
      have w : Wd g A (List.flatten ([[(c0, .inr (5, [.ref (na 0), .ref (be 0), .ref (tr 0), .ref (sn 0), .int (iI (C 0)), .ref (x 0), .ref (o 0), .int (iI (C 1)), .int (iI (C 2)), .int (iI (C 3)), .int (iI (C 4))]))], st_ws g na T3, or_ws g o P] : List va_W)) s H locs := w
      have e8 : e_one F (P 2 v) (P 3 v) = r_pass F (P 3 v) := by unfold e_one; rw [if_neg (by omega), if_neg (by omega)]
      exact hend.2 _ _ _ _ ⟨_, rfl, rfl⟩ _ _ dX5_performOnce_56 w (by rw [e8]; exact ⟨rfl, T3, rfl, hRT3⟩)
    · refine lv_aload_n hx hb dX5_performOnce_39 rfl (lv_at hl 2 rfl) ?_
      refine ri_get (v := .ref (na 0)) hx hb hts hown w fX5 0 0 (W0_of k_fl_RX5_10 rfl) rfl rfl (by decide) dX5_performOnce_40 ?_
      refine lv_iload_n hx hb dX5_performOnce_43 rfl (lv_at hl 0 rfl) ?_
      refine cb_wV (bc := [st_ws g na T]) (br := [[(c0, .inr (5, [.ref (na 0), .ref (be 0), .ref (tr 0), .ref (sn 0), .int (iI (C 0)), .ref (x 0), .ref (o 0), .int (iI (C 1)), .int (iI (C 2)), .int (iI (C 3)), .int (iI (C 4))]))], or_ws g o P]) (kb := 3) (As := [.int (iI (P 3 v))]) (rest := []) hx hb (hml.trans hl.1.symm) hown hts w lk_RX5_75 (fun sz => t_X4_writePage l g na _ F T (P 3 v) (hW) (hR) (by omega) sz) [1, 0, 2] (by decide) rfl rfl rfl (call_recv w (q0 := 1) rfl fX4.1) rfl rfl (Nat.le_of_ble_eq_true rfl) ⟨Nat.le_of_ble_eq_true rfl, Nat.le_of_ble_eq_true rfl⟩ ⟨Nat.le_of_ble_eq_true rfl, Nat.le_of_ble_eq_true rfl⟩ dX5_performOnce_44 (fun v w1 H locs hr w => ?_)
      obtain ⟨rfl, T5, rfl, hRT5⟩ := hr
      have w : Wd g A (List.flatten ([[(c0, .inr (5, [.ref (na 0), .ref (be 0), .ref (tr 0), .ref (sn 0), .int (iI (C 0)), .ref (x 0), .ref (o 0), .int (iI (C 1)), .int (iI (C 2)), .int (iI (C 3)), .int (iI (C 4))]))], or_ws g o P, st_ws g na T5] : List va_W)) s H locs := w
      have r6 := write_rg hW (P 3 v)
      have w := w.blk (bc := [[(c0, .inr (5, [.ref (na 0), .ref (be 0), .ref (tr 0), .ref (sn 0), .int (iI (C 0)), .ref (x 0), .ref (o 0), .int (iI (C 1)), .int (iI (C 2)), .int (iI (C 3)), .int (iI (C 4))]))], st_ws g na T5, or_ws g o P]) [0, 2, 1] (k := 3) (by decide) rfl rfl
      have w : Wd g A (List.flatten ([[(c0, .inr (5, [.ref (na 0), .ref (be 0), .ref (tr 0), .ref (sn 0), .int (iI (C 0)), .ref (x 0), .ref (o 0), .int (iI (C 1)), .int (iI (C 2)), .int (iI (C 3)), .int (iI (C 4))]))], st_ws g na T5, or_ws g o P] : List va_W)) s H locs := w
      have e8 : e_one F (P 2 v) (P 3 v) = r_write F (P 3 v) := by unfold e_one; rw [if_neg (by omega), if_pos (by omega)]
      exact hend.2 _ _ _ _ ⟨_, rfl, rfl⟩ _ _ dX5_performOnce_47 w (by rw [e8]; exact ⟨rfl, T5, rfl, hRT5⟩)
  · refine lv_aload_n hx hb dX5_performOnce_24 rfl (lv_at hl 2 rfl) ?_
    refine ri_get (v := .ref (na 0)) hx hb hts hown w fX5 0 0 (W0_of k_fl_RX5_10 rfl) rfl rfl (by decide) dX5_performOnce_25 ?_
    refine lv_iload_n hx hb dX5_performOnce_28 rfl (lv_at hl 0 rfl) ?_
    refine cb_wV (bc := [st_ws g na T]) (br := [[(c0, .inr (5, [.ref (na 0), .ref (be 0), .ref (tr 0), .ref (sn 0), .int (iI (C 0)), .ref (x 0), .ref (o 0), .int (iI (C 1)), .int (iI (C 2)), .int (iI (C 3)), .int (iI (C 4))]))], or_ws g o P]) (kb := 3) (As := [.int (iI (P 3 v))]) (rest := []) hx hb (hml.trans hl.1.symm) hown hts w lk_RX5_78 (fun sz => t_X4_readPage l g na _ F T (P 3 v) (hW) (hR) (by omega) (by omega) sz) [1, 0, 2] (by decide) rfl rfl rfl (call_recv w (q0 := 1) rfl fX4.1) rfl rfl (Nat.le_of_ble_eq_true rfl) ⟨Nat.le_of_ble_eq_true rfl, Nat.le_of_ble_eq_true rfl⟩ ⟨Nat.le_of_ble_eq_true rfl, Nat.le_of_ble_eq_true rfl⟩ dX5_performOnce_29 (fun v w1 H locs hr w => ?_)
    obtain ⟨rfl, T7, rfl, hRT7⟩ := hr
    have w : Wd g A (List.flatten ([[(c0, .inr (5, [.ref (na 0), .ref (be 0), .ref (tr 0), .ref (sn 0), .int (iI (C 0)), .ref (x 0), .ref (o 0), .int (iI (C 1)), .int (iI (C 2)), .int (iI (C 3)), .int (iI (C 4))]))], or_ws g o P, st_ws g na T7] : List va_W)) s H locs := w
    have r8 := read_rg hW (P 3 v)
    have w := w.blk (bc := [[(c0, .inr (5, [.ref (na 0), .ref (be 0), .ref (tr 0), .ref (sn 0), .int (iI (C 0)), .ref (x 0), .ref (o 0), .int (iI (C 1)), .int (iI (C 2)), .int (iI (C 3)), .int (iI (C 4))]))], st_ws g na T7, or_ws g o P]) [0, 2, 1] (k := 3) (by decide) rfl rfl
    have w : Wd g A (List.flatten ([[(c0, .inr (5, [.ref (na 0), .ref (be 0), .ref (tr 0), .ref (sn 0), .int (iI (C 0)), .ref (x 0), .ref (o 0), .int (iI (C 1)), .int (iI (C 2)), .int (iI (C 3)), .int (iI (C 4))]))], st_ws g na T7, or_ws g o P] : List va_W)) s H locs := w
    have e8 : e_one F (P 2 v) (P 3 v) = r_read F (P 3 v) := by unfold e_one; rw [if_pos (by omega)]
    exact hend.2 _ _ _ _ ⟨_, rfl, rfl⟩ _ _ dX5_performOnce_32 w (by rw [e8]; exact ⟨rfl, T7, rfl, hRT7⟩)
