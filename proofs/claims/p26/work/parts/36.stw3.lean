set_option maxHeartbeats 4000000 in
set_option maxRecDepth 100000 in
theorem t_X4_moveWhole (l : Launch) (g : GG) (a : Nat → Nat) (N : Int) (F : Int → Int) (T : Nat → Int → Int) (b : Int) (hW : WF N F) (hR : Rel F T) (hb0 : 0 ≤ b ∧ b < 6) (hN : N + 18 ≤ 200000000) (sz : Nat) : Met l yX4_moveWhole (wm yX4_moveWhole cX4_moveWhole 4 (some .int)) (rmm 6 0 0) (pW g (st_ws g a T) sz [.ref (a 0), .int (iI b)]) (qW g (st_ws g a T) (fun vv ww => vv = some (.int (iI (r_all F b).1)) ∧ ∃ T' : Nat → Int → Int, ww = st_ws g a T' ∧ (0 ≤ (r_all F b).1 → Rel (r_all F b).2 T'))) 0 0 (va_A (st_ws g a T) sz) := by
  have hc := cnt_rg F b 0
  refine met_w (by decide) (Nat.le_of_ble_eq_true rfl) ?_
  intro p e s m args below meth c Q ls A hx hb hml hown hts hl w hin hend
  obtain ⟨H, hH0⟩ : ∃ H, H = s.heap := ⟨_, rfl⟩
  obtain ⟨locs, hL0⟩ : ∃ locs : List Loc, locs = [] := ⟨_, rfl⟩
  rw [← hH0, ← hL0] at w
  rw [← hH0, ← hL0]
  have hl : lv_has ls 4 [(0, .ref (a 0)), (1, .int (iI b))] := hl
  refine lv_aload_n hx hb dX4_moveWhole_0 rfl (lv_at hl 0 rfl) ?_
  refine lv_iload_n hx hb dX4_moveWhole_1 rfl (lv_at hl 1 rfl) ?_
  refine call_rV (As := [.int (iI b)]) (rest := []) hx hb (hml.trans hl.1.symm) hown hts w lk_RX4_108 (t_X4_pagesIn l g a _ F T b (hW) (hR) (by omega)) [0, 1, 2, 3, 4, 5, 6, 7, 8, 9, 10, 11, 12, 13, 14, 15, 16, 17] rfl rfl (call_recv w (q0 := 0) rfl fX4.1) rfl rfl (Nat.le_of_ble_eq_true rfl) ⟨Nat.le_of_ble_eq_true rfl, Nat.le_of_ble_eq_true rfl⟩ ⟨Nat.le_of_ble_eq_true rfl, Nat.le_of_ble_eq_true rfl⟩ dX4_moveWhole_2 ?_
  have r1 := cnt_rg F b 0
  refine lv_istore_n (lv' := [(2, .int (iI (r_cnt F b 0))), (0, .ref (a 0)), (1, .int (iI b))]) hx hb dX4_moveWhole_5 rfl hl (by decide) rfl (fun ls hl => ?_)
  refine ri_iconst hx hb dX4_moveWhole_6 ?_
  refine lv_istore_n (lv' := [(3, .int (iI 0)), (2, .int (iI (r_cnt F b 0))), (0, .ref (a 0)), (1, .int (iI b))]) hx hb dX4_moveWhole_7 rfl hl (by decide) rfl (fun ls hl => ?_)
  have L8 : ∀ (n : Nat) (xk : Int) (G : Int → Int) (U : Nat → Int → Int), (xk + n = r_cnt F b 0) → (r_allL (9 - xk).toNat (r_shut G b) b xk = r_allL 9 (r_shut F b) b 0) → (0 ≤ xk) → (WF (N + 2 * xk) G) → (r_cnt G b 0 = n) → (Rel G U) → ∀ (ls : Array Slot) (H : Heap) (locs : List Loc), lv_has ls 4 [(0, .ref (a 0)), (1, .int (iI b)), (2, .int (iI (r_cnt F b 0))), (3, .int (iI xk))] → Wd g A (st_ws g a U) s H locs → (∀ (G : Int → Int) (U : Nat → Int → Int) (hRG : Rel G U) (hWG : WF (N + 16) G) (hlG : r_low G b = -5) (hA : r_all F b = (r_cnt F b 0, r_erases G b)) (ls : Array Slot) (H : Heap) (locs : List Loc), lv_has ls 4 [(0, .ref (a 0)), (1, .int (iI b)), (2, .int (iI (r_cnt F b 0)))] → Wd g A (st_ws g a U) s H locs → W p l e (rmm 6 0 0) s m args below meth c H locs 0 0 Q (F0 m 30 ls [])) → W p l e (rmm 6 0 0) s m args below meth c H locs 0 0 Q (F0 m 8 ls []) := by
    intro n
    induction n with
    | zero =>
      intro xk G U hn hX hlo hWG hcG hRG ls H locs hl w kk8
      have hlc := low_cnt G b (by omega)
      refine lv_iload_n hx hb dX4_moveWhole_8 rfl (lv_at hl 3 rfl) ?_
      refine lv_iload_n hx hb dX4_moveWhole_9 rfl (lv_at hl 2 rfl) ?_
      refine ri_icmp_ge (tgt := 30) hx hb dX4_moveWhole_10 (by decide) (by omega) (by omega) (fun c2 => ?_) (fun c2 => ?_)
      · exact kk8 G U hRG (hWG.mono (by omega) (by omega)) (by omega) (by rw [show r_cnt F b 0 = xk from by omega]; exact all_done (by omega) (all_step3 (by omega) (by omega) hX)) ls H locs  (lv_sub hl [0, 1, 2] rfl) w
      · exact absurd c2 (by omega)
    | succ n ih8 =>
      intro xk G U hn hX hlo hWG hcG hRG ls H locs hl w kk8
      have hlc := low_cnt G b (by omega)
      have hlG : r_low G b ≠ -5 := by omega
      refine lv_iload_n hx hb dX4_moveWhole_8 rfl (lv_at hl 3 rfl) ?_
      refine lv_iload_n hx hb dX4_moveWhole_9 rfl (lv_at hl 2 rfl) ?_
      refine ri_icmp_ge (tgt := 30) hx hb dX4_moveWhole_10 (by decide) (by omega) (by omega) (fun c3 => ?_) (fun c3 => ?_)
      · exact absurd c3 (by omega)
      refine lv_aload_n hx hb dX4_moveWhole_13 rfl (lv_at hl 0 rfl) ?_
      refine lv_iload_n hx hb dX4_moveWhole_14 rfl (lv_at hl 1 rfl) ?_
      refine call_wV (wr := []) (As := [.int (iI b)]) (rest := []) hx hb (hml.trans hl.1.symm) hown hts w lk_RX4_170 (fun sz => t_X4_moveLowestPage l g a _ G U b (hWG) (hRG) (by omega) hlG (by omega) sz) [0, 1, 2, 3, 4, 5, 6, 7, 8, 9, 10, 11, 12, 13, 14, 15, 16, 17] [] rfl rfl rfl rfl (by decide) (call_recv w (q0 := 0) rfl fX4.1) rfl rfl (Nat.le_of_ble_eq_true rfl) ⟨Nat.le_of_ble_eq_true rfl, Nat.le_of_ble_eq_true rfl⟩ ⟨Nat.le_of_ble_eq_true rfl, Nat.le_of_ble_eq_true rfl⟩ dX4_moveWhole_15 (fun v w1 H locs hr w => ?_)
      obtain ⟨rfl, T4, rfl, hRT4⟩ := hr
      have w : Wd g A (st_ws g a T4) s H locs := w
      refine ri_ifb_ne (tgt := 24) hx hb dX4_moveWhole_18 (by decide) (fun c5 => ?_) (fun c5 => ?_)
      · refine ri_iinc (k := 3) (z := xk + 1) (lv' := [(3, .int (iI (xk + 1))), (0, .ref (a 0)), (1, .int (iI b)), (2, .int (iI (r_cnt F b 0)))]) hx hb dX4_moveWhole_24 hl rfl (by omega) (by decide) rfl (fun ls hl => ?_)
        refine lv_goto (tgt := 8) hx hb dX4_moveWhole_27 (by decide) ?_
        exact ih8 (xk + 1) (r_moves G b) (T4) (by omega) (all_step1 hWG hb0 (by omega) hlG (by assumption) hX) (by omega) ((wf_moves hWG hb0 hlG (by assumption) (by omega)).cast (by omega)) (by have := cnt_moves hWG hb0 hlG (by assumption); omega) (hRT4) ls H locs (lv_sub hl [1, 2, 3, 0] rfl) w kk8
      · refine ri_bipush hx hb dX4_moveWhole_21 (by decide) ?_
        exact hend.2 _ _ _ _ ⟨_, rfl, rfl⟩ _ _ dX4_moveWhole_23 w ⟨(congrArg (fun z => some (Value.int (iI z))) (show -4 = (r_all F b).1 from by have := all_fail (all_step2 hWG hb0 (by omega) hlG (by assumption) hX); omega)), T4, rfl, fun hcond => absurd hcond (by have := all_fail (all_step2 hWG hb0 (by omega) hlG (by assumption) hX); omega)⟩
  refine L8 (r_cnt F b 0).toNat 0 (F) (T) (by omega) (rfl) (by omega) (by rw [show N + 2 * (0 : Int) = N from by omega]; exact hW) (by omega) (hR) ls H locs (lv_sub hl [2, 3, 1, 0] rfl) w (fun G U hRG hWG hlG hA ls H locs hl w => ?_)
  refine lv_aload_n hx hb dX4_moveWhole_30 rfl (lv_at hl 0 rfl) ?_
  refine lv_iload_n hx hb dX4_moveWhole_31 rfl (lv_at hl 1 rfl) ?_
  refine call_wV (wr := []) (As := [.int (iI b)]) (rest := []) hx hb (hml.trans hl.1.symm) hown hts w lk_RX4_173 (fun sz => t_X4_erase l g a _ G U b (hWG) (hRG) (by omega) hlG sz) [0, 1, 2, 3, 4, 5, 6, 7, 8, 9, 10, 11, 12, 13, 14, 15, 16, 17] [] rfl rfl rfl rfl (by decide) (call_recv w (q0 := 0) rfl fX4.1) rfl rfl (Nat.le_of_ble_eq_true rfl) ⟨Nat.le_of_ble_eq_true rfl, Nat.le_of_ble_eq_true rfl⟩ ⟨Nat.le_of_ble_eq_true rfl, Nat.le_of_ble_eq_true rfl⟩ dX4_moveWhole_32 (fun v w1 H locs hr w => ?_)
  obtain ⟨rfl, T6, rfl, hRT6⟩ := hr
  have w : Wd g A (st_ws g a T6) s H locs := w
  refine lv_iload_n hx hb dX4_moveWhole_35 rfl (lv_at hl 2 rfl) ?_
  exact hend.2 _ _ _ _ ⟨_, rfl, rfl⟩ _ _ dX4_moveWhole_36 w ⟨(congrArg (fun z => some (Value.int (iI z))) (show r_cnt F b 0 = (r_all F b).1 from by rw [hA])), T6, rfl, fun hcond => hRT6.to_eq (by rw [hA])⟩

set_option maxHeartbeats 4000000 in
set_option maxRecDepth 100000 in
theorem t_X4_passOne (l : Launch) (g : GG) (a : Nat → Nat) (N : Int) (F : Int → Int) (T : Nat → Int → Int) (hW : WF N F) (hR : Rel F T) (hN : N + 100 ≤ 200000000) (sz : Nat) : Met l yX4_passOne (wm yX4_passOne cX4_passOne 4 (some .int)) (rmm 6 0 0) (pW g (st_ws g a T) sz [.ref (a 0)]) (qW g (st_ws g a T) (fun vv ww => vv = some (.int (iI (r_tick F).1)) ∧ ∃ T' : Nat → Int → Int, ww = st_ws g a T' ∧ (Rel (r_tick F).2 T'))) 0 0 (va_A (st_ws g a T) sz) := by
  have hW1 := wf_tick0 hW (by omega)
  refine met_w (by decide) (Nat.le_of_ble_eq_true rfl) ?_
  intro p e s m args below meth c Q ls A hx hb hml hown hts hl w hin hend
  obtain ⟨H, hH0⟩ : ∃ H, H = s.heap := ⟨_, rfl⟩
  obtain ⟨locs, hL0⟩ : ∃ locs : List Loc, locs = [] := ⟨_, rfl⟩
  rw [← hH0, ← hL0] at w
  rw [← hH0, ← hL0]
  have hl : lv_has ls 4 [(0, .ref (a 0))] := hl
  refine lv_aload_n hx hb dX4_passOne_0 rfl (lv_at hl 0 rfl) ?_
  refine lv_dup hx hb dX4_passOne_1 rfl ?_
  refine ri_get (v := .int (iI (F 0))) hx hb hts hown w fX4 0 14 (W0_of k_fl_RX4_64 rfl) rfl (congrArg (fun z => some (Value.int (iI z))) (hR.ti)) (by decide) dX4_passOne_2 ?_
  have r1 := hW.bd 0
  refine ri_iconst hx hb dX4_passOne_5 ?_
  refine ri_iadd (z := F 0 + 1) hx hb dX4_passOne_6 rfl ?_
  refine ri_put hx hb hts hown w fX4 0 14 (W0_of k_fl_RX4_64 rfl) rfl (Nat.le_of_ble_eq_true rfl) (by decide) rfl rfl rfl dX4_passOne_7 (fun H locs w => ?_)
  have w : Wd g A (st_ws g a (upT T 19 (fun _ => F 0 + 1))) s H locs := w
  have hR2 : Rel (up F 0 (F 0 + 1)) (upT T 19 (fun _ => F 0 + 1)) := hR.u19 (v := F 0 + 1)
  refine ri_iconst hx hb dX4_passOne_10 ?_
  refine lv_istore_n (lv' := [(1, .int (iI 0)), (0, .ref (a 0))]) hx hb dX4_passOne_11 rfl hl (by decide) rfl (fun ls hl => ?_)
  refine ri_iconst hx hb dX4_passOne_12 ?_
  refine lv_istore_n (lv' := [(2, .int (iI 0)), (1, .int (iI 0)), (0, .ref (a 0))]) hx hb dX4_passOne_13 rfl hl (by decide) rfl (fun ls hl => ?_)
  have hR0 := hR2
  have L14 : ∀ (n : Nat) (xl xk : Int) (G : Int → Int) (U : Nat → Int → Int), (xk + n = 32) → (r_tickL n G xl = r_tickL 32 (up F 0 (F 0 + 1)) 0) → (0 ≤ xl ∧ xl ≤ xk) → (WF (N + 1 + 3 * xk) G) → (Rel G U) → ∀ (ls : Array Slot) (H : Heap) (locs : List Loc), lv_has ls 4 [(0, .ref (a 0)), (1, .int (iI xl)), (2, .int (iI xk))] → Wd g A (st_ws g a U) s H locs → (∀ (V : Nat → Int → Int) (hRV : Rel (r_tickL 32 (up F 0 (F 0 + 1)) 0).2 V) (ls : Array Slot) (H : Heap) (locs : List Loc), lv_has ls 4 [(1, .int (iI (r_tickL 32 (up F 0 (F 0 + 1)) 0).1))] → Wd g A (st_ws g a V) s H locs → W p l e (rmm 6 0 0) s m args below meth c H locs 0 0 Q (F0 m 84 ls [])) → W p l e (rmm 6 0 0) s m args below meth c H locs 0 0 Q (F0 m 14 ls []) := by
    intro n
    induction n with
    | zero =>
      intro xl xk G U hn hX hxl hWG hRG ls H locs hl w kk14
      have hsG := hWG.se
      refine lv_iload_n hx hb dX4_passOne_14 rfl (lv_at hl 2 rfl) ?_
      refine ri_bipush hx hb dX4_passOne_15 (by decide) ?_
      refine ri_icmp_ge (tgt := 84) hx hb dX4_passOne_17 (by decide) (by omega) (by omega) (fun c3 => ?_) (fun c3 => ?_)
      · have e0 : (xl, G) = r_tickL 32 (up F 0 (F 0 + 1)) 0 := by first | (rw [← hX]; rfl) | (rw [← hX, tickL_s]; rw [if_pos (Or.inl (by omega))]) | (rw [← hX, tickL_s]; rw [if_pos (Or.inr (by omega))])
        have e1 : xl = (r_tickL 32 (up F 0 (F 0 + 1)) 0).1 := congrArg Prod.fst e0
        have e2 : G = (r_tickL 32 (up F 0 (F 0 + 1)) 0).2 := congrArg Prod.snd e0
        rw [e1] at hl
        exact kk14 U (by rw [← e2]; exact hRG) ls H locs  (lv_sub hl [1] rfl) w
      · exact absurd c3 (by omega)
    | succ n ih14 =>
      intro xl xk G U hn hX hxl hWG hRG ls H locs hl w kk14
      have hsG := hWG.se
      refine lv_iload_n hx hb dX4_passOne_14 rfl (lv_at hl 2 rfl) ?_
      refine ri_bipush hx hb dX4_passOne_15 (by decide) ?_
      refine ri_icmp_ge (tgt := 84) hx hb dX4_passOne_17 (by decide) (by omega) (by omega) (fun c4 => ?_) (fun c4 => ?_)
      · exact absurd c4 (by omega)
      refine lv_iload_n hx hb dX4_passOne_20 rfl (lv_at hl 1 rfl) ?_
      refine lv_aload_n hx hb dX4_passOne_21 rfl (lv_at hl 0 rfl) ?_
      refine ri_get (v := .ref (a 11)) hx hb hts hown w fX4 0 10 (W0_of k_fl_RX4_43 rfl) rfl rfl (by decide) dX4_passOne_22 ?_
      refine ri_iconst hx hb dX4_passOne_25 ?_
      refine ri_iald (f := U 11) (v := G 3) hx hb w 11 rfl (by omega) ((hRG.se (by omega) (by omega)).trans (congrArg _ (by omega))) dX4_passOne_26 (by omega) ?_
      have r5 := hWG.bd 3
      refine ri_icmp_ge (tgt := 84) hx hb dX4_passOne_27 (by decide) (by omega) (by omega) (fun c6 => ?_) (fun c6 => ?_)
      · have e0 : (xl, G) = r_tickL 32 (up F 0 (F 0 + 1)) 0 := by first | (rw [← hX]; rfl) | (rw [← hX, tickL_s]; rw [if_pos (Or.inl (by omega))]) | (rw [← hX, tickL_s]; rw [if_pos (Or.inr (by omega))])
        have e1 : xl = (r_tickL 32 (up F 0 (F 0 + 1)) 0).1 := congrArg Prod.fst e0
        have e2 : G = (r_tickL 32 (up F 0 (F 0 + 1)) 0).2 := congrArg Prod.snd e0
        rw [e1] at hl
        exact kk14 U (by rw [← e2]; exact hRG) ls H locs  (lv_sub hl [1] rfl) w
      · refine lv_aload_n hx hb dX4_passOne_30 rfl (lv_at hl 0 rfl) ?_
        refine call_rV (As := []) (rest := []) hx hb (hml.trans hl.1.symm) hown hts w lk_RX4_176 (t_X4_firstMarked l g a _ G U  (hWG) (hRG) ) [0, 1, 2, 3, 4, 5, 6, 7, 8, 9, 10, 11, 12, 13, 14, 15, 16, 17] rfl rfl (call_recv w (q0 := 0) rfl fX4.1) rfl rfl (Nat.le_of_ble_eq_true rfl) ⟨Nat.le_of_ble_eq_true rfl, Nat.le_of_ble_eq_true rfl⟩ ⟨Nat.le_of_ble_eq_true rfl, Nat.le_of_ble_eq_true rfl⟩ dX4_passOne_31 ?_
        have r7 := first_rg G
        refine lv_istore_n (lv' := [(3, .int (iI (r_first G))), (0, .ref (a 0)), (1, .int (iI xl)), (2, .int (iI xk))]) hx hb dX4_passOne_34 rfl hl (by decide) rfl (fun ls hl => ?_)
        refine lv_iload_n hx hb dX4_passOne_35 rfl (lv_at hl 0 rfl) ?_
        refine ri_iconst hx hb dX4_passOne_36 ?_
        refine ri_icmp_ne (tgt := 43) hx hb dX4_passOne_37 (by decide) (by omega) (by omega) (fun c8 => ?_) (fun c8 => ?_)
        · have hfr := first_rg G
          have hna : r_markedAt G 0 ≠ -5 := by omega
          have ef : r_first G = r_markedAt G 0 := by omega
          rw [ef] at hl
          have hat := at_ok (F := G) (r := 0) hna
          have hlc := low_cnt G (r_markedAt G 0) (by omega)
          refine lv_aload_n hx hb dX4_passOne_43 rfl (lv_at hl 1 rfl) ?_
          refine lv_iload_n hx hb dX4_passOne_44 rfl (lv_at hl 0 rfl) ?_
          have r9 := at_rg G 0
          refine call_rV (As := [.int (iI (r_markedAt G 0))]) (rest := []) hx hb (hml.trans hl.1.symm) hown hts w lk_RX4_108 (t_X4_pagesIn l g a _ G U (r_markedAt G 0) (hWG) (hRG) (by omega)) [0, 1, 2, 3, 4, 5, 6, 7, 8, 9, 10, 11, 12, 13, 14, 15, 16, 17] rfl rfl (call_recv w (q0 := 0) rfl fX4.1) rfl rfl (Nat.le_of_ble_eq_true rfl) ⟨Nat.le_of_ble_eq_true rfl, Nat.le_of_ble_eq_true rfl⟩ ⟨Nat.le_of_ble_eq_true rfl, Nat.le_of_ble_eq_true rfl⟩ dX4_passOne_45 ?_
          have r10 := cnt_rg G (r_markedAt G 0) 0
          refine ri_if_le (tgt := 65) hx hb dX4_passOne_48 (by decide) (by omega) (fun c11 => ?_) (fun c11 => ?_)
          · have hc0 := cnt_rg G (r_markedAt G 0) 0
            refine lv_aload_n hx hb dX4_passOne_65 rfl (lv_at hl 1 rfl) ?_
            refine lv_iload_n hx hb dX4_passOne_66 rfl (lv_at hl 0 rfl) ?_
            refine call_rV (As := [.int (iI (r_markedAt G 0))]) (rest := []) hx hb (hml.trans hl.1.symm) hown hts w lk_RX4_108 (t_X4_pagesIn l g a _ G U (r_markedAt G 0) (hWG) (hRG) (by omega)) [0, 1, 2, 3, 4, 5, 6, 7, 8, 9, 10, 11, 12, 13, 14, 15, 16, 17] rfl rfl (call_recv w (q0 := 0) rfl fX4.1) rfl rfl (Nat.le_of_ble_eq_true rfl) ⟨Nat.le_of_ble_eq_true rfl, Nat.le_of_ble_eq_true rfl⟩ ⟨Nat.le_of_ble_eq_true rfl, Nat.le_of_ble_eq_true rfl⟩ dX4_passOne_67 ?_
            refine ri_if_ne (tgt := 78) hx hb dX4_passOne_70 (by decide) (by omega) (fun c12 => ?_) (fun c12 => ?_)
            · exact absurd c12 (by omega)
            refine lv_aload_n hx hb dX4_passOne_73 rfl (lv_at hl 1 rfl) ?_
            refine lv_iload_n hx hb dX4_passOne_74 rfl (lv_at hl 0 rfl) ?_
            refine call_wV (wr := []) (As := [.int (iI (r_markedAt G 0))]) (rest := []) hx hb (hml.trans hl.1.symm) hown hts w lk_RX4_173 (fun sz => t_X4_erase l g a _ G U (r_markedAt G 0) (hWG) (hRG) (by omega) (by omega) sz) [0, 1, 2, 3, 4, 5, 6, 7, 8, 9, 10, 11, 12, 13, 14, 15, 16, 17] [] rfl rfl rfl rfl (by decide) (call_recv w (q0 := 0) rfl fX4.1) rfl rfl (Nat.le_of_ble_eq_true rfl) ⟨Nat.le_of_ble_eq_true rfl, Nat.le_of_ble_eq_true rfl⟩ ⟨Nat.le_of_ble_eq_true rfl, Nat.le_of_ble_eq_true rfl⟩ dX4_passOne_75 (fun v w1 H locs hr w => ?_)
            obtain ⟨rfl, T13, rfl, hRT13⟩ := hr
            have w : Wd g A (st_ws g a T13) s H locs := w
            refine ri_iinc (k := 3) (z := xk + 1) (lv' := [(2, .int (iI (xk + 1))), (3, .int (iI (r_markedAt G 0))), (0, .ref (a 0)), (1, .int (iI xl))]) hx hb dX4_passOne_78 hl rfl (by omega) (by decide) rfl (fun ls hl => ?_)
            refine lv_goto (tgt := 14) hx hb dX4_passOne_81 (by decide) ?_
            exact ih14 xl (xk + 1) (r_erases G (r_markedAt G 0)) (T13) (by omega) ((by rw [← hX, tickL_s]; rw [if_neg (by rintro (hh | hh); omega; exact absurd hh (by assumption))]; rw [if_pos (by omega)])) (by omega) ((wf_erases hWG hat (by omega) (by omega)).mono (by omega) (by omega)) (hRT13) ls H locs (lv_sub hl [2, 3, 0] rfl) w kk14
          · refine lv_aload_n hx hb dX4_passOne_51 rfl (lv_at hl 1 rfl) ?_
            refine lv_iload_n hx hb dX4_passOne_52 rfl (lv_at hl 0 rfl) ?_
            refine call_wV (wr := []) (As := [.int (iI (r_markedAt G 0))]) (rest := []) hx hb (hml.trans hl.1.symm) hown hts w lk_RX4_170 (fun sz => t_X4_moveLowestPage l g a _ G U (r_markedAt G 0) (hWG) (hRG) (by omega) (by omega) (by omega) sz) [0, 1, 2, 3, 4, 5, 6, 7, 8, 9, 10, 11, 12, 13, 14, 15, 16, 17] [] rfl rfl rfl rfl (by decide) (call_recv w (q0 := 0) rfl fX4.1) rfl rfl (Nat.le_of_ble_eq_true rfl) ⟨Nat.le_of_ble_eq_true rfl, Nat.le_of_ble_eq_true rfl⟩ ⟨Nat.le_of_ble_eq_true rfl, Nat.le_of_ble_eq_true rfl⟩ dX4_passOne_53 (fun v w1 H locs hr w => ?_)
            obtain ⟨rfl, T14, rfl, hRT14⟩ := hr
            have w : Wd g A (st_ws g a T14) s H locs := w
            refine ri_ifb_ne (tgt := 62) hx hb dX4_passOne_56 (by decide) (fun c15 => ?_) (fun c15 => ?_)
            · have hWm := wf_moves hWG hat (by omega) (by assumption) (by omega)
              refine ri_iinc (k := 2) (z := xl + 1) (lv' := [(1, .int (iI (xl + 1))), (3, .int (iI (r_markedAt G 0))), (0, .ref (a 0)), (2, .int (iI xk))]) hx hb dX4_passOne_62 hl rfl (by omega) (by decide) rfl (fun ls hl => ?_)
              have hlc2 := low_cnt (r_moves G (r_markedAt G 0)) (r_markedAt G 0) (by omega)
              refine lv_aload_n hx hb dX4_passOne_65 rfl (lv_at hl 2 rfl) ?_
              refine lv_iload_n hx hb dX4_passOne_66 rfl (lv_at hl 1 rfl) ?_
              refine call_rV (As := [.int (iI (r_markedAt G 0))]) (rest := []) hx hb (hml.trans hl.1.symm) hown hts w lk_RX4_108 (t_X4_pagesIn l g a _ (r_moves G (r_markedAt G 0)) T14 (r_markedAt G 0) (hWm) (hRT14) (by omega)) [0, 1, 2, 3, 4, 5, 6, 7, 8, 9, 10, 11, 12, 13, 14, 15, 16, 17] rfl rfl (call_recv w (q0 := 0) rfl fX4.1) rfl rfl (Nat.le_of_ble_eq_true rfl) ⟨Nat.le_of_ble_eq_true rfl, Nat.le_of_ble_eq_true rfl⟩ ⟨Nat.le_of_ble_eq_true rfl, Nat.le_of_ble_eq_true rfl⟩ dX4_passOne_67 ?_
              have r16 := cnt_rg (r_moves G (r_markedAt G 0)) (r_markedAt G 0) 0
              refine ri_if_ne (tgt := 78) hx hb dX4_passOne_70 (by decide) (by omega) (fun c17 => ?_) (fun c17 => ?_)
              · refine ri_iinc (k := 3) (z := xk + 1) (lv' := [(2, .int (iI (xk + 1))), (1, .int (iI (xl + 1))), (3, .int (iI (r_markedAt G 0))), (0, .ref (a 0))]) hx hb dX4_passOne_78 hl rfl (by omega) (by decide) rfl (fun ls hl => ?_)
                refine lv_goto (tgt := 14) hx hb dX4_passOne_81 (by decide) ?_
                exact ih14 (xl + 1) (xk + 1) (r_moves G (r_markedAt G 0)) (T14) (by omega) ((by rw [← hX, tickL_s]; rw [if_neg (by rintro (hh | hh); omega; exact absurd hh (by assumption))]; rw [if_neg (by omega), if_pos (by assumption), if_neg (by omega)])) (by omega) (hWm.mono (by omega) (by omega)) (hRT14) ls H locs (lv_sub hl [3, 1, 0] rfl) w kk14
              · refine lv_aload_n hx hb dX4_passOne_73 rfl (lv_at hl 2 rfl) ?_
                refine lv_iload_n hx hb dX4_passOne_74 rfl (lv_at hl 1 rfl) ?_
                refine call_wV (wr := []) (As := [.int (iI (r_markedAt G 0))]) (rest := []) hx hb (hml.trans hl.1.symm) hown hts w lk_RX4_173 (fun sz => t_X4_erase l g a _ (r_moves G (r_markedAt G 0)) T14 (r_markedAt G 0) (hWm) (hRT14) (by omega) (by omega) sz) [0, 1, 2, 3, 4, 5, 6, 7, 8, 9, 10, 11, 12, 13, 14, 15, 16, 17] [] rfl rfl rfl rfl (by decide) (call_recv w (q0 := 0) rfl fX4.1) rfl rfl (Nat.le_of_ble_eq_true rfl) ⟨Nat.le_of_ble_eq_true rfl, Nat.le_of_ble_eq_true rfl⟩ ⟨Nat.le_of_ble_eq_true rfl, Nat.le_of_ble_eq_true rfl⟩ dX4_passOne_75 (fun v w1 H locs hr w => ?_)
                obtain ⟨rfl, T18, rfl, hRT18⟩ := hr
                have w : Wd g A (st_ws g a T18) s H locs := w
                refine ri_iinc (k := 3) (z := xk + 1) (lv' := [(2, .int (iI (xk + 1))), (1, .int (iI (xl + 1))), (3, .int (iI (r_markedAt G 0))), (0, .ref (a 0))]) hx hb dX4_passOne_78 hl rfl (by omega) (by decide) rfl (fun ls hl => ?_)
                refine lv_goto (tgt := 14) hx hb dX4_passOne_81 (by decide) ?_
                exact ih14 (xl + 1) (xk + 1) (r_erases (r_moves G (r_markedAt G 0)) (r_markedAt G 0)) (T18) (by omega) ((by rw [← hX, tickL_s]; rw [if_neg (by rintro (hh | hh); omega; exact absurd hh (by assumption))]; rw [if_neg (by omega), if_pos (by assumption), if_pos (by omega)])) (by omega) ((wf_erases hWm hat (by omega) (by omega)).mono (by omega) (by omega)) (hRT18) ls H locs (lv_sub hl [3, 1, 0] rfl) w kk14
            · refine lv_goto (tgt := 84) hx hb dX4_passOne_59 (by decide) ?_
              have e0 : (xl, r_moves G (r_markedAt G 0)) = r_tickL 32 (up F 0 (F 0 + 1)) 0 := by rw [← hX, tickL_s]; rw [if_neg (by rintro (hh | hh); omega; exact absurd hh (by assumption)), if_neg (by omega), if_neg (by assumption)]
              have e1 : xl = (r_tickL 32 (up F 0 (F 0 + 1)) 0).1 := congrArg Prod.fst e0
              have e2 : r_moves G (r_markedAt G 0) = (r_tickL 32 (up F 0 (F 0 + 1)) 0).2 := congrArg Prod.snd e0
              rw [e1] at hl
              exact kk14 T14 (by rw [← e2]; exact hRT14) ls H locs  (lv_sub hl [2] rfl) w
        · have hfr := first_rg G
          refine lv_goto (tgt := 84) hx hb dX4_passOne_40 (by decide) ?_
          have e0 : (xl, G) = r_tickL 32 (up F 0 (F 0 + 1)) 0 := by first | (rw [← hX]; rfl) | (rw [← hX, tickL_s]; rw [if_pos (Or.inl (by omega))]) | (rw [← hX, tickL_s]; rw [if_pos (Or.inr (by omega))])
          have e1 : xl = (r_tickL 32 (up F 0 (F 0 + 1)) 0).1 := congrArg Prod.fst e0
          have e2 : G = (r_tickL 32 (up F 0 (F 0 + 1)) 0).2 := congrArg Prod.snd e0
          rw [e1] at hl
          exact kk14 U (by rw [← e2]; exact hRG) ls H locs  (lv_sub hl [2] rfl) w
  refine L14 32 0 0 (up F 0 (F 0 + 1)) (upT T 19 (fun _ => F 0 + 1)) (by omega) (rfl) (by omega) (by rw [show N + 1 + 3 * (0 : Int) = N + 1 from by omega]; exact hW1) (hR0) ls H locs (lv_sub hl [2, 1, 0] rfl) w (fun V hRV ls H locs hl w => ?_)
  refine lv_iload_n hx hb dX4_passOne_84 rfl (lv_at hl 0 rfl) ?_
  exact hend.2 _ _ _ _ ⟨_, rfl, rfl⟩ _ _ dX4_passOne_85 w ⟨(congrArg (fun z => some (Value.int (iI z))) (show (r_tickL 32 (up F 0 (F 0 + 1)) 0).1 = (r_tick F).1 from by rfl)), V, rfl, hRV⟩

set_option maxHeartbeats 4000000 in
set_option maxRecDepth 100000 in
theorem t_X4_passTicks (l : Launch) (g : GG) (a : Nat → Nat) (N : Int) (F : Int → Int) (T : Nat → Int → Int) (v : Int) (hW : WF N F) (hR : Rel F T) (h1 : -2147483648 ≤ v ∧ v ≤ 2147483647) (hN : N + 10000 ≤ 200000000) (sz : Nat) : Met l yX4_passTicks (wm yX4_passTicks cX4_passTicks 4 (some .int)) (rmm 7 0 0) (pW g (st_ws g a T) sz [.ref (a 0), .int (iI v)]) (qW g (st_ws g a T) (fun vv ww => vv = some (.int (iI (r_pass F v).1)) ∧ ∃ T' : Nat → Int → Int, ww = st_ws g a T' ∧ (0 ≤ (r_pass F v).1 → Rel (r_pass F v).2 T'))) 0 0 (va_A (st_ws g a T) sz) := by
  refine met_w (by decide) (Nat.le_of_ble_eq_true rfl) ?_
  intro p e s m args below meth c Q ls A hx hb hml hown hts hl w hin hend
  obtain ⟨H, hH0⟩ : ∃ H, H = s.heap := ⟨_, rfl⟩
  obtain ⟨locs, hL0⟩ : ∃ locs : List Loc, locs = [] := ⟨_, rfl⟩
  rw [← hH0, ← hL0] at w
  rw [← hH0, ← hL0]
  have hl : lv_has ls 4 [(0, .ref (a 0)), (1, .int (iI v))] := hl
  refine lv_iload_n hx hb dX4_passTicks_0 rfl (lv_at hl 1 rfl) ?_
  refine ri_iconst hx hb dX4_passTicks_1 ?_
  refine ri_icmp_lt (tgt := 11) hx hb dX4_passTicks_2 (by decide) (by omega) (by omega) (fun c1 => ?_) (fun c1 => ?_)
  · refine ri_bipush hx hb dX4_passTicks_11 (by decide) ?_
    exact hend.2 _ _ _ _ ⟨_, rfl, rfl⟩ _ _ dX4_passTicks_13 w ⟨(congrArg (fun z => some (Value.int (iI z))) (show -2 = (r_pass F v).1 from by unfold r_pass; first | rw [if_pos (by omega)] | (rw [if_neg (by omega), if_pos (by omega)]) | (rw [if_neg (by omega), if_neg (by omega)]))), T, rfl, fun hcond => absurd hcond (by rw [show (r_pass F v).1 = -2 from by unfold r_pass; first | rw [if_pos (by omega)] | (rw [if_neg (by omega), if_pos (by omega)]) | (rw [if_neg (by omega), if_neg (by omega)])]; omega)⟩
  · refine lv_iload_n hx hb dX4_passTicks_5 rfl (lv_at hl 1 rfl) ?_
    refine ri_bipush hx hb dX4_passTicks_6 (by decide) ?_
    refine ri_icmp_le (tgt := 14) hx hb dX4_passTicks_8 (by decide) (by omega) (by omega) (fun c2 => ?_) (fun c2 => ?_)
    · refine lv_aload_n hx hb dX4_passTicks_14 rfl (lv_at hl 0 rfl) ?_
      refine ri_get (v := .int (iI (F 0))) hx hb hts hown w fX4 0 14 (W0_of k_fl_RX4_64 rfl) rfl (congrArg (fun z => some (Value.int (iI z))) (hR.ti)) (by decide) dX4_passTicks_15 ?_
      have r3 := hW.bd 0
      refine lv_iload_n hx hb dX4_passTicks_18 rfl (lv_at hl 1 rfl) ?_
      refine ri_iadd (z := F 0 + v) hx hb dX4_passTicks_19 rfl ?_
      refine ri_ldc (n := 99999) hx hb hown hts (W0_of k_const_RX4_215 rfl) dX4_passTicks_20 (by decide) ?_
      refine ri_icmp_le (tgt := 28) hx hb dX4_passTicks_22 (by decide) (by omega) (by omega) (fun c4 => ?_) (fun c4 => ?_)
      · refine ri_iconst hx hb dX4_passTicks_28 ?_
        refine lv_istore_n (lv' := [(2, .int (iI 0)), (0, .ref (a 0)), (1, .int (iI v))]) hx hb dX4_passTicks_29 rfl hl (by decide) rfl (fun ls hl => ?_)
        refine ri_iconst hx hb dX4_passTicks_30 ?_
        refine lv_istore_n (lv' := [(3, .int (iI 0)), (2, .int (iI 0)), (0, .ref (a 0)), (1, .int (iI v))]) hx hb dX4_passTicks_31 rfl hl (by decide) rfl (fun ls hl => ?_)
        have L32 : ∀ (n : Nat) (xn xk : Int) (G : Int → Int) (U : Nat → Int → Int), (xk + n = v) → (r_passL n G xn = r_passL v.toNat F 0) → (0 ≤ xk) → (WF (N + 100 * xk) G) → (0 ≤ xn ∧ xn ≤ 32 * xk) → (Rel G U) → ∀ (ls : Array Slot) (H : Heap) (locs : List Loc), lv_has ls 4 [(0, .ref (a 0)), (1, .int (iI v)), (2, .int (iI xn)), (3, .int (iI xk))] → Wd g A (st_ws g a U) s H locs → (∀ (V : Nat → Int → Int) (hRV : Rel (r_passL v.toNat F 0).2 V) (ls : Array Slot) (H : Heap) (locs : List Loc), lv_has ls 4 [(2, .int (iI (r_passL v.toNat F 0).1))] → Wd g A (st_ws g a V) s H locs → W p l e (rmm 7 0 0) s m args below meth c H locs 0 0 Q (F0 m 50 ls [])) → W p l e (rmm 7 0 0) s m args below meth c H locs 0 0 Q (F0 m 32 ls []) := by
          intro n
          induction n with
          | zero =>
            intro xn xk G U hn hX hlo hWG hxr hRG ls H locs hl w kk32
            refine lv_iload_n hx hb dX4_passTicks_32 rfl (lv_at hl 3 rfl) ?_
            refine lv_iload_n hx hb dX4_passTicks_33 rfl (lv_at hl 1 rfl) ?_
            refine ri_icmp_ge (tgt := 50) hx hb dX4_passTicks_34 (by decide) (by omega) (by omega) (fun c5 => ?_) (fun c5 => ?_)
            · have e0 : (xn, G) = r_passL v.toNat F 0 := hX
              have e1 : xn = (r_passL v.toNat F 0).1 := congrArg Prod.fst e0
              have e2 : G = (r_passL v.toNat F 0).2 := congrArg Prod.snd e0
              rw [e1] at hl
              exact kk32 U (by rw [← e2]; exact hRG) ls H locs  (lv_sub hl [2] rfl) w
            · exact absurd c5 (by omega)
          | succ n ih32 =>
            intro xn xk G U hn hX hlo hWG hxr hRG ls H locs hl w kk32
            refine lv_iload_n hx hb dX4_passTicks_32 rfl (lv_at hl 3 rfl) ?_
            refine lv_iload_n hx hb dX4_passTicks_33 rfl (lv_at hl 1 rfl) ?_
            refine ri_icmp_ge (tgt := 50) hx hb dX4_passTicks_34 (by decide) (by omega) (by omega) (fun c6 => ?_) (fun c6 => ?_)
            · exact absurd c6 (by omega)
            refine lv_iload_n hx hb dX4_passTicks_37 rfl (lv_at hl 2 rfl) ?_
            refine lv_aload_n hx hb dX4_passTicks_38 rfl (lv_at hl 0 rfl) ?_
            refine call_wV (wr := []) (As := []) (rest := [.int (iI xn)]) hx hb (hml.trans hl.1.symm) hown hts w lk_RX4_216 (fun sz => t_X4_passOne l g a _ G U  (hWG) (hRG) (by omega) sz) [0, 1, 2, 3, 4, 5, 6, 7, 8, 9, 10, 11, 12, 13, 14, 15, 16, 17] [] rfl rfl rfl rfl (by decide) (call_recv w (q0 := 0) rfl fX4.1) rfl rfl (Nat.le_of_ble_eq_true rfl) ⟨Nat.le_of_ble_eq_true rfl, Nat.le_of_ble_eq_true rfl⟩ ⟨Nat.le_of_ble_eq_true rfl, Nat.le_of_ble_eq_true rfl⟩ dX4_passTicks_39 (fun v w1 H locs hr w => ?_)
            obtain ⟨rfl, T7, rfl, hRT7⟩ := hr
            have w : Wd g A (st_ws g a T7) s H locs := w
            have r8 := tick_rg hWG 
            refine ri_iadd (z := (r_tick G).1 + xn) hx hb dX4_passTicks_42 (by omega) ?_
            refine lv_istore_n (lv' := [(2, .int (iI ((r_tick G).1 + xn))), (0, .ref (a 0)), (1, .int (iI v)), (3, .int (iI xk))]) hx hb dX4_passTicks_43 rfl hl (by decide) rfl (fun ls hl => ?_)
            refine ri_iinc (k := 3) (z := xk + 1) (lv' := [(3, .int (iI (xk + 1))), (2, .int (iI ((r_tick G).1 + xn))), (0, .ref (a 0)), (1, .int (iI v))]) hx hb dX4_passTicks_44 hl rfl (by omega) (by decide) rfl (fun ls hl => ?_)
            refine lv_goto (tgt := 32) hx hb dX4_passTicks_47 (by decide) ?_
            exact ih32 ((r_tick G).1 + xn) (xk + 1) ((r_tick G).2) (T7) (by omega) ((by rw [← hX, Int.add_comm]; rfl)) (by omega) ((wf_tick hWG (by omega)).cast (by omega)) ((by have := tick_rg hWG; omega)) (hRT7) ls H locs (lv_sub hl [2, 3, 1, 0] rfl) w kk32
        refine L32 v.toNat 0 0 (F) (T) (by omega) (rfl) (by omega) (by rw [show N + 100 * (0 : Int) = N from by omega]; exact hW) (by omega) (hR) ls H locs (lv_sub hl [2, 3, 1, 0] rfl) w (fun V hRV ls H locs hl w => ?_)
        refine lv_iload_n hx hb dX4_passTicks_50 rfl (lv_at hl 0 rfl) ?_
        exact hend.2 _ _ _ _ ⟨_, rfl, rfl⟩ _ _ dX4_passTicks_51 w ⟨(congrArg (fun z => some (Value.int (iI z))) (show (r_passL v.toNat F 0).1 = (r_pass F v).1 from by unfold r_pass; first | rw [if_pos (by omega)] | (rw [if_neg (by omega), if_pos (by omega)]) | (rw [if_neg (by omega), if_neg (by omega)]))), V, rfl, fun hcond => hRV.to_eq (by unfold r_pass; first | rw [if_pos (by omega)] | (rw [if_neg (by omega), if_pos (by omega)]) | (rw [if_neg (by omega), if_neg (by omega)]))⟩
      · refine ri_bipush hx hb dX4_passTicks_25 (by decide) ?_
        exact hend.2 _ _ _ _ ⟨_, rfl, rfl⟩ _ _ dX4_passTicks_27 w ⟨(congrArg (fun z => some (Value.int (iI z))) (show -4 = (r_pass F v).1 from by unfold r_pass; first | rw [if_pos (by omega)] | (rw [if_neg (by omega), if_pos (by omega)]) | (rw [if_neg (by omega), if_neg (by omega)]))), T, rfl, fun hcond => absurd hcond (by rw [show (r_pass F v).1 = -4 from by unfold r_pass; first | rw [if_pos (by omega)] | (rw [if_neg (by omega), if_pos (by omega)]) | (rw [if_neg (by omega), if_neg (by omega)])]; omega)⟩
    · refine ri_bipush hx hb dX4_passTicks_11 (by decide) ?_
      exact hend.2 _ _ _ _ ⟨_, rfl, rfl⟩ _ _ dX4_passTicks_13 w ⟨(congrArg (fun z => some (Value.int (iI z))) (show -2 = (r_pass F v).1 from by unfold r_pass; first | rw [if_pos (by omega)] | (rw [if_neg (by omega), if_pos (by omega)]) | (rw [if_neg (by omega), if_neg (by omega)]))), T, rfl, fun hcond => absurd hcond (by rw [show (r_pass F v).1 = -2 from by unfold r_pass; first | rw [if_pos (by omega)] | (rw [if_neg (by omega), if_pos (by omega)]) | (rw [if_neg (by omega), if_neg (by omega)])]; omega)⟩
