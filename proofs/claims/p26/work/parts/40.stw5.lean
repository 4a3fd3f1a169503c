set_option maxHeartbeats 4000000 in
set_option maxRecDepth 100000 in
theorem t_X4_readPage (l : Launch) (g : GG) (a : Nat → Nat) (N : Int) (F : Int → Int) (T : Nat → Int → Int) (v : Int) (hW : WF N F) (hR : Rel F T) (h1 : -2147483648 ≤ v ∧ v ≤ 2147483647) (hN : N + 100 ≤ 200000000) (sz : Nat) : Met l yX4_readPage (wm yX4_readPage cX4_readPage 3 (some .int)) (rmm 7 0 0) (pW g (st_ws g a T) sz [.ref (a 0), .int (iI v)]) (qW g (st_ws g a T) (fun vv ww => vv = some (.int (iI (r_read F v).1)) ∧ ∃ T' : Nat → Int → Int, ww = st_ws g a T' ∧ (0 ≤ (r_read F v).1 → Rel (r_read F v).2 T'))) 0 0 (va_A (st_ws g a T) sz) := by
  have he := hW.he
  have hs := hW.se
  have hpo := placeOf_rg F v
  have hbu := bufA_rg F v
  have hb1 := buf_rg F v
  refine met_w (by decide) (Nat.le_of_ble_eq_true rfl) ?_
  intro p e s m args below meth c Q ls A hx hb hml hown hts hl w hin hend
  obtain ⟨H, hH0⟩ : ∃ H, H = s.heap := ⟨_, rfl⟩
  obtain ⟨locs, hL0⟩ : ∃ locs : List Loc, locs = [] := ⟨_, rfl⟩
  rw [← hH0, ← hL0] at w
  rw [← hH0, ← hL0]
  have hl : lv_has ls 3 [(0, .ref (a 0)), (1, .int (iI v))] := hl
  refine lv_aload_n hx hb dX4_readPage_0 rfl (lv_at hl 0 rfl) ?_
  refine lv_iload_n hx hb dX4_readPage_1 rfl (lv_at hl 1 rfl) ?_
  refine call_rV (As := [.int (iI v)]) (rest := []) hx hb (hml.trans hl.1.symm) hown hts w lk_RX4_200 (t_X4_hasPlace l g a _ F T v (hW) (hR) (by omega)) [0, 1, 2, 3, 4, 5, 6, 7, 8, 9, 10, 11, 12, 13, 14, 15, 16, 17] rfl rfl (call_recv w (q0 := 0) rfl fX4.1) rfl rfl (Nat.le_of_ble_eq_true rfl) ⟨Nat.le_of_ble_eq_true rfl, Nat.le_of_ble_eq_true rfl⟩ ⟨Nat.le_of_ble_eq_true rfl, Nat.le_of_ble_eq_true rfl⟩ dX4_readPage_2 ?_
  refine ri_ifb_ne (tgt := 10) hx hb dX4_readPage_5 (by decide) (fun c1 => ?_) (fun c1 => ?_)
  · refine ri_iconst hx hb dX4_readPage_10 ?_
    refine lv_istore_n (lv' := [(2, .int (iI 0)), (0, .ref (a 0)), (1, .int (iI v))]) hx hb dX4_readPage_11 rfl hl (by decide) rfl (fun ls hl => ?_)
    refine lv_aload_n hx hb dX4_readPage_12 rfl (lv_at hl 1 rfl) ?_
    refine ri_get (v := .ref (a 12)) hx hb hts hown w fX4 0 11 (W0_of k_fl_RX4_49 rfl) rfl rfl (by decide) dX4_readPage_13 ?_
    refine lv_iload_n hx hb dX4_readPage_16 rfl (lv_at hl 2 rfl) ?_
    refine call_rV (As := [.int (iI v)]) (rest := []) hx hb (hml.trans hl.1.symm) hown hts w lk_RX4_203 (t_X0_rankOf l g (a 12) (a 14) _ F (T 14) (T 23 0) v (hW) (fun i h0 h1 => hR.bu h0 h1) (hR.sz) (by omega)) [12, 14] rfl rfl (call_recv w (q0 := 12) rfl fX0.1) rfl rfl (Nat.le_of_ble_eq_true rfl) ⟨Nat.le_of_ble_eq_true rfl, Nat.le_of_ble_eq_true rfl⟩ ⟨Nat.le_of_ble_eq_true rfl, Nat.le_of_ble_eq_true rfl⟩ dX4_readPage_17 ?_
    have r2 := bufA_rg F v
    refine ri_iconst hx hb dX4_readPage_20 ?_
    refine ri_icmp_ne (tgt := 95) hx hb dX4_readPage_21 (by decide) (by omega) (by omega) (fun c3 => ?_) (fun c3 => ?_)
    · refine lv_aload_n hx hb dX4_readPage_95 rfl (lv_at hl 1 rfl) ?_
      refine lv_dup hx hb dX4_readPage_96 rfl ?_
      refine ri_get (v := .int (iI (F 8))) hx hb hts hown w fX4 0 16 (W0_of k_fl_RX4_70 rfl) rfl (congrArg (fun z => some (Value.int (iI z))) (hR.qu)) (by decide) dX4_readPage_97 ?_
      have r4 := hW.bd 8
      refine ri_iconst hx hb dX4_readPage_100 ?_
      refine ri_iadd (z := F 8 + 1) hx hb dX4_readPage_101 rfl ?_
      refine ri_put hx hb hts hown w fX4 0 16 (W0_of k_fl_RX4_70 rfl) rfl (Nat.le_of_ble_eq_true rfl) (by decide) rfl rfl rfl dX4_readPage_102 (fun H locs w => ?_)
      have w : Wd g A (st_ws g a (upT T 21 (fun _ => F 8 + 1))) s H locs := w
      have hR5 : Rel (up F 8 (F 8 + 1)) (upT T 21 (fun _ => F 8 + 1)) := hR.u21 (v := F 8 + 1)
      refine lv_aload_n hx hb dX4_readPage_105 rfl (lv_at hl 1 rfl) ?_
      refine lv_dup hx hb dX4_readPage_106 rfl ?_
      refine ri_get (v := .int (iI (F 7))) hx hb hts hown w fX4 0 15 (W0_of k_fl_RX4_67 rfl) rfl (congrArg (fun z => some (Value.int (iI z))) (hR.re)) (by decide) dX4_readPage_107 ?_
      have r6 := hW.bd 7
      refine ri_iconst hx hb dX4_readPage_110 ?_
      refine ri_iadd (z := F 7 + 1) hx hb dX4_readPage_111 rfl ?_
      refine ri_put hx hb hts hown w fX4 0 15 (W0_of k_fl_RX4_67 rfl) rfl (Nat.le_of_ble_eq_true rfl) (by decide) rfl rfl rfl dX4_readPage_112 (fun H locs w => ?_)
      have w : Wd g A (st_ws g a (upT (upT T 21 (fun _ => F 8 + 1)) 20 (fun _ => F 7 + 1))) s H locs := w
      have hR7 : Rel (up (up F 8 (F 8 + 1)) 7 (F 7 + 1)) (upT (upT T 21 (fun _ => F 8 + 1)) 20 (fun _ => F 7 + 1)) := hR5.u20 (v := F 7 + 1)
      refine lv_aload_n hx hb dX4_readPage_115 rfl (lv_at hl 1 rfl) ?_
      refine ri_get (v := .ref (a 10)) hx hb hts hown w fX4 0 9 (W0_of k_fl_RX4_40 rfl) rfl rfl (by decide) dX4_readPage_116 ?_
      refine lv_iload_n hx hb dX4_readPage_119 rfl (lv_at hl 2 rfl) ?_
      refine lv_dup2_11 hx hb dX4_readPage_120 rfl rfl ?_
      refine ri_iald (f := T 10) (v := F (v + 209)) hx hb w 10 rfl (by omega) ((hR.pr (by omega) (by omega)).trans (congrArg _ (by omega))) dX4_readPage_121 (by omega) ?_
      have r8 := hW.bd (v + 209)
      refine ri_iconst hx hb dX4_readPage_122 ?_
      refine ri_iadd (z := F (v + 209) + 1) hx hb dX4_readPage_123 rfl ?_
      refine ri_iast hx hb w 10 rfl (by omega) dX4_readPage_124 (by omega) (fun H locs w => ?_)
      have w : Wd g A (st_ws g a (upT (upT (upT T 21 (fun _ => F 8 + 1)) 20 (fun _ => F 7 + 1)) 10 (up (T 10) v (F (v + 209) + 1)))) s H locs := w
      have hR9 : Rel (up (up (up F 8 (F 8 + 1)) 7 (F 7 + 1)) (v + 209) (F (v + 209) + 1)) (upT (upT (upT T 21 (fun _ => F 8 + 1)) 20 (fun _ => F 7 + 1)) 10 (up (T 10) v (F (v + 209) + 1))) := hR7.u10 (x := v) (v := F (v + 209) + 1) (by omega) (by omega)
      have hWc : WF _ (up (up (up F 8 (F 8 + 1)) 7 (F 7 + 1)) (v + 209) (F (v + 209) + 1)) := wf_counts0 hW (by omega) (by omega)
      refine lv_aload_n hx hb dX4_readPage_125 rfl (lv_at hl 1 rfl) ?_
      refine ri_get (v := .ref (a 12)) hx hb hts hown w fX4 0 11 (W0_of k_fl_RX4_49 rfl) rfl rfl (by decide) dX4_readPage_126 ?_
      refine lv_iload_n hx hb dX4_readPage_129 rfl (lv_at hl 2 rfl) ?_
      refine lv_aload_n hx hb dX4_readPage_130 rfl (lv_at hl 1 rfl) ?_
      refine ri_get (v := .ref (a 11)) hx hb hts hown w fX4 0 10 (W0_of k_fl_RX4_43 rfl) rfl rfl (by decide) dX4_readPage_131 ?_
      refine ri_iconst hx hb dX4_readPage_134 ?_
      refine ri_iald (f := T 11) (v := F 4) hx hb w 11 rfl (by omega) ((hR.se (by omega) (by omega)).trans (congrArg _ (by omega))) dX4_readPage_135 (by omega) ?_
      have r10 := hW.bd 4
      refine call_wV (wr := [(a 0, .inr (4, [.ref (a 1), .ref (a 2), .ref (a 3), .ref (a 4), .ref (a 5), .ref (a 6), .ref (a 7), .ref (a 8), .ref (a 9), .ref (a 10), .ref (a 11), .ref (a 12), .ref (a 13), .int (iI (T 18 0)), .int (iI (T 19 0)), .int (iI (F 7 + 1)), .int (iI (F 8 + 1)), .int (iI (T 22 0))])), (a 1, eI g 6 (T 1)), (a 2, eI g 6 (T 2)), (a 3, eZ g 6 (T 3)), (a 4, eI g 6 (T 4)), (a 5, eI g 6 (T 5)), (a 6, eI g 48 (T 6)), (a 7, eI g 48 (T 7)), (a 8, eI g 48 (T 8)), (a 9, eI g 24 (T 9)), (a 10, eI g 24 (up (T 10) v (F (v + 209) + 1))), (a 11, eI g 5 (T 11)), (a 13, .inr (1, [.ref (a 15), .ref (a 16), .ref (a 17), .int (iI (T 24 0))])), (a 15, eI g 8 (T 15)), (a 16, eI g 8 (T 16)), (a 17, eI g 8 (T 17))]) (As := [.int (iI v), .int (iI (F 4))]) (rest := []) hx hb (hml.trans hl.1.symm) hown hts w lk_RX4_209 (fun sz => t_X0_putFirst l g (a 12) (a 14) _ (up (up (up F 8 (F 8 + 1)) 7 (F 7 + 1)) (v + 209) (F (v + 209) + 1)) (T 14) (T 23 0) v (F 4) (hWc) (fun i h0 h1 => hR9.bu h0 h1) (hR9.sz) (by omega) (by first | (rw [up_ne (by omega), up_ne (by omega), up_ne (by omega)]; done) | (rw [up_ne (by omega), up_ne (by omega)])) sz) [12, 14] [0, 1, 2, 3, 4, 5, 6, 7, 8, 9, 10, 11, 13, 15, 16, 17] rfl rfl rfl rfl (by decide) (call_recv w (q0 := 12) rfl fX0.1) rfl rfl (Nat.le_of_ble_eq_true rfl) ⟨Nat.le_of_ble_eq_true rfl, Nat.le_of_ble_eq_true rfl⟩ ⟨Nat.le_of_ble_eq_true rfl, Nat.le_of_ble_eq_true rfl⟩ dX4_readPage_136 (fun v w1 H locs hr w => ?_)
      obtain ⟨rfl, f11, z12, rfl, hf11, hz12⟩ := hr
      have w := w.perm (wc := [(a 0, .inr (4, [.ref (a 1), .ref (a 2), .ref (a 3), .ref (a 4), .ref (a 5), .ref (a 6), .ref (a 7), .ref (a 8), .ref (a 9), .ref (a 10), .ref (a 11), .ref (a 12), .ref (a 13), .int (iI (T 18 0)), .int (iI (T 19 0)), .int (iI (F 7 + 1)), .int (iI (F 8 + 1)), .int (iI (T 22 0))])), (a 1, eI g 6 (T 1)), (a 2, eI g 6 (T 2)), (a 3, eZ g 6 (T 3)), (a 4, eI g 6 (T 4)), (a 5, eI g 6 (T 5)), (a 6, eI g 48 (T 6)), (a 7, eI g 48 (T 7)), (a 8, eI g 48 (T 8)), (a 9, eI g 24 (T 9)), (a 10, eI g 24 (up (T 10) v (F (v + 209) + 1))), (a 11, eI g 5 (T 11)), (a 12, .inr (0, [.ref (a 14), .int (iI z12)])), (a 13, .inr (1, [.ref (a 15), .ref (a 16), .ref (a 17), .int (iI (T 24 0))])), (a 14, eI g 4 f11), (a 15, eI g 8 (T 15)), (a 16, eI g 8 (T 16)), (a 17, eI g 8 (T 17))]) [0, 1, 2, 3, 4, 5, 6, 7, 8, 9, 10, 11, 16, 12, 17, 13, 14, 15] (by decide) rfl
      have w : Wd g A (st_ws g a (upT (upT (upT (upT (upT T 21 (fun _ => F 8 + 1)) 20 (fun _ => F 7 + 1)) 10 (up (T 10) v (F (v + 209) + 1))) 14 f11) 23 (fun _ => z12))) s H locs := w
      have hR13 : Rel (r_fronts (up (up (up F 8 (F 8 + 1)) 7 (F 7 + 1)) (v + 209) (F (v + 209) + 1)) v) (upT (upT (upT (upT (upT T 21 (fun _ => F 8 + 1)) 20 (fun _ => F 7 + 1)) 10 (up (T 10) v (F (v + 209) + 1))) 14 f11) 23 (fun _ => z12)) := rel_buf hR9 hf11 hz12 (fronts_far hWc v)
      refine lv_iload_n hx hb dX4_readPage_139 rfl (lv_at hl 0 rfl) ?_
      exact hend.2 _ _ _ _ ⟨_, rfl, rfl⟩ _ _ dX4_readPage_140 w ⟨(congrArg (fun z => some (Value.int (iI z))) (show 0 = (r_read F v).1 from by unfold r_read; rw [if_neg (by omega), if_pos (by omega)])), (upT (upT (upT (upT (upT T 21 (fun _ => F 8 + 1)) 20 (fun _ => F 7 + 1)) 10 (up (T 10) v (F (v + 209) + 1))) 14 f11) 23 (fun _ => z12)), rfl, fun hcond => (hR13.congr (fun i _ _ => read3_0 hW (by omega) i)).to_eq (by unfold r_read; rw [if_neg (by omega), if_pos (by omega)])⟩
    · refine ri_iconst hx hb dX4_readPage_24 ?_
      refine lv_istore_n (lv' := [(2, .int (iI 1)), (0, .ref (a 0)), (1, .int (iI v))]) hx hb dX4_readPage_25 rfl hl (by decide) rfl (fun ls hl => ?_)
      have hp0 : r_placeOf F v ≠ -5 := by omega
      refine lv_aload_n hx hb dX4_readPage_26 rfl (lv_at hl 1 rfl) ?_
      refine lv_aload_n hx hb dX4_readPage_27 rfl (lv_at hl 1 rfl) ?_
      refine ri_get (v := .ref (a 9)) hx hb hts hown w fX4 0 8 (W0_of k_fl_RX4_37 rfl) rfl rfl (by decide) dX4_readPage_28 ?_
      refine lv_iload_n hx hb dX4_readPage_31 rfl (lv_at hl 2 rfl) ?_
      refine ri_iald (f := T 9) (v := r_placeOf F v) hx hb w 9 rfl (by omega) ((hR.pl (by omega) (by omega)).trans (if_neg hp0)) dX4_readPage_32 (by omega) ?_
      have r14 := placeOf_rg F v
      refine call_rV (As := [.int (iI (r_placeOf F v))]) (rest := []) hx hb (hml.trans hl.1.symm) hown hts w lk_RX4_156 (t_X4_mayRead l g a _ F T (r_placeOf F v) (hW) (hR) (by omega)) [0, 1, 2, 3, 4, 5, 6, 7, 8, 9, 10, 11, 12, 13, 14, 15, 16, 17] rfl rfl (call_recv w (q0 := 0) rfl fX4.1) rfl rfl (Nat.le_of_ble_eq_true rfl) ⟨Nat.le_of_ble_eq_true rfl, Nat.le_of_ble_eq_true rfl⟩ ⟨Nat.le_of_ble_eq_true rfl, Nat.le_of_ble_eq_true rfl⟩ dX4_readPage_33 ?_
      refine ri_ifb_ne (tgt := 82) hx hb dX4_readPage_36 (by decide) (fun c15 => ?_) (fun c15 => ?_)
      · have hWr := wf_reads hW (r := r_placeOf F v) (by omega) (by assumption) (by omega)
        refine lv_aload_n hx hb dX4_readPage_82 rfl (lv_at hl 1 rfl) ?_
        refine lv_aload_n hx hb dX4_readPage_83 rfl (lv_at hl 1 rfl) ?_
        refine ri_get (v := .ref (a 9)) hx hb hts hown w fX4 0 8 (W0_of k_fl_RX4_37 rfl) rfl rfl (by decide) dX4_readPage_84 ?_
        refine lv_iload_n hx hb dX4_readPage_87 rfl (lv_at hl 2 rfl) ?_
        refine ri_iald (f := T 9) (v := r_placeOf F v) hx hb w 9 rfl (by omega) ((hR.pl (by omega) (by omega)).trans (if_neg hp0)) dX4_readPage_88 (by omega) ?_
        refine call_wV (wr := []) (As := [.int (iI (r_placeOf F v))]) (rest := []) hx hb (hml.trans hl.1.symm) hown hts w lk_RX4_159 (fun sz => t_X4_readPlace l g a _ F T (r_placeOf F v) (hW) (hR) (by omega) sz) [0, 1, 2, 3, 4, 5, 6, 7, 8, 9, 10, 11, 12, 13, 14, 15, 16, 17] [] rfl rfl rfl rfl (by decide) (call_recv w (q0 := 0) rfl fX4.1) rfl rfl (Nat.le_of_ble_eq_true rfl) ⟨Nat.le_of_ble_eq_true rfl, Nat.le_of_ble_eq_true rfl⟩ ⟨Nat.le_of_ble_eq_true rfl, Nat.le_of_ble_eq_true rfl⟩ dX4_readPage_89 (fun v w1 H locs hr w => ?_)
        obtain ⟨rfl, T16, rfl, hRT16⟩ := hr
        have w : Wd g A (st_ws g a T16) s H locs := w
        refine lv_goto (tgt := 105) hx hb dX4_readPage_92 (by decide) ?_
        refine lv_aload_n hx hb dX4_readPage_105 rfl (lv_at hl 1 rfl) ?_
        refine lv_dup hx hb dX4_readPage_106 rfl ?_
        refine ri_get (v := .int (iI ((r_reads F (r_placeOf F v)) 7))) hx hb hts hown w fX4 0 15 (W0_of k_fl_RX4_67 rfl) rfl (congrArg (fun z => some (Value.int (iI z))) (hRT16.re)) (by decide) dX4_readPage_107 ?_
        have r17 := hWr.bd 7
        refine ri_iconst hx hb dX4_readPage_110 ?_
        refine ri_iadd (z := (r_reads F (r_placeOf F v)) 7 + 1) hx hb dX4_readPage_111 rfl ?_
        refine ri_put hx hb hts hown w fX4 0 15 (W0_of k_fl_RX4_67 rfl) rfl (Nat.le_of_ble_eq_true rfl) (by decide) rfl rfl rfl dX4_readPage_112 (fun H locs w => ?_)
        have w : Wd g A (st_ws g a (upT T16 20 (fun _ => (r_reads F (r_placeOf F v)) 7 + 1))) s H locs := w
        have hR18 : Rel (up (r_reads F (r_placeOf F v)) 7 ((r_reads F (r_placeOf F v)) 7 + 1)) (upT T16 20 (fun _ => (r_reads F (r_placeOf F v)) 7 + 1)) := hRT16.u20 (v := (r_reads F (r_placeOf F v)) 7 + 1)
        refine lv_aload_n hx hb dX4_readPage_115 rfl (lv_at hl 1 rfl) ?_
        refine ri_get (v := .ref (a 10)) hx hb hts hown w fX4 0 9 (W0_of k_fl_RX4_40 rfl) rfl rfl (by decide) dX4_readPage_116 ?_
        refine lv_iload_n hx hb dX4_readPage_119 rfl (lv_at hl 2 rfl) ?_
        refine lv_dup2_11 hx hb dX4_readPage_120 rfl rfl ?_
        refine ri_iald (f := T16 10) (v := (r_reads F (r_placeOf F v)) (v + 209)) hx hb w 10 rfl (by omega) ((hRT16.pr (by omega) (by omega)).trans (congrArg _ (by omega))) dX4_readPage_121 (by omega) ?_
        have r19 := hWr.bd (v + 209)
        refine ri_iconst hx hb dX4_readPage_122 ?_
        refine ri_iadd (z := (r_reads F (r_placeOf F v)) (v + 209) + 1) hx hb dX4_readPage_123 rfl ?_
        refine ri_iast hx hb w 10 rfl (by omega) dX4_readPage_124 (by omega) (fun H locs w => ?_)
        have w : Wd g A (st_ws g a (upT (upT T16 20 (fun _ => (r_reads F (r_placeOf F v)) 7 + 1)) 10 (up (T16 10) v ((r_reads F (r_placeOf F v)) (v + 209) + 1)))) s H locs := w
        have hR20 : Rel (up (up (r_reads F (r_placeOf F v)) 7 ((r_reads F (r_placeOf F v)) 7 + 1)) (v + 209) ((r_reads F (r_placeOf F v)) (v + 209) + 1)) (upT (upT T16 20 (fun _ => (r_reads F (r_placeOf F v)) 7 + 1)) 10 (up (T16 10) v ((r_reads F (r_placeOf F v)) (v + 209) + 1))) := hR18.u10 (x := v) (v := (r_reads F (r_placeOf F v)) (v + 209) + 1) (by omega) (by omega)
        have hWc : WF _ (up (up (r_reads F (r_placeOf F v)) 7 ((r_reads F (r_placeOf F v)) 7 + 1)) (v + 209) ((r_reads F (r_placeOf F v)) (v + 209) + 1)) := wf_counts1 hWr (by omega) (by omega)
        refine lv_aload_n hx hb dX4_readPage_125 rfl (lv_at hl 1 rfl) ?_
        refine ri_get (v := .ref (a 12)) hx hb hts hown w fX4 0 11 (W0_of k_fl_RX4_49 rfl) rfl rfl (by decide) dX4_readPage_126 ?_
        refine lv_iload_n hx hb dX4_readPage_129 rfl (lv_at hl 2 rfl) ?_
        refine lv_aload_n hx hb dX4_readPage_130 rfl (lv_at hl 1 rfl) ?_
        refine ri_get (v := .ref (a 11)) hx hb hts hown w fX4 0 10 (W0_of k_fl_RX4_43 rfl) rfl rfl (by decide) dX4_readPage_131 ?_
        refine ri_iconst hx hb dX4_readPage_134 ?_
        refine ri_iald (f := T16 11) (v := (r_reads F (r_placeOf F v)) 4) hx hb w 11 rfl (by omega) ((hRT16.se (by omega) (by omega)).trans (congrArg _ (by omega))) dX4_readPage_135 (by omega) ?_
        have r21 := hWr.bd 4
        refine call_wV (wr := [(a 0, .inr (4, [.ref (a 1), .ref (a 2), .ref (a 3), .ref (a 4), .ref (a 5), .ref (a 6), .ref (a 7), .ref (a 8), .ref (a 9), .ref (a 10), .ref (a 11), .ref (a 12), .ref (a 13), .int (iI (T16 18 0)), .int (iI (T16 19 0)), .int (iI ((r_reads F (r_placeOf F v)) 7 + 1)), .int (iI (T16 21 0)), .int (iI (T16 22 0))])), (a 1, eI g 6 (T16 1)), (a 2, eI g 6 (T16 2)), (a 3, eZ g 6 (T16 3)), (a 4, eI g 6 (T16 4)), (a 5, eI g 6 (T16 5)), (a 6, eI g 48 (T16 6)), (a 7, eI g 48 (T16 7)), (a 8, eI g 48 (T16 8)), (a 9, eI g 24 (T16 9)), (a 10, eI g 24 (up (T16 10) v ((r_reads F (r_placeOf F v)) (v + 209) + 1))), (a 11, eI g 5 (T16 11)), (a 13, .inr (1, [.ref (a 15), .ref (a 16), .ref (a 17), .int (iI (T16 24 0))])), (a 15, eI g 8 (T16 15)), (a 16, eI g 8 (T16 16)), (a 17, eI g 8 (T16 17))]) (As := [.int (iI v), .int (iI ((r_reads F (r_placeOf F v)) 4))]) (rest := []) hx hb (hml.trans hl.1.symm) hown hts w lk_RX4_209 (fun sz => t_X0_putFirst l g (a 12) (a 14) _ (up (up (r_reads F (r_placeOf F v)) 7 ((r_reads F (r_placeOf F v)) 7 + 1)) (v + 209) ((r_reads F (r_placeOf F v)) (v + 209) + 1)) (T16 14) (T16 23 0) v ((r_reads F (r_placeOf F v)) 4) (hWc) (fun i h0 h1 => hR20.bu h0 h1) (hR20.sz) (by omega) (by first | (rw [up_ne (by omega), up_ne (by omega), up_ne (by omega)]; done) | (rw [up_ne (by omega), up_ne (by omega)])) sz) [12, 14] [0, 1, 2, 3, 4, 5, 6, 7, 8, 9, 10, 11, 13, 15, 16, 17] rfl rfl rfl rfl (by decide) (call_recv w (q0 := 12) rfl fX0.1) rfl rfl (Nat.le_of_ble_eq_true rfl) ⟨Nat.le_of_ble_eq_true rfl, Nat.le_of_ble_eq_true rfl⟩ ⟨Nat.le_of_ble_eq_true rfl, Nat.le_of_ble_eq_true rfl⟩ dX4_readPage_136 (fun v w1 H locs hr w => ?_)
        obtain ⟨rfl, f22, z23, rfl, hf22, hz23⟩ := hr
        have w := w.perm (wc := [(a 0, .inr (4, [.ref (a 1), .ref (a 2), .ref (a 3), .ref (a 4), .ref (a 5), .ref (a 6), .ref (a 7), .ref (a 8), .ref (a 9), .ref (a 10), .ref (a 11), .ref (a 12), .ref (a 13), .int (iI (T16 18 0)), .int (iI (T16 19 0)), .int (iI ((r_reads F (r_placeOf F v)) 7 + 1)), .int (iI (T16 21 0)), .int (iI (T16 22 0))])), (a 1, eI g 6 (T16 1)), (a 2, eI g 6 (T16 2)), (a 3, eZ g 6 (T16 3)), (a 4, eI g 6 (T16 4)), (a 5, eI g 6 (T16 5)), (a 6, eI g 48 (T16 6)), (a 7, eI g 48 (T16 7)), (a 8, eI g 48 (T16 8)), (a 9, eI g 24 (T16 9)), (a 10, eI g 24 (up (T16 10) v ((r_reads F (r_placeOf F v)) (v + 209) + 1))), (a 11, eI g 5 (T16 11)), (a 12, .inr (0, [.ref (a 14), .int (iI z23)])), (a 13, .inr (1, [.ref (a 15), .ref (a 16), .ref (a 17), .int (iI (T16 24 0))])), (a 14, eI g 4 f22), (a 15, eI g 8 (T16 15)), (a 16, eI g 8 (T16 16)), (a 17, eI g 8 (T16 17))]) [0, 1, 2, 3, 4, 5, 6, 7, 8, 9, 10, 11, 16, 12, 17, 13, 14, 15] (by decide) rfl
        have w : Wd g A (st_ws g a (upT (upT (upT (upT T16 20 (fun _ => (r_reads F (r_placeOf F v)) 7 + 1)) 10 (up (T16 10) v ((r_reads F (r_placeOf F v)) (v + 209) + 1))) 14 f22) 23 (fun _ => z23))) s H locs := w
        have hR24 : Rel (r_fronts (up (up (r_reads F (r_placeOf F v)) 7 ((r_reads F (r_placeOf F v)) 7 + 1)) (v + 209) ((r_reads F (r_placeOf F v)) (v + 209) + 1)) v) (upT (upT (upT (upT T16 20 (fun _ => (r_reads F (r_placeOf F v)) 7 + 1)) 10 (up (T16 10) v ((r_reads F (r_placeOf F v)) (v + 209) + 1))) 14 f22) 23 (fun _ => z23)) := rel_buf hR20 hf22 hz23 (fronts_far hWc v)
        refine lv_iload_n hx hb dX4_readPage_139 rfl (lv_at hl 0 rfl) ?_
        exact hend.2 _ _ _ _ ⟨_, rfl, rfl⟩ _ _ dX4_readPage_140 w ⟨(congrArg (fun z => some (Value.int (iI z))) (show 1 = (r_read F v).1 from by unfold r_read; rw [if_neg (by omega), if_neg (by omega), if_pos (by omega)])), (upT (upT (upT (upT T16 20 (fun _ => (r_reads F (r_placeOf F v)) 7 + 1)) 10 (up (T16 10) v ((r_reads F (r_placeOf F v)) (v + 209) + 1))) 14 f22) 23 (fun _ => z23)), rfl, fun hcond => (hR24.congr (fun i _ _ => read3_1 hWr (by omega) i)).to_eq (by unfold r_read; rw [if_neg (by omega), if_neg (by omega), if_pos (by omega)])⟩
      · refine ri_iconst hx hb dX4_readPage_39 ?_
        refine lv_istore_n (lv' := [(2, .int (iI 2)), (0, .ref (a 0)), (1, .int (iI v))]) hx hb dX4_readPage_40 rfl hl (by decide) rfl (fun ls hl => ?_)
        refine lv_aload_n hx hb dX4_readPage_41 rfl (lv_at hl 1 rfl) ?_
        refine ri_get (v := .ref (a 11)) hx hb hts hown w fX4 0 10 (W0_of k_fl_RX4_43 rfl) rfl rfl (by decide) dX4_readPage_42 ?_
        refine ri_iconst hx hb dX4_readPage_45 ?_
        refine ri_iald (f := T 11) (v := F 5) hx hb w 11 rfl (by omega) ((hR.se (by omega) (by omega)).trans (congrArg _ (by omega))) dX4_readPage_46 (by omega) ?_
        have r25 := hW.bd 5
        refine ri_if_eq (tgt := 79) hx hb dX4_readPage_47 (by decide) (by omega) (fun c26 => ?_) (fun c26 => ?_)
        · refine ri_bipush hx hb dX4_readPage_79 (by decide) ?_
          exact hend.2 _ _ _ _ ⟨_, rfl, rfl⟩ _ _ dX4_readPage_81 w ⟨(congrArg (fun z => some (Value.int (iI z))) (show -4 = (r_read F v).1 from by unfold r_read; rw [if_neg (by omega), if_neg (by omega), if_neg (by omega), if_neg (by omega)])), T, rfl, fun hcond => absurd hcond (by rw [show (r_read F v).1 = -4 from by unfold r_read; rw [if_neg (by omega), if_neg (by omega), if_neg (by omega), if_neg (by omega)]]; omega)⟩
        · refine lv_aload_n hx hb dX4_readPage_50 rfl (lv_at hl 1 rfl) ?_
          refine lv_aload_n hx hb dX4_readPage_51 rfl (lv_at hl 1 rfl) ?_
          refine ri_get (v := .ref (a 9)) hx hb hts hown w fX4 0 8 (W0_of k_fl_RX4_37 rfl) rfl rfl (by decide) dX4_readPage_52 ?_
          refine lv_iload_n hx hb dX4_readPage_55 rfl (lv_at hl 2 rfl) ?_
          refine ri_iald (f := T 9) (v := r_placeOf F v) hx hb w 9 rfl (by omega) ((hR.pl (by omega) (by omega)).trans (if_neg hp0)) dX4_readPage_56 (by omega) ?_
          refine ri_bipush hx hb dX4_readPage_57 (by decide) ?_
          refine ri_idiv (z := (r_placeOf F v / 8)) hx hb dX4_readPage_59 (by omega) (by omega) rfl ?_
          refine call_wV (wr := []) (As := [.int (iI (r_placeOf F v / 8))]) (rest := []) hx hb (hml.trans hl.1.symm) hown hts w lk_RX4_206 (fun sz => t_X4_moveWhole l g a _ F T (r_placeOf F v / 8) (hW) (hR) (by omega) (by omega) sz) [0, 1, 2, 3, 4, 5, 6, 7, 8, 9, 10, 11, 12, 13, 14, 15, 16, 17] [] rfl rfl rfl rfl (by decide) (call_recv w (q0 := 0) rfl fX4.1) rfl rfl (Nat.le_of_ble_eq_true rfl) ⟨Nat.le_of_ble_eq_true rfl, Nat.le_of_ble_eq_true rfl⟩ ⟨Nat.le_of_ble_eq_true rfl, Nat.le_of_ble_eq_true rfl⟩ dX4_readPage_60 (fun v w1 H locs hr w => ?_)
          obtain ⟨rfl, T27, rfl, hRT27⟩ := hr
          have w : Wd g A (st_ws g a T27) s H locs := w
          have r28 := all_rg hW (r_placeOf F v / 8)
          refine ri_if_lt (tgt := 79) hx hb dX4_readPage_63 (by decide) (by omega) (fun c29 => ?_) (fun c29 => ?_)
          · refine ri_bipush hx hb dX4_readPage_79 (by decide) ?_
            exact hend.2 _ _ _ _ ⟨_, rfl, rfl⟩ _ _ dX4_readPage_81 w ⟨(congrArg (fun z => some (Value.int (iI z))) (show -4 = (r_read F v).1 from by unfold r_read; rw [if_neg (by omega), if_neg (by omega), if_neg (by omega), if_neg (by omega)])), T27, rfl, fun hcond => absurd hcond (by rw [show (r_read F v).1 = -4 from by unfold r_read; rw [if_neg (by omega), if_neg (by omega), if_neg (by omega), if_neg (by omega)]]; omega)⟩
          · have hRa : Rel (r_all F (r_placeOf F v / 8)).2 T27 := hRT27 (by omega)
            have hWa : WF (N + 20) (r_all F (r_placeOf F v / 8)).2 := wf_all hW (by omega) (by omega) (by omega)
            have hp2 := all_place hW (b := r_placeOf F v / 8) (v := v) (by omega) (by omega) (by omega) (by omega)
            have hpo2 := placeOf_rg (r_all F (r_placeOf F v / 8)).2 v
            refine lv_aload_n hx hb dX4_readPage_66 rfl (lv_at hl 1 rfl) ?_
            refine lv_aload_n hx hb dX4_readPage_67 rfl (lv_at hl 1 rfl) ?_
            refine ri_get (v := .ref (a 9)) hx hb hts hown w fX4 0 8 (W0_of k_fl_RX4_37 rfl) rfl rfl (by decide) dX4_readPage_68 ?_
            refine lv_iload_n hx hb dX4_readPage_71 rfl (lv_at hl 2 rfl) ?_
            refine ri_iald (f := T27 9) (v := r_placeOf (r_all F (r_placeOf F v / 8)).2 v) hx hb w 9 rfl (by omega) ((hRa.pl (by omega) (by omega)).trans (if_neg hp2)) dX4_readPage_72 (by omega) ?_
            have r30 := placeOf_rg (r_all F (r_placeOf F v / 8)).2 v
            refine call_rV (As := [.int (iI (r_placeOf (r_all F (r_placeOf F v / 8)).2 v))]) (rest := []) hx hb (hml.trans hl.1.symm) hown hts w lk_RX4_156 (t_X4_mayRead l g a _ (r_all F (r_placeOf F v / 8)).2 T27 (r_placeOf (r_all F (r_placeOf F v / 8)).2 v) (hWa) (hRa) (by omega)) [0, 1, 2, 3, 4, 5, 6, 7, 8, 9, 10, 11, 12, 13, 14, 15, 16, 17] rfl rfl (call_recv w (q0 := 0) rfl fX4.1) rfl rfl (Nat.le_of_ble_eq_true rfl) ⟨Nat.le_of_ble_eq_true rfl, Nat.le_of_ble_eq_true rfl⟩ ⟨Nat.le_of_ble_eq_true rfl, Nat.le_of_ble_eq_true rfl⟩ dX4_readPage_73 ?_
            refine ri_ifb_ne (tgt := 82) hx hb dX4_readPage_76 (by decide) (fun c31 => ?_) (fun c31 => ?_)
            · have hlr := left_rg (r_all F (r_placeOf F v / 8)).2 (r_placeOf (r_all F (r_placeOf F v / 8)).2 v)
              have hWr := wf_reads hWa (r := (r_placeOf (r_all F (r_placeOf F v / 8)).2 v)) (by omega) (by assumption) (by omega)
              refine lv_aload_n hx hb dX4_readPage_82 rfl (lv_at hl 1 rfl) ?_
              refine lv_aload_n hx hb dX4_readPage_83 rfl (lv_at hl 1 rfl) ?_
              refine ri_get (v := .ref (a 9)) hx hb hts hown w fX4 0 8 (W0_of k_fl_RX4_37 rfl) rfl rfl (by decide) dX4_readPage_84 ?_
              refine lv_iload_n hx hb dX4_readPage_87 rfl (lv_at hl 2 rfl) ?_
              refine ri_iald (f := T27 9) (v := r_placeOf (r_all F (r_placeOf F v / 8)).2 v) hx hb w 9 rfl (by omega) ((hRa.pl (by omega) (by omega)).trans (if_neg hp2)) dX4_readPage_88 (by omega) ?_
              refine call_wV (wr := []) (As := [.int (iI (r_placeOf (r_all F (r_placeOf F v / 8)).2 v))]) (rest := []) hx hb (hml.trans hl.1.symm) hown hts w lk_RX4_159 (fun sz => t_X4_readPlace l g a _ (r_all F (r_placeOf F v / 8)).2 T27 (r_placeOf (r_all F (r_placeOf F v / 8)).2 v) (hWa) (hRa) (by omega) sz) [0, 1, 2, 3, 4, 5, 6, 7, 8, 9, 10, 11, 12, 13, 14, 15, 16, 17] [] rfl rfl rfl rfl (by decide) (call_recv w (q0 := 0) rfl fX4.1) rfl rfl (Nat.le_of_ble_eq_true rfl) ⟨Nat.le_of_ble_eq_true rfl, Nat.le_of_ble_eq_true rfl⟩ ⟨Nat.le_of_ble_eq_true rfl, Nat.le_of_ble_eq_true rfl⟩ dX4_readPage_89 (fun v w1 H locs hr w => ?_)
              obtain ⟨rfl, T32, rfl, hRT32⟩ := hr
              have w : Wd g A (st_ws g a T32) s H locs := w
              refine lv_goto (tgt := 105) hx hb dX4_readPage_92 (by decide) ?_
              refine lv_aload_n hx hb dX4_readPage_105 rfl (lv_at hl 1 rfl) ?_
              refine lv_dup hx hb dX4_readPage_106 rfl ?_
              refine ri_get (v := .int (iI ((r_reads (r_all F (r_placeOf F v / 8)).2 (r_placeOf (r_all F (r_placeOf F v / 8)).2 v)) 7))) hx hb hts hown w fX4 0 15 (W0_of k_fl_RX4_67 rfl) rfl (congrArg (fun z => some (Value.int (iI z))) (hRT32.re)) (by decide) dX4_readPage_107 ?_
              have r33 := hWr.bd 7
              refine ri_iconst hx hb dX4_readPage_110 ?_
              refine ri_iadd (z := (r_reads (r_all F (r_placeOf F v / 8)).2 (r_placeOf (r_all F (r_placeOf F v / 8)).2 v)) 7 + 1) hx hb dX4_readPage_111 rfl ?_
              refine ri_put hx hb hts hown w fX4 0 15 (W0_of k_fl_RX4_67 rfl) rfl (Nat.le_of_ble_eq_true rfl) (by decide) rfl rfl rfl dX4_readPage_112 (fun H locs w => ?_)
              have w : Wd g A (st_ws g a (upT T32 20 (fun _ => (r_reads (r_all F (r_placeOf F v / 8)).2 (r_placeOf (r_all F (r_placeOf F v / 8)).2 v)) 7 + 1))) s H locs := w
              have hR34 : Rel (up (r_reads (r_all F (r_placeOf F v / 8)).2 (r_placeOf (r_all F (r_placeOf F v / 8)).2 v)) 7 ((r_reads (r_all F (r_placeOf F v / 8)).2 (r_placeOf (r_all F (r_placeOf F v / 8)).2 v)) 7 + 1)) (upT T32 20 (fun _ => (r_reads (r_all F (r_placeOf F v / 8)).2 (r_placeOf (r_all F (r_placeOf F v / 8)).2 v)) 7 + 1)) := hRT32.u20 (v := (r_reads (r_all F (r_placeOf F v / 8)).2 (r_placeOf (r_all F (r_placeOf F v / 8)).2 v)) 7 + 1)
              refine lv_aload_n hx hb dX4_readPage_115 rfl (lv_at hl 1 rfl) ?_
              refine ri_get (v := .ref (a 10)) hx hb hts hown w fX4 0 9 (W0_of k_fl_RX4_40 rfl) rfl rfl (by decide) dX4_readPage_116 ?_
              refine lv_iload_n hx hb dX4_readPage_119 rfl (lv_at hl 2 rfl) ?_
              refine lv_dup2_11 hx hb dX4_readPage_120 rfl rfl ?_
              refine ri_iald (f := T32 10) (v := (r_reads (r_all F (r_placeOf F v / 8)).2 (r_placeOf (r_all F (r_placeOf F v / 8)).2 v)) (v + 209)) hx hb w 10 rfl (by omega) ((hRT32.pr (by omega) (by omega)).trans (congrArg _ (by omega))) dX4_readPage_121 (by omega) ?_
              have r35 := hWr.bd (v + 209)
              refine ri_iconst hx hb dX4_readPage_122 ?_
              refine ri_iadd (z := (r_reads (r_all F (r_placeOf F v / 8)).2 (r_placeOf (r_all F (r_placeOf F v / 8)).2 v)) (v + 209) + 1) hx hb dX4_readPage_123 rfl ?_
              refine ri_iast hx hb w 10 rfl (by omega) dX4_readPage_124 (by omega) (fun H locs w => ?_)
              have w : Wd g A (st_ws g a (upT (upT T32 20 (fun _ => (r_reads (r_all F (r_placeOf F v / 8)).2 (r_placeOf (r_all F (r_placeOf F v / 8)).2 v)) 7 + 1)) 10 (up (T32 10) v ((r_reads (r_all F (r_placeOf F v / 8)).2 (r_placeOf (r_all F (r_placeOf F v / 8)).2 v)) (v + 209) + 1)))) s H locs := w
              have hR36 : Rel (up (up (r_reads (r_all F (r_placeOf F v / 8)).2 (r_placeOf (r_all F (r_placeOf F v / 8)).2 v)) 7 ((r_reads (r_all F (r_placeOf F v / 8)).2 (r_placeOf (r_all F (r_placeOf F v / 8)).2 v)) 7 + 1)) (v + 209) ((r_reads (r_all F (r_placeOf F v / 8)).2 (r_placeOf (r_all F (r_placeOf F v / 8)).2 v)) (v + 209) + 1)) (upT (upT T32 20 (fun _ => (r_reads (r_all F (r_placeOf F v / 8)).2 (r_placeOf (r_all F (r_placeOf F v / 8)).2 v)) 7 + 1)) 10 (up (T32 10) v ((r_reads (r_all F (r_placeOf F v / 8)).2 (r_placeOf (r_all F (r_placeOf F v / 8)).2 v)) (v + 209) + 1))) := hR34.u10 (x := v) (v := (r_reads (r_all F (r_placeOf F v / 8)).2 (r_placeOf (r_all F (r_placeOf F v / 8)).2 v)) (v + 209) + 1) (by omega) (by omega)
              have hWc : WF _ (up (up (r_reads (r_all F (r_placeOf F v / 8)).2 (r_placeOf (r_all F (r_placeOf F v / 8)).2 v)) 7 ((r_reads (r_all F (r_placeOf F v / 8)).2 (r_placeOf (r_all F (r_placeOf F v / 8)).2 v)) 7 + 1)) (v + 209) ((r_reads (r_all F (r_placeOf F v / 8)).2 (r_placeOf (r_all F (r_placeOf F v / 8)).2 v)) (v + 209) + 1)) := wf_counts1 hWr (by omega) (by omega)
              refine lv_aload_n hx hb dX4_readPage_125 rfl (lv_at hl 1 rfl) ?_
              refine ri_get (v := .ref (a 12)) hx hb hts hown w fX4 0 11 (W0_of k_fl_RX4_49 rfl) rfl rfl (by decide) dX4_readPage_126 ?_
              refine lv_iload_n hx hb dX4_readPage_129 rfl (lv_at hl 2 rfl) ?_
              refine lv_aload_n hx hb dX4_readPage_130 rfl (lv_at hl 1 rfl) ?_
              refine ri_get (v := .ref (a 11)) hx hb hts hown w fX4 0 10 (W0_of k_fl_RX4_43 rfl) rfl rfl (by decide) dX4_readPage_131 ?_
              refine ri_iconst hx hb dX4_readPage_134 ?_
              refine ri_iald (f := T32 11) (v := (r_reads (r_all F (r_placeOf F v / 8)).2 (r_placeOf (r_all F (r_placeOf F v / 8)).2 v)) 4) hx hb w 11 rfl (by omega) ((hRT32.se (by omega) (by omega)).trans (congrArg _ (by omega))) dX4_readPage_135 (by omega) ?_
              have r37 := hWr.bd 4
              refine call_wV (wr := [(a 0, .inr (4, [.ref (a 1), .ref (a 2), .ref (a 3), .ref (a 4), .ref (a 5), .ref (a 6), .ref (a 7), .ref (a 8), .ref (a 9), .ref (a 10), .ref (a 11), .ref (a 12), .ref (a 13), .int (iI (T32 18 0)), .int (iI (T32 19 0)), .int (iI ((r_reads (r_all F (r_placeOf F v / 8)).2 (r_placeOf (r_all F (r_placeOf F v / 8)).2 v)) 7 + 1)), .int (iI (T32 21 0)), .int (iI (T32 22 0))])), (a 1, eI g 6 (T32 1)), (a 2, eI g 6 (T32 2)), (a 3, eZ g 6 (T32 3)), (a 4, eI g 6 (T32 4)), (a 5, eI g 6 (T32 5)), (a 6, eI g 48 (T32 6)), (a 7, eI g 48 (T32 7)), (a 8, eI g 48 (T32 8)), (a 9, eI g 24 (T32 9)), (a 10, eI g 24 (up (T32 10) v ((r_reads (r_all F (r_placeOf F v / 8)).2 (r_placeOf (r_all F (r_placeOf F v / 8)).2 v)) (v + 209) + 1))), (a 11, eI g 5 (T32 11)), (a 13, .inr (1, [.ref (a 15), .ref (a 16), .ref (a 17), .int (iI (T32 24 0))])), (a 15, eI g 8 (T32 15)), (a 16, eI g 8 (T32 16)), (a 17, eI g 8 (T32 17))]) (As := [.int (iI v), .int (iI ((r_reads (r_all F (r_placeOf F v / 8)).2 (r_placeOf (r_all F (r_placeOf F v / 8)).2 v)) 4))]) (rest := []) hx hb (hml.trans hl.1.symm) hown hts w lk_RX4_209 (fun sz => t_X0_putFirst l g (a 12) (a 14) _ (up (up (r_reads (r_all F (r_placeOf F v / 8)).2 (r_placeOf (r_all F (r_placeOf F v / 8)).2 v)) 7 ((r_reads (r_all F (r_placeOf F v / 8)).2 (r_placeOf (r_all F (r_placeOf F v / 8)).2 v)) 7 + 1)) (v + 209) ((r_reads (r_all F (r_placeOf F v / 8)).2 (r_placeOf (r_all F (r_placeOf F v / 8)).2 v)) (v + 209) + 1)) (T32 14) (T32 23 0) v ((r_reads (r_all F (r_placeOf F v / 8)).2 (r_placeOf (r_all F (r_placeOf F v / 8)).2 v)) 4) (hWc) (fun i h0 h1 => hR36.bu h0 h1) (hR36.sz) (by omega) (by first | (rw [up_ne (by omega), up_ne (by omega), up_ne (by omega)]; done) | (rw [up_ne (by omega), up_ne (by omega)])) sz) [12, 14] [0, 1, 2, 3, 4, 5, 6, 7, 8, 9, 10, 11, 13, 15, 16, 17] rfl rfl rfl rfl (by decide) (call_recv w (q0 := 12) rfl fX0.1) rfl rfl (Nat.le_of_ble_eq_true rfl) ⟨Nat.le_of_ble_eq_true rfl, Nat.le_of_ble_eq_true rfl⟩ ⟨Nat.le_of_ble_eq_true rfl, Nat.le_of_ble_eq_true rfl⟩ dX4_readPage_136 (fun v w1 H locs hr w => ?_)
              obtain ⟨rfl, f38, z39, rfl, hf38, hz39⟩ := hr
              have w := w.perm (wc := [(a 0, .inr (4, [.ref (a 1), .ref (a 2), .ref (a 3), .ref (a 4), .ref (a 5), .ref (a 6), .ref (a 7), .ref (a 8), .ref (a 9), .ref (a 10), .ref (a 11), .ref (a 12), .ref (a 13), .int (iI (T32 18 0)), .int (iI (T32 19 0)), .int (iI ((r_reads (r_all F (r_placeOf F v / 8)).2 (r_placeOf (r_all F (r_placeOf F v / 8)).2 v)) 7 + 1)), .int (iI (T32 21 0)), .int (iI (T32 22 0))])), (a 1, eI g 6 (T32 1)), (a 2, eI g 6 (T32 2)), (a 3, eZ g 6 (T32 3)), (a 4, eI g 6 (T32 4)), (a 5, eI g 6 (T32 5)), (a 6, eI g 48 (T32 6)), (a 7, eI g 48 (T32 7)), (a 8, eI g 48 (T32 8)), (a 9, eI g 24 (T32 9)), (a 10, eI g 24 (up (T32 10) v ((r_reads (r_all F (r_placeOf F v / 8)).2 (r_placeOf (r_all F (r_placeOf F v / 8)).2 v)) (v + 209) + 1))), (a 11, eI g 5 (T32 11)), (a 12, .inr (0, [.ref (a 14), .int (iI z39)])), (a 13, .inr (1, [.ref (a 15), .ref (a 16), .ref (a 17), .int (iI (T32 24 0))])), (a 14, eI g 4 f38), (a 15, eI g 8 (T32 15)), (a 16, eI g 8 (T32 16)), (a 17, eI g 8 (T32 17))]) [0, 1, 2, 3, 4, 5, 6, 7, 8, 9, 10, 11, 16, 12, 17, 13, 14, 15] (by decide) rfl
              have w : Wd g A (st_ws g a (upT (upT (upT (upT T32 20 (fun _ => (r_reads (r_all F (r_placeOf F v / 8)).2 (r_placeOf (r_all F (r_placeOf F v / 8)).2 v)) 7 + 1)) 10 (up (T32 10) v ((r_reads (r_all F (r_placeOf F v / 8)).2 (r_placeOf (r_all F (r_placeOf F v / 8)).2 v)) (v + 209) + 1))) 14 f38) 23 (fun _ => z39))) s H locs := w
              have hR40 : Rel (r_fronts (up (up (r_reads (r_all F (r_placeOf F v / 8)).2 (r_placeOf (r_all F (r_placeOf F v / 8)).2 v)) 7 ((r_reads (r_all F (r_placeOf F v / 8)).2 (r_placeOf (r_all F (r_placeOf F v / 8)).2 v)) 7 + 1)) (v + 209) ((r_reads (r_all F (r_placeOf F v / 8)).2 (r_placeOf (r_all F (r_placeOf F v / 8)).2 v)) (v + 209) + 1)) v) (upT (upT (upT (upT T32 20 (fun _ => (r_reads (r_all F (r_placeOf F v / 8)).2 (r_placeOf (r_all F (r_placeOf F v / 8)).2 v)) 7 + 1)) 10 (up (T32 10) v ((r_reads (r_all F (r_placeOf F v / 8)).2 (r_placeOf (r_all F (r_placeOf F v / 8)).2 v)) (v + 209) + 1))) 14 f38) 23 (fun _ => z39)) := rel_buf hR36 hf38 hz39 (fronts_far hWc v)
              refine lv_iload_n hx hb dX4_readPage_139 rfl (lv_at hl 0 rfl) ?_
              exact hend.2 _ _ _ _ ⟨_, rfl, rfl⟩ _ _ dX4_readPage_140 w ⟨(congrArg (fun z => some (Value.int (iI z))) (show 2 = (r_read F v).1 from by unfold r_read; rw [if_neg (by omega), if_neg (by omega), if_neg (by omega), if_pos (by omega)])), (upT (upT (upT (upT T32 20 (fun _ => (r_reads (r_all F (r_placeOf F v / 8)).2 (r_placeOf (r_all F (r_placeOf F v / 8)).2 v)) 7 + 1)) 10 (up (T32 10) v ((r_reads (r_all F (r_placeOf F v / 8)).2 (r_placeOf (r_all F (r_placeOf F v / 8)).2 v)) (v + 209) + 1))) 14 f38) 23 (fun _ => z39)), rfl, fun hcond => (hR40.congr (fun i _ _ => read3_2 hWr (by omega) i)).to_eq (by unfold r_read; rw [if_neg (by omega), if_neg (by omega), if_neg (by omega), if_pos (by omega)])⟩
            · refine ri_bipush hx hb dX4_readPage_79 (by decide) ?_
              exact hend.2 _ _ _ _ ⟨_, rfl, rfl⟩ _ _ dX4_readPage_81 w ⟨(congrArg (fun z => some (Value.int (iI z))) (show -4 = (r_read F v).1 from by unfold r_read; rw [if_neg (by omega), if_neg (by omega), if_neg (by omega), if_neg (by omega)])), T27, rfl, fun hcond => absurd hcond (by rw [show (r_read F v).1 = -4 from by unfold r_read; rw [if_neg (by omega), if_neg (by omega), if_neg (by omega), if_neg (by omega)]]; omega)⟩
  · refine ri_iconst hx hb dX4_readPage_8 ?_
    exact hend.2 _ _ _ _ ⟨_, rfl, rfl⟩ _ _ dX4_readPage_9 w ⟨(congrArg (fun z => some (Value.int (iI z))) (show -1 = (r_read F v).1 from by unfold r_read; rw [if_pos (by omega)])), T, rfl, fun hcond => absurd hcond (by rw [show (r_read F v).1 = -1 from by unfold r_read; rw [if_pos (by omega)]]; omega)⟩
