set_option maxHeartbeats 4000000 in
set_option maxRecDepth 100000 in
theorem t_X4_changeSetting (l : Launch) (g : GG) (a : Nat → Nat) (N : Int) (F : Int → Int) (T : Nat → Int → Int) (v : Int) (u : Int) (hW : WF N F) (hR : Rel F T) (h1 : -2147483648 ≤ v ∧ v ≤ 2147483647) (h2 : -2147483648 ≤ u ∧ u ≤ 2147483647) (sz : Nat) : Met l yX4_changeSetting (wm yX4_changeSetting cX4_changeSetting 4 (some .int)) (rmm 2 0 0) (pW g (st_ws g a T) sz [.ref (a 0), .int (iI v), .int (iI u)]) (qW g (st_ws g a T) (fun vv ww => vv = some (.int (iI (k_set F v u).1)) ∧ ∃ T' : Nat → Int → Int, ww = st_ws g a T' ∧ (0 ≤ (k_set F v u).1 → Rel (k_set F v u).2 T'))) 0 0 (va_A (st_ws g a T) sz) := by
  have hs := hW.se
  refine met_w (by decide) (Nat.le_of_ble_eq_true rfl) ?_
  intro p e s m args below meth c Q ls A hx hb hml hown hts hl w hin hend
  obtain ⟨H, hH0⟩ : ∃ H, H = s.heap := ⟨_, rfl⟩
  obtain ⟨locs, hL0⟩ : ∃ locs : List Loc, locs = [] := ⟨_, rfl⟩
  rw [← hH0, ← hL0] at w
  rw [← hH0, ← hL0]
  have hl : lv_has ls 4 [(0, .ref (a 0)), (1, .int (iI v)), (2, .int (iI u))] := hl
  refine lv_iload_n hx hb dX4_changeSetting_0 rfl (lv_at hl 1 rfl) ?_
  refine call_rN (As := [.int (iI v)]) (rest := []) hx hb (hml.trans hl.1.symm) hown hts w lk_RX4_179 (t_X5_isSetting l g v (by omega)) [] rfl rfl rfl rfl (Nat.le_of_ble_eq_true rfl) ⟨Nat.le_of_ble_eq_true rfl, Nat.le_of_ble_eq_true rfl⟩ ⟨Nat.le_of_ble_eq_true rfl, Nat.le_of_ble_eq_true rfl⟩ dX4_changeSetting_1 ?_
  refine ri_ifb_ne (tgt := 9) hx hb dX4_changeSetting_4 (by decide) (fun c1 => ?_) (fun c1 => ?_)
  · have hso := set_stf (u := u) (v := v) (by omega)
    refine lv_iload_n hx hb dX4_changeSetting_9 rfl (lv_at hl 2 rfl) ?_
    refine ri_gets (own := RX4) hx hb hown w 2 (by decide) (by simp [NNl, stn]) dX4_changeSetting_10 ?_
    refine lv_iload_n hx hb dX4_changeSetting_13 rfl (lv_at hl 1 rfl) ?_
    refine ri_tld (v := stf 2 v) hx hb w 2 (by decide) (n := 5) rfl (by omega) (by decide) rfl dX4_changeSetting_14 ?_
    have r2 := stf_rg 2 v
    refine ri_icmp_lt (tgt := 27) hx hb dX4_changeSetting_15 (by decide) (by omega) (by omega) (fun c3 => ?_) (fun c3 => ?_)
    · refine ri_bipush hx hb dX4_changeSetting_27 (by decide) ?_
      exact hend.2 _ _ _ _ ⟨_, rfl, rfl⟩ _ _ dX4_changeSetting_29 w ⟨(congrArg (fun z => some (Value.int (iI z))) (show -2 = (k_set F v u).1 from by unfold k_set; rw [if_neg (by first | omega | assumption | (intro hh; exact hh (by assumption))), if_pos (by first | omega | assumption | (intro hh; exact absurd hh (by assumption)))])), T, rfl, fun hcond => absurd hcond (by rw [show (k_set F v u).1 = -2 from by unfold k_set; rw [if_neg (by first | omega | assumption | (intro hh; exact hh (by assumption))), if_pos (by first | omega | assumption | (intro hh; exact absurd hh (by assumption)))]]; omega)⟩
    · refine lv_iload_n hx hb dX4_changeSetting_18 rfl (lv_at hl 2 rfl) ?_
      refine ri_gets (own := RX4) hx hb hown w 3 (by decide) (by simp [NNl, stn]) dX4_changeSetting_19 ?_
      refine lv_iload_n hx hb dX4_changeSetting_22 rfl (lv_at hl 1 rfl) ?_
      refine ri_tld (v := stf 3 v) hx hb w 3 (by decide) (n := 5) rfl (by omega) (by decide) rfl dX4_changeSetting_23 ?_
      have r4 := stf_rg 3 v
      refine ri_icmp_le (tgt := 30) hx hb dX4_changeSetting_24 (by decide) (by omega) (by omega) (fun c5 => ?_) (fun c5 => ?_)
      · refine lv_aload_n hx hb dX4_changeSetting_30 rfl (lv_at hl 0 rfl) ?_
        refine ri_get (v := .ref (a 11)) hx hb hts hown w fX4 0 10 (W0_of k_fl_RX4_43 rfl) rfl rfl (by decide) dX4_changeSetting_31 ?_
        refine lv_iload_n hx hb dX4_changeSetting_34 rfl (lv_at hl 1 rfl) ?_
        refine ri_iald (f := T 11) (v := F (v + 1)) hx hb w 11 rfl (by omega) ((hR.se (by omega) (by omega)).trans (congrArg _ (by omega))) dX4_changeSetting_35 (by omega) ?_
        have r6 := hW.bd (v + 1)
        refine lv_istore_n (lv' := [(3, .int (iI (F (v + 1)))), (0, .ref (a 0)), (1, .int (iI v)), (2, .int (iI u))]) hx hb dX4_changeSetting_36 rfl hl (by decide) rfl (fun ls hl => ?_)
        refine lv_iload_n hx hb dX4_changeSetting_37 rfl (lv_at hl 0 rfl) ?_
        refine lv_iload_n hx hb dX4_changeSetting_38 rfl (lv_at hl 3 rfl) ?_
        refine ri_icmp_ne (tgt := 45) hx hb dX4_changeSetting_39 (by decide) (by omega) (by omega) (fun c7 => ?_) (fun c7 => ?_)
        · have hso1 : S_ok v u := hso.mpr (by omega)
          have hs3 : -300000000 ≤ up (T 11) v u 3 ∧ up (T 11) v u 3 ≤ 300000000 := set3_rg hW hR
          refine lv_aload_n hx hb dX4_changeSetting_45 rfl (lv_at hl 1 rfl) ?_
          refine ri_get (v := .ref (a 11)) hx hb hts hown w fX4 0 10 (W0_of k_fl_RX4_43 rfl) rfl rfl (by decide) dX4_changeSetting_46 ?_
          refine lv_iload_n hx hb dX4_changeSetting_49 rfl (lv_at hl 2 rfl) ?_
          refine lv_iload_n hx hb dX4_changeSetting_50 rfl (lv_at hl 3 rfl) ?_
          refine ri_iast hx hb w 11 rfl (by omega) dX4_changeSetting_51 (by omega) (fun H locs w => ?_)
          have w : Wd g A (st_ws g a (upT T 11 (up (T 11) v u))) s H locs := w
          have hR8 : Rel (up F (v + 1) u) (upT T 11 (up (T 11) v u)) := hR.u11 (x := v) (v := u) (by omega) (by omega)
          refine lv_aload_n hx hb dX4_changeSetting_52 rfl (lv_at hl 1 rfl) ?_
          refine ri_get (v := .ref (a 12)) hx hb hts hown w fX4 0 11 (W0_of k_fl_RX4_49 rfl) rfl rfl (by decide) dX4_changeSetting_53 ?_
          refine lv_aload_n hx hb dX4_changeSetting_56 rfl (lv_at hl 1 rfl) ?_
          refine ri_get (v := .ref (a 11)) hx hb hts hown w fX4 0 10 (W0_of k_fl_RX4_43 rfl) rfl rfl (by decide) dX4_changeSetting_57 ?_
          refine ri_iconst hx hb dX4_changeSetting_60 ?_
          refine ri_iald (f := up (T 11) v u) (v := (up (T 11) v u) 3) hx hb w 11 rfl (by omega) (rfl) dX4_changeSetting_61 (by omega) ?_
          have r9 := hW.bd 11
          refine call_wV (wr := [(a 0, .inr (4, [.ref (a 1), .ref (a 2), .ref (a 3), .ref (a 4), .ref (a 5), .ref (a 6), .ref (a 7), .ref (a 8), .ref (a 9), .ref (a 10), .ref (a 11), .ref (a 12), .ref (a 13), .int (iI (T 18 0)), .int (iI (T 19 0)), .int (iI (T 20 0)), .int (iI (T 21 0)), .int (iI (T 22 0))])), (a 1, eI g 6 (T 1)), (a 2, eI g 6 (T 2)), (a 3, eZ g 6 (T 3)), (a 4, eI g 6 (T 4)), (a 5, eI g 6 (T 5)), (a 6, eI g 48 (T 6)), (a 7, eI g 48 (T 7)), (a 8, eI g 48 (T 8)), (a 9, eI g 24 (T 9)), (a 10, eI g 24 (T 10)), (a 11, eI g 5 (up (T 11) v u)), (a 13, .inr (1, [.ref (a 15), .ref (a 16), .ref (a 17), .int (iI (T 24 0))])), (a 15, eI g 8 (T 15)), (a 16, eI g 8 (T 16)), (a 17, eI g 8 (T 17))]) (As := [.int (iI ((up (T 11) v u) 3))]) (rest := []) hx hb (hml.trans hl.1.symm) hown hts w lk_RX4_188 (fun sz => t_X0_shrinkTo l g (a 12) (a 14) (T 14) (T 23 0) ((up (T 11) v u) 3) (by rw [show T 23 0 = F 11 from hR.sz]; omega) (by omega) sz) [12, 14] [0, 1, 2, 3, 4, 5, 6, 7, 8, 9, 10, 11, 13, 15, 16, 17] rfl rfl rfl rfl (by decide) (call_recv w (q0 := 12) rfl fX0.1) rfl rfl (Nat.le_of_ble_eq_true rfl) ⟨Nat.le_of_ble_eq_true rfl, Nat.le_of_ble_eq_true rfl⟩ ⟨Nat.le_of_ble_eq_true rfl, Nat.le_of_ble_eq_true rfl⟩ dX4_changeSetting_62 (fun v w1 H locs hr w => ?_)
          obtain ⟨rfl, rfl⟩ := hr
          have w := w.perm (wc := [(a 0, .inr (4, [.ref (a 1), .ref (a 2), .ref (a 3), .ref (a 4), .ref (a 5), .ref (a 6), .ref (a 7), .ref (a 8), .ref (a 9), .ref (a 10), .ref (a 11), .ref (a 12), .ref (a 13), .int (iI (T 18 0)), .int (iI (T 19 0)), .int (iI (T 20 0)), .int (iI (T 21 0)), .int (iI (T 22 0))])), (a 1, eI g 6 (T 1)), (a 2, eI g 6 (T 2)), (a 3, eZ g 6 (T 3)), (a 4, eI g 6 (T 4)), (a 5, eI g 6 (T 5)), (a 6, eI g 48 (T 6)), (a 7, eI g 48 (T 7)), (a 8, eI g 48 (T 8)), (a 9, eI g 24 (T 9)), (a 10, eI g 24 (T 10)), (a 11, eI g 5 (up (T 11) v u)), (a 12, .inr (0, [.ref (a 14), .int (iI (if (up (T 11) v u) 3 < T 23 0 then (up (T 11) v u) 3 else T 23 0))])), (a 13, .inr (1, [.ref (a 15), .ref (a 16), .ref (a 17), .int (iI (T 24 0))])), (a 14, eI g 4 (T 14)), (a 15, eI g 8 (T 15)), (a 16, eI g 8 (T 16)), (a 17, eI g 8 (T 17))]) [0, 1, 2, 3, 4, 5, 6, 7, 8, 9, 10, 11, 16, 12, 17, 13, 14, 15] (by decide) rfl
          have w : Wd g A (st_ws g a (upT (upT T 11 (up (T 11) v u)) 23 (fun _ => (if (up (T 11) v u) 3 < T 23 0 then (up (T 11) v u) 3 else T 23 0)))) s H locs := w
          refine lv_iload_n hx hb dX4_changeSetting_65 rfl (lv_at hl 0 rfl) ?_
          exact hend.2 _ _ _ _ ⟨_, rfl, rfl⟩ _ _ dX4_changeSetting_66 w ⟨(congrArg (fun z => some (Value.int (iI z))) (show F (v + 1) = (k_set F v u).1 from by unfold k_set; rw [if_neg (by first | omega | assumption | (intro hh; exact hh (by assumption))), if_neg (by first | omega | assumption | (intro hh; exact hh (by assumption))), if_neg (by first | omega | assumption | (intro hh; exact hh (by assumption)))])), (upT (upT T 11 (up (T 11) v u)) 23 (fun _ => (if (up (T 11) v u) 3 < T 23 0 then (up (T 11) v u) 3 else T 23 0))), rfl, fun hcond => (rel_set hR (v := v) (u := u) (by omega)).to_eq (by unfold k_set; rw [if_neg (by first | omega | assumption | (intro hh; exact hh (by assumption))), if_neg (by first | omega | assumption | (intro hh; exact hh (by assumption))), if_neg (by first | omega | assumption | (intro hh; exact hh (by assumption)))])⟩
        · refine ri_bipush hx hb dX4_changeSetting_42 (by decide) ?_
          exact hend.2 _ _ _ _ ⟨_, rfl, rfl⟩ _ _ dX4_changeSetting_44 w ⟨(congrArg (fun z => some (Value.int (iI z))) (show -5 = (k_set F v u).1 from by unfold k_set; rw [if_neg (by first | omega | assumption | (intro hh; exact hh (by assumption))), if_neg (by first | omega | assumption | (intro hh; exact hh (by assumption))), if_pos (by first | omega | assumption | (intro hh; exact absurd hh (by assumption)))])), T, rfl, fun hcond => absurd hcond (by rw [show (k_set F v u).1 = -5 from by unfold k_set; rw [if_neg (by first | omega | assumption | (intro hh; exact hh (by assumption))), if_neg (by first | omega | assumption | (intro hh; exact hh (by assumption))), if_pos (by first | omega | assumption | (intro hh; exact absurd hh (by assumption)))]]; omega)⟩
      · refine ri_bipush hx hb dX4_changeSetting_27 (by decide) ?_
        exact hend.2 _ _ _ _ ⟨_, rfl, rfl⟩ _ _ dX4_changeSetting_29 w ⟨(congrArg (fun z => some (Value.int (iI z))) (show -2 = (k_set F v u).1 from by unfold k_set; rw [if_neg (by first | omega | assumption | (intro hh; exact hh (by assumption))), if_pos (by first | omega | assumption | (intro hh; exact absurd hh (by assumption)))])), T, rfl, fun hcond => absurd hcond (by rw [show (k_set F v u).1 = -2 from by unfold k_set; rw [if_neg (by first | omega | assumption | (intro hh; exact hh (by assumption))), if_pos (by first | omega | assumption | (intro hh; exact absurd hh (by assumption)))]]; omega)⟩
  · refine ri_iconst hx hb dX4_changeSetting_7 ?_
    exact hend.2 _ _ _ _ ⟨_, rfl, rfl⟩ _ _ dX4_changeSetting_8 w ⟨(congrArg (fun z => some (Value.int (iI z))) (show -1 = (k_set F v u).1 from by unfold k_set; rw [if_pos (by first | omega | assumption | (intro hh; exact absurd hh (by assumption)))])), T, rfl, fun hcond => absurd hcond (by rw [show (k_set F v u).1 = -1 from by unfold k_set; rw [if_pos (by first | omega | assumption | (intro hh; exact absurd hh (by assumption)))]]; omega)⟩

set_option maxHeartbeats 4000000 in
set_option maxRecDepth 100000 in
theorem t_X4_changeKind (l : Launch) (g : GG) (a : Nat → Nat) (N : Int) (F : Int → Int) (T : Nat → Int → Int) (v : Int) (u : Int) (hW : WF N F) (hR : Rel F T) (h1 : -2147483648 ≤ v ∧ v ≤ 2147483647) (h2 : -2147483648 ≤ u ∧ u ≤ 2147483647) (sz : Nat) : Met l yX4_changeKind (wm yX4_changeKind cX4_changeKind 4 (some .int)) (rmm 1 0 0) (pW g (st_ws g a T) sz [.ref (a 0), .int (iI v), .int (iI u)]) (qW g (st_ws g a T) (fun vv ww => vv = some (.int (iI (k_setKind F v u).1)) ∧ ∃ T' : Nat → Int → Int, ww = st_ws g a T' ∧ (0 ≤ (k_setKind F v u).1 → Rel (k_setKind F v u).2 T'))) 0 0 (va_A (st_ws g a T) sz) := by
  refine met_w (by decide) (Nat.le_of_ble_eq_true rfl) ?_
  intro p e s m args below meth c Q ls A hx hb hml hown hts hl w hin hend
  obtain ⟨H, hH0⟩ : ∃ H, H = s.heap := ⟨_, rfl⟩
  obtain ⟨locs, hL0⟩ : ∃ locs : List Loc, locs = [] := ⟨_, rfl⟩
  rw [← hH0, ← hL0] at w
  rw [← hH0, ← hL0]
  have hl : lv_has ls 4 [(0, .ref (a 0)), (1, .int (iI v)), (2, .int (iI u))] := hl
  refine lv_iload_n hx hb dX4_changeKind_0 rfl (lv_at hl 1 rfl) ?_
  refine call_rN (As := [.int (iI v)]) (rest := []) hx hb (hml.trans hl.1.symm) hown hts w lk_RX4_142 (t_X5_isBlock l g v (by omega)) [] rfl rfl rfl rfl (Nat.le_of_ble_eq_true rfl) ⟨Nat.le_of_ble_eq_true rfl, Nat.le_of_ble_eq_true rfl⟩ ⟨Nat.le_of_ble_eq_true rfl, Nat.le_of_ble_eq_true rfl⟩ dX4_changeKind_1 ?_
  refine ri_ifb_ne (tgt := 9) hx hb dX4_changeKind_4 (by decide) (fun c1 => ?_) (fun c1 => ?_)
  · refine lv_iload_n hx hb dX4_changeKind_9 rfl (lv_at hl 2 rfl) ?_
    refine ri_if_lt (tgt := 18) hx hb dX4_changeKind_10 (by decide) (by omega) (fun c2 => ?_) (fun c2 => ?_)
    · refine ri_bipush hx hb dX4_changeKind_18 (by decide) ?_
      exact hend.2 _ _ _ _ ⟨_, rfl, rfl⟩ _ _ dX4_changeKind_20 w ⟨(congrArg (fun z => some (Value.int (iI z))) (show -2 = (k_setKind F v u).1 from by unfold k_setKind; rw [if_neg (by first | omega | assumption | (intro hh; exact hh (by assumption))), if_pos (by first | omega | assumption | (intro hh; exact absurd hh (by assumption)))])), T, rfl, fun hcond => absurd hcond (by rw [show (k_setKind F v u).1 = -2 from by unfold k_setKind; rw [if_neg (by first | omega | assumption | (intro hh; exact hh (by assumption))), if_pos (by first | omega | assumption | (intro hh; exact absurd hh (by assumption)))]]; omega)⟩
    · refine lv_iload_n hx hb dX4_changeKind_13 rfl (lv_at hl 2 rfl) ?_
      refine ri_iconst hx hb dX4_changeKind_14 ?_
      refine ri_icmp_le (tgt := 21) hx hb dX4_changeKind_15 (by decide) (by omega) (by omega) (fun c3 => ?_) (fun c3 => ?_)
      · refine lv_aload_n hx hb dX4_changeKind_21 rfl (lv_at hl 0 rfl) ?_
        refine lv_iload_n hx hb dX4_changeKind_22 rfl (lv_at hl 1 rfl) ?_
        refine call_rV (As := [.int (iI v)]) (rest := []) hx hb (hml.trans hl.1.symm) hown hts w lk_RX4_101 (t_X4_isFree l g a _ F T v (hW) (hR) (by omega)) [0, 1, 2, 3, 4, 5, 6, 7, 8, 9, 10, 11, 12, 13, 14, 15, 16, 17] rfl rfl (call_recv w (q0 := 0) rfl fX4.1) rfl rfl (Nat.le_of_ble_eq_true rfl) ⟨Nat.le_of_ble_eq_true rfl, Nat.le_of_ble_eq_true rfl⟩ ⟨Nat.le_of_ble_eq_true rfl, Nat.le_of_ble_eq_true rfl⟩ dX4_changeKind_23 ?_
        refine ri_ifb_ne (tgt := 32) hx hb dX4_changeKind_26 (by decide) (fun c4 => ?_) (fun c4 => ?_)
        · refine lv_aload_n hx hb dX4_changeKind_32 rfl (lv_at hl 0 rfl) ?_
          refine ri_get (v := .ref (a 1)) hx hb hts hown w fX4 0 0 (W0_of k_fl_RX4_9 rfl) rfl rfl (by decide) dX4_changeKind_33 ?_
          refine lv_iload_n hx hb dX4_changeKind_36 rfl (lv_at hl 1 rfl) ?_
          refine ri_iald (f := T 1) (v := F (4 * v + 41)) hx hb w 1 rfl (by omega) ((hR.kd (by omega) (by omega)).trans (congrArg _ (by omega))) dX4_changeKind_37 (by omega) ?_
          have r5 := hW.bd (4 * v + 41)
          refine lv_istore_n (lv' := [(3, .int (iI (F (4 * v + 41)))), (0, .ref (a 0)), (1, .int (iI v)), (2, .int (iI u))]) hx hb dX4_changeKind_38 rfl hl (by decide) rfl (fun ls hl => ?_)
          refine lv_iload_n hx hb dX4_changeKind_39 rfl (lv_at hl 0 rfl) ?_
          refine lv_iload_n hx hb dX4_changeKind_40 rfl (lv_at hl 3 rfl) ?_
          refine ri_icmp_ne (tgt := 47) hx hb dX4_changeKind_41 (by decide) (by omega) (by omega) (fun c6 => ?_) (fun c6 => ?_)
          · refine lv_aload_n hx hb dX4_changeKind_47 rfl (lv_at hl 1 rfl) ?_
            refine ri_get (v := .ref (a 1)) hx hb hts hown w fX4 0 0 (W0_of k_fl_RX4_9 rfl) rfl rfl (by decide) dX4_changeKind_48 ?_
            refine lv_iload_n hx hb dX4_changeKind_51 rfl (lv_at hl 2 rfl) ?_
            refine lv_iload_n hx hb dX4_changeKind_52 rfl (lv_at hl 3 rfl) ?_
            refine ri_iast hx hb w 1 rfl (by omega) dX4_changeKind_53 (by omega) (fun H locs w => ?_)
            have w : Wd g A (st_ws g a (upT T 1 (up (T 1) v u))) s H locs := w
            have hR7 : Rel (up F (4 * v + 41) u) (upT T 1 (up (T 1) v u)) := hR.u1 (x := v) (v := u) (by omega) (by omega)
            refine lv_iload_n hx hb dX4_changeKind_54 rfl (lv_at hl 0 rfl) ?_
            exact hend.2 _ _ _ _ ⟨_, rfl, rfl⟩ _ _ dX4_changeKind_55 w ⟨(congrArg (fun z => some (Value.int (iI z))) (show F (4 * v + 41) = (k_setKind F v u).1 from by unfold k_setKind; rw [if_neg (by first | omega | assumption | (intro hh; exact hh (by assumption))), if_neg (by first | omega | assumption | (intro hh; exact hh (by assumption))), if_neg (by first | omega | assumption | (intro hh; exact hh (by assumption))), if_neg (by first | omega | assumption | (intro hh; exact hh (by assumption)))])), (upT T 1 (up (T 1) v u)), rfl, fun hcond => hR7.to_eq (by unfold k_setKind; rw [if_neg (by first | omega | assumption | (intro hh; exact hh (by assumption))), if_neg (by first | omega | assumption | (intro hh; exact hh (by assumption))), if_neg (by first | omega | assumption | (intro hh; exact hh (by assumption))), if_neg (by first | omega | assumption | (intro hh; exact hh (by assumption)))])⟩
          · refine ri_bipush hx hb dX4_changeKind_44 (by decide) ?_
            exact hend.2 _ _ _ _ ⟨_, rfl, rfl⟩ _ _ dX4_changeKind_46 w ⟨(congrArg (fun z => some (Value.int (iI z))) (show -5 = (k_setKind F v u).1 from by unfold k_setKind; rw [if_neg (by first | omega | assumption | (intro hh; exact hh (by assumption))), if_neg (by first | omega | assumption | (intro hh; exact hh (by assumption))), if_neg (by first | omega | assumption | (intro hh; exact hh (by assumption))), if_pos (by first | omega | assumption | (intro hh; exact absurd hh (by assumption)))])), T, rfl, fun hcond => absurd hcond (by rw [show (k_setKind F v u).1 = -5 from by unfold k_setKind; rw [if_neg (by first | omega | assumption | (intro hh; exact hh (by assumption))), if_neg (by first | omega | assumption | (intro hh; exact hh (by assumption))), if_neg (by first | omega | assumption | (intro hh; exact hh (by assumption))), if_pos (by first | omega | assumption | (intro hh; exact absurd hh (by assumption)))]]; omega)⟩
        · refine ri_bipush hx hb dX4_changeKind_29 (by decide) ?_
          exact hend.2 _ _ _ _ ⟨_, rfl, rfl⟩ _ _ dX4_changeKind_31 w ⟨(congrArg (fun z => some (Value.int (iI z))) (show -4 = (k_setKind F v u).1 from by unfold k_setKind; rw [if_neg (by first | omega | assumption | (intro hh; exact hh (by assumption))), if_neg (by first | omega | assumption | (intro hh; exact hh (by assumption))), if_pos (by first | omega | assumption | (intro hh; exact absurd hh (by assumption)))])), T, rfl, fun hcond => absurd hcond (by rw [show (k_setKind F v u).1 = -4 from by unfold k_setKind; rw [if_neg (by first | omega | assumption | (intro hh; exact hh (by assumption))), if_neg (by first | omega | assumption | (intro hh; exact hh (by assumption))), if_pos (by first | omega | assumption | (intro hh; exact absurd hh (by assumption)))]]; omega)⟩
      · refine ri_bipush hx hb dX4_changeKind_18 (by decide) ?_
        exact hend.2 _ _ _ _ ⟨_, rfl, rfl⟩ _ _ dX4_changeKind_20 w ⟨(congrArg (fun z => some (Value.int (iI z))) (show -2 = (k_setKind F v u).1 from by unfold k_setKind; rw [if_neg (by first | omega | assumption | (intro hh; exact hh (by assumption))), if_pos (by first | omega | assumption | (intro hh; exact absurd hh (by assumption)))])), T, rfl, fun hcond => absurd hcond (by rw [show (k_setKind F v u).1 = -2 from by unfold k_setKind; rw [if_neg (by first | omega | assumption | (intro hh; exact hh (by assumption))), if_pos (by first | omega | assumption | (intro hh; exact absurd hh (by assumption)))]]; omega)⟩
  · refine ri_iconst hx hb dX4_changeKind_7 ?_
    exact hend.2 _ _ _ _ ⟨_, rfl, rfl⟩ _ _ dX4_changeKind_8 w ⟨(congrArg (fun z => some (Value.int (iI z))) (show -1 = (k_setKind F v u).1 from by unfold k_setKind; rw [if_pos (by first | omega | assumption | (intro hh; exact absurd hh (by assumption)))])), T, rfl, fun hcond => absurd hcond (by rw [show (k_setKind F v u).1 = -1 from by unfold k_setKind; rw [if_pos (by first | omega | assumption | (intro hh; exact absurd hh (by assumption)))]]; omega)⟩

set_option maxHeartbeats 4000000 in
set_option maxRecDepth 100000 in
theorem t_X4_changeCall (l : Launch) (g : GG) (a : Nat → Nat) (N : Int) (F : Int → Int) (T : Nat → Int → Int) (v : Int) (i : Int) (hW : WF N F) (hR : Rel F T) (h1 : -2147483648 ≤ v ∧ v ≤ 2147483647) (hi : i = 0 ∨ i = 1) (sz : Nat) : Met l yX4_changeCall (wm yX4_changeCall cX4_changeCall 3 (some .int)) (rmm 3 0 0) (pW g (st_ws g a T) sz [.ref (a 0), .int (iI v), .int (iI i)]) (qW g (st_ws g a T) (fun vv ww => vv = some (.int (iI (k_mark F v i).1)) ∧ ∃ T' : Nat → Int → Int, ww = st_ws g a T' ∧ (0 ≤ (k_mark F v i).1 → Rel (k_mark F v i).2 T'))) 0 0 (va_A (st_ws g a T) sz) := by
  refine met_w (by decide) (Nat.le_of_ble_eq_true rfl) ?_
  intro p e s m args below meth c Q ls A hx hb hml hown hts hl w hin hend
  obtain ⟨H, hH0⟩ : ∃ H, H = s.heap := ⟨_, rfl⟩
  obtain ⟨locs, hL0⟩ : ∃ locs : List Loc, locs = [] := ⟨_, rfl⟩
  rw [← hH0, ← hL0] at w
  rw [← hH0, ← hL0]
  have hl : lv_has ls 3 [(0, .ref (a 0)), (1, .int (iI v)), (2, .int (iI i))] := hl
  refine lv_iload_n hx hb dX4_changeCall_0 rfl (lv_at hl 1 rfl) ?_
  refine call_rN (As := [.int (iI v)]) (rest := []) hx hb (hml.trans hl.1.symm) hown hts w lk_RX4_142 (t_X5_isBlock l g v (by omega)) [] rfl rfl rfl rfl (Nat.le_of_ble_eq_true rfl) ⟨Nat.le_of_ble_eq_true rfl, Nat.le_of_ble_eq_true rfl⟩ ⟨Nat.le_of_ble_eq_true rfl, Nat.le_of_ble_eq_true rfl⟩ dX4_changeCall_1 ?_
  refine ri_ifb_ne (tgt := 9) hx hb dX4_changeCall_4 (by decide) (fun c1 => ?_) (fun c1 => ?_)
  · refine lv_aload_n hx hb dX4_changeCall_9 rfl (lv_at hl 0 rfl) ?_
    refine lv_iload_n hx hb dX4_changeCall_10 rfl (lv_at hl 1 rfl) ?_
    refine call_rV (As := [.int (iI v)]) (rest := []) hx hb (hml.trans hl.1.symm) hown hts w lk_RX4_101 (t_X4_isFree l g a _ F T v (hW) (hR) (by omega)) [0, 1, 2, 3, 4, 5, 6, 7, 8, 9, 10, 11, 12, 13, 14, 15, 16, 17] rfl rfl (call_recv w (q0 := 0) rfl fX4.1) rfl rfl (Nat.le_of_ble_eq_true rfl) ⟨Nat.le_of_ble_eq_true rfl, Nat.le_of_ble_eq_true rfl⟩ ⟨Nat.le_of_ble_eq_true rfl, Nat.le_of_ble_eq_true rfl⟩ dX4_changeCall_11 ?_
    refine ri_ifb_eq (tgt := 20) hx hb dX4_changeCall_14 (by decide) (fun c2 => ?_) (fun c2 => ?_)
    · refine lv_aload_n hx hb dX4_changeCall_20 rfl (lv_at hl 0 rfl) ?_
      refine ri_get (v := .ref (a 3)) hx hb hts hown w fX4 0 2 (W0_of k_fl_RX4_18 rfl) rfl rfl (by decide) dX4_changeCall_21 ?_
      refine lv_iload_n hx hb dX4_changeCall_24 rfl (lv_at hl 1 rfl) ?_
      refine ri_zald (f := T 3) (v := F (4 * v + 43)) hx hb w 3 rfl (by omega) ((hR.ca (by omega) (by omega)).trans (congrArg _ (by omega))) dX4_changeCall_25 (by omega) ?_
      have r3 := hW.bd (4 * v + 43)
      refine lv_iload_n hx hb dX4_changeCall_26 rfl (lv_at hl 2 rfl) ?_
      refine ri_icmp_ne (tgt := 33) hx hb dX4_changeCall_27 (by decide) (by omega) (by omega) (fun c4 => ?_) (fun c4 => ?_)
      · have hWm := wf_mark hW (b := v) (i := i) (by omega) (by omega)
        refine lv_aload_n hx hb dX4_changeCall_33 rfl (lv_at hl 0 rfl) ?_
        refine ri_get (v := .ref (a 3)) hx hb hts hown w fX4 0 2 (W0_of k_fl_RX4_18 rfl) rfl rfl (by decide) dX4_changeCall_34 ?_
        refine lv_iload_n hx hb dX4_changeCall_37 rfl (lv_at hl 1 rfl) ?_
        refine lv_iload_n hx hb dX4_changeCall_38 rfl (lv_at hl 2 rfl) ?_
        refine ri_zast hx hb w 3 rfl (by omega) (by omega) dX4_changeCall_39 (by omega) (fun H locs w => ?_)
        have w : Wd g A (st_ws g a (upT T 3 (up (T 3) v i))) s H locs := w
        have hR5 : Rel (up F (4 * v + 43) i) (upT T 3 (up (T 3) v i)) := hR.u3 (x := v) (v := i) (by omega) (by omega)
        refine lv_aload_n hx hb dX4_changeCall_40 rfl (lv_at hl 0 rfl) ?_
        refine call_rV (As := []) (rest := []) hx hb (hml.trans hl.1.symm) hown hts w lk_RX4_191 (t_X4_markedBlocks l g a _ (up F (4 * v + 43) i) (upT T 3 (up (T 3) v i))  (hWm) (hR5) ) [0, 1, 2, 3, 4, 5, 6, 7, 8, 9, 10, 11, 12, 13, 14, 15, 16, 17] rfl rfl (call_recv w (q0 := 0) rfl fX4.1) rfl rfl (Nat.le_of_ble_eq_true rfl) ⟨Nat.le_of_ble_eq_true rfl, Nat.le_of_ble_eq_true rfl⟩ ⟨Nat.le_of_ble_eq_true rfl, Nat.le_of_ble_eq_true rfl⟩ dX4_changeCall_41 ?_
        have r6 := marks_rg (up F (4 * v + 43) i)
        exact hend.2 _ _ _ _ ⟨_, rfl, rfl⟩ _ _ dX4_changeCall_44 w ⟨(congrArg (fun z => some (Value.int (iI z))) (show r_marks (up F (4 * v + 43) i) = (k_mark F v i).1 from by unfold k_mark; rw [if_neg (by first | omega | assumption | (intro hh; exact hh (by assumption))), if_neg (by first | omega | assumption | (intro hh; exact hh (by assumption))), if_neg (by first | omega | assumption | (intro hh; exact hh (by assumption)))])), (upT T 3 (up (T 3) v i)), rfl, fun hcond => hR5.to_eq (by unfold k_mark; rw [if_neg (by first | omega | assumption | (intro hh; exact hh (by assumption))), if_neg (by first | omega | assumption | (intro hh; exact hh (by assumption))), if_neg (by first | omega | assumption | (intro hh; exact hh (by assumption)))])⟩
      · refine ri_bipush hx hb dX4_changeCall_30 (by decide) ?_
        exact hend.2 _ _ _ _ ⟨_, rfl, rfl⟩ _ _ dX4_changeCall_32 w ⟨(congrArg (fun z => some (Value.int (iI z))) (show -5 = (k_mark F v i).1 from by unfold k_mark; rw [if_neg (by first | omega | assumption | (intro hh; exact hh (by assumption))), if_neg (by first | omega | assumption | (intro hh; exact hh (by assumption))), if_pos (by first | omega | assumption | (intro hh; exact absurd hh (by assumption)))])), T, rfl, fun hcond => absurd hcond (by rw [show (k_mark F v i).1 = -5 from by unfold k_mark; rw [if_neg (by first | omega | assumption | (intro hh; exact hh (by assumption))), if_neg (by first | omega | assumption | (intro hh; exact hh (by assumption))), if_pos (by first | omega | assumption | (intro hh; exact absurd hh (by assumption)))]]; omega)⟩
    · refine ri_bipush hx hb dX4_changeCall_17 (by decide) ?_
      exact hend.2 _ _ _ _ ⟨_, rfl, rfl⟩ _ _ dX4_changeCall_19 w ⟨(congrArg (fun z => some (Value.int (iI z))) (show -4 = (k_mark F v i).1 from by unfold k_mark; rw [if_neg (by first | omega | assumption | (intro hh; exact hh (by assumption))), if_pos (by first | omega | assumption | (intro hh; exact absurd hh (by assumption)))])), T, rfl, fun hcond => absurd hcond (by rw [show (k_mark F v i).1 = -4 from by unfold k_mark; rw [if_neg (by first | omega | assumption | (intro hh; exact hh (by assumption))), if_pos (by first | omega | assumption | (intro hh; exact absurd hh (by assumption)))]]; omega)⟩
  · refine ri_iconst hx hb dX4_changeCall_7 ?_
    exact hend.2 _ _ _ _ ⟨_, rfl, rfl⟩ _ _ dX4_changeCall_8 w ⟨(congrArg (fun z => some (Value.int (iI z))) (show -1 = (k_mark F v i).1 from by unfold k_mark; rw [if_pos (by first | omega | assumption | (intro hh; exact absurd hh (by assumption)))])), T, rfl, fun hcond => absurd hcond (by rw [show (k_mark F v i).1 = -1 from by unfold k_mark; rw [if_pos (by first | omega | assumption | (intro hh; exact absurd hh (by assumption)))]]; omega)⟩

set_option maxHeartbeats 4000000 in
set_option maxRecDepth 100000 in
theorem t_X4_writePage (l : Launch) (g : GG) (a : Nat → Nat) (N : Int) (F : Int → Int) (T : Nat → Int → Int) (v : Int) (hW : WF N F) (hR : Rel F T) (h1 : -2147483648 ≤ v ∧ v ≤ 2147483647) (sz : Nat) : Met l yX4_writePage (wm yX4_writePage cX4_writePage 3 (some .int)) (rmm 3 0 0) (pW g (st_ws g a T) sz [.ref (a 0), .int (iI v)]) (qW g (st_ws g a T) (fun vv ww => vv = some (.int (iI (r_write F v).1)) ∧ ∃ T' : Nat → Int → Int, ww = st_ws g a T' ∧ (0 ≤ (r_write F v).1 → Rel (r_write F v).2 T'))) 0 0 (va_A (st_ws g a T) sz) := by
  have htr := target_rg hW
  refine met_w (by decide) (Nat.le_of_ble_eq_true rfl) ?_
  intro p e s m args below meth c Q ls A hx hb hml hown hts hl w hin hend
  obtain ⟨H, hH0⟩ : ∃ H, H = s.heap := ⟨_, rfl⟩
  obtain ⟨locs, hL0⟩ : ∃ locs : List Loc, locs = [] := ⟨_, rfl⟩
  rw [← hH0, ← hL0] at w
  rw [← hH0, ← hL0]
  have hl : lv_has ls 3 [(0, .ref (a 0)), (1, .int (iI v))] := hl
  refine lv_iload_n hx hb dX4_writePage_0 rfl (lv_at hl 1 rfl) ?_
  refine call_rN (As := [.int (iI v)]) (rest := []) hx hb (hml.trans hl.1.symm) hown hts w lk_RX4_105 (t_X5_isPage l g v (by omega)) [] rfl rfl rfl rfl (Nat.le_of_ble_eq_true rfl) ⟨Nat.le_of_ble_eq_true rfl, Nat.le_of_ble_eq_true rfl⟩ ⟨Nat.le_of_ble_eq_true rfl, Nat.le_of_ble_eq_true rfl⟩ dX4_writePage_1 ?_
  refine ri_ifb_ne (tgt := 9) hx hb dX4_writePage_4 (by decide) (fun c1 => ?_) (fun c1 => ?_)
  · refine lv_aload_n hx hb dX4_writePage_9 rfl (lv_at hl 0 rfl) ?_
    refine call_rV (As := []) (rest := []) hx hb (hml.trans hl.1.symm) hown hts w lk_RX4_149 (t_X4_blockWithRoom l g a _ F T  (hW) (hR) ) [0, 1, 2, 3, 4, 5, 6, 7, 8, 9, 10, 11, 12, 13, 14, 15, 16, 17] rfl rfl (call_recv w (q0 := 0) rfl fX4.1) rfl rfl (Nat.le_of_ble_eq_true rfl) ⟨Nat.le_of_ble_eq_true rfl, Nat.le_of_ble_eq_true rfl⟩ ⟨Nat.le_of_ble_eq_true rfl, Nat.le_of_ble_eq_true rfl⟩ dX4_writePage_10 ?_
    have r2 := target_rg hW
    refine lv_istore_n (lv' := [(2, .int (iI (r_target F))), (0, .ref (a 0)), (1, .int (iI v))]) hx hb dX4_writePage_13 rfl hl (by decide) rfl (fun ls hl => ?_)
    refine lv_iload_n hx hb dX4_writePage_14 rfl (lv_at hl 0 rfl) ?_
    refine ri_iconst hx hb dX4_writePage_15 ?_
    refine ri_icmp_ne (tgt := 22) hx hb dX4_writePage_16 (by decide) (by omega) (by omega) (fun c3 => ?_) (fun c3 => ?_)
    · have hrm : ¬ (P_full F ∧ r_best F = -5) := by rcases htr with hz | hz; omega; exact hz.1
      have hWg := wf_gives hW (v := v) (by omega) hrm
      have hfg := frees_gives hW (v := v) (by omega) hrm
      refine lv_aload_n hx hb dX4_writePage_22 rfl (lv_at hl 1 rfl) ?_
      refine lv_iload_n hx hb dX4_writePage_23 rfl (lv_at hl 0 rfl) ?_
      refine lv_iload_n hx hb dX4_writePage_24 rfl (lv_at hl 2 rfl) ?_
      refine call_wV (wr := []) (As := [.int (iI (r_target F)), .int (iI v)]) (rest := []) hx hb (hml.trans hl.1.symm) hown hts w lk_RX4_162 (fun sz => t_X4_putInto l g a _ F T (r_target F) v (hW) (hR) rfl (by omega) (by omega) sz) [0, 1, 2, 3, 4, 5, 6, 7, 8, 9, 10, 11, 12, 13, 14, 15, 16, 17] [] rfl rfl rfl rfl (by decide) (call_recv w (q0 := 0) rfl fX4.1) rfl rfl (Nat.le_of_ble_eq_true rfl) ⟨Nat.le_of_ble_eq_true rfl, Nat.le_of_ble_eq_true rfl⟩ ⟨Nat.le_of_ble_eq_true rfl, Nat.le_of_ble_eq_true rfl⟩ dX4_writePage_25 (fun v w1 H locs hr w => ?_)
      obtain ⟨rfl, T4, rfl, hRT4⟩ := hr
      have w : Wd g A (st_ws g a T4) s H locs := w
      refine lv_aload_n hx hb dX4_writePage_28 rfl (lv_at hl 1 rfl) ?_
      refine call_rV (As := []) (rest := []) hx hb (hml.trans hl.1.symm) hown hts w lk_RX4_194 (t_X4_freeBlocks l g a _ (r_gives F v) T4  (hWg) (hRT4) ) [0, 1, 2, 3, 4, 5, 6, 7, 8, 9, 10, 11, 12, 13, 14, 15, 16, 17] rfl rfl (call_recv w (q0 := 0) rfl fX4.1) rfl rfl (Nat.le_of_ble_eq_true rfl) ⟨Nat.le_of_ble_eq_true rfl, Nat.le_of_ble_eq_true rfl⟩ ⟨Nat.le_of_ble_eq_true rfl, Nat.le_of_ble_eq_true rfl⟩ dX4_writePage_29 ?_
      have r5 := frees_rg (r_gives F v)
      refine ri_if_ne (tgt := 38) hx hb dX4_writePage_32 (by decide) (by omega) (fun c6 => ?_) (fun c6 => ?_)
      · refine lv_aload_n hx hb dX4_writePage_38 rfl (lv_at hl 1 rfl) ?_
        refine ri_get (v := .ref (a 12)) hx hb hts hown w fX4 0 11 (W0_of k_fl_RX4_49 rfl) rfl rfl (by decide) dX4_writePage_39 ?_
        refine lv_iload_n hx hb dX4_writePage_42 rfl (lv_at hl 2 rfl) ?_
        refine call_wV (wr := [(a 0, .inr (4, [.ref (a 1), .ref (a 2), .ref (a 3), .ref (a 4), .ref (a 5), .ref (a 6), .ref (a 7), .ref (a 8), .ref (a 9), .ref (a 10), .ref (a 11), .ref (a 12), .ref (a 13), .int (iI (T4 18 0)), .int (iI (T4 19 0)), .int (iI (T4 20 0)), .int (iI (T4 21 0)), .int (iI (T4 22 0))])), (a 1, eI g 6 (T4 1)), (a 2, eI g 6 (T4 2)), (a 3, eZ g 6 (T4 3)), (a 4, eI g 6 (T4 4)), (a 5, eI g 6 (T4 5)), (a 6, eI g 48 (T4 6)), (a 7, eI g 48 (T4 7)), (a 8, eI g 48 (T4 8)), (a 9, eI g 24 (T4 9)), (a 10, eI g 24 (T4 10)), (a 11, eI g 5 (T4 11)), (a 13, .inr (1, [.ref (a 15), .ref (a 16), .ref (a 17), .int (iI (T4 24 0))])), (a 15, eI g 8 (T4 15)), (a 16, eI g 8 (T4 16)), (a 17, eI g 8 (T4 17))]) (As := [.int (iI v)]) (rest := []) hx hb (hml.trans hl.1.symm) hown hts w lk_RX4_197 (fun sz => t_X0_drop l g (a 12) (a 14) _ (r_gives F v) (T4 14) (T4 23 0) v (hWg) (fun i h0 h1 => hRT4.bu h0 h1) (hRT4.sz) (by omega) sz) [12, 14] [0, 1, 2, 3, 4, 5, 6, 7, 8, 9, 10, 11, 13, 15, 16, 17] rfl rfl rfl rfl (by decide) (call_recv w (q0 := 12) rfl fX0.1) rfl rfl (Nat.le_of_ble_eq_true rfl) ⟨Nat.le_of_ble_eq_true rfl, Nat.le_of_ble_eq_true rfl⟩ ⟨Nat.le_of_ble_eq_true rfl, Nat.le_of_ble_eq_true rfl⟩ dX4_writePage_43 (fun v w1 H locs hr w => ?_)
        obtain ⟨rfl, f7, z8, rfl, hf7, hz8⟩ := hr
        have w := w.perm (wc := [(a 0, .inr (4, [.ref (a 1), .ref (a 2), .ref (a 3), .ref (a 4), .ref (a 5), .ref (a 6), .ref (a 7), .ref (a 8), .ref (a 9), .ref (a 10), .ref (a 11), .ref (a 12), .ref (a 13), .int (iI (T4 18 0)), .int (iI (T4 19 0)), .int (iI (T4 20 0)), .int (iI (T4 21 0)), .int (iI (T4 22 0))])), (a 1, eI g 6 (T4 1)), (a 2, eI g 6 (T4 2)), (a 3, eZ g 6 (T4 3)), (a 4, eI g 6 (T4 4)), (a 5, eI g 6 (T4 5)), (a 6, eI g 48 (T4 6)), (a 7, eI g 48 (T4 7)), (a 8, eI g 48 (T4 8)), (a 9, eI g 24 (T4 9)), (a 10, eI g 24 (T4 10)), (a 11, eI g 5 (T4 11)), (a 12, .inr (0, [.ref (a 14), .int (iI z8)])), (a 13, .inr (1, [.ref (a 15), .ref (a 16), .ref (a 17), .int (iI (T4 24 0))])), (a 14, eI g 4 f7), (a 15, eI g 8 (T4 15)), (a 16, eI g 8 (T4 16)), (a 17, eI g 8 (T4 17))]) [0, 1, 2, 3, 4, 5, 6, 7, 8, 9, 10, 11, 16, 12, 17, 13, 14, 15] (by decide) rfl
        have w : Wd g A (st_ws g a (upT (upT T4 14 f7) 23 (fun _ => z8))) s H locs := w
        have hR9 : Rel (r_leaves (r_gives F v) v) (upT (upT T4 14 f7) 23 (fun _ => z8)) := rel_buf hRT4 hf7 hz8 (leaves_far hWg v)
        refine lv_aload_n hx hb dX4_writePage_46 rfl (lv_at hl 1 rfl) ?_
        refine ri_get (v := .ref (a 9)) hx hb hts hown w fX4 0 8 (W0_of k_fl_RX4_37 rfl) rfl rfl (by decide) dX4_writePage_47 ?_
        refine lv_iload_n hx hb dX4_writePage_50 rfl (lv_at hl 2 rfl) ?_
        refine ri_iald (f := T4 9) (v := r_at (r_gives F v) v) hx hb w 9 rfl (by omega) (hRT4.pl (by omega) (by omega)) dX4_writePage_51 (by omega) ?_
        have r10 := rat_rg (r_gives F v) v
        exact hend.2 _ _ _ _ ⟨_, rfl, rfl⟩ _ _ dX4_writePage_52 w ⟨(congrArg (fun z => some (Value.int (iI z))) (show r_at (r_gives F v) v = (r_write F v).1 from by rw [show (r_write F v).1 = r_givesK (r_leaves F v) v from by unfold r_write; rw [if_neg (by omega), if_neg (by first | omega | (split <;> omega))]]; exact gives_at hW (by omega) hrm)), (upT (upT T4 14 f7) 23 (fun _ => z8)), rfl, fun hcond => (hR9.congr (leaves_gives hW (by omega) hrm)).to_eq (by unfold r_write; rw [if_neg (by omega), if_neg (by first | omega | (split <;> omega))])⟩
      · refine ri_bipush hx hb dX4_writePage_35 (by decide) ?_
        exact hend.2 _ _ _ _ ⟨_, rfl, rfl⟩ _ _ dX4_writePage_37 w ⟨(congrArg (fun z => some (Value.int (iI z))) (show -3 = (r_write F v).1 from by unfold r_write; rw [if_neg (by omega), if_pos (by first | omega | (split <;> omega))])), T4, rfl, fun hcond => absurd hcond (by rw [show (r_write F v).1 = -3 from by unfold r_write; rw [if_neg (by omega), if_pos (by first | omega | (split <;> omega))]]; omega)⟩
    · have hno : ¬ (P_full F → 2 ≤ r_frees F) ∨ True := Or.inr trivial
      have hf0 := full_frees hW (by rcases htr with hz | hz; exact ⟨hz.1, hz.2.1⟩; omega)
      refine ri_bipush hx hb dX4_writePage_19 (by decide) ?_
      exact hend.2 _ _ _ _ ⟨_, rfl, rfl⟩ _ _ dX4_writePage_21 w ⟨(congrArg (fun z => some (Value.int (iI z))) (show -3 = (r_write F v).1 from by unfold r_write; rw [if_neg (by omega), if_pos (by first | omega | (split <;> omega))])), T, rfl, fun hcond => absurd hcond (by rw [show (r_write F v).1 = -3 from by unfold r_write; rw [if_neg (by omega), if_pos (by first | omega | (split <;> omega))]]; omega)⟩
  · refine ri_iconst hx hb dX4_writePage_7 ?_
    exact hend.2 _ _ _ _ ⟨_, rfl, rfl⟩ _ _ dX4_writePage_8 w ⟨(congrArg (fun z => some (Value.int (iI z))) (show -1 = (r_write F v).1 from by unfold r_write; rw [if_pos (by omega)])), T, rfl, fun hcond => absurd hcond (by rw [show (r_write F v).1 = -1 from by unfold r_write; rw [if_pos (by omega)]]; omega)⟩

set_option maxHeartbeats 4000000 in
set_option maxRecDepth 100000 in
theorem t_X4_forgetPage (l : Launch) (g : GG) (a : Nat → Nat) (N : Int) (F : Int → Int) (T : Nat → Int → Int) (v : Int) (hW : WF N F) (hR : Rel F T) (h1 : -2147483648 ≤ v ∧ v ≤ 2147483647) (sz : Nat) : Met l yX4_forgetPage (wm yX4_forgetPage cX4_forgetPage 2 (some .int)) (rmm 2 0 0) (pW g (st_ws g a T) sz [.ref (a 0), .int (iI v)]) (qW g (st_ws g a T) (fun vv ww => vv = some (.int (iI (k_forget F v).1)) ∧ ∃ T' : Nat → Int → Int, ww = st_ws g a T' ∧ (0 ≤ (k_forget F v).1 → Rel (k_forget F v).2 T'))) 0 0 (va_A (st_ws g a T) sz) := by
  refine met_w (by decide) (Nat.le_of_ble_eq_true rfl) ?_
  intro p e s m args below meth c Q ls A hx hb hml hown hts hl w hin hend
  obtain ⟨H, hH0⟩ : ∃ H, H = s.heap := ⟨_, rfl⟩
  obtain ⟨locs, hL0⟩ : ∃ locs : List Loc, locs = [] := ⟨_, rfl⟩
  rw [← hH0, ← hL0] at w
  rw [← hH0, ← hL0]
  have hl : lv_has ls 2 [(0, .ref (a 0)), (1, .int (iI v))] := hl
  refine lv_aload_n hx hb dX4_forgetPage_0 rfl (lv_at hl 0 rfl) ?_
  refine lv_iload_n hx hb dX4_forgetPage_1 rfl (lv_at hl 1 rfl) ?_
  refine call_rV (As := [.int (iI v)]) (rest := []) hx hb (hml.trans hl.1.symm) hown hts w lk_RX4_200 (t_X4_hasPlace l g a _ F T v (hW) (hR) (by omega)) [0, 1, 2, 3, 4, 5, 6, 7, 8, 9, 10, 11, 12, 13, 14, 15, 16, 17] rfl rfl (call_recv w (q0 := 0) rfl fX4.1) rfl rfl (Nat.le_of_ble_eq_true rfl) ⟨Nat.le_of_ble_eq_true rfl, Nat.le_of_ble_eq_true rfl⟩ ⟨Nat.le_of_ble_eq_true rfl, Nat.le_of_ble_eq_true rfl⟩ dX4_forgetPage_2 ?_
  refine ri_ifb_ne (tgt := 10) hx hb dX4_forgetPage_5 (by decide) (fun c1 => ?_) (fun c1 => ?_)
  · have est : r_stales F v = up F (3 * r_placeOf F v + 65) (-2) := if_neg (by omega)
    have hWs : WF N (r_stales F v) := by rw [est]; exact wf_stale hW (by omega)
    have hWl := wf_leaves hWs v
    have efo : r_leaves (r_stales F v) v = r_forget F v := by unfold r_forget; rw [est]
    refine lv_aload_n hx hb dX4_forgetPage_10 rfl (lv_at hl 0 rfl) ?_
    refine lv_iload_n hx hb dX4_forgetPage_11 rfl (lv_at hl 1 rfl) ?_
    refine call_wV (wr := []) (As := [.int (iI v)]) (rest := []) hx hb (hml.trans hl.1.symm) hown hts w lk_RX4_145 (fun sz => t_X4_dropPlace l g a _ F T v (hW) (hR) (by omega) sz) [0, 1, 2, 3, 4, 5, 6, 7, 8, 9, 10, 11, 12, 13, 14, 15, 16, 17] [] rfl rfl rfl rfl (by decide) (call_recv w (q0 := 0) rfl fX4.1) rfl rfl (Nat.le_of_ble_eq_true rfl) ⟨Nat.le_of_ble_eq_true rfl, Nat.le_of_ble_eq_true rfl⟩ ⟨Nat.le_of_ble_eq_true rfl, Nat.le_of_ble_eq_true rfl⟩ dX4_forgetPage_12 (fun v w1 H locs hr w => ?_)
    obtain ⟨rfl, T2, rfl, hRT2⟩ := hr
    have w : Wd g A (st_ws g a T2) s H locs := w
    refine lv_aload_n hx hb dX4_forgetPage_15 rfl (lv_at hl 0 rfl) ?_
    refine ri_get (v := .ref (a 12)) hx hb hts hown w fX4 0 11 (W0_of k_fl_RX4_49 rfl) rfl rfl (by decide) dX4_forgetPage_16 ?_
    refine lv_iload_n hx hb dX4_forgetPage_19 rfl (lv_at hl 1 rfl) ?_
    refine call_wV (wr := [(a 0, .inr (4, [.ref (a 1), .ref (a 2), .ref (a 3), .ref (a 4), .ref (a 5), .ref (a 6), .ref (a 7), .ref (a 8), .ref (a 9), .ref (a 10), .ref (a 11), .ref (a 12), .ref (a 13), .int (iI (T2 18 0)), .int (iI (T2 19 0)), .int (iI (T2 20 0)), .int (iI (T2 21 0)), .int (iI (T2 22 0))])), (a 1, eI g 6 (T2 1)), (a 2, eI g 6 (T2 2)), (a 3, eZ g 6 (T2 3)), (a 4, eI g 6 (T2 4)), (a 5, eI g 6 (T2 5)), (a 6, eI g 48 (T2 6)), (a 7, eI g 48 (T2 7)), (a 8, eI g 48 (T2 8)), (a 9, eI g 24 (T2 9)), (a 10, eI g 24 (T2 10)), (a 11, eI g 5 (T2 11)), (a 13, .inr (1, [.ref (a 15), .ref (a 16), .ref (a 17), .int (iI (T2 24 0))])), (a 15, eI g 8 (T2 15)), (a 16, eI g 8 (T2 16)), (a 17, eI g 8 (T2 17))]) (As := [.int (iI v)]) (rest := []) hx hb (hml.trans hl.1.symm) hown hts w lk_RX4_197 (fun sz => t_X0_drop l g (a 12) (a 14) _ (r_stales F v) (T2 14) (T2 23 0) v (hWs) (fun i h0 h1 => hRT2.bu h0 h1) (hRT2.sz) (by omega) sz) [12, 14] [0, 1, 2, 3, 4, 5, 6, 7, 8, 9, 10, 11, 13, 15, 16, 17] rfl rfl rfl rfl (by decide) (call_recv w (q0 := 12) rfl fX0.1) rfl rfl (Nat.le_of_ble_eq_true rfl) ⟨Nat.le_of_ble_eq_true rfl, Nat.le_of_ble_eq_true rfl⟩ ⟨Nat.le_of_ble_eq_true rfl, Nat.le_of_ble_eq_true rfl⟩ dX4_forgetPage_20 (fun v w1 H locs hr w => ?_)
    obtain ⟨rfl, f3, z4, rfl, hf3, hz4⟩ := hr
    have w := w.perm (wc := [(a 0, .inr (4, [.ref (a 1), .ref (a 2), .ref (a 3), .ref (a 4), .ref (a 5), .ref (a 6), .ref (a 7), .ref (a 8), .ref (a 9), .ref (a 10), .ref (a 11), .ref (a 12), .ref (a 13), .int (iI (T2 18 0)), .int (iI (T2 19 0)), .int (iI (T2 20 0)), .int (iI (T2 21 0)), .int (iI (T2 22 0))])), (a 1, eI g 6 (T2 1)), (a 2, eI g 6 (T2 2)), (a 3, eZ g 6 (T2 3)), (a 4, eI g 6 (T2 4)), (a 5, eI g 6 (T2 5)), (a 6, eI g 48 (T2 6)), (a 7, eI g 48 (T2 7)), (a 8, eI g 48 (T2 8)), (a 9, eI g 24 (T2 9)), (a 10, eI g 24 (T2 10)), (a 11, eI g 5 (T2 11)), (a 12, .inr (0, [.ref (a 14), .int (iI z4)])), (a 13, .inr (1, [.ref (a 15), .ref (a 16), .ref (a 17), .int (iI (T2 24 0))])), (a 14, eI g 4 f3), (a 15, eI g 8 (T2 15)), (a 16, eI g 8 (T2 16)), (a 17, eI g 8 (T2 17))]) [0, 1, 2, 3, 4, 5, 6, 7, 8, 9, 10, 11, 16, 12, 17, 13, 14, 15] (by decide) rfl
    have w : Wd g A (st_ws g a (upT (upT T2 14 f3) 23 (fun _ => z4))) s H locs := w
    have hR5 : Rel (r_leaves (r_stales F v) v) (upT (upT T2 14 f3) 23 (fun _ => z4)) := rel_buf hRT2 hf3 hz4 (leaves_far hWs v)
    refine lv_aload_n hx hb dX4_forgetPage_23 rfl (lv_at hl 0 rfl) ?_
    refine call_rV (As := []) (rest := []) hx hb (hml.trans hl.1.symm) hown hts w lk_RX4_212 (t_X4_pagesInAll l g a _ (r_leaves (r_stales F v) v) (upT (upT T2 14 f3) 23 (fun _ => z4))  (hWl) (hR5) ) [0, 1, 2, 3, 4, 5, 6, 7, 8, 9, 10, 11, 12, 13, 14, 15, 16, 17] rfl rfl (call_recv w (q0 := 0) rfl fX4.1) rfl rfl (Nat.le_of_ble_eq_true rfl) ⟨Nat.le_of_ble_eq_true rfl, Nat.le_of_ble_eq_true rfl⟩ ⟨Nat.le_of_ble_eq_true rfl, Nat.le_of_ble_eq_true rfl⟩ dX4_forgetPage_24 ?_
    have r6 := placed_rg (r_leaves (r_stales F v) v)
    exact hend.2 _ _ _ _ ⟨_, rfl, rfl⟩ _ _ dX4_forgetPage_27 w ⟨(congrArg (fun z => some (Value.int (iI z))) (show r_placed (r_leaves (r_stales F v) v) = (k_forget F v).1 from by rw [efo]; exact (show (k_forget F v).1 = r_placed (r_forget F v) from by unfold k_forget; rw [if_neg (by omega)]).symm)), (upT (upT T2 14 f3) 23 (fun _ => z4)), rfl, fun hcond => hR5.to_eq (by rw [efo]; unfold k_forget; rw [if_neg (by omega)])⟩
  · refine ri_iconst hx hb dX4_forgetPage_8 ?_
    exact hend.2 _ _ _ _ ⟨_, rfl, rfl⟩ _ _ dX4_forgetPage_9 w ⟨(congrArg (fun z => some (Value.int (iI z))) (show -1 = (k_forget F v).1 from by unfold k_forget; rw [if_pos (by first | omega | assumption | (intro hh; exact absurd hh (by assumption)))])), T, rfl, fun hcond => absurd hcond (by rw [show (k_forget F v).1 = -1 from by unfold k_forget; rw [if_pos (by first | omega | assumption | (intro hh; exact absurd hh (by assumption)))]]; omega)⟩

set_option maxHeartbeats 4000000 in
set_option maxRecDepth 100000 in
theorem t_X4_moveOnDemand (l : Launch) (g : GG) (a : Nat → Nat) (N : Int) (F : Int → Int) (T : Nat → Int → Int) (v : Int) (hW : WF N F) (hR : Rel F T) (h1 : -2147483648 ≤ v ∧ v ≤ 2147483647) (hN : N + 18 ≤ 200000000) (sz : Nat) : Met l yX4_moveOnDemand (wm yX4_moveOnDemand cX4_moveOnDemand 2 (some .int)) (rmm 7 0 0) (pW g (st_ws g a T) sz [.ref (a 0), .int (iI v)]) (qW g (st_ws g a T) (fun vv ww => vv = some (.int (iI (k_moveB F v).1)) ∧ ∃ T' : Nat → Int → Int, ww = st_ws g a T' ∧ (0 ≤ (k_moveB F v).1 → Rel (k_moveB F v).2 T'))) 0 0 (va_A (st_ws g a T) sz) := by
  refine met_w (by decide) (Nat.le_of_ble_eq_true rfl) ?_
  intro p e s m args below meth c Q ls A hx hb hml hown hts hl w hin hend
  obtain ⟨H, hH0⟩ : ∃ H, H = s.heap := ⟨_, rfl⟩
  obtain ⟨locs, hL0⟩ : ∃ locs : List Loc, locs = [] := ⟨_, rfl⟩
  rw [← hH0, ← hL0] at w
  rw [← hH0, ← hL0]
  have hl : lv_has ls 2 [(0, .ref (a 0)), (1, .int (iI v))] := hl
  refine lv_iload_n hx hb dX4_moveOnDemand_0 rfl (lv_at hl 1 rfl) ?_
  refine call_rN (As := [.int (iI v)]) (rest := []) hx hb (hml.trans hl.1.symm) hown hts w lk_RX4_142 (t_X5_isBlock l g v (by omega)) [] rfl rfl rfl rfl (Nat.le_of_ble_eq_true rfl) ⟨Nat.le_of_ble_eq_true rfl, Nat.le_of_ble_eq_true rfl⟩ ⟨Nat.le_of_ble_eq_true rfl, Nat.le_of_ble_eq_true rfl⟩ dX4_moveOnDemand_1 ?_
  refine ri_ifb_ne (tgt := 9) hx hb dX4_moveOnDemand_4 (by decide) (fun c1 => ?_) (fun c1 => ?_)
  · refine lv_aload_n hx hb dX4_moveOnDemand_9 rfl (lv_at hl 0 rfl) ?_
    refine lv_iload_n hx hb dX4_moveOnDemand_10 rfl (lv_at hl 1 rfl) ?_
    refine call_rV (As := [.int (iI v)]) (rest := []) hx hb (hml.trans hl.1.symm) hown hts w lk_RX4_101 (t_X4_isFree l g a _ F T v (hW) (hR) (by omega)) [0, 1, 2, 3, 4, 5, 6, 7, 8, 9, 10, 11, 12, 13, 14, 15, 16, 17] rfl rfl (call_recv w (q0 := 0) rfl fX4.1) rfl rfl (Nat.le_of_ble_eq_true rfl) ⟨Nat.le_of_ble_eq_true rfl, Nat.le_of_ble_eq_true rfl⟩ ⟨Nat.le_of_ble_eq_true rfl, Nat.le_of_ble_eq_true rfl⟩ dX4_moveOnDemand_11 ?_
    refine ri_ifb_eq (tgt := 20) hx hb dX4_moveOnDemand_14 (by decide) (fun c2 => ?_) (fun c2 => ?_)
    · refine lv_aload_n hx hb dX4_moveOnDemand_20 rfl (lv_at hl 0 rfl) ?_
      refine lv_iload_n hx hb dX4_moveOnDemand_21 rfl (lv_at hl 1 rfl) ?_
      refine call_wV (wr := []) (As := [.int (iI v)]) (rest := []) hx hb (hml.trans hl.1.symm) hown hts w lk_RX4_206 (fun sz => t_X4_moveWhole l g a _ F T v (hW) (hR) (by omega) (by omega) sz) [0, 1, 2, 3, 4, 5, 6, 7, 8, 9, 10, 11, 12, 13, 14, 15, 16, 17] [] rfl rfl rfl rfl (by decide) (call_recv w (q0 := 0) rfl fX4.1) rfl rfl (Nat.le_of_ble_eq_true rfl) ⟨Nat.le_of_ble_eq_true rfl, Nat.le_of_ble_eq_true rfl⟩ ⟨Nat.le_of_ble_eq_true rfl, Nat.le_of_ble_eq_true rfl⟩ dX4_moveOnDemand_22 (fun v w1 H locs hr w => ?_)
      obtain ⟨rfl, T3, rfl, hRT3⟩ := hr
      have w : Wd g A (st_ws g a T3) s H locs := w
      have r4 := all_rg hW v
      exact hend.2 _ _ _ _ ⟨_, rfl, rfl⟩ _ _ dX4_moveOnDemand_25 w ⟨(congrArg (fun z => some (Value.int (iI z))) (show (r_all F v).1 = (k_moveB F v).1 from by unfold k_moveB; rw [if_neg (by first | omega | assumption | (intro hh; exact hh (by assumption))), if_neg (by first | omega | assumption | (intro hh; exact hh (by assumption)))])), T3, rfl, fun hcond => (hRT3 (by rw [show (r_all F v) = k_moveB F v from by unfold k_moveB; rw [if_neg (by first | omega | assumption | (intro hh; exact hh (by assumption))), if_neg (by first | omega | assumption | (intro hh; exact hh (by assumption)))]]; exact hcond)).to_eq (by unfold k_moveB; rw [if_neg (by first | omega | assumption | (intro hh; exact hh (by assumption))), if_neg (by first | omega | assumption | (intro hh; exact hh (by assumption)))])⟩
    · refine ri_bipush hx hb dX4_moveOnDemand_17 (by decide) ?_
      exact hend.2 _ _ _ _ ⟨_, rfl, rfl⟩ _ _ dX4_moveOnDemand_19 w ⟨(congrArg (fun z => some (Value.int (iI z))) (show -4 = (k_moveB F v).1 from by unfold k_moveB; rw [if_neg (by first | omega | assumption | (intro hh; exact hh (by assumption))), if_pos (by first | omega | assumption | (intro hh; exact absurd hh (by assumption)))])), T, rfl, fun hcond => absurd hcond (by rw [show (k_moveB F v).1 = -4 from by unfold k_moveB; rw [if_neg (by first | omega | assumption | (intro hh; exact hh (by assumption))), if_pos (by first | omega | assumption | (intro hh; exact absurd hh (by assumption)))]]; omega)⟩
  · refine ri_iconst hx hb dX4_moveOnDemand_7 ?_
    exact hend.2 _ _ _ _ ⟨_, rfl, rfl⟩ _ _ dX4_moveOnDemand_8 w ⟨(congrArg (fun z => some (Value.int (iI z))) (show -1 = (k_moveB F v).1 from by unfold k_moveB; rw [if_pos (by first | omega | assumption | (intro hh; exact absurd hh (by assumption)))])), T, rfl, fun hcond => absurd hcond (by rw [show (k_moveB F v).1 = -1 from by unfold k_moveB; rw [if_pos (by first | omega | assumption | (intro hh; exact absurd hh (by assumption)))]]; omega)⟩
