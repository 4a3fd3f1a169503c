set_option maxHeartbeats 4000000 in
set_option maxRecDepth 100000 in
theorem t_X6_isFor (l : Launch) (g : GG) (v : Int) (u : Int) (h1 : -2147483648 ≤ u ∧ u ≤ 2147483647) (h2 : 0 ≤ v ∧ v ≤ 4) : Met l yX6_isFor (wm yX6_isFor cX6_isFor 2 (some .boolean)) (rmm 1 0 0) (pR g [] [.int (iI v), .int (iI u)]) (qR (some (.int (iI (if S_ok v u then 1 else 0))))) 0 0 (fun _ => False) := by
  refine met_r (by decide) (Nat.le_of_ble_eq_true rfl) ?_
  intro p e s m args below meth c Q ls hx hb hml hown hts hl w hend
  have hl : lv_has ls 2 [(0, .int (iI v)), (1, .int (iI u))] := hl
  refine lv_iload_n hx hb dX6_isFor_0 rfl (lv_at hl 0 rfl) ?_
  refine ri_if_ne (tgt := 15) hx hb dX6_isFor_1 (by decide) (by omega) (fun c1 => ?_) (fun c1 => ?_)
  · refine lv_iload_n hx hb dX6_isFor_15 rfl (lv_at hl 0 rfl) ?_
    refine ri_iconst hx hb dX6_isFor_16 ?_
    refine ri_icmp_ne (tgt := 31) hx hb dX6_isFor_17 (by decide) (by omega) (by omega) (fun c2 => ?_) (fun c2 => ?_)
    · refine lv_iload_n hx hb dX6_isFor_31 rfl (lv_at hl 0 rfl) ?_
      refine ri_iconst hx hb dX6_isFor_32 ?_
      refine ri_icmp_ne (tgt := 46) hx hb dX6_isFor_33 (by decide) (by omega) (by omega) (fun c3 => ?_) (fun c3 => ?_)
      · refine lv_iload_n hx hb dX6_isFor_46 rfl (lv_at hl 0 rfl) ?_
        refine ri_iconst hx hb dX6_isFor_47 ?_
        refine ri_icmp_ne (tgt := 60) hx hb dX6_isFor_48 (by decide) (by omega) (by omega) (fun c4 => ?_) (fun c4 => ?_)
        · refine lv_iload_n hx hb dX6_isFor_60 rfl (lv_at hl 1 rfl) ?_
          refine ri_iconst hx hb dX6_isFor_61 ?_
          refine ri_iconst hx hb dX6_isFor_62 ?_
          refine call_rS (As := [.int (iI u), .int (iI 0), .int (iI 1)]) (rest := []) hx hb (hml.trans hl.1.symm) hown hts w lk_RX6_34 (t_X6_in l g u 0 1 (by omega) (by omega) (by omega)) [] rfl rfl rfl rfl (Nat.le_of_ble_eq_true rfl) ⟨Nat.le_of_ble_eq_true rfl, Nat.le_of_ble_eq_true rfl⟩ ⟨Nat.le_of_ble_eq_true rfl, Nat.le_of_ble_eq_true rfl⟩ dX6_isFor_63 ?_
          exact hend.2 _ (congrArg (fun z => some (Value.int (iI z))) (show (if S_ok v u then 1 else 0) = (if 0 ≤ u ∧ u ≤ 1 then 1 else 0) from by first | omega | (split <;> omega))) ⟨_, rfl, (nz (by omega))⟩ _ _ dX6_isFor_66
        · refine lv_iload_n hx hb dX6_isFor_51 rfl (lv_at hl 1 rfl) ?_
          refine ri_iconst hx hb dX6_isFor_52 ?_
          refine ri_iconst hx hb dX6_isFor_53 ?_
          refine call_rS (As := [.int (iI u), .int (iI 0), .int (iI 4)]) (rest := []) hx hb (hml.trans hl.1.symm) hown hts w lk_RX6_34 (t_X6_in l g u 0 4 (by omega) (by omega) (by omega)) [] rfl rfl rfl rfl (Nat.le_of_ble_eq_true rfl) ⟨Nat.le_of_ble_eq_true rfl, Nat.le_of_ble_eq_true rfl⟩ ⟨Nat.le_of_ble_eq_true rfl, Nat.le_of_ble_eq_true rfl⟩ dX6_isFor_54 ?_
          refine lv_goto (tgt := 66) hx hb dX6_isFor_57 (by decide) ?_
          exact hend.2 _ (congrArg (fun z => some (Value.int (iI z))) (show (if S_ok v u then 1 else 0) = (if 0 ≤ u ∧ u ≤ 4 then 1 else 0) from by first | omega | (split <;> omega))) ⟨_, rfl, (nz (by omega))⟩ _ _ dX6_isFor_66
      · refine lv_iload_n hx hb dX6_isFor_36 rfl (lv_at hl 1 rfl) ?_
        refine ri_iconst hx hb dX6_isFor_37 ?_
        refine ri_bipush hx hb dX6_isFor_38 (by decide) ?_
        refine call_rS (As := [.int (iI u), .int (iI 0), .int (iI 8)]) (rest := []) hx hb (hml.trans hl.1.symm) hown hts w lk_RX6_34 (t_X6_in l g u 0 8 (by omega) (by omega) (by omega)) [] rfl rfl rfl rfl (Nat.le_of_ble_eq_true rfl) ⟨Nat.le_of_ble_eq_true rfl, Nat.le_of_ble_eq_true rfl⟩ ⟨Nat.le_of_ble_eq_true rfl, Nat.le_of_ble_eq_true rfl⟩ dX6_isFor_40 ?_
        refine lv_goto (tgt := 66) hx hb dX6_isFor_43 (by decide) ?_
        exact hend.2 _ (congrArg (fun z => some (Value.int (iI z))) (show (if S_ok v u then 1 else 0) = (if 0 ≤ u ∧ u ≤ 8 then 1 else 0) from by first | omega | (split <;> omega))) ⟨_, rfl, (nz (by omega))⟩ _ _ dX6_isFor_66
    · refine lv_iload_n hx hb dX6_isFor_20 rfl (lv_at hl 1 rfl) ?_
      refine ri_iconst hx hb dX6_isFor_21 ?_
      refine ri_sipush hx hb dX6_isFor_22 (by decide) ?_
      refine call_rS (As := [.int (iI u), .int (iI 1), .int (iI 999)]) (rest := []) hx hb (hml.trans hl.1.symm) hown hts w lk_RX6_34 (t_X6_in l g u 1 999 (by omega) (by omega) (by omega)) [] rfl rfl rfl rfl (Nat.le_of_ble_eq_true rfl) ⟨Nat.le_of_ble_eq_true rfl, Nat.le_of_ble_eq_true rfl⟩ ⟨Nat.le_of_ble_eq_true rfl, Nat.le_of_ble_eq_true rfl⟩ dX6_isFor_25 ?_
      refine lv_goto (tgt := 66) hx hb dX6_isFor_28 (by decide) ?_
      exact hend.2 _ (congrArg (fun z => some (Value.int (iI z))) (show (if S_ok v u then 1 else 0) = (if 1 ≤ u ∧ u ≤ 999 then 1 else 0) from by first | omega | (split <;> omega))) ⟨_, rfl, (nz (by omega))⟩ _ _ dX6_isFor_66
  · refine lv_iload_n hx hb dX6_isFor_4 rfl (lv_at hl 1 rfl) ?_
    refine ri_bipush hx hb dX6_isFor_5 (by decide) ?_
    refine ri_bipush hx hb dX6_isFor_7 (by decide) ?_
    refine call_rS (As := [.int (iI u), .int (iI 10), .int (iI 100)]) (rest := []) hx hb (hml.trans hl.1.symm) hown hts w lk_RX6_34 (t_X6_in l g u 10 100 (by omega) (by omega) (by omega)) [] rfl rfl rfl rfl (Nat.le_of_ble_eq_true rfl) ⟨Nat.le_of_ble_eq_true rfl, Nat.le_of_ble_eq_true rfl⟩ ⟨Nat.le_of_ble_eq_true rfl, Nat.le_of_ble_eq_true rfl⟩ dX6_isFor_9 ?_
    refine lv_goto (tgt := 66) hx hb dX6_isFor_12 (by decide) ?_
    exact hend.2 _ (congrArg (fun z => some (Value.int (iI z))) (show (if S_ok v u then 1 else 0) = (if 10 ≤ u ∧ u ≤ 100 then 1 else 0) from by first | omega | (split <;> omega))) ⟨_, rfl, (nz (by omega))⟩ _ _ dX6_isFor_66

set_option maxHeartbeats 4000000 in
set_option maxRecDepth 100000 in
theorem t_X6_set (l : Launch) (g : GG) (b : Nat → Nat) (N : Int) (B : Nat → Int → Int) (X : Nat → Int → Int) (v : Int) (u : Int) (hW : WB N B) (hP : PastOk B (X 2)) (h1 : -2147483648 ≤ v ∧ v ≤ 2147483647) (h2 : -2147483648 ≤ u ∧ u ≤ 2147483647) (sz : Nat) : Met l yX6_set (wm yX6_set cX6_set 4 (some .int)) (rmm 3 0 0) (pW g (mo_ws g b B X) sz [.ref (b 0), .int (iI v), .int (iI u)]) (qW g (mo_ws g b B X) (fun vv ww => vv = some (.int (iI (c_set B v u).1)) ∧ ∃ X', ww = mo_ws g b (c_set B v u).2 X' ∧ PastOk (c_set B v u).2 (X' 2))) 0 0 (va_A (mo_ws g b B X) sz) := by
  have hk := hW.k
  have hj := hW.j
  have htl := hW.tl
  have hrf := hW.rf
  have hTx := hW.tx
  have hrr := hW.rr
  have hW0 := hW.1
  refine met_w (by decide) (Nat.le_of_ble_eq_true rfl) ?_
  intro p e s m args below meth c Q ls A hx hb hml hown hts hl w hin hend
  obtain ⟨H, hH0⟩ : ∃ H, H = s.heap := ⟨_, rfl⟩
  obtain ⟨locs, hL0⟩ : ∃ locs : List Loc, locs = [] := ⟨_, rfl⟩
  rw [← hH0, ← hL0] at w
  rw [← hH0, ← hL0]
  have hl : lv_has ls 4 [(0, .ref (b 0)), (1, .int (iI v)), (2, .int (iI u))] := hl
  refine lv_iload_n hx hb dX6_set_0 rfl (lv_at hl 1 rfl) ?_
  refine ri_iconst hx hb dX6_set_1 ?_
  refine ri_iconst hx hb dX6_set_2 ?_
  refine call_rS (As := [.int (iI v), .int (iI 0), .int (iI 4)]) (rest := []) hx hb (hml.trans hl.1.symm) hown hts w lk_RX6_34 (t_X6_in l g v 0 4 (by omega) (by omega) (by omega)) [] rfl rfl rfl rfl (Nat.le_of_ble_eq_true rfl) ⟨Nat.le_of_ble_eq_true rfl, Nat.le_of_ble_eq_true rfl⟩ ⟨Nat.le_of_ble_eq_true rfl, Nat.le_of_ble_eq_true rfl⟩ dX6_set_3 ?_
  refine ri_ifb_ne (tgt := 11) hx hb dX6_set_6 (by decide) (fun c1 => ?_) (fun c1 => ?_)
  · refine lv_iload_n hx hb dX6_set_11 rfl (lv_at hl 1 rfl) ?_
    refine lv_iload_n hx hb dX6_set_12 rfl (lv_at hl 2 rfl) ?_
    refine call_rS (As := [.int (iI v), .int (iI u)]) (rest := []) hx hb (hml.trans hl.1.symm) hown hts w lk_RX6_145 (t_X6_isFor l g v u (by omega) (by omega)) [] rfl rfl rfl rfl (Nat.le_of_ble_eq_true rfl) ⟨Nat.le_of_ble_eq_true rfl, Nat.le_of_ble_eq_true rfl⟩ ⟨Nat.le_of_ble_eq_true rfl, Nat.le_of_ble_eq_true rfl⟩ dX6_set_13 ?_
    refine ri_ifb_ne (tgt := 22) hx hb dX6_set_16 (by decide) (fun c2 => ?_) (fun c2 => ?_)
    · refine lv_aload_n hx hb dX6_set_22 rfl (lv_at hl 0 rfl) ?_
      refine ri_get (v := .ref (b 1)) hx hb hts hown w fX6 0 0 (W0_of k_fl_RX6_7 rfl) rfl rfl (by decide) dX6_set_23 ?_
      refine ri_iconst hx hb dX6_set_26 ?_
      refine lv_iload_n hx hb dX6_set_27 rfl (lv_at hl 1 rfl) ?_
      refine ri_iadd (z := v + 1) hx hb dX6_set_28 (by omega) ?_
      refine ri_iald (f := B 0) (v := (B 0) (v + 1)) hx hb w 1 rfl (by omega) (rfl) dX6_set_29 (by omega) ?_
      have r3 := hW0.bd (v + 1)
      refine lv_istore_n (lv' := [(3, .int (iI ((B 0) (v + 1)))), (0, .ref (b 0)), (1, .int (iI v)), (2, .int (iI u))]) hx hb dX6_set_30 rfl hl (by decide) rfl (fun ls hl => ?_)
      refine lv_iload_n hx hb dX6_set_31 rfl (lv_at hl 0 rfl) ?_
      refine lv_iload_n hx hb dX6_set_32 rfl (lv_at hl 3 rfl) ?_
      refine ri_icmp_ne (tgt := 39) hx hb dX6_set_33 (by decide) (by omega) (by omega) (fun c4 => ?_) (fun c4 => ?_)
      · refine lv_aload_n hx hb dX6_set_39 rfl (lv_at hl 1 rfl) ?_
        refine call_wV (wr := []) (As := []) (rest := []) hx hb (hml.trans hl.1.symm) hown hts w lk_RX6_46 (fun sz => t_X6_records l g b _ B X  (hW) hP  sz) [0, 1, 2, 3, 4, 5, 6, 7, 8] [] rfl rfl rfl rfl (by decide) (call_recv w (q0 := 0) rfl fX6.1) rfl rfl (Nat.le_of_ble_eq_true rfl) ⟨Nat.le_of_ble_eq_true rfl, Nat.le_of_ble_eq_true rfl⟩ ⟨Nat.le_of_ble_eq_true rfl, Nat.le_of_ble_eq_true rfl⟩ dX6_set_40 (fun v w1 H locs hr w => ?_)
        obtain ⟨rfl, P5, rfl, hP5⟩ := hr
        have w : Wd g A (mo_ws g b (b_rec B) (upT X 2 P5)) s H locs := w
        have hBu : Bd (up (B 0) (v + 1) u) := hW0.b.up (by omega)
        refine lv_aload_n hx hb dX6_set_43 rfl (lv_at hl 1 rfl) ?_
        refine ri_get (v := .ref (b 1)) hx hb hts hown w fX6 0 0 (W0_of k_fl_RX6_7 rfl) rfl rfl (by decide) dX6_set_44 ?_
        refine ri_iconst hx hb dX6_set_47 ?_
        refine lv_iload_n hx hb dX6_set_48 rfl (lv_at hl 2 rfl) ?_
        refine ri_iadd (z := v + 1) hx hb dX6_set_49 (by omega) ?_
        refine lv_iload_n hx hb dX6_set_50 rfl (lv_at hl 3 rfl) ?_
        refine ri_iast hx hb w 1 rfl (by omega) dX6_set_51 (by omega) (fun H locs w => ?_)
        have w : Wd g A (mo_ws g b (upT (b_rec B) 0 (up (B 0) (v + 1) u)) (upT X 2 P5)) s H locs := w
        refine lv_aload_n hx hb dX6_set_52 rfl (lv_at hl 1 rfl) ?_
        refine ri_get (v := .ref (b 1)) hx hb hts hown w fX6 0 0 (W0_of k_fl_RX6_7 rfl) rfl rfl (by decide) dX6_set_53 ?_
        refine ri_bipush hx hb dX6_set_56 (by decide) ?_
        refine lv_aload_n hx hb dX6_set_58 rfl (lv_at hl 1 rfl) ?_
        refine ri_get (v := .ref (b 1)) hx hb hts hown w fX6 0 0 (W0_of k_fl_RX6_7 rfl) rfl rfl (by decide) dX6_set_59 ?_
        refine ri_bipush hx hb dX6_set_62 (by decide) ?_
        refine ri_iald (f := up (B 0) (v + 1) u) (v := (up (B 0) (v + 1) u) 11) hx hb w 1 rfl (by omega) (rfl) dX6_set_64 (by omega) ?_
        have r6 := hBu.bd 11
        refine lv_aload_n hx hb dX6_set_65 rfl (lv_at hl 1 rfl) ?_
        refine ri_get (v := .ref (b 1)) hx hb hts hown w fX6 0 0 (W0_of k_fl_RX6_7 rfl) rfl rfl (by decide) dX6_set_66 ?_
        refine ri_iconst hx hb dX6_set_69 ?_
        refine ri_iald (f := up (B 0) (v + 1) u) (v := (up (B 0) (v + 1) u) 4) hx hb w 1 rfl (by omega) (rfl) dX6_set_70 (by omega) ?_
        have r7 := hBu.bd 4
        refine ri_icmp_le (tgt := 83) hx hb dX6_set_71 (by decide) (by omega) (by omega) (fun c8 => ?_) (fun c8 => ?_)
        · refine lv_aload_n hx hb dX6_set_83 rfl (lv_at hl 1 rfl) ?_
          refine ri_get (v := .ref (b 1)) hx hb hts hown w fX6 0 0 (W0_of k_fl_RX6_7 rfl) rfl rfl (by decide) dX6_set_84 ?_
          refine ri_bipush hx hb dX6_set_87 (by decide) ?_
          refine ri_iald (f := up (B 0) (v + 1) u) (v := (up (B 0) (v + 1) u) 11) hx hb w 1 rfl (by omega) (rfl) dX6_set_89 (by omega) ?_
          refine ri_iast hx hb w 1 rfl (by omega) dX6_set_90 (by omega) (fun H locs w => ?_)
          have w : Wd g A (mo_ws g b (upT (b_rec B) 0 (up (up (B 0) (v + 1) u) 11 ((up (B 0) (v + 1) u) 11))) (upT X 2 P5)) s H locs := w
          refine lv_iload_n hx hb dX6_set_91 rfl (lv_at hl 0 rfl) ?_
          have e8 : c_set B v u = ((B 0) (v + 1), upT (b_rec B) 0 (up (up (B 0) (v + 1) u) 11 ((up (B 0) (v + 1) u) 11))) := by unfold c_set; rw [if_neg (by first | omega | assumption | (intro hh; exact hh (by assumption))), if_neg (by first | omega | assumption | (intro hh; exact hh (by assumption))), if_neg (by first | omega | assumption | (intro hh; exact hh (by assumption)))]; unfold r_set; first | rw [if_pos (by omega)] | rw [if_neg (by omega)]
          exact hend.2 _ _ _ _ ⟨_, rfl, rfl⟩ _ _ dX6_set_92 w (by rw [e8]; exact ⟨rfl, (upT X 2 P5), rfl, hP5⟩)
        · refine lv_aload_n hx hb dX6_set_74 rfl (lv_at hl 1 rfl) ?_
          refine ri_get (v := .ref (b 1)) hx hb hts hown w fX6 0 0 (W0_of k_fl_RX6_7 rfl) rfl rfl (by decide) dX6_set_75 ?_
          refine ri_iconst hx hb dX6_set_78 ?_
          refine ri_iald (f := up (B 0) (v + 1) u) (v := (up (B 0) (v + 1) u) 4) hx hb w 1 rfl (by omega) (rfl) dX6_set_79 (by omega) ?_
          refine lv_goto (tgt := 90) hx hb dX6_set_80 (by decide) ?_
          refine ri_iast hx hb w 1 rfl (by omega) dX6_set_90 (by omega) (fun H locs w => ?_)
          have w : Wd g A (mo_ws g b (upT (b_rec B) 0 (up (up (B 0) (v + 1) u) 11 ((up (B 0) (v + 1) u) 4))) (upT X 2 P5)) s H locs := w
          refine lv_iload_n hx hb dX6_set_91 rfl (lv_at hl 0 rfl) ?_
          have e8 : c_set B v u = ((B 0) (v + 1), upT (b_rec B) 0 (up (up (B 0) (v + 1) u) 11 ((up (B 0) (v + 1) u) 4))) := by unfold c_set; rw [if_neg (by first | omega | assumption | (intro hh; exact hh (by assumption))), if_neg (by first | omega | assumption | (intro hh; exact hh (by assumption))), if_neg (by first | omega | assumption | (intro hh; exact hh (by assumption)))]; unfold r_set; first | rw [if_pos (by omega)] | rw [if_neg (by omega)]
          exact hend.2 _ _ _ _ ⟨_, rfl, rfl⟩ _ _ dX6_set_92 w (by rw [e8]; exact ⟨rfl, (upT X 2 P5), rfl, hP5⟩)
      · refine ri_bipush hx hb dX6_set_36 (by decide) ?_
        have e8 : c_set B v u = (-5, B) := by unfold c_set; rw [if_neg (by first | omega | assumption | (intro hh; exact hh (by assumption))), if_neg (by first | omega | assumption | (intro hh; exact hh (by assumption))), if_pos (by first | omega | assumption | (intro hh; exact absurd hh (by assumption)))]
        exact hend.2 _ _ _ _ ⟨_, rfl, rfl⟩ _ _ dX6_set_38 w (by rw [e8]; exact ⟨rfl, X, rfl, hP⟩)
    · refine ri_bipush hx hb dX6_set_19 (by decide) ?_
      have e8 : c_set B v u = (-2, B) := by unfold c_set; rw [if_neg (by first | omega | assumption | (intro hh; exact hh (by assumption))), if_pos (by first | omega | assumption | (intro hh; exact absurd hh (by assumption)))]
      exact hend.2 _ _ _ _ ⟨_, rfl, rfl⟩ _ _ dX6_set_21 w (by rw [e8]; exact ⟨rfl, X, rfl, hP⟩)
  · refine ri_iconst hx hb dX6_set_9 ?_
    have e8 : c_set B v u = (-1, B) := by unfold c_set; rw [if_pos (by first | omega | assumption | (intro hh; exact absurd hh (by assumption)))]
    exact hend.2 _ _ _ _ ⟨_, rfl, rfl⟩ _ _ dX6_set_10 w (by rw [e8]; exact ⟨rfl, X, rfl, hP⟩)

set_option maxHeartbeats 4000000 in
set_option maxRecDepth 100000 in
theorem t_X6_setKind (l : Launch) (g : GG) (b : Nat → Nat) (N : Int) (B : Nat → Int → Int) (X : Nat → Int → Int) (v : Int) (u : Int) (hW : WB N B) (hP : PastOk B (X 2)) (h1 : -2147483648 ≤ v ∧ v ≤ 2147483647) (h2 : -2147483648 ≤ u ∧ u ≤ 2147483647) (sz : Nat) : Met l yX6_setKind (wm yX6_setKind cX6_setKind 4 (some .int)) (rmm 3 0 0) (pW g (mo_ws g b B X) sz [.ref (b 0), .int (iI v), .int (iI u)]) (qW g (mo_ws g b B X) (fun vv ww => vv = some (.int (iI (c_setKind B v u).1)) ∧ ∃ X', ww = mo_ws g b (c_setKind B v u).2 X' ∧ PastOk (c_setKind B v u).2 (X' 2))) 0 0 (va_A (mo_ws g b B X) sz) := by
  have hk := hW.k
  have hj := hW.j
  have htl := hW.tl
  have hrf := hW.rf
  have hTx := hW.tx
  have hrr := hW.rr
  have hW0 := hW.1
  refine met_w (by decide) (Nat.le_of_ble_eq_true rfl) ?_
  intro p e s m args below meth c Q ls A hx hb hml hown hts hl w hin hend
  obtain ⟨H, hH0⟩ : ∃ H, H = s.heap := ⟨_, rfl⟩
  obtain ⟨locs, hL0⟩ : ∃ locs : List Loc, locs = [] := ⟨_, rfl⟩
  rw [← hH0, ← hL0] at w
  rw [← hH0, ← hL0]
  have hl : lv_has ls 4 [(0, .ref (b 0)), (1, .int (iI v)), (2, .int (iI u))] := hl
  refine lv_iload_n hx hb dX6_setKind_0 rfl (lv_at hl 1 rfl) ?_
  refine call_rS (As := [.int (iI v)]) (rest := []) hx hb (hml.trans hl.1.symm) hown hts w lk_RX6_149 (t_X6_isBlock l g v (by omega)) [] rfl rfl rfl rfl (Nat.le_of_ble_eq_true rfl) ⟨Nat.le_of_ble_eq_true rfl, Nat.le_of_ble_eq_true rfl⟩ ⟨Nat.le_of_ble_eq_true rfl, Nat.le_of_ble_eq_true rfl⟩ dX6_setKind_1 ?_
  refine ri_ifb_ne (tgt := 9) hx hb dX6_setKind_4 (by decide) (fun c1 => ?_) (fun c1 => ?_)
  · refine lv_iload_n hx hb dX6_setKind_9 rfl (lv_at hl 2 rfl) ?_
    refine ri_iconst hx hb dX6_setKind_10 ?_
    refine ri_iconst hx hb dX6_setKind_11 ?_
    refine call_rS (As := [.int (iI u), .int (iI 0), .int (iI 2)]) (rest := []) hx hb (hml.trans hl.1.symm) hown hts w lk_RX6_34 (t_X6_in l g u 0 2 (by omega) (by omega) (by omega)) [] rfl rfl rfl rfl (Nat.le_of_ble_eq_true rfl) ⟨Nat.le_of_ble_eq_true rfl, Nat.le_of_ble_eq_true rfl⟩ ⟨Nat.le_of_ble_eq_true rfl, Nat.le_of_ble_eq_true rfl⟩ dX6_setKind_12 ?_
    refine ri_ifb_ne (tgt := 21) hx hb dX6_setKind_15 (by decide) (fun c2 => ?_) (fun c2 => ?_)
    · refine lv_aload_n hx hb dX6_setKind_21 rfl (lv_at hl 0 rfl) ?_
      refine ri_get (v := .ref (b 1)) hx hb hts hown w fX6 0 0 (W0_of k_fl_RX6_7 rfl) rfl rfl (by decide) dX6_setKind_22 ?_
      refine lv_iload_n hx hb dX6_setKind_25 rfl (lv_at hl 1 rfl) ?_
      refine call_rS (As := [.ref (b 1), .int (iI v)]) (rest := []) hx hb (hml.trans hl.1.symm) hown hts w lk_RX6_64 (t_X6_isFree l g (b 1) (B 0) v (hW0.b) (by omega)) [1] rfl rfl rfl rfl (Nat.le_of_ble_eq_true rfl) ⟨Nat.le_of_ble_eq_true rfl, Nat.le_of_ble_eq_true rfl⟩ ⟨Nat.le_of_ble_eq_true rfl, Nat.le_of_ble_eq_true rfl⟩ dX6_setKind_26 ?_
      refine ri_ifb_ne (tgt := 35) hx hb dX6_setKind_29 (by decide) (fun c3 => ?_) (fun c3 => ?_)
      · refine lv_aload_n hx hb dX6_setKind_35 rfl (lv_at hl 0 rfl) ?_
        refine ri_get (v := .ref (b 1)) hx hb hts hown w fX6 0 0 (W0_of k_fl_RX6_7 rfl) rfl rfl (by decide) dX6_setKind_36 ?_
        refine lv_iload_n hx hb dX6_setKind_39 rfl (lv_at hl 1 rfl) ?_
        refine call_rS (As := [.ref (b 1), .int (iI v)]) (rest := []) hx hb (hml.trans hl.1.symm) hown hts w lk_RX6_57 (t_X6_kind l g (b 1) (B 0) v (4 * v + 41) (by omega) (by omega)) [1] rfl rfl rfl rfl (Nat.le_of_ble_eq_true rfl) ⟨Nat.le_of_ble_eq_true rfl, Nat.le_of_ble_eq_true rfl⟩ ⟨Nat.le_of_ble_eq_true rfl, Nat.le_of_ble_eq_true rfl⟩ dX6_setKind_40 ?_
        have r4 := hW0.bd (4 * v + 41)
        refine lv_istore_n (lv' := [(3, .int (iI ((B 0) (4 * v + 41)))), (0, .ref (b 0)), (1, .int (iI v)), (2, .int (iI u))]) hx hb dX6_setKind_43 rfl hl (by decide) rfl (fun ls hl => ?_)
        refine lv_iload_n hx hb dX6_setKind_44 rfl (lv_at hl 0 rfl) ?_
        refine lv_iload_n hx hb dX6_setKind_45 rfl (lv_at hl 3 rfl) ?_
        refine ri_icmp_ne (tgt := 52) hx hb dX6_setKind_46 (by decide) (by omega) (by omega) (fun c5 => ?_) (fun c5 => ?_)
        · refine lv_aload_n hx hb dX6_setKind_52 rfl (lv_at hl 1 rfl) ?_
          refine call_wV (wr := []) (As := []) (rest := []) hx hb (hml.trans hl.1.symm) hown hts w lk_RX6_46 (fun sz => t_X6_records l g b _ B X  (hW) hP  sz) [0, 1, 2, 3, 4, 5, 6, 7, 8] [] rfl rfl rfl rfl (by decide) (call_recv w (q0 := 0) rfl fX6.1) rfl rfl (Nat.le_of_ble_eq_true rfl) ⟨Nat.le_of_ble_eq_true rfl, Nat.le_of_ble_eq_true rfl⟩ ⟨Nat.le_of_ble_eq_true rfl, Nat.le_of_ble_eq_true rfl⟩ dX6_setKind_53 (fun v w1 H locs hr w => ?_)
          obtain ⟨rfl, P6, rfl, hP6⟩ := hr
          have w : Wd g A (mo_ws g b (b_rec B) (upT X 2 P6)) s H locs := w
          refine lv_aload_n hx hb dX6_setKind_56 rfl (lv_at hl 1 rfl) ?_
          refine ri_get (v := .ref (b 1)) hx hb hts hown w fX6 0 0 (W0_of k_fl_RX6_7 rfl) rfl rfl (by decide) dX6_setKind_57 ?_
          refine ri_bipush hx hb dX6_setKind_60 (by decide) ?_
          refine ri_iconst hx hb dX6_setKind_62 ?_
          refine lv_iload_n hx hb dX6_setKind_63 rfl (lv_at hl 2 rfl) ?_
          refine ri_imul (z := 4 * v) hx hb dX6_setKind_64 rfl ?_
          refine ri_iadd (z := 4 * v + 41) hx hb dX6_setKind_65 (by omega) ?_
          refine lv_iload_n hx hb dX6_setKind_66 rfl (lv_at hl 3 rfl) ?_
          refine ri_iast hx hb w 1 rfl (by omega) dX6_setKind_67 (by omega) (fun H locs w => ?_)
          have w : Wd g A (mo_ws g b (upT (b_rec B) 0 (up (B 0) (4 * v + 41) u)) (upT X 2 P6)) s H locs := w
          refine lv_iload_n hx hb dX6_setKind_68 rfl (lv_at hl 0 rfl) ?_
          have e8 : c_setKind B v u = ((B 0) (4 * v + 41), upT (b_rec B) 0 (up (B 0) (4 * v + 41) u)) := by unfold c_setKind; rw [if_neg (by first | omega | assumption | (intro hh; exact hh (by assumption))), if_neg (by first | omega | assumption | (intro hh; exact hh (by assumption))), if_neg (by first | omega | assumption | (intro hh; exact hh (by assumption))), if_neg (by first | omega | assumption | (intro hh; exact hh (by assumption)))]
          exact hend.2 _ _ _ _ ⟨_, rfl, rfl⟩ _ _ dX6_setKind_69 w (by rw [e8]; exact ⟨rfl, (upT X 2 P6), rfl, hP6⟩)
        · refine ri_bipush hx hb dX6_setKind_49 (by decide) ?_
          have e8 : c_setKind B v u = (-5, B) := by unfold c_setKind; rw [if_neg (by first | omega | assumption | (intro hh; exact hh (by assumption))), if_neg (by first | omega | assumption | (intro hh; exact hh (by assumption))), if_neg (by first | omega | assumption | (intro hh; exact hh (by assumption))), if_pos (by first | omega | assumption | (intro hh; exact absurd hh (by assumption)))]
          exact hend.2 _ _ _ _ ⟨_, rfl, rfl⟩ _ _ dX6_setKind_51 w (by rw [e8]; exact ⟨rfl, X, rfl, hP⟩)
      · refine ri_bipush hx hb dX6_setKind_32 (by decide) ?_
        have e8 : c_setKind B v u = (-4, B) := by unfold c_setKind; rw [if_neg (by first | omega | assumption | (intro hh; exact hh (by assumption))), if_neg (by first | omega | assumption | (intro hh; exact hh (by assumption))), if_pos (by first | omega | assumption | (intro hh; exact absurd hh (by assumption)))]
        exact hend.2 _ _ _ _ ⟨_, rfl, rfl⟩ _ _ dX6_setKind_34 w (by rw [e8]; exact ⟨rfl, X, rfl, hP⟩)
    · refine ri_bipush hx hb dX6_setKind_18 (by decide) ?_
      have e8 : c_setKind B v u = (-2, B) := by unfold c_setKind; rw [if_neg (by first | omega | assumption | (intro hh; exact hh (by assumption))), if_pos (by first | omega | assumption | (intro hh; exact absurd hh (by assumption)))]
      exact hend.2 _ _ _ _ ⟨_, rfl, rfl⟩ _ _ dX6_setKind_20 w (by rw [e8]; exact ⟨rfl, X, rfl, hP⟩)
  · refine ri_iconst hx hb dX6_setKind_7 ?_
    have e8 : c_setKind B v u = (-1, B) := by unfold c_setKind; rw [if_pos (by first | omega | assumption | (intro hh; exact absurd hh (by assumption)))]
    exact hend.2 _ _ _ _ ⟨_, rfl, rfl⟩ _ _ dX6_setKind_8 w (by rw [e8]; exact ⟨rfl, X, rfl, hP⟩)

set_option maxHeartbeats 4000000 in
set_option maxRecDepth 100000 in
theorem t_X6_mark (l : Launch) (g : GG) (b : Nat → Nat) (N : Int) (B : Nat → Int → Int) (X : Nat → Int → Int) (v : Int) (i : Int) (hW : WB N B) (hP : PastOk B (X 2)) (h1 : -2147483648 ≤ v ∧ v ≤ 2147483647) (hi : i = 0 ∨ i = 1) (sz : Nat) : Met l yX6_mark (wm yX6_mark cX6_mark 4 (some .int)) (rmm 5 0 0) (pW g (mo_ws g b B X) sz [.ref (b 0), .int (iI v), .int (iI i)]) (qW g (mo_ws g b B X) (fun vv ww => vv = some (.int (iI (c_mark B v i).1)) ∧ ∃ X', ww = mo_ws g b (c_mark B v i).2 X' ∧ PastOk (c_mark B v i).2 (X' 2))) 0 0 (va_A (mo_ws g b B X) sz) := by
  have hk := hW.k
  have hj := hW.j
  have htl := hW.tl
  have hrf := hW.rf
  have hTx := hW.tx
  have hrr := hW.rr
  have hW0 := hW.1
  refine met_w (by decide) (Nat.le_of_ble_eq_true rfl) ?_
  intro p e s m args below meth c Q ls A hx hb hml hown hts hl w hin hend
  obtain ⟨H, hH0⟩ : ∃ H, H = s.heap := ⟨_, rfl⟩
  obtain ⟨locs, hL0⟩ : ∃ locs : List Loc, locs = [] := ⟨_, rfl⟩
  rw [← hH0, ← hL0] at w
  rw [← hH0, ← hL0]
  have hl : lv_has ls 4 [(0, .ref (b 0)), (1, .int (iI v)), (2, .int (iI i))] := hl
  refine lv_iload_n hx hb dX6_mark_0 rfl (lv_at hl 1 rfl) ?_
  refine call_rS (As := [.int (iI v)]) (rest := []) hx hb (hml.trans hl.1.symm) hown hts w lk_RX6_149 (t_X6_isBlock l g v (by omega)) [] rfl rfl rfl rfl (Nat.le_of_ble_eq_true rfl) ⟨Nat.le_of_ble_eq_true rfl, Nat.le_of_ble_eq_true rfl⟩ ⟨Nat.le_of_ble_eq_true rfl, Nat.le_of_ble_eq_true rfl⟩ dX6_mark_1 ?_
  refine ri_ifb_ne (tgt := 9) hx hb dX6_mark_4 (by decide) (fun c1 => ?_) (fun c1 => ?_)
  · refine lv_aload_n hx hb dX6_mark_9 rfl (lv_at hl 0 rfl) ?_
    refine ri_get (v := .ref (b 1)) hx hb hts hown w fX6 0 0 (W0_of k_fl_RX6_7 rfl) rfl rfl (by decide) dX6_mark_10 ?_
    refine lv_iload_n hx hb dX6_mark_13 rfl (lv_at hl 1 rfl) ?_
    refine call_rS (As := [.ref (b 1), .int (iI v)]) (rest := []) hx hb (hml.trans hl.1.symm) hown hts w lk_RX6_64 (t_X6_isFree l g (b 1) (B 0) v (hW0.b) (by omega)) [1] rfl rfl rfl rfl (Nat.le_of_ble_eq_true rfl) ⟨Nat.le_of_ble_eq_true rfl, Nat.le_of_ble_eq_true rfl⟩ ⟨Nat.le_of_ble_eq_true rfl, Nat.le_of_ble_eq_true rfl⟩ dX6_mark_14 ?_
    refine ri_ifb_eq (tgt := 23) hx hb dX6_mark_17 (by decide) (fun c2 => ?_) (fun c2 => ?_)
    · refine lv_iload_n hx hb dX6_mark_23 rfl (lv_at hl 2 rfl) ?_
      refine ri_if_eq (tgt := 31) hx hb dX6_mark_24 (by decide) (by omega) (fun c3 => ?_) (fun c3 => ?_)
      · refine ri_iconst hx hb dX6_mark_31 ?_
        refine lv_istore_n (lv' := [(3, .int (iI 0)), (0, .ref (b 0)), (1, .int (iI v)), (2, .int (iI i))]) hx hb dX6_mark_32 rfl hl (by decide) rfl (fun ls hl => ?_)
        refine lv_aload_n hx hb dX6_mark_33 rfl (lv_at hl 1 rfl) ?_
        refine ri_get (v := .ref (b 1)) hx hb hts hown w fX6 0 0 (W0_of k_fl_RX6_7 rfl) rfl rfl (by decide) dX6_mark_34 ?_
        refine ri_bipush hx hb dX6_mark_37 (by decide) ?_
        refine ri_iconst hx hb dX6_mark_39 ?_
        refine lv_iload_n hx hb dX6_mark_40 rfl (lv_at hl 2 rfl) ?_
        refine ri_imul (z := 4 * v) hx hb dX6_mark_41 rfl ?_
        refine ri_iadd (z := 4 * v + 41) hx hb dX6_mark_42 (by omega) ?_
        refine ri_iconst hx hb dX6_mark_43 ?_
        refine ri_iadd (z := 4 * v + 43) hx hb dX6_mark_44 (by omega) ?_
        refine ri_iald (f := B 0) (v := (B 0) (4 * v + 43)) hx hb w 1 rfl (by omega) (rfl) dX6_mark_45 (by omega) ?_
        have r4 := hW0.bd (4 * v + 43)
        refine lv_iload_n hx hb dX6_mark_46 rfl (lv_at hl 0 rfl) ?_
        refine ri_icmp_ne (tgt := 53) hx hb dX6_mark_47 (by decide) (by omega) (by omega) (fun c5 => ?_) (fun c5 => ?_)
        · refine lv_aload_n hx hb dX6_mark_53 rfl (lv_at hl 1 rfl) ?_
          refine call_wV (wr := []) (As := []) (rest := []) hx hb (hml.trans hl.1.symm) hown hts w lk_RX6_46 (fun sz => t_X6_records l g b _ B X  (hW) hP  sz) [0, 1, 2, 3, 4, 5, 6, 7, 8] [] rfl rfl rfl rfl (by decide) (call_recv w (q0 := 0) rfl fX6.1) rfl rfl (Nat.le_of_ble_eq_true rfl) ⟨Nat.le_of_ble_eq_true rfl, Nat.le_of_ble_eq_true rfl⟩ ⟨Nat.le_of_ble_eq_true rfl, Nat.le_of_ble_eq_true rfl⟩ dX6_mark_54 (fun v w1 H locs hr w => ?_)
          obtain ⟨rfl, P6, rfl, hP6⟩ := hr
          have w : Wd g A (mo_ws g b (b_rec B) (upT X 2 P6)) s H locs := w
          refine lv_aload_n hx hb dX6_mark_57 rfl (lv_at hl 1 rfl) ?_
          refine ri_get (v := .ref (b 1)) hx hb hts hown w fX6 0 0 (W0_of k_fl_RX6_7 rfl) rfl rfl (by decide) dX6_mark_58 ?_
          refine ri_bipush hx hb dX6_mark_61 (by decide) ?_
          refine ri_iconst hx hb dX6_mark_63 ?_
          refine lv_iload_n hx hb dX6_mark_64 rfl (lv_at hl 2 rfl) ?_
          refine ri_imul (z := 4 * v) hx hb dX6_mark_65 rfl ?_
          refine ri_iadd (z := 4 * v + 41) hx hb dX6_mark_66 (by omega) ?_
          refine ri_iconst hx hb dX6_mark_67 ?_
          refine ri_iadd (z := 4 * v + 43) hx hb dX6_mark_68 (by omega) ?_
          refine lv_iload_n hx hb dX6_mark_69 rfl (lv_at hl 0 rfl) ?_
          refine ri_iast hx hb w 1 rfl (by omega) dX6_mark_70 (by omega) (fun H locs w => ?_)
          have w : Wd g A (mo_ws g b (upT (b_rec B) 0 (up (B 0) (4 * v + 43) 0)) (upT X 2 P6)) s H locs := w
          have hWm := wf_mark hW0 (b := v) (i := 0) (by omega) (by omega)
          refine lv_aload_n hx hb dX6_mark_71 rfl (lv_at hl 1 rfl) ?_
          refine ri_get (v := .ref (b 1)) hx hb hts hown w fX6 0 0 (W0_of k_fl_RX6_7 rfl) rfl rfl (by decide) dX6_mark_72 ?_
          refine call_rS (As := [.ref (b 1)]) (rest := []) hx hb (hml.trans hl.1.symm) hown hts w lk_RX6_152 (t_X6_marks l g (b 1) _ (up (B 0) (4 * v + 43) 0)  (hWm) ) [1] rfl rfl rfl rfl (Nat.le_of_ble_eq_true rfl) ⟨Nat.le_of_ble_eq_true rfl, Nat.le_of_ble_eq_true rfl⟩ ⟨Nat.le_of_ble_eq_true rfl, Nat.le_of_ble_eq_true rfl⟩ dX6_mark_75 ?_
          have r7 := marks_rg (up (B 0) (4 * v + 43) 0)
          have e8 : c_mark B v i = (r_marks (up (B 0) (4 * v + 43) 0), upT (b_rec B) 0 (up (B 0) (4 * v + 43) 0)) := by first | (have hi1 : i = 1 := (by omega); subst hi1; unfold c_mark; rw [if_neg (by first | omega | assumption | (intro hh; exact hh (by assumption))), if_neg (by first | omega | assumption | (intro hh; exact hh (by assumption))), if_neg (by first | omega | assumption | (intro hh; exact hh (by assumption)))]) | (have hi1 : i = 0 := (by omega); subst hi1; unfold c_mark; rw [if_neg (by first | omega | assumption | (intro hh; exact hh (by assumption))), if_neg (by first | omega | assumption | (intro hh; exact hh (by assumption))), if_neg (by first | omega | assumption | (intro hh; exact hh (by assumption)))])
          exact hend.2 _ _ _ _ ⟨_, rfl, rfl⟩ _ _ dX6_mark_78 w (by rw [e8]; exact ⟨rfl, (upT X 2 P6), rfl, hP6⟩)
        · refine ri_bipush hx hb dX6_mark_50 (by decide) ?_
          have e8 : c_mark B v i = (-5, B) := by first | (have hi1 : i = 1 := (by omega); subst hi1; unfold c_mark; rw [if_neg (by first | omega | assumption | (intro hh; exact hh (by assumption))), if_neg (by first | omega | assumption | (intro hh; exact hh (by assumption))), if_pos (by first | omega | assumption | (intro hh; exact absurd hh (by assumption)))]) | (have hi1 : i = 0 := (by omega); subst hi1; unfold c_mark; rw [if_neg (by first | omega | assumption | (intro hh; exact hh (by assumption))), if_neg (by first | omega | assumption | (intro hh; exact hh (by assumption))), if_pos (by first | omega | assumption | (intro hh; exact absurd hh (by assumption)))])
          exact hend.2 _ _ _ _ ⟨_, rfl, rfl⟩ _ _ dX6_mark_52 w (by rw [e8]; exact ⟨rfl, X, rfl, hP⟩)
      · refine ri_iconst hx hb dX6_mark_27 ?_
        refine lv_goto (tgt := 32) hx hb dX6_mark_28 (by decide) ?_
        refine lv_istore_n (lv' := [(3, .int (iI 1)), (0, .ref (b 0)), (1, .int (iI v)), (2, .int (iI i))]) hx hb dX6_mark_32 rfl hl (by decide) rfl (fun ls hl => ?_)
        refine lv_aload_n hx hb dX6_mark_33 rfl (lv_at hl 1 rfl) ?_
        refine ri_get (v := .ref (b 1)) hx hb hts hown w fX6 0 0 (W0_of k_fl_RX6_7 rfl) rfl rfl (by decide) dX6_mark_34 ?_
        refine ri_bipush hx hb dX6_mark_37 (by decide) ?_
        refine ri_iconst hx hb dX6_mark_39 ?_
        refine lv_iload_n hx hb dX6_mark_40 rfl (lv_at hl 2 rfl) ?_
        refine ri_imul (z := 4 * v) hx hb dX6_mark_41 rfl ?_
        refine ri_iadd (z := 4 * v + 41) hx hb dX6_mark_42 (by omega) ?_
        refine ri_iconst hx hb dX6_mark_43 ?_
        refine ri_iadd (z := 4 * v + 43) hx hb dX6_mark_44 (by omega) ?_
        refine ri_iald (f := B 0) (v := (B 0) (4 * v + 43)) hx hb w 1 rfl (by omega) (rfl) dX6_mark_45 (by omega) ?_
        have r8 := hW0.bd (4 * v + 43)
        refine lv_iload_n hx hb dX6_mark_46 rfl (lv_at hl 0 rfl) ?_
        refine ri_icmp_ne (tgt := 53) hx hb dX6_mark_47 (by decide) (by omega) (by omega) (fun c9 => ?_) (fun c9 => ?_)
        · refine lv_aload_n hx hb dX6_mark_53 rfl (lv_at hl 1 rfl) ?_
          refine call_wV (wr := []) (As := []) (rest := []) hx hb (hml.trans hl.1.symm) hown hts w lk_RX6_46 (fun sz => t_X6_records l g b _ B X  (hW) hP  sz) [0, 1, 2, 3, 4, 5, 6, 7, 8] [] rfl rfl rfl rfl (by decide) (call_recv w (q0 := 0) rfl fX6.1) rfl rfl (Nat.le_of_ble_eq_true rfl) ⟨Nat.le_of_ble_eq_true rfl, Nat.le_of_ble_eq_true rfl⟩ ⟨Nat.le_of_ble_eq_true rfl, Nat.le_of_ble_eq_true rfl⟩ dX6_mark_54 (fun v w1 H locs hr w => ?_)
          obtain ⟨rfl, P10, rfl, hP10⟩ := hr
          have w : Wd g A (mo_ws g b (b_rec B) (upT X 2 P10)) s H locs := w
          refine lv_aload_n hx hb dX6_mark_57 rfl (lv_at hl 1 rfl) ?_
          refine ri_get (v := .ref (b 1)) hx hb hts hown w fX6 0 0 (W0_of k_fl_RX6_7 rfl) rfl rfl (by decide) dX6_mark_58 ?_
          refine ri_bipush hx hb dX6_mark_61 (by decide) ?_
          refine ri_iconst hx hb dX6_mark_63 ?_
          refine lv_iload_n hx hb dX6_mark_64 rfl (lv_at hl 2 rfl) ?_
          refine ri_imul (z := 4 * v) hx hb dX6_mark_65 rfl ?_
          refine ri_iadd (z := 4 * v + 41) hx hb dX6_mark_66 (by omega) ?_
          refine ri_iconst hx hb dX6_mark_67 ?_
          refine ri_iadd (z := 4 * v + 43) hx hb dX6_mark_68 (by omega) ?_
          refine lv_iload_n hx hb dX6_mark_69 rfl (lv_at hl 0 rfl) ?_
          refine ri_iast hx hb w 1 rfl (by omega) dX6_mark_70 (by omega) (fun H locs w => ?_)
          have w : Wd g A (mo_ws g b (upT (b_rec B) 0 (up (B 0) (4 * v + 43) 1)) (upT X 2 P10)) s H locs := w
          have hWm := wf_mark hW0 (b := v) (i := 1) (by omega) (by omega)
          refine lv_aload_n hx hb dX6_mark_71 rfl (lv_at hl 1 rfl) ?_
          refine ri_get (v := .ref (b 1)) hx hb hts hown w fX6 0 0 (W0_of k_fl_RX6_7 rfl) rfl rfl (by decide) dX6_mark_72 ?_
          refine call_rS (As := [.ref (b 1)]) (rest := []) hx hb (hml.trans hl.1.symm) hown hts w lk_RX6_152 (t_X6_marks l g (b 1) _ (up (B 0) (4 * v + 43) 1)  (hWm) ) [1] rfl rfl rfl rfl (Nat.le_of_ble_eq_true rfl) ⟨Nat.le_of_ble_eq_true rfl, Nat.le_of_ble_eq_true rfl⟩ ⟨Nat.le_of_ble_eq_true rfl, Nat.le_of_ble_eq_true rfl⟩ dX6_mark_75 ?_
          have r11 := marks_rg (up (B 0) (4 * v + 43) 1)
          have e8 : c_mark B v i = (r_marks (up (B 0) (4 * v + 43) 1), upT (b_rec B) 0 (up (B 0) (4 * v + 43) 1)) := by first | (have hi1 : i = 1 := (by omega); subst hi1; unfold c_mark; rw [if_neg (by first | omega | assumption | (intro hh; exact hh (by assumption))), if_neg (by first | omega | assumption | (intro hh; exact hh (by assumption))), if_neg (by first | omega | assumption | (intro hh; exact hh (by assumption)))]) | (have hi1 : i = 0 := (by omega); subst hi1; unfold c_mark; rw [if_neg (by first | omega | assumption | (intro hh; exact hh (by assumption))), if_neg (by first | omega | assumption | (intro hh; exact hh (by assumption))), if_neg (by first | omega | assumption | (intro hh; exact hh (by assumption)))])
          exact hend.2 _ _ _ _ ⟨_, rfl, rfl⟩ _ _ dX6_mark_78 w (by rw [e8]; exact ⟨rfl, (upT X 2 P10), rfl, hP10⟩)
        · refine ri_bipush hx hb dX6_mark_50 (by decide) ?_
          have e8 : c_mark B v i = (-5, B) := by first | (have hi1 : i = 1 := (by omega); subst hi1; unfold c_mark; rw [if_neg (by first | omega | assumption | (intro hh; exact hh (by assumption))), if_neg (by first | omega | assumption | (intro hh; exact hh (by assumption))), if_pos (by first | omega | assumption | (intro hh; exact absurd hh (by assumption)))]) | (have hi1 : i = 0 := (by omega); subst hi1; unfold c_mark; rw [if_neg (by first | omega | assumption | (intro hh; exact hh (by assumption))), if_neg (by first | omega | assumption | (intro hh; exact hh (by assumption))), if_pos (by first | omega | assumption | (intro hh; exact absurd hh (by assumption)))])
          exact hend.2 _ _ _ _ ⟨_, rfl, rfl⟩ _ _ dX6_mark_52 w (by rw [e8]; exact ⟨rfl, X, rfl, hP⟩)
    · refine ri_bipush hx hb dX6_mark_20 (by decide) ?_
      have e8 : c_mark B v i = (-4, B) := by unfold c_mark; rw [if_neg (by first | omega | assumption | (intro hh; exact hh (by assumption))), if_pos (by first | omega | assumption | (intro hh; exact absurd hh (by assumption)))]
      exact hend.2 _ _ _ _ ⟨_, rfl, rfl⟩ _ _ dX6_mark_22 w (by rw [e8]; exact ⟨rfl, X, rfl, hP⟩)
  · refine ri_iconst hx hb dX6_mark_7 ?_
    have e8 : c_mark B v i = (-1, B) := by unfold c_mark; rw [if_pos (by first | omega | assumption | (intro hh; exact absurd hh (by assumption)))]
    exact hend.2 _ _ _ _ ⟨_, rfl, rfl⟩ _ _ dX6_mark_8 w (by rw [e8]; exact ⟨rfl, X, rfl, hP⟩)

set_option maxHeartbeats 4000000 in
set_option maxRecDepth 100000 in
theorem t_X6_write (l : Launch) (g : GG) (b : Nat → Nat) (N : Int) (B : Nat → Int → Int) (X : Nat → Int → Int) (v : Int) (hW : WB N B) (hP : PastOk B (X 2)) (h1 : -2147483648 ≤ v ∧ v ≤ 2147483647) (sz : Nat) : Met l yX6_write (wm yX6_write cX6_write 3 (some .int)) (rmm 6 0 0) (pW g (mo_ws g b B X) sz [.ref (b 0), .int (iI v)]) (qW g (mo_ws g b B X) (fun vv ww => vv = some (.int (iI (c_write B v).1)) ∧ ∃ X', ww = mo_ws g b (c_write B v).2 X' ∧ PastOk (c_write B v).2 (X' 2))) 0 0 (va_A (mo_ws g b B X) sz) := by
  have hk := hW.k
  have hj := hW.j
  have htl := hW.tl
  have hrf := hW.rf
  have hTx := hW.tx
  have hrr := hW.rr
  have hW0 := hW.1
  refine met_w (by decide) (Nat.le_of_ble_eq_true rfl) ?_
  intro p e s m args below meth c Q ls A hx hb hml hown hts hl w hin hend
  obtain ⟨H, hH0⟩ : ∃ H, H = s.heap := ⟨_, rfl⟩
  obtain ⟨locs, hL0⟩ : ∃ locs : List Loc, locs = [] := ⟨_, rfl⟩
  rw [← hH0, ← hL0] at w
  rw [← hH0, ← hL0]
  have hl : lv_has ls 3 [(0, .ref (b 0)), (1, .int (iI v))] := hl
  refine lv_aload_n hx hb dX6_write_0 rfl (lv_at hl 0 rfl) ?_
  refine call_wV (wr := []) (As := []) (rest := []) hx hb (hml.trans hl.1.symm) hown hts w lk_RX6_155 (fun sz => t_X6_tries l g b _ B X  (hW)  sz) [0, 1, 2, 3, 4, 5, 6, 7, 8] [] rfl rfl rfl rfl (by decide) (call_recv w (q0 := 0) rfl fX6.1) rfl rfl (Nat.le_of_ble_eq_true rfl) ⟨Nat.le_of_ble_eq_true rfl, Nat.le_of_ble_eq_true rfl⟩ ⟨Nat.le_of_ble_eq_true rfl, Nat.le_of_ble_eq_true rfl⟩ dX6_write_1 (fun v w1 H locs hr w => ?_)
  obtain ⟨rfl, rfl⟩ := hr
  have w : Wd g A (mo_ws g b B (upT X 0 (B 0))) s H locs := w
  refine lv_aload_n hx hb dX6_write_4 rfl (lv_at hl 0 rfl) ?_
  refine ri_get (v := .ref (b 2)) hx hb hts hown w fX6 0 1 (W0_of k_fl_RX6_13 rfl) rfl rfl (by decide) dX6_write_5 ?_
  refine lv_iload_n hx hb dX6_write_8 rfl (lv_at hl 1 rfl) ?_
  refine call_wS (wr := [(b 0, .inr (6, [.ref (b 1), .ref (b 2), .ref (b 3), .ref (b 4), .int (iI (B 8 0)), .ref (b 5), .int (iI (B 9 0)), .ref (b 6), .int (iI (B 10 0)), .int (iI (X 3 0)), .int (iI (X 4 0)), .ref (b 7), .int (iI (X 6 0)), .ref (b 8), .int (iI (B 11 0))])), (b 1, eI g 233 (B 0)), (b 3, eI g 233 (X 1)), (b 4, eI g 932 (X 2)), (b 5, eI g 233 (B 5)), (b 6, eI g 60 (B 6)), (b 7, eI g 93 (X 5)), (b 8, eI g 3 (B 7))]) (As := [.ref (b 2), .int (iI v)]) (rest := []) hx hb (hml.trans hl.1.symm) hown hts w lk_RX6_158 (fun sz => t_X6_writesOn l g (b 2) _ (B 0) v (hW0) (by omega) sz) [2] [0, 1, 3, 4, 5, 6, 7, 8] rfl rfl rfl rfl (by decide) rfl rfl (Nat.le_of_ble_eq_true rfl) ⟨Nat.le_of_ble_eq_true rfl, Nat.le_of_ble_eq_true rfl⟩ ⟨Nat.le_of_ble_eq_true rfl, Nat.le_of_ble_eq_true rfl⟩ dX6_write_9 (fun v w1 H locs hr w => ?_)
  obtain ⟨rfl, rfl⟩ := hr
  have w := w.perm (wc := (mo_ws g b B (upT X 0 (r_write (B 0) v).2))) [0, 1, 8, 2, 3, 4, 5, 6, 7] (by decide) rfl
  have w : Wd g A (mo_ws g b B (upT X 0 (r_write (B 0) v).2)) s H locs := w
  refine lv_istore_n (lv' := [(2, .int (iI (r_write (B 0) v).1)), (0, .ref (b 0)), (1, .int (iI v))]) hx hb dX6_write_12 rfl hl (by decide) rfl (fun ls hl => ?_)
  refine lv_iload_n hx hb dX6_write_13 rfl (lv_at hl 0 rfl) ?_
  have r1 := write_rg hW0 v
  refine ri_if_ge (tgt := 21) hx hb dX6_write_14 (by decide) (by omega) (fun c2 => ?_) (fun c2 => ?_)
  · refine lv_aload_n hx hb dX6_write_21 rfl (lv_at hl 1 rfl) ?_
    refine lv_iload_n hx hb dX6_write_22 rfl (lv_at hl 0 rfl) ?_
    refine call_wV (wr := []) (As := [.int (iI (r_write (B 0) v).1)]) (rest := []) hx hb (hml.trans hl.1.symm) hown hts w lk_RX6_161 (fun sz => t_X6_becomes l g b _ B (upT X 0 (r_write (B 0) v).2) (r_write (B 0) v).1 (hW) hP  sz) [0, 1, 2, 3, 4, 5, 6, 7, 8] [] rfl rfl rfl rfl (by decide) (call_recv w (q0 := 0) rfl fX6.1) rfl rfl (Nat.le_of_ble_eq_true rfl) ⟨Nat.le_of_ble_eq_true rfl, Nat.le_of_ble_eq_true rfl⟩ ⟨Nat.le_of_ble_eq_true rfl, Nat.le_of_ble_eq_true rfl⟩ dX6_write_23 (fun v w1 H locs hr w => ?_)
    obtain ⟨rfl, P3, rfl, hP3⟩ := hr
    have w : Wd g A (mo_ws g b (upT (b_rec B) 0 (r_write (B 0) v).2) (upT (upT X 0 (r_write (B 0) v).2) 2 P3)) s H locs := w
    have e8 : c_write B v = ((r_write (B 0) v).1, upT (b_rec B) 0 (r_write (B 0) v).2) := by first | exact act_n (by omega) | exact act_p (by omega)
    exact hend.2 _ _ _ _ ⟨_, rfl, rfl⟩ _ _ dX6_write_26 w (by rw [e8]; exact ⟨rfl, (upT (upT X 0 (r_write (B 0) v).2) 2 P3), rfl, hP3⟩)
  · refine lv_iload_n hx hb dX6_write_17 rfl (lv_at hl 0 rfl) ?_
    refine lv_goto (tgt := 26) hx hb dX6_write_18 (by decide) ?_
    have e8 : c_write B v = ((r_write (B 0) v).1, B) := by first | exact act_n (by omega) | exact act_p (by omega)
    exact hend.2 _ _ _ _ ⟨_, rfl, rfl⟩ _ _ dX6_write_26 w (by rw [e8]; exact ⟨rfl, (upT X 0 (r_write (B 0) v).2), rfl, hP⟩)

set_option maxHeartbeats 4000000 in
set_option maxRecDepth 100000 in
theorem t_X6_read (l : Launch) (g : GG) (b : Nat → Nat) (N : Int) (B : Nat → Int → Int) (X : Nat → Int → Int) (v : Int) (hW : WB N B) (hP : PastOk B (X 2)) (h1 : -2147483648 ≤ v ∧ v ≤ 2147483647) (hN : N + 100 ≤ 200000000) (sz : Nat) : Met l yX6_read (wm yX6_read cX6_read 3 (some .int)) (rmm 9 0 0) (pW g (mo_ws g b B X) sz [.ref (b 0), .int (iI v)]) (qW g (mo_ws g b B X) (fun vv ww => vv = some (.int (iI (c_read B v).1)) ∧ ∃ X', ww = mo_ws g b (c_read B v).2 X' ∧ PastOk (c_read B v).2 (X' 2))) 0 0 (va_A (mo_ws g b B X) sz) := by
  have hk := hW.k
  have hj := hW.j
  have htl := hW.tl
  have hrf := hW.rf
  have hTx := hW.tx
  have hrr := hW.rr
  have hW0 := hW.1
  refine met_w (by decide) (Nat.le_of_ble_eq_true rfl) ?_
  intro p e s m args below meth c Q ls A hx hb hml hown hts hl w hin hend
  obtain ⟨H, hH0⟩ : ∃ H, H = s.heap := ⟨_, rfl⟩
  obtain ⟨locs, hL0⟩ : ∃ locs : List Loc, locs = [] := ⟨_, rfl⟩
  rw [← hH0, ← hL0] at w
  rw [← hH0, ← hL0]
  have hl : lv_has ls 3 [(0, .ref (b 0)), (1, .int (iI v))] := hl
  refine lv_aload_n hx hb dX6_read_0 rfl (lv_at hl 0 rfl) ?_
  refine call_wV (wr := []) (As := []) (rest := []) hx hb (hml.trans hl.1.symm) hown hts w lk_RX6_155 (fun sz => t_X6_tries l g b _ B X  (hW)  sz) [0, 1, 2, 3, 4, 5, 6, 7, 8] [] rfl rfl rfl rfl (by decide) (call_recv w (q0 := 0) rfl fX6.1) rfl rfl (Nat.le_of_ble_eq_true rfl) ⟨Nat.le_of_ble_eq_true rfl, Nat.le_of_ble_eq_true rfl⟩ ⟨Nat.le_of_ble_eq_true rfl, Nat.le_of_ble_eq_true rfl⟩ dX6_read_1 (fun v w1 H locs hr w => ?_)
  obtain ⟨rfl, rfl⟩ := hr
  have w : Wd g A (mo_ws g b B (upT X 0 (B 0))) s H locs := w
  refine lv_aload_n hx hb dX6_read_4 rfl (lv_at hl 0 rfl) ?_
  refine lv_aload_n hx hb dX6_read_5 rfl (lv_at hl 0 rfl) ?_
  refine ri_get (v := .ref (b 2)) hx hb hts hown w fX6 0 1 (W0_of k_fl_RX6_13 rfl) rfl rfl (by decide) dX6_read_6 ?_
  refine lv_iload_n hx hb dX6_read_9 rfl (lv_at hl 1 rfl) ?_
  refine call_wV (wr := []) (As := [.ref (b 2), .int (iI v)]) (rest := []) hx hb (hml.trans hl.1.symm) hown hts w lk_RX6_165 (fun sz => t_X6_readsOn l g b _ B (upT X 0 (B 0)) v (hW) (by omega) hW0 (by omega) sz) [0, 1, 2, 3, 4, 5, 6, 7, 8] [] rfl rfl rfl rfl (by decide) (call_recv w (q0 := 0) rfl fX6.1) rfl rfl (Nat.le_of_ble_eq_true rfl) ⟨Nat.le_of_ble_eq_true rfl, Nat.le_of_ble_eq_true rfl⟩ ⟨Nat.le_of_ble_eq_true rfl, Nat.le_of_ble_eq_true rfl⟩ dX6_read_10 (fun v w1 H locs hr w => ?_)
  obtain ⟨rfl, Y1, rfl⟩ := hr
  have w : Wd g A (mo_ws g b B (upT (upT X 1 Y1) 0 (r_read (B 0) v).2)) s H locs := w
  refine lv_istore_n (lv' := [(2, .int (iI (r_read (B 0) v).1)), (0, .ref (b 0)), (1, .int (iI v))]) hx hb dX6_read_13 rfl hl (by decide) rfl (fun ls hl => ?_)
  refine lv_iload_n hx hb dX6_read_14 rfl (lv_at hl 0 rfl) ?_
  have r2 := read_rg hW0 v
  refine ri_if_ge (tgt := 22) hx hb dX6_read_15 (by decide) (by omega) (fun c3 => ?_) (fun c3 => ?_)
  · refine lv_aload_n hx hb dX6_read_22 rfl (lv_at hl 1 rfl) ?_
    refine lv_iload_n hx hb dX6_read_23 rfl (lv_at hl 0 rfl) ?_
    refine call_wV (wr := []) (As := [.int (iI (r_read (B 0) v).1)]) (rest := []) hx hb (hml.trans hl.1.symm) hown hts w lk_RX6_161 (fun sz => t_X6_becomes l g b _ B (upT (upT X 1 Y1) 0 (r_read (B 0) v).2) (r_read (B 0) v).1 (hW) hP  sz) [0, 1, 2, 3, 4, 5, 6, 7, 8] [] rfl rfl rfl rfl (by decide) (call_recv w (q0 := 0) rfl fX6.1) rfl rfl (Nat.le_of_ble_eq_true rfl) ⟨Nat.le_of_ble_eq_true rfl, Nat.le_of_ble_eq_true rfl⟩ ⟨Nat.le_of_ble_eq_true rfl, Nat.le_of_ble_eq_true rfl⟩ dX6_read_24 (fun v w1 H locs hr w => ?_)
    obtain ⟨rfl, P4, rfl, hP4⟩ := hr
    have w : Wd g A (mo_ws g b (upT (b_rec B) 0 (r_read (B 0) v).2) (upT (upT (upT X 1 Y1) 0 (r_read (B 0) v).2) 2 P4)) s H locs := w
    have e8 : c_read B v = ((r_read (B 0) v).1, upT (b_rec B) 0 (r_read (B 0) v).2) := by first | exact act_n (by omega) | exact act_p (by omega)
    exact hend.2 _ _ _ _ ⟨_, rfl, rfl⟩ _ _ dX6_read_27 w (by rw [e8]; exact ⟨rfl, (upT (upT (upT X 1 Y1) 0 (r_read (B 0) v).2) 2 P4), rfl, hP4⟩)
  · refine lv_iload_n hx hb dX6_read_18 rfl (lv_at hl 0 rfl) ?_
    refine lv_goto (tgt := 27) hx hb dX6_read_19 (by decide) ?_
    have e8 : c_read B v = ((r_read (B 0) v).1, B) := by first | exact act_n (by omega) | exact act_p (by omega)
    exact hend.2 _ _ _ _ ⟨_, rfl, rfl⟩ _ _ dX6_read_27 w (by rw [e8]; exact ⟨rfl, (upT (upT X 1 Y1) 0 (r_read (B 0) v).2), rfl, hP⟩)

set_option maxHeartbeats 4000000 in
set_option maxRecDepth 100000 in
theorem t_X6_placed (l : Launch) (g : GG) (s0 : Nat) (F : Int → Int) (hB : Bd F) : Met l yX6_placed (wm yX6_placed cX6_placed 3 (some .int)) (rmm 2 0 0) (pR g [(s0, eI g 233 F)] [.ref s0]) (qR (some (.int (iI (r_placed F))))) 0 0 (fun _ => False) := by
  refine met_r (by decide) (Nat.le_of_ble_eq_true rfl) ?_
  intro p e s m args below meth c Q ls hx hb hml hown hts hl w hend
  have hl : lv_has ls 3 [(0, .ref s0)] := hl
  refine ri_iconst hx hb dX6_placed_0 ?_
  refine lv_istore_n (lv' := [(1, .int (iI 0)), (0, .ref s0)]) hx hb dX6_placed_1 rfl hl (by decide) rfl (fun ls hl => ?_)
  refine ri_iconst hx hb dX6_placed_2 ?_
  refine lv_istore_n (lv' := [(2, .int (iI 0)), (1, .int (iI 0)), (0, .ref s0)]) hx hb dX6_placed_3 rfl hl (by decide) rfl (fun ls hl => ?_)
  have L4 : ∀ (n : Nat) (xn xk : Int), (xk + n = 6) → (fo n xk xn (s_placed F) = r_placed F) → (0 ≤ xk) → ∀ (ls : Array Slot), lv_has ls 3 [(0, .ref s0), (1, .int (iI xn)), (2, .int (iI xk))] → (∀ (ls : Array Slot), lv_has ls 3 [(1, .int (iI (r_placed F)))] → W p l e (rmm 2 0 0) s m args below meth c s.heap [] 0 0 Q (F0 m 25 ls [])) → W p l e (rmm 2 0 0) s m args below meth c s.heap [] 0 0 Q (F0 m 4 ls []) := by
    intro n
    induction n with
    | zero =>
      intro xn xk hn hX hlo ls hl kk4
      refine lv_iload_n hx hb dX6_placed_4 rfl (lv_at hl 2 rfl) ?_
      refine ri_bipush hx hb dX6_placed_5 (by decide) ?_
      refine ri_icmp_ge (tgt := 25) hx hb dX6_placed_7 (by decide) (by omega) (by omega) (fun c1 => ?_) (fun c1 => ?_)
      · have e0 : xn = r_placed F := hX
        rw [e0] at hl
        exact kk4  ls  (lv_sub hl [1] rfl)
      · exact absurd c1 (by omega)
    | succ n ih4 =>
      intro xn xk hn hX hlo ls hl kk4
      refine lv_iload_n hx hb dX6_placed_4 rfl (lv_at hl 2 rfl) ?_
      refine ri_bipush hx hb dX6_placed_5 (by decide) ?_
      refine ri_icmp_ge (tgt := 25) hx hb dX6_placed_7 (by decide) (by omega) (by omega) (fun c2 => ?_) (fun c2 => ?_)
      · exact absurd c2 (by omega)
      refine lv_iload_n hx hb dX6_placed_10 rfl (lv_at hl 1 rfl) ?_
      refine lv_aload_n hx hb dX6_placed_11 rfl (lv_at hl 0 rfl) ?_
      refine lv_iload_n hx hb dX6_placed_12 rfl (lv_at hl 2 rfl) ?_
      refine ri_iconst hx hb dX6_placed_13 ?_
      refine call_rS (As := [.ref s0, .int (iI xk), .int (iI 0)]) (rest := [.int (iI xn)]) hx hb (hml.trans hl.1.symm) hown hts w lk_RX6_60 (t_X6_many l g s0 F xk 0 (hB) (by omega) (by omega)) [0] rfl rfl rfl rfl (Nat.le_of_ble_eq_true rfl) ⟨Nat.le_of_ble_eq_true rfl, Nat.le_of_ble_eq_true rfl⟩ ⟨Nat.le_of_ble_eq_true rfl, Nat.le_of_ble_eq_true rfl⟩ dX6_placed_14 ?_
      have r3 := cnt_rg F xk 0
      refine ri_iadd (z := r_cnt F xk 0 + xn) hx hb dX6_placed_17 (by omega) ?_
      refine lv_istore_n (lv' := [(1, .int (iI (r_cnt F xk 0 + xn))), (0, .ref s0), (2, .int (iI xk))]) hx hb dX6_placed_18 rfl hl (by decide) rfl (fun ls hl => ?_)
      refine ri_iinc (k := 2) (z := xk + 1) (lv' := [(2, .int (iI (xk + 1))), (1, .int (iI (r_cnt F xk 0 + xn))), (0, .ref s0)]) hx hb dX6_placed_19 hl rfl (by omega) (by decide) rfl (fun ls hl => ?_)
      refine lv_goto (tgt := 4) hx hb dX6_placed_22 (by decide) ?_
      exact ih4 (r_cnt F xk 0 + xn) (xk + 1)  (by omega) (fo_s hX (by unfold s_placed; first | omega | omega)) (by omega) ls (lv_sub hl [2, 1, 0] rfl) kk4
  refine L4 6 0 0  (by omega) (rfl) (by omega) ls (lv_sub hl [2, 1, 0] rfl) (fun ls hl => ?_)
  refine lv_iload_n hx hb dX6_placed_25 rfl (lv_at hl 0 rfl) ?_
  have r4 := placed_rg F
  exact hend.2 _ rfl ⟨_, rfl, rfl⟩ _ _ dX6_placed_26

set_option maxHeartbeats 4000000 in
set_option maxRecDepth 100000 in
theorem t_X6_forget (l : Launch) (g : GG) (b : Nat → Nat) (N : Int) (B : Nat → Int → Int) (X : Nat → Int → Int) (v : Int) (hW : WB N B) (hP : PastOk B (X 2)) (h1 : -2147483648 ≤ v ∧ v ≤ 2147483647) (sz : Nat) : Met l yX6_forget (wm yX6_forget cX6_forget 2 (some .int)) (rmm 3 0 0) (pW g (mo_ws g b B X) sz [.ref (b 0), .int (iI v)]) (qW g (mo_ws g b B X) (fun vv ww => vv = some (.int (iI (c_forget B v).1)) ∧ ∃ X', ww = mo_ws g b (c_forget B v).2 X' ∧ PastOk (c_forget B v).2 (X' 2))) 0 0 (va_A (mo_ws g b B X) sz) := by
  have hk := hW.k
  have hj := hW.j
  have htl := hW.tl
  have hrf := hW.rf
  have hTx := hW.tx
  have hrr := hW.rr
  have hW0 := hW.1
  refine met_w (by decide) (Nat.le_of_ble_eq_true rfl) ?_
  intro p e s m args below meth c Q ls A hx hb hml hown hts hl w hin hend
  obtain ⟨H, hH0⟩ : ∃ H, H = s.heap := ⟨_, rfl⟩
  obtain ⟨locs, hL0⟩ : ∃ locs : List Loc, locs = [] := ⟨_, rfl⟩
  rw [← hH0, ← hL0] at w
  rw [← hH0, ← hL0]
  have hl : lv_has ls 2 [(0, .ref (b 0)), (1, .int (iI v))] := hl
  refine lv_iload_n hx hb dX6_forget_0 rfl (lv_at hl 1 rfl) ?_
  refine call_rS (As := [.int (iI v)]) (rest := []) hx hb (hml.trans hl.1.symm) hown hts w lk_RX6_129 (t_X6_isPage l g v (by omega)) [] rfl rfl rfl rfl (Nat.le_of_ble_eq_true rfl) ⟨Nat.le_of_ble_eq_true rfl, Nat.le_of_ble_eq_true rfl⟩ ⟨Nat.le_of_ble_eq_true rfl, Nat.le_of_ble_eq_true rfl⟩ dX6_forget_1 ?_
  refine ri_ifb_eq (tgt := 20) hx hb dX6_forget_4 (by decide) (fun c1 => ?_) (fun c1 => ?_)
  · refine ri_iconst hx hb dX6_forget_20 ?_
    have e8 : c_forget B v = (-1, B) := by unfold c_forget; rw [if_pos (by first | omega | assumption | (intro hh; exact absurd hh (by assumption)))]
    exact hend.2 _ _ _ _ ⟨_, rfl, rfl⟩ _ _ dX6_forget_21 w (by rw [e8]; exact ⟨rfl, X, rfl, hP⟩)
  · refine lv_aload_n hx hb dX6_forget_7 rfl (lv_at hl 0 rfl) ?_
    refine ri_get (v := .ref (b 1)) hx hb hts hown w fX6 0 0 (W0_of k_fl_RX6_7 rfl) rfl rfl (by decide) dX6_forget_8 ?_
    refine lv_iload_n hx hb dX6_forget_11 rfl (lv_at hl 1 rfl) ?_
    refine call_rS (As := [.ref (b 1), .int (iI v)]) (rest := []) hx hb (hml.trans hl.1.symm) hown hts w lk_RX6_102 (t_X6_placeOf l g (b 1) (B 0) v (hW0.b) (by omega)) [1] rfl rfl rfl rfl (Nat.le_of_ble_eq_true rfl) ⟨Nat.le_of_ble_eq_true rfl, Nat.le_of_ble_eq_true rfl⟩ ⟨Nat.le_of_ble_eq_true rfl, Nat.le_of_ble_eq_true rfl⟩ dX6_forget_12 ?_
    have r2 := placeOf_rg (B 0) v
    refine ri_bipush hx hb dX6_forget_15 (by decide) ?_
    refine ri_icmp_ne (tgt := 22) hx hb dX6_forget_17 (by decide) (by omega) (by omega) (fun c3 => ?_) (fun c3 => ?_)
    · have hpo := placeOf_rg (B 0) v
      refine lv_aload_n hx hb dX6_forget_22 rfl (lv_at hl 0 rfl) ?_
      refine call_wV (wr := []) (As := []) (rest := []) hx hb (hml.trans hl.1.symm) hown hts w lk_RX6_46 (fun sz => t_X6_records l g b _ B X  (hW) hP  sz) [0, 1, 2, 3, 4, 5, 6, 7, 8] [] rfl rfl rfl rfl (by decide) (call_recv w (q0 := 0) rfl fX6.1) rfl rfl (Nat.le_of_ble_eq_true rfl) ⟨Nat.le_of_ble_eq_true rfl, Nat.le_of_ble_eq_true rfl⟩ ⟨Nat.le_of_ble_eq_true rfl, Nat.le_of_ble_eq_true rfl⟩ dX6_forget_23 (fun v w1 H locs hr w => ?_)
      obtain ⟨rfl, P4, rfl, hP4⟩ := hr
      have w : Wd g A (mo_ws g b (b_rec B) (upT X 2 P4)) s H locs := w
      refine lv_aload_n hx hb dX6_forget_26 rfl (lv_at hl 0 rfl) ?_
      refine ri_get (v := .ref (b 1)) hx hb hts hown w fX6 0 0 (W0_of k_fl_RX6_7 rfl) rfl rfl (by decide) dX6_forget_27 ?_
      refine ri_bipush hx hb dX6_forget_30 (by decide) ?_
      refine ri_iconst hx hb dX6_forget_32 ?_
      refine lv_aload_n hx hb dX6_forget_33 rfl (lv_at hl 0 rfl) ?_
      refine ri_get (v := .ref (b 1)) hx hb hts hown w fX6 0 0 (W0_of k_fl_RX6_7 rfl) rfl rfl (by decide) dX6_forget_34 ?_
      refine lv_iload_n hx hb dX6_forget_37 rfl (lv_at hl 1 rfl) ?_
      refine call_rS (As := [.ref (b 1), .int (iI v)]) (rest := [.int (iI 3), .int (iI 65), .ref (b 1)]) hx hb (hml.trans hl.1.symm) hown hts w lk_RX6_102 (t_X6_placeOf l g (b 1) (B 0) v (hW0.b) (by omega)) [1] rfl rfl rfl rfl (Nat.le_of_ble_eq_true rfl) ⟨Nat.le_of_ble_eq_true rfl, Nat.le_of_ble_eq_true rfl⟩ ⟨Nat.le_of_ble_eq_true rfl, Nat.le_of_ble_eq_true rfl⟩ dX6_forget_38 ?_
      refine ri_imul (z := 3 * r_placeOf (B 0) v) hx hb dX6_forget_41 (by omega) ?_
      refine ri_iadd (z := 3 * r_placeOf (B 0) v + 65) hx hb dX6_forget_42 (by omega) ?_
      refine ri_bipush hx hb dX6_forget_43 (by decide) ?_
      refine ri_iast hx hb w 1 rfl (by omega) dX6_forget_45 (by omega) (fun H locs w => ?_)
      have w : Wd g A (mo_ws g b (upT (b_rec B) 0 (up (B 0) (3 * r_placeOf (B 0) v + 65) (-2))) (upT X 2 P4)) s H locs := w
      have hWs := wf_stale hW0 (v := v) (by omega)
      have hWl := wf_leaves hWs v
      refine lv_aload_n hx hb dX6_forget_46 rfl (lv_at hl 0 rfl) ?_
      refine ri_get (v := .ref (b 1)) hx hb hts hown w fX6 0 0 (W0_of k_fl_RX6_7 rfl) rfl rfl (by decide) dX6_forget_47 ?_
      refine lv_iload_n hx hb dX6_forget_50 rfl (lv_at hl 1 rfl) ?_
      refine call_wS (wr := [(b 0, .inr (6, [.ref (b 1), .ref (b 2), .ref (b 3), .ref (b 4), .int (iI (if B 8 0 = 4 then 4 else B 8 0 + 1)), .ref (b 5), .int (iI (B 9 0)), .ref (b 6), .int (iI (B 10 0)), .int (iI (X 3 0)), .int (iI (X 4 0)), .ref (b 7), .int (iI (X 6 0)), .ref (b 8), .int (iI (B 11 0))])), (b 2, eI g 233 (X 0)), (b 3, eI g 233 (X 1)), (b 4, eI g 932 P4), (b 5, eI g 233 (B 5)), (b 6, eI g 60 (B 6)), (b 7, eI g 93 (X 5)), (b 8, eI g 3 (B 7))]) (As := [.ref (b 1), .int (iI v)]) (rest := []) hx hb (hml.trans hl.1.symm) hown hts w lk_RX6_90 (fun sz => t_X6_leaves l g (b 1) _ (up (B 0) (3 * r_placeOf (B 0) v + 65) (-2)) v (hWs) (by omega) sz) [1] [0, 2, 3, 4, 5, 6, 7, 8] rfl rfl rfl rfl (by decide) rfl rfl (Nat.le_of_ble_eq_true rfl) ⟨Nat.le_of_ble_eq_true rfl, Nat.le_of_ble_eq_true rfl⟩ ⟨Nat.le_of_ble_eq_true rfl, Nat.le_of_ble_eq_true rfl⟩ dX6_forget_51 (fun v w1 H locs hr w => ?_)
      obtain ⟨rfl, rfl⟩ := hr
      have w := w.perm (wc := (mo_ws g b (upT (b_rec B) 0 (r_leaves (up (B 0) (3 * r_placeOf (B 0) v + 65) (-2)) v)) (upT X 2 P4))) [0, 8, 1, 2, 3, 4, 5, 6, 7] (by decide) rfl
      have w : Wd g A (mo_ws g b (upT (b_rec B) 0 (r_leaves (up (B 0) (3 * r_placeOf (B 0) v + 65) (-2)) v)) (upT X 2 P4)) s H locs := w
      refine lv_aload_n hx hb dX6_forget_54 rfl (lv_at hl 0 rfl) ?_
      refine ri_get (v := .ref (b 1)) hx hb hts hown w fX6 0 0 (W0_of k_fl_RX6_7 rfl) rfl rfl (by decide) dX6_forget_55 ?_
      refine call_rS (As := [.ref (b 1)]) (rest := []) hx hb (hml.trans hl.1.symm) hown hts w lk_RX6_168 (t_X6_placed l g (b 1) (r_leaves (up (B 0) (3 * r_placeOf (B 0) v + 65) (-2)) v)  (hWl.b) ) [1] rfl rfl rfl rfl (Nat.le_of_ble_eq_true rfl) ⟨Nat.le_of_ble_eq_true rfl, Nat.le_of_ble_eq_true rfl⟩ ⟨Nat.le_of_ble_eq_true rfl, Nat.le_of_ble_eq_true rfl⟩ dX6_forget_58 ?_
      have r5 := placed_rg (r_leaves (up (B 0) (3 * r_placeOf (B 0) v + 65) (-2)) v)
      have e8 : c_forget B v = (r_placed (r_leaves (up (B 0) (3 * r_placeOf (B 0) v + 65) (-2)) v), upT (b_rec B) 0 (r_leaves (up (B 0) (3 * r_placeOf (B 0) v + 65) (-2)) v)) := by unfold c_forget; rw [if_neg (by first | omega | assumption | (intro hh; exact hh (by assumption)))]; rfl
      exact hend.2 _ _ _ _ ⟨_, rfl, rfl⟩ _ _ dX6_forget_61 w (by rw [e8]; exact ⟨rfl, (upT X 2 P4), rfl, hP4⟩)
    · refine ri_iconst hx hb dX6_forget_20 ?_
      have e8 : c_forget B v = (-1, B) := by unfold c_forget; rw [if_pos (by first | omega | assumption | (intro hh; exact absurd hh (by assumption)))]
      exact hend.2 _ _ _ _ ⟨_, rfl, rfl⟩ _ _ dX6_forget_21 w (by rw [e8]; exact ⟨rfl, X, rfl, hP⟩)

set_option maxHeartbeats 4000000 in
set_option maxRecDepth 100000 in
theorem t_X6_moveBlock (l : Launch) (g : GG) (b : Nat → Nat) (N : Int) (B : Nat → Int → Int) (X : Nat → Int → Int) (v : Int) (hW : WB N B) (hP : PastOk B (X 2)) (h1 : -2147483648 ≤ v ∧ v ≤ 2147483647) (hN : N + 100 ≤ 200000000) (sz : Nat) : Met l yX6_moveBlock (wm yX6_moveBlock cX6_moveBlock 3 (some .int)) (rmm 7 0 0) (pW g (mo_ws g b B X) sz [.ref (b 0), .int (iI v)]) (qW g (mo_ws g b B X) (fun vv ww => vv = some (.int (iI (c_moveBlock B v).1)) ∧ ∃ X', ww = mo_ws g b (c_moveBlock B v).2 X' ∧ PastOk (c_moveBlock B v).2 (X' 2))) 0 0 (va_A (mo_ws g b B X) sz) := by
  have hk := hW.k
  have hj := hW.j
  have htl := hW.tl
  have hrf := hW.rf
  have hTx := hW.tx
  have hrr := hW.rr
  have hW0 := hW.1
  refine met_w (by decide) (Nat.le_of_ble_eq_true rfl) ?_
  intro p e s m args below meth c Q ls A hx hb hml hown hts hl w hin hend
  obtain ⟨H, hH0⟩ : ∃ H, H = s.heap := ⟨_, rfl⟩
  obtain ⟨locs, hL0⟩ : ∃ locs : List Loc, locs = [] := ⟨_, rfl⟩
  rw [← hH0, ← hL0] at w
  rw [← hH0, ← hL0]
  have hl : lv_has ls 3 [(0, .ref (b 0)), (1, .int (iI v))] := hl
  refine lv_iload_n hx hb dX6_moveBlock_0 rfl (lv_at hl 1 rfl) ?_
  refine call_rS (As := [.int (iI v)]) (rest := []) hx hb (hml.trans hl.1.symm) hown hts w lk_RX6_149 (t_X6_isBlock l g v (by omega)) [] rfl rfl rfl rfl (Nat.le_of_ble_eq_true rfl) ⟨Nat.le_of_ble_eq_true rfl, Nat.le_of_ble_eq_true rfl⟩ ⟨Nat.le_of_ble_eq_true rfl, Nat.le_of_ble_eq_true rfl⟩ dX6_moveBlock_1 ?_
  refine ri_ifb_ne (tgt := 9) hx hb dX6_moveBlock_4 (by decide) (fun c1 => ?_) (fun c1 => ?_)
  · refine lv_aload_n hx hb dX6_moveBlock_9 rfl (lv_at hl 0 rfl) ?_
    refine ri_get (v := .ref (b 1)) hx hb hts hown w fX6 0 0 (W0_of k_fl_RX6_7 rfl) rfl rfl (by decide) dX6_moveBlock_10 ?_
    refine lv_iload_n hx hb dX6_moveBlock_13 rfl (lv_at hl 1 rfl) ?_
    refine call_rS (As := [.ref (b 1), .int (iI v)]) (rest := []) hx hb (hml.trans hl.1.symm) hown hts w lk_RX6_64 (t_X6_isFree l g (b 1) (B 0) v (hW0.b) (by omega)) [1] rfl rfl rfl rfl (Nat.le_of_ble_eq_true rfl) ⟨Nat.le_of_ble_eq_true rfl, Nat.le_of_ble_eq_true rfl⟩ ⟨Nat.le_of_ble_eq_true rfl, Nat.le_of_ble_eq_true rfl⟩ dX6_moveBlock_14 ?_
    refine ri_ifb_eq (tgt := 23) hx hb dX6_moveBlock_17 (by decide) (fun c2 => ?_) (fun c2 => ?_)
    · refine lv_aload_n hx hb dX6_moveBlock_23 rfl (lv_at hl 0 rfl) ?_
      refine call_wV (wr := []) (As := []) (rest := []) hx hb (hml.trans hl.1.symm) hown hts w lk_RX6_155 (fun sz => t_X6_tries l g b _ B X  (hW)  sz) [0, 1, 2, 3, 4, 5, 6, 7, 8] [] rfl rfl rfl rfl (by decide) (call_recv w (q0 := 0) rfl fX6.1) rfl rfl (Nat.le_of_ble_eq_true rfl) ⟨Nat.le_of_ble_eq_true rfl, Nat.le_of_ble_eq_true rfl⟩ ⟨Nat.le_of_ble_eq_true rfl, Nat.le_of_ble_eq_true rfl⟩ dX6_moveBlock_24 (fun v w1 H locs hr w => ?_)
      obtain ⟨rfl, rfl⟩ := hr
      have w : Wd g A (mo_ws g b B (upT X 0 (B 0))) s H locs := w
      refine lv_aload_n hx hb dX6_moveBlock_27 rfl (lv_at hl 0 rfl) ?_
      refine ri_get (v := .ref (b 2)) hx hb hts hown w fX6 0 1 (W0_of k_fl_RX6_13 rfl) rfl rfl (by decide) dX6_moveBlock_28 ?_
      refine lv_iload_n hx hb dX6_moveBlock_31 rfl (lv_at hl 1 rfl) ?_
      refine call_wS (wr := [(b 0, .inr (6, [.ref (b 1), .ref (b 2), .ref (b 3), .ref (b 4), .int (iI (B 8 0)), .ref (b 5), .int (iI (B 9 0)), .ref (b 6), .int (iI (B 10 0)), .int (iI (X 3 0)), .int (iI (X 4 0)), .ref (b 7), .int (iI (X 6 0)), .ref (b 8), .int (iI (B 11 0))])), (b 1, eI g 233 (B 0)), (b 3, eI g 233 (X 1)), (b 4, eI g 932 (X 2)), (b 5, eI g 233 (B 5)), (b 6, eI g 60 (B 6)), (b 7, eI g 93 (X 5)), (b 8, eI g 3 (B 7))]) (As := [.ref (b 2), .int (iI v)]) (rest := []) hx hb (hml.trans hl.1.symm) hown hts w lk_RX6_136 (fun sz => t_X6_movesAll l g (b 2) _ (B 0) v (hW0) (by omega) (by omega) sz) [2] [0, 1, 3, 4, 5, 6, 7, 8] rfl rfl rfl rfl (by decide) rfl rfl (Nat.le_of_ble_eq_true rfl) ⟨Nat.le_of_ble_eq_true rfl, Nat.le_of_ble_eq_true rfl⟩ ⟨Nat.le_of_ble_eq_true rfl, Nat.le_of_ble_eq_true rfl⟩ dX6_moveBlock_32 (fun v w1 H locs hr w => ?_)
      obtain ⟨rfl, rfl⟩ := hr
      have w := w.perm (wc := (mo_ws g b B (upT X 0 (r_all (B 0) v).2))) [0, 1, 8, 2, 3, 4, 5, 6, 7] (by decide) rfl
      have w : Wd g A (mo_ws g b B (upT X 0 (r_all (B 0) v).2)) s H locs := w
      refine lv_istore_n (lv' := [(2, .int (iI (r_all (B 0) v).1)), (0, .ref (b 0)), (1, .int (iI v))]) hx hb dX6_moveBlock_35 rfl hl (by decide) rfl (fun ls hl => ?_)
      refine lv_iload_n hx hb dX6_moveBlock_36 rfl (lv_at hl 0 rfl) ?_
      have r3 := all_rg hW0 v
      refine ri_if_ge (tgt := 44) hx hb dX6_moveBlock_37 (by decide) (by omega) (fun c4 => ?_) (fun c4 => ?_)
      · refine lv_aload_n hx hb dX6_moveBlock_44 rfl (lv_at hl 1 rfl) ?_
        refine lv_iload_n hx hb dX6_moveBlock_45 rfl (lv_at hl 0 rfl) ?_
        refine call_wV (wr := []) (As := [.int (iI (r_all (B 0) v).1)]) (rest := []) hx hb (hml.trans hl.1.symm) hown hts w lk_RX6_161 (fun sz => t_X6_becomes l g b _ B (upT X 0 (r_all (B 0) v).2) (r_all (B 0) v).1 (hW) hP  sz) [0, 1, 2, 3, 4, 5, 6, 7, 8] [] rfl rfl rfl rfl (by decide) (call_recv w (q0 := 0) rfl fX6.1) rfl rfl (Nat.le_of_ble_eq_true rfl) ⟨Nat.le_of_ble_eq_true rfl, Nat.le_of_ble_eq_true rfl⟩ ⟨Nat.le_of_ble_eq_true rfl, Nat.le_of_ble_eq_true rfl⟩ dX6_moveBlock_46 (fun v w1 H locs hr w => ?_)
        obtain ⟨rfl, P5, rfl, hP5⟩ := hr
        have w : Wd g A (mo_ws g b (upT (b_rec B) 0 (r_all (B 0) v).2) (upT (upT X 0 (r_all (B 0) v).2) 2 P5)) s H locs := w
        have e8 : c_moveBlock B v = ((r_all (B 0) v).1, upT (b_rec B) 0 (r_all (B 0) v).2) := by unfold c_moveBlock; rw [if_neg (by first | omega | assumption | (intro hh; exact hh (by assumption))), if_neg (by first | omega | assumption | (intro hh; exact hh (by assumption)))]; first | exact act_n (by omega) | exact act_p (by omega)
        exact hend.2 _ _ _ _ ⟨_, rfl, rfl⟩ _ _ dX6_moveBlock_49 w (by rw [e8]; exact ⟨rfl, (upT (upT X 0 (r_all (B 0) v).2) 2 P5), rfl, hP5⟩)
      · refine lv_iload_n hx hb dX6_moveBlock_40 rfl (lv_at hl 0 rfl) ?_
        refine lv_goto (tgt := 49) hx hb dX6_moveBlock_41 (by decide) ?_
        have e8 : c_moveBlock B v = ((r_all (B 0) v).1, B) := by unfold c_moveBlock; rw [if_neg (by first | omega | assumption | (intro hh; exact hh (by assumption))), if_neg (by first | omega | assumption | (intro hh; exact hh (by assumption)))]; first | exact act_n (by omega) | exact act_p (by omega)
        exact hend.2 _ _ _ _ ⟨_, rfl, rfl⟩ _ _ dX6_moveBlock_49 w (by rw [e8]; exact ⟨rfl, (upT X 0 (r_all (B 0) v).2), rfl, hP⟩)
    · refine ri_bipush hx hb dX6_moveBlock_20 (by decide) ?_
      have e8 : c_moveBlock B v = (-4, B) := by unfold c_moveBlock; rw [if_neg (by first | omega | assumption | (intro hh; exact hh (by assumption))), if_pos (by first | omega | assumption | (intro hh; exact absurd hh (by assumption)))]
      exact hend.2 _ _ _ _ ⟨_, rfl, rfl⟩ _ _ dX6_moveBlock_22 w (by rw [e8]; exact ⟨rfl, X, rfl, hP⟩)
  · refine ri_iconst hx hb dX6_moveBlock_7 ?_
    have e8 : c_moveBlock B v = (-1, B) := by unfold c_moveBlock; rw [if_pos (by first | omega | assumption | (intro hh; exact absurd hh (by assumption)))]
    exact hend.2 _ _ _ _ ⟨_, rfl, rfl⟩ _ _ dX6_moveBlock_8 w (by rw [e8]; exact ⟨rfl, X, rfl, hP⟩)

set_option maxHeartbeats 4000000 in
set_option maxRecDepth 100000 in
theorem t_X6_pass (l : Launch) (g : GG) (b : Nat → Nat) (N : Int) (B : Nat → Int → Int) (X : Nat → Int → Int) (v : Int) (hW : WB N B) (hP : PastOk B (X 2)) (h1 : -2147483648 ≤ v ∧ v ≤ 2147483647) (hN : N + 10000 ≤ 200000000) (sz : Nat) : Met l yX6_pass (wm yX6_pass cX6_pass 3 (some .int)) (rmm 8 0 0) (pW g (mo_ws g b B X) sz [.ref (b 0), .int (iI v)]) (qW g (mo_ws g b B X) (fun vv ww => vv = some (.int (iI (c_pass B v).1)) ∧ ∃ X', ww = mo_ws g b (c_pass B v).2 X' ∧ PastOk (c_pass B v).2 (X' 2))) 0 0 (va_A (mo_ws g b B X) sz) := by
  have hk := hW.k
  have hj := hW.j
  have htl := hW.tl
  have hrf := hW.rf
  have hTx := hW.tx
  have hrr := hW.rr
  have hW0 := hW.1
  refine met_w (by decide) (Nat.le_of_ble_eq_true rfl) ?_
  intro p e s m args below meth c Q ls A hx hb hml hown hts hl w hin hend
  obtain ⟨H, hH0⟩ : ∃ H, H = s.heap := ⟨_, rfl⟩
  obtain ⟨locs, hL0⟩ : ∃ locs : List Loc, locs = [] := ⟨_, rfl⟩
  rw [← hH0, ← hL0] at w
  rw [← hH0, ← hL0]
  have hl : lv_has ls 3 [(0, .ref (b 0)), (1, .int (iI v))] := hl
  refine lv_aload_n hx hb dX6_pass_0 rfl (lv_at hl 0 rfl) ?_
  refine call_wV (wr := []) (As := []) (rest := []) hx hb (hml.trans hl.1.symm) hown hts w lk_RX6_155 (fun sz => t_X6_tries l g b _ B X  (hW)  sz) [0, 1, 2, 3, 4, 5, 6, 7, 8] [] rfl rfl rfl rfl (by decide) (call_recv w (q0 := 0) rfl fX6.1) rfl rfl (Nat.le_of_ble_eq_true rfl) ⟨Nat.le_of_ble_eq_true rfl, Nat.le_of_ble_eq_true rfl⟩ ⟨Nat.le_of_ble_eq_true rfl, Nat.le_of_ble_eq_true rfl⟩ dX6_pass_1 (fun v w1 H locs hr w => ?_)
  obtain ⟨rfl, rfl⟩ := hr
  have w : Wd g A (mo_ws g b B (upT X 0 (B 0))) s H locs := w
  refine lv_aload_n hx hb dX6_pass_4 rfl (lv_at hl 0 rfl) ?_
  refine ri_get (v := .ref (b 2)) hx hb hts hown w fX6 0 1 (W0_of k_fl_RX6_13 rfl) rfl rfl (by decide) dX6_pass_5 ?_
  refine lv_iload_n hx hb dX6_pass_8 rfl (lv_at hl 1 rfl) ?_
  refine call_wS (wr := [(b 0, .inr (6, [.ref (b 1), .ref (b 2), .ref (b 3), .ref (b 4), .int (iI (B 8 0)), .ref (b 5), .int (iI (B 9 0)), .ref (b 6), .int (iI (B 10 0)), .int (iI (X 3 0)), .int (iI (X 4 0)), .ref (b 7), .int (iI (X 6 0)), .ref (b 8), .int (iI (B 11 0))])), (b 1, eI g 233 (B 0)), (b 3, eI g 233 (X 1)), (b 4, eI g 932 (X 2)), (b 5, eI g 233 (B 5)), (b 6, eI g 60 (B 6)), (b 7, eI g 93 (X 5)), (b 8, eI g 3 (B 7))]) (As := [.ref (b 2), .int (iI v)]) (rest := []) hx hb (hml.trans hl.1.symm) hown hts w lk_RX6_171 (fun sz => t_X6_passesOn l g (b 2) _ (B 0) v (hW0) (by omega) (by omega) sz) [2] [0, 1, 3, 4, 5, 6, 7, 8] rfl rfl rfl rfl (by decide) rfl rfl (Nat.le_of_ble_eq_true rfl) ⟨Nat.le_of_ble_eq_true rfl, Nat.le_of_ble_eq_true rfl⟩ ⟨Nat.le_of_ble_eq_true rfl, Nat.le_of_ble_eq_true rfl⟩ dX6_pass_9 (fun v w1 H locs hr w => ?_)
  obtain ⟨rfl, rfl⟩ := hr
  have w := w.perm (wc := (mo_ws g b B (upT X 0 (r_pass (B 0) v).2))) [0, 1, 8, 2, 3, 4, 5, 6, 7] (by decide) rfl
  have w : Wd g A (mo_ws g b B (upT X 0 (r_pass (B 0) v).2)) s H locs := w
  refine lv_istore_n (lv' := [(2, .int (iI (r_pass (B 0) v).1)), (0, .ref (b 0)), (1, .int (iI v))]) hx hb dX6_pass_12 rfl hl (by decide) rfl (fun ls hl => ?_)
  refine lv_iload_n hx hb dX6_pass_13 rfl (lv_at hl 0 rfl) ?_
  have r1 := pass_rg hW0 v
  refine ri_if_ge (tgt := 21) hx hb dX6_pass_14 (by decide) (by omega) (fun c2 => ?_) (fun c2 => ?_)
  · refine lv_aload_n hx hb dX6_pass_21 rfl (lv_at hl 1 rfl) ?_
    refine lv_iload_n hx hb dX6_pass_22 rfl (lv_at hl 0 rfl) ?_
    refine call_wV (wr := []) (As := [.int (iI (r_pass (B 0) v).1)]) (rest := []) hx hb (hml.trans hl.1.symm) hown hts w lk_RX6_161 (fun sz => t_X6_becomes l g b _ B (upT X 0 (r_pass (B 0) v).2) (r_pass (B 0) v).1 (hW) hP  sz) [0, 1, 2, 3, 4, 5, 6, 7, 8] [] rfl rfl rfl rfl (by decide) (call_recv w (q0 := 0) rfl fX6.1) rfl rfl (Nat.le_of_ble_eq_true rfl) ⟨Nat.le_of_ble_eq_true rfl, Nat.le_of_ble_eq_true rfl⟩ ⟨Nat.le_of_ble_eq_true rfl, Nat.le_of_ble_eq_true rfl⟩ dX6_pass_23 (fun v w1 H locs hr w => ?_)
    obtain ⟨rfl, P3, rfl, hP3⟩ := hr
    have w : Wd g A (mo_ws g b (upT (b_rec B) 0 (r_pass (B 0) v).2) (upT (upT X 0 (r_pass (B 0) v).2) 2 P3)) s H locs := w
    have e8 : c_pass B v = ((r_pass (B 0) v).1, upT (b_rec B) 0 (r_pass (B 0) v).2) := by first | exact act_n (by omega) | exact act_p (by omega)
    exact hend.2 _ _ _ _ ⟨_, rfl, rfl⟩ _ _ dX6_pass_26 w (by rw [e8]; exact ⟨rfl, (upT (upT X 0 (r_pass (B 0) v).2) 2 P3), rfl, hP3⟩)
  · refine lv_iload_n hx hb dX6_pass_17 rfl (lv_at hl 0 rfl) ?_
    refine lv_goto (tgt := 26) hx hb dX6_pass_18 (by decide) ?_
    have e8 : c_pass B v = ((r_pass (B 0) v).1, B) := by first | exact act_n (by omega) | exact act_p (by omega)
    exact hend.2 _ _ _ _ ⟨_, rfl, rfl⟩ _ _ dX6_pass_26 w (by rw [e8]; exact ⟨rfl, (upT X 0 (r_pass (B 0) v).2), rfl, hP⟩)

set_option maxHeartbeats 4000000 in
set_option maxRecDepth 100000 in
theorem t_X6_type (l : Launch) (g : GG) (b : Nat → Nat) (N : Int) (B : Nat → Int → Int) (X : Nat → Int → Int) (v : Int) (hW : WB N B) (hP : PastOk B (X 2)) (h1 : 0 ≤ v ∧ v ≤ 65535) (sz : Nat) : Met l yX6_type (wm yX6_type cX6_type 2 (some .int)) (rmm 0 0 0) (pW g (mo_ws g b B X) sz [.ref (b 0), .int (iI v)]) (qW g (mo_ws g b B X) (fun vv ww => vv = some (.int (iI (c_type B v).1)) ∧ ∃ X', ww = mo_ws g b (c_type B v).2 X' ∧ PastOk (c_type B v).2 (X' 2))) 0 0 (va_A (mo_ws g b B X) sz) := by
  have hk := hW.k
  have hj := hW.j
  have htl := hW.tl
  have hrf := hW.rf
  have hTx := hW.tx
  have hrr := hW.rr
  have hW0 := hW.1
  refine met_w (by decide) (Nat.le_of_ble_eq_true rfl) ?_
  intro p e s m args below meth c Q ls A hx hb hml hown hts hl w hin hend
  obtain ⟨H, hH0⟩ : ∃ H, H = s.heap := ⟨_, rfl⟩
  obtain ⟨locs, hL0⟩ : ∃ locs : List Loc, locs = [] := ⟨_, rfl⟩
  rw [← hH0, ← hL0] at w
  rw [← hH0, ← hL0]
  have hl : lv_has ls 2 [(0, .ref (b 0)), (1, .int (iI v))] := hl
  refine lv_aload_n hx hb dX6_type_0 rfl (lv_at hl 0 rfl) ?_
  refine ri_get (v := .int (iI (B 10 0))) hx hb hts hown w fX6 0 8 (W0_of k_fl_RX6_174 rfl) rfl rfl (by decide) dX6_type_1 ?_
  refine ri_bipush hx hb dX6_type_4 (by decide) ?_
  refine ri_icmp_ne (tgt := 12) hx hb dX6_type_6 (by decide) (by omega) (by omega) (fun c1 => ?_) (fun c1 => ?_)
  · refine lv_aload_n hx hb dX6_type_12 rfl (lv_at hl 0 rfl) ?_
    refine ri_get (v := .ref (b 6)) hx hb hts hown w fX6 0 7 (W0_of k_fl_RX6_25 rfl) rfl rfl (by decide) dX6_type_13 ?_
    refine lv_aload_n hx hb dX6_type_16 rfl (lv_at hl 0 rfl) ?_
    refine ri_get (v := .int (iI (B 10 0))) hx hb hts hown w fX6 0 8 (W0_of k_fl_RX6_174 rfl) rfl rfl (by decide) dX6_type_17 ?_
    refine lv_iload_n hx hb dX6_type_20 rfl (lv_at hl 1 rfl) ?_
    refine ri_iast hx hb w 6 rfl (by omega) dX6_type_21 (by omega) (fun H locs w => ?_)
    have w : Wd g A (mo_ws g b (upT B 6 (up (B 6) (B 10 0) v)) X) s H locs := w
    refine lv_aload_n hx hb dX6_type_22 rfl (lv_at hl 0 rfl) ?_
    refine lv_dup hx hb dX6_type_23 rfl ?_
    refine ri_get (v := .int (iI (B 10 0))) hx hb hts hown w fX6 0 8 (W0_of k_fl_RX6_174 rfl) rfl rfl (by decide) dX6_type_24 ?_
    refine ri_iconst hx hb dX6_type_27 ?_
    refine ri_iadd (z := B 10 0 + 1) hx hb dX6_type_28 rfl ?_
    refine ri_put hx hb hts hown w fX6 0 8 (W0_of k_fl_RX6_174 rfl) rfl (Nat.le_of_ble_eq_true rfl) (by decide) rfl rfl rfl dX6_type_29 (fun H locs w => ?_)
    have w : Wd g A (mo_ws g b (upT (upT B 6 (up (B 6) (B 10 0) v)) 10 (fun _ => B 10 0 + 1)) X) s H locs := w
    refine lv_aload_n hx hb dX6_type_32 rfl (lv_at hl 0 rfl) ?_
    refine ri_get (v := .int (iI (B 10 0 + 1))) hx hb hts hown w fX6 0 8 (W0_of k_fl_RX6_174 rfl) rfl rfl (by decide) dX6_type_33 ?_
    have e8 : c_type B v = (B 10 0 + 1, upT (upT B 6 (up (B 6) (B 10 0) v)) 10 (fun _ => B 10 0 + 1)) := by unfold c_type; rw [if_neg (by first | omega | assumption | (intro hh; exact hh (by assumption)))]
    exact hend.2 _ _ _ _ ⟨_, rfl, rfl⟩ _ _ dX6_type_36 w (by rw [e8]; exact ⟨rfl, X, rfl, hP⟩)
  · refine ri_bipush hx hb dX6_type_9 (by decide) ?_
    have e8 : c_type B v = (-3, B) := by unfold c_type; rw [if_pos (by first | omega | assumption | (intro hh; exact absurd hh (by assumption)))]
    exact hend.2 _ _ _ _ ⟨_, rfl, rfl⟩ _ _ dX6_type_11 w (by rw [e8]; exact ⟨rfl, X, rfl, hP⟩)

set_option maxHeartbeats 4000000 in
set_option maxRecDepth 100000 in
theorem t_X6_clearText (l : Launch) (g : GG) (b : Nat → Nat) (N : Int) (B : Nat → Int → Int) (X : Nat → Int → Int) (hW : WB N B) (hP : PastOk B (X 2)) (sz : Nat) : Met l yX6_clearText (wm yX6_clearText cX6_clearText 2 (some .int)) (rmm 0 0 0) (pW g (mo_ws g b B X) sz [.ref (b 0)]) (qW g (mo_ws g b B X) (fun vv ww => vv = some (.int (iI (c_clear B).1)) ∧ ∃ X', ww = mo_ws g b (c_clear B).2 X' ∧ PastOk (c_clear B).2 (X' 2))) 0 0 (va_A (mo_ws g b B X) sz) := by
  have hk := hW.k
  have hj := hW.j
  have htl := hW.tl
  have hrf := hW.rf
  have hTx := hW.tx
  have hrr := hW.rr
  have hW0 := hW.1
  refine met_w (by decide) (Nat.le_of_ble_eq_true rfl) ?_
  intro p e s m args below meth c Q ls A hx hb hml hown hts hl w hin hend
  obtain ⟨H, hH0⟩ : ∃ H, H = s.heap := ⟨_, rfl⟩
  obtain ⟨locs, hL0⟩ : ∃ locs : List Loc, locs = [] := ⟨_, rfl⟩
  rw [← hH0, ← hL0] at w
  rw [← hH0, ← hL0]
  have hl : lv_has ls 2 [(0, .ref (b 0))] := hl
  refine lv_aload_n hx hb dX6_clearText_0 rfl (lv_at hl 0 rfl) ?_
  refine ri_get (v := .int (iI (B 10 0))) hx hb hts hown w fX6 0 8 (W0_of k_fl_RX6_174 rfl) rfl rfl (by decide) dX6_clearText_1 ?_
  refine lv_istore_n (lv' := [(1, .int (iI (B 10 0))), (0, .ref (b 0))]) hx hb dX6_clearText_4 rfl hl (by decide) rfl (fun ls hl => ?_)
  refine lv_aload_n hx hb dX6_clearText_5 rfl (lv_at hl 1 rfl) ?_
  refine ri_iconst hx hb dX6_clearText_6 ?_
  refine ri_put hx hb hts hown w fX6 0 8 (W0_of k_fl_RX6_174 rfl) rfl (Nat.le_of_ble_eq_true rfl) (by decide) rfl rfl rfl dX6_clearText_7 (fun H locs w => ?_)
  have w : Wd g A (mo_ws g b (upT B 10 (fun _ => 0)) X) s H locs := w
  refine lv_iload_n hx hb dX6_clearText_10 rfl (lv_at hl 0 rfl) ?_
  have e8 : c_clear B = (B 10 0, upT B 10 (fun _ => 0)) := by rfl
  exact hend.2 _ _ _ _ ⟨_, rfl, rfl⟩ _ _ dX6_clearText_11 w (by rw [e8]; exact ⟨rfl, X, rfl, hP⟩)

set_option maxHeartbeats 4000000 in
set_option maxRecDepth 100000 in
theorem t_X6_quietIn (l : Launch) (g : GG) (b : Nat → Nat) (N : Int) (B : Nat → Int → Int) (X : Nat → Int → Int) (hW : WB N B) (hP : PastOk B (X 2)) (hN : N + 40000 ≤ 200000000) (sz : Nat) : Met l yX6_quietIn (wm yX6_quietIn cX6_quietIn 2 (some .int)) (rmm 7 0 0) (pW g (mo_ws g b B X) sz [.ref (b 0)]) (qW g (mo_ws g b B X) (fun vv ww => vv = some (.int (iI (c_quiet (B 0)))) ∧ ∃ X', ww = mo_ws g b B X' ∧ PastOk B (X' 2))) 0 0 (va_A (mo_ws g b B X) sz) := by
  have hk := hW.k
  have hj := hW.j
  have htl := hW.tl
  have hrf := hW.rf
  have hTx := hW.tx
  have hrr := hW.rr
  have hW0 := hW.1
  refine met_w (by decide) (Nat.le_of_ble_eq_true rfl) ?_
  intro p e s m args below meth c Q ls A hx hb hml hown hts hl w hin hend
  obtain ⟨H, hH0⟩ : ∃ H, H = s.heap := ⟨_, rfl⟩
  obtain ⟨locs, hL0⟩ : ∃ locs : List Loc, locs = [] := ⟨_, rfl⟩
  rw [← hH0, ← hL0] at w
  rw [← hH0, ← hL0]
  have hl : lv_has ls 2 [(0, .ref (b 0))] := hl
  refine lv_aload_n hx hb dX6_quietIn_0 rfl (lv_at hl 0 rfl) ?_
  refine call_wV (wr := []) (As := []) (rest := []) hx hb (hml.trans hl.1.symm) hown hts w lk_RX6_155 (fun sz => t_X6_tries l g b _ B X  (hW)  sz) [0, 1, 2, 3, 4, 5, 6, 7, 8] [] rfl rfl rfl rfl (by decide) (call_recv w (q0 := 0) rfl fX6.1) rfl rfl (Nat.le_of_ble_eq_true rfl) ⟨Nat.le_of_ble_eq_true rfl, Nat.le_of_ble_eq_true rfl⟩ ⟨Nat.le_of_ble_eq_true rfl, Nat.le_of_ble_eq_true rfl⟩ dX6_quietIn_1 (fun v w1 H locs hr w => ?_)
  obtain ⟨rfl, rfl⟩ := hr
  have w : Wd g A (mo_ws g b B (upT X 0 (B 0))) s H locs := w
  refine ri_iconst hx hb dX6_quietIn_4 ?_
  refine lv_istore_n (lv' := [(1, .int (iI 0)), (0, .ref (b 0))]) hx hb dX6_quietIn_5 rfl hl (by decide) rfl (fun ls hl => ?_)
  have L6 : ∀ (n : Nat) (xk : Int) (G : Int → Int), (xk + n = 301) → (r_quietL n G xk = c_quiet (B 0)) → (0 ≤ xk) → (WF (N + 100 * xk) G) → ∀ (ls : Array Slot) (H : Heap) (locs : List Loc), lv_has ls 2 [(0, .ref (b 0)), (1, .int (iI xk))] → Wd g A (mo_ws g b B (upT X 0 G)) s H locs → (∀ (G : Int → Int) (hZ : c_quiet (B 0) = -5) (ls : Array Slot) (H : Heap) (locs : List Loc), lv_has ls 2 [] → Wd g A (mo_ws g b B (upT X 0 G)) s H locs → W p l e (rmm 7 0 0) s m args below meth c H locs 0 0 Q (F0 m 39 ls [])) → W p l e (rmm 7 0 0) s m args below meth c H locs 0 0 Q (F0 m 6 ls []) := by
    intro n
    induction n with
    | zero =>
      intro xk G hn hX hlo hWG ls H locs hl w kk6
      refine lv_iload_n hx hb dX6_quietIn_6 rfl (lv_at hl 1 rfl) ?_
      refine ri_sipush hx hb dX6_quietIn_7 (by decide) ?_
      refine ri_icmp_gt (tgt := 39) hx hb dX6_quietIn_10 (by decide) (by omega) (by omega) (fun c1 => ?_) (fun c1 => ?_)
      · exact kk6 G hX.symm ls H locs  (lv_sub hl [] rfl) w
      · exact absurd c1 (by omega)
    | succ n ih6 =>
      intro xk G hn hX hlo hWG ls H locs hl w kk6
      refine lv_iload_n hx hb dX6_quietIn_6 rfl (lv_at hl 1 rfl) ?_
      refine ri_sipush hx hb dX6_quietIn_7 (by decide) ?_
      refine ri_icmp_gt (tgt := 39) hx hb dX6_quietIn_10 (by decide) (by omega) (by omega) (fun c2 => ?_) (fun c2 => ?_)
      · exact absurd c2 (by omega)
      refine lv_aload_n hx hb dX6_quietIn_13 rfl (lv_at hl 0 rfl) ?_
      refine ri_get (v := .ref (b 2)) hx hb hts hown w fX6 0 1 (W0_of k_fl_RX6_13 rfl) rfl rfl (by decide) dX6_quietIn_14 ?_
      refine call_rS (As := [.ref (b 2)]) (rest := []) hx hb (hml.trans hl.1.symm) hown hts w lk_RX6_152 (t_X6_marks l g (b 2) _ G  (hWG) ) [2] rfl rfl rfl rfl (Nat.le_of_ble_eq_true rfl) ⟨Nat.le_of_ble_eq_true rfl, Nat.le_of_ble_eq_true rfl⟩ ⟨Nat.le_of_ble_eq_true rfl, Nat.le_of_ble_eq_true rfl⟩ dX6_quietIn_17 ?_
      have r3 := marks_rg G
      refine ri_if_ne (tgt := 25) hx hb dX6_quietIn_20 (by decide) (by omega) (fun c4 => ?_) (fun c4 => ?_)
      · refine lv_aload_n hx hb dX6_quietIn_25 rfl (lv_at hl 0 rfl) ?_
        refine ri_get (v := .ref (b 2)) hx hb hts hown w fX6 0 1 (W0_of k_fl_RX6_13 rfl) rfl rfl (by decide) dX6_quietIn_26 ?_
        refine call_wS (wr := [(b 0, .inr (6, [.ref (b 1), .ref (b 2), .ref (b 3), .ref (b 4), .int (iI (B 8 0)), .ref (b 5), .int (iI (B 9 0)), .ref (b 6), .int (iI (B 10 0)), .int (iI (X 3 0)), .int (iI (X 4 0)), .ref (b 7), .int (iI (X 6 0)), .ref (b 8), .int (iI (B 11 0))])), (b 1, eI g 233 (B 0)), (b 3, eI g 233 (X 1)), (b 4, eI g 932 (X 2)), (b 5, eI g 233 (B 5)), (b 6, eI g 60 (B 6)), (b 7, eI g 93 (X 5)), (b 8, eI g 3 (B 7))]) (As := [.ref (b 2)]) (rest := []) hx hb (hml.trans hl.1.symm) hown hts w lk_RX6_142 (fun sz => t_X6_ticksOn l g (b 2) _ G  (hWG) (by omega) sz) [2] [0, 1, 3, 4, 5, 6, 7, 8] rfl rfl rfl rfl (by decide) rfl rfl (Nat.le_of_ble_eq_true rfl) ⟨Nat.le_of_ble_eq_true rfl, Nat.le_of_ble_eq_true rfl⟩ ⟨Nat.le_of_ble_eq_true rfl, Nat.le_of_ble_eq_true rfl⟩ dX6_quietIn_29 (fun v w1 H locs hr w => ?_)
        obtain ⟨rfl, rfl⟩ := hr
        have w := w.perm (wc := (mo_ws g b B (upT X 0 (r_tick G).2))) [0, 1, 8, 2, 3, 4, 5, 6, 7] (by decide) rfl
        have w : Wd g A (mo_ws g b B (upT X 0 (r_tick G).2)) s H locs := w
        refine lv_pop hx hb dX6_quietIn_32 rfl ?_
        refine ri_iinc (k := 1) (z := xk + 1) (lv' := [(1, .int (iI (xk + 1))), (0, .ref (b 0))]) hx hb dX6_quietIn_33 hl rfl (by omega) (by decide) rfl (fun ls hl => ?_)
        refine lv_goto (tgt := 6) hx hb dX6_quietIn_36 (by decide) ?_
        exact ih6 (xk + 1) ((r_tick G).2) (by omega) ((by rw [← hX]; rw [quietL_s, if_neg (by omega)])) (by omega) ((wf_tick hWG (by omega)).cast (by omega)) ls H locs (lv_sub hl [1, 0] rfl) w kk6
      · refine lv_iload_n hx hb dX6_quietIn_23 rfl (lv_at hl 1 rfl) ?_
        exact hend.2 _ _ _ _ ⟨_, rfl, rfl⟩ _ _ dX6_quietIn_24 w ⟨(congrArg (fun z => some (Value.int (iI z))) (show xk = c_quiet (B 0) from by rw [← hX, quietL_s, if_pos (by omega)])), (upT X 0 G), rfl, hP⟩
  refine L6 301 0 (B 0) (by omega) (rfl) (by omega) (by rw [show N + 100 * (0 : Int) = N from by omega]; exact hW0) ls H locs (lv_sub hl [1, 0] rfl) w (fun G hZ ls H locs hl w => ?_)
  refine ri_bipush hx hb dX6_quietIn_39 (by decide) ?_
  exact hend.2 _ _ _ _ ⟨_, rfl, rfl⟩ _ _ dX6_quietIn_41 w ⟨(congrArg (fun z => some (Value.int (iI z))) (show -5 = c_quiet (B 0) from by exact hZ.symm)), (upT X 0 G), rfl, hP⟩
