set_option maxHeartbeats 4000000 in
set_option maxRecDepth 100000 in
theorem t_X6_refusal (l : Launch) (g : GG) (b : Nat → Nat) (N : Int) (B : Nat → Int → Int) (X : Nat → Int → Int) (v : Int) (hW : WB N B) (h1 : -2147483648 ≤ v ∧ v ≤ 2147483647) : Met l yX6_refusal (wm yX6_refusal cX6_refusal 2 (some .int)) (rmm 1 0 0) (pR g (mo_ws g b B X) [.ref (b 0), .int (iI v)]) (qR (some (.int (iI (c_refusal B v))))) 0 0 (fun _ => False) := by
  have hk := hW.k
  have hj := hW.j
  have htl := hW.tl
  have hrf := hW.rf
  have hTx := hW.tx
  have hrr := hW.rr
  have hW0 := hW.1
  refine met_r (by decide) (Nat.le_of_ble_eq_true rfl) ?_
  intro p e s m args below meth c Q ls hx hb hml hown hts hl w hend
  have hl : lv_has ls 2 [(0, .ref (b 0)), (1, .int (iI v))] := hl
  refine lv_iload_n hx hb dX6_refusal_0 rfl (lv_at hl 1 rfl) ?_
  refine ri_iconst hx hb dX6_refusal_1 ?_
  refine ri_iconst hx hb dX6_refusal_2 ?_
  refine call_rS (As := [.int (iI v), .int (iI 0), .int (iI 2)]) (rest := []) hx hb (hml.trans hl.1.symm) hown hts w lk_RX6_34 (t_X6_in l g v 0 2 (by omega) (by omega) (by omega)) [] rfl rfl rfl rfl (Nat.le_of_ble_eq_true rfl) ⟨Nat.le_of_ble_eq_true rfl, Nat.le_of_ble_eq_true rfl⟩ ⟨Nat.le_of_ble_eq_true rfl, Nat.le_of_ble_eq_true rfl⟩ dX6_refusal_3 ?_
  refine ri_ifb_ne (tgt := 12) hx hb dX6_refusal_6 (by decide) (fun c1 => ?_) (fun c1 => ?_)
  · refine lv_aload_n hx hb dX6_refusal_12 rfl (lv_at hl 0 rfl) ?_
    refine ri_get (v := .int (iI (B 11 0))) hx hb hts hown w fX6 0 14 (W0_of k_fl_RX6_205 rfl) rfl rfl (by decide) dX6_refusal_13 ?_
    refine ri_if_eq (tgt := 28) hx hb dX6_refusal_16 (by decide) (by omega) (fun c2 => ?_) (fun c2 => ?_)
    · refine ri_bipush hx hb dX6_refusal_28 (by decide) ?_
      exact hend.2 _ (congrArg (fun z => some (Value.int (iI z))) (show c_refusal B v = -5 from by unfold c_refusal; first | omega | (simp only [if_pos c1]; try omega))) ⟨_, rfl, rfl⟩ _ _ dX6_refusal_30
    · refine lv_aload_n hx hb dX6_refusal_19 rfl (lv_at hl 0 rfl) ?_
      refine ri_get (v := .ref (b 8)) hx hb hts hown w fX6 0 13 (W0_of k_fl_RX6_31 rfl) rfl rfl (by decide) dX6_refusal_20 ?_
      refine lv_iload_n hx hb dX6_refusal_23 rfl (lv_at hl 1 rfl) ?_
      refine ri_iald (f := B 7) (v := (B 7) v) hx hb w 8 rfl (by omega) (rfl) dX6_refusal_24 (by omega) ?_
      have r3 := hrr.bd v
      refine lv_goto (tgt := 30) hx hb dX6_refusal_25 (by decide) ?_
      exact hend.2 _ (congrArg (fun z => some (Value.int (iI z))) (show c_refusal B v = (B 7) v from by unfold c_refusal; first | omega | (simp only [if_pos c1]; try omega))) ⟨_, rfl, rfl⟩ _ _ dX6_refusal_30
  · refine ri_bipush hx hb dX6_refusal_9 (by decide) ?_
    exact hend.2 _ (congrArg (fun z => some (Value.int (iI z))) (show c_refusal B v = -2 from by unfold c_refusal; first | omega | (simp only [if_neg c1]; try omega))) ⟨_, rfl, rfl⟩ _ _ dX6_refusal_11

set_option maxHeartbeats 4000000 in
set_option maxRecDepth 100000 in
theorem t_X6_page (l : Launch) (g : GG) (b : Nat → Nat) (N : Int) (B : Nat → Int → Int) (X : Nat → Int → Int) (v : Int) (u : Int) (hW : WB N B) (h1 : -2147483648 ≤ v ∧ v ≤ 2147483647) (h2 : -2147483648 ≤ u ∧ u ≤ 2147483647) : Met l yX6_page (wm yX6_page cX6_page 4 (some .int)) (rmm 3 0 0) (pR g (mo_ws g b B X) [.ref (b 0), .int (iI v), .int (iI u)]) (qR (some (.int (iI (c_page (B 0) v u))))) 0 0 (fun _ => False) := by
  have hk := hW.k
  have hj := hW.j
  have htl := hW.tl
  have hrf := hW.rf
  have hTx := hW.tx
  have hrr := hW.rr
  have hW0 := hW.1
  refine met_r (by decide) (Nat.le_of_ble_eq_true rfl) ?_
  intro p e s m args below meth c Q ls hx hb hml hown hts hl w hend
  have hl : lv_has ls 4 [(0, .ref (b 0)), (1, .int (iI v)), (2, .int (iI u))] := hl
  refine lv_iload_n hx hb dX6_page_0 rfl (lv_at hl 1 rfl) ?_
  refine call_rS (As := [.int (iI v)]) (rest := []) hx hb (hml.trans hl.1.symm) hown hts w lk_RX6_129 (t_X6_isPage l g v (by omega)) [] rfl rfl rfl rfl (Nat.le_of_ble_eq_true rfl) ⟨Nat.le_of_ble_eq_true rfl, Nat.le_of_ble_eq_true rfl⟩ ⟨Nat.le_of_ble_eq_true rfl, Nat.le_of_ble_eq_true rfl⟩ dX6_page_1 ?_
  refine ri_ifb_ne (tgt := 9) hx hb dX6_page_4 (by decide) (fun c1 => ?_) (fun c1 => ?_)
  · refine lv_iload_n hx hb dX6_page_9 rfl (lv_at hl 2 rfl) ?_
    refine ri_iconst hx hb dX6_page_10 ?_
    refine ri_iconst hx hb dX6_page_11 ?_
    refine call_rS (As := [.int (iI u), .int (iI 0), .int (iI 5)]) (rest := []) hx hb (hml.trans hl.1.symm) hown hts w lk_RX6_34 (t_X6_in l g u 0 5 (by omega) (by omega) (by omega)) [] rfl rfl rfl rfl (Nat.le_of_ble_eq_true rfl) ⟨Nat.le_of_ble_eq_true rfl, Nat.le_of_ble_eq_true rfl⟩ ⟨Nat.le_of_ble_eq_true rfl, Nat.le_of_ble_eq_true rfl⟩ dX6_page_12 ?_
    refine ri_ifb_ne (tgt := 21) hx hb dX6_page_15 (by decide) (fun c2 => ?_) (fun c2 => ?_)
    · refine lv_iload_n hx hb dX6_page_21 rfl (lv_at hl 2 rfl) ?_
      refine ri_iconst hx hb dX6_page_22 ?_
      refine ri_icmp_le (tgt := 53) hx hb dX6_page_23 (by decide) (by omega) (by omega) (fun c3 => ?_) (fun c3 => ?_)
      · refine lv_aload_n hx hb dX6_page_53 rfl (lv_at hl 0 rfl) ?_
        refine ri_get (v := .ref (b 1)) hx hb hts hown w fX6 0 0 (W0_of k_fl_RX6_7 rfl) rfl rfl (by decide) dX6_page_54 ?_
        refine lv_iload_n hx hb dX6_page_57 rfl (lv_at hl 1 rfl) ?_
        refine call_rS (As := [.ref (b 1), .int (iI v)]) (rest := []) hx hb (hml.trans hl.1.symm) hown hts w lk_RX6_102 (t_X6_placeOf l g (b 1) (B 0) v (hW0.b) (by omega)) [1] rfl rfl rfl rfl (Nat.le_of_ble_eq_true rfl) ⟨Nat.le_of_ble_eq_true rfl, Nat.le_of_ble_eq_true rfl⟩ ⟨Nat.le_of_ble_eq_true rfl, Nat.le_of_ble_eq_true rfl⟩ dX6_page_58 ?_
        have r4 := placeOf_rg (B 0) v
        refine lv_istore_n (lv' := [(3, .int (iI (r_placeOf (B 0) v))), (0, .ref (b 0)), (1, .int (iI v)), (2, .int (iI u))]) hx hb dX6_page_61 rfl hl (by decide) rfl (fun ls hl => ?_)
        refine lv_iload_n hx hb dX6_page_62 rfl (lv_at hl 0 rfl) ?_
        refine ri_bipush hx hb dX6_page_63 (by decide) ?_
        refine ri_icmp_ne (tgt := 71) hx hb dX6_page_65 (by decide) (by omega) (by omega) (fun c5 => ?_) (fun c5 => ?_)
        · refine lv_iload_n hx hb dX6_page_71 rfl (lv_at hl 3 rfl) ?_
          refine ri_if_ne (tgt := 79) hx hb dX6_page_72 (by decide) (by omega) (fun c6 => ?_) (fun c6 => ?_)
          · refine lv_iload_n hx hb dX6_page_79 rfl (lv_at hl 3 rfl) ?_
            refine ri_iconst hx hb dX6_page_80 ?_
            refine ri_icmp_ne (tgt := 95) hx hb dX6_page_81 (by decide) (by omega) (by omega) (fun c7 => ?_) (fun c7 => ?_)
            · refine lv_iload_n hx hb dX6_page_95 rfl (lv_at hl 3 rfl) ?_
              refine ri_iconst hx hb dX6_page_96 ?_
              refine ri_icmp_ne (tgt := 123) hx hb dX6_page_97 (by decide) (by omega) (by omega) (fun c8 => ?_) (fun c8 => ?_)
              · refine lv_aload_n hx hb dX6_page_123 rfl (lv_at hl 1 rfl) ?_
                refine ri_get (v := .ref (b 1)) hx hb hts hown w fX6 0 0 (W0_of k_fl_RX6_7 rfl) rfl rfl (by decide) dX6_page_124 ?_
                refine lv_iload_n hx hb dX6_page_127 rfl (lv_at hl 0 rfl) ?_
                refine call_rS (As := [.ref (b 1), .int (iI (r_placeOf (B 0) v))]) (rest := []) hx hb (hml.trans hl.1.symm) hown hts w lk_RX6_111 (t_X6_readsLeft l g (b 1) _ (B 0) (r_placeOf (B 0) v) (hW0) (by omega)) [1] rfl rfl rfl rfl (Nat.le_of_ble_eq_true rfl) ⟨Nat.le_of_ble_eq_true rfl, Nat.le_of_ble_eq_true rfl⟩ ⟨Nat.le_of_ble_eq_true rfl, Nat.le_of_ble_eq_true rfl⟩ dX6_page_128 ?_
                have r9 := left_rg (B 0) (r_placeOf (B 0) v)
                exact hend.2 _ (congrArg (fun z => some (Value.int (iI z))) (show c_page (B 0) v u = r_left (B 0) (r_placeOf (B 0) v) from by unfold c_page; first | omega | (simp only [if_pos c1, if_pos c2]; try omega))) ⟨_, rfl, rfl⟩ _ _ dX6_page_131
              · refine lv_aload_n hx hb dX6_page_100 rfl (lv_at hl 1 rfl) ?_
                refine ri_get (v := .ref (b 1)) hx hb hts hown w fX6 0 0 (W0_of k_fl_RX6_7 rfl) rfl rfl (by decide) dX6_page_101 ?_
                refine ri_iconst hx hb dX6_page_104 ?_
                refine ri_iald (f := B 0) (v := (B 0) 0) hx hb w 1 rfl (by omega) (rfl) dX6_page_105 (by omega) ?_
                have r10 := hW0.bd 0
                refine lv_aload_n hx hb dX6_page_106 rfl (lv_at hl 1 rfl) ?_
                refine ri_get (v := .ref (b 1)) hx hb hts hown w fX6 0 0 (W0_of k_fl_RX6_7 rfl) rfl rfl (by decide) dX6_page_107 ?_
                refine ri_bipush hx hb dX6_page_110 (by decide) ?_
                refine ri_iconst hx hb dX6_page_112 ?_
                refine lv_iload_n hx hb dX6_page_113 rfl (lv_at hl 0 rfl) ?_
                refine ri_imul (z := 3 * r_placeOf (B 0) v) hx hb dX6_page_114 (by omega) ?_
                refine ri_iadd (z := 3 * r_placeOf (B 0) v + 65) hx hb dX6_page_115 (by omega) ?_
                refine ri_iconst hx hb dX6_page_116 ?_
                refine ri_iadd (z := 3 * r_placeOf (B 0) v + 67) hx hb dX6_page_117 (by omega) ?_
                refine ri_iald (f := B 0) (v := (B 0) (3 * r_placeOf (B 0) v + 67)) hx hb w 1 rfl (by omega) (rfl) dX6_page_118 (by omega) ?_
                have r11 := hW0.bd (3 * r_placeOf (B 0) v + 67)
                refine ri_isub (z := (B 0) 0 - (B 0) (3 * r_placeOf (B 0) v + 67)) hx hb dX6_page_119 rfl ?_
                refine lv_goto (tgt := 131) hx hb dX6_page_120 (by decide) ?_
                exact hend.2 _ (congrArg (fun z => some (Value.int (iI z))) (show c_page (B 0) v u = (B 0) 0 - (B 0) (3 * r_placeOf (B 0) v + 67) from by unfold c_page; first | omega | (simp only [if_pos c1, if_pos c2]; try omega))) ⟨_, rfl, rfl⟩ _ _ dX6_page_131
            · refine lv_aload_n hx hb dX6_page_84 rfl (lv_at hl 1 rfl) ?_
              refine ri_get (v := .ref (b 1)) hx hb hts hown w fX6 0 0 (W0_of k_fl_RX6_7 rfl) rfl rfl (by decide) dX6_page_85 ?_
              refine lv_iload_n hx hb dX6_page_88 rfl (lv_at hl 0 rfl) ?_
              refine call_rS (As := [.ref (b 1), .int (iI (r_placeOf (B 0) v))]) (rest := []) hx hb (hml.trans hl.1.symm) hown hts w lk_RX6_72 (t_X6_weak l g (b 1) (B 0) (r_placeOf (B 0) v) (3 * r_placeOf (B 0) v + 66) (by omega) (by omega)) [1] rfl rfl rfl rfl (Nat.le_of_ble_eq_true rfl) ⟨Nat.le_of_ble_eq_true rfl, Nat.le_of_ble_eq_true rfl⟩ ⟨Nat.le_of_ble_eq_true rfl, Nat.le_of_ble_eq_true rfl⟩ dX6_page_89 ?_
              have r12 := hW0.bd (3 * r_placeOf (B 0) v + 66)
              refine lv_goto (tgt := 131) hx hb dX6_page_92 (by decide) ?_
              exact hend.2 _ (congrArg (fun z => some (Value.int (iI z))) (show c_page (B 0) v u = (B 0) (3 * r_placeOf (B 0) v + 66) from by unfold c_page; first | omega | (simp only [if_pos c1, if_pos c2]; try omega))) ⟨_, rfl, rfl⟩ _ _ dX6_page_131
          · refine lv_iload_n hx hb dX6_page_75 rfl (lv_at hl 0 rfl) ?_
            refine lv_goto (tgt := 131) hx hb dX6_page_76 (by decide) ?_
            exact hend.2 _ (congrArg (fun z => some (Value.int (iI z))) (show c_page (B 0) v u = r_placeOf (B 0) v from by unfold c_page; first | omega | (simp only [if_pos c1, if_pos c2]; try omega))) ⟨_, rfl, rfl⟩ _ _ dX6_page_131
        · refine ri_bipush hx hb dX6_page_68 (by decide) ?_
          exact hend.2 _ (congrArg (fun z => some (Value.int (iI z))) (show c_page (B 0) v u = -5 from by unfold c_page; first | omega | (simp only [if_pos c1, if_pos c2]; try omega))) ⟨_, rfl, rfl⟩ _ _ dX6_page_70
      · refine lv_iload_n hx hb dX6_page_26 rfl (lv_at hl 2 rfl) ?_
        refine ri_iconst hx hb dX6_page_27 ?_
        refine ri_icmp_ne (tgt := 42) hx hb dX6_page_28 (by decide) (by omega) (by omega) (fun c13 => ?_) (fun c13 => ?_)
        · refine lv_aload_n hx hb dX6_page_42 rfl (lv_at hl 0 rfl) ?_
          refine ri_get (v := .ref (b 1)) hx hb hts hown w fX6 0 0 (W0_of k_fl_RX6_7 rfl) rfl rfl (by decide) dX6_page_43 ?_
          refine ri_sipush hx hb dX6_page_46 (by decide) ?_
          refine lv_iload_n hx hb dX6_page_49 rfl (lv_at hl 1 rfl) ?_
          refine ri_iadd (z := v + 209) hx hb dX6_page_50 (by omega) ?_
          refine ri_iald (f := B 0) (v := (B 0) (v + 209)) hx hb w 1 rfl (by omega) (rfl) dX6_page_51 (by omega) ?_
          have r14 := hW0.bd (v + 209)
          exact hend.2 _ (congrArg (fun z => some (Value.int (iI z))) (show c_page (B 0) v u = (B 0) (v + 209) from by unfold c_page; first | omega | (simp only [if_pos c1, if_pos c2]; try omega))) ⟨_, rfl, rfl⟩ _ _ dX6_page_52
        · refine lv_aload_n hx hb dX6_page_31 rfl (lv_at hl 0 rfl) ?_
          refine ri_get (v := .ref (b 1)) hx hb hts hown w fX6 0 0 (W0_of k_fl_RX6_7 rfl) rfl rfl (by decide) dX6_page_32 ?_
          refine lv_iload_n hx hb dX6_page_35 rfl (lv_at hl 1 rfl) ?_
          refine call_rS (As := [.ref (b 1), .int (iI v)]) (rest := []) hx hb (hml.trans hl.1.symm) hown hts w lk_RX6_87 (t_X6_buffered l g (b 1) _ (B 0) v (hW0) (by omega)) [1] rfl rfl rfl rfl (Nat.le_of_ble_eq_true rfl) ⟨Nat.le_of_ble_eq_true rfl, Nat.le_of_ble_eq_true rfl⟩ ⟨Nat.le_of_ble_eq_true rfl, Nat.le_of_ble_eq_true rfl⟩ dX6_page_36 ?_
          have r15 := buf_rg (B 0) v
          refine lv_goto (tgt := 52) hx hb dX6_page_39 (by decide) ?_
          exact hend.2 _ (congrArg (fun z => some (Value.int (iI z))) (show c_page (B 0) v u = r_buf (B 0) v from by unfold c_page; first | omega | (simp only [if_pos c1, if_pos c2]; try omega))) ⟨_, rfl, rfl⟩ _ _ dX6_page_52
    · refine ri_bipush hx hb dX6_page_18 (by decide) ?_
      exact hend.2 _ (congrArg (fun z => some (Value.int (iI z))) (show c_page (B 0) v u = -2 from by unfold c_page; first | omega | (simp only [if_pos c1, if_neg c2]; try omega))) ⟨_, rfl, rfl⟩ _ _ dX6_page_20
  · refine ri_iconst hx hb dX6_page_7 ?_
    exact hend.2 _ (congrArg (fun z => some (Value.int (iI z))) (show c_page (B 0) v u = -1 from by unfold c_page; first | omega | (simp only [if_neg c1]; try omega))) ⟨_, rfl, rfl⟩ _ _ dX6_page_8

set_option maxHeartbeats 4000000 in
set_option maxRecDepth 100000 in
theorem t_X6_block (l : Launch) (g : GG) (b : Nat → Nat) (N : Int) (B : Nat → Int → Int) (X : Nat → Int → Int) (v : Int) (u : Int) (hW : WB N B) (h1 : -2147483648 ≤ v ∧ v ≤ 2147483647) (h2 : -2147483648 ≤ u ∧ u ≤ 2147483647) : Met l yX6_block (wm yX6_block cX6_block 4 (some .int)) (rmm 4 0 0) (pR g (mo_ws g b B X) [.ref (b 0), .int (iI v), .int (iI u)]) (qR (some (.int (iI (c_block (B 0) v u))))) 0 0 (fun _ => False) := by
  have hk := hW.k
  have hj := hW.j
  have htl := hW.tl
  have hrf := hW.rf
  have hTx := hW.tx
  have hrr := hW.rr
  have hW0 := hW.1
  have e0 : u = 0 → B 0 (u + 4 * v + 41) = B 0 (4 * v + 41) := fun h => by rw [h, Int.zero_add]
  have e1 : u = 1 → B 0 (u + 4 * v + 41) = B 0 (4 * v + 42) := fun h => congrArg _ (by omega)
  refine met_r (by decide) (Nat.le_of_ble_eq_true rfl) ?_
  intro p e s m args below meth c Q ls hx hb hml hown hts hl w hend
  have hl : lv_has ls 4 [(0, .ref (b 0)), (1, .int (iI v)), (2, .int (iI u))] := hl
  refine lv_iload_n hx hb dX6_block_0 rfl (lv_at hl 1 rfl) ?_
  refine call_rS (As := [.int (iI v)]) (rest := []) hx hb (hml.trans hl.1.symm) hown hts w lk_RX6_149 (t_X6_isBlock l g v (by omega)) [] rfl rfl rfl rfl (Nat.le_of_ble_eq_true rfl) ⟨Nat.le_of_ble_eq_true rfl, Nat.le_of_ble_eq_true rfl⟩ ⟨Nat.le_of_ble_eq_true rfl, Nat.le_of_ble_eq_true rfl⟩ dX6_block_1 ?_
  refine ri_ifb_ne (tgt := 9) hx hb dX6_block_4 (by decide) (fun c1 => ?_) (fun c1 => ?_)
  · refine lv_iload_n hx hb dX6_block_9 rfl (lv_at hl 2 rfl) ?_
    refine ri_iconst hx hb dX6_block_10 ?_
    refine ri_bipush hx hb dX6_block_11 (by decide) ?_
    refine call_rS (As := [.int (iI u), .int (iI 0), .int (iI 9)]) (rest := []) hx hb (hml.trans hl.1.symm) hown hts w lk_RX6_34 (t_X6_in l g u 0 9 (by omega) (by omega) (by omega)) [] rfl rfl rfl rfl (Nat.le_of_ble_eq_true rfl) ⟨Nat.le_of_ble_eq_true rfl, Nat.le_of_ble_eq_true rfl⟩ ⟨Nat.le_of_ble_eq_true rfl, Nat.le_of_ble_eq_true rfl⟩ dX6_block_13 ?_
    refine ri_ifb_ne (tgt := 22) hx hb dX6_block_16 (by decide) (fun c2 => ?_) (fun c2 => ?_)
    · refine ri_bipush hx hb dX6_block_22 (by decide) ?_
      refine ri_iconst hx hb dX6_block_24 ?_
      refine lv_iload_n hx hb dX6_block_25 rfl (lv_at hl 1 rfl) ?_
      refine ri_imul (z := 4 * v) hx hb dX6_block_26 rfl ?_
      refine ri_iadd (z := 4 * v + 41) hx hb dX6_block_27 (by omega) ?_
      refine lv_istore_n (lv' := [(3, .int (iI (4 * v + 41))), (0, .ref (b 0)), (1, .int (iI v)), (2, .int (iI u))]) hx hb dX6_block_28 rfl hl (by decide) rfl (fun ls hl => ?_)
      refine lv_iload_n hx hb dX6_block_29 rfl (lv_at hl 3 rfl) ?_
      refine ri_iconst hx hb dX6_block_30 ?_
      refine ri_icmp_ge (tgt := 86) hx hb dX6_block_31 (by decide) (by omega) (by omega) (fun c3 => ?_) (fun c3 => ?_)
      · refine lv_iload_n hx hb dX6_block_86 rfl (lv_at hl 3 rfl) ?_
        refine ri_bipush hx hb dX6_block_87 (by decide) ?_
        refine ri_icmp_ge (tgt := 145) hx hb dX6_block_89 (by decide) (by omega) (by omega) (fun c4 => ?_) (fun c4 => ?_)
        · refine lv_iload_n hx hb dX6_block_145 rfl (lv_at hl 3 rfl) ?_
          refine ri_bipush hx hb dX6_block_146 (by decide) ?_
          refine ri_icmp_ne (tgt := 162) hx hb dX6_block_148 (by decide) (by omega) (by omega) (fun c5 => ?_) (fun c5 => ?_)
          · refine lv_aload_n hx hb dX6_block_162 rfl (lv_at hl 1 rfl) ?_
            refine ri_get (v := .ref (b 1)) hx hb hts hown w fX6 0 0 (W0_of k_fl_RX6_7 rfl) rfl rfl (by decide) dX6_block_163 ?_
            refine lv_iload_n hx hb dX6_block_166 rfl (lv_at hl 0 rfl) ?_
            refine ri_iconst hx hb dX6_block_167 ?_
            refine ri_iadd (z := 4 * v + 43) hx hb dX6_block_168 (by omega) ?_
            refine ri_iald (f := B 0) (v := (B 0) (4 * v + 43)) hx hb w 1 rfl (by omega) (rfl) dX6_block_169 (by omega) ?_
            have r6 := hW0.bd (4 * v + 43)
            exact hend.2 _ (congrArg (fun z => some (Value.int (iI z))) (show c_block (B 0) v u = (B 0) (4 * v + 43) from by unfold c_block; first | omega | (simp only [if_pos c1, if_pos c2]; try omega))) ⟨_, rfl, rfl⟩ _ _ dX6_block_170
          · refine lv_aload_n hx hb dX6_block_151 rfl (lv_at hl 1 rfl) ?_
            refine ri_get (v := .ref (b 1)) hx hb hts hown w fX6 0 0 (W0_of k_fl_RX6_7 rfl) rfl rfl (by decide) dX6_block_152 ?_
            refine lv_iload_n hx hb dX6_block_155 rfl (lv_at hl 0 rfl) ?_
            refine ri_iconst hx hb dX6_block_156 ?_
            refine ri_iadd (z := 4 * v + 44) hx hb dX6_block_157 (by omega) ?_
            refine ri_iald (f := B 0) (v := (B 0) (4 * v + 44)) hx hb w 1 rfl (by omega) (rfl) dX6_block_158 (by omega) ?_
            have r7 := hW0.bd (4 * v + 44)
            refine lv_goto (tgt := 170) hx hb dX6_block_159 (by decide) ?_
            exact hend.2 _ (congrArg (fun z => some (Value.int (iI z))) (show c_block (B 0) v u = (B 0) (4 * v + 44) from by unfold c_block; first | omega | (simp only [if_pos c1, if_pos c2]; try omega))) ⟨_, rfl, rfl⟩ _ _ dX6_block_170
        · refine lv_iload_n hx hb dX6_block_92 rfl (lv_at hl 3 rfl) ?_
          refine ri_iconst hx hb dX6_block_93 ?_
          refine ri_icmp_ne (tgt := 108) hx hb dX6_block_94 (by decide) (by omega) (by omega) (fun c8 => ?_) (fun c8 => ?_)
          · refine lv_iload_n hx hb dX6_block_108 rfl (lv_at hl 3 rfl) ?_
            refine ri_bipush hx hb dX6_block_109 (by decide) ?_
            refine ri_icmp_ne (tgt := 128) hx hb dX6_block_111 (by decide) (by omega) (by omega) (fun c9 => ?_) (fun c9 => ?_)
            · refine lv_aload_n hx hb dX6_block_128 rfl (lv_at hl 1 rfl) ?_
              refine ri_get (v := .ref (b 1)) hx hb hts hown w fX6 0 0 (W0_of k_fl_RX6_7 rfl) rfl rfl (by decide) dX6_block_129 ?_
              refine lv_iload_n hx hb dX6_block_132 rfl (lv_at hl 2 rfl) ?_
              refine call_rS (As := [.ref (b 1), .int (iI v)]) (rest := []) hx hb (hml.trans hl.1.symm) hown hts w lk_RX6_64 (t_X6_isFree l g (b 1) (B 0) v (hW0.b) (by omega)) [1] rfl rfl rfl rfl (Nat.le_of_ble_eq_true rfl) ⟨Nat.le_of_ble_eq_true rfl, Nat.le_of_ble_eq_true rfl⟩ ⟨Nat.le_of_ble_eq_true rfl, Nat.le_of_ble_eq_true rfl⟩ dX6_block_133 ?_
              refine ri_ifb_eq (tgt := 143) hx hb dX6_block_136 (by decide) (fun c10 => ?_) (fun c10 => ?_)
              · refine ri_iconst hx hb dX6_block_143 ?_
                exact hend.2 _ (congrArg (fun z => some (Value.int (iI z))) (show c_block (B 0) v u = 0 from by unfold c_block; first | omega | (simp only [if_pos c1, if_pos c2, if_neg c10]; try omega))) ⟨_, rfl, rfl⟩ _ _ dX6_block_144
              · refine ri_iconst hx hb dX6_block_139 ?_
                refine lv_goto (tgt := 144) hx hb dX6_block_140 (by decide) ?_
                exact hend.2 _ (congrArg (fun z => some (Value.int (iI z))) (show c_block (B 0) v u = 1 from by unfold c_block; first | omega | (simp only [if_pos c1, if_pos c2, if_pos c10]; try omega))) ⟨_, rfl, rfl⟩ _ _ dX6_block_144
            · refine lv_aload_n hx hb dX6_block_114 rfl (lv_at hl 1 rfl) ?_
              refine ri_get (v := .ref (b 1)) hx hb hts hown w fX6 0 0 (W0_of k_fl_RX6_7 rfl) rfl rfl (by decide) dX6_block_115 ?_
              refine lv_iload_n hx hb dX6_block_118 rfl (lv_at hl 2 rfl) ?_
              refine call_rS (As := [.ref (b 1), .int (iI v)]) (rest := []) hx hb (hml.trans hl.1.symm) hown hts w lk_RX6_81 (t_X6_isMarked l g (b 1) _ (B 0) v (hW0) (by omega)) [1] rfl rfl rfl rfl (Nat.le_of_ble_eq_true rfl) ⟨Nat.le_of_ble_eq_true rfl, Nat.le_of_ble_eq_true rfl⟩ ⟨Nat.le_of_ble_eq_true rfl, Nat.le_of_ble_eq_true rfl⟩ dX6_block_119 ?_
              refine ri_ifb_eq (tgt := 143) hx hb dX6_block_122 (by decide) (fun c11 => ?_) (fun c11 => ?_)
              · refine ri_iconst hx hb dX6_block_143 ?_
                exact hend.2 _ (congrArg (fun z => some (Value.int (iI z))) (show c_block (B 0) v u = 0 from by unfold c_block; first | omega | (simp only [if_pos c1, if_pos c2, if_neg c11]; try omega))) ⟨_, rfl, rfl⟩ _ _ dX6_block_144
              · refine lv_goto (tgt := 139) hx hb dX6_block_125 (by decide) ?_
                refine ri_iconst hx hb dX6_block_139 ?_
                refine lv_goto (tgt := 144) hx hb dX6_block_140 (by decide) ?_
                exact hend.2 _ (congrArg (fun z => some (Value.int (iI z))) (show c_block (B 0) v u = 1 from by unfold c_block; first | omega | (simp only [if_pos c1, if_pos c2, if_pos c11]; try omega))) ⟨_, rfl, rfl⟩ _ _ dX6_block_144
          · refine lv_aload_n hx hb dX6_block_97 rfl (lv_at hl 1 rfl) ?_
            refine ri_get (v := .ref (b 1)) hx hb hts hown w fX6 0 0 (W0_of k_fl_RX6_7 rfl) rfl rfl (by decide) dX6_block_98 ?_
            refine lv_iload_n hx hb dX6_block_101 rfl (lv_at hl 2 rfl) ?_
            refine call_rS (As := [.ref (b 1), .int (iI v)]) (rest := []) hx hb (hml.trans hl.1.symm) hown hts w lk_RX6_78 (t_X6_greatest l g (b 1) _ (B 0) v (hW0) (by omega)) [1] rfl rfl rfl rfl (Nat.le_of_ble_eq_true rfl) ⟨Nat.le_of_ble_eq_true rfl, Nat.le_of_ble_eq_true rfl⟩ ⟨Nat.le_of_ble_eq_true rfl, Nat.le_of_ble_eq_true rfl⟩ dX6_block_102 ?_
            have r12 := great_rg hW0 (b := v) (by omega) (by omega)
            refine lv_goto (tgt := 144) hx hb dX6_block_105 (by decide) ?_
            exact hend.2 _ (congrArg (fun z => some (Value.int (iI z))) (show c_block (B 0) v u = r_great (B 0) v from by unfold c_block; first | omega | (simp only [if_pos c1, if_pos c2]; try omega))) ⟨_, rfl, rfl⟩ _ _ dX6_block_144
      · refine lv_iload_n hx hb dX6_block_34 rfl (lv_at hl 3 rfl) ?_
        refine ri_iconst hx hb dX6_block_35 ?_
        refine ri_icmp_ge (tgt := 50) hx hb dX6_block_36 (by decide) (by omega) (by omega) (fun c13 => ?_) (fun c13 => ?_)
        · refine lv_iload_n hx hb dX6_block_50 rfl (lv_at hl 3 rfl) ?_
          refine ri_iconst hx hb dX6_block_51 ?_
          refine ri_icmp_ne (tgt := 66) hx hb dX6_block_52 (by decide) (by omega) (by omega) (fun c14 => ?_) (fun c14 => ?_)
          · refine lv_aload_n hx hb dX6_block_66 rfl (lv_at hl 1 rfl) ?_
            refine ri_get (v := .ref (b 1)) hx hb hts hown w fX6 0 0 (W0_of k_fl_RX6_7 rfl) rfl rfl (by decide) dX6_block_67 ?_
            refine lv_iload_n hx hb dX6_block_70 rfl (lv_at hl 2 rfl) ?_
            refine lv_iload_n hx hb dX6_block_71 rfl (lv_at hl 3 rfl) ?_
            refine ri_iconst hx hb dX6_block_72 ?_
            refine ri_icmp_ne (tgt := 80) hx hb dX6_block_73 (by decide) (by omega) (by omega) (fun c15 => ?_) (fun c15 => ?_)
            · refine ri_bipush hx hb dX6_block_80 (by decide) ?_
              refine call_rS (As := [.ref (b 1), .int (iI v), .int (iI (-2))]) (rest := []) hx hb (hml.trans hl.1.symm) hown hts w lk_RX6_60 (t_X6_many l g (b 1) (B 0) v (-2) (hW0.b) (by omega) (by omega)) [1] rfl rfl rfl rfl (Nat.le_of_ble_eq_true rfl) ⟨Nat.le_of_ble_eq_true rfl, Nat.le_of_ble_eq_true rfl⟩ ⟨Nat.le_of_ble_eq_true rfl, Nat.le_of_ble_eq_true rfl⟩ dX6_block_82 ?_
              have r16 := cnt_rg (B 0) v (-2)
              exact hend.2 _ (congrArg (fun z => some (Value.int (iI z))) (show c_block (B 0) v u = r_cnt (B 0) v (-2) from by unfold c_block; first | omega | (simp only [if_pos c1, if_pos c2]; try omega))) ⟨_, rfl, rfl⟩ _ _ dX6_block_85
            · refine ri_iconst hx hb dX6_block_76 ?_
              refine lv_goto (tgt := 82) hx hb dX6_block_77 (by decide) ?_
              refine call_rS (As := [.ref (b 1), .int (iI v), .int (iI 0)]) (rest := []) hx hb (hml.trans hl.1.symm) hown hts w lk_RX6_60 (t_X6_many l g (b 1) (B 0) v 0 (hW0.b) (by omega) (by omega)) [1] rfl rfl rfl rfl (Nat.le_of_ble_eq_true rfl) ⟨Nat.le_of_ble_eq_true rfl, Nat.le_of_ble_eq_true rfl⟩ ⟨Nat.le_of_ble_eq_true rfl, Nat.le_of_ble_eq_true rfl⟩ dX6_block_82 ?_
              have r17 := cnt_rg (B 0) v 0
              exact hend.2 _ (congrArg (fun z => some (Value.int (iI z))) (show c_block (B 0) v u = r_cnt (B 0) v 0 from by unfold c_block; first | omega | (simp only [if_pos c1, if_pos c2]; try omega))) ⟨_, rfl, rfl⟩ _ _ dX6_block_85
          · refine lv_aload_n hx hb dX6_block_55 rfl (lv_at hl 1 rfl) ?_
            refine ri_get (v := .ref (b 1)) hx hb hts hown w fX6 0 0 (W0_of k_fl_RX6_7 rfl) rfl rfl (by decide) dX6_block_56 ?_
            refine lv_iload_n hx hb dX6_block_59 rfl (lv_at hl 2 rfl) ?_
            refine call_rS (As := [.ref (b 1), .int (iI v)]) (rest := []) hx hb (hml.trans hl.1.symm) hown hts w lk_RX6_69 (t_X6_bears l g (b 1) _ (B 0) v (hW0) (by omega)) [1] rfl rfl rfl rfl (Nat.le_of_ble_eq_true rfl) ⟨Nat.le_of_ble_eq_true rfl, Nat.le_of_ble_eq_true rfl⟩ ⟨Nat.le_of_ble_eq_true rfl, Nat.le_of_ble_eq_true rfl⟩ dX6_block_60 ?_
            have r18 := bears_rg hW0 (b := v) (by omega) (by omega)
            refine lv_goto (tgt := 85) hx hb dX6_block_63 (by decide) ?_
            exact hend.2 _ (congrArg (fun z => some (Value.int (iI z))) (show c_block (B 0) v u = r_bears (B 0) v from by unfold c_block; first | omega | (simp only [if_pos c1, if_pos c2]; try omega))) ⟨_, rfl, rfl⟩ _ _ dX6_block_85
        · refine lv_aload_n hx hb dX6_block_39 rfl (lv_at hl 1 rfl) ?_
          refine ri_get (v := .ref (b 1)) hx hb hts hown w fX6 0 0 (W0_of k_fl_RX6_7 rfl) rfl rfl (by decide) dX6_block_40 ?_
          refine lv_iload_n hx hb dX6_block_43 rfl (lv_at hl 0 rfl) ?_
          refine lv_iload_n hx hb dX6_block_44 rfl (lv_at hl 3 rfl) ?_
          refine ri_iadd (z := u + 4 * v + 41) hx hb dX6_block_45 (by omega) ?_
          refine ri_iald (f := B 0) (v := (B 0) (u + 4 * v + 41)) hx hb w 1 rfl (by omega) (rfl) dX6_block_46 (by omega) ?_
          have r19 := hW0.bd (u + 4 * v + 41)
          refine lv_goto (tgt := 85) hx hb dX6_block_47 (by decide) ?_
          exact hend.2 _ (congrArg (fun z => some (Value.int (iI z))) (show c_block (B 0) v u = (B 0) (u + 4 * v + 41) from by unfold c_block; first | omega | (simp only [if_pos c1, if_pos c2]; try omega))) ⟨_, rfl, rfl⟩ _ _ dX6_block_85
    · refine ri_bipush hx hb dX6_block_19 (by decide) ?_
      exact hend.2 _ (congrArg (fun z => some (Value.int (iI z))) (show c_block (B 0) v u = -2 from by unfold c_block; first | omega | (simp only [if_pos c1, if_neg c2]; try omega))) ⟨_, rfl, rfl⟩ _ _ dX6_block_21
  · refine ri_iconst hx hb dX6_block_7 ?_
    exact hend.2 _ (congrArg (fun z => some (Value.int (iI z))) (show c_block (B 0) v u = -1 from by unfold c_block; first | omega | (simp only [if_neg c1]; try omega))) ⟨_, rfl, rfl⟩ _ _ dX6_block_8

set_option maxHeartbeats 4000000 in
set_option maxRecDepth 100000 in
theorem t_X6_place (l : Launch) (g : GG) (b : Nat → Nat) (N : Int) (B : Nat → Int → Int) (X : Nat → Int → Int) (v : Int) (k : Int) (u : Int) (hW : WB N B) (h1 : -2147483648 ≤ v ∧ v ≤ 2147483647) (h4 : -2147483648 ≤ k ∧ k ≤ 2147483647) (h2 : -2147483648 ≤ u ∧ u ≤ 2147483647) : Met l yX6_place (wm yX6_place cX6_place 6 (some .int)) (rmm 2 0 0) (pR g (mo_ws g b B X) [.ref (b 0), .int (iI v), .int (iI k), .int (iI u)]) (qR (some (.int (iI (c_place (B 0) v k u))))) 0 0 (fun _ => False) := by
  have hk := hW.k
  have hj := hW.j
  have htl := hW.tl
  have hrf := hW.rf
  have hTx := hW.tx
  have hrr := hW.rr
  have hW0 := hW.1
  refine met_r (by decide) (Nat.le_of_ble_eq_true rfl) ?_
  intro p e s m args below meth c Q ls hx hb hml hown hts hl w hend
  have hl : lv_has ls 6 [(0, .ref (b 0)), (1, .int (iI v)), (2, .int (iI k)), (3, .int (iI u))] := hl
  refine lv_iload_n hx hb dX6_place_0 rfl (lv_at hl 1 rfl) ?_
  refine call_rS (As := [.int (iI v)]) (rest := []) hx hb (hml.trans hl.1.symm) hown hts w lk_RX6_149 (t_X6_isBlock l g v (by omega)) [] rfl rfl rfl rfl (Nat.le_of_ble_eq_true rfl) ⟨Nat.le_of_ble_eq_true rfl, Nat.le_of_ble_eq_true rfl⟩ ⟨Nat.le_of_ble_eq_true rfl, Nat.le_of_ble_eq_true rfl⟩ dX6_place_1 ?_
  refine ri_ifb_eq (tgt := 17) hx hb dX6_place_4 (by decide) (fun c1 => ?_) (fun c1 => ?_)
  · refine ri_iconst hx hb dX6_place_17 ?_
    exact hend.2 _ (congrArg (fun z => some (Value.int (iI z))) (show c_place (B 0) v k u = -1 from by unfold c_place; first | omega | (simp only [if_neg c1]; try omega))) ⟨_, rfl, rfl⟩ _ _ dX6_place_18
  · refine lv_iload_n hx hb dX6_place_7 rfl (lv_at hl 2 rfl) ?_
    refine ri_iconst hx hb dX6_place_8 ?_
    refine ri_bipush hx hb dX6_place_9 (by decide) ?_
    refine call_rS (As := [.int (iI k), .int (iI 0), .int (iI 7)]) (rest := []) hx hb (hml.trans hl.1.symm) hown hts w lk_RX6_34 (t_X6_in l g k 0 7 (by omega) (by omega) (by omega)) [] rfl rfl rfl rfl (Nat.le_of_ble_eq_true rfl) ⟨Nat.le_of_ble_eq_true rfl, Nat.le_of_ble_eq_true rfl⟩ ⟨Nat.le_of_ble_eq_true rfl, Nat.le_of_ble_eq_true rfl⟩ dX6_place_11 ?_
    refine ri_ifb_ne (tgt := 19) hx hb dX6_place_14 (by decide) (fun c2 => ?_) (fun c2 => ?_)
    · refine lv_iload_n hx hb dX6_place_19 rfl (lv_at hl 3 rfl) ?_
      refine ri_iconst hx hb dX6_place_20 ?_
      refine ri_iconst hx hb dX6_place_21 ?_
      refine call_rS (As := [.int (iI u), .int (iI 0), .int (iI 2)]) (rest := []) hx hb (hml.trans hl.1.symm) hown hts w lk_RX6_34 (t_X6_in l g u 0 2 (by omega) (by omega) (by omega)) [] rfl rfl rfl rfl (Nat.le_of_ble_eq_true rfl) ⟨Nat.le_of_ble_eq_true rfl, Nat.le_of_ble_eq_true rfl⟩ ⟨Nat.le_of_ble_eq_true rfl, Nat.le_of_ble_eq_true rfl⟩ dX6_place_22 ?_
      refine ri_ifb_ne (tgt := 31) hx hb dX6_place_25 (by decide) (fun c3 => ?_) (fun c3 => ?_)
      · refine ri_bipush hx hb dX6_place_31 (by decide) ?_
        refine lv_iload_n hx hb dX6_place_33 rfl (lv_at hl 1 rfl) ?_
        refine ri_imul (z := 8 * v) hx hb dX6_place_34 rfl ?_
        refine lv_iload_n hx hb dX6_place_35 rfl (lv_at hl 2 rfl) ?_
        refine ri_iadd (z := k + 8 * v) hx hb dX6_place_36 (by omega) ?_
        refine lv_istore (lv' := [(4, .int (iI (k + 8 * v))), (0, .ref (b 0)), (1, .int (iI v)), (2, .int (iI k)), (3, .int (iI u))]) hx hb dX6_place_37 hl (by decide) rfl (fun ls hl => ?_)
        refine lv_aload_n hx hb dX6_place_39 rfl (lv_at hl 1 rfl) ?_
        refine ri_get (v := .ref (b 1)) hx hb hts hown w fX6 0 0 (W0_of k_fl_RX6_7 rfl) rfl rfl (by decide) dX6_place_40 ?_
        refine lv_iload hx hb dX6_place_43 (lv_at hl 0 rfl) ?_
        refine call_rS (As := [.ref (b 1), .int (iI (k + 8 * v))]) (rest := []) hx hb (hml.trans hl.1.symm) hown hts w lk_RX6_53 (t_X6_holds l g (b 1) (B 0) (k + 8 * v) (3 * k + 24 * v + 65) (by omega) (by omega)) [1] rfl rfl rfl rfl (Nat.le_of_ble_eq_true rfl) ⟨Nat.le_of_ble_eq_true rfl, Nat.le_of_ble_eq_true rfl⟩ ⟨Nat.le_of_ble_eq_true rfl, Nat.le_of_ble_eq_true rfl⟩ dX6_place_45 ?_
        have r4 := hW0.bd (3 * k + 24 * v + 65)
        refine lv_istore (lv' := [(5, .int (iI ((B 0) (3 * k + 24 * v + 65)))), (4, .int (iI (k + 8 * v))), (0, .ref (b 0)), (1, .int (iI v)), (2, .int (iI k)), (3, .int (iI u))]) hx hb dX6_place_48 hl (by decide) rfl (fun ls hl => ?_)
        refine lv_iload_n hx hb dX6_place_50 rfl (lv_at hl 5 rfl) ?_
        refine ri_iconst hx hb dX6_place_51 ?_
        refine ri_icmp_ne (tgt := 65) hx hb dX6_place_52 (by decide) (by omega) (by omega) (fun c5 => ?_) (fun c5 => ?_)
        · refine lv_iload_n hx hb dX6_place_65 rfl (lv_at hl 5 rfl) ?_
          refine ri_if_ne (tgt := 84) hx hb dX6_place_66 (by decide) (by omega) (fun c6 => ?_) (fun c6 => ?_)
          · refine lv_iload hx hb dX6_place_84 (lv_at hl 0 rfl) ?_
            refine ri_iconst hx hb dX6_place_86 ?_
            refine ri_icmp_ne (tgt := 94) hx hb dX6_place_87 (by decide) (by omega) (by omega) (fun c7 => ?_) (fun c7 => ?_)
            · refine lv_iload hx hb dX6_place_94 (lv_at hl 0 rfl) ?_
              refine ri_bipush hx hb dX6_place_96 (by decide) ?_
              refine ri_icmp_ne (tgt := 105) hx hb dX6_place_98 (by decide) (by omega) (by omega) (fun c8 => ?_) (fun c8 => ?_)
              · refine ri_iconst hx hb dX6_place_105 ?_
                exact hend.2 _ (congrArg (fun z => some (Value.int (iI z))) (show c_place (B 0) v k u = 1 from by unfold c_place; first | omega | (simp only [if_pos c1, if_pos c2, if_pos c3]; try omega))) ⟨_, rfl, rfl⟩ _ _ dX6_place_106
              · refine ri_iconst hx hb dX6_place_101 ?_
                refine lv_goto (tgt := 106) hx hb dX6_place_102 (by decide) ?_
                exact hend.2 _ (congrArg (fun z => some (Value.int (iI z))) (show c_place (B 0) v k u = 2 from by unfold c_place; first | omega | (simp only [if_pos c1, if_pos c2, if_pos c3]; try omega))) ⟨_, rfl, rfl⟩ _ _ dX6_place_106
            · refine ri_iconst hx hb dX6_place_90 ?_
              refine lv_goto (tgt := 106) hx hb dX6_place_91 (by decide) ?_
              exact hend.2 _ (congrArg (fun z => some (Value.int (iI z))) (show c_place (B 0) v k u = 0 from by unfold c_place; first | omega | (simp only [if_pos c1, if_pos c2, if_pos c3]; try omega))) ⟨_, rfl, rfl⟩ _ _ dX6_place_106
          · refine lv_iload hx hb dX6_place_69 (lv_at hl 0 rfl) ?_
            refine ri_if_ge (tgt := 79) hx hb dX6_place_71 (by decide) (by omega) (fun c9 => ?_) (fun c9 => ?_)
            · refine lv_iload hx hb dX6_place_79 (lv_at hl 0 rfl) ?_
              refine lv_goto (tgt := 106) hx hb dX6_place_81 (by decide) ?_
              exact hend.2 _ (congrArg (fun z => some (Value.int (iI z))) (show c_place (B 0) v k u = (B 0) (3 * k + 24 * v + 65) from by unfold c_place; first | omega | (simp only [if_pos c1, if_pos c2, if_pos c3]; try omega))) ⟨_, rfl, rfl⟩ _ _ dX6_place_106
            · refine ri_bipush hx hb dX6_place_74 (by decide) ?_
              refine lv_goto (tgt := 106) hx hb dX6_place_76 (by decide) ?_
              exact hend.2 _ (congrArg (fun z => some (Value.int (iI z))) (show c_place (B 0) v k u = -5 from by unfold c_place; first | omega | (simp only [if_pos c1, if_pos c2, if_pos c3]; try omega))) ⟨_, rfl, rfl⟩ _ _ dX6_place_106
        · refine lv_aload_n hx hb dX6_place_55 rfl (lv_at hl 2 rfl) ?_
          refine ri_get (v := .ref (b 1)) hx hb hts hown w fX6 0 0 (W0_of k_fl_RX6_7 rfl) rfl rfl (by decide) dX6_place_56 ?_
          refine lv_iload hx hb dX6_place_59 (lv_at hl 1 rfl) ?_
          refine call_rS (As := [.ref (b 1), .int (iI (k + 8 * v))]) (rest := []) hx hb (hml.trans hl.1.symm) hown hts w lk_RX6_72 (t_X6_weak l g (b 1) (B 0) (k + 8 * v) (3 * k + 24 * v + 66) (by omega) (by omega)) [1] rfl rfl rfl rfl (Nat.le_of_ble_eq_true rfl) ⟨Nat.le_of_ble_eq_true rfl, Nat.le_of_ble_eq_true rfl⟩ ⟨Nat.le_of_ble_eq_true rfl, Nat.le_of_ble_eq_true rfl⟩ dX6_place_61 ?_
          have r10 := hW0.bd (3 * k + 24 * v + 66)
          exact hend.2 _ (congrArg (fun z => some (Value.int (iI z))) (show c_place (B 0) v k u = (B 0) (3 * k + 24 * v + 66) from by unfold c_place; first | omega | (simp only [if_pos c1, if_pos c2, if_pos c3]; try omega))) ⟨_, rfl, rfl⟩ _ _ dX6_place_64
      · refine ri_bipush hx hb dX6_place_28 (by decide) ?_
        exact hend.2 _ (congrArg (fun z => some (Value.int (iI z))) (show c_place (B 0) v k u = -2 from by unfold c_place; first | omega | (simp only [if_pos c1, if_pos c2, if_neg c3]; try omega))) ⟨_, rfl, rfl⟩ _ _ dX6_place_30
    · refine ri_iconst hx hb dX6_place_17 ?_
      exact hend.2 _ (congrArg (fun z => some (Value.int (iI z))) (show c_place (B 0) v k u = -1 from by unfold c_place; first | omega | (simp only [if_pos c1, if_neg c2]; try omega))) ⟨_, rfl, rfl⟩ _ _ dX6_place_18

set_option maxHeartbeats 4000000 in
set_option maxRecDepth 100000 in
theorem t_X6_marked (l : Launch) (g : GG) (b : Nat → Nat) (N : Int) (B : Nat → Int → Int) (X : Nat → Int → Int) (v : Int) (hW : WB N B) (h1 : -2147483648 ≤ v ∧ v ≤ 2147483647) : Met l yX6_marked (wm yX6_marked cX6_marked 2 (some .int)) (rmm 5 0 0) (pR g (mo_ws g b B X) [.ref (b 0), .int (iI v)]) (qR (some (.int (iI (c_marked (B 0) v))))) 0 0 (fun _ => False) := by
  have hk := hW.k
  have hj := hW.j
  have htl := hW.tl
  have hrf := hW.rf
  have hTx := hW.tx
  have hrr := hW.rr
  have hW0 := hW.1
  refine met_r (by decide) (Nat.le_of_ble_eq_true rfl) ?_
  intro p e s m args below meth c Q ls hx hb hml hown hts hl w hend
  have hl : lv_has ls 2 [(0, .ref (b 0)), (1, .int (iI v))] := hl
  refine lv_iload_n hx hb dX6_marked_0 rfl (lv_at hl 1 rfl) ?_
  refine ri_if_ge (tgt := 9) hx hb dX6_marked_1 (by decide) (by omega) (fun c1 => ?_) (fun c1 => ?_)
  · refine lv_aload_n hx hb dX6_marked_9 rfl (lv_at hl 0 rfl) ?_
    refine ri_get (v := .ref (b 1)) hx hb hts hown w fX6 0 0 (W0_of k_fl_RX6_7 rfl) rfl rfl (by decide) dX6_marked_10 ?_
    refine lv_iload_n hx hb dX6_marked_13 rfl (lv_at hl 1 rfl) ?_
    refine call_rS (As := [.ref (b 1), .int (iI v)]) (rest := []) hx hb (hml.trans hl.1.symm) hown hts w lk_RX6_126 (t_X6_markedAt l g (b 1) _ (B 0) v (hW0) (by omega)) [1] rfl rfl rfl rfl (Nat.le_of_ble_eq_true rfl) ⟨Nat.le_of_ble_eq_true rfl, Nat.le_of_ble_eq_true rfl⟩ ⟨Nat.le_of_ble_eq_true rfl, Nat.le_of_ble_eq_true rfl⟩ dX6_marked_14 ?_
    have r2 := at_rg (B 0) v
    exact hend.2 _ (congrArg (fun z => some (Value.int (iI z))) (show c_marked (B 0) v = r_markedAt (B 0) v from by unfold c_marked; first | omega | omega)) ⟨_, rfl, rfl⟩ _ _ dX6_marked_17
  · refine ri_bipush hx hb dX6_marked_4 (by decide) ?_
    refine lv_goto (tgt := 17) hx hb dX6_marked_6 (by decide) ?_
    exact hend.2 _ (congrArg (fun z => some (Value.int (iI z))) (show c_marked (B 0) v = -2 from by unfold c_marked; first | omega | omega)) ⟨_, rfl, rfl⟩ _ _ dX6_marked_17

set_option maxHeartbeats 4000000 in
set_option maxRecDepth 100000 in
theorem t_X6_erasure (l : Launch) (g : GG) (b : Nat → Nat) (N : Int) (B : Nat → Int → Int) (X : Nat → Int → Int) (v : Int) (u : Int) (hW : WB N B) (h1 : -2147483648 ≤ v ∧ v ≤ 2147483647) (h2 : -2147483648 ≤ u ∧ u ≤ 2147483647) : Met l yX6_erasure (wm yX6_erasure cX6_erasure 3 (some .int)) (rmm 1 0 0) (pR g (mo_ws g b B X) [.ref (b 0), .int (iI v), .int (iI u)]) (qR (some (.int (iI (c_erasure (B 0) v u))))) 0 0 (fun _ => False) := by
  have hk := hW.k
  have hj := hW.j
  have htl := hW.tl
  have hrf := hW.rf
  have hTx := hW.tx
  have hrr := hW.rr
  have hW0 := hW.1
  have hlo := hW0.lo
  refine met_r (by decide) (Nat.le_of_ble_eq_true rfl) ?_
  intro p e s m args below meth c Q ls hx hb hml hown hts hl w hend
  have hl : lv_has ls 3 [(0, .ref (b 0)), (1, .int (iI v)), (2, .int (iI u))] := hl
  refine lv_iload_n hx hb dX6_erasure_0 rfl (lv_at hl 1 rfl) ?_
  refine ri_if_lt (tgt := 13) hx hb dX6_erasure_1 (by decide) (by omega) (fun c1 => ?_) (fun c1 => ?_)
  · refine ri_bipush hx hb dX6_erasure_13 (by decide) ?_
    exact hend.2 _ (congrArg (fun z => some (Value.int (iI z))) (show c_erasure (B 0) v u = -2 from by unfold c_erasure; first | omega | omega)) ⟨_, rfl, rfl⟩ _ _ dX6_erasure_15
  · refine lv_iload_n hx hb dX6_erasure_4 rfl (lv_at hl 2 rfl) ?_
    refine ri_iconst hx hb dX6_erasure_5 ?_
    refine ri_iconst hx hb dX6_erasure_6 ?_
    refine call_rS (As := [.int (iI u), .int (iI 0), .int (iI 2)]) (rest := []) hx hb (hml.trans hl.1.symm) hown hts w lk_RX6_34 (t_X6_in l g u 0 2 (by omega) (by omega) (by omega)) [] rfl rfl rfl rfl (Nat.le_of_ble_eq_true rfl) ⟨Nat.le_of_ble_eq_true rfl, Nat.le_of_ble_eq_true rfl⟩ ⟨Nat.le_of_ble_eq_true rfl, Nat.le_of_ble_eq_true rfl⟩ dX6_erasure_7 ?_
    refine ri_ifb_ne (tgt := 16) hx hb dX6_erasure_10 (by decide) (fun c2 => ?_) (fun c2 => ?_)
    · refine lv_iload_n hx hb dX6_erasure_16 rfl (lv_at hl 1 rfl) ?_
      refine lv_aload_n hx hb dX6_erasure_17 rfl (lv_at hl 0 rfl) ?_
      refine ri_get (v := .ref (b 1)) hx hb hts hown w fX6 0 0 (W0_of k_fl_RX6_7 rfl) rfl rfl (by decide) dX6_erasure_18 ?_
      refine ri_bipush hx hb dX6_erasure_21 (by decide) ?_
      refine ri_iald (f := B 0) (v := (B 0) 16) hx hb w 1 rfl (by omega) (rfl) dX6_erasure_23 (by omega) ?_
      have r3 := hW0.bd 16
      refine ri_icmp_ge (tgt := 43) hx hb dX6_erasure_24 (by decide) (by omega) (by omega) (fun c4 => ?_) (fun c4 => ?_)
      · refine ri_bipush hx hb dX6_erasure_43 (by decide) ?_
        exact hend.2 _ (congrArg (fun z => some (Value.int (iI z))) (show c_erasure (B 0) v u = -5 from by unfold c_erasure; first | omega | (simp only [if_pos c2]; try omega))) ⟨_, rfl, rfl⟩ _ _ dX6_erasure_45
      · refine lv_aload_n hx hb dX6_erasure_27 rfl (lv_at hl 0 rfl) ?_
        refine ri_get (v := .ref (b 1)) hx hb hts hown w fX6 0 0 (W0_of k_fl_RX6_7 rfl) rfl rfl (by decide) dX6_erasure_28 ?_
        refine ri_bipush hx hb dX6_erasure_31 (by decide) ?_
        refine ri_iconst hx hb dX6_erasure_33 ?_
        refine lv_iload_n hx hb dX6_erasure_34 rfl (lv_at hl 1 rfl) ?_
        refine ri_imul (z := 3 * v) hx hb dX6_erasure_35 rfl ?_
        refine ri_iadd (z := 3 * v + 17) hx hb dX6_erasure_36 (by omega) ?_
        refine lv_iload_n hx hb dX6_erasure_37 rfl (lv_at hl 2 rfl) ?_
        refine ri_iadd (z := u + 3 * v + 17) hx hb dX6_erasure_38 (by omega) ?_
        refine ri_iald (f := B 0) (v := (B 0) (u + 3 * v + 17)) hx hb w 1 rfl (by omega) (rfl) dX6_erasure_39 (by omega) ?_
        have r5 := hW0.bd (u + 3 * v + 17)
        refine lv_goto (tgt := 45) hx hb dX6_erasure_40 (by decide) ?_
        exact hend.2 _ (congrArg (fun z => some (Value.int (iI z))) (show c_erasure (B 0) v u = (B 0) (u + 3 * v + 17) from by unfold c_erasure; first | omega | (simp only [if_pos c2]; try omega))) ⟨_, rfl, rfl⟩ _ _ dX6_erasure_45
    · refine ri_bipush hx hb dX6_erasure_13 (by decide) ?_
      exact hend.2 _ (congrArg (fun z => some (Value.int (iI z))) (show c_erasure (B 0) v u = -2 from by unfold c_erasure; first | omega | (simp only [if_neg c2]; try omega))) ⟨_, rfl, rfl⟩ _ _ dX6_erasure_15

set_option maxHeartbeats 4000000 in
set_option maxRecDepth 100000 in
theorem t_X6_weakest (l : Launch) (g : GG) (b : Nat → Nat) (N : Int) (B : Nat → Int → Int) (X : Nat → Int → Int) (hW : WB N B) : Met l yX6_weakest (wm yX6_weakest cX6_weakest 3 (some .int)) (rmm 3 0 0) (pR g (mo_ws g b B X) [.ref (b 0)]) (qR (some (.int (iI (r_weakest (B 0)))))) 0 0 (fun _ => False) := by
  have hk := hW.k
  have hj := hW.j
  have htl := hW.tl
  have hrf := hW.rf
  have hTx := hW.tx
  have hrr := hW.rr
  have hW0 := hW.1
  refine met_r (by decide) (Nat.le_of_ble_eq_true rfl) ?_
  intro p e s m args below meth c Q ls hx hb hml hown hts hl w hend
  have hl : lv_has ls 3 [(0, .ref (b 0))] := hl
  refine ri_iconst hx hb dX6_weakest_0 ?_
  refine lv_istore_n (lv' := [(1, .int (iI 0)), (0, .ref (b 0))]) hx hb dX6_weakest_1 rfl hl (by decide) rfl (fun ls hl => ?_)
  refine ri_iconst hx hb dX6_weakest_2 ?_
  refine lv_istore_n (lv' := [(2, .int (iI 0)), (1, .int (iI 0)), (0, .ref (b 0))]) hx hb dX6_weakest_3 rfl hl (by decide) rfl (fun ls hl => ?_)
  have L4 : ∀ (n : Nat) (xn xk : Int), (xk + n = 6) → (fo n xk xn (s_weak (B 0)) = r_weakest (B 0)) → (0 ≤ xk) → (0 ≤ xn ∧ xn ≤ 40000) → ∀ (ls : Array Slot), lv_has ls 3 [(0, .ref (b 0)), (1, .int (iI xn)), (2, .int (iI xk))] → (∀ (hrx41 : 0 ≤ r_weakest (B 0) ∧ r_weakest (B 0) ≤ 40000) (ls : Array Slot), lv_has ls 3 [(1, .int (iI (r_weakest (B 0))))] → W p l e (rmm 3 0 0) s m args below meth c s.heap [] 0 0 Q (F0 m 41 ls [])) → W p l e (rmm 3 0 0) s m args below meth c s.heap [] 0 0 Q (F0 m 4 ls []) := by
    intro n
    induction n with
    | zero =>
      intro xn xk hn hX hlo hrg ls hl kk4
      refine lv_iload_n hx hb dX6_weakest_4 rfl (lv_at hl 2 rfl) ?_
      refine ri_bipush hx hb dX6_weakest_5 (by decide) ?_
      refine ri_icmp_ge (tgt := 41) hx hb dX6_weakest_7 (by decide) (by omega) (by omega) (fun c1 => ?_) (fun c1 => ?_)
      · have e0 : xn = r_weakest (B 0) := hX
        rw [e0] at hl
        exact kk4 (by have hz : xn = r_weakest (B 0) := hX; rw [hz] at hrg; exact hrg) ls  (lv_sub hl [1] rfl)
      · exact absurd c1 (by omega)
    | succ n ih4 =>
      intro xn xk hn hX hlo hrg ls hl kk4
      refine lv_iload_n hx hb dX6_weakest_4 rfl (lv_at hl 2 rfl) ?_
      refine ri_bipush hx hb dX6_weakest_5 (by decide) ?_
      refine ri_icmp_ge (tgt := 41) hx hb dX6_weakest_7 (by decide) (by omega) (by omega) (fun c2 => ?_) (fun c2 => ?_)
      · exact absurd c2 (by omega)
      refine lv_aload_n hx hb dX6_weakest_10 rfl (lv_at hl 0 rfl) ?_
      refine ri_get (v := .ref (b 1)) hx hb hts hown w fX6 0 0 (W0_of k_fl_RX6_7 rfl) rfl rfl (by decide) dX6_weakest_11 ?_
      refine lv_iload_n hx hb dX6_weakest_14 rfl (lv_at hl 2 rfl) ?_
      refine call_rS (As := [.ref (b 1), .int (iI xk)]) (rest := []) hx hb (hml.trans hl.1.symm) hown hts w lk_RX6_84 (t_X6_hundredths l g (b 1) _ (B 0) xk (hW0) (by omega)) [1] rfl rfl rfl rfl (Nat.le_of_ble_eq_true rfl) ⟨Nat.le_of_ble_eq_true rfl, Nat.le_of_ble_eq_true rfl⟩ ⟨Nat.le_of_ble_eq_true rfl, Nat.le_of_ble_eq_true rfl⟩ dX6_weakest_15 ?_
      have r3 := hund_rg hW0 (b := xk) (by omega) (by omega)
      refine lv_iload_n hx hb dX6_weakest_18 rfl (lv_at hl 1 rfl) ?_
      refine ri_icmp_le (tgt := 33) hx hb dX6_weakest_19 (by decide) (by omega) (by omega) (fun c4 => ?_) (fun c4 => ?_)
      · refine lv_iload_n hx hb dX6_weakest_33 rfl (lv_at hl 1 rfl) ?_
        refine lv_istore_n (lv' := [(1, .int (iI xn)), (0, .ref (b 0)), (2, .int (iI xk))]) hx hb dX6_weakest_34 rfl hl (by decide) rfl (fun ls hl => ?_)
        refine ri_iinc (k := 2) (z := xk + 1) (lv' := [(2, .int (iI (xk + 1))), (1, .int (iI xn)), (0, .ref (b 0))]) hx hb dX6_weakest_35 hl rfl (by omega) (by decide) rfl (fun ls hl => ?_)
        refine lv_goto (tgt := 4) hx hb dX6_weakest_38 (by decide) ?_
        exact ih4 xn (xk + 1)  (by omega) (fo_s hX (by unfold s_weak; first | omega | omega)) (by omega) (by omega) ls (lv_sub hl [2, 1, 0] rfl) kk4
      · refine lv_aload_n hx hb dX6_weakest_22 rfl (lv_at hl 0 rfl) ?_
        refine ri_get (v := .ref (b 1)) hx hb hts hown w fX6 0 0 (W0_of k_fl_RX6_7 rfl) rfl rfl (by decide) dX6_weakest_23 ?_
        refine lv_iload_n hx hb dX6_weakest_26 rfl (lv_at hl 2 rfl) ?_
        refine call_rS (As := [.ref (b 1), .int (iI xk)]) (rest := []) hx hb (hml.trans hl.1.symm) hown hts w lk_RX6_84 (t_X6_hundredths l g (b 1) _ (B 0) xk (hW0) (by omega)) [1] rfl rfl rfl rfl (Nat.le_of_ble_eq_true rfl) ⟨Nat.le_of_ble_eq_true rfl, Nat.le_of_ble_eq_true rfl⟩ ⟨Nat.le_of_ble_eq_true rfl, Nat.le_of_ble_eq_true rfl⟩ dX6_weakest_27 ?_
        refine lv_goto (tgt := 34) hx hb dX6_weakest_30 (by decide) ?_
        refine lv_istore_n (lv' := [(1, .int (iI (r_hund (B 0) xk))), (0, .ref (b 0)), (2, .int (iI xk))]) hx hb dX6_weakest_34 rfl hl (by decide) rfl (fun ls hl => ?_)
        refine ri_iinc (k := 2) (z := xk + 1) (lv' := [(2, .int (iI (xk + 1))), (1, .int (iI (r_hund (B 0) xk))), (0, .ref (b 0))]) hx hb dX6_weakest_35 hl rfl (by omega) (by decide) rfl (fun ls hl => ?_)
        refine lv_goto (tgt := 4) hx hb dX6_weakest_38 (by decide) ?_
        exact ih4 (r_hund (B 0) xk) (xk + 1)  (by omega) (fo_s hX (by unfold s_weak; first | omega | omega)) (by omega) (by omega) ls (lv_sub hl [2, 1, 0] rfl) kk4
  refine L4 6 0 0  (by omega) (rfl) (by omega) (by omega) ls (lv_sub hl [2, 1, 0] rfl) (fun hrx41 ls hl => ?_)
  refine lv_iload_n hx hb dX6_weakest_41 rfl (lv_at hl 0 rfl) ?_
  have r5 := weakest_rg hW0
  exact hend.2 _ rfl ⟨_, rfl, rfl⟩ _ _ dX6_weakest_42

set_option maxHeartbeats 4000000 in
set_option maxRecDepth 100000 in
theorem t_X6_count (l : Launch) (g : GG) (b : Nat → Nat) (N : Int) (B : Nat → Int → Int) (X : Nat → Int → Int) (v : Int) (hW : WB N B) (h1 : -2147483648 ≤ v ∧ v ≤ 2147483647) : Met l yX6_count (wm yX6_count cX6_count 2 (some .int)) (rmm 5 0 0) (pR g (mo_ws g b B X) [.ref (b 0), .int (iI v)]) (qR (some (.int (iI (c_count B v))))) 0 0 (fun _ => False) := by
  have hk := hW.k
  have hj := hW.j
  have htl := hW.tl
  have hrf := hW.rf
  have hTx := hW.tx
  have hrr := hW.rr
  have hW0 := hW.1
  refine met_r (by decide) (Nat.le_of_ble_eq_true rfl) ?_
  intro p e s m args below meth c Q ls hx hb hml hown hts hl w hend
  have hl : lv_has ls 2 [(0, .ref (b 0)), (1, .int (iI v))] := hl
  refine lv_iload_n hx hb dX6_count_0 rfl (lv_at hl 1 rfl) ?_
  refine ri_iconst hx hb dX6_count_1 ?_
  refine ri_bipush hx hb dX6_count_2 (by decide) ?_
  refine call_rS (As := [.int (iI v), .int (iI 0), .int (iI 12)]) (rest := []) hx hb (hml.trans hl.1.symm) hown hts w lk_RX6_34 (t_X6_in l g v 0 12 (by omega) (by omega) (by omega)) [] rfl rfl rfl rfl (Nat.le_of_ble_eq_true rfl) ⟨Nat.le_of_ble_eq_true rfl, Nat.le_of_ble_eq_true rfl⟩ ⟨Nat.le_of_ble_eq_true rfl, Nat.le_of_ble_eq_true rfl⟩ dX6_count_4 ?_
  refine ri_ifb_ne (tgt := 13) hx hb dX6_count_7 (by decide) (fun c1 => ?_) (fun c1 => ?_)
  · refine lv_iload_n hx hb dX6_count_13 rfl (lv_at hl 1 rfl) ?_
    refine ri_iconst hx hb dX6_count_14 ?_
    refine ri_icmp_ge (tgt := 84) hx hb dX6_count_15 (by decide) (by omega) (by omega) (fun c2 => ?_) (fun c2 => ?_)
    · refine lv_iload_n hx hb dX6_count_84 rfl (lv_at hl 1 rfl) ?_
      refine ri_bipush hx hb dX6_count_85 (by decide) ?_
      refine ri_icmp_ge (tgt := 104) hx hb dX6_count_87 (by decide) (by omega) (by omega) (fun c3 => ?_) (fun c3 => ?_)
      · refine lv_iload_n hx hb dX6_count_104 rfl (lv_at hl 1 rfl) ?_
        refine ri_bipush hx hb dX6_count_105 (by decide) ?_
        refine ri_icmp_ne (tgt := 117) hx hb dX6_count_107 (by decide) (by omega) (by omega) (fun c4 => ?_) (fun c4 => ?_)
        · refine lv_iload_n hx hb dX6_count_117 rfl (lv_at hl 1 rfl) ?_
          refine ri_bipush hx hb dX6_count_118 (by decide) ?_
          refine ri_icmp_ne (tgt := 130) hx hb dX6_count_120 (by decide) (by omega) (by omega) (fun c5 => ?_) (fun c5 => ?_)
          · refine lv_aload_n hx hb dX6_count_130 rfl (lv_at hl 0 rfl) ?_
            refine ri_get (v := .int (iI (B 10 0))) hx hb hts hown w fX6 0 8 (W0_of k_fl_RX6_174 rfl) rfl rfl (by decide) dX6_count_131 ?_
            exact hend.2 _ (congrArg (fun z => some (Value.int (iI z))) (show c_count B v = B 10 0 from by unfold c_count; first | omega | (simp only [if_pos c1]; try omega))) ⟨_, rfl, rfl⟩ _ _ dX6_count_134
          · refine lv_aload_n hx hb dX6_count_123 rfl (lv_at hl 0 rfl) ?_
            refine ri_get (v := .int (iI (B 8 0))) hx hb hts hown w fX6 0 4 (W0_of k_fl_RX6_38 rfl) rfl rfl (by decide) dX6_count_124 ?_
            refine lv_goto (tgt := 134) hx hb dX6_count_127 (by decide) ?_
            exact hend.2 _ (congrArg (fun z => some (Value.int (iI z))) (show c_count B v = B 8 0 from by unfold c_count; first | omega | (simp only [if_pos c1]; try omega))) ⟨_, rfl, rfl⟩ _ _ dX6_count_134
        · refine lv_aload_n hx hb dX6_count_110 rfl (lv_at hl 0 rfl) ?_
          refine call_rV (As := []) (rest := []) hx hb (hml.trans hl.1.symm) hown hts w lk_RX6_208 (t_X6_weakest l g b _ B X  (hW) ) [0, 1, 2, 3, 4, 5, 6, 7, 8] rfl rfl (call_recv w (q0 := 0) rfl fX6.1) rfl rfl (Nat.le_of_ble_eq_true rfl) ⟨Nat.le_of_ble_eq_true rfl, Nat.le_of_ble_eq_true rfl⟩ ⟨Nat.le_of_ble_eq_true rfl, Nat.le_of_ble_eq_true rfl⟩ dX6_count_111 ?_
          have r6 := weakest_rg hW0
          refine lv_goto (tgt := 134) hx hb dX6_count_114 (by decide) ?_
          exact hend.2 _ (congrArg (fun z => some (Value.int (iI z))) (show c_count B v = r_weakest (B 0) from by unfold c_count; first | omega | (simp only [if_pos c1]; try omega))) ⟨_, rfl, rfl⟩ _ _ dX6_count_134
      · refine lv_aload_n hx hb dX6_count_90 rfl (lv_at hl 0 rfl) ?_
        refine ri_get (v := .ref (b 1)) hx hb hts hown w fX6 0 0 (W0_of k_fl_RX6_7 rfl) rfl rfl (by decide) dX6_count_91 ?_
        refine ri_bipush hx hb dX6_count_94 (by decide) ?_
        refine lv_iload_n hx hb dX6_count_96 rfl (lv_at hl 1 rfl) ?_
        refine ri_iadd (z := v + 7) hx hb dX6_count_97 (by omega) ?_
        refine ri_iconst hx hb dX6_count_98 ?_
        refine ri_isub (z := v + 2) hx hb dX6_count_99 (by omega) ?_
        refine ri_iald (f := B 0) (v := (B 0) (v + 2)) hx hb w 1 rfl (by omega) (rfl) dX6_count_100 (by omega) ?_
        have r7 := hW0.bd (v + 2)
        refine lv_goto (tgt := 134) hx hb dX6_count_101 (by decide) ?_
        exact hend.2 _ (congrArg (fun z => some (Value.int (iI z))) (show c_count B v = (B 0) (v + 2) from by unfold c_count; first | omega | (simp only [if_pos c1]; try omega))) ⟨_, rfl, rfl⟩ _ _ dX6_count_134
    · refine lv_iload_n hx hb dX6_count_18 rfl (lv_at hl 1 rfl) ?_
      refine ri_if_ne (tgt := 31) hx hb dX6_count_19 (by decide) (by omega) (fun c8 => ?_) (fun c8 => ?_)
      · refine lv_iload_n hx hb dX6_count_31 rfl (lv_at hl 1 rfl) ?_
        refine ri_iconst hx hb dX6_count_32 ?_
        refine ri_icmp_ne (tgt := 46) hx hb dX6_count_33 (by decide) (by omega) (by omega) (fun c9 => ?_) (fun c9 => ?_)
        · refine lv_iload_n hx hb dX6_count_46 rfl (lv_at hl 1 rfl) ?_
          refine ri_iconst hx hb dX6_count_47 ?_
          refine ri_icmp_ne (tgt := 61) hx hb dX6_count_48 (by decide) (by omega) (by omega) (fun c10 => ?_) (fun c10 => ?_)
          · refine lv_iload_n hx hb dX6_count_61 rfl (lv_at hl 1 rfl) ?_
            refine ri_iconst hx hb dX6_count_62 ?_
            refine ri_icmp_ne (tgt := 76) hx hb dX6_count_63 (by decide) (by omega) (by omega) (fun c11 => ?_) (fun c11 => ?_)
            · refine lv_aload_n hx hb dX6_count_76 rfl (lv_at hl 0 rfl) ?_
              refine ri_get (v := .ref (b 1)) hx hb hts hown w fX6 0 0 (W0_of k_fl_RX6_7 rfl) rfl rfl (by decide) dX6_count_77 ?_
              refine call_rS (As := [.ref (b 1)]) (rest := []) hx hb (hml.trans hl.1.symm) hown hts w lk_RX6_152 (t_X6_marks l g (b 1) _ (B 0)  (hW0) ) [1] rfl rfl rfl rfl (Nat.le_of_ble_eq_true rfl) ⟨Nat.le_of_ble_eq_true rfl, Nat.le_of_ble_eq_true rfl⟩ ⟨Nat.le_of_ble_eq_true rfl, Nat.le_of_ble_eq_true rfl⟩ dX6_count_80 ?_
              have r12 := marks_rg (B 0)
              exact hend.2 _ (congrArg (fun z => some (Value.int (iI z))) (show c_count B v = r_marks (B 0) from by unfold c_count; first | omega | (simp only [if_pos c1]; try omega))) ⟨_, rfl, rfl⟩ _ _ dX6_count_83
            · refine lv_aload_n hx hb dX6_count_66 rfl (lv_at hl 0 rfl) ?_
              refine ri_get (v := .ref (b 1)) hx hb hts hown w fX6 0 0 (W0_of k_fl_RX6_7 rfl) rfl rfl (by decide) dX6_count_67 ?_
              refine ri_bipush hx hb dX6_count_70 (by decide) ?_
              refine ri_iald (f := B 0) (v := (B 0) 6) hx hb w 1 rfl (by omega) (rfl) dX6_count_72 (by omega) ?_
              have r13 := hW0.bd 6
              refine lv_goto (tgt := 83) hx hb dX6_count_73 (by decide) ?_
              exact hend.2 _ (congrArg (fun z => some (Value.int (iI z))) (show c_count B v = (B 0) 6 from by unfold c_count; first | omega | (simp only [if_pos c1]; try omega))) ⟨_, rfl, rfl⟩ _ _ dX6_count_83
          · refine lv_aload_n hx hb dX6_count_51 rfl (lv_at hl 0 rfl) ?_
            refine ri_get (v := .ref (b 1)) hx hb hts hown w fX6 0 0 (W0_of k_fl_RX6_7 rfl) rfl rfl (by decide) dX6_count_52 ?_
            refine call_rS (As := [.ref (b 1)]) (rest := []) hx hb (hml.trans hl.1.symm) hown hts w lk_RX6_133 (t_X6_free l g (b 1) (B 0)  (hW0.b) ) [1] rfl rfl rfl rfl (Nat.le_of_ble_eq_true rfl) ⟨Nat.le_of_ble_eq_true rfl, Nat.le_of_ble_eq_true rfl⟩ ⟨Nat.le_of_ble_eq_true rfl, Nat.le_of_ble_eq_true rfl⟩ dX6_count_55 ?_
            have r14 := frees_rg (B 0)
            refine lv_goto (tgt := 83) hx hb dX6_count_58 (by decide) ?_
            exact hend.2 _ (congrArg (fun z => some (Value.int (iI z))) (show c_count B v = r_frees (B 0) from by unfold c_count; first | omega | (simp only [if_pos c1]; try omega))) ⟨_, rfl, rfl⟩ _ _ dX6_count_83
        · refine lv_aload_n hx hb dX6_count_36 rfl (lv_at hl 0 rfl) ?_
          refine ri_get (v := .ref (b 1)) hx hb hts hown w fX6 0 0 (W0_of k_fl_RX6_7 rfl) rfl rfl (by decide) dX6_count_37 ?_
          refine call_rS (As := [.ref (b 1)]) (rest := []) hx hb (hml.trans hl.1.symm) hown hts w lk_RX6_168 (t_X6_placed l g (b 1) (B 0)  (hW0.b) ) [1] rfl rfl rfl rfl (Nat.le_of_ble_eq_true rfl) ⟨Nat.le_of_ble_eq_true rfl, Nat.le_of_ble_eq_true rfl⟩ ⟨Nat.le_of_ble_eq_true rfl, Nat.le_of_ble_eq_true rfl⟩ dX6_count_40 ?_
          have r15 := placed_rg (B 0)
          refine lv_goto (tgt := 83) hx hb dX6_count_43 (by decide) ?_
          exact hend.2 _ (congrArg (fun z => some (Value.int (iI z))) (show c_count B v = r_placed (B 0) from by unfold c_count; first | omega | (simp only [if_pos c1]; try omega))) ⟨_, rfl, rfl⟩ _ _ dX6_count_83
      · refine lv_aload_n hx hb dX6_count_22 rfl (lv_at hl 0 rfl) ?_
        refine ri_get (v := .ref (b 1)) hx hb hts hown w fX6 0 0 (W0_of k_fl_RX6_7 rfl) rfl rfl (by decide) dX6_count_23 ?_
        refine ri_iconst hx hb dX6_count_26 ?_
        refine ri_iald (f := B 0) (v := (B 0) 0) hx hb w 1 rfl (by omega) (rfl) dX6_count_27 (by omega) ?_
        have r16 := hW0.bd 0
        refine lv_goto (tgt := 83) hx hb dX6_count_28 (by decide) ?_
        exact hend.2 _ (congrArg (fun z => some (Value.int (iI z))) (show c_count B v = (B 0) 0 from by unfold c_count; first | omega | (simp only [if_pos c1]; try omega))) ⟨_, rfl, rfl⟩ _ _ dX6_count_83
  · refine ri_bipush hx hb dX6_count_10 (by decide) ?_
    exact hend.2 _ (congrArg (fun z => some (Value.int (iI z))) (show c_count B v = -2 from by unfold c_count; first | omega | (simp only [if_neg c1]; try omega))) ⟨_, rfl, rfl⟩ _ _ dX6_count_12

set_option maxHeartbeats 4000000 in
set_option maxRecDepth 100000 in
theorem t_X6_setting (l : Launch) (g : GG) (b : Nat → Nat) (N : Int) (B : Nat → Int → Int) (X : Nat → Int → Int) (v : Int) (hW : WB N B) (h1 : -2147483648 ≤ v ∧ v ≤ 2147483647) : Met l yX6_setting (wm yX6_setting cX6_setting 2 (some .int)) (rmm 1 0 0) (pR g (mo_ws g b B X) [.ref (b 0), .int (iI v)]) (qR (some (.int (iI (c_setting (B 0) v))))) 0 0 (fun _ => False) := by
  have hk := hW.k
  have hj := hW.j
  have htl := hW.tl
  have hrf := hW.rf
  have hTx := hW.tx
  have hrr := hW.rr
  have hW0 := hW.1
  refine met_r (by decide) (Nat.le_of_ble_eq_true rfl) ?_
  intro p e s m args below meth c Q ls hx hb hml hown hts hl w hend
  have hl : lv_has ls 2 [(0, .ref (b 0)), (1, .int (iI v))] := hl
  refine lv_iload_n hx hb dX6_setting_0 rfl (lv_at hl 1 rfl) ?_
  refine ri_iconst hx hb dX6_setting_1 ?_
  refine ri_iconst hx hb dX6_setting_2 ?_
  refine call_rS (As := [.int (iI v), .int (iI 0), .int (iI 4)]) (rest := []) hx hb (hml.trans hl.1.symm) hown hts w lk_RX6_34 (t_X6_in l g v 0 4 (by omega) (by omega) (by omega)) [] rfl rfl rfl rfl (Nat.le_of_ble_eq_true rfl) ⟨Nat.le_of_ble_eq_true rfl, Nat.le_of_ble_eq_true rfl⟩ ⟨Nat.le_of_ble_eq_true rfl, Nat.le_of_ble_eq_true rfl⟩ dX6_setting_3 ?_
  refine ri_ifb_eq (tgt := 20) hx hb dX6_setting_6 (by decide) (fun c1 => ?_) (fun c1 => ?_)
  · refine ri_iconst hx hb dX6_setting_20 ?_
    exact hend.2 _ (congrArg (fun z => some (Value.int (iI z))) (show c_setting (B 0) v = -1 from by unfold c_setting; first | omega | (simp only [if_neg c1]; try omega))) ⟨_, rfl, rfl⟩ _ _ dX6_setting_21
  · refine lv_aload_n hx hb dX6_setting_9 rfl (lv_at hl 0 rfl) ?_
    refine ri_get (v := .ref (b 1)) hx hb hts hown w fX6 0 0 (W0_of k_fl_RX6_7 rfl) rfl rfl (by decide) dX6_setting_10 ?_
    refine ri_iconst hx hb dX6_setting_13 ?_
    refine lv_iload_n hx hb dX6_setting_14 rfl (lv_at hl 1 rfl) ?_
    refine ri_iadd (z := v + 1) hx hb dX6_setting_15 (by omega) ?_
    refine ri_iald (f := B 0) (v := (B 0) (v + 1)) hx hb w 1 rfl (by omega) (rfl) dX6_setting_16 (by omega) ?_
    have r2 := hW0.bd (v + 1)
    refine lv_goto (tgt := 21) hx hb dX6_setting_17 (by decide) ?_
    exact hend.2 _ (congrArg (fun z => some (Value.int (iI z))) (show c_setting (B 0) v = (B 0) (v + 1) from by unfold c_setting; first | omega | (simp only [if_pos c1]; try omega))) ⟨_, rfl, rfl⟩ _ _ dX6_setting_21
