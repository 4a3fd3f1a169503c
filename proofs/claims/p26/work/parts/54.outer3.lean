set_option maxHeartbeats 4000000 in
set_option maxRecDepth 100000 in
theorem t_X5_setting (l : Launch) (g : GG) (c0 : Nat) (na : Nat → Nat) (be : Nat → Nat) (tr : Nat → Nat) (sn : Nat → Nat) (x : Nat → Nat) (h : Nat → Nat → Nat) (o : Nat → Nat) (T : Nat → Int → Int) (T1 : Nat → Int → Int) (T2 : Nat → Int → Int) (T3 : Nat → Int → Int) (K : Nat → Nat → Int → Int) (z : Int) (P : Nat → Int → Int) (C : Nat → Int) (N : Int) (B : Nat → Int → Int) (v : Int) (hW : WB N B) (hC : RelC B T T3 K z P C) (h1 : -2147483648 ≤ v ∧ v ≤ 2147483647) : Met l yX5_setting (wm yX5_setting cX5_setting 2 (some .int)) (rmm 1 0 0) (pR g (List.flatten ([[(c0, .inr (5, [.ref (na 0), .ref (be 0), .ref (tr 0), .ref (sn 0), .int (iI (C 0)), .ref (x 0), .ref (o 0), .int (iI (C 1)), .int (iI (C 2)), .int (iI (C 3)), .int (iI (C 4))]))], st_ws g na T, st_ws g be T1, st_ws g tr T2, st_ws g sn T3, hi_ws g x h K z, or_ws g o P] : List va_W)) [.ref c0, .int (iI v)]) (qR (some (.int (iI (c_setting (B 0) v))))) 0 0 (fun _ => False) := by
  have hk := hW.k
  have hj := hW.j
  have htl := hW.tl
  have hrf := hW.rf
  have hTx := hW.tx
  have hrr := hW.rr
  have hW0 := hW.1
  have hR := hC.1
  have hrz := hC.zz
  have hc0 := hC.c0
  refine met_r (by decide) (Nat.le_of_ble_eq_true rfl) ?_
  intro p e s m args below meth c Q ls hx hb hml hown hts hl w hend
  have hl : lv_has ls 2 [(0, .ref c0), (1, .int (iI v))] := hl
  refine lv_iload_n hx hb dX5_setting_0 rfl (lv_at hl 1 rfl) ?_
  refine call_rS (As := [.int (iI v)]) (rest := []) hx hb (hml.trans hl.1.symm) hown hts w lk_RX5_252 (t_X5_isSetting l g v (by omega)) [] rfl rfl rfl rfl (Nat.le_of_ble_eq_true rfl) ⟨Nat.le_of_ble_eq_true rfl, Nat.le_of_ble_eq_true rfl⟩ ⟨Nat.le_of_ble_eq_true rfl, Nat.le_of_ble_eq_true rfl⟩ dX5_setting_1 ?_
  refine ri_ifb_ne (tgt := 9) hx hb dX5_setting_4 (by decide) (fun c1 => ?_) (fun c1 => ?_)
  · refine lv_aload_n hx hb dX5_setting_9 rfl (lv_at hl 0 rfl) ?_
    refine ri_get (v := .ref (na 0)) hx hb hts hown w fX5 0 0 (W0_of k_fl_RX5_10 rfl) rfl rfl (by decide) dX5_setting_10 ?_
    refine ri_get (v := .ref (na 11)) hx hb hts hown w fX4 1 10 (W0_of k_fl_RX5_255 rfl) rfl rfl (by decide) dX5_setting_13 ?_
    refine lv_iload_n hx hb dX5_setting_16 rfl (lv_at hl 1 rfl) ?_
    refine ri_iald (f := T 11) (v := (B 0) (v + 1)) hx hb w 12 rfl (by omega) ((hR.se (by omega) (by omega)).trans (congrArg _ (by omega))) dX5_setting_17 (by omega) ?_
    have r2 := hW0.bd (v + 1)
    exact hend.2 _ (congrArg (fun z => some (Value.int (iI z))) (show c_setting (B 0) v = (B 0) (v + 1) from by unfold c_setting; first | omega | (simp only [if_pos c1]; try omega) | (have hz : v = 0 := (by omega); subst hz; omega) | (have hz : v = 1 := (by omega); subst hz; omega) | (have hz : v = 2 := (by omega); subst hz; omega) | (have hz : v = 3 := (by omega); subst hz; omega))) ⟨_, rfl, rfl⟩ _ _ dX5_setting_18
  · refine ri_iconst hx hb dX5_setting_7 ?_
    exact hend.2 _ (congrArg (fun z => some (Value.int (iI z))) (show c_setting (B 0) v = -1 from by unfold c_setting; first | omega | (simp only [if_neg c1]; try omega) | (have hz : v = 0 := (by omega); subst hz; omega) | (have hz : v = 1 := (by omega); subst hz; omega) | (have hz : v = 2 := (by omega); subst hz; omega) | (have hz : v = 3 := (by omega); subst hz; omega))) ⟨_, rfl, rfl⟩ _ _ dX5_setting_8

set_option maxHeartbeats 4000000 in
set_option maxRecDepth 100000 in
theorem t_X5_block (l : Launch) (g : GG) (c0 : Nat) (na : Nat → Nat) (be : Nat → Nat) (tr : Nat → Nat) (sn : Nat → Nat) (x : Nat → Nat) (h : Nat → Nat → Nat) (o : Nat → Nat) (T : Nat → Int → Int) (T1 : Nat → Int → Int) (T2 : Nat → Int → Int) (T3 : Nat → Int → Int) (K : Nat → Nat → Int → Int) (z : Int) (P : Nat → Int → Int) (C : Nat → Int) (N : Int) (B : Nat → Int → Int) (v : Int) (u : Int) (hW : WB N B) (hC : RelC B T T3 K z P C) (h1 : -2147483648 ≤ v ∧ v ≤ 2147483647) (h2 : -2147483648 ≤ u ∧ u ≤ 2147483647) : Met l yX5_block (wm yX5_block cX5_block 3 (some .int)) (rmm 3 0 0) (pR g (List.flatten ([[(c0, .inr (5, [.ref (na 0), .ref (be 0), .ref (tr 0), .ref (sn 0), .int (iI (C 0)), .ref (x 0), .ref (o 0), .int (iI (C 1)), .int (iI (C 2)), .int (iI (C 3)), .int (iI (C 4))]))], st_ws g na T, st_ws g be T1, st_ws g tr T2, st_ws g sn T3, hi_ws g x h K z, or_ws g o P] : List va_W)) [.ref c0, .int (iI v), .int (iI u)]) (qR (some (.int (iI (c_block (B 0) v u))))) 0 0 (fun _ => False) := by
  have hk := hW.k
  have hj := hW.j
  have htl := hW.tl
  have hrf := hW.rf
  have hTx := hW.tx
  have hrr := hW.rr
  have hW0 := hW.1
  have hR := hC.1
  have hrz := hC.zz
  have hc0 := hC.c0
  have hcs : 0 ≤ v → v < 6 → _ := fun q0 q1 => cnt_sum hW0 (b := v) ⟨q0, q1⟩
  have hbl : 0 ≤ v → v < 6 → _ := fun q0 q1 => hW0.bl (b := v) q0 q1
  refine met_r (by decide) (Nat.le_of_ble_eq_true rfl) ?_
  intro p e s m args below meth c Q ls hx hb hml hown hts hl w hend
  have hl : lv_has ls 3 [(0, .ref c0), (1, .int (iI v)), (2, .int (iI u))] := hl
  refine lv_iload_n hx hb dX5_block_0 rfl (lv_at hl 1 rfl) ?_
  refine call_rS (As := [.int (iI v)]) (rest := []) hx hb (hml.trans hl.1.symm) hown hts w lk_RX5_165 (t_X5_isBlock l g v (by omega)) [] rfl rfl rfl rfl (Nat.le_of_ble_eq_true rfl) ⟨Nat.le_of_ble_eq_true rfl, Nat.le_of_ble_eq_true rfl⟩ ⟨Nat.le_of_ble_eq_true rfl, Nat.le_of_ble_eq_true rfl⟩ dX5_block_1 ?_
  refine ri_ifb_ne (tgt := 9) hx hb dX5_block_4 (by decide) (fun c1 => ?_) (fun c1 => ?_)
  · refine lv_iload_n hx hb dX5_block_9 rfl (lv_at hl 2 rfl) ?_
    by_cases c2 : u = 0
    · refine ri_tabIn (v := 0) (tgt := 64) hx hb dX5_block_10 c2 (by omega) (by decide) (by decide) rfl (by decide) ?_
      refine lv_aload_n hx hb dX5_block_64 rfl (lv_at hl 0 rfl) ?_
      refine ri_get (v := .ref (na 0)) hx hb hts hown w fX5 0 0 (W0_of k_fl_RX5_10 rfl) rfl rfl (by decide) dX5_block_65 ?_
      refine ri_get (v := .ref (na 1)) hx hb hts hown w fX4 1 0 (W0_of k_fl_RX5_168 rfl) rfl rfl (by decide) dX5_block_68 ?_
      refine lv_iload_n hx hb dX5_block_71 rfl (lv_at hl 1 rfl) ?_
      refine ri_iald (f := T 1) (v := (B 0) (4 * v + 41)) hx hb w 2 rfl (by omega) ((hR.kd (by omega) (by omega)).trans (congrArg _ (by omega))) dX5_block_72 (by omega) ?_
      have r3 := hW0.bd (4 * v + 41)
      exact hend.2 _ (congrArg (fun z => some (Value.int (iI z))) (show c_block (B 0) v u = (B 0) (4 * v + 41) from by unfold c_block; first | omega | (simp only [if_pos c1]; try omega) | (have hz : u = 0 := (by omega); subst hz; omega) | (have hz : u = 1 := (by omega); subst hz; omega) | (have hz : u = 2 := (by omega); subst hz; omega) | (have hz : u = 3 := (by omega); subst hz; omega))) ⟨_, rfl, rfl⟩ _ _ dX5_block_73
    by_cases c4 : u = 1
    · refine ri_tabIn (v := 1) (tgt := 74) hx hb dX5_block_10 c4 (by omega) (by decide) (by decide) rfl (by decide) ?_
      refine lv_aload_n hx hb dX5_block_74 rfl (lv_at hl 0 rfl) ?_
      refine ri_get (v := .ref (na 0)) hx hb hts hown w fX5 0 0 (W0_of k_fl_RX5_10 rfl) rfl rfl (by decide) dX5_block_75 ?_
      refine ri_get (v := .ref (na 2)) hx hb hts hown w fX4 1 1 (W0_of k_fl_RX5_171 rfl) rfl rfl (by decide) dX5_block_78 ?_
      refine lv_iload_n hx hb dX5_block_81 rfl (lv_at hl 1 rfl) ?_
      refine ri_iald (f := T 2) (v := (B 0) (4 * v + 42)) hx hb w 3 rfl (by omega) ((hR.er (by omega) (by omega)).trans (congrArg _ (by omega))) dX5_block_82 (by omega) ?_
      have r5 := hW0.bd (4 * v + 42)
      exact hend.2 _ (congrArg (fun z => some (Value.int (iI z))) (show c_block (B 0) v u = (B 0) (4 * v + 42) from by unfold c_block; first | omega | (simp only [if_pos c1]; try omega) | (have hz : u = 0 := (by omega); subst hz; omega) | (have hz : u = 1 := (by omega); subst hz; omega) | (have hz : u = 2 := (by omega); subst hz; omega) | (have hz : u = 3 := (by omega); subst hz; omega))) ⟨_, rfl, rfl⟩ _ _ dX5_block_83
    by_cases c6 : u = 2
    · refine ri_tabIn (v := 2) (tgt := 84) hx hb dX5_block_10 c6 (by omega) (by decide) (by decide) rfl (by decide) ?_
      refine lv_aload_n hx hb dX5_block_84 rfl (lv_at hl 0 rfl) ?_
      refine ri_get (v := .ref (na 0)) hx hb hts hown w fX5 0 0 (W0_of k_fl_RX5_10 rfl) rfl rfl (by decide) dX5_block_85 ?_
      refine lv_iload_n hx hb dX5_block_88 rfl (lv_at hl 1 rfl) ?_
      refine cb_rV (bc := [st_ws g na T]) (br := [[(c0, .inr (5, [.ref (na 0), .ref (be 0), .ref (tr 0), .ref (sn 0), .int (iI (C 0)), .ref (x 0), .ref (o 0), .int (iI (C 1)), .int (iI (C 2)), .int (iI (C 3)), .int (iI (C 4))]))], st_ws g be T1, st_ws g tr T2, st_ws g sn T3, hi_ws g x h K z, or_ws g o P]) (kb := 7) (As := [.int (iI v)]) (rest := []) hx hb (hml.trans hl.1.symm) hown hts w lk_RX5_174 (t_X4_bears l g na _ (B 0) T v (hW0) (hR) (by omega)) [1, 0, 2, 3, 4, 5, 6] (by decide) rfl rfl rfl (call_recv w (q0 := 1) rfl fX4.1) rfl rfl (Nat.le_of_ble_eq_true rfl) ⟨Nat.le_of_ble_eq_true rfl, Nat.le_of_ble_eq_true rfl⟩ ⟨Nat.le_of_ble_eq_true rfl, Nat.le_of_ble_eq_true rfl⟩ dX5_block_89 ?_
      have r7 := bears_rg hW0 (b := v) (by omega) (by omega)
      exact hend.2 _ (congrArg (fun z => some (Value.int (iI z))) (show c_block (B 0) v u = r_bears (B 0) v from by unfold c_block; first | omega | (simp only [if_pos c1]; try omega) | (have hz : u = 0 := (by omega); subst hz; omega) | (have hz : u = 1 := (by omega); subst hz; omega) | (have hz : u = 2 := (by omega); subst hz; omega) | (have hz : u = 3 := (by omega); subst hz; omega))) ⟨_, rfl, rfl⟩ _ _ dX5_block_92
    by_cases c8 : u = 3
    · refine ri_tabIn (v := 3) (tgt := 93) hx hb dX5_block_10 c8 (by omega) (by decide) (by decide) rfl (by decide) ?_
      refine lv_aload_n hx hb dX5_block_93 rfl (lv_at hl 0 rfl) ?_
      refine ri_get (v := .ref (na 0)) hx hb hts hown w fX5 0 0 (W0_of k_fl_RX5_10 rfl) rfl rfl (by decide) dX5_block_94 ?_
      refine lv_iload_n hx hb dX5_block_97 rfl (lv_at hl 1 rfl) ?_
      refine cb_rV (bc := [st_ws g na T]) (br := [[(c0, .inr (5, [.ref (na 0), .ref (be 0), .ref (tr 0), .ref (sn 0), .int (iI (C 0)), .ref (x 0), .ref (o 0), .int (iI (C 1)), .int (iI (C 2)), .int (iI (C 3)), .int (iI (C 4))]))], st_ws g be T1, st_ws g tr T2, st_ws g sn T3, hi_ws g x h K z, or_ws g o P]) (kb := 7) (As := [.int (iI v)]) (rest := []) hx hb (hml.trans hl.1.symm) hown hts w lk_RX5_177 (t_X4_pagesIn l g na _ (B 0) T v (hW0) (hR) (by omega)) [1, 0, 2, 3, 4, 5, 6] (by decide) rfl rfl rfl (call_recv w (q0 := 1) rfl fX4.1) rfl rfl (Nat.le_of_ble_eq_true rfl) ⟨Nat.le_of_ble_eq_true rfl, Nat.le_of_ble_eq_true rfl⟩ ⟨Nat.le_of_ble_eq_true rfl, Nat.le_of_ble_eq_true rfl⟩ dX5_block_98 ?_
      have r9 := cnt_rg (B 0) v 0
      exact hend.2 _ (congrArg (fun z => some (Value.int (iI z))) (show c_block (B 0) v u = r_cnt (B 0) v 0 from by unfold c_block; first | omega | (simp only [if_pos c1]; try omega) | (have hz : u = 0 := (by omega); subst hz; omega) | (have hz : u = 1 := (by omega); subst hz; omega) | (have hz : u = 2 := (by omega); subst hz; omega) | (have hz : u = 3 := (by omega); subst hz; omega))) ⟨_, rfl, rfl⟩ _ _ dX5_block_101
    by_cases c10 : u = 4
    · refine ri_tabIn (v := 4) (tgt := 102) hx hb dX5_block_10 c10 (by omega) (by decide) (by decide) rfl (by decide) ?_
      refine lv_aload_n hx hb dX5_block_102 rfl (lv_at hl 0 rfl) ?_
      refine ri_get (v := .ref (na 0)) hx hb hts hown w fX5 0 0 (W0_of k_fl_RX5_10 rfl) rfl rfl (by decide) dX5_block_103 ?_
      refine ri_get (v := .ref (na 5)) hx hb hts hown w fX4 1 4 (W0_of k_fl_RX5_180 rfl) rfl rfl (by decide) dX5_block_106 ?_
      refine lv_iload_n hx hb dX5_block_109 rfl (lv_at hl 1 rfl) ?_
      refine ri_iald (f := T 5) (v := 8 - r_cnt (B 0) v (-1)) hx hb w 6 rfl (by omega) (hR.us (by omega) (by omega)) dX5_block_110 (by omega) ?_
      have r11 := cnt_rg (B 0) v (-1)
      refine lv_aload_n hx hb dX5_block_111 rfl (lv_at hl 0 rfl) ?_
      refine ri_get (v := .ref (na 0)) hx hb hts hown w fX5 0 0 (W0_of k_fl_RX5_10 rfl) rfl rfl (by decide) dX5_block_112 ?_
      refine lv_iload_n hx hb dX5_block_115 rfl (lv_at hl 1 rfl) ?_
      refine cb_rV (bc := [st_ws g na T]) (br := [[(c0, .inr (5, [.ref (na 0), .ref (be 0), .ref (tr 0), .ref (sn 0), .int (iI (C 0)), .ref (x 0), .ref (o 0), .int (iI (C 1)), .int (iI (C 2)), .int (iI (C 3)), .int (iI (C 4))]))], st_ws g be T1, st_ws g tr T2, st_ws g sn T3, hi_ws g x h K z, or_ws g o P]) (kb := 7) (As := [.int (iI v)]) (rest := [.int (iI (8 - r_cnt (B 0) v (-1)))]) hx hb (hml.trans hl.1.symm) hown hts w lk_RX5_177 (t_X4_pagesIn l g na _ (B 0) T v (hW0) (hR) (by omega)) [1, 0, 2, 3, 4, 5, 6] (by decide) rfl rfl rfl (call_recv w (q0 := 1) rfl fX4.1) rfl rfl (Nat.le_of_ble_eq_true rfl) ⟨Nat.le_of_ble_eq_true rfl, Nat.le_of_ble_eq_true rfl⟩ ⟨Nat.le_of_ble_eq_true rfl, Nat.le_of_ble_eq_true rfl⟩ dX5_block_116 ?_
      have r12 := cnt_rg (B 0) v 0
      refine ri_isub (z := 8 - r_cnt (B 0) v (-1) - r_cnt (B 0) v 0) hx hb dX5_block_119 rfl ?_
      exact hend.2 _ (congrArg (fun z => some (Value.int (iI z))) (show c_block (B 0) v u = 8 - r_cnt (B 0) v (-1) - r_cnt (B 0) v 0 from by unfold c_block; first | omega | (simp only [if_pos c1]; try omega) | (have hz : u = 0 := (by omega); subst hz; omega) | (have hz : u = 1 := (by omega); subst hz; omega) | (have hz : u = 2 := (by omega); subst hz; omega) | (have hz : u = 3 := (by omega); subst hz; omega))) ⟨_, rfl, rfl⟩ _ _ dX5_block_120
    by_cases c13 : u = 5
    · refine ri_tabIn (v := 5) (tgt := 121) hx hb dX5_block_10 c13 (by omega) (by decide) (by decide) rfl (by decide) ?_
      refine lv_aload_n hx hb dX5_block_121 rfl (lv_at hl 0 rfl) ?_
      refine ri_get (v := .ref (na 0)) hx hb hts hown w fX5 0 0 (W0_of k_fl_RX5_10 rfl) rfl rfl (by decide) dX5_block_122 ?_
      refine lv_iload_n hx hb dX5_block_125 rfl (lv_at hl 1 rfl) ?_
      refine cb_rV (bc := [st_ws g na T]) (br := [[(c0, .inr (5, [.ref (na 0), .ref (be 0), .ref (tr 0), .ref (sn 0), .int (iI (C 0)), .ref (x 0), .ref (o 0), .int (iI (C 1)), .int (iI (C 2)), .int (iI (C 3)), .int (iI (C 4))]))], st_ws g be T1, st_ws g tr T2, st_ws g sn T3, hi_ws g x h K z, or_ws g o P]) (kb := 7) (As := [.int (iI v)]) (rest := []) hx hb (hml.trans hl.1.symm) hown hts w lk_RX5_183 (t_X4_greatestOfPages l g na _ (B 0) T v (hW0) (hR) (by omega)) [1, 0, 2, 3, 4, 5, 6] (by decide) rfl rfl rfl (call_recv w (q0 := 1) rfl fX4.1) rfl rfl (Nat.le_of_ble_eq_true rfl) ⟨Nat.le_of_ble_eq_true rfl, Nat.le_of_ble_eq_true rfl⟩ ⟨Nat.le_of_ble_eq_true rfl, Nat.le_of_ble_eq_true rfl⟩ dX5_block_126 ?_
      have r14 := great_rg hW0 (b := v) (by omega) (by omega)
      exact hend.2 _ (congrArg (fun z => some (Value.int (iI z))) (show c_block (B 0) v u = r_great (B 0) v from by unfold c_block; first | omega | (simp only [if_pos c1]; try omega) | (have hz : u = 0 := (by omega); subst hz; omega) | (have hz : u = 1 := (by omega); subst hz; omega) | (have hz : u = 2 := (by omega); subst hz; omega) | (have hz : u = 3 := (by omega); subst hz; omega))) ⟨_, rfl, rfl⟩ _ _ dX5_block_129
    by_cases c15 : u = 6
    · refine ri_tabIn (v := 6) (tgt := 130) hx hb dX5_block_10 c15 (by omega) (by decide) (by decide) rfl (by decide) ?_
      refine lv_aload_n hx hb dX5_block_130 rfl (lv_at hl 0 rfl) ?_
      refine ri_get (v := .ref (na 0)) hx hb hts hown w fX5 0 0 (W0_of k_fl_RX5_10 rfl) rfl rfl (by decide) dX5_block_131 ?_
      refine lv_iload_n hx hb dX5_block_134 rfl (lv_at hl 1 rfl) ?_
      refine cb_rV (bc := [st_ws g na T]) (br := [[(c0, .inr (5, [.ref (na 0), .ref (be 0), .ref (tr 0), .ref (sn 0), .int (iI (C 0)), .ref (x 0), .ref (o 0), .int (iI (C 1)), .int (iI (C 2)), .int (iI (C 3)), .int (iI (C 4))]))], st_ws g be T1, st_ws g tr T2, st_ws g sn T3, hi_ws g x h K z, or_ws g o P]) (kb := 7) (As := [.int (iI v)]) (rest := []) hx hb (hml.trans hl.1.symm) hown hts w lk_RX5_186 (t_X4_isMarked l g na _ (B 0) T v (hW0) (hR) (by omega)) [1, 0, 2, 3, 4, 5, 6] (by decide) rfl rfl rfl (call_recv w (q0 := 1) rfl fX4.1) rfl rfl (Nat.le_of_ble_eq_true rfl) ⟨Nat.le_of_ble_eq_true rfl, Nat.le_of_ble_eq_true rfl⟩ ⟨Nat.le_of_ble_eq_true rfl, Nat.le_of_ble_eq_true rfl⟩ dX5_block_135 ?_
      refine ri_ifb_eq (tgt := 145) hx hb dX5_block_138 (by decide) (fun c16 => ?_) (fun c16 => ?_)
      · refine ri_iconst hx hb dX5_block_145 ?_
        exact hend.2 _ (congrArg (fun z => some (Value.int (iI z))) (show c_block (B 0) v u = 0 from by unfold c_block; first | omega | (simp only [if_pos c1, if_neg c16]; try omega) | (have hz : u = 0 := (by omega); subst hz; omega) | (have hz : u = 1 := (by omega); subst hz; omega) | (have hz : u = 2 := (by omega); subst hz; omega) | (have hz : u = 3 := (by omega); subst hz; omega))) ⟨_, rfl, rfl⟩ _ _ dX5_block_146
      · refine ri_iconst hx hb dX5_block_141 ?_
        refine lv_goto (tgt := 146) hx hb dX5_block_142 (by decide) ?_
        exact hend.2 _ (congrArg (fun z => some (Value.int (iI z))) (show c_block (B 0) v u = 1 from by unfold c_block; first | omega | (simp only [if_pos c1, if_pos c16]; try omega) | (have hz : u = 0 := (by omega); subst hz; omega) | (have hz : u = 1 := (by omega); subst hz; omega) | (have hz : u = 2 := (by omega); subst hz; omega) | (have hz : u = 3 := (by omega); subst hz; omega))) ⟨_, rfl, rfl⟩ _ _ dX5_block_146
    by_cases c17 : u = 7
    · refine ri_tabIn (v := 7) (tgt := 147) hx hb dX5_block_10 c17 (by omega) (by decide) (by decide) rfl (by decide) ?_
      refine lv_aload_n hx hb dX5_block_147 rfl (lv_at hl 0 rfl) ?_
      refine ri_get (v := .ref (na 0)) hx hb hts hown w fX5 0 0 (W0_of k_fl_RX5_10 rfl) rfl rfl (by decide) dX5_block_148 ?_
      refine lv_iload_n hx hb dX5_block_151 rfl (lv_at hl 1 rfl) ?_
      refine cb_rV (bc := [st_ws g na T]) (br := [[(c0, .inr (5, [.ref (na 0), .ref (be 0), .ref (tr 0), .ref (sn 0), .int (iI (C 0)), .ref (x 0), .ref (o 0), .int (iI (C 1)), .int (iI (C 2)), .int (iI (C 3)), .int (iI (C 4))]))], st_ws g be T1, st_ws g tr T2, st_ws g sn T3, hi_ws g x h K z, or_ws g o P]) (kb := 7) (As := [.int (iI v)]) (rest := []) hx hb (hml.trans hl.1.symm) hown hts w lk_RX5_189 (t_X4_isFree l g na _ (B 0) T v (hW0) (hR) (by omega)) [1, 0, 2, 3, 4, 5, 6] (by decide) rfl rfl rfl (call_recv w (q0 := 1) rfl fX4.1) rfl rfl (Nat.le_of_ble_eq_true rfl) ⟨Nat.le_of_ble_eq_true rfl, Nat.le_of_ble_eq_true rfl⟩ ⟨Nat.le_of_ble_eq_true rfl, Nat.le_of_ble_eq_true rfl⟩ dX5_block_152 ?_
      refine ri_ifb_eq (tgt := 162) hx hb dX5_block_155 (by decide) (fun c18 => ?_) (fun c18 => ?_)
      · refine ri_iconst hx hb dX5_block_162 ?_
        exact hend.2 _ (congrArg (fun z => some (Value.int (iI z))) (show c_block (B 0) v u = 0 from by unfold c_block; first | omega | (simp only [if_pos c1, if_neg c18]; try omega) | (have hz : u = 0 := (by omega); subst hz; omega) | (have hz : u = 1 := (by omega); subst hz; omega) | (have hz : u = 2 := (by omega); subst hz; omega) | (have hz : u = 3 := (by omega); subst hz; omega))) ⟨_, rfl, rfl⟩ _ _ dX5_block_163
      · refine ri_iconst hx hb dX5_block_158 ?_
        refine lv_goto (tgt := 163) hx hb dX5_block_159 (by decide) ?_
        exact hend.2 _ (congrArg (fun z => some (Value.int (iI z))) (show c_block (B 0) v u = 1 from by unfold c_block; first | omega | (simp only [if_pos c1, if_pos c18]; try omega) | (have hz : u = 0 := (by omega); subst hz; omega) | (have hz : u = 1 := (by omega); subst hz; omega) | (have hz : u = 2 := (by omega); subst hz; omega) | (have hz : u = 3 := (by omega); subst hz; omega))) ⟨_, rfl, rfl⟩ _ _ dX5_block_163
    by_cases c19 : u = 8
    · refine ri_tabIn (v := 8) (tgt := 164) hx hb dX5_block_10 c19 (by omega) (by decide) (by decide) rfl (by decide) ?_
      refine lv_aload_n hx hb dX5_block_164 rfl (lv_at hl 0 rfl) ?_
      refine ri_get (v := .ref (na 0)) hx hb hts hown w fX5 0 0 (W0_of k_fl_RX5_10 rfl) rfl rfl (by decide) dX5_block_165 ?_
      refine ri_get (v := .ref (na 4)) hx hb hts hown w fX4 1 3 (W0_of k_fl_RX5_192 rfl) rfl rfl (by decide) dX5_block_168 ?_
      refine lv_iload_n hx hb dX5_block_171 rfl (lv_at hl 1 rfl) ?_
      refine ri_iald (f := T 4) (v := (B 0) (4 * v + 44)) hx hb w 5 rfl (by omega) ((hR.br (by omega) (by omega)).trans (congrArg _ (by omega))) dX5_block_172 (by omega) ?_
      have r20 := hW0.bd (4 * v + 44)
      exact hend.2 _ (congrArg (fun z => some (Value.int (iI z))) (show c_block (B 0) v u = (B 0) (4 * v + 44) from by unfold c_block; first | omega | (simp only [if_pos c1]; try omega) | (have hz : u = 0 := (by omega); subst hz; omega) | (have hz : u = 1 := (by omega); subst hz; omega) | (have hz : u = 2 := (by omega); subst hz; omega) | (have hz : u = 3 := (by omega); subst hz; omega))) ⟨_, rfl, rfl⟩ _ _ dX5_block_173
    by_cases c21 : u = 9
    · refine ri_tabIn (v := 9) (tgt := 174) hx hb dX5_block_10 c21 (by omega) (by decide) (by decide) rfl (by decide) ?_
      refine lv_aload_n hx hb dX5_block_174 rfl (lv_at hl 0 rfl) ?_
      refine ri_get (v := .ref (na 0)) hx hb hts hown w fX5 0 0 (W0_of k_fl_RX5_10 rfl) rfl rfl (by decide) dX5_block_175 ?_
      refine ri_get (v := .ref (na 3)) hx hb hts hown w fX4 1 2 (W0_of k_fl_RX5_195 rfl) rfl rfl (by decide) dX5_block_178 ?_
      refine lv_iload_n hx hb dX5_block_181 rfl (lv_at hl 1 rfl) ?_
      refine ri_zald (f := T 3) (v := (B 0) (4 * v + 43)) hx hb w 4 rfl (by omega) ((hR.ca (by omega) (by omega)).trans (congrArg _ (by omega))) dX5_block_182 (by omega) ?_
      have r22 := hW0.bd (4 * v + 43)
      refine ri_if_eq (tgt := 190) hx hb dX5_block_183 (by decide) (by omega) (fun c23 => ?_) (fun c23 => ?_)
      · refine ri_iconst hx hb dX5_block_190 ?_
        exact hend.2 _ (congrArg (fun z => some (Value.int (iI z))) (show c_block (B 0) v u = 0 from by unfold c_block; first | omega | (simp only [if_pos c1]; try omega) | (have hz : u = 0 := (by omega); subst hz; omega) | (have hz : u = 1 := (by omega); subst hz; omega) | (have hz : u = 2 := (by omega); subst hz; omega) | (have hz : u = 3 := (by omega); subst hz; omega))) ⟨_, rfl, rfl⟩ _ _ dX5_block_191
      · refine ri_iconst hx hb dX5_block_186 ?_
        refine lv_goto (tgt := 191) hx hb dX5_block_187 (by decide) ?_
        exact hend.2 _ (congrArg (fun z => some (Value.int (iI z))) (show c_block (B 0) v u = 1 from by unfold c_block; first | omega | (simp only [if_pos c1]; try omega) | (have hz : u = 0 := (by omega); subst hz; omega) | (have hz : u = 1 := (by omega); subst hz; omega) | (have hz : u = 2 := (by omega); subst hz; omega) | (have hz : u = 3 := (by omega); subst hz; omega))) ⟨_, rfl, rfl⟩ _ _ dX5_block_191
    refine ri_tabOut (a := u) (tgt := 192) hx hb dX5_block_10 (by omega) (by omega) (by decide) ?_
    refine ri_bipush hx hb dX5_block_192 (by decide) ?_
    exact hend.2 _ (congrArg (fun z => some (Value.int (iI z))) (show c_block (B 0) v u = -2 from by unfold c_block; first | omega | (simp only [if_pos c1]; try omega) | (have hz : u = 0 := (by omega); subst hz; omega) | (have hz : u = 1 := (by omega); subst hz; omega) | (have hz : u = 2 := (by omega); subst hz; omega) | (have hz : u = 3 := (by omega); subst hz; omega))) ⟨_, rfl, rfl⟩ _ _ dX5_block_194
  · refine ri_iconst hx hb dX5_block_7 ?_
    exact hend.2 _ (congrArg (fun z => some (Value.int (iI z))) (show c_block (B 0) v u = -1 from by unfold c_block; first | omega | (simp only [if_neg c1]; try omega) | (have hz : u = 0 := (by omega); subst hz; omega) | (have hz : u = 1 := (by omega); subst hz; omega) | (have hz : u = 2 := (by omega); subst hz; omega) | (have hz : u = 3 := (by omega); subst hz; omega))) ⟨_, rfl, rfl⟩ _ _ dX5_block_8

set_option maxHeartbeats 4000000 in
set_option maxRecDepth 100000 in
theorem t_X5_place (l : Launch) (g : GG) (c0 : Nat) (na : Nat → Nat) (be : Nat → Nat) (tr : Nat → Nat) (sn : Nat → Nat) (x : Nat → Nat) (h : Nat → Nat → Nat) (o : Nat → Nat) (T : Nat → Int → Int) (T1 : Nat → Int → Int) (T2 : Nat → Int → Int) (T3 : Nat → Int → Int) (K : Nat → Nat → Int → Int) (z : Int) (P : Nat → Int → Int) (C : Nat → Int) (N : Int) (B : Nat → Int → Int) (v : Int) (k : Int) (u : Int) (hW : WB N B) (hC : RelC B T T3 K z P C) (h1 : -2147483648 ≤ v ∧ v ≤ 2147483647) (h4 : -2147483648 ≤ k ∧ k ≤ 2147483647) (h2 : -2147483648 ≤ u ∧ u ≤ 2147483647) : Met l yX5_place (wm yX5_place cX5_place 6 (some .int)) (rmm 1 0 0) (pR g (List.flatten ([[(c0, .inr (5, [.ref (na 0), .ref (be 0), .ref (tr 0), .ref (sn 0), .int (iI (C 0)), .ref (x 0), .ref (o 0), .int (iI (C 1)), .int (iI (C 2)), .int (iI (C 3)), .int (iI (C 4))]))], st_ws g na T, st_ws g be T1, st_ws g tr T2, st_ws g sn T3, hi_ws g x h K z, or_ws g o P] : List va_W)) [.ref c0, .int (iI v), .int (iI k), .int (iI u)]) (qR (some (.int (iI (c_place (B 0) v k u))))) 0 0 (fun _ => False) := by
  have hk := hW.k
  have hj := hW.j
  have htl := hW.tl
  have hrf := hW.rf
  have hTx := hW.tx
  have hrr := hW.rr
  have hW0 := hW.1
  have hR := hC.1
  have hrz := hC.zz
  have hc0 := hC.c0
  have hpl : 0 ≤ v → v < 6 → 0 ≤ k → k < 8 → -2 ≤ B 0 (3 * k + 24 * v + 65) ∧ B 0 (3 * k + 24 * v + 65) ≤ 23 := fun q0 q1 q2 q3 => by have := hW0.pl (k := 8 * v + k) (by omega) (by omega); rw [show 3 * (8 * v + k) + 65 = 3 * k + 24 * v + 65 from by omega] at this; exact ⟨this.1, this.2.1⟩
  refine met_r (by decide) (Nat.le_of_ble_eq_true rfl) ?_
  intro p e s m args below meth c Q ls hx hb hml hown hts hl w hend
  have hl : lv_has ls 6 [(0, .ref c0), (1, .int (iI v)), (2, .int (iI k)), (3, .int (iI u))] := hl
  refine lv_iload_n hx hb dX5_place_0 rfl (lv_at hl 1 rfl) ?_
  refine call_rS (As := [.int (iI v)]) (rest := []) hx hb (hml.trans hl.1.symm) hown hts w lk_RX5_165 (t_X5_isBlock l g v (by omega)) [] rfl rfl rfl rfl (Nat.le_of_ble_eq_true rfl) ⟨Nat.le_of_ble_eq_true rfl, Nat.le_of_ble_eq_true rfl⟩ ⟨Nat.le_of_ble_eq_true rfl, Nat.le_of_ble_eq_true rfl⟩ dX5_place_1 ?_
  refine ri_ifb_eq (tgt := 17) hx hb dX5_place_4 (by decide) (fun c1 => ?_) (fun c1 => ?_)
  · refine ri_iconst hx hb dX5_place_17 ?_
    exact hend.2 _ (congrArg (fun z => some (Value.int (iI z))) (show c_place (B 0) v k u = -1 from by unfold c_place; first | omega | (simp only [if_neg c1]; try omega) | (have hz : u = 0 := (by omega); subst hz; omega) | (have hz : u = 1 := (by omega); subst hz; omega) | (have hz : u = 2 := (by omega); subst hz; omega) | (have hz : u = 3 := (by omega); subst hz; omega))) ⟨_, rfl, rfl⟩ _ _ dX5_place_18
  · refine lv_iload_n hx hb dX5_place_7 rfl (lv_at hl 2 rfl) ?_
    refine ri_if_lt (tgt := 17) hx hb dX5_place_8 (by decide) (by omega) (fun c2 => ?_) (fun c2 => ?_)
    · refine ri_iconst hx hb dX5_place_17 ?_
      exact hend.2 _ (congrArg (fun z => some (Value.int (iI z))) (show c_place (B 0) v k u = -1 from by unfold c_place; first | omega | (simp only [if_pos c1]; try omega) | (have hz : u = 0 := (by omega); subst hz; omega) | (have hz : u = 1 := (by omega); subst hz; omega) | (have hz : u = 2 := (by omega); subst hz; omega) | (have hz : u = 3 := (by omega); subst hz; omega))) ⟨_, rfl, rfl⟩ _ _ dX5_place_18
    · refine lv_iload_n hx hb dX5_place_11 rfl (lv_at hl 2 rfl) ?_
      refine ri_bipush hx hb dX5_place_12 (by decide) ?_
      refine ri_icmp_lt (tgt := 19) hx hb dX5_place_14 (by decide) (by omega) (by omega) (fun c3 => ?_) (fun c3 => ?_)
      · refine lv_iload_n hx hb dX5_place_19 rfl (lv_at hl 1 rfl) ?_
        refine ri_bipush hx hb dX5_place_20 (by decide) ?_
        refine ri_imul (z := 8 * v) hx hb dX5_place_22 (by omega) ?_
        refine lv_iload_n hx hb dX5_place_23 rfl (lv_at hl 2 rfl) ?_
        refine ri_iadd (z := k + 8 * v) hx hb dX5_place_24 (by omega) ?_
        refine lv_istore (lv' := [(4, .int (iI (k + 8 * v))), (0, .ref c0), (1, .int (iI v)), (2, .int (iI k)), (3, .int (iI u))]) hx hb dX5_place_25 hl (by decide) rfl (fun ls hl => ?_)
        refine lv_aload_n hx hb dX5_place_27 rfl (lv_at hl 1 rfl) ?_
        refine ri_get (v := .ref (na 0)) hx hb hts hown w fX5 0 0 (W0_of k_fl_RX5_10 rfl) rfl rfl (by decide) dX5_place_28 ?_
        refine ri_get (v := .ref (na 6)) hx hb hts hown w fX4 1 5 (W0_of k_fl_RX5_199 rfl) rfl rfl (by decide) dX5_place_31 ?_
        refine lv_iload hx hb dX5_place_34 (lv_at hl 0 rfl) ?_
        refine ri_iald (f := T 6) (v := (B 0) (3 * k + 24 * v + 65)) hx hb w 7 rfl (by omega) ((hR.he (by omega) (by omega)).trans (congrArg _ (by omega))) dX5_place_36 (by omega) ?_
        have r4 := hW0.bd (3 * k + 24 * v + 65)
        refine lv_istore (lv' := [(5, .int (iI ((B 0) (3 * k + 24 * v + 65)))), (4, .int (iI (k + 8 * v))), (0, .ref c0), (1, .int (iI v)), (2, .int (iI k)), (3, .int (iI u))]) hx hb dX5_place_37 hl (by decide) rfl (fun ls hl => ?_)
        refine lv_iload_n hx hb dX5_place_39 rfl (lv_at hl 5 rfl) ?_
        by_cases c5 : u = 0
        · refine ri_tabIn (v := 0) (tgt := 68) hx hb dX5_place_40 c5 (by omega) (by decide) (by decide) rfl (by decide) ?_
          refine lv_iload hx hb dX5_place_68 (lv_at hl 0 rfl) ?_
          refine call_rS (As := [.int (iI ((B 0) (3 * k + 24 * v + 65)))]) (rest := []) hx hb (hml.trans hl.1.symm) hown hts w lk_RX5_133 (t_X5_isPage l g ((B 0) (3 * k + 24 * v + 65)) (by omega)) [] rfl rfl rfl rfl (Nat.le_of_ble_eq_true rfl) ⟨Nat.le_of_ble_eq_true rfl, Nat.le_of_ble_eq_true rfl⟩ ⟨Nat.le_of_ble_eq_true rfl, Nat.le_of_ble_eq_true rfl⟩ dX5_place_70 ?_
          refine ri_ifb_eq (tgt := 81) hx hb dX5_place_73 (by decide) (fun c6 => ?_) (fun c6 => ?_)
          · refine ri_bipush hx hb dX5_place_81 (by decide) ?_
            exact hend.2 _ (congrArg (fun z => some (Value.int (iI z))) (show c_place (B 0) v k u = -5 from by unfold c_place; first | omega | (simp only [if_pos c1, if_neg c6]; try omega) | (have hz : u = 0 := (by omega); subst hz; omega) | (have hz : u = 1 := (by omega); subst hz; omega) | (have hz : u = 2 := (by omega); subst hz; omega) | (have hz : u = 3 := (by omega); subst hz; omega))) ⟨_, rfl, rfl⟩ _ _ dX5_place_83
          · refine lv_iload hx hb dX5_place_76 (lv_at hl 0 rfl) ?_
            refine lv_goto (tgt := 83) hx hb dX5_place_78 (by decide) ?_
            exact hend.2 _ (congrArg (fun z => some (Value.int (iI z))) (show c_place (B 0) v k u = (B 0) (3 * k + 24 * v + 65) from by unfold c_place; first | omega | (simp only [if_pos c1, if_pos c6]; try omega) | (have hz : u = 0 := (by omega); subst hz; omega) | (have hz : u = 1 := (by omega); subst hz; omega) | (have hz : u = 2 := (by omega); subst hz; omega) | (have hz : u = 3 := (by omega); subst hz; omega))) ⟨_, rfl, rfl⟩ _ _ dX5_place_83
        by_cases c7 : u = 1
        · refine ri_tabIn (v := 1) (tgt := 84) hx hb dX5_place_40 c7 (by omega) (by decide) (by decide) rfl (by decide) ?_
          refine lv_iload hx hb dX5_place_84 (lv_at hl 0 rfl) ?_
          refine call_rS (As := [.int (iI ((B 0) (3 * k + 24 * v + 65)))]) (rest := []) hx hb (hml.trans hl.1.symm) hown hts w lk_RX5_133 (t_X5_isPage l g ((B 0) (3 * k + 24 * v + 65)) (by omega)) [] rfl rfl rfl rfl (Nat.le_of_ble_eq_true rfl) ⟨Nat.le_of_ble_eq_true rfl, Nat.le_of_ble_eq_true rfl⟩ ⟨Nat.le_of_ble_eq_true rfl, Nat.le_of_ble_eq_true rfl⟩ dX5_place_86 ?_
          refine ri_ifb_eq (tgt := 96) hx hb dX5_place_89 (by decide) (fun c8 => ?_) (fun c8 => ?_)
          · refine lv_iload hx hb dX5_place_96 (lv_at hl 0 rfl) ?_
            refine ri_bipush hx hb dX5_place_98 (by decide) ?_
            refine ri_icmp_ne (tgt := 107) hx hb dX5_place_100 (by decide) (by omega) (by omega) (fun c9 => ?_) (fun c9 => ?_)
            · refine ri_iconst hx hb dX5_place_107 ?_
              exact hend.2 _ (congrArg (fun z => some (Value.int (iI z))) (show c_place (B 0) v k u = 0 from by unfold c_place; first | omega | (simp only [if_pos c1, if_neg c8]; try omega) | (have hz : u = 0 := (by omega); subst hz; omega) | (have hz : u = 1 := (by omega); subst hz; omega) | (have hz : u = 2 := (by omega); subst hz; omega) | (have hz : u = 3 := (by omega); subst hz; omega))) ⟨_, rfl, rfl⟩ _ _ dX5_place_108
            · refine ri_iconst hx hb dX5_place_103 ?_
              refine lv_goto (tgt := 108) hx hb dX5_place_104 (by decide) ?_
              exact hend.2 _ (congrArg (fun z => some (Value.int (iI z))) (show c_place (B 0) v k u = 2 from by unfold c_place; first | omega | (simp only [if_pos c1, if_neg c8]; try omega) | (have hz : u = 0 := (by omega); subst hz; omega) | (have hz : u = 1 := (by omega); subst hz; omega) | (have hz : u = 2 := (by omega); subst hz; omega) | (have hz : u = 3 := (by omega); subst hz; omega))) ⟨_, rfl, rfl⟩ _ _ dX5_place_108
          · refine ri_iconst hx hb dX5_place_92 ?_
            refine lv_goto (tgt := 108) hx hb dX5_place_93 (by decide) ?_
            exact hend.2 _ (congrArg (fun z => some (Value.int (iI z))) (show c_place (B 0) v k u = 1 from by unfold c_place; first | omega | (simp only [if_pos c1, if_pos c8]; try omega) | (have hz : u = 0 := (by omega); subst hz; omega) | (have hz : u = 1 := (by omega); subst hz; omega) | (have hz : u = 2 := (by omega); subst hz; omega) | (have hz : u = 3 := (by omega); subst hz; omega))) ⟨_, rfl, rfl⟩ _ _ dX5_place_108
        by_cases c10 : u = 2
        · refine ri_tabIn (v := 2) (tgt := 109) hx hb dX5_place_40 c10 (by omega) (by decide) (by decide) rfl (by decide) ?_
          refine lv_aload_n hx hb dX5_place_109 rfl (lv_at hl 2 rfl) ?_
          refine ri_get (v := .ref (na 0)) hx hb hts hown w fX5 0 0 (W0_of k_fl_RX5_10 rfl) rfl rfl (by decide) dX5_place_110 ?_
          refine ri_get (v := .ref (na 7)) hx hb hts hown w fX4 1 6 (W0_of k_fl_RX5_156 rfl) rfl rfl (by decide) dX5_place_113 ?_
          refine lv_iload hx hb dX5_place_116 (lv_at hl 1 rfl) ?_
          refine ri_iald (f := T 7) (v := (B 0) (3 * k + 24 * v + 66)) hx hb w 8 rfl (by omega) ((hR.we (by omega) (by omega)).trans (congrArg _ (by omega))) dX5_place_118 (by omega) ?_
          have r11 := hW0.bd (3 * k + 24 * v + 66)
          exact hend.2 _ (congrArg (fun z => some (Value.int (iI z))) (show c_place (B 0) v k u = (B 0) (3 * k + 24 * v + 66) from by unfold c_place; first | omega | (simp only [if_pos c1]; try omega) | (have hz : u = 0 := (by omega); subst hz; omega) | (have hz : u = 1 := (by omega); subst hz; omega) | (have hz : u = 2 := (by omega); subst hz; omega) | (have hz : u = 3 := (by omega); subst hz; omega))) ⟨_, rfl, rfl⟩ _ _ dX5_place_119
        refine ri_tabOut (a := u) (tgt := 120) hx hb dX5_place_40 (by omega) (by omega) (by decide) ?_
        refine ri_bipush hx hb dX5_place_120 (by decide) ?_
        exact hend.2 _ (congrArg (fun z => some (Value.int (iI z))) (show c_place (B 0) v k u = -2 from by unfold c_place; first | omega | (simp only [if_pos c1]; try omega) | (have hz : u = 0 := (by omega); subst hz; omega) | (have hz : u = 1 := (by omega); subst hz; omega) | (have hz : u = 2 := (by omega); subst hz; omega) | (have hz : u = 3 := (by omega); subst hz; omega))) ⟨_, rfl, rfl⟩ _ _ dX5_place_122
      · refine ri_iconst hx hb dX5_place_17 ?_
        exact hend.2 _ (congrArg (fun z => some (Value.int (iI z))) (show c_place (B 0) v k u = -1 from by unfold c_place; first | omega | (simp only [if_pos c1]; try omega) | (have hz : u = 0 := (by omega); subst hz; omega) | (have hz : u = 1 := (by omega); subst hz; omega) | (have hz : u = 2 := (by omega); subst hz; omega) | (have hz : u = 3 := (by omega); subst hz; omega))) ⟨_, rfl, rfl⟩ _ _ dX5_place_18

set_option maxHeartbeats 4000000 in
set_option maxRecDepth 100000 in
theorem t_X5_count (l : Launch) (g : GG) (c0 : Nat) (na : Nat → Nat) (be : Nat → Nat) (tr : Nat → Nat) (sn : Nat → Nat) (x : Nat → Nat) (h : Nat → Nat → Nat) (o : Nat → Nat) (T : Nat → Int → Int) (T1 : Nat → Int → Int) (T2 : Nat → Int → Int) (T3 : Nat → Int → Int) (K : Nat → Nat → Int → Int) (z : Int) (P : Nat → Int → Int) (C : Nat → Int) (N : Int) (B : Nat → Int → Int) (v : Int) (hW : WB N B) (hC : RelC B T T3 K z P C) (h1 : -2147483648 ≤ v ∧ v ≤ 2147483647) : Met l yX5_count (wm yX5_count cX5_count 2 (some .int)) (rmm 4 0 0) (pR g (List.flatten ([[(c0, .inr (5, [.ref (na 0), .ref (be 0), .ref (tr 0), .ref (sn 0), .int (iI (C 0)), .ref (x 0), .ref (o 0), .int (iI (C 1)), .int (iI (C 2)), .int (iI (C 3)), .int (iI (C 4))]))], st_ws g na T, st_ws g be T1, st_ws g tr T2, st_ws g sn T3, hi_ws g x h K z, or_ws g o P] : List va_W)) [.ref c0, .int (iI v)]) (qR (some (.int (iI (c_count B v))))) 0 0 (fun _ => False) := by
  have hk := hW.k
  have hj := hW.j
  have htl := hW.tl
  have hrf := hW.rf
  have hTx := hW.tx
  have hrr := hW.rr
  have hW0 := hW.1
  have hR := hC.1
  have hrz := hC.zz
  have hc0 := hC.c0
  have hlo := hW0.lo
  have hopn := open_rg hW0
  have hpn := hC.n
  have en5 : v = 5 → B 0 (v + 2) = B 0 7 := fun h => congrArg _ (by omega)
  have en6 : v = 6 → B 0 (v + 2) = B 0 8 := fun h => congrArg _ (by omega)
  have en7 : v = 7 → B 0 (v + 2) = B 0 9 := fun h => congrArg _ (by omega)
  have en8 : v = 8 → B 0 (v + 2) = B 0 10 := fun h => congrArg _ (by omega)
  have en9 : v = 9 → B 0 (v + 2) = B 0 11 := fun h => congrArg _ (by omega)
  refine met_r (by decide) (Nat.le_of_ble_eq_true rfl) ?_
  intro p e s m args below meth c Q ls hx hb hml hown hts hl w hend
  have hl : lv_has ls 2 [(0, .ref c0), (1, .int (iI v))] := hl
  refine lv_iload_n hx hb dX5_count_0 rfl (lv_at hl 1 rfl) ?_
  by_cases c1 : v = 0
  · refine ri_tabIn (v := 0) (tgt := 68) hx hb dX5_count_1 c1 (by omega) (by decide) (by decide) rfl (by decide) ?_
    refine lv_aload_n hx hb dX5_count_68 rfl (lv_at hl 0 rfl) ?_
    refine ri_get (v := .ref (na 0)) hx hb hts hown w fX5 0 0 (W0_of k_fl_RX5_10 rfl) rfl rfl (by decide) dX5_count_69 ?_
    refine ri_get (v := .int (iI ((B 0) 0))) hx hb hts hown w fX4 1 14 (W0_of k_fl_RX5_130 rfl) rfl (congrArg (fun z => some (Value.int (iI z))) (hR.ti)) (by decide) dX5_count_72 ?_
    have r2 := hW0.bd 0
    exact hend.2 _ (congrArg (fun z => some (Value.int (iI z))) (show c_count B v = (B 0) 0 from by unfold c_count; first | omega | omega | (have hz : v = 0 := (by omega); subst hz; omega) | (have hz : v = 1 := (by omega); subst hz; omega) | (have hz : v = 2 := (by omega); subst hz; omega) | (have hz : v = 3 := (by omega); subst hz; omega))) ⟨_, rfl, rfl⟩ _ _ dX5_count_75
  by_cases c3 : v = 1
  · refine ri_tabIn (v := 1) (tgt := 76) hx hb dX5_count_1 c3 (by omega) (by decide) (by decide) rfl (by decide) ?_
    refine lv_aload_n hx hb dX5_count_76 rfl (lv_at hl 0 rfl) ?_
    refine ri_get (v := .ref (na 0)) hx hb hts hown w fX5 0 0 (W0_of k_fl_RX5_10 rfl) rfl rfl (by decide) dX5_count_77 ?_
    refine cb_rV (bc := [st_ws g na T]) (br := [[(c0, .inr (5, [.ref (na 0), .ref (be 0), .ref (tr 0), .ref (sn 0), .int (iI (C 0)), .ref (x 0), .ref (o 0), .int (iI (C 1)), .int (iI (C 2)), .int (iI (C 3)), .int (iI (C 4))]))], st_ws g be T1, st_ws g tr T2, st_ws g sn T3, hi_ws g x h K z, or_ws g o P]) (kb := 7) (As := []) (rest := []) hx hb (hml.trans hl.1.symm) hown hts w lk_RX5_227 (t_X4_pagesInAll l g na _ (B 0) T  (hW0) (hR) ) [1, 0, 2, 3, 4, 5, 6] (by decide) rfl rfl rfl (call_recv w (q0 := 1) rfl fX4.1) rfl rfl (Nat.le_of_ble_eq_true rfl) ⟨Nat.le_of_ble_eq_true rfl, Nat.le_of_ble_eq_true rfl⟩ ⟨Nat.le_of_ble_eq_true rfl, Nat.le_of_ble_eq_true rfl⟩ dX5_count_80 ?_
    have r4 := placed_rg (B 0)
    exact hend.2 _ (congrArg (fun z => some (Value.int (iI z))) (show c_count B v = r_placed (B 0) from by unfold c_count; first | omega | omega | (have hz : v = 0 := (by omega); subst hz; omega) | (have hz : v = 1 := (by omega); subst hz; omega) | (have hz : v = 2 := (by omega); subst hz; omega) | (have hz : v = 3 := (by omega); subst hz; omega))) ⟨_, rfl, rfl⟩ _ _ dX5_count_83
  by_cases c5 : v = 2
  · refine ri_tabIn (v := 2) (tgt := 84) hx hb dX5_count_1 c5 (by omega) (by decide) (by decide) rfl (by decide) ?_
    refine lv_aload_n hx hb dX5_count_84 rfl (lv_at hl 0 rfl) ?_
    refine ri_get (v := .ref (na 0)) hx hb hts hown w fX5 0 0 (W0_of k_fl_RX5_10 rfl) rfl rfl (by decide) dX5_count_85 ?_
    refine cb_rV (bc := [st_ws g na T]) (br := [[(c0, .inr (5, [.ref (na 0), .ref (be 0), .ref (tr 0), .ref (sn 0), .int (iI (C 0)), .ref (x 0), .ref (o 0), .int (iI (C 1)), .int (iI (C 2)), .int (iI (C 3)), .int (iI (C 4))]))], st_ws g be T1, st_ws g tr T2, st_ws g sn T3, hi_ws g x h K z, or_ws g o P]) (kb := 7) (As := []) (rest := []) hx hb (hml.trans hl.1.symm) hown hts w lk_RX5_230 (t_X4_freeBlocks l g na _ (B 0) T  (hW0) (hR) ) [1, 0, 2, 3, 4, 5, 6] (by decide) rfl rfl rfl (call_recv w (q0 := 1) rfl fX4.1) rfl rfl (Nat.le_of_ble_eq_true rfl) ⟨Nat.le_of_ble_eq_true rfl, Nat.le_of_ble_eq_true rfl⟩ ⟨Nat.le_of_ble_eq_true rfl, Nat.le_of_ble_eq_true rfl⟩ dX5_count_88 ?_
    have r6 := frees_rg (B 0)
    exact hend.2 _ (congrArg (fun z => some (Value.int (iI z))) (show c_count B v = r_frees (B 0) from by unfold c_count; first | omega | omega | (have hz : v = 0 := (by omega); subst hz; omega) | (have hz : v = 1 := (by omega); subst hz; omega) | (have hz : v = 2 := (by omega); subst hz; omega) | (have hz : v = 3 := (by omega); subst hz; omega))) ⟨_, rfl, rfl⟩ _ _ dX5_count_91
  by_cases c7 : v = 3
  · refine ri_tabIn (v := 3) (tgt := 92) hx hb dX5_count_1 c7 (by omega) (by decide) (by decide) rfl (by decide) ?_
    refine lv_aload_n hx hb dX5_count_92 rfl (lv_at hl 0 rfl) ?_
    refine ri_get (v := .ref (na 0)) hx hb hts hown w fX5 0 0 (W0_of k_fl_RX5_10 rfl) rfl rfl (by decide) dX5_count_93 ?_
    refine ri_get (v := .int (iI (r_open (B 0)))) hx hb hts hown w fX4 1 13 (W0_of k_fl_RX5_233 rfl) rfl (congrArg (fun z => some (Value.int (iI z))) (hR.op)) (by decide) dX5_count_96 ?_
    have r8 := open_rg hW0
    refine ri_iconst hx hb dX5_count_99 ?_
    refine ri_icmp_ne (tgt := 108) hx hb dX5_count_100 (by decide) (by omega) (by omega) (fun c9 => ?_) (fun c9 => ?_)
    · refine lv_aload_n hx hb dX5_count_108 rfl (lv_at hl 0 rfl) ?_
      refine ri_get (v := .ref (na 0)) hx hb hts hown w fX5 0 0 (W0_of k_fl_RX5_10 rfl) rfl rfl (by decide) dX5_count_109 ?_
      refine ri_get (v := .int (iI (r_open (B 0)))) hx hb hts hown w fX4 1 13 (W0_of k_fl_RX5_233 rfl) rfl (congrArg (fun z => some (Value.int (iI z))) (hR.op)) (by decide) dX5_count_112 ?_
      exact hend.2 _ (congrArg (fun z => some (Value.int (iI z))) (show c_count B v = r_open (B 0) from by unfold c_count; first | omega | omega | (have hz : v = 0 := (by omega); subst hz; omega) | (have hz : v = 1 := (by omega); subst hz; omega) | (have hz : v = 2 := (by omega); subst hz; omega) | (have hz : v = 3 := (by omega); subst hz; omega))) ⟨_, rfl, rfl⟩ _ _ dX5_count_115
    · refine ri_bipush hx hb dX5_count_103 (by decide) ?_
      refine lv_goto (tgt := 115) hx hb dX5_count_105 (by decide) ?_
      exact hend.2 _ (congrArg (fun z => some (Value.int (iI z))) (show c_count B v = -5 from by unfold c_count; first | omega | omega | (have hz : v = 0 := (by omega); subst hz; omega) | (have hz : v = 1 := (by omega); subst hz; omega) | (have hz : v = 2 := (by omega); subst hz; omega) | (have hz : v = 3 := (by omega); subst hz; omega))) ⟨_, rfl, rfl⟩ _ _ dX5_count_115
  by_cases c10 : v = 4
  · refine ri_tabIn (v := 4) (tgt := 116) hx hb dX5_count_1 c10 (by omega) (by decide) (by decide) rfl (by decide) ?_
    refine lv_aload_n hx hb dX5_count_116 rfl (lv_at hl 0 rfl) ?_
    refine ri_get (v := .ref (na 0)) hx hb hts hown w fX5 0 0 (W0_of k_fl_RX5_10 rfl) rfl rfl (by decide) dX5_count_117 ?_
    refine cb_rV (bc := [st_ws g na T]) (br := [[(c0, .inr (5, [.ref (na 0), .ref (be 0), .ref (tr 0), .ref (sn 0), .int (iI (C 0)), .ref (x 0), .ref (o 0), .int (iI (C 1)), .int (iI (C 2)), .int (iI (C 3)), .int (iI (C 4))]))], st_ws g be T1, st_ws g tr T2, st_ws g sn T3, hi_ws g x h K z, or_ws g o P]) (kb := 7) (As := []) (rest := []) hx hb (hml.trans hl.1.symm) hown hts w lk_RX5_205 (t_X4_markedBlocks l g na _ (B 0) T  (hW0) (hR) ) [1, 0, 2, 3, 4, 5, 6] (by decide) rfl rfl rfl (call_recv w (q0 := 1) rfl fX4.1) rfl rfl (Nat.le_of_ble_eq_true rfl) ⟨Nat.le_of_ble_eq_true rfl, Nat.le_of_ble_eq_true rfl⟩ ⟨Nat.le_of_ble_eq_true rfl, Nat.le_of_ble_eq_true rfl⟩ dX5_count_120 ?_
    have r11 := marks_rg (B 0)
    exact hend.2 _ (congrArg (fun z => some (Value.int (iI z))) (show c_count B v = r_marks (B 0) from by unfold c_count; first | omega | omega | (have hz : v = 0 := (by omega); subst hz; omega) | (have hz : v = 1 := (by omega); subst hz; omega) | (have hz : v = 2 := (by omega); subst hz; omega) | (have hz : v = 3 := (by omega); subst hz; omega))) ⟨_, rfl, rfl⟩ _ _ dX5_count_123
  by_cases c12 : v = 5
  · refine ri_tabIn (v := 5) (tgt := 124) hx hb dX5_count_1 c12 (by omega) (by decide) (by decide) rfl (by decide) ?_
    refine lv_aload_n hx hb dX5_count_124 rfl (lv_at hl 0 rfl) ?_
    refine ri_get (v := .ref (na 0)) hx hb hts hown w fX5 0 0 (W0_of k_fl_RX5_10 rfl) rfl rfl (by decide) dX5_count_125 ?_
    refine ri_get (v := .int (iI ((B 0) 7))) hx hb hts hown w fX4 1 15 (W0_of k_fl_RX5_236 rfl) rfl (congrArg (fun z => some (Value.int (iI z))) (hR.re)) (by decide) dX5_count_128 ?_
    have r13 := hW0.bd 7
    exact hend.2 _ (congrArg (fun z => some (Value.int (iI z))) (show c_count B v = (B 0) 7 from by unfold c_count; first | omega | omega | (have hz : v = 0 := (by omega); subst hz; omega) | (have hz : v = 1 := (by omega); subst hz; omega) | (have hz : v = 2 := (by omega); subst hz; omega) | (have hz : v = 3 := (by omega); subst hz; omega))) ⟨_, rfl, rfl⟩ _ _ dX5_count_131
  by_cases c14 : v = 6
  · refine ri_tabIn (v := 6) (tgt := 132) hx hb dX5_count_1 c14 (by omega) (by decide) (by decide) rfl (by decide) ?_
    refine lv_aload_n hx hb dX5_count_132 rfl (lv_at hl 0 rfl) ?_
    refine ri_get (v := .ref (na 0)) hx hb hts hown w fX5 0 0 (W0_of k_fl_RX5_10 rfl) rfl rfl (by decide) dX5_count_133 ?_
    refine ri_get (v := .int (iI ((B 0) 8))) hx hb hts hown w fX4 1 16 (W0_of k_fl_RX5_239 rfl) rfl (congrArg (fun z => some (Value.int (iI z))) (hR.qu)) (by decide) dX5_count_136 ?_
    have r15 := hW0.bd 8
    exact hend.2 _ (congrArg (fun z => some (Value.int (iI z))) (show c_count B v = (B 0) 8 from by unfold c_count; first | omega | omega | (have hz : v = 0 := (by omega); subst hz; omega) | (have hz : v = 1 := (by omega); subst hz; omega) | (have hz : v = 2 := (by omega); subst hz; omega) | (have hz : v = 3 := (by omega); subst hz; omega))) ⟨_, rfl, rfl⟩ _ _ dX5_count_139
  by_cases c16 : v = 7
  · refine ri_tabIn (v := 7) (tgt := 140) hx hb dX5_count_1 c16 (by omega) (by decide) (by decide) rfl (by decide) ?_
    refine lv_aload_n hx hb dX5_count_140 rfl (lv_at hl 0 rfl) ?_
    refine ri_get (v := .ref (na 0)) hx hb hts hown w fX5 0 0 (W0_of k_fl_RX5_10 rfl) rfl rfl (by decide) dX5_count_141 ?_
    refine ri_get (v := .int (iI ((B 0) 9))) hx hb hts hown w fX4 1 17 (W0_of k_fl_RX5_242 rfl) rfl (congrArg (fun z => some (Value.int (iI z))) (hR.mo)) (by decide) dX5_count_144 ?_
    have r17 := hW0.bd 9
    exact hend.2 _ (congrArg (fun z => some (Value.int (iI z))) (show c_count B v = (B 0) 9 from by unfold c_count; first | omega | omega | (have hz : v = 0 := (by omega); subst hz; omega) | (have hz : v = 1 := (by omega); subst hz; omega) | (have hz : v = 2 := (by omega); subst hz; omega) | (have hz : v = 3 := (by omega); subst hz; omega))) ⟨_, rfl, rfl⟩ _ _ dX5_count_147
  by_cases c18 : v = 8
  · refine ri_tabIn (v := 8) (tgt := 148) hx hb dX5_count_1 c18 (by omega) (by decide) (by decide) rfl (by decide) ?_
    refine lv_aload_n hx hb dX5_count_148 rfl (lv_at hl 0 rfl) ?_
    refine ri_get (v := .ref (na 0)) hx hb hts hown w fX5 0 0 (W0_of k_fl_RX5_10 rfl) rfl rfl (by decide) dX5_count_149 ?_
    refine ri_get (v := .ref (na 13)) hx hb hts hown w fX4 1 12 (W0_of k_fl_RX5_211 rfl) rfl rfl (by decide) dX5_count_152 ?_
    refine ri_get (v := .int (iI ((B 0) 10))) hx hb hts hown w fX1 14 3 (W0_of k_fl_RX5_215 rfl) rfl (congrArg (fun z => some (Value.int (iI z))) (hR.to)) (by decide) dX5_count_155 ?_
    have r19 := hW0.bd 10
    exact hend.2 _ (congrArg (fun z => some (Value.int (iI z))) (show c_count B v = (B 0) 10 from by unfold c_count; first | omega | omega | (have hz : v = 0 := (by omega); subst hz; omega) | (have hz : v = 1 := (by omega); subst hz; omega) | (have hz : v = 2 := (by omega); subst hz; omega) | (have hz : v = 3 := (by omega); subst hz; omega))) ⟨_, rfl, rfl⟩ _ _ dX5_count_158
  by_cases c20 : v = 9
  · refine ri_tabIn (v := 9) (tgt := 159) hx hb dX5_count_1 c20 (by omega) (by decide) (by decide) rfl (by decide) ?_
    refine lv_aload_n hx hb dX5_count_159 rfl (lv_at hl 0 rfl) ?_
    refine ri_get (v := .ref (na 0)) hx hb hts hown w fX5 0 0 (W0_of k_fl_RX5_10 rfl) rfl rfl (by decide) dX5_count_160 ?_
    refine ri_get (v := .ref (na 12)) hx hb hts hown w fX4 1 11 (W0_of k_fl_RX5_137 rfl) rfl rfl (by decide) dX5_count_163 ?_
    refine ri_get (v := .int (iI ((B 0) 11))) hx hb hts hown w fX0 13 1 (W0_of k_fl_RX5_245 rfl) rfl (congrArg (fun z => some (Value.int (iI z))) (hR.sz)) (by decide) dX5_count_166 ?_
    have r21 := hW0.bd 11
    exact hend.2 _ (congrArg (fun z => some (Value.int (iI z))) (show c_count B v = (B 0) 11 from by unfold c_count; first | omega | omega | (have hz : v = 0 := (by omega); subst hz; omega) | (have hz : v = 1 := (by omega); subst hz; omega) | (have hz : v = 2 := (by omega); subst hz; omega) | (have hz : v = 3 := (by omega); subst hz; omega))) ⟨_, rfl, rfl⟩ _ _ dX5_count_169
  by_cases c22 : v = 10
  · refine ri_tabIn (v := 10) (tgt := 170) hx hb dX5_count_1 c22 (by omega) (by decide) (by decide) rfl (by decide) ?_
    refine lv_aload_n hx hb dX5_count_170 rfl (lv_at hl 0 rfl) ?_
    refine ri_get (v := .ref (na 0)) hx hb hts hown w fX5 0 0 (W0_of k_fl_RX5_10 rfl) rfl rfl (by decide) dX5_count_171 ?_
    refine cb_rV (bc := [st_ws g na T]) (br := [[(c0, .inr (5, [.ref (na 0), .ref (be 0), .ref (tr 0), .ref (sn 0), .int (iI (C 0)), .ref (x 0), .ref (o 0), .int (iI (C 1)), .int (iI (C 2)), .int (iI (C 3)), .int (iI (C 4))]))], st_ws g be T1, st_ws g tr T2, st_ws g sn T3, hi_ws g x h K z, or_ws g o P]) (kb := 7) (As := []) (rest := []) hx hb (hml.trans hl.1.symm) hown hts w lk_RX5_246 (t_X4_greatestHundredths l g na _ (B 0) T  (hW0) (hR) ) [1, 0, 2, 3, 4, 5, 6] (by decide) rfl rfl rfl (call_recv w (q0 := 1) rfl fX4.1) rfl rfl (Nat.le_of_ble_eq_true rfl) ⟨Nat.le_of_ble_eq_true rfl, Nat.le_of_ble_eq_true rfl⟩ ⟨Nat.le_of_ble_eq_true rfl, Nat.le_of_ble_eq_true rfl⟩ dX5_count_174 ?_
    have r23 := weakest_rg hW0
    exact hend.2 _ (congrArg (fun z => some (Value.int (iI z))) (show c_count B v = r_weakest (B 0) from by unfold c_count; first | omega | omega | (have hz : v = 0 := (by omega); subst hz; omega) | (have hz : v = 1 := (by omega); subst hz; omega) | (have hz : v = 2 := (by omega); subst hz; omega) | (have hz : v = 3 := (by omega); subst hz; omega))) ⟨_, rfl, rfl⟩ _ _ dX5_count_177
  by_cases c24 : v = 11
  · refine ri_tabIn (v := 11) (tgt := 178) hx hb dX5_count_1 c24 (by omega) (by decide) (by decide) rfl (by decide) ?_
    refine lv_aload_n hx hb dX5_count_178 rfl (lv_at hl 0 rfl) ?_
    refine ri_get (v := .ref (x 0)) hx hb hts hown w fX5 0 5 (W0_of k_fl_RX5_32 rfl) rfl rfl (by decide) dX5_count_179 ?_
    refine ri_get (v := .int (iI z)) hx hb hts hown w fX2 73 1 (W0_of k_fl_RX5_124 rfl) rfl rfl (by decide) dX5_count_182 ?_
    exact hend.2 _ (congrArg (fun z => some (Value.int (iI z))) (show c_count B v = z from by unfold c_count; first | omega | omega | (have hz : v = 0 := (by omega); subst hz; omega) | (have hz : v = 1 := (by omega); subst hz; omega) | (have hz : v = 2 := (by omega); subst hz; omega) | (have hz : v = 3 := (by omega); subst hz; omega))) ⟨_, rfl, rfl⟩ _ _ dX5_count_185
  by_cases c25 : v = 12
  · refine ri_tabIn (v := 12) (tgt := 186) hx hb dX5_count_1 c25 (by omega) (by decide) (by decide) rfl (by decide) ?_
    refine lv_aload_n hx hb dX5_count_186 rfl (lv_at hl 0 rfl) ?_
    refine ri_get (v := .ref (o 0)) hx hb hts hown w fX5 0 6 (W0_of k_fl_RX5_39 rfl) rfl rfl (by decide) dX5_count_187 ?_
    refine ri_get (v := .int (iI (P 5 0))) hx hb hts hown w fX3 147 1 (W0_of k_fl_RX5_249 rfl) rfl rfl (by decide) dX5_count_190 ?_
    exact hend.2 _ (congrArg (fun z => some (Value.int (iI z))) (show c_count B v = P 5 0 from by unfold c_count; first | omega | omega | (have hz : v = 0 := (by omega); subst hz; omega) | (have hz : v = 1 := (by omega); subst hz; omega) | (have hz : v = 2 := (by omega); subst hz; omega) | (have hz : v = 3 := (by omega); subst hz; omega))) ⟨_, rfl, rfl⟩ _ _ dX5_count_193
  refine ri_tabOut (a := v) (tgt := 194) hx hb dX5_count_1 (by omega) (by omega) (by decide) ?_
  refine ri_bipush hx hb dX5_count_194 (by decide) ?_
  exact hend.2 _ (congrArg (fun z => some (Value.int (iI z))) (show c_count B v = -2 from by unfold c_count; first | omega | omega | (have hz : v = 0 := (by omega); subst hz; omega) | (have hz : v = 1 := (by omega); subst hz; omega) | (have hz : v = 2 := (by omega); subst hz; omega) | (have hz : v = 3 := (by omega); subst hz; omega))) ⟨_, rfl, rfl⟩ _ _ dX5_count_196

set_option maxHeartbeats 4000000 in
set_option maxRecDepth 100000 in
theorem t_X5_page (l : Launch) (g : GG) (c0 : Nat) (na : Nat → Nat) (be : Nat → Nat) (tr : Nat → Nat) (sn : Nat → Nat) (x : Nat → Nat) (h : Nat → Nat → Nat) (o : Nat → Nat) (T : Nat → Int → Int) (T1 : Nat → Int → Int) (T2 : Nat → Int → Int) (T3 : Nat → Int → Int) (K : Nat → Nat → Int → Int) (z : Int) (P : Nat → Int → Int) (C : Nat → Int) (N : Int) (B : Nat → Int → Int) (v : Int) (u : Int) (hW : WB N B) (hC : RelC B T T3 K z P C) (h1 : -2147483648 ≤ v ∧ v ≤ 2147483647) (h2 : -2147483648 ≤ u ∧ u ≤ 2147483647) : Met l yX5_page (wm yX5_page cX5_page 4 (some .int)) (rmm 3 0 0) (pR g (List.flatten ([[(c0, .inr (5, [.ref (na 0), .ref (be 0), .ref (tr 0), .ref (sn 0), .int (iI (C 0)), .ref (x 0), .ref (o 0), .int (iI (C 1)), .int (iI (C 2)), .int (iI (C 3)), .int (iI (C 4))]))], st_ws g na T, st_ws g be T1, st_ws g tr T2, st_ws g sn T3, hi_ws g x h K z, or_ws g o P] : List va_W)) [.ref c0, .int (iI v), .int (iI u)]) (qR (some (.int (iI (c_page (B 0) v u))))) 0 0 (fun _ => False) := by
  have hk := hW.k
  have hj := hW.j
  have htl := hW.tl
  have hrf := hW.rf
  have hTx := hW.tx
  have hrr := hW.rr
  have hW0 := hW.1
  have hR := hC.1
  have hrz := hC.zz
  have hc0 := hC.c0
  have hpo := rat_rg (B 0) v
  have he := hW0.he
  have hs := hW0.se
  refine met_r (by decide) (Nat.le_of_ble_eq_true rfl) ?_
  intro p e s m args below meth c Q ls hx hb hml hown hts hl w hend
  have hl : lv_has ls 4 [(0, .ref c0), (1, .int (iI v)), (2, .int (iI u))] := hl
  refine lv_iload_n hx hb dX5_page_0 rfl (lv_at hl 1 rfl) ?_
  refine call_rS (As := [.int (iI v)]) (rest := []) hx hb (hml.trans hl.1.symm) hown hts w lk_RX5_133 (t_X5_isPage l g v (by omega)) [] rfl rfl rfl rfl (Nat.le_of_ble_eq_true rfl) ⟨Nat.le_of_ble_eq_true rfl, Nat.le_of_ble_eq_true rfl⟩ ⟨Nat.le_of_ble_eq_true rfl, Nat.le_of_ble_eq_true rfl⟩ dX5_page_1 ?_
  refine ri_ifb_ne (tgt := 9) hx hb dX5_page_4 (by decide) (fun c1 => ?_) (fun c1 => ?_)
  · refine lv_iload_n hx hb dX5_page_9 rfl (lv_at hl 2 rfl) ?_
    refine ri_if_lt (tgt := 18) hx hb dX5_page_10 (by decide) (by omega) (fun c2 => ?_) (fun c2 => ?_)
    · refine ri_bipush hx hb dX5_page_18 (by decide) ?_
      exact hend.2 _ (congrArg (fun z => some (Value.int (iI z))) (show c_page (B 0) v u = -2 from by unfold c_page; omega)) ⟨_, rfl, rfl⟩ _ _ dX5_page_20
    · refine lv_iload_n hx hb dX5_page_13 rfl (lv_at hl 2 rfl) ?_
      refine ri_iconst hx hb dX5_page_14 ?_
      refine ri_icmp_le (tgt := 21) hx hb dX5_page_15 (by decide) (by omega) (by omega) (fun c3 => ?_) (fun c3 => ?_)
      · refine lv_iload_n hx hb dX5_page_21 rfl (lv_at hl 2 rfl) ?_
        refine ri_iconst hx hb dX5_page_22 ?_
        refine ri_icmp_ne (tgt := 50) hx hb dX5_page_23 (by decide) (by omega) (by omega) (fun c4 => ?_) (fun c4 => ?_)
        · refine lv_iload_n hx hb dX5_page_50 rfl (lv_at hl 2 rfl) ?_
          refine ri_iconst hx hb dX5_page_51 ?_
          refine ri_icmp_ne (tgt := 65) hx hb dX5_page_52 (by decide) (by omega) (by omega) (fun c5 => ?_) (fun c5 => ?_)
          · refine lv_aload_n hx hb dX5_page_65 rfl (lv_at hl 0 rfl) ?_
            refine ri_get (v := .ref (na 0)) hx hb hts hown w fX5 0 0 (W0_of k_fl_RX5_10 rfl) rfl rfl (by decide) dX5_page_66 ?_
            refine lv_iload_n hx hb dX5_page_69 rfl (lv_at hl 1 rfl) ?_
            refine cb_rV (bc := [st_ws g na T]) (br := [[(c0, .inr (5, [.ref (na 0), .ref (be 0), .ref (tr 0), .ref (sn 0), .int (iI (C 0)), .ref (x 0), .ref (o 0), .int (iI (C 1)), .int (iI (C 2)), .int (iI (C 3)), .int (iI (C 4))]))], st_ws g be T1, st_ws g tr T2, st_ws g sn T3, hi_ws g x h K z, or_ws g o P]) (kb := 7) (As := [.int (iI v)]) (rest := []) hx hb (hml.trans hl.1.symm) hown hts w lk_RX5_150 (t_X4_hasPlace l g na _ (B 0) T v (hW0) (hR) (by omega)) [1, 0, 2, 3, 4, 5, 6] (by decide) rfl rfl rfl (call_recv w (q0 := 1) rfl fX4.1) rfl rfl (Nat.le_of_ble_eq_true rfl) ⟨Nat.le_of_ble_eq_true rfl, Nat.le_of_ble_eq_true rfl⟩ ⟨Nat.le_of_ble_eq_true rfl, Nat.le_of_ble_eq_true rfl⟩ dX5_page_70 ?_
            refine ri_ifb_ne (tgt := 79) hx hb dX5_page_73 (by decide) (fun c6 => ?_) (fun c6 => ?_)
            · have hp0 : r_placeOf (B 0) v ≠ -5 := by omega
              have hph := place_hold (F := B 0) (p := v) hp0
              have hpo2 := placeOf_rg (B 0) v
              refine lv_aload_n hx hb dX5_page_79 rfl (lv_at hl 0 rfl) ?_
              refine ri_get (v := .ref (na 0)) hx hb hts hown w fX5 0 0 (W0_of k_fl_RX5_10 rfl) rfl rfl (by decide) dX5_page_80 ?_
              refine ri_get (v := .ref (na 9)) hx hb hts hown w fX4 1 8 (W0_of k_fl_RX5_153 rfl) rfl rfl (by decide) dX5_page_83 ?_
              refine lv_iload_n hx hb dX5_page_86 rfl (lv_at hl 1 rfl) ?_
              refine ri_iald (f := T 9) (v := r_placeOf (B 0) v) hx hb w 10 rfl (by omega) ((hR.pl (by omega) (by omega)).trans (if_neg hp0)) dX5_page_87 (by omega) ?_
              have r7 := placeOf_rg (B 0) v
              refine lv_istore_n (lv' := [(3, .int (iI (r_placeOf (B 0) v))), (0, .ref c0), (1, .int (iI v)), (2, .int (iI u))]) hx hb dX5_page_88 rfl hl (by decide) rfl (fun ls hl => ?_)
              refine lv_iload_n hx hb dX5_page_89 rfl (lv_at hl 3 rfl) ?_
              by_cases c8 : u = 0
              · refine ri_tabIn (v := 0) (tgt := 116) hx hb dX5_page_90 c8 (by omega) (by decide) (by decide) rfl (by decide) ?_
                refine lv_iload_n hx hb dX5_page_116 rfl (lv_at hl 0 rfl) ?_
                exact hend.2 _ (congrArg (fun z => some (Value.int (iI z))) (show c_page (B 0) v u = r_placeOf (B 0) v from by unfold c_page; omega)) ⟨_, rfl, rfl⟩ _ _ dX5_page_117
              by_cases c9 : u = 1
              · refine ri_tabIn (v := 1) (tgt := 118) hx hb dX5_page_90 c9 (by omega) (by decide) (by decide) rfl (by decide) ?_
                refine lv_aload_n hx hb dX5_page_118 rfl (lv_at hl 1 rfl) ?_
                refine ri_get (v := .ref (na 0)) hx hb hts hown w fX5 0 0 (W0_of k_fl_RX5_10 rfl) rfl rfl (by decide) dX5_page_119 ?_
                refine ri_get (v := .ref (na 7)) hx hb hts hown w fX4 1 6 (W0_of k_fl_RX5_156 rfl) rfl rfl (by decide) dX5_page_122 ?_
                refine lv_iload_n hx hb dX5_page_125 rfl (lv_at hl 0 rfl) ?_
                refine ri_iald (f := T 7) (v := (B 0) (3 * r_placeOf (B 0) v + 66)) hx hb w 8 rfl (by omega) ((hR.we (by omega) (by omega)).trans (congrArg _ (by omega))) dX5_page_126 (by omega) ?_
                have r10 := hW0.bd (3 * r_placeOf (B 0) v + 66)
                exact hend.2 _ (congrArg (fun z => some (Value.int (iI z))) (show c_page (B 0) v u = (B 0) (3 * r_placeOf (B 0) v + 66) from by unfold c_page; omega)) ⟨_, rfl, rfl⟩ _ _ dX5_page_127
              by_cases c11 : u = 2
              · refine ri_tabIn (v := 2) (tgt := 128) hx hb dX5_page_90 c11 (by omega) (by decide) (by decide) rfl (by decide) ?_
                refine lv_aload_n hx hb dX5_page_128 rfl (lv_at hl 1 rfl) ?_
                refine ri_get (v := .ref (na 0)) hx hb hts hown w fX5 0 0 (W0_of k_fl_RX5_10 rfl) rfl rfl (by decide) dX5_page_129 ?_
                refine ri_get (v := .int (iI ((B 0) 0))) hx hb hts hown w fX4 1 14 (W0_of k_fl_RX5_130 rfl) rfl (congrArg (fun z => some (Value.int (iI z))) (hR.ti)) (by decide) dX5_page_132 ?_
                have r12 := hW0.bd 0
                refine lv_aload_n hx hb dX5_page_135 rfl (lv_at hl 1 rfl) ?_
                refine ri_get (v := .ref (na 0)) hx hb hts hown w fX5 0 0 (W0_of k_fl_RX5_10 rfl) rfl rfl (by decide) dX5_page_136 ?_
                refine ri_get (v := .ref (na 8)) hx hb hts hown w fX4 1 7 (W0_of k_fl_RX5_159 rfl) rfl rfl (by decide) dX5_page_139 ?_
                refine lv_iload_n hx hb dX5_page_142 rfl (lv_at hl 0 rfl) ?_
                refine ri_iald (f := T 8) (v := (B 0) (3 * r_placeOf (B 0) v + 67)) hx hb w 9 rfl (by omega) ((hR.wr (by omega) (by omega)).trans (congrArg _ (by omega))) dX5_page_143 (by omega) ?_
                have r13 := hW0.bd (3 * r_placeOf (B 0) v + 67)
                refine ri_isub (z := (B 0) 0 - (B 0) (3 * r_placeOf (B 0) v + 67)) hx hb dX5_page_144 rfl ?_
                exact hend.2 _ (congrArg (fun z => some (Value.int (iI z))) (show c_page (B 0) v u = (B 0) 0 - (B 0) (3 * r_placeOf (B 0) v + 67) from by unfold c_page; omega)) ⟨_, rfl, rfl⟩ _ _ dX5_page_145
              refine ri_tabOut (a := u) (tgt := 146) hx hb dX5_page_90 (by omega) (by omega) (by decide) ?_
              refine lv_aload_n hx hb dX5_page_146 rfl (lv_at hl 1 rfl) ?_
              refine ri_get (v := .ref (na 0)) hx hb hts hown w fX5 0 0 (W0_of k_fl_RX5_10 rfl) rfl rfl (by decide) dX5_page_147 ?_
              refine lv_iload_n hx hb dX5_page_150 rfl (lv_at hl 0 rfl) ?_
              refine cb_rV (bc := [st_ws g na T]) (br := [[(c0, .inr (5, [.ref (na 0), .ref (be 0), .ref (tr 0), .ref (sn 0), .int (iI (C 0)), .ref (x 0), .ref (o 0), .int (iI (C 1)), .int (iI (C 2)), .int (iI (C 3)), .int (iI (C 4))]))], st_ws g be T1, st_ws g tr T2, st_ws g sn T3, hi_ws g x h K z, or_ws g o P]) (kb := 7) (As := [.int (iI (r_placeOf (B 0) v))]) (rest := []) hx hb (hml.trans hl.1.symm) hown hts w lk_RX5_162 (t_X4_readsLeft l g na _ (B 0) T (r_placeOf (B 0) v) (hW0) (hR) (by omega) (by omega)) [1, 0, 2, 3, 4, 5, 6] (by decide) rfl rfl rfl (call_recv w (q0 := 1) rfl fX4.1) rfl rfl (Nat.le_of_ble_eq_true rfl) ⟨Nat.le_of_ble_eq_true rfl, Nat.le_of_ble_eq_true rfl⟩ ⟨Nat.le_of_ble_eq_true rfl, Nat.le_of_ble_eq_true rfl⟩ dX5_page_151 ?_
              have r14 := left_rg (B 0) (r_placeOf (B 0) v)
              exact hend.2 _ (congrArg (fun z => some (Value.int (iI z))) (show c_page (B 0) v u = r_left (B 0) (r_placeOf (B 0) v) from by unfold c_page; omega)) ⟨_, rfl, rfl⟩ _ _ dX5_page_154
            · refine ri_bipush hx hb dX5_page_76 (by decide) ?_
              exact hend.2 _ (congrArg (fun z => some (Value.int (iI z))) (show c_page (B 0) v u = -5 from by unfold c_page; omega)) ⟨_, rfl, rfl⟩ _ _ dX5_page_78
          · refine lv_aload_n hx hb dX5_page_55 rfl (lv_at hl 0 rfl) ?_
            refine ri_get (v := .ref (na 0)) hx hb hts hown w fX5 0 0 (W0_of k_fl_RX5_10 rfl) rfl rfl (by decide) dX5_page_56 ?_
            refine ri_get (v := .ref (na 10)) hx hb hts hown w fX4 1 9 (W0_of k_fl_RX5_146 rfl) rfl rfl (by decide) dX5_page_59 ?_
            refine lv_iload_n hx hb dX5_page_62 rfl (lv_at hl 1 rfl) ?_
            refine ri_iald (f := T 10) (v := (B 0) (v + 209)) hx hb w 11 rfl (by omega) ((hR.pr (by omega) (by omega)).trans (congrArg _ (by omega))) dX5_page_63 (by omega) ?_
            have r15 := hW0.bd (v + 209)
            exact hend.2 _ (congrArg (fun z => some (Value.int (iI z))) (show c_page (B 0) v u = (B 0) (v + 209) from by unfold c_page; omega)) ⟨_, rfl, rfl⟩ _ _ dX5_page_64
        · refine lv_aload_n hx hb dX5_page_26 rfl (lv_at hl 0 rfl) ?_
          refine ri_get (v := .ref (na 0)) hx hb hts hown w fX5 0 0 (W0_of k_fl_RX5_10 rfl) rfl rfl (by decide) dX5_page_27 ?_
          refine ri_get (v := .ref (na 12)) hx hb hts hown w fX4 1 11 (W0_of k_fl_RX5_137 rfl) rfl rfl (by decide) dX5_page_30 ?_
          refine lv_iload_n hx hb dX5_page_33 rfl (lv_at hl 1 rfl) ?_
          refine call_rV (As := [.int (iI v)]) (rest := []) hx hb (hml.trans hl.1.symm) hown hts w lk_RX5_141 (t_X0_rankOf l g (na 12) (na 14) _ (B 0) (T 14) (T 23 0) v (hW0) (fun i h0 h1 => hR.bu h0 h1) (hR.sz) (by omega)) [13, 15] rfl rfl (call_recv w (q0 := 13) rfl fX0.1) rfl rfl (Nat.le_of_ble_eq_true rfl) ⟨Nat.le_of_ble_eq_true rfl, Nat.le_of_ble_eq_true rfl⟩ ⟨Nat.le_of_ble_eq_true rfl, Nat.le_of_ble_eq_true rfl⟩ dX5_page_34 ?_
          have r16 := bufA_rg (B 0) v
          refine lv_istore_n (lv' := [(3, .int (iI (r_bufA (B 0) v))), (0, .ref c0), (1, .int (iI v)), (2, .int (iI u))]) hx hb dX5_page_37 rfl hl (by decide) rfl (fun ls hl => ?_)
          refine lv_iload_n hx hb dX5_page_38 rfl (lv_at hl 0 rfl) ?_
          refine ri_iconst hx hb dX5_page_39 ?_
          refine ri_icmp_ne (tgt := 48) hx hb dX5_page_40 (by decide) (by omega) (by omega) (fun c17 => ?_) (fun c17 => ?_)
          · refine lv_iload_n hx hb dX5_page_48 rfl (lv_at hl 0 rfl) ?_
            exact hend.2 _ (congrArg (fun z => some (Value.int (iI z))) (show c_page (B 0) v u = r_bufA (B 0) v from by unfold c_page; omega)) ⟨_, rfl, rfl⟩ _ _ dX5_page_49
          · refine ri_bipush hx hb dX5_page_43 (by decide) ?_
            refine lv_goto (tgt := 49) hx hb dX5_page_45 (by decide) ?_
            exact hend.2 _ (congrArg (fun z => some (Value.int (iI z))) (show c_page (B 0) v u = -5 from by unfold c_page; omega)) ⟨_, rfl, rfl⟩ _ _ dX5_page_49
      · refine ri_bipush hx hb dX5_page_18 (by decide) ?_
        exact hend.2 _ (congrArg (fun z => some (Value.int (iI z))) (show c_page (B 0) v u = -2 from by unfold c_page; omega)) ⟨_, rfl, rfl⟩ _ _ dX5_page_20
  · refine ri_iconst hx hb dX5_page_7 ?_
    exact hend.2 _ (congrArg (fun z => some (Value.int (iI z))) (show c_page (B 0) v u = -1 from by unfold c_page; omega)) ⟨_, rfl, rfl⟩ _ _ dX5_page_8
