set_option maxHeartbeats 4000000 in
set_option maxRecDepth 100000 in
theorem t_X5_isPage (l : Launch) (g : GG) (v : Int) (h1 : -2147483648 ≤ v ∧ v ≤ 2147483647) : Met l yX5_isPage (wm yX5_isPage cX5_isPage 1 (some .boolean)) (rmm 0 0 0) (pR g [] [.int (iI v)]) (qR (some (.int (iI (if 0 ≤ v ∧ v ≤ 23 then 1 else 0))))) 0 0 (fun _ => False) := by
  refine met_r (by decide) (Nat.le_of_ble_eq_true rfl) ?_
  intro p e s m args below meth c Q ls hx hb hml hown hts hl w hend
  have hl : lv_has ls 1 [(0, .int (iI v))] := hl
  refine lv_iload_n hx hb dX5_isPage_0 rfl (lv_at hl 0 rfl) ?_
  refine ri_if_lt (tgt := 14) hx hb dX5_isPage_1 (by decide) (by omega) (fun c1 => ?_) (fun c1 => ?_)
  · refine ri_iconst hx hb dX5_isPage_14 ?_
    exact hend.2 _ (congrArg (fun z => some (Value.int (iI z))) (show (if 0 ≤ v ∧ v ≤ 23 then 1 else 0) = 0 from by omega)) ⟨_, rfl, (nz (by omega))⟩ _ _ dX5_isPage_15
  · refine lv_iload_n hx hb dX5_isPage_4 rfl (lv_at hl 0 rfl) ?_
    refine ri_bipush hx hb dX5_isPage_5 (by decide) ?_
    refine ri_icmp_ge (tgt := 14) hx hb dX5_isPage_7 (by decide) (by omega) (by omega) (fun c2 => ?_) (fun c2 => ?_)
    · refine ri_iconst hx hb dX5_isPage_14 ?_
      exact hend.2 _ (congrArg (fun z => some (Value.int (iI z))) (show (if 0 ≤ v ∧ v ≤ 23 then 1 else 0) = 0 from by omega)) ⟨_, rfl, (nz (by omega))⟩ _ _ dX5_isPage_15
    · refine ri_iconst hx hb dX5_isPage_10 ?_
      refine lv_goto (tgt := 15) hx hb dX5_isPage_11 (by decide) ?_
      exact hend.2 _ (congrArg (fun z => some (Value.int (iI z))) (show (if 0 ≤ v ∧ v ≤ 23 then 1 else 0) = 1 from by omega)) ⟨_, rfl, (nz (by omega))⟩ _ _ dX5_isPage_15

set_option maxHeartbeats 4000000 in
set_option maxRecDepth 100000 in
theorem t_X5_isBlock (l : Launch) (g : GG) (v : Int) (h1 : -2147483648 ≤ v ∧ v ≤ 2147483647) : Met l yX5_isBlock (wm yX5_isBlock cX5_isBlock 1 (some .boolean)) (rmm 0 0 0) (pR g [] [.int (iI v)]) (qR (some (.int (iI (if 0 ≤ v ∧ v ≤ 5 then 1 else 0))))) 0 0 (fun _ => False) := by
  refine met_r (by decide) (Nat.le_of_ble_eq_true rfl) ?_
  intro p e s m args below meth c Q ls hx hb hml hown hts hl w hend
  have hl : lv_has ls 1 [(0, .int (iI v))] := hl
  refine lv_iload_n hx hb dX5_isBlock_0 rfl (lv_at hl 0 rfl) ?_
  refine ri_if_lt (tgt := 14) hx hb dX5_isBlock_1 (by decide) (by omega) (fun c1 => ?_) (fun c1 => ?_)
  · refine ri_iconst hx hb dX5_isBlock_14 ?_
    exact hend.2 _ (congrArg (fun z => some (Value.int (iI z))) (show (if 0 ≤ v ∧ v ≤ 5 then 1 else 0) = 0 from by omega)) ⟨_, rfl, (nz (by omega))⟩ _ _ dX5_isBlock_15
  · refine lv_iload_n hx hb dX5_isBlock_4 rfl (lv_at hl 0 rfl) ?_
    refine ri_bipush hx hb dX5_isBlock_5 (by decide) ?_
    refine ri_icmp_ge (tgt := 14) hx hb dX5_isBlock_7 (by decide) (by omega) (by omega) (fun c2 => ?_) (fun c2 => ?_)
    · refine ri_iconst hx hb dX5_isBlock_14 ?_
      exact hend.2 _ (congrArg (fun z => some (Value.int (iI z))) (show (if 0 ≤ v ∧ v ≤ 5 then 1 else 0) = 0 from by omega)) ⟨_, rfl, (nz (by omega))⟩ _ _ dX5_isBlock_15
    · refine ri_iconst hx hb dX5_isBlock_10 ?_
      refine lv_goto (tgt := 15) hx hb dX5_isBlock_11 (by decide) ?_
      exact hend.2 _ (congrArg (fun z => some (Value.int (iI z))) (show (if 0 ≤ v ∧ v ≤ 5 then 1 else 0) = 1 from by omega)) ⟨_, rfl, (nz (by omega))⟩ _ _ dX5_isBlock_15

set_option maxHeartbeats 4000000 in
set_option maxRecDepth 100000 in
theorem t_X5_isSetting (l : Launch) (g : GG) (v : Int) (h1 : -2147483648 ≤ v ∧ v ≤ 2147483647) : Met l yX5_isSetting (wm yX5_isSetting cX5_isSetting 1 (some .boolean)) (rmm 0 0 0) (pR g [] [.int (iI v)]) (qR (some (.int (iI (if 0 ≤ v ∧ v ≤ 4 then 1 else 0))))) 0 0 (fun _ => False) := by
  refine met_r (by decide) (Nat.le_of_ble_eq_true rfl) ?_
  intro p e s m args below meth c Q ls hx hb hml hown hts hl w hend
  have hl : lv_has ls 1 [(0, .int (iI v))] := hl
  refine lv_iload_n hx hb dX5_isSetting_0 rfl (lv_at hl 0 rfl) ?_
  refine ri_if_lt (tgt := 13) hx hb dX5_isSetting_1 (by decide) (by omega) (fun c1 => ?_) (fun c1 => ?_)
  · refine ri_iconst hx hb dX5_isSetting_13 ?_
    exact hend.2 _ (congrArg (fun z => some (Value.int (iI z))) (show (if 0 ≤ v ∧ v ≤ 4 then 1 else 0) = 0 from by omega)) ⟨_, rfl, (nz (by omega))⟩ _ _ dX5_isSetting_14
  · refine lv_iload_n hx hb dX5_isSetting_4 rfl (lv_at hl 0 rfl) ?_
    refine ri_iconst hx hb dX5_isSetting_5 ?_
    refine ri_icmp_ge (tgt := 13) hx hb dX5_isSetting_6 (by decide) (by omega) (by omega) (fun c2 => ?_) (fun c2 => ?_)
    · refine ri_iconst hx hb dX5_isSetting_13 ?_
      exact hend.2 _ (congrArg (fun z => some (Value.int (iI z))) (show (if 0 ≤ v ∧ v ≤ 4 then 1 else 0) = 0 from by omega)) ⟨_, rfl, (nz (by omega))⟩ _ _ dX5_isSetting_14
    · refine ri_iconst hx hb dX5_isSetting_9 ?_
      refine lv_goto (tgt := 14) hx hb dX5_isSetting_10 (by decide) ?_
      exact hend.2 _ (congrArg (fun z => some (Value.int (iI z))) (show (if 0 ≤ v ∧ v ≤ 4 then 1 else 0) = 1 from by omega)) ⟨_, rfl, (nz (by omega))⟩ _ _ dX5_isSetting_14

set_option maxHeartbeats 4000000 in
set_option maxRecDepth 100000 in
theorem t_X4_bears (l : Launch) (g : GG) (a : Nat → Nat) (N : Int) (F : Int → Int) (T : Nat → Int → Int) (b : Int) (hW : WF N F) (hR : Rel F T) (hb0 : 0 ≤ b ∧ b < 6) : Met l yX4_bears (wm yX4_bears cX4_bears 4 (some .int)) (rmm 0 0 0) (pR g (st_ws g a T) [.ref (a 0), .int (iI b)]) (qR (some (.int (iI (r_bears F b))))) 0 0 (fun _ => False) := by
  have hbl := hW.bl hb0.1 hb0.2
  refine met_r (by decide) (Nat.le_of_ble_eq_true rfl) ?_
  intro p e s m args below meth c Q ls hx hb hml hown hts hl w hend
  have hl : lv_has ls 4 [(0, .ref (a 0)), (1, .int (iI b))] := hl
  refine lv_aload_n hx hb dX4_bears_0 rfl (lv_at hl 0 rfl) ?_
  refine ri_get (v := .ref (a 1)) hx hb hts hown w fX4 0 0 (W0_of k_fl_RX4_9 rfl) rfl rfl (by decide) dX4_bears_1 ?_
  refine lv_iload_n hx hb dX4_bears_4 rfl (lv_at hl 1 rfl) ?_
  refine ri_iald (f := T 1) (v := F (4 * b + 41)) hx hb w 1 rfl (by omega) ((hR.kd (by omega) (by omega)).trans (congrArg _ (by omega))) dX4_bears_5 (by omega) ?_
  have r1 := hW.bd (4 * b + 41)
  refine lv_istore_n (lv' := [(2, .int (iI (F (4 * b + 41)))), (0, .ref (a 0)), (1, .int (iI b))]) hx hb dX4_bears_6 rfl hl (by decide) rfl (fun ls hl => ?_)
  refine lv_iload_n hx hb dX4_bears_7 rfl (lv_at hl 0 rfl) ?_
  refine ri_if_lt (tgt := 16) hx hb dX4_bears_8 (by decide) (by omega) (fun c2 => ?_) (fun c2 => ?_)
  · refine ri_bipush hx hb dX4_bears_16 (by decide) ?_
    exact hend.2 _ (congrArg (fun z => some (Value.int (iI z))) (show r_bears F b = 20 from by rw [bears_stf hW hb0]; unfold r_cut; omega)) ⟨_, rfl, rfl⟩ _ _ dX4_bears_18
  · refine lv_iload_n hx hb dX4_bears_11 rfl (lv_at hl 0 rfl) ?_
    refine ri_iconst hx hb dX4_bears_12 ?_
    refine ri_icmp_le (tgt := 19) hx hb dX4_bears_13 (by decide) (by omega) (by omega) (fun c3 => ?_) (fun c3 => ?_)
    · refine ri_gets (own := RX4) hx hb hown w 4 (by decide) (by simp [NNl, stn]) dX4_bears_19 ?_
      refine lv_iload_n hx hb dX4_bears_22 rfl (lv_at hl 0 rfl) ?_
      refine ri_tld (v := stf 4 (F (4 * b + 41))) hx hb w 4 (by decide) (n := 3) rfl (by omega) (by decide) rfl dX4_bears_23 ?_
      have r4 := stf_rg 4 (F (4 * b + 41))
      refine ri_gets (own := RX4) hx hb hown w 5 (by decide) (by simp [NNl, stn]) dX4_bears_24 ?_
      refine lv_iload_n hx hb dX4_bears_27 rfl (lv_at hl 0 rfl) ?_
      refine ri_tld (v := stf 5 (F (4 * b + 41))) hx hb w 5 (by decide) (n := 3) rfl (by omega) (by decide) rfl dX4_bears_28 ?_
      have r5 := stf_rg 5 (F (4 * b + 41))
      refine lv_aload_n hx hb dX4_bears_29 rfl (lv_at hl 1 rfl) ?_
      refine ri_get (v := .ref (a 2)) hx hb hts hown w fX4 0 1 (W0_of k_fl_RX4_15 rfl) rfl rfl (by decide) dX4_bears_30 ?_
      refine lv_iload_n hx hb dX4_bears_33 rfl (lv_at hl 2 rfl) ?_
      refine ri_iald (f := T 2) (v := F (4 * b + 42)) hx hb w 2 rfl (by omega) ((hR.er (by omega) (by omega)).trans (congrArg _ (by omega))) dX4_bears_34 (by omega) ?_
      have r6 := hW.bd (4 * b + 42)
      refine ri_imul (z := (stf 5 (F (4 * b + 41)) * F (4 * b + 42))) hx hb dX4_bears_35 rfl ?_
      have r7 := stf5_mul (k := F (4 * b + 41)) (e := F (4 * b + 42)) (by omega) (by omega)
      refine ri_isub (z := stf 4 (F (4 * b + 41)) - (stf 5 (F (4 * b + 41)) * F (4 * b + 42))) hx hb dX4_bears_36 rfl ?_
      refine lv_istore_n (lv' := [(3, .int (iI (stf 4 (F (4 * b + 41)) - (stf 5 (F (4 * b + 41)) * F (4 * b + 42))))), (2, .int (iI (F (4 * b + 41)))), (0, .ref (a 0)), (1, .int (iI b))]) hx hb dX4_bears_37 rfl hl (by decide) rfl (fun ls hl => ?_)
      refine lv_iload_n hx hb dX4_bears_38 rfl (lv_at hl 0 rfl) ?_
      refine ri_bipush hx hb dX4_bears_39 (by decide) ?_
      refine ri_icmp_ge (tgt := 49) hx hb dX4_bears_41 (by decide) (by omega) (by omega) (fun c8 => ?_) (fun c8 => ?_)
      · refine lv_iload_n hx hb dX4_bears_49 rfl (lv_at hl 0 rfl) ?_
        exact hend.2 _ (congrArg (fun z => some (Value.int (iI z))) (show r_bears F b = stf 4 (F (4 * b + 41)) - (stf 5 (F (4 * b + 41)) * F (4 * b + 42)) from by rw [bears_stf hW hb0]; unfold r_cut; omega)) ⟨_, rfl, rfl⟩ _ _ dX4_bears_50
      · refine ri_bipush hx hb dX4_bears_44 (by decide) ?_
        refine lv_goto (tgt := 50) hx hb dX4_bears_46 (by decide) ?_
        exact hend.2 _ (congrArg (fun z => some (Value.int (iI z))) (show r_bears F b = 20 from by rw [bears_stf hW hb0]; unfold r_cut; omega)) ⟨_, rfl, rfl⟩ _ _ dX4_bears_50
    · refine ri_bipush hx hb dX4_bears_16 (by decide) ?_
      exact hend.2 _ (congrArg (fun z => some (Value.int (iI z))) (show r_bears F b = 20 from by rw [bears_stf hW hb0]; unfold r_cut; omega)) ⟨_, rfl, rfl⟩ _ _ dX4_bears_18

set_option maxHeartbeats 4000000 in
set_option maxRecDepth 100000 in
theorem t_X4_isFree (l : Launch) (g : GG) (a : Nat → Nat) (N : Int) (F : Int → Int) (T : Nat → Int → Int) (b : Int) (hW : WF N F) (hR : Rel F T) (hb0 : 0 ≤ b ∧ b < 6) : Met l yX4_isFree (wm yX4_isFree cX4_isFree 2 (some .boolean)) (rmm 0 0 0) (pR g (st_ws g a T) [.ref (a 0), .int (iI b)]) (qR (some (.int (iI (if P_free F b then 1 else 0))))) 0 0 (fun _ => False) := by
  refine met_r (by decide) (Nat.le_of_ble_eq_true rfl) ?_
  intro p e s m args below meth c Q ls hx hb hml hown hts hl w hend
  have hl : lv_has ls 2 [(0, .ref (a 0)), (1, .int (iI b))] := hl
  refine lv_aload_n hx hb dX4_isFree_0 rfl (lv_at hl 0 rfl) ?_
  refine ri_get (v := .ref (a 5)) hx hb hts hown w fX4 0 4 (W0_of k_fl_RX4_25 rfl) rfl rfl (by decide) dX4_isFree_1 ?_
  refine lv_iload_n hx hb dX4_isFree_4 rfl (lv_at hl 1 rfl) ?_
  refine ri_iald (f := T 5) (v := 8 - r_cnt F b (-1)) hx hb w 5 rfl (by omega) (hR.us (by omega) (by omega)) dX4_isFree_5 (by omega) ?_
  have r1 := cnt_rg F b (-1)
  refine ri_if_ne (tgt := 21) hx hb dX4_isFree_6 (by decide) (by omega) (fun c2 => ?_) (fun c2 => ?_)
  · refine ri_iconst hx hb dX4_isFree_21 ?_
    exact hend.2 _ (congrArg (fun z => some (Value.int (iI z))) (show (if P_free F b then 1 else 0) = 0 from by omega)) ⟨_, rfl, (nz (by omega))⟩ _ _ dX4_isFree_22
  · refine lv_iload_n hx hb dX4_isFree_9 rfl (lv_at hl 1 rfl) ?_
    refine lv_aload_n hx hb dX4_isFree_10 rfl (lv_at hl 0 rfl) ?_
    refine ri_get (v := .int (iI (r_open F))) hx hb hts hown w fX4 0 13 (W0_of k_fl_RX4_60 rfl) rfl (congrArg (fun z => some (Value.int (iI z))) (hR.op)) (by decide) dX4_isFree_11 ?_
    have r3 := open_rg hW
    refine ri_icmp_eq (tgt := 21) hx hb dX4_isFree_14 (by decide) (by omega) (by omega) (fun c4 => ?_) (fun c4 => ?_)
    · refine ri_iconst hx hb dX4_isFree_21 ?_
      exact hend.2 _ (congrArg (fun z => some (Value.int (iI z))) (show (if P_free F b then 1 else 0) = 0 from by omega)) ⟨_, rfl, (nz (by omega))⟩ _ _ dX4_isFree_22
    · refine ri_iconst hx hb dX4_isFree_17 ?_
      refine lv_goto (tgt := 22) hx hb dX4_isFree_18 (by decide) ?_
      exact hend.2 _ (congrArg (fun z => some (Value.int (iI z))) (show (if P_free F b then 1 else 0) = 1 from by omega)) ⟨_, rfl, (nz (by omega))⟩ _ _ dX4_isFree_22

set_option maxHeartbeats 4000000 in
set_option maxRecDepth 100000 in
theorem t_X4_freeBlocks (l : Launch) (g : GG) (a : Nat → Nat) (N : Int) (F : Int → Int) (T : Nat → Int → Int) (hW : WF N F) (hR : Rel F T) : Met l yX4_freeBlocks (wm yX4_freeBlocks cX4_freeBlocks 3 (some .int)) (rmm 1 0 0) (pR g (st_ws g a T) [.ref (a 0)]) (qR (some (.int (iI (r_frees F))))) 0 0 (fun _ => False) := by
  refine met_r (by decide) (Nat.le_of_ble_eq_true rfl) ?_
  intro p e s m args below meth c Q ls hx hb hml hown hts hl w hend
  have hl : lv_has ls 3 [(0, .ref (a 0))] := hl
  refine ri_iconst hx hb dX4_freeBlocks_0 ?_
  refine lv_istore_n (lv' := [(1, .int (iI 0)), (0, .ref (a 0))]) hx hb dX4_freeBlocks_1 rfl hl (by decide) rfl (fun ls hl => ?_)
  refine ri_iconst hx hb dX4_freeBlocks_2 ?_
  refine lv_istore_n (lv' := [(2, .int (iI 0)), (1, .int (iI 0)), (0, .ref (a 0))]) hx hb dX4_freeBlocks_3 rfl hl (by decide) rfl (fun ls hl => ?_)
  have L4 : ∀ (n : Nat) (xn xk : Int), (xk + n = 6) → (fo n xk xn (s_frees F) = r_frees F) → (0 ≤ xk) → ∀ (ls : Array Slot), lv_has ls 3 [(0, .ref (a 0)), (1, .int (iI xn)), (2, .int (iI xk))] → (∀ (ls : Array Slot), lv_has ls 3 [(1, .int (iI (r_frees F)))] → W p l e (rmm 1 0 0) s m args below meth c s.heap [] 0 0 Q (F0 m 27 ls [])) → W p l e (rmm 1 0 0) s m args below meth c s.heap [] 0 0 Q (F0 m 4 ls []) := by
    intro n
    induction n with
    | zero =>
      intro xn xk hn hX hlo ls hl kk4
      refine lv_iload_n hx hb dX4_freeBlocks_4 rfl (lv_at hl 2 rfl) ?_
      refine ri_bipush hx hb dX4_freeBlocks_5 (by decide) ?_
      refine ri_icmp_ge (tgt := 27) hx hb dX4_freeBlocks_7 (by decide) (by omega) (by omega) (fun c1 => ?_) (fun c1 => ?_)
      · have e0 : xn = r_frees F := hX
        rw [e0] at hl
        exact kk4  ls  (lv_sub hl [1] rfl)
      · exact absurd c1 (by omega)
    | succ n ih4 =>
      intro xn xk hn hX hlo ls hl kk4
      refine lv_iload_n hx hb dX4_freeBlocks_4 rfl (lv_at hl 2 rfl) ?_
      refine ri_bipush hx hb dX4_freeBlocks_5 (by decide) ?_
      refine ri_icmp_ge (tgt := 27) hx hb dX4_freeBlocks_7 (by decide) (by omega) (by omega) (fun c2 => ?_) (fun c2 => ?_)
      · exact absurd c2 (by omega)
      refine lv_aload_n hx hb dX4_freeBlocks_10 rfl (lv_at hl 0 rfl) ?_
      refine lv_iload_n hx hb dX4_freeBlocks_11 rfl (lv_at hl 2 rfl) ?_
      refine call_rV (As := [.int (iI xk)]) (rest := []) hx hb (hml.trans hl.1.symm) hown hts w lk_RX4_101 (t_X4_isFree l g a _ F T xk (hW) (hR) (by omega)) [0, 1, 2, 3, 4, 5, 6, 7, 8, 9, 10, 11, 12, 13, 14, 15, 16, 17] rfl rfl (call_recv w (q0 := 0) rfl fX4.1) rfl rfl (Nat.le_of_ble_eq_true rfl) ⟨Nat.le_of_ble_eq_true rfl, Nat.le_of_ble_eq_true rfl⟩ ⟨Nat.le_of_ble_eq_true rfl, Nat.le_of_ble_eq_true rfl⟩ dX4_freeBlocks_12 ?_
      refine ri_ifb_eq (tgt := 21) hx hb dX4_freeBlocks_15 (by decide) (fun c3 => ?_) (fun c3 => ?_)
      · refine ri_iinc (k := 2) (z := xk + 1) (lv' := [(2, .int (iI (xk + 1))), (0, .ref (a 0)), (1, .int (iI xn))]) hx hb dX4_freeBlocks_21 hl rfl (by omega) (by decide) rfl (fun ls hl => ?_)
        refine lv_goto (tgt := 4) hx hb dX4_freeBlocks_24 (by decide) ?_
        exact ih4 xn (xk + 1)  (by omega) (fo_s hX (by unfold s_frees; first | omega | (simp only [if_neg c3]; try omega))) (by omega) ls (lv_sub hl [1, 2, 0] rfl) kk4
      · refine ri_iinc (k := 1) (z := xn + 1) (lv' := [(1, .int (iI (xn + 1))), (0, .ref (a 0)), (2, .int (iI xk))]) hx hb dX4_freeBlocks_18 hl rfl (by omega) (by decide) rfl (fun ls hl => ?_)
        refine ri_iinc (k := 2) (z := xk + 1) (lv' := [(2, .int (iI (xk + 1))), (1, .int (iI (xn + 1))), (0, .ref (a 0))]) hx hb dX4_freeBlocks_21 hl rfl (by omega) (by decide) rfl (fun ls hl => ?_)
        refine lv_goto (tgt := 4) hx hb dX4_freeBlocks_24 (by decide) ?_
        exact ih4 (xn + 1) (xk + 1)  (by omega) (fo_s hX (by unfold s_frees; first | omega | (simp only [if_pos c3]; try omega))) (by omega) ls (lv_sub hl [2, 1, 0] rfl) kk4
  refine L4 6 0 0  (by omega) (rfl) (by omega) ls (lv_sub hl [2, 1, 0] rfl) (fun ls hl => ?_)
  refine lv_iload_n hx hb dX4_freeBlocks_27 rfl (lv_at hl 0 rfl) ?_
  have r4 := frees_rg F
  exact hend.2 _ rfl ⟨_, rfl, rfl⟩ _ _ dX4_freeBlocks_28

set_option maxHeartbeats 4000000 in
set_option maxRecDepth 100000 in
theorem t_X4_hasPlace (l : Launch) (g : GG) (a : Nat → Nat) (N : Int) (F : Int → Int) (T : Nat → Int → Int) (v : Int) (hW : WF N F) (hR : Rel F T) (h1 : -2147483648 ≤ v ∧ v ≤ 2147483647) : Met l yX4_hasPlace (wm yX4_hasPlace cX4_hasPlace 2 (some .boolean)) (rmm 1 0 0) (pR g (st_ws g a T) [.ref (a 0), .int (iI v)]) (qR (some (.int (iI (if (0 ≤ v ∧ v ≤ 23) ∧ r_placeOf F v ≠ -5 then 1 else 0))))) 0 0 (fun _ => False) := by
  refine met_r (by decide) (Nat.le_of_ble_eq_true rfl) ?_
  intro p e s m args below meth c Q ls hx hb hml hown hts hl w hend
  have hl : lv_has ls 2 [(0, .ref (a 0)), (1, .int (iI v))] := hl
  refine lv_iload_n hx hb dX4_hasPlace_0 rfl (lv_at hl 1 rfl) ?_
  refine call_rN (As := [.int (iI v)]) (rest := []) hx hb (hml.trans hl.1.symm) hown hts w lk_RX4_105 (t_X5_isPage l g v (by omega)) [] rfl rfl rfl rfl (Nat.le_of_ble_eq_true rfl) ⟨Nat.le_of_ble_eq_true rfl, Nat.le_of_ble_eq_true rfl⟩ ⟨Nat.le_of_ble_eq_true rfl, Nat.le_of_ble_eq_true rfl⟩ dX4_hasPlace_1 ?_
  refine ri_ifb_eq (tgt := 31) hx hb dX4_hasPlace_4 (by decide) (fun c1 => ?_) (fun c1 => ?_)
  · refine ri_iconst hx hb dX4_hasPlace_31 ?_
    exact hend.2 _ (congrArg (fun z => some (Value.int (iI z))) (show (if (0 ≤ v ∧ v ≤ 23) ∧ r_placeOf F v ≠ -5 then 1 else 0) = 0 from by omega)) ⟨_, rfl, (nz (by omega))⟩ _ _ dX4_hasPlace_32
  · refine lv_aload_n hx hb dX4_hasPlace_7 rfl (lv_at hl 0 rfl) ?_
    refine ri_get (v := .ref (a 9)) hx hb hts hown w fX4 0 8 (W0_of k_fl_RX4_37 rfl) rfl rfl (by decide) dX4_hasPlace_8 ?_
    refine lv_iload_n hx hb dX4_hasPlace_11 rfl (lv_at hl 1 rfl) ?_
    refine ri_iald (f := T 9) (v := r_at F v) hx hb w 9 rfl (by omega) (hR.pl (by omega) (by omega)) dX4_hasPlace_12 (by omega) ?_
    have r2 := rat_rg F v
    refine ri_if_lt (tgt := 31) hx hb dX4_hasPlace_13 (by decide) (by omega) (fun c3 => ?_) (fun c3 => ?_)
    · refine ri_iconst hx hb dX4_hasPlace_31 ?_
      exact hend.2 _ (congrArg (fun z => some (Value.int (iI z))) (show (if (0 ≤ v ∧ v ≤ 23) ∧ r_placeOf F v ≠ -5 then 1 else 0) = 0 from by omega)) ⟨_, rfl, (nz (by omega))⟩ _ _ dX4_hasPlace_32
    · refine lv_aload_n hx hb dX4_hasPlace_16 rfl (lv_at hl 0 rfl) ?_
      refine ri_get (v := .ref (a 9)) hx hb hts hown w fX4 0 8 (W0_of k_fl_RX4_37 rfl) rfl rfl (by decide) dX4_hasPlace_17 ?_
      refine lv_iload_n hx hb dX4_hasPlace_20 rfl (lv_at hl 1 rfl) ?_
      refine ri_iald (f := T 9) (v := r_at F v) hx hb w 9 rfl (by omega) (hR.pl (by omega) (by omega)) dX4_hasPlace_21 (by omega) ?_
      refine ri_bipush hx hb dX4_hasPlace_22 (by decide) ?_
      refine ri_icmp_ge (tgt := 31) hx hb dX4_hasPlace_24 (by decide) (by omega) (by omega) (fun c4 => ?_) (fun c4 => ?_)
      · refine ri_iconst hx hb dX4_hasPlace_31 ?_
        exact hend.2 _ (congrArg (fun z => some (Value.int (iI z))) (show (if (0 ≤ v ∧ v ≤ 23) ∧ r_placeOf F v ≠ -5 then 1 else 0) = 0 from by omega)) ⟨_, rfl, (nz (by omega))⟩ _ _ dX4_hasPlace_32
      · refine ri_iconst hx hb dX4_hasPlace_27 ?_
        refine lv_goto (tgt := 32) hx hb dX4_hasPlace_28 (by decide) ?_
        exact hend.2 _ (congrArg (fun z => some (Value.int (iI z))) (show (if (0 ≤ v ∧ v ≤ 23) ∧ r_placeOf F v ≠ -5 then 1 else 0) = 1 from by omega)) ⟨_, rfl, (nz (by omega))⟩ _ _ dX4_hasPlace_32

set_option maxHeartbeats 4000000 in
set_option maxRecDepth 100000 in
theorem t_X4_pagesIn (l : Launch) (g : GG) (a : Nat → Nat) (N : Int) (F : Int → Int) (T : Nat → Int → Int) (b : Int) (hW : WF N F) (hR : Rel F T) (hb0 : 0 ≤ b ∧ b < 6) : Met l yX4_pagesIn (wm yX4_pagesIn cX4_pagesIn 5 (some .int)) (rmm 0 0 0) (pR g (st_ws g a T) [.ref (a 0), .int (iI b)]) (qR (some (.int (iI (r_cnt F b 0))))) 0 0 (fun _ => False) := by
  refine met_r (by decide) (Nat.le_of_ble_eq_true rfl) ?_
  intro p e s m args below meth c Q ls hx hb hml hown hts hl w hend
  have hl : lv_has ls 5 [(0, .ref (a 0)), (1, .int (iI b))] := hl
  refine ri_iconst hx hb dX4_pagesIn_0 ?_
  refine lv_istore_n (lv' := [(2, .int (iI 0)), (0, .ref (a 0)), (1, .int (iI b))]) hx hb dX4_pagesIn_1 rfl hl (by decide) rfl (fun ls hl => ?_)
  refine lv_iload_n hx hb dX4_pagesIn_2 rfl (lv_at hl 2 rfl) ?_
  refine ri_bipush hx hb dX4_pagesIn_3 (by decide) ?_
  refine ri_imul (z := 8 * b) hx hb dX4_pagesIn_5 (by omega) ?_
  refine lv_istore_n (lv' := [(3, .int (iI (8 * b))), (2, .int (iI 0)), (0, .ref (a 0)), (1, .int (iI b))]) hx hb dX4_pagesIn_6 rfl hl (by decide) rfl (fun ls hl => ?_)
  refine lv_iload_n hx hb dX4_pagesIn_7 rfl (lv_at hl 0 rfl) ?_
  refine lv_istore (lv' := [(4, .int (iI (8 * b))), (3, .int (iI (8 * b))), (2, .int (iI 0)), (0, .ref (a 0)), (1, .int (iI b))]) hx hb dX4_pagesIn_8 hl (by decide) rfl (fun ls hl => ?_)
  have L10 : ∀ (n : Nat) (xn xk : Int), (xk + n = 8 * b + 8) → (fo n xk xn (s_cnt F 0) = r_cnt F b 0) → (8 * b ≤ xk) → ∀ (ls : Array Slot), lv_has ls 5 [(0, .ref (a 0)), (2, .int (iI xn)), (3, .int (iI (8 * b))), (4, .int (iI xk))] → (∀ (ls : Array Slot), lv_has ls 5 [(2, .int (iI (r_cnt F b 0)))] → W p l e (rmm 0 0 0) s m args below meth c s.heap [] 0 0 Q (F0 m 38 ls [])) → W p l e (rmm 0 0 0) s m args below meth c s.heap [] 0 0 Q (F0 m 10 ls []) := by
    intro n
    induction n with
    | zero =>
      intro xn xk hn hX hlo ls hl kk10
      refine lv_iload hx hb dX4_pagesIn_10 (lv_at hl 3 rfl) ?_
      refine lv_iload_n hx hb dX4_pagesIn_12 rfl (lv_at hl 2 rfl) ?_
      refine ri_bipush hx hb dX4_pagesIn_13 (by decide) ?_
      refine ri_iadd (z := 8 * b + 8) hx hb dX4_pagesIn_15 rfl ?_
      refine ri_icmp_ge (tgt := 38) hx hb dX4_pagesIn_16 (by decide) (by omega) (by omega) (fun c1 => ?_) (fun c1 => ?_)
      · have e0 : xn = r_cnt F b 0 := hX
        rw [e0] at hl
        exact kk10  ls  (lv_sub hl [1] rfl)
      · exact absurd c1 (by omega)
    | succ n ih10 =>
      intro xn xk hn hX hlo ls hl kk10
      refine lv_iload hx hb dX4_pagesIn_10 (lv_at hl 3 rfl) ?_
      refine lv_iload_n hx hb dX4_pagesIn_12 rfl (lv_at hl 2 rfl) ?_
      refine ri_bipush hx hb dX4_pagesIn_13 (by decide) ?_
      refine ri_iadd (z := 8 * b + 8) hx hb dX4_pagesIn_15 rfl ?_
      refine ri_icmp_ge (tgt := 38) hx hb dX4_pagesIn_16 (by decide) (by omega) (by omega) (fun c2 => ?_) (fun c2 => ?_)
      · exact absurd c2 (by omega)
      refine lv_aload_n hx hb dX4_pagesIn_19 rfl (lv_at hl 0 rfl) ?_
      refine ri_get (v := .ref (a 6)) hx hb hts hown w fX4 0 5 (W0_of k_fl_RX4_28 rfl) rfl rfl (by decide) dX4_pagesIn_20 ?_
      refine lv_iload hx hb dX4_pagesIn_23 (lv_at hl 3 rfl) ?_
      refine ri_iald (f := T 6) (v := F (3 * xk + 65)) hx hb w 6 rfl (by omega) ((hR.he (by omega) (by omega)).trans (congrArg _ (by omega))) dX4_pagesIn_25 (by omega) ?_
      have r3 := hW.bd (3 * xk + 65)
      refine ri_if_lt (tgt := 32) hx hb dX4_pagesIn_26 (by decide) (by omega) (fun c4 => ?_) (fun c4 => ?_)
      · refine ri_iinc (k := 3) (z := xk + 1) (lv' := [(4, .int (iI (xk + 1))), (0, .ref (a 0)), (2, .int (iI xn)), (3, .int (iI (8 * b)))]) hx hb dX4_pagesIn_32 hl rfl (by omega) (by decide) rfl (fun ls hl => ?_)
        refine lv_goto (tgt := 10) hx hb dX4_pagesIn_35 (by decide) ?_
        exact ih10 xn (xk + 1)  (by omega) (fo_s hX (by unfold s_cnt; first | omega | omega)) (by omega) ls (lv_sub hl [1, 2, 3, 0] rfl) kk10
      · refine ri_iinc (k := 1) (z := xn + 1) (lv' := [(2, .int (iI (xn + 1))), (0, .ref (a 0)), (3, .int (iI (8 * b))), (4, .int (iI xk))]) hx hb dX4_pagesIn_29 hl rfl (by omega) (by decide) rfl (fun ls hl => ?_)
        refine ri_iinc (k := 3) (z := xk + 1) (lv' := [(4, .int (iI (xk + 1))), (2, .int (iI (xn + 1))), (0, .ref (a 0)), (3, .int (iI (8 * b)))]) hx hb dX4_pagesIn_32 hl rfl (by omega) (by decide) rfl (fun ls hl => ?_)
        refine lv_goto (tgt := 10) hx hb dX4_pagesIn_35 (by decide) ?_
        exact ih10 (xn + 1) (xk + 1)  (by omega) (fo_s hX (by unfold s_cnt; first | omega | omega)) (by omega) ls (lv_sub hl [2, 1, 3, 0] rfl) kk10
  refine L10 8 0 (8 * b)  (by omega) (rfl) (by omega) ls (lv_sub hl [3, 2, 1, 0] rfl) (fun ls hl => ?_)
  refine lv_iload_n hx hb dX4_pagesIn_38 rfl (lv_at hl 0 rfl) ?_
  have r5 := cnt_rg F b 0
  exact hend.2 _ rfl ⟨_, rfl, rfl⟩ _ _ dX4_pagesIn_39

set_option maxHeartbeats 4000000 in
set_option maxRecDepth 100000 in
theorem t_X4_pagesInAll (l : Launch) (g : GG) (a : Nat → Nat) (N : Int) (F : Int → Int) (T : Nat → Int → Int) (hW : WF N F) (hR : Rel F T) : Met l yX4_pagesInAll (wm yX4_pagesInAll cX4_pagesInAll 3 (some .int)) (rmm 1 0 0) (pR g (st_ws g a T) [.ref (a 0)]) (qR (some (.int (iI (r_placed F))))) 0 0 (fun _ => False) := by
  refine met_r (by decide) (Nat.le_of_ble_eq_true rfl) ?_
  intro p e s m args below meth c Q ls hx hb hml hown hts hl w hend
  have hl : lv_has ls 3 [(0, .ref (a 0))] := hl
  refine ri_iconst hx hb dX4_pagesInAll_0 ?_
  refine lv_istore_n (lv' := [(1, .int (iI 0)), (0, .ref (a 0))]) hx hb dX4_pagesInAll_1 rfl hl (by decide) rfl (fun ls hl => ?_)
  refine ri_iconst hx hb dX4_pagesInAll_2 ?_
  refine lv_istore_n (lv' := [(2, .int (iI 0)), (1, .int (iI 0)), (0, .ref (a 0))]) hx hb dX4_pagesInAll_3 rfl hl (by decide) rfl (fun ls hl => ?_)
  have L4 : ∀ (n : Nat) (xn xk : Int), (xk + n = 6) → (fo n xk xn (s_placed F) = r_placed F) → (0 ≤ xk) → ∀ (ls : Array Slot), lv_has ls 3 [(0, .ref (a 0)), (1, .int (iI xn)), (2, .int (iI xk))] → (∀ (ls : Array Slot), lv_has ls 3 [(1, .int (iI (r_placed F)))] → W p l e (rmm 1 0 0) s m args below meth c s.heap [] 0 0 Q (F0 m 24 ls [])) → W p l e (rmm 1 0 0) s m args below meth c s.heap [] 0 0 Q (F0 m 4 ls []) := by
    intro n
    induction n with
    | zero =>
      intro xn xk hn hX hlo ls hl kk4
      refine lv_iload_n hx hb dX4_pagesInAll_4 rfl (lv_at hl 2 rfl) ?_
      refine ri_bipush hx hb dX4_pagesInAll_5 (by decide) ?_
      refine ri_icmp_ge (tgt := 24) hx hb dX4_pagesInAll_7 (by decide) (by omega) (by omega) (fun c1 => ?_) (fun c1 => ?_)
      · have e0 : xn = r_placed F := hX
        rw [e0] at hl
        exact kk4  ls  (lv_sub hl [1] rfl)
      · exact absurd c1 (by omega)
    | succ n ih4 =>
      intro xn xk hn hX hlo ls hl kk4
      refine lv_iload_n hx hb dX4_pagesInAll_4 rfl (lv_at hl 2 rfl) ?_
      refine ri_bipush hx hb dX4_pagesInAll_5 (by decide) ?_
      refine ri_icmp_ge (tgt := 24) hx hb dX4_pagesInAll_7 (by decide) (by omega) (by omega) (fun c2 => ?_) (fun c2 => ?_)
      · exact absurd c2 (by omega)
      refine lv_iload_n hx hb dX4_pagesInAll_10 rfl (lv_at hl 1 rfl) ?_
      refine lv_aload_n hx hb dX4_pagesInAll_11 rfl (lv_at hl 0 rfl) ?_
      refine lv_iload_n hx hb dX4_pagesInAll_12 rfl (lv_at hl 2 rfl) ?_
      refine call_rV (As := [.int (iI xk)]) (rest := [.int (iI xn)]) hx hb (hml.trans hl.1.symm) hown hts w lk_RX4_108 (t_X4_pagesIn l g a _ F T xk (hW) (hR) (by omega)) [0, 1, 2, 3, 4, 5, 6, 7, 8, 9, 10, 11, 12, 13, 14, 15, 16, 17] rfl rfl (call_recv w (q0 := 0) rfl fX4.1) rfl rfl (Nat.le_of_ble_eq_true rfl) ⟨Nat.le_of_ble_eq_true rfl, Nat.le_of_ble_eq_true rfl⟩ ⟨Nat.le_of_ble_eq_true rfl, Nat.le_of_ble_eq_true rfl⟩ dX4_pagesInAll_13 ?_
      have r3 := cnt_rg F xk 0
      refine ri_iadd (z := r_cnt F xk 0 + xn) hx hb dX4_pagesInAll_16 (by omega) ?_
      refine lv_istore_n (lv' := [(1, .int (iI (r_cnt F xk 0 + xn))), (0, .ref (a 0)), (2, .int (iI xk))]) hx hb dX4_pagesInAll_17 rfl hl (by decide) rfl (fun ls hl => ?_)
      refine ri_iinc (k := 2) (z := xk + 1) (lv' := [(2, .int (iI (xk + 1))), (1, .int (iI (r_cnt F xk 0 + xn))), (0, .ref (a 0))]) hx hb dX4_pagesInAll_18 hl rfl (by omega) (by decide) rfl (fun ls hl => ?_)
      refine lv_goto (tgt := 4) hx hb dX4_pagesInAll_21 (by decide) ?_
      exact ih4 (r_cnt F xk 0 + xn) (xk + 1)  (by omega) (fo_s hX (by unfold s_placed; first | omega | omega)) (by omega) ls (lv_sub hl [2, 1, 0] rfl) kk4
  refine L4 6 0 0  (by omega) (rfl) (by omega) ls (lv_sub hl [2, 1, 0] rfl) (fun ls hl => ?_)
  refine lv_iload_n hx hb dX4_pagesInAll_24 rfl (lv_at hl 0 rfl) ?_
  have r4 := placed_rg F
  exact hend.2 _ rfl ⟨_, rfl, rfl⟩ _ _ dX4_pagesInAll_25

set_option maxHeartbeats 4000000 in
set_option maxRecDepth 100000 in
theorem t_X4_greatestOfPages (l : Launch) (g : GG) (a : Nat → Nat) (N : Int) (F : Int → Int) (T : Nat → Int → Int) (b : Int) (hW : WF N F) (hR : Rel F T) (hb0 : 0 ≤ b ∧ b < 6) : Met l yX4_greatestOfPages (wm yX4_greatestOfPages cX4_greatestOfPages 5 (some .int)) (rmm 0 0 0) (pR g (st_ws g a T) [.ref (a 0), .int (iI b)]) (qR (some (.int (iI (r_great F b))))) 0 0 (fun _ => False) := by
  refine met_r (by decide) (Nat.le_of_ble_eq_true rfl) ?_
  intro p e s m args below meth c Q ls hx hb hml hown hts hl w hend
  have hl : lv_has ls 5 [(0, .ref (a 0)), (1, .int (iI b))] := hl
  refine ri_iconst hx hb dX4_greatestOfPages_0 ?_
  refine lv_istore_n (lv' := [(2, .int (iI 0)), (0, .ref (a 0)), (1, .int (iI b))]) hx hb dX4_greatestOfPages_1 rfl hl (by decide) rfl (fun ls hl => ?_)
  refine lv_iload_n hx hb dX4_greatestOfPages_2 rfl (lv_at hl 2 rfl) ?_
  refine ri_bipush hx hb dX4_greatestOfPages_3 (by decide) ?_
  refine ri_imul (z := 8 * b) hx hb dX4_greatestOfPages_5 (by omega) ?_
  refine lv_istore_n (lv' := [(3, .int (iI (8 * b))), (2, .int (iI 0)), (0, .ref (a 0)), (1, .int (iI b))]) hx hb dX4_greatestOfPages_6 rfl hl (by decide) rfl (fun ls hl => ?_)
  refine lv_iload_n hx hb dX4_greatestOfPages_7 rfl (lv_at hl 0 rfl) ?_
  refine lv_istore (lv' := [(4, .int (iI (8 * b))), (3, .int (iI (8 * b))), (2, .int (iI 0)), (0, .ref (a 0)), (1, .int (iI b))]) hx hb dX4_greatestOfPages_8 hl (by decide) rfl (fun ls hl => ?_)
  have L10 : ∀ (n : Nat) (xn xk : Int), (xk + n = 8 * b + 8) → (fo n xk xn (s_great F) = r_great F b) → (8 * b ≤ xk) → (0 ≤ xn ∧ xn ≤ 200000000) → ∀ (ls : Array Slot), lv_has ls 5 [(0, .ref (a 0)), (2, .int (iI xn)), (3, .int (iI (8 * b))), (4, .int (iI xk))] → (∀ (hrx54 : 0 ≤ r_great F b ∧ r_great F b ≤ 200000000) (ls : Array Slot), lv_has ls 5 [(2, .int (iI (r_great F b)))] → W p l e (rmm 0 0 0) s m args below meth c s.heap [] 0 0 Q (F0 m 54 ls [])) → W p l e (rmm 0 0 0) s m args below meth c s.heap [] 0 0 Q (F0 m 10 ls []) := by
    intro n
    induction n with
    | zero =>
      intro xn xk hn hX hlo hrg ls hl kk10
      refine lv_iload hx hb dX4_greatestOfPages_10 (lv_at hl 3 rfl) ?_
      refine lv_iload_n hx hb dX4_greatestOfPages_12 rfl (lv_at hl 2 rfl) ?_
      refine ri_bipush hx hb dX4_greatestOfPages_13 (by decide) ?_
      refine ri_iadd (z := 8 * b + 8) hx hb dX4_greatestOfPages_15 rfl ?_
      refine ri_icmp_ge (tgt := 54) hx hb dX4_greatestOfPages_16 (by decide) (by omega) (by omega) (fun c1 => ?_) (fun c1 => ?_)
      · have e0 : xn = r_great F b := hX
        rw [e0] at hl
        exact kk10 (by have hz : xn = r_great F b := hX; rw [hz] at hrg; exact hrg) ls  (lv_sub hl [1] rfl)
      · exact absurd c1 (by omega)
    | succ n ih10 =>
      intro xn xk hn hX hlo hrg ls hl kk10
      have hp := hW.pl (k := xk) (by omega) (by omega)
      refine lv_iload hx hb dX4_greatestOfPages_10 (lv_at hl 3 rfl) ?_
      refine lv_iload_n hx hb dX4_greatestOfPages_12 rfl (lv_at hl 2 rfl) ?_
      refine ri_bipush hx hb dX4_greatestOfPages_13 (by decide) ?_
      refine ri_iadd (z := 8 * b + 8) hx hb dX4_greatestOfPages_15 rfl ?_
      refine ri_icmp_ge (tgt := 54) hx hb dX4_greatestOfPages_16 (by decide) (by omega) (by omega) (fun c2 => ?_) (fun c2 => ?_)
      · exact absurd c2 (by omega)
      refine lv_aload_n hx hb dX4_greatestOfPages_19 rfl (lv_at hl 0 rfl) ?_
      refine ri_get (v := .ref (a 6)) hx hb hts hown w fX4 0 5 (W0_of k_fl_RX4_28 rfl) rfl rfl (by decide) dX4_greatestOfPages_20 ?_
      refine lv_iload hx hb dX4_greatestOfPages_23 (lv_at hl 3 rfl) ?_
      refine ri_iald (f := T 6) (v := F (3 * xk + 65)) hx hb w 6 rfl (by omega) ((hR.he (by omega) (by omega)).trans (congrArg _ (by omega))) dX4_greatestOfPages_25 (by omega) ?_
      have r3 := hW.bd (3 * xk + 65)
      refine ri_if_lt (tgt := 48) hx hb dX4_greatestOfPages_26 (by decide) (by omega) (fun c4 => ?_) (fun c4 => ?_)
      · refine ri_iinc (k := 3) (z := xk + 1) (lv' := [(4, .int (iI (xk + 1))), (0, .ref (a 0)), (2, .int (iI xn)), (3, .int (iI (8 * b)))]) hx hb dX4_greatestOfPages_48 hl rfl (by omega) (by decide) rfl (fun ls hl => ?_)
        refine lv_goto (tgt := 10) hx hb dX4_greatestOfPages_51 (by decide) ?_
        exact ih10 xn (xk + 1)  (by omega) (fo_s hX (by unfold s_great; first | omega | omega)) (by omega) (by omega) ls (lv_sub hl [1, 2, 3, 0] rfl) kk10
      · refine lv_aload_n hx hb dX4_greatestOfPages_29 rfl (lv_at hl 0 rfl) ?_
        refine ri_get (v := .ref (a 7)) hx hb hts hown w fX4 0 6 (W0_of k_fl_RX4_31 rfl) rfl rfl (by decide) dX4_greatestOfPages_30 ?_
        refine lv_iload hx hb dX4_greatestOfPages_33 (lv_at hl 3 rfl) ?_
        refine ri_iald (f := T 7) (v := F (3 * xk + 66)) hx hb w 7 rfl (by omega) ((hR.we (by omega) (by omega)).trans (congrArg _ (by omega))) dX4_greatestOfPages_35 (by omega) ?_
        have r5 := hW.bd (3 * xk + 66)
        refine lv_iload_n hx hb dX4_greatestOfPages_36 rfl (lv_at hl 1 rfl) ?_
        refine ri_icmp_le (tgt := 48) hx hb dX4_greatestOfPages_37 (by decide) (by omega) (by omega) (fun c6 => ?_) (fun c6 => ?_)
        · refine ri_iinc (k := 3) (z := xk + 1) (lv' := [(4, .int (iI (xk + 1))), (0, .ref (a 0)), (2, .int (iI xn)), (3, .int (iI (8 * b)))]) hx hb dX4_greatestOfPages_48 hl rfl (by omega) (by decide) rfl (fun ls hl => ?_)
          refine lv_goto (tgt := 10) hx hb dX4_greatestOfPages_51 (by decide) ?_
          exact ih10 xn (xk + 1)  (by omega) (fo_s hX (by unfold s_great; first | omega | omega)) (by omega) (by omega) ls (lv_sub hl [1, 2, 3, 0] rfl) kk10
        · refine lv_aload_n hx hb dX4_greatestOfPages_40 rfl (lv_at hl 0 rfl) ?_
          refine ri_get (v := .ref (a 7)) hx hb hts hown w fX4 0 6 (W0_of k_fl_RX4_31 rfl) rfl rfl (by decide) dX4_greatestOfPages_41 ?_
          refine lv_iload hx hb dX4_greatestOfPages_44 (lv_at hl 3 rfl) ?_
          refine ri_iald (f := T 7) (v := F (3 * xk + 66)) hx hb w 7 rfl (by omega) ((hR.we (by omega) (by omega)).trans (congrArg _ (by omega))) dX4_greatestOfPages_46 (by omega) ?_
          refine lv_istore_n (lv' := [(2, .int (iI (F (3 * xk + 66)))), (0, .ref (a 0)), (3, .int (iI (8 * b))), (4, .int (iI xk))]) hx hb dX4_greatestOfPages_47 rfl hl (by decide) rfl (fun ls hl => ?_)
          refine ri_iinc (k := 3) (z := xk + 1) (lv' := [(4, .int (iI (xk + 1))), (2, .int (iI (F (3 * xk + 66)))), (0, .ref (a 0)), (3, .int (iI (8 * b)))]) hx hb dX4_greatestOfPages_48 hl rfl (by omega) (by decide) rfl (fun ls hl => ?_)
          refine lv_goto (tgt := 10) hx hb dX4_greatestOfPages_51 (by decide) ?_
          exact ih10 (F (3 * xk + 66)) (xk + 1)  (by omega) (fo_s hX (by unfold s_great; first | omega | omega)) (by omega) (by omega) ls (lv_sub hl [2, 1, 3, 0] rfl) kk10
  refine L10 8 0 (8 * b)  (by omega) (rfl) (by omega) (by omega) ls (lv_sub hl [3, 2, 1, 0] rfl) (fun hrx54 ls hl => ?_)
  refine lv_iload_n hx hb dX4_greatestOfPages_54 rfl (lv_at hl 0 rfl) ?_
  have r7 := great_rg hW (b := b) (by omega) (by omega)
  exact hend.2 _ rfl ⟨_, rfl, rfl⟩ _ _ dX4_greatestOfPages_55

set_option maxHeartbeats 4000000 in
set_option maxRecDepth 100000 in
theorem t_X4_hundredths (l : Launch) (g : GG) (a : Nat → Nat) (N : Int) (F : Int → Int) (T : Nat → Int → Int) (b : Int) (hW : WF N F) (hR : Rel F T) (hb0 : 0 ≤ b ∧ b < 6) : Met l yX4_hundredths (wm yX4_hundredths cX4_hundredths 2 (some .int)) (rmm 1 0 0) (pR g (st_ws g a T) [.ref (a 0), .int (iI b)]) (qR (some (.int (iI (r_hund F b))))) 0 0 (fun _ => False) := by
  refine met_r (by decide) (Nat.le_of_ble_eq_true rfl) ?_
  intro p e s m args below meth c Q ls hx hb hml hown hts hl w hend
  have hl : lv_has ls 2 [(0, .ref (a 0)), (1, .int (iI b))] := hl
  refine ri_bipush hx hb dX4_hundredths_0 (by decide) ?_
  refine lv_aload_n hx hb dX4_hundredths_2 rfl (lv_at hl 0 rfl) ?_
  refine lv_iload_n hx hb dX4_hundredths_3 rfl (lv_at hl 1 rfl) ?_
  refine call_rV (As := [.int (iI b)]) (rest := [.int (iI 100)]) hx hb (hml.trans hl.1.symm) hown hts w lk_RX4_112 (t_X4_greatestOfPages l g a _ F T b (hW) (hR) (by omega)) [0, 1, 2, 3, 4, 5, 6, 7, 8, 9, 10, 11, 12, 13, 14, 15, 16, 17] rfl rfl (call_recv w (q0 := 0) rfl fX4.1) rfl rfl (Nat.le_of_ble_eq_true rfl) ⟨Nat.le_of_ble_eq_true rfl, Nat.le_of_ble_eq_true rfl⟩ ⟨Nat.le_of_ble_eq_true rfl, Nat.le_of_ble_eq_true rfl⟩ dX4_hundredths_4 ?_
  have r1 := great_rg hW (b := b) (by omega) (by omega)
  refine ri_imul (z := 100 * r_great F b) hx hb dX4_hundredths_7 (by omega) ?_
  refine lv_aload_n hx hb dX4_hundredths_8 rfl (lv_at hl 0 rfl) ?_
  refine lv_iload_n hx hb dX4_hundredths_9 rfl (lv_at hl 1 rfl) ?_
  refine call_rV (As := [.int (iI b)]) (rest := [.int (iI (100 * r_great F b))]) hx hb (hml.trans hl.1.symm) hown hts w lk_RX4_115 (t_X4_bears l g a _ F T b (hW) (hR) (by omega)) [0, 1, 2, 3, 4, 5, 6, 7, 8, 9, 10, 11, 12, 13, 14, 15, 16, 17] rfl rfl (call_recv w (q0 := 0) rfl fX4.1) rfl rfl (Nat.le_of_ble_eq_true rfl) ⟨Nat.le_of_ble_eq_true rfl, Nat.le_of_ble_eq_true rfl⟩ ⟨Nat.le_of_ble_eq_true rfl, Nat.le_of_ble_eq_true rfl⟩ dX4_hundredths_10 ?_
  have r2 := bears_rg hW (b := b) (by omega) (by omega)
  refine ri_idiv (z := ((100 * r_great F b) / r_bears F b)) hx hb dX4_hundredths_13 (by omega) (by omega) rfl ?_
  have r3 := div_rg (a := 100 * r_great F b) (b := r_bears F b) (by omega) (by omega)
  exact hend.2 _ (congrArg (fun z => some (Value.int (iI z))) (show r_hund F b = ((100 * r_great F b) / r_bears F b) from by unfold r_hund; rfl)) ⟨_, rfl, rfl⟩ _ _ dX4_hundredths_14

set_option maxHeartbeats 4000000 in
set_option maxRecDepth 100000 in
theorem t_X4_greatestHundredths (l : Launch) (g : GG) (a : Nat → Nat) (N : Int) (F : Int → Int) (T : Nat → Int → Int) (hW : WF N F) (hR : Rel F T) : Met l yX4_greatestHundredths (wm yX4_greatestHundredths cX4_greatestHundredths 3 (some .int)) (rmm 2 0 0) (pR g (st_ws g a T) [.ref (a 0)]) (qR (some (.int (iI (r_weakest F))))) 0 0 (fun _ => False) := by
  refine met_r (by decide) (Nat.le_of_ble_eq_true rfl) ?_
  intro p e s m args below meth c Q ls hx hb hml hown hts hl w hend
  have hl : lv_has ls 3 [(0, .ref (a 0))] := hl
  refine ri_iconst hx hb dX4_greatestHundredths_0 ?_
  refine lv_istore_n (lv' := [(1, .int (iI 0)), (0, .ref (a 0))]) hx hb dX4_greatestHundredths_1 rfl hl (by decide) rfl (fun ls hl => ?_)
  refine ri_iconst hx hb dX4_greatestHundredths_2 ?_
  refine lv_istore_n (lv' := [(2, .int (iI 0)), (1, .int (iI 0)), (0, .ref (a 0))]) hx hb dX4_greatestHundredths_3 rfl hl (by decide) rfl (fun ls hl => ?_)
  have L4 : ∀ (n : Nat) (xn xk : Int), (xk + n = 6) → (fo n xk xn (s_weak F) = r_weakest F) → (0 ≤ xk) → (0 ≤ xn ∧ xn ≤ 40000) → ∀ (ls : Array Slot), lv_has ls 3 [(0, .ref (a 0)), (1, .int (iI xn)), (2, .int (iI xk))] → (∀ (hrx26 : 0 ≤ r_weakest F ∧ r_weakest F ≤ 40000) (ls : Array Slot), lv_has ls 3 [(1, .int (iI (r_weakest F)))] → W p l e (rmm 2 0 0) s m args below meth c s.heap [] 0 0 Q (F0 m 26 ls [])) → W p l e (rmm 2 0 0) s m args below meth c s.heap [] 0 0 Q (F0 m 4 ls []) := by
    intro n
    induction n with
    | zero =>
      intro xn xk hn hX hlo hrg ls hl kk4
      refine lv_iload_n hx hb dX4_greatestHundredths_4 rfl (lv_at hl 2 rfl) ?_
      refine ri_bipush hx hb dX4_greatestHundredths_5 (by decide) ?_
      refine ri_icmp_ge (tgt := 26) hx hb dX4_greatestHundredths_7 (by decide) (by omega) (by omega) (fun c1 => ?_) (fun c1 => ?_)
      · have e0 : xn = r_weakest F := hX
        rw [e0] at hl
        exact kk4 (by have hz : xn = r_weakest F := hX; rw [hz] at hrg; exact hrg) ls  (lv_sub hl [1] rfl)
      · exact absurd c1 (by omega)
    | succ n ih4 =>
      intro xn xk hn hX hlo hrg ls hl kk4
      refine lv_iload_n hx hb dX4_greatestHundredths_4 rfl (lv_at hl 2 rfl) ?_
      refine ri_bipush hx hb dX4_greatestHundredths_5 (by decide) ?_
      refine ri_icmp_ge (tgt := 26) hx hb dX4_greatestHundredths_7 (by decide) (by omega) (by omega) (fun c2 => ?_) (fun c2 => ?_)
      · exact absurd c2 (by omega)
      refine lv_iload_n hx hb dX4_greatestHundredths_10 rfl (lv_at hl 1 rfl) ?_
      refine lv_aload_n hx hb dX4_greatestHundredths_11 rfl (lv_at hl 0 rfl) ?_
      refine lv_iload_n hx hb dX4_greatestHundredths_12 rfl (lv_at hl 2 rfl) ?_
      refine call_rV (As := [.int (iI xk)]) (rest := [.int (iI xn)]) hx hb (hml.trans hl.1.symm) hown hts w lk_RX4_118 (t_X4_hundredths l g a _ F T xk (hW) (hR) (by omega)) [0, 1, 2, 3, 4, 5, 6, 7, 8, 9, 10, 11, 12, 13, 14, 15, 16, 17] rfl rfl (call_recv w (q0 := 0) rfl fX4.1) rfl rfl (Nat.le_of_ble_eq_true rfl) ⟨Nat.le_of_ble_eq_true rfl, Nat.le_of_ble_eq_true rfl⟩ ⟨Nat.le_of_ble_eq_true rfl, Nat.le_of_ble_eq_true rfl⟩ dX4_greatestHundredths_13 ?_
      have r3 := hund_rg hW (b := xk) (by omega) (by omega)
      refine ri_max (z := (if xn < r_hund F xk then r_hund F xk else xn)) hx hb (hml.trans hl.1.symm) hown hts m_RX4_121 ⟨Nat.le_of_ble_eq_true rfl, Nat.le_of_ble_eq_true rfl, Nat.le_of_ble_eq_true rfl, Nat.le_of_ble_eq_true rfl⟩ (by omega) (by omega) rfl dX4_greatestHundredths_16 ?_
      refine lv_istore_n (lv' := [(1, .int (iI (if xn < r_hund F xk then r_hund F xk else xn))), (0, .ref (a 0)), (2, .int (iI xk))]) hx hb dX4_greatestHundredths_19 rfl hl (by decide) rfl (fun ls hl => ?_)
      refine ri_iinc (k := 2) (z := xk + 1) (lv' := [(2, .int (iI (xk + 1))), (1, .int (iI (if xn < r_hund F xk then r_hund F xk else xn))), (0, .ref (a 0))]) hx hb dX4_greatestHundredths_20 hl rfl (by omega) (by decide) rfl (fun ls hl => ?_)
      refine lv_goto (tgt := 4) hx hb dX4_greatestHundredths_23 (by decide) ?_
      exact ih4 (if xn < r_hund F xk then r_hund F xk else xn) (xk + 1)  (by omega) (fo_s hX (by unfold s_weak; first | omega | omega)) (by omega) (by omega) ls (lv_sub hl [2, 1, 0] rfl) kk4
  refine L4 6 0 0  (by omega) (rfl) (by omega) (by omega) ls (lv_sub hl [2, 1, 0] rfl) (fun hrx26 ls hl => ?_)
  refine lv_iload_n hx hb dX4_greatestHundredths_26 rfl (lv_at hl 0 rfl) ?_
  have r4 := weakest_rg hW
  exact hend.2 _ rfl ⟨_, rfl, rfl⟩ _ _ dX4_greatestHundredths_27

set_option maxHeartbeats 4000000 in
set_option maxRecDepth 100000 in
theorem t_X4_isOld (l : Launch) (g : GG) (a : Nat → Nat) (N : Int) (F : Int → Int) (T : Nat → Int → Int) (b : Int) (hW : WF N F) (hR : Rel F T) (hb0 : 0 ≤ b ∧ b < 6) : Met l yX4_isOld (wm yX4_isOld cX4_isOld 4 (some .boolean)) (rmm 0 0 0) (pR g (st_ws g a T) [.ref (a 0), .int (iI b)]) (qR (some (.int (iI (if r_old F b = true then 1 else 0))))) 0 0 (fun _ => False) := by
  have hs := hW.se
  refine met_r (by decide) (Nat.le_of_ble_eq_true rfl) ?_
  intro p e s m args below meth c Q ls hx hb hml hown hts hl w hend
  have hl : lv_has ls 4 [(0, .ref (a 0)), (1, .int (iI b))] := hl
  refine lv_iload_n hx hb dX4_isOld_0 rfl (lv_at hl 1 rfl) ?_
  refine ri_bipush hx hb dX4_isOld_1 (by decide) ?_
  refine ri_imul (z := 8 * b) hx hb dX4_isOld_3 (by omega) ?_
  refine lv_istore_n (lv' := [(2, .int (iI (8 * b))), (0, .ref (a 0)), (1, .int (iI b))]) hx hb dX4_isOld_4 rfl hl (by decide) rfl (fun ls hl => ?_)
  refine lv_iload_n hx hb dX4_isOld_5 rfl (lv_at hl 0 rfl) ?_
  refine lv_istore_n (lv' := [(3, .int (iI (8 * b))), (2, .int (iI (8 * b))), (0, .ref (a 0)), (1, .int (iI b))]) hx hb dX4_isOld_6 rfl hl (by decide) rfl (fun ls hl => ?_)
  have L7 : ∀ (n : Nat) (xk : Int), (xk + n = 8 * b + 8) → (an n xk (p_old F) = r_old F b) → (8 * b ≤ xk) → ∀ (ls : Array Slot), lv_has ls 4 [(0, .ref (a 0)), (2, .int (iI (8 * b))), (3, .int (iI xk))] → (∀ (hZ : ¬ r_old F b = true) (ls : Array Slot), lv_has ls 4 [] → W p l e (rmm 0 0 0) s m args below meth c s.heap [] 0 0 Q (F0 m 52 ls [])) → W p l e (rmm 0 0 0) s m args below meth c s.heap [] 0 0 Q (F0 m 7 ls []) := by
    intro n
    induction n with
    | zero =>
      intro xk hn hX hlo ls hl kk7
      refine lv_iload_n hx hb dX4_isOld_7 rfl (lv_at hl 2 rfl) ?_
      refine lv_iload_n hx hb dX4_isOld_8 rfl (lv_at hl 1 rfl) ?_
      refine ri_bipush hx hb dX4_isOld_9 (by decide) ?_
      refine ri_iadd (z := 8 * b + 8) hx hb dX4_isOld_11 rfl ?_
      refine ri_icmp_ge (tgt := 52) hx hb dX4_isOld_12 (by decide) (by omega) (by omega) (fun c1 => ?_) (fun c1 => ?_)
      · exact kk7 (by rw [← hX]; simp [an]) ls  (lv_sub hl [] rfl)
      · exact absurd c1 (by omega)
    | succ n ih7 =>
      intro xk hn hX hlo ls hl kk7
      refine lv_iload_n hx hb dX4_isOld_7 rfl (lv_at hl 2 rfl) ?_
      refine lv_iload_n hx hb dX4_isOld_8 rfl (lv_at hl 1 rfl) ?_
      refine ri_bipush hx hb dX4_isOld_9 (by decide) ?_
      refine ri_iadd (z := 8 * b + 8) hx hb dX4_isOld_11 rfl ?_
      refine ri_icmp_ge (tgt := 52) hx hb dX4_isOld_12 (by decide) (by omega) (by omega) (fun c2 => ?_) (fun c2 => ?_)
      · exact absurd c2 (by omega)
      refine lv_aload_n hx hb dX4_isOld_15 rfl (lv_at hl 0 rfl) ?_
      refine ri_get (v := .ref (a 6)) hx hb hts hown w fX4 0 5 (W0_of k_fl_RX4_28 rfl) rfl rfl (by decide) dX4_isOld_16 ?_
      refine lv_iload_n hx hb dX4_isOld_19 rfl (lv_at hl 2 rfl) ?_
      refine ri_iald (f := T 6) (v := F (3 * xk + 65)) hx hb w 6 rfl (by omega) ((hR.he (by omega) (by omega)).trans (congrArg _ (by omega))) dX4_isOld_20 (by omega) ?_
      have r3 := hW.bd (3 * xk + 65)
      refine ri_if_lt (tgt := 46) hx hb dX4_isOld_21 (by decide) (by omega) (fun c4 => ?_) (fun c4 => ?_)
      · refine ri_iinc (k := 2) (z := xk + 1) (lv' := [(3, .int (iI (xk + 1))), (0, .ref (a 0)), (2, .int (iI (8 * b)))]) hx hb dX4_isOld_46 hl rfl (by omega) (by decide) rfl (fun ls hl => ?_)
        refine lv_goto (tgt := 7) hx hb dX4_isOld_49 (by decide) ?_
        exact ih7 (xk + 1)  (by omega) (an_f hX (by simp only [p_old, decide_eq_true_eq]; omega)) (by omega) ls (lv_sub hl [1, 2, 0] rfl) kk7
      · refine lv_aload_n hx hb dX4_isOld_24 rfl (lv_at hl 0 rfl) ?_
        refine ri_get (v := .int (iI (F 0))) hx hb hts hown w fX4 0 14 (W0_of k_fl_RX4_64 rfl) rfl (congrArg (fun z => some (Value.int (iI z))) (hR.ti)) (by decide) dX4_isOld_25 ?_
        have r5 := hW.bd 0
        refine lv_aload_n hx hb dX4_isOld_28 rfl (lv_at hl 0 rfl) ?_
        refine ri_get (v := .ref (a 8)) hx hb hts hown w fX4 0 7 (W0_of k_fl_RX4_34 rfl) rfl rfl (by decide) dX4_isOld_29 ?_
        refine lv_iload_n hx hb dX4_isOld_32 rfl (lv_at hl 2 rfl) ?_
        refine ri_iald (f := T 8) (v := F (3 * xk + 67)) hx hb w 8 rfl (by omega) ((hR.wr (by omega) (by omega)).trans (congrArg _ (by omega))) dX4_isOld_33 (by omega) ?_
        have r6 := hW.bd (3 * xk + 67)
        refine ri_isub (z := F 0 - F (3 * xk + 67)) hx hb dX4_isOld_34 rfl ?_
        refine lv_aload_n hx hb dX4_isOld_35 rfl (lv_at hl 0 rfl) ?_
        refine ri_get (v := .ref (a 11)) hx hb hts hown w fX4 0 10 (W0_of k_fl_RX4_43 rfl) rfl rfl (by decide) dX4_isOld_36 ?_
        refine ri_iconst hx hb dX4_isOld_39 ?_
        refine ri_iald (f := T 11) (v := F 2) hx hb w 11 rfl (by omega) ((hR.se (by omega) (by omega)).trans (congrArg _ (by omega))) dX4_isOld_40 (by omega) ?_
        have r7 := hW.bd 2
        refine ri_icmp_lt (tgt := 46) hx hb dX4_isOld_41 (by decide) (by omega) (by omega) (fun c8 => ?_) (fun c8 => ?_)
        · refine ri_iinc (k := 2) (z := xk + 1) (lv' := [(3, .int (iI (xk + 1))), (0, .ref (a 0)), (2, .int (iI (8 * b)))]) hx hb dX4_isOld_46 hl rfl (by omega) (by decide) rfl (fun ls hl => ?_)
          refine lv_goto (tgt := 7) hx hb dX4_isOld_49 (by decide) ?_
          exact ih7 (xk + 1)  (by omega) (an_f hX (by simp only [p_old, decide_eq_true_eq]; omega)) (by omega) ls (lv_sub hl [1, 2, 0] rfl) kk7
        · refine ri_iconst hx hb dX4_isOld_44 ?_
          exact hend.2 _ (congrArg (fun z => some (Value.int (iI z))) (show (if r_old F b = true then 1 else 0) = 1 from by exact if_pos (an_t hX (by simp only [p_old, decide_eq_true_eq]; omega)))) ⟨_, rfl, (nz (by omega))⟩ _ _ dX4_isOld_45
  refine L7 8 (8 * b)  (by omega) (rfl) (by omega) ls (lv_sub hl [2, 1, 0] rfl) (fun hZ ls hl => ?_)
  refine ri_iconst hx hb dX4_isOld_52 ?_
  exact hend.2 _ (congrArg (fun z => some (Value.int (iI z))) (show (if r_old F b = true then 1 else 0) = 0 from by exact if_neg hZ)) ⟨_, rfl, (nz (by omega))⟩ _ _ dX4_isOld_53

set_option maxHeartbeats 4000000 in
set_option maxRecDepth 100000 in
theorem t_X4_isMarked (l : Launch) (g : GG) (a : Nat → Nat) (N : Int) (F : Int → Int) (T : Nat → Int → Int) (b : Int) (hW : WF N F) (hR : Rel F T) (hb0 : 0 ≤ b ∧ b < 6) : Met l yX4_isMarked (wm yX4_isMarked cX4_isMarked 2 (some .boolean)) (rmm 1 0 0) (pR g (st_ws g a T) [.ref (a 0), .int (iI b)]) (qR (some (.int (iI (if P_marked F b then 1 else 0))))) 0 0 (fun _ => False) := by
  have hs := hW.se
  have hmi := marked_iff hW hb0
  have hbl := hW.bl hb0.1 hb0.2
  refine met_r (by decide) (Nat.le_of_ble_eq_true rfl) ?_
  intro p e s m args below meth c Q ls hx hb hml hown hts hl w hend
  have hl : lv_has ls 2 [(0, .ref (a 0)), (1, .int (iI b))] := hl
  refine lv_aload_n hx hb dX4_isMarked_0 rfl (lv_at hl 0 rfl) ?_
  refine ri_get (v := .ref (a 3)) hx hb hts hown w fX4 0 2 (W0_of k_fl_RX4_18 rfl) rfl rfl (by decide) dX4_isMarked_1 ?_
  refine lv_iload_n hx hb dX4_isMarked_4 rfl (lv_at hl 1 rfl) ?_
  refine ri_zald (f := T 3) (v := F (4 * b + 43)) hx hb w 3 rfl (by omega) ((hR.ca (by omega) (by omega)).trans (congrArg _ (by omega))) dX4_isMarked_5 (by omega) ?_
  have r1 := hW.bd (4 * b + 43)
  refine ri_if_ne (tgt := 40) hx hb dX4_isMarked_6 (by decide) (by omega) (fun c2 => ?_) (fun c2 => ?_)
  · refine ri_iconst hx hb dX4_isMarked_40 ?_
    refine lv_goto (tgt := 45) hx hb dX4_isMarked_41 (by decide) ?_
    exact hend.2 _ (congrArg (fun z => some (Value.int (iI z))) (show (if P_marked F b then 1 else 0) = 1 from by exact if_pos (hmi.mpr (by first | exact Or.inl (by omega) | exact Or.inr (Or.inl (by assumption)) | exact Or.inr (Or.inr (by omega)))))) ⟨_, rfl, (nz (by omega))⟩ _ _ dX4_isMarked_45
  · refine lv_aload_n hx hb dX4_isMarked_9 rfl (lv_at hl 0 rfl) ?_
    refine lv_iload_n hx hb dX4_isMarked_10 rfl (lv_at hl 1 rfl) ?_
    refine call_rV (As := [.int (iI b)]) (rest := []) hx hb (hml.trans hl.1.symm) hown hts w lk_RX4_127 (t_X4_isOld l g a _ F T b (hW) (hR) (by omega)) [0, 1, 2, 3, 4, 5, 6, 7, 8, 9, 10, 11, 12, 13, 14, 15, 16, 17] rfl rfl (call_recv w (q0 := 0) rfl fX4.1) rfl rfl (Nat.le_of_ble_eq_true rfl) ⟨Nat.le_of_ble_eq_true rfl, Nat.le_of_ble_eq_true rfl⟩ ⟨Nat.le_of_ble_eq_true rfl, Nat.le_of_ble_eq_true rfl⟩ dX4_isMarked_11 ?_
    refine ri_ifb_ne (tgt := 40) hx hb dX4_isMarked_14 (by decide) (fun c3 => ?_) (fun c3 => ?_)
    · refine ri_iconst hx hb dX4_isMarked_40 ?_
      refine lv_goto (tgt := 45) hx hb dX4_isMarked_41 (by decide) ?_
      exact hend.2 _ (congrArg (fun z => some (Value.int (iI z))) (show (if P_marked F b then 1 else 0) = 1 from by exact if_pos (hmi.mpr (by first | exact Or.inl (by omega) | exact Or.inr (Or.inl (by assumption)) | exact Or.inr (Or.inr (by omega)))))) ⟨_, rfl, (nz (by omega))⟩ _ _ dX4_isMarked_45
    · refine ri_bipush hx hb dX4_isMarked_17 (by decide) ?_
      refine lv_aload_n hx hb dX4_isMarked_19 rfl (lv_at hl 0 rfl) ?_
      refine lv_iload_n hx hb dX4_isMarked_20 rfl (lv_at hl 1 rfl) ?_
      refine call_rV (As := [.int (iI b)]) (rest := [.int (iI 100)]) hx hb (hml.trans hl.1.symm) hown hts w lk_RX4_112 (t_X4_greatestOfPages l g a _ F T b (hW) (hR) (by omega)) [0, 1, 2, 3, 4, 5, 6, 7, 8, 9, 10, 11, 12, 13, 14, 15, 16, 17] rfl rfl (call_recv w (q0 := 0) rfl fX4.1) rfl rfl (Nat.le_of_ble_eq_true rfl) ⟨Nat.le_of_ble_eq_true rfl, Nat.le_of_ble_eq_true rfl⟩ ⟨Nat.le_of_ble_eq_true rfl, Nat.le_of_ble_eq_true rfl⟩ dX4_isMarked_21 ?_
      have r4 := great_rg hW (b := b) (by omega) (by omega)
      refine ri_imul (z := 100 * r_great F b) hx hb dX4_isMarked_24 (by omega) ?_
      refine lv_aload_n hx hb dX4_isMarked_25 rfl (lv_at hl 0 rfl) ?_
      refine ri_get (v := .ref (a 11)) hx hb hts hown w fX4 0 10 (W0_of k_fl_RX4_43 rfl) rfl rfl (by decide) dX4_isMarked_26 ?_
      refine ri_iconst hx hb dX4_isMarked_29 ?_
      refine ri_iald (f := T 11) (v := F 1) hx hb w 11 rfl (by omega) ((hR.se (by omega) (by omega)).trans (congrArg _ (by omega))) dX4_isMarked_30 (by omega) ?_
      have r5 := hW.bd 1
      refine lv_aload_n hx hb dX4_isMarked_31 rfl (lv_at hl 0 rfl) ?_
      refine lv_iload_n hx hb dX4_isMarked_32 rfl (lv_at hl 1 rfl) ?_
      refine call_rV (As := [.int (iI b)]) (rest := [.int (iI (F 1)), .int (iI (100 * r_great F b))]) hx hb (hml.trans hl.1.symm) hown hts w lk_RX4_115 (t_X4_bears l g a _ F T b (hW) (hR) (by omega)) [0, 1, 2, 3, 4, 5, 6, 7, 8, 9, 10, 11, 12, 13, 14, 15, 16, 17] rfl rfl (call_recv w (q0 := 0) rfl fX4.1) rfl rfl (Nat.le_of_ble_eq_true rfl) ⟨Nat.le_of_ble_eq_true rfl, Nat.le_of_ble_eq_true rfl⟩ ⟨Nat.le_of_ble_eq_true rfl, Nat.le_of_ble_eq_true rfl⟩ dX4_isMarked_33 ?_
      have r6 := bears_rg hW (b := b) (by omega) (by omega)
      refine ri_imul (z := (F 1 * r_bears F b)) hx hb dX4_isMarked_36 rfl ?_
      have r7 := mul_rg (a := F 1) (b := r_bears F b) (by omega) (by omega)
      refine ri_icmp_lt (tgt := 44) hx hb dX4_isMarked_37 (by decide) (by omega) (by omega) (fun c8 => ?_) (fun c8 => ?_)
      · refine ri_iconst hx hb dX4_isMarked_44 ?_
        exact hend.2 _ (congrArg (fun z => some (Value.int (iI z))) (show (if P_marked F b then 1 else 0) = 0 from by exact if_neg (fun hq => by rcases hmi.mp hq with h1 | h1 | h1; omega; exact absurd h1 (by assumption); omega))) ⟨_, rfl, (nz (by omega))⟩ _ _ dX4_isMarked_45
      · refine ri_iconst hx hb dX4_isMarked_40 ?_
        refine lv_goto (tgt := 45) hx hb dX4_isMarked_41 (by decide) ?_
        exact hend.2 _ (congrArg (fun z => some (Value.int (iI z))) (show (if P_marked F b then 1 else 0) = 1 from by exact if_pos (hmi.mpr (by first | exact Or.inl (by omega) | exact Or.inr (Or.inl (by assumption)) | exact Or.inr (Or.inr (by omega)))))) ⟨_, rfl, (nz (by omega))⟩ _ _ dX4_isMarked_45

set_option maxHeartbeats 4000000 in
set_option maxRecDepth 100000 in
theorem t_X4_markedBlocks (l : Launch) (g : GG) (a : Nat → Nat) (N : Int) (F : Int → Int) (T : Nat → Int → Int) (hW : WF N F) (hR : Rel F T) : Met l yX4_markedBlocks (wm yX4_markedBlocks cX4_markedBlocks 3 (some .int)) (rmm 2 0 0) (pR g (st_ws g a T) [.ref (a 0)]) (qR (some (.int (iI (r_marks F))))) 0 0 (fun _ => False) := by
  refine met_r (by decide) (Nat.le_of_ble_eq_true rfl) ?_
  intro p e s m args below meth c Q ls hx hb hml hown hts hl w hend
  have hl : lv_has ls 3 [(0, .ref (a 0))] := hl
  refine ri_iconst hx hb dX4_markedBlocks_0 ?_
  refine lv_istore_n (lv' := [(1, .int (iI 0)), (0, .ref (a 0))]) hx hb dX4_markedBlocks_1 rfl hl (by decide) rfl (fun ls hl => ?_)
  refine ri_iconst hx hb dX4_markedBlocks_2 ?_
  refine lv_istore_n (lv' := [(2, .int (iI 0)), (1, .int (iI 0)), (0, .ref (a 0))]) hx hb dX4_markedBlocks_3 rfl hl (by decide) rfl (fun ls hl => ?_)
  have L4 : ∀ (n : Nat) (xn xk : Int), (xk + n = 6) → (fo n xk xn (s_marks F) = r_marks F) → (0 ≤ xk) → ∀ (ls : Array Slot), lv_has ls 3 [(0, .ref (a 0)), (1, .int (iI xn)), (2, .int (iI xk))] → (∀ (ls : Array Slot), lv_has ls 3 [(1, .int (iI (r_marks F)))] → W p l e (rmm 2 0 0) s m args below meth c s.heap [] 0 0 Q (F0 m 27 ls [])) → W p l e (rmm 2 0 0) s m args below meth c s.heap [] 0 0 Q (F0 m 4 ls []) := by
    intro n
    induction n with
    | zero =>
      intro xn xk hn hX hlo ls hl kk4
      refine lv_iload_n hx hb dX4_markedBlocks_4 rfl (lv_at hl 2 rfl) ?_
      refine ri_bipush hx hb dX4_markedBlocks_5 (by decide) ?_
      refine ri_icmp_ge (tgt := 27) hx hb dX4_markedBlocks_7 (by decide) (by omega) (by omega) (fun c1 => ?_) (fun c1 => ?_)
      · have e0 : xn = r_marks F := hX
        rw [e0] at hl
        exact kk4  ls  (lv_sub hl [1] rfl)
      · exact absurd c1 (by omega)
    | succ n ih4 =>
      intro xn xk hn hX hlo ls hl kk4
      refine lv_iload_n hx hb dX4_markedBlocks_4 rfl (lv_at hl 2 rfl) ?_
      refine ri_bipush hx hb dX4_markedBlocks_5 (by decide) ?_
      refine ri_icmp_ge (tgt := 27) hx hb dX4_markedBlocks_7 (by decide) (by omega) (by omega) (fun c2 => ?_) (fun c2 => ?_)
      · exact absurd c2 (by omega)
      refine lv_aload_n hx hb dX4_markedBlocks_10 rfl (lv_at hl 0 rfl) ?_
      refine lv_iload_n hx hb dX4_markedBlocks_11 rfl (lv_at hl 2 rfl) ?_
      refine call_rV (As := [.int (iI xk)]) (rest := []) hx hb (hml.trans hl.1.symm) hown hts w lk_RX4_130 (t_X4_isMarked l g a _ F T xk (hW) (hR) (by omega)) [0, 1, 2, 3, 4, 5, 6, 7, 8, 9, 10, 11, 12, 13, 14, 15, 16, 17] rfl rfl (call_recv w (q0 := 0) rfl fX4.1) rfl rfl (Nat.le_of_ble_eq_true rfl) ⟨Nat.le_of_ble_eq_true rfl, Nat.le_of_ble_eq_true rfl⟩ ⟨Nat.le_of_ble_eq_true rfl, Nat.le_of_ble_eq_true rfl⟩ dX4_markedBlocks_12 ?_
      refine ri_ifb_eq (tgt := 21) hx hb dX4_markedBlocks_15 (by decide) (fun c3 => ?_) (fun c3 => ?_)
      · refine ri_iinc (k := 2) (z := xk + 1) (lv' := [(2, .int (iI (xk + 1))), (0, .ref (a 0)), (1, .int (iI xn))]) hx hb dX4_markedBlocks_21 hl rfl (by omega) (by decide) rfl (fun ls hl => ?_)
        refine lv_goto (tgt := 4) hx hb dX4_markedBlocks_24 (by decide) ?_
        exact ih4 xn (xk + 1)  (by omega) (fo_s hX (by unfold s_marks; first | omega | (simp only [if_neg c3]; try omega))) (by omega) ls (lv_sub hl [1, 2, 0] rfl) kk4
      · refine ri_iinc (k := 1) (z := xn + 1) (lv' := [(1, .int (iI (xn + 1))), (0, .ref (a 0)), (2, .int (iI xk))]) hx hb dX4_markedBlocks_18 hl rfl (by omega) (by decide) rfl (fun ls hl => ?_)
        refine ri_iinc (k := 2) (z := xk + 1) (lv' := [(2, .int (iI (xk + 1))), (1, .int (iI (xn + 1))), (0, .ref (a 0))]) hx hb dX4_markedBlocks_21 hl rfl (by omega) (by decide) rfl (fun ls hl => ?_)
        refine lv_goto (tgt := 4) hx hb dX4_markedBlocks_24 (by decide) ?_
        exact ih4 (xn + 1) (xk + 1)  (by omega) (fo_s hX (by unfold s_marks; first | omega | (simp only [if_pos c3]; try omega))) (by omega) ls (lv_sub hl [2, 1, 0] rfl) kk4
  refine L4 6 0 0  (by omega) (rfl) (by omega) ls (lv_sub hl [2, 1, 0] rfl) (fun ls hl => ?_)
  refine lv_iload_n hx hb dX4_markedBlocks_27 rfl (lv_at hl 0 rfl) ?_
  have r4 := marks_rg F
  exact hend.2 _ rfl ⟨_, rfl, rfl⟩ _ _ dX4_markedBlocks_28
