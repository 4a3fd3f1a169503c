set_option maxHeartbeats 4000000 in
set_option maxRecDepth 100000 in
theorem t_X6_in (l : Launch) (g : GG) (v : Int) (lo : Int) (hi : Int) (h1 : -2147483648 ≤ v ∧ v ≤ 2147483647) (h2 : -2147483648 ≤ lo ∧ lo ≤ 2147483647) (h3 : -2147483648 ≤ hi ∧ hi ≤ 2147483647) : Met l yX6_in (wm yX6_in cX6_in 3 (some .boolean)) (rmm 0 0 0) (pR g [] [.int (iI v), .int (iI lo), .int (iI hi)]) (qR (some (.int (iI (if lo ≤ v ∧ v ≤ hi then 1 else 0))))) 0 0 (fun _ => False) := by
  refine met_r (by decide) (Nat.le_of_ble_eq_true rfl) ?_
  intro p e s m args below meth c Q ls hx hb hml hown hts hl w hend
  have hl : lv_has ls 3 [(0, .int (iI v)), (1, .int (iI lo)), (2, .int (iI hi))] := hl
  refine lv_iload_n hx hb dX6_in_0 rfl (lv_at hl 0 rfl) ?_
  refine lv_iload_n hx hb dX6_in_1 rfl (lv_at hl 1 rfl) ?_
  refine ri_icmp_lt (tgt := 14) hx hb dX6_in_2 (by decide) (by omega) (by omega) (fun c1 => ?_) (fun c1 => ?_)
  · refine ri_iconst hx hb dX6_in_14 ?_
    exact hend.2 _ (congrArg (fun z => some (Value.int (iI z))) (show (if lo ≤ v ∧ v ≤ hi then 1 else 0) = 0 from by omega)) ⟨_, rfl, (nz (by omega))⟩ _ _ dX6_in_15
  · refine lv_iload_n hx hb dX6_in_5 rfl (lv_at hl 0 rfl) ?_
    refine lv_iload_n hx hb dX6_in_6 rfl (lv_at hl 2 rfl) ?_
    refine ri_icmp_gt (tgt := 14) hx hb dX6_in_7 (by decide) (by omega) (by omega) (fun c2 => ?_) (fun c2 => ?_)
    · refine ri_iconst hx hb dX6_in_14 ?_
      exact hend.2 _ (congrArg (fun z => some (Value.int (iI z))) (show (if lo ≤ v ∧ v ≤ hi then 1 else 0) = 0 from by omega)) ⟨_, rfl, (nz (by omega))⟩ _ _ dX6_in_15
    · refine ri_iconst hx hb dX6_in_10 ?_
      refine lv_goto (tgt := 15) hx hb dX6_in_11 (by decide) ?_
      exact hend.2 _ (congrArg (fun z => some (Value.int (iI z))) (show (if lo ≤ v ∧ v ≤ hi then 1 else 0) = 1 from by omega)) ⟨_, rfl, (nz (by omega))⟩ _ _ dX6_in_15

set_option maxHeartbeats 4000000 in
set_option maxRecDepth 100000 in
theorem t_X6_isPage (l : Launch) (g : GG) (v : Int) (h1 : -2147483648 ≤ v ∧ v ≤ 2147483647) : Met l yX6_isPage (wm yX6_isPage cX6_isPage 1 (some .boolean)) (rmm 1 0 0) (pR g [] [.int (iI v)]) (qR (some (.int (iI (if 0 ≤ v ∧ v ≤ 23 then 1 else 0))))) 0 0 (fun _ => False) := by
  refine met_r (by decide) (Nat.le_of_ble_eq_true rfl) ?_
  intro p e s m args below meth c Q ls hx hb hml hown hts hl w hend
  have hl : lv_has ls 1 [(0, .int (iI v))] := hl
  refine lv_iload_n hx hb dX6_isPage_0 rfl (lv_at hl 0 rfl) ?_
  refine ri_iconst hx hb dX6_isPage_1 ?_
  refine ri_bipush hx hb dX6_isPage_2 (by decide) ?_
  refine call_rS (As := [.int (iI v), .int (iI 0), .int (iI 23)]) (rest := []) hx hb (hml.trans hl.1.symm) hown hts w lk_RX6_34 (t_X6_in l g v 0 23 (by omega) (by omega) (by omega)) [] rfl rfl rfl rfl (Nat.le_of_ble_eq_true rfl) ⟨Nat.le_of_ble_eq_true rfl, Nat.le_of_ble_eq_true rfl⟩ ⟨Nat.le_of_ble_eq_true rfl, Nat.le_of_ble_eq_true rfl⟩ dX6_isPage_4 ?_
  exact hend.2 _ rfl ⟨_, rfl, (nz (by omega))⟩ _ _ dX6_isPage_7

set_option maxHeartbeats 4000000 in
set_option maxRecDepth 100000 in
theorem t_X6_isBlock (l : Launch) (g : GG) (v : Int) (h1 : -2147483648 ≤ v ∧ v ≤ 2147483647) : Met l yX6_isBlock (wm yX6_isBlock cX6_isBlock 1 (some .boolean)) (rmm 1 0 0) (pR g [] [.int (iI v)]) (qR (some (.int (iI (if 0 ≤ v ∧ v ≤ 5 then 1 else 0))))) 0 0 (fun _ => False) := by
  refine met_r (by decide) (Nat.le_of_ble_eq_true rfl) ?_
  intro p e s m args below meth c Q ls hx hb hml hown hts hl w hend
  have hl : lv_has ls 1 [(0, .int (iI v))] := hl
  refine lv_iload_n hx hb dX6_isBlock_0 rfl (lv_at hl 0 rfl) ?_
  refine ri_iconst hx hb dX6_isBlock_1 ?_
  refine ri_iconst hx hb dX6_isBlock_2 ?_
  refine call_rS (As := [.int (iI v), .int (iI 0), .int (iI 5)]) (rest := []) hx hb (hml.trans hl.1.symm) hown hts w lk_RX6_34 (t_X6_in l g v 0 5 (by omega) (by omega) (by omega)) [] rfl rfl rfl rfl (Nat.le_of_ble_eq_true rfl) ⟨Nat.le_of_ble_eq_true rfl, Nat.le_of_ble_eq_true rfl⟩ ⟨Nat.le_of_ble_eq_true rfl, Nat.le_of_ble_eq_true rfl⟩ dX6_isBlock_3 ?_
  exact hend.2 _ rfl ⟨_, rfl, (nz (by omega))⟩ _ _ dX6_isBlock_6

set_option maxHeartbeats 4000000 in
set_option maxRecDepth 100000 in
theorem t_X6_holds (l : Launch) (g : GG) (s0 : Nat) (F : Int → Int) (k : Int) (i : Int) (hk0 : 0 ≤ k ∧ k < 48) (hi : i = 3 * k + 65) : Met l yX6_holds (wm yX6_holds cX6_holds 2 (some .int)) (rmm 0 0 0) (pR g [(s0, eI g 233 F)] [.ref s0, .int (iI k)]) (qR (some (.int (iI (F i))))) 0 0 (fun _ => False) := by
  refine met_r (by decide) (Nat.le_of_ble_eq_true rfl) ?_
  intro p e s m args below meth c Q ls hx hb hml hown hts hl w hend
  have hl : lv_has ls 2 [(0, .ref s0), (1, .int (iI k))] := hl
  refine lv_aload_n hx hb dX6_holds_0 rfl (lv_at hl 0 rfl) ?_
  refine ri_bipush hx hb dX6_holds_1 (by decide) ?_
  refine ri_iconst hx hb dX6_holds_3 ?_
  refine lv_iload_n hx hb dX6_holds_4 rfl (lv_at hl 1 rfl) ?_
  refine ri_imul (z := 3 * k) hx hb dX6_holds_5 rfl ?_
  refine ri_iadd (z := 3 * k + 65) hx hb dX6_holds_6 (by omega) ?_
  refine ri_iald (v := F i) hx hb w 0 rfl (by omega) (congrArg F hi.symm) dX6_holds_7 (by decide) ?_
  exact hend.2 _ rfl ⟨_, rfl, rfl⟩ _ _ dX6_holds_8

set_option maxHeartbeats 4000000 in
set_option maxRecDepth 100000 in
theorem t_X6_weak (l : Launch) (g : GG) (s0 : Nat) (F : Int → Int) (k : Int) (i : Int) (hk0 : 0 ≤ k ∧ k < 48) (hi : i = 3 * k + 66) : Met l yX6_weak (wm yX6_weak cX6_weak 2 (some .int)) (rmm 0 0 0) (pR g [(s0, eI g 233 F)] [.ref s0, .int (iI k)]) (qR (some (.int (iI (F i))))) 0 0 (fun _ => False) := by
  refine met_r (by decide) (Nat.le_of_ble_eq_true rfl) ?_
  intro p e s m args below meth c Q ls hx hb hml hown hts hl w hend
  have hl : lv_has ls 2 [(0, .ref s0), (1, .int (iI k))] := hl
  refine lv_aload_n hx hb dX6_weak_0 rfl (lv_at hl 0 rfl) ?_
  refine ri_bipush hx hb dX6_weak_1 (by decide) ?_
  refine ri_iconst hx hb dX6_weak_3 ?_
  refine lv_iload_n hx hb dX6_weak_4 rfl (lv_at hl 1 rfl) ?_
  refine ri_imul (z := 3 * k) hx hb dX6_weak_5 rfl ?_
  refine ri_iadd (z := 3 * k + 65) hx hb dX6_weak_6 (by omega) ?_
  refine ri_iconst hx hb dX6_weak_7 ?_
  refine ri_iadd (z := 3 * k + 66) hx hb dX6_weak_8 (by omega) ?_
  refine ri_iald (v := F i) hx hb w 0 rfl (by omega) (congrArg F hi.symm) dX6_weak_9 (by decide) ?_
  exact hend.2 _ rfl ⟨_, rfl, rfl⟩ _ _ dX6_weak_10

set_option maxHeartbeats 4000000 in
set_option maxRecDepth 100000 in
theorem t_X6_kind (l : Launch) (g : GG) (s0 : Nat) (F : Int → Int) (b : Int) (i : Int) (hb0 : 0 ≤ b ∧ b < 6) (hi : i = 4 * b + 41) : Met l yX6_kind (wm yX6_kind cX6_kind 2 (some .int)) (rmm 0 0 0) (pR g [(s0, eI g 233 F)] [.ref s0, .int (iI b)]) (qR (some (.int (iI (F i))))) 0 0 (fun _ => False) := by
  refine met_r (by decide) (Nat.le_of_ble_eq_true rfl) ?_
  intro p e s m args below meth c Q ls hx hb hml hown hts hl w hend
  have hl : lv_has ls 2 [(0, .ref s0), (1, .int (iI b))] := hl
  refine lv_aload_n hx hb dX6_kind_0 rfl (lv_at hl 0 rfl) ?_
  refine ri_bipush hx hb dX6_kind_1 (by decide) ?_
  refine ri_iconst hx hb dX6_kind_3 ?_
  refine lv_iload_n hx hb dX6_kind_4 rfl (lv_at hl 1 rfl) ?_
  refine ri_imul (z := 4 * b) hx hb dX6_kind_5 rfl ?_
  refine ri_iadd (z := 4 * b + 41) hx hb dX6_kind_6 (by omega) ?_
  refine ri_iald (v := F i) hx hb w 0 rfl (by omega) (congrArg F hi.symm) dX6_kind_7 (by decide) ?_
  exact hend.2 _ rfl ⟨_, rfl, rfl⟩ _ _ dX6_kind_8

set_option maxHeartbeats 4000000 in
set_option maxRecDepth 100000 in
theorem t_X6_bears (l : Launch) (g : GG) (s0 : Nat) (N : Int) (F : Int → Int) (b : Int) (hW : WF N F) (hb0 : 0 ≤ b ∧ b < 6) : Met l yX6_bears (wm yX6_bears cX6_bears 4 (some .int)) (rmm 1 0 0) (pR g [(s0, eI g 233 F)] [.ref s0, .int (iI b)]) (qR (some (.int (iI (r_bears F b))))) 0 0 (fun _ => False) := by
  refine met_r (by decide) (Nat.le_of_ble_eq_true rfl) ?_
  intro p e s m args below meth c Q ls hx hb hml hown hts hl w hend
  have hl : lv_has ls 4 [(0, .ref s0), (1, .int (iI b))] := hl
  refine lv_aload_n hx hb dX6_bears_0 rfl (lv_at hl 0 rfl) ?_
  refine ri_bipush hx hb dX6_bears_1 (by decide) ?_
  refine ri_iconst hx hb dX6_bears_3 ?_
  refine lv_iload_n hx hb dX6_bears_4 rfl (lv_at hl 1 rfl) ?_
  refine ri_imul (z := 4 * b) hx hb dX6_bears_5 rfl ?_
  refine ri_iadd (z := 4 * b + 41) hx hb dX6_bears_6 (by omega) ?_
  refine ri_iconst hx hb dX6_bears_7 ?_
  refine ri_iadd (z := 4 * b + 42) hx hb dX6_bears_8 (by omega) ?_
  refine ri_iald (v := F (4 * b + 42)) hx hb w 0 rfl (by omega) (rfl) dX6_bears_9 (by decide) ?_
  have r1 := hW.bd (4 * b + 42)
  refine lv_istore_n (lv' := [(2, .int (iI (F (4 * b + 42)))), (0, .ref s0), (1, .int (iI b))]) hx hb dX6_bears_10 rfl hl (by decide) rfl (fun ls hl => ?_)
  refine lv_aload_n hx hb dX6_bears_11 rfl (lv_at hl 1 rfl) ?_
  refine lv_iload_n hx hb dX6_bears_12 rfl (lv_at hl 2 rfl) ?_
  refine call_rS (As := [.ref s0, .int (iI b)]) (rest := []) hx hb (hml.trans hl.1.symm) hown hts w lk_RX6_57 (t_X6_kind l g s0 F b (4 * b + 41) (by omega) (by omega)) [0] rfl rfl rfl rfl (Nat.le_of_ble_eq_true rfl) ⟨Nat.le_of_ble_eq_true rfl, Nat.le_of_ble_eq_true rfl⟩ ⟨Nat.le_of_ble_eq_true rfl, Nat.le_of_ble_eq_true rfl⟩ dX6_bears_13 ?_
  have r2 := hW.bd (4 * b + 41)
  refine ri_if_ne (tgt := 29) hx hb dX6_bears_16 (by decide) (by omega) (fun c3 => ?_) (fun c3 => ?_)
  · refine lv_aload_n hx hb dX6_bears_29 rfl (lv_at hl 1 rfl) ?_
    refine lv_iload_n hx hb dX6_bears_30 rfl (lv_at hl 2 rfl) ?_
    refine call_rS (As := [.ref s0, .int (iI b)]) (rest := []) hx hb (hml.trans hl.1.symm) hown hts w lk_RX6_57 (t_X6_kind l g s0 F b (4 * b + 41) (by omega) (by omega)) [0] rfl rfl rfl rfl (Nat.le_of_ble_eq_true rfl) ⟨Nat.le_of_ble_eq_true rfl, Nat.le_of_ble_eq_true rfl⟩ ⟨Nat.le_of_ble_eq_true rfl, Nat.le_of_ble_eq_true rfl⟩ dX6_bears_31 ?_
    refine ri_iconst hx hb dX6_bears_34 ?_
    refine ri_icmp_ne (tgt := 48) hx hb dX6_bears_35 (by decide) (by omega) (by omega) (fun c4 => ?_) (fun c4 => ?_)
    · refine ri_bipush hx hb dX6_bears_48 (by decide) ?_
      refine ri_bipush hx hb dX6_bears_50 (by decide) ?_
      refine lv_iload_n hx hb dX6_bears_52 rfl (lv_at hl 0 rfl) ?_
      refine ri_imul (z := 10 * F (4 * b + 42)) hx hb dX6_bears_53 (by omega) ?_
      refine ri_isub (z := 100 - 10 * F (4 * b + 42)) hx hb dX6_bears_54 rfl ?_
      refine lv_istore_n (lv' := [(3, .int (iI (100 - 10 * F (4 * b + 42)))), (2, .int (iI (F (4 * b + 42)))), (0, .ref s0), (1, .int (iI b))]) hx hb dX6_bears_55 rfl hl (by decide) rfl (fun ls hl => ?_)
      refine lv_iload_n hx hb dX6_bears_56 rfl (lv_at hl 0 rfl) ?_
      refine ri_bipush hx hb dX6_bears_57 (by decide) ?_
      refine ri_icmp_ge (tgt := 67) hx hb dX6_bears_59 (by decide) (by omega) (by omega) (fun c5 => ?_) (fun c5 => ?_)
      · refine lv_iload_n hx hb dX6_bears_67 rfl (lv_at hl 0 rfl) ?_
        exact hend.2 _ (congrArg (fun z => some (Value.int (iI z))) (show r_bears F b = 100 - 10 * F (4 * b + 42) from by unfold r_bears; unfold r_cut; omega)) ⟨_, rfl, rfl⟩ _ _ dX6_bears_68
      · refine ri_bipush hx hb dX6_bears_62 (by decide) ?_
        refine lv_goto (tgt := 68) hx hb dX6_bears_64 (by decide) ?_
        exact hend.2 _ (congrArg (fun z => some (Value.int (iI z))) (show r_bears F b = 20 from by unfold r_bears; unfold r_cut; omega)) ⟨_, rfl, rfl⟩ _ _ dX6_bears_68
    · refine ri_sipush hx hb dX6_bears_38 (by decide) ?_
      refine ri_iconst hx hb dX6_bears_41 ?_
      refine lv_iload_n hx hb dX6_bears_42 rfl (lv_at hl 0 rfl) ?_
      refine ri_imul (z := 5 * F (4 * b + 42)) hx hb dX6_bears_43 (by omega) ?_
      refine ri_isub (z := 200 - 5 * F (4 * b + 42)) hx hb dX6_bears_44 rfl ?_
      refine lv_goto (tgt := 55) hx hb dX6_bears_45 (by decide) ?_
      refine lv_istore_n (lv' := [(3, .int (iI (200 - 5 * F (4 * b + 42)))), (2, .int (iI (F (4 * b + 42)))), (0, .ref s0), (1, .int (iI b))]) hx hb dX6_bears_55 rfl hl (by decide) rfl (fun ls hl => ?_)
      refine lv_iload_n hx hb dX6_bears_56 rfl (lv_at hl 0 rfl) ?_
      refine ri_bipush hx hb dX6_bears_57 (by decide) ?_
      refine ri_icmp_ge (tgt := 67) hx hb dX6_bears_59 (by decide) (by omega) (by omega) (fun c6 => ?_) (fun c6 => ?_)
      · refine lv_iload_n hx hb dX6_bears_67 rfl (lv_at hl 0 rfl) ?_
        exact hend.2 _ (congrArg (fun z => some (Value.int (iI z))) (show r_bears F b = 200 - 5 * F (4 * b + 42) from by unfold r_bears; unfold r_cut; omega)) ⟨_, rfl, rfl⟩ _ _ dX6_bears_68
      · refine ri_bipush hx hb dX6_bears_62 (by decide) ?_
        refine lv_goto (tgt := 68) hx hb dX6_bears_64 (by decide) ?_
        exact hend.2 _ (congrArg (fun z => some (Value.int (iI z))) (show r_bears F b = 20 from by unfold r_bears; unfold r_cut; omega)) ⟨_, rfl, rfl⟩ _ _ dX6_bears_68
  · refine ri_sipush hx hb dX6_bears_19 (by decide) ?_
    refine ri_iconst hx hb dX6_bears_22 ?_
    refine lv_iload_n hx hb dX6_bears_23 rfl (lv_at hl 0 rfl) ?_
    refine ri_imul (z := 4 * F (4 * b + 42)) hx hb dX6_bears_24 (by omega) ?_
    refine ri_isub (z := 400 - 4 * F (4 * b + 42)) hx hb dX6_bears_25 rfl ?_
    refine lv_goto (tgt := 55) hx hb dX6_bears_26 (by decide) ?_
    refine lv_istore_n (lv' := [(3, .int (iI (400 - 4 * F (4 * b + 42)))), (2, .int (iI (F (4 * b + 42)))), (0, .ref s0), (1, .int (iI b))]) hx hb dX6_bears_55 rfl hl (by decide) rfl (fun ls hl => ?_)
    refine lv_iload_n hx hb dX6_bears_56 rfl (lv_at hl 0 rfl) ?_
    refine ri_bipush hx hb dX6_bears_57 (by decide) ?_
    refine ri_icmp_ge (tgt := 67) hx hb dX6_bears_59 (by decide) (by omega) (by omega) (fun c7 => ?_) (fun c7 => ?_)
    · refine lv_iload_n hx hb dX6_bears_67 rfl (lv_at hl 0 rfl) ?_
      exact hend.2 _ (congrArg (fun z => some (Value.int (iI z))) (show r_bears F b = 400 - 4 * F (4 * b + 42) from by unfold r_bears; unfold r_cut; omega)) ⟨_, rfl, rfl⟩ _ _ dX6_bears_68
    · refine ri_bipush hx hb dX6_bears_62 (by decide) ?_
      refine lv_goto (tgt := 68) hx hb dX6_bears_64 (by decide) ?_
      exact hend.2 _ (congrArg (fun z => some (Value.int (iI z))) (show r_bears F b = 20 from by unfold r_bears; unfold r_cut; omega)) ⟨_, rfl, rfl⟩ _ _ dX6_bears_68

set_option maxHeartbeats 4000000 in
set_option maxRecDepth 100000 in
theorem t_X6_many (l : Launch) (g : GG) (s0 : Nat) (F : Int → Int) (b : Int) (t : Int) (hB : Bd F) (hb0 : 0 ≤ b ∧ b < 6) (h1 : -2 ≤ t ∧ t ≤ 0) : Met l yX6_many (wm yX6_many cX6_many 5 (some .int)) (rmm 1 0 0) (pR g [(s0, eI g 233 F)] [.ref s0, .int (iI b), .int (iI t)]) (qR (some (.int (iI (r_cnt F b t))))) 0 0 (fun _ => False) := by
  refine met_r (by decide) (Nat.le_of_ble_eq_true rfl) ?_
  intro p e s m args below meth c Q ls hx hb hml hown hts hl w hend
  have hl : lv_has ls 5 [(0, .ref s0), (1, .int (iI b)), (2, .int (iI t))] := hl
  refine ri_iconst hx hb dX6_many_0 ?_
  refine lv_istore_n (lv' := [(3, .int (iI 0)), (0, .ref s0), (1, .int (iI b)), (2, .int (iI t))]) hx hb dX6_many_1 rfl hl (by decide) rfl (fun ls hl => ?_)
  refine ri_bipush hx hb dX6_many_2 (by decide) ?_
  refine lv_iload_n hx hb dX6_many_4 rfl (lv_at hl 2 rfl) ?_
  refine ri_imul (z := 8 * b) hx hb dX6_many_5 rfl ?_
  refine lv_istore (lv' := [(4, .int (iI (8 * b))), (3, .int (iI 0)), (0, .ref s0), (1, .int (iI b)), (2, .int (iI t))]) hx hb dX6_many_6 hl (by decide) rfl (fun ls hl => ?_)
  have L8 : ∀ (n : Nat) (xn xk : Int), (xk + n = 8 * b + 8) → (fo n xk xn (s_cnt F t) = r_cnt F b t) → (8 * b ≤ xk) → ∀ (ls : Array Slot), lv_has ls 5 [(0, .ref s0), (1, .int (iI b)), (2, .int (iI t)), (3, .int (iI xn)), (4, .int (iI xk))] → (∀ (ls : Array Slot), lv_has ls 5 [(3, .int (iI (r_cnt F b t)))] → W p l e (rmm 1 0 0) s m args below meth c s.heap [] 0 0 Q (F0 m 65 ls [])) → W p l e (rmm 1 0 0) s m args below meth c s.heap [] 0 0 Q (F0 m 8 ls []) := by
    intro n
    induction n with
    | zero =>
      intro xn xk hn hX hlo ls hl kk8
      refine lv_iload hx hb dX6_many_8 (lv_at hl 4 rfl) ?_
      refine ri_bipush hx hb dX6_many_10 (by decide) ?_
      refine lv_iload_n hx hb dX6_many_12 rfl (lv_at hl 1 rfl) ?_
      refine ri_imul (z := 8 * b) hx hb dX6_many_13 rfl ?_
      refine ri_bipush hx hb dX6_many_14 (by decide) ?_
      refine ri_iadd (z := 8 * b + 8) hx hb dX6_many_16 rfl ?_
      refine ri_icmp_ge (tgt := 65) hx hb dX6_many_17 (by decide) (by omega) (by omega) (fun c1 => ?_) (fun c1 => ?_)
      · have e0 : xn = r_cnt F b t := hX
        rw [e0] at hl
        exact kk8  ls  (lv_sub hl [3] rfl)
      · exact absurd c1 (by omega)
    | succ n ih8 =>
      intro xn xk hn hX hlo ls hl kk8
      refine lv_iload hx hb dX6_many_8 (lv_at hl 4 rfl) ?_
      refine ri_bipush hx hb dX6_many_10 (by decide) ?_
      refine lv_iload_n hx hb dX6_many_12 rfl (lv_at hl 1 rfl) ?_
      refine ri_imul (z := 8 * b) hx hb dX6_many_13 rfl ?_
      refine ri_bipush hx hb dX6_many_14 (by decide) ?_
      refine ri_iadd (z := 8 * b + 8) hx hb dX6_many_16 rfl ?_
      refine ri_icmp_ge (tgt := 65) hx hb dX6_many_17 (by decide) (by omega) (by omega) (fun c2 => ?_) (fun c2 => ?_)
      · exact absurd c2 (by omega)
      refine lv_iload_n hx hb dX6_many_20 rfl (lv_at hl 3 rfl) ?_
      refine lv_iload_n hx hb dX6_many_21 rfl (lv_at hl 2 rfl) ?_
      refine ri_if_ne (tgt := 42) hx hb dX6_many_22 (by decide) (by omega) (fun c3 => ?_) (fun c3 => ?_)
      · refine lv_aload_n hx hb dX6_many_42 rfl (lv_at hl 0 rfl) ?_
        refine lv_iload hx hb dX6_many_43 (lv_at hl 4 rfl) ?_
        refine call_rS (As := [.ref s0, .int (iI xk)]) (rest := [.int (iI xn)]) hx hb (hml.trans hl.1.symm) hown hts w lk_RX6_53 (t_X6_holds l g s0 F xk (3 * xk + 65) (by omega) (by omega)) [0] rfl rfl rfl rfl (Nat.le_of_ble_eq_true rfl) ⟨Nat.le_of_ble_eq_true rfl, Nat.le_of_ble_eq_true rfl⟩ ⟨Nat.le_of_ble_eq_true rfl, Nat.le_of_ble_eq_true rfl⟩ dX6_many_45 ?_
        have r4 := hB.bd (3 * xk + 65)
        refine lv_iload_n hx hb dX6_many_48 rfl (lv_at hl 2 rfl) ?_
        refine ri_icmp_ne (tgt := 56) hx hb dX6_many_49 (by decide) (by omega) (by omega) (fun c5 => ?_) (fun c5 => ?_)
        · refine ri_iconst hx hb dX6_many_56 ?_
          refine ri_iadd (z := xn) hx hb dX6_many_57 (by omega) ?_
          refine lv_istore_n (lv' := [(3, .int (iI xn)), (0, .ref s0), (1, .int (iI b)), (2, .int (iI t)), (4, .int (iI xk))]) hx hb dX6_many_58 rfl hl (by decide) rfl (fun ls hl => ?_)
          refine ri_iinc (k := 4) (z := xk + 1) (lv' := [(4, .int (iI (xk + 1))), (3, .int (iI xn)), (0, .ref s0), (1, .int (iI b)), (2, .int (iI t))]) hx hb dX6_many_59 hl rfl (by omega) (by decide) rfl (fun ls hl => ?_)
          refine lv_goto (tgt := 8) hx hb dX6_many_62 (by decide) ?_
          exact ih8 xn (xk + 1)  (by omega) (fo_s hX (by unfold s_cnt; first | omega | omega)) (by omega) ls (lv_sub hl [2, 3, 4, 1, 0] rfl) kk8
        · refine ri_iconst hx hb dX6_many_52 ?_
          refine lv_goto (tgt := 57) hx hb dX6_many_53 (by decide) ?_
          refine ri_iadd (z := xn + 1) hx hb dX6_many_57 rfl ?_
          refine lv_istore_n (lv' := [(3, .int (iI (xn + 1))), (0, .ref s0), (1, .int (iI b)), (2, .int (iI t)), (4, .int (iI xk))]) hx hb dX6_many_58 rfl hl (by decide) rfl (fun ls hl => ?_)
          refine ri_iinc (k := 4) (z := xk + 1) (lv' := [(4, .int (iI (xk + 1))), (3, .int (iI (xn + 1))), (0, .ref s0), (1, .int (iI b)), (2, .int (iI t))]) hx hb dX6_many_59 hl rfl (by omega) (by decide) rfl (fun ls hl => ?_)
          refine lv_goto (tgt := 8) hx hb dX6_many_62 (by decide) ?_
          exact ih8 (xn + 1) (xk + 1)  (by omega) (fo_s hX (by unfold s_cnt; first | omega | omega)) (by omega) ls (lv_sub hl [2, 3, 4, 1, 0] rfl) kk8
      · refine lv_aload_n hx hb dX6_many_25 rfl (lv_at hl 0 rfl) ?_
        refine lv_iload hx hb dX6_many_26 (lv_at hl 4 rfl) ?_
        refine call_rS (As := [.ref s0, .int (iI xk)]) (rest := [.int (iI xn)]) hx hb (hml.trans hl.1.symm) hown hts w lk_RX6_53 (t_X6_holds l g s0 F xk (3 * xk + 65) (by omega) (by omega)) [0] rfl rfl rfl rfl (Nat.le_of_ble_eq_true rfl) ⟨Nat.le_of_ble_eq_true rfl, Nat.le_of_ble_eq_true rfl⟩ ⟨Nat.le_of_ble_eq_true rfl, Nat.le_of_ble_eq_true rfl⟩ dX6_many_28 ?_
        have r6 := hB.bd (3 * xk + 65)
        refine ri_if_lt (tgt := 38) hx hb dX6_many_31 (by decide) (by omega) (fun c7 => ?_) (fun c7 => ?_)
        · refine ri_iconst hx hb dX6_many_38 ?_
          refine lv_goto (tgt := 57) hx hb dX6_many_39 (by decide) ?_
          refine ri_iadd (z := xn) hx hb dX6_many_57 (by omega) ?_
          refine lv_istore_n (lv' := [(3, .int (iI xn)), (0, .ref s0), (1, .int (iI b)), (2, .int (iI t)), (4, .int (iI xk))]) hx hb dX6_many_58 rfl hl (by decide) rfl (fun ls hl => ?_)
          refine ri_iinc (k := 4) (z := xk + 1) (lv' := [(4, .int (iI (xk + 1))), (3, .int (iI xn)), (0, .ref s0), (1, .int (iI b)), (2, .int (iI t))]) hx hb dX6_many_59 hl rfl (by omega) (by decide) rfl (fun ls hl => ?_)
          refine lv_goto (tgt := 8) hx hb dX6_many_62 (by decide) ?_
          exact ih8 xn (xk + 1)  (by omega) (fo_s hX (by unfold s_cnt; first | omega | omega)) (by omega) ls (lv_sub hl [2, 3, 4, 1, 0] rfl) kk8
        · refine ri_iconst hx hb dX6_many_34 ?_
          refine lv_goto (tgt := 57) hx hb dX6_many_35 (by decide) ?_
          refine ri_iadd (z := xn + 1) hx hb dX6_many_57 rfl ?_
          refine lv_istore_n (lv' := [(3, .int (iI (xn + 1))), (0, .ref s0), (1, .int (iI b)), (2, .int (iI t)), (4, .int (iI xk))]) hx hb dX6_many_58 rfl hl (by decide) rfl (fun ls hl => ?_)
          refine ri_iinc (k := 4) (z := xk + 1) (lv' := [(4, .int (iI (xk + 1))), (3, .int (iI (xn + 1))), (0, .ref s0), (1, .int (iI b)), (2, .int (iI t))]) hx hb dX6_many_59 hl rfl (by omega) (by decide) rfl (fun ls hl => ?_)
          refine lv_goto (tgt := 8) hx hb dX6_many_62 (by decide) ?_
          exact ih8 (xn + 1) (xk + 1)  (by omega) (fo_s hX (by unfold s_cnt; first | omega | omega)) (by omega) ls (lv_sub hl [2, 3, 4, 1, 0] rfl) kk8
  refine L8 8 0 (8 * b)  (by omega) (rfl) (by omega) ls (lv_sub hl [2, 3, 4, 1, 0] rfl) (fun ls hl => ?_)
  refine lv_iload_n hx hb dX6_many_65 rfl (lv_at hl 0 rfl) ?_
  have r8 := cnt_rg F b t
  exact hend.2 _ rfl ⟨_, rfl, rfl⟩ _ _ dX6_many_66

set_option maxHeartbeats 4000000 in
set_option maxRecDepth 100000 in
theorem t_X6_isFree (l : Launch) (g : GG) (s0 : Nat) (F : Int → Int) (b : Int) (hB : Bd F) (hb0 : 0 ≤ b ∧ b < 6) : Met l yX6_isFree (wm yX6_isFree cX6_isFree 2 (some .boolean)) (rmm 2 0 0) (pR g [(s0, eI g 233 F)] [.ref s0, .int (iI b)]) (qR (some (.int (iI (if P_free F b then 1 else 0))))) 0 0 (fun _ => False) := by
  refine met_r (by decide) (Nat.le_of_ble_eq_true rfl) ?_
  intro p e s m args below meth c Q ls hx hb hml hown hts hl w hend
  have hl : lv_has ls 2 [(0, .ref s0), (1, .int (iI b))] := hl
  refine lv_aload_n hx hb dX6_isFree_0 rfl (lv_at hl 0 rfl) ?_
  refine ri_bipush hx hb dX6_isFree_1 (by decide) ?_
  refine ri_iald (v := F 6) hx hb w 0 rfl (by omega) (rfl) dX6_isFree_3 (by decide) ?_
  have r1 := hB.bd 6
  refine lv_iload_n hx hb dX6_isFree_4 rfl (lv_at hl 1 rfl) ?_
  refine ri_icmp_eq (tgt := 23) hx hb dX6_isFree_5 (by decide) (by omega) (by omega) (fun c2 => ?_) (fun c2 => ?_)
  · refine ri_iconst hx hb dX6_isFree_23 ?_
    exact hend.2 _ (congrArg (fun z => some (Value.int (iI z))) (show (if P_free F b then 1 else 0) = 0 from by omega)) ⟨_, rfl, (nz (by omega))⟩ _ _ dX6_isFree_24
  · refine lv_aload_n hx hb dX6_isFree_8 rfl (lv_at hl 0 rfl) ?_
    refine lv_iload_n hx hb dX6_isFree_9 rfl (lv_at hl 1 rfl) ?_
    refine ri_iconst hx hb dX6_isFree_10 ?_
    refine call_rS (As := [.ref s0, .int (iI b), .int (iI (-1))]) (rest := []) hx hb (hml.trans hl.1.symm) hown hts w lk_RX6_60 (t_X6_many l g s0 F b (-1) (hB) (by omega) (by omega)) [0] rfl rfl rfl rfl (Nat.le_of_ble_eq_true rfl) ⟨Nat.le_of_ble_eq_true rfl, Nat.le_of_ble_eq_true rfl⟩ ⟨Nat.le_of_ble_eq_true rfl, Nat.le_of_ble_eq_true rfl⟩ dX6_isFree_11 ?_
    have r3 := cnt_rg F b (-1)
    refine ri_bipush hx hb dX6_isFree_14 (by decide) ?_
    refine ri_icmp_ne (tgt := 23) hx hb dX6_isFree_16 (by decide) (by omega) (by omega) (fun c4 => ?_) (fun c4 => ?_)
    · refine ri_iconst hx hb dX6_isFree_23 ?_
      exact hend.2 _ (congrArg (fun z => some (Value.int (iI z))) (show (if P_free F b then 1 else 0) = 0 from by omega)) ⟨_, rfl, (nz (by omega))⟩ _ _ dX6_isFree_24
    · refine ri_iconst hx hb dX6_isFree_19 ?_
      refine lv_goto (tgt := 24) hx hb dX6_isFree_20 (by decide) ?_
      exact hend.2 _ (congrArg (fun z => some (Value.int (iI z))) (show (if P_free F b then 1 else 0) = 1 from by omega)) ⟨_, rfl, (nz (by omega))⟩ _ _ dX6_isFree_24

set_option maxHeartbeats 4000000 in
set_option maxRecDepth 100000 in
theorem t_X6_free (l : Launch) (g : GG) (s0 : Nat) (F : Int → Int) (hB : Bd F) : Met l yX6_free (wm yX6_free cX6_free 3 (some .int)) (rmm 3 0 0) (pR g [(s0, eI g 233 F)] [.ref s0]) (qR (some (.int (iI (r_frees F))))) 0 0 (fun _ => False) := by
  refine met_r (by decide) (Nat.le_of_ble_eq_true rfl) ?_
  intro p e s m args below meth c Q ls hx hb hml hown hts hl w hend
  have hl : lv_has ls 3 [(0, .ref s0)] := hl
  refine ri_iconst hx hb dX6_free_0 ?_
  refine lv_istore_n (lv' := [(1, .int (iI 0)), (0, .ref s0)]) hx hb dX6_free_1 rfl hl (by decide) rfl (fun ls hl => ?_)
  refine ri_iconst hx hb dX6_free_2 ?_
  refine lv_istore_n (lv' := [(2, .int (iI 0)), (1, .int (iI 0)), (0, .ref s0)]) hx hb dX6_free_3 rfl hl (by decide) rfl (fun ls hl => ?_)
  have L4 : ∀ (n : Nat) (xn xk : Int), (xk + n = 6) → (fo n xk xn (s_frees F) = r_frees F) → (0 ≤ xk) → ∀ (ls : Array Slot), lv_has ls 3 [(0, .ref s0), (1, .int (iI xn)), (2, .int (iI xk))] → (∀ (ls : Array Slot), lv_has ls 3 [(1, .int (iI (r_frees F)))] → W p l e (rmm 3 0 0) s m args below meth c s.heap [] 0 0 Q (F0 m 32 ls [])) → W p l e (rmm 3 0 0) s m args below meth c s.heap [] 0 0 Q (F0 m 4 ls []) := by
    intro n
    induction n with
    | zero =>
      intro xn xk hn hX hlo ls hl kk4
      refine lv_iload_n hx hb dX6_free_4 rfl (lv_at hl 2 rfl) ?_
      refine ri_bipush hx hb dX6_free_5 (by decide) ?_
      refine ri_icmp_ge (tgt := 32) hx hb dX6_free_7 (by decide) (by omega) (by omega) (fun c1 => ?_) (fun c1 => ?_)
      · have e0 : xn = r_frees F := hX
        rw [e0] at hl
        exact kk4  ls  (lv_sub hl [1] rfl)
      · exact absurd c1 (by omega)
    | succ n ih4 =>
      intro xn xk hn hX hlo ls hl kk4
      refine lv_iload_n hx hb dX6_free_4 rfl (lv_at hl 2 rfl) ?_
      refine ri_bipush hx hb dX6_free_5 (by decide) ?_
      refine ri_icmp_ge (tgt := 32) hx hb dX6_free_7 (by decide) (by omega) (by omega) (fun c2 => ?_) (fun c2 => ?_)
      · exact absurd c2 (by omega)
      refine lv_iload_n hx hb dX6_free_10 rfl (lv_at hl 1 rfl) ?_
      refine lv_aload_n hx hb dX6_free_11 rfl (lv_at hl 0 rfl) ?_
      refine lv_iload_n hx hb dX6_free_12 rfl (lv_at hl 2 rfl) ?_
      refine call_rS (As := [.ref s0, .int (iI xk)]) (rest := [.int (iI xn)]) hx hb (hml.trans hl.1.symm) hown hts w lk_RX6_64 (t_X6_isFree l g s0 F xk (hB) (by omega)) [0] rfl rfl rfl rfl (Nat.le_of_ble_eq_true rfl) ⟨Nat.le_of_ble_eq_true rfl, Nat.le_of_ble_eq_true rfl⟩ ⟨Nat.le_of_ble_eq_true rfl, Nat.le_of_ble_eq_true rfl⟩ dX6_free_13 ?_
      refine ri_ifb_eq (tgt := 23) hx hb dX6_free_16 (by decide) (fun c3 => ?_) (fun c3 => ?_)
      · refine ri_iconst hx hb dX6_free_23 ?_
        refine ri_iadd (z := xn) hx hb dX6_free_24 (by omega) ?_
        refine lv_istore_n (lv' := [(1, .int (iI xn)), (0, .ref s0), (2, .int (iI xk))]) hx hb dX6_free_25 rfl hl (by decide) rfl (fun ls hl => ?_)
        refine ri_iinc (k := 2) (z := xk + 1) (lv' := [(2, .int (iI (xk + 1))), (1, .int (iI xn)), (0, .ref s0)]) hx hb dX6_free_26 hl rfl (by omega) (by decide) rfl (fun ls hl => ?_)
        refine lv_goto (tgt := 4) hx hb dX6_free_29 (by decide) ?_
        exact ih4 xn (xk + 1)  (by omega) (fo_s hX (by unfold s_frees; first | omega | (simp only [if_neg c3]; try omega))) (by omega) ls (lv_sub hl [2, 1, 0] rfl) kk4
      · refine ri_iconst hx hb dX6_free_19 ?_
        refine lv_goto (tgt := 24) hx hb dX6_free_20 (by decide) ?_
        refine ri_iadd (z := xn + 1) hx hb dX6_free_24 rfl ?_
        refine lv_istore_n (lv' := [(1, .int (iI (xn + 1))), (0, .ref s0), (2, .int (iI xk))]) hx hb dX6_free_25 rfl hl (by decide) rfl (fun ls hl => ?_)
        refine ri_iinc (k := 2) (z := xk + 1) (lv' := [(2, .int (iI (xk + 1))), (1, .int (iI (xn + 1))), (0, .ref s0)]) hx hb dX6_free_26 hl rfl (by omega) (by decide) rfl (fun ls hl => ?_)
        refine lv_goto (tgt := 4) hx hb dX6_free_29 (by decide) ?_
        exact ih4 (xn + 1) (xk + 1)  (by omega) (fo_s hX (by unfold s_frees; first | omega | (simp only [if_pos c3]; try omega))) (by omega) ls (lv_sub hl [2, 1, 0] rfl) kk4
  refine L4 6 0 0  (by omega) (rfl) (by omega) ls (lv_sub hl [2, 1, 0] rfl) (fun ls hl => ?_)
  refine lv_iload_n hx hb dX6_free_32 rfl (lv_at hl 0 rfl) ?_
  have r4 := frees_rg F
  exact hend.2 _ rfl ⟨_, rfl, rfl⟩ _ _ dX6_free_33

set_option maxHeartbeats 4000000 in
set_option maxRecDepth 100000 in
theorem t_X6_weaker (l : Launch) (g : GG) (s0 : Nat) (F : Int → Int) (k : Int) (r : Int) (hB : Bd F) (hk0 : 0 ≤ k ∧ k < 48) (h1 : 0 ≤ r ∧ r < 48) : Met l yX6_weaker (wm yX6_weaker cX6_weaker 4 (some .int)) (rmm 1 0 0) (pR g [(s0, eI g 233 F)] [.ref s0, .int (iI k), .int (iI r)]) (qR (some (.int (iI (r_weaker F k r))))) 0 0 (fun _ => False) := by
  refine met_r (by decide) (Nat.le_of_ble_eq_true rfl) ?_
  intro p e s m args below meth c Q ls hx hb hml hown hts hl w hend
  have hl : lv_has ls 4 [(0, .ref s0), (1, .int (iI k)), (2, .int (iI r))] := hl
  refine lv_iload_n hx hb dX6_weaker_0 rfl (lv_at hl 1 rfl) ?_
  refine lv_iload_n hx hb dX6_weaker_1 rfl (lv_at hl 2 rfl) ?_
  refine ri_icmp_ge (tgt := 11) hx hb dX6_weaker_2 (by decide) (by omega) (by omega) (fun c1 => ?_) (fun c1 => ?_)
  · refine lv_iload_n hx hb dX6_weaker_11 rfl (lv_at hl 1 rfl) ?_
    refine lv_iload_n hx hb dX6_weaker_12 rfl (lv_at hl 2 rfl) ?_
    refine ri_isub (z := k - r) hx hb dX6_weaker_13 rfl ?_
    refine lv_istore_n (lv' := [(3, .int (iI (k - r))), (0, .ref s0), (1, .int (iI k)), (2, .int (iI r))]) hx hb dX6_weaker_14 rfl hl (by decide) rfl (fun ls hl => ?_)
    refine lv_iload_n hx hb dX6_weaker_15 rfl (lv_at hl 0 rfl) ?_
    refine ri_if_ne (tgt := 21) hx hb dX6_weaker_16 (by decide) (by omega) (fun c2 => ?_) (fun c2 => ?_)
    · refine lv_iload_n hx hb dX6_weaker_21 rfl (lv_at hl 0 rfl) ?_
      refine ri_iconst hx hb dX6_weaker_22 ?_
      refine ri_icmp_ne (tgt := 30) hx hb dX6_weaker_23 (by decide) (by omega) (by omega) (fun c3 => ?_) (fun c3 => ?_)
      · refine lv_iload_n hx hb dX6_weaker_30 rfl (lv_at hl 0 rfl) ?_
        refine ri_iconst hx hb dX6_weaker_31 ?_
        refine ri_icmp_ne (tgt := 39) hx hb dX6_weaker_32 (by decide) (by omega) (by omega) (fun c4 => ?_) (fun c4 => ?_)
        · refine ri_iconst hx hb dX6_weaker_39 ?_
          refine lv_aload_n hx hb dX6_weaker_40 rfl (lv_at hl 1 rfl) ?_
          refine lv_iload_n hx hb dX6_weaker_41 rfl (lv_at hl 2 rfl) ?_
          refine ri_bipush hx hb dX6_weaker_42 (by decide) ?_
          refine ri_idiv (z := (k / 8)) hx hb dX6_weaker_44 (by omega) (by omega) rfl ?_
          refine call_rS (As := [.ref s0, .int (iI (k / 8))]) (rest := [.int (iI 1)]) hx hb (hml.trans hl.1.symm) hown hts w lk_RX6_57 (t_X6_kind l g s0 F (k / 8) (4 * (k / 8) + 41) (by omega) (by omega)) [0] rfl rfl rfl rfl (Nat.le_of_ble_eq_true rfl) ⟨Nat.le_of_ble_eq_true rfl, Nat.le_of_ble_eq_true rfl⟩ ⟨Nat.le_of_ble_eq_true rfl, Nat.le_of_ble_eq_true rfl⟩ dX6_weaker_45 ?_
          have r5 := hB.bd (4 * (k / 8) + 41)
          refine ri_iconst hx hb dX6_weaker_48 ?_
          refine ri_icmp_ne (tgt := 56) hx hb dX6_weaker_49 (by decide) (by omega) (by omega) (fun c6 => ?_) (fun c6 => ?_)
          · refine ri_iconst hx hb dX6_weaker_56 ?_
            refine ri_imul (z := 1) hx hb dX6_weaker_57 (by omega) ?_
            exact hend.2 _ (congrArg (fun z => some (Value.int (iI z))) (show r_weaker F k r = 1 from by unfold r_weaker; unfold r_far; omega)) ⟨_, rfl, rfl⟩ _ _ dX6_weaker_58
          · refine ri_iconst hx hb dX6_weaker_52 ?_
            refine lv_goto (tgt := 57) hx hb dX6_weaker_53 (by decide) ?_
            refine ri_imul (z := 2) hx hb dX6_weaker_57 (by omega) ?_
            exact hend.2 _ (congrArg (fun z => some (Value.int (iI z))) (show r_weaker F k r = 2 from by unfold r_weaker; unfold r_far; omega)) ⟨_, rfl, rfl⟩ _ _ dX6_weaker_58
        · refine ri_iconst hx hb dX6_weaker_35 ?_
          refine lv_goto (tgt := 40) hx hb dX6_weaker_36 (by decide) ?_
          refine lv_aload_n hx hb dX6_weaker_40 rfl (lv_at hl 1 rfl) ?_
          refine lv_iload_n hx hb dX6_weaker_41 rfl (lv_at hl 2 rfl) ?_
          refine ri_bipush hx hb dX6_weaker_42 (by decide) ?_
          refine ri_idiv (z := (k / 8)) hx hb dX6_weaker_44 (by omega) (by omega) rfl ?_
          refine call_rS (As := [.ref s0, .int (iI (k / 8))]) (rest := [.int (iI 2)]) hx hb (hml.trans hl.1.symm) hown hts w lk_RX6_57 (t_X6_kind l g s0 F (k / 8) (4 * (k / 8) + 41) (by omega) (by omega)) [0] rfl rfl rfl rfl (Nat.le_of_ble_eq_true rfl) ⟨Nat.le_of_ble_eq_true rfl, Nat.le_of_ble_eq_true rfl⟩ ⟨Nat.le_of_ble_eq_true rfl, Nat.le_of_ble_eq_true rfl⟩ dX6_weaker_45 ?_
          have r7 := hB.bd (4 * (k / 8) + 41)
          refine ri_iconst hx hb dX6_weaker_48 ?_
          refine ri_icmp_ne (tgt := 56) hx hb dX6_weaker_49 (by decide) (by omega) (by omega) (fun c8 => ?_) (fun c8 => ?_)
          · refine ri_iconst hx hb dX6_weaker_56 ?_
            refine ri_imul (z := 2) hx hb dX6_weaker_57 (by omega) ?_
            exact hend.2 _ (congrArg (fun z => some (Value.int (iI z))) (show r_weaker F k r = 2 from by unfold r_weaker; unfold r_far; omega)) ⟨_, rfl, rfl⟩ _ _ dX6_weaker_58
          · refine ri_iconst hx hb dX6_weaker_52 ?_
            refine lv_goto (tgt := 57) hx hb dX6_weaker_53 (by decide) ?_
            refine ri_imul (z := 4) hx hb dX6_weaker_57 (by omega) ?_
            exact hend.2 _ (congrArg (fun z => some (Value.int (iI z))) (show r_weaker F k r = 4 from by unfold r_weaker; unfold r_far; omega)) ⟨_, rfl, rfl⟩ _ _ dX6_weaker_58
      · refine ri_iconst hx hb dX6_weaker_26 ?_
        refine lv_goto (tgt := 40) hx hb dX6_weaker_27 (by decide) ?_
        refine lv_aload_n hx hb dX6_weaker_40 rfl (lv_at hl 1 rfl) ?_
        refine lv_iload_n hx hb dX6_weaker_41 rfl (lv_at hl 2 rfl) ?_
        refine ri_bipush hx hb dX6_weaker_42 (by decide) ?_
        refine ri_idiv (z := (k / 8)) hx hb dX6_weaker_44 (by omega) (by omega) rfl ?_
        refine call_rS (As := [.ref s0, .int (iI (k / 8))]) (rest := [.int (iI 4)]) hx hb (hml.trans hl.1.symm) hown hts w lk_RX6_57 (t_X6_kind l g s0 F (k / 8) (4 * (k / 8) + 41) (by omega) (by omega)) [0] rfl rfl rfl rfl (Nat.le_of_ble_eq_true rfl) ⟨Nat.le_of_ble_eq_true rfl, Nat.le_of_ble_eq_true rfl⟩ ⟨Nat.le_of_ble_eq_true rfl, Nat.le_of_ble_eq_true rfl⟩ dX6_weaker_45 ?_
        have r9 := hB.bd (4 * (k / 8) + 41)
        refine ri_iconst hx hb dX6_weaker_48 ?_
        refine ri_icmp_ne (tgt := 56) hx hb dX6_weaker_49 (by decide) (by omega) (by omega) (fun c10 => ?_) (fun c10 => ?_)
        · refine ri_iconst hx hb dX6_weaker_56 ?_
          refine ri_imul (z := 4) hx hb dX6_weaker_57 (by omega) ?_
          exact hend.2 _ (congrArg (fun z => some (Value.int (iI z))) (show r_weaker F k r = 4 from by unfold r_weaker; unfold r_far; omega)) ⟨_, rfl, rfl⟩ _ _ dX6_weaker_58
        · refine ri_iconst hx hb dX6_weaker_52 ?_
          refine lv_goto (tgt := 57) hx hb dX6_weaker_53 (by decide) ?_
          refine ri_imul (z := 8) hx hb dX6_weaker_57 (by omega) ?_
          exact hend.2 _ (congrArg (fun z => some (Value.int (iI z))) (show r_weaker F k r = 8 from by unfold r_weaker; unfold r_far; omega)) ⟨_, rfl, rfl⟩ _ _ dX6_weaker_58
    · refine ri_iconst hx hb dX6_weaker_19 ?_
      exact hend.2 _ (congrArg (fun z => some (Value.int (iI z))) (show r_weaker F k r = 1 from by unfold r_weaker; unfold r_far; omega)) ⟨_, rfl, rfl⟩ _ _ dX6_weaker_20
  · refine lv_iload_n hx hb dX6_weaker_5 rfl (lv_at hl 2 rfl) ?_
    refine lv_iload_n hx hb dX6_weaker_6 rfl (lv_at hl 1 rfl) ?_
    refine ri_isub (z := r - k) hx hb dX6_weaker_7 rfl ?_
    refine lv_goto (tgt := 14) hx hb dX6_weaker_8 (by decide) ?_
    refine lv_istore_n (lv' := [(3, .int (iI (r - k))), (0, .ref s0), (1, .int (iI k)), (2, .int (iI r))]) hx hb dX6_weaker_14 rfl hl (by decide) rfl (fun ls hl => ?_)
    refine lv_iload_n hx hb dX6_weaker_15 rfl (lv_at hl 0 rfl) ?_
    refine ri_if_ne (tgt := 21) hx hb dX6_weaker_16 (by decide) (by omega) (fun c11 => ?_) (fun c11 => ?_)
    · refine lv_iload_n hx hb dX6_weaker_21 rfl (lv_at hl 0 rfl) ?_
      refine ri_iconst hx hb dX6_weaker_22 ?_
      refine ri_icmp_ne (tgt := 30) hx hb dX6_weaker_23 (by decide) (by omega) (by omega) (fun c12 => ?_) (fun c12 => ?_)
      · refine lv_iload_n hx hb dX6_weaker_30 rfl (lv_at hl 0 rfl) ?_
        refine ri_iconst hx hb dX6_weaker_31 ?_
        refine ri_icmp_ne (tgt := 39) hx hb dX6_weaker_32 (by decide) (by omega) (by omega) (fun c13 => ?_) (fun c13 => ?_)
        · refine ri_iconst hx hb dX6_weaker_39 ?_
          refine lv_aload_n hx hb dX6_weaker_40 rfl (lv_at hl 1 rfl) ?_
          refine lv_iload_n hx hb dX6_weaker_41 rfl (lv_at hl 2 rfl) ?_
          refine ri_bipush hx hb dX6_weaker_42 (by decide) ?_
          refine ri_idiv (z := (k / 8)) hx hb dX6_weaker_44 (by omega) (by omega) rfl ?_
          refine call_rS (As := [.ref s0, .int (iI (k / 8))]) (rest := [.int (iI 1)]) hx hb (hml.trans hl.1.symm) hown hts w lk_RX6_57 (t_X6_kind l g s0 F (k / 8) (4 * (k / 8) + 41) (by omega) (by omega)) [0] rfl rfl rfl rfl (Nat.le_of_ble_eq_true rfl) ⟨Nat.le_of_ble_eq_true rfl, Nat.le_of_ble_eq_true rfl⟩ ⟨Nat.le_of_ble_eq_true rfl, Nat.le_of_ble_eq_true rfl⟩ dX6_weaker_45 ?_
          have r14 := hB.bd (4 * (k / 8) + 41)
          refine ri_iconst hx hb dX6_weaker_48 ?_
          refine ri_icmp_ne (tgt := 56) hx hb dX6_weaker_49 (by decide) (by omega) (by omega) (fun c15 => ?_) (fun c15 => ?_)
          · refine ri_iconst hx hb dX6_weaker_56 ?_
            refine ri_imul (z := 1) hx hb dX6_weaker_57 (by omega) ?_
            exact hend.2 _ (congrArg (fun z => some (Value.int (iI z))) (show r_weaker F k r = 1 from by unfold r_weaker; unfold r_far; omega)) ⟨_, rfl, rfl⟩ _ _ dX6_weaker_58
          · refine ri_iconst hx hb dX6_weaker_52 ?_
            refine lv_goto (tgt := 57) hx hb dX6_weaker_53 (by decide) ?_
            refine ri_imul (z := 2) hx hb dX6_weaker_57 (by omega) ?_
            exact hend.2 _ (congrArg (fun z => some (Value.int (iI z))) (show r_weaker F k r = 2 from by unfold r_weaker; unfold r_far; omega)) ⟨_, rfl, rfl⟩ _ _ dX6_weaker_58
        · refine ri_iconst hx hb dX6_weaker_35 ?_
          refine lv_goto (tgt := 40) hx hb dX6_weaker_36 (by decide) ?_
          refine lv_aload_n hx hb dX6_weaker_40 rfl (lv_at hl 1 rfl) ?_
          refine lv_iload_n hx hb dX6_weaker_41 rfl (lv_at hl 2 rfl) ?_
          refine ri_bipush hx hb dX6_weaker_42 (by decide) ?_
          refine ri_idiv (z := (k / 8)) hx hb dX6_weaker_44 (by omega) (by omega) rfl ?_
          refine call_rS (As := [.ref s0, .int (iI (k / 8))]) (rest := [.int (iI 2)]) hx hb (hml.trans hl.1.symm) hown hts w lk_RX6_57 (t_X6_kind l g s0 F (k / 8) (4 * (k / 8) + 41) (by omega) (by omega)) [0] rfl rfl rfl rfl (Nat.le_of_ble_eq_true rfl) ⟨Nat.le_of_ble_eq_true rfl, Nat.le_of_ble_eq_true rfl⟩ ⟨Nat.le_of_ble_eq_true rfl, Nat.le_of_ble_eq_true rfl⟩ dX6_weaker_45 ?_
          have r16 := hB.bd (4 * (k / 8) + 41)
          refine ri_iconst hx hb dX6_weaker_48 ?_
          refine ri_icmp_ne (tgt := 56) hx hb dX6_weaker_49 (by decide) (by omega) (by omega) (fun c17 => ?_) (fun c17 => ?_)
          · refine ri_iconst hx hb dX6_weaker_56 ?_
            refine ri_imul (z := 2) hx hb dX6_weaker_57 (by omega) ?_
            exact hend.2 _ (congrArg (fun z => some (Value.int (iI z))) (show r_weaker F k r = 2 from by unfold r_weaker; unfold r_far; omega)) ⟨_, rfl, rfl⟩ _ _ dX6_weaker_58
          · refine ri_iconst hx hb dX6_weaker_52 ?_
            refine lv_goto (tgt := 57) hx hb dX6_weaker_53 (by decide) ?_
            refine ri_imul (z := 4) hx hb dX6_weaker_57 (by omega) ?_
            exact hend.2 _ (congrArg (fun z => some (Value.int (iI z))) (show r_weaker F k r = 4 from by unfold r_weaker; unfold r_far; omega)) ⟨_, rfl, rfl⟩ _ _ dX6_weaker_58
      · refine ri_iconst hx hb dX6_weaker_26 ?_
        refine lv_goto (tgt := 40) hx hb dX6_weaker_27 (by decide) ?_
        refine lv_aload_n hx hb dX6_weaker_40 rfl (lv_at hl 1 rfl) ?_
        refine lv_iload_n hx hb dX6_weaker_41 rfl (lv_at hl 2 rfl) ?_
        refine ri_bipush hx hb dX6_weaker_42 (by decide) ?_
        refine ri_idiv (z := (k / 8)) hx hb dX6_weaker_44 (by omega) (by omega) rfl ?_
        refine call_rS (As := [.ref s0, .int (iI (k / 8))]) (rest := [.int (iI 4)]) hx hb (hml.trans hl.1.symm) hown hts w lk_RX6_57 (t_X6_kind l g s0 F (k / 8) (4 * (k / 8) + 41) (by omega) (by omega)) [0] rfl rfl rfl rfl (Nat.le_of_ble_eq_true rfl) ⟨Nat.le_of_ble_eq_true rfl, Nat.le_of_ble_eq_true rfl⟩ ⟨Nat.le_of_ble_eq_true rfl, Nat.le_of_ble_eq_true rfl⟩ dX6_weaker_45 ?_
        have r18 := hB.bd (4 * (k / 8) + 41)
        refine ri_iconst hx hb dX6_weaker_48 ?_
        refine ri_icmp_ne (tgt := 56) hx hb dX6_weaker_49 (by decide) (by omega) (by omega) (fun c19 => ?_) (fun c19 => ?_)
        · refine ri_iconst hx hb dX6_weaker_56 ?_
          refine ri_imul (z := 4) hx hb dX6_weaker_57 (by omega) ?_
          exact hend.2 _ (congrArg (fun z => some (Value.int (iI z))) (show r_weaker F k r = 4 from by unfold r_weaker; unfold r_far; omega)) ⟨_, rfl, rfl⟩ _ _ dX6_weaker_58
        · refine ri_iconst hx hb dX6_weaker_52 ?_
          refine lv_goto (tgt := 57) hx hb dX6_weaker_53 (by decide) ?_
          refine ri_imul (z := 8) hx hb dX6_weaker_57 (by omega) ?_
          exact hend.2 _ (congrArg (fun z => some (Value.int (iI z))) (show r_weaker F k r = 8 from by unfold r_weaker; unfold r_far; omega)) ⟨_, rfl, rfl⟩ _ _ dX6_weaker_58
    · refine ri_iconst hx hb dX6_weaker_19 ?_
      exact hend.2 _ (congrArg (fun z => some (Value.int (iI z))) (show r_weaker F k r = 1 from by unfold r_weaker; unfold r_far; omega)) ⟨_, rfl, rfl⟩ _ _ dX6_weaker_20

set_option maxHeartbeats 4000000 in
set_option maxRecDepth 100000 in
theorem t_X6_placeOf (l : Launch) (g : GG) (s0 : Nat) (F : Int → Int) (v : Int) (hB : Bd F) (h1 : -2147483648 ≤ v ∧ v ≤ 2147483647) : Met l yX6_placeOf (wm yX6_placeOf cX6_placeOf 3 (some .int)) (rmm 1 0 0) (pR g [(s0, eI g 233 F)] [.ref s0, .int (iI v)]) (qR (some (.int (iI (r_placeOf F v))))) 0 0 (fun _ => False) := by
  refine met_r (by decide) (Nat.le_of_ble_eq_true rfl) ?_
  intro p e s m args below meth c Q ls hx hb hml hown hts hl w hend
  have hl : lv_has ls 3 [(0, .ref s0), (1, .int (iI v))] := hl
  refine ri_iconst hx hb dX6_placeOf_0 ?_
  refine lv_istore_n (lv' := [(2, .int (iI 0)), (0, .ref s0), (1, .int (iI v))]) hx hb dX6_placeOf_1 rfl hl (by decide) rfl (fun ls hl => ?_)
  have L2 : ∀ (n : Nat) (xk : Int), (xk + n = 48) → (fi n xk (p_hold F v) (-5) = r_placeOf F v) → (0 ≤ xk) → ∀ (ls : Array Slot), lv_has ls 3 [(0, .ref s0), (1, .int (iI v)), (2, .int (iI xk))] → (∀ (hZ : r_placeOf F v = -5) (ls : Array Slot), lv_has ls 3 [] → W p l e (rmm 1 0 0) s m args below meth c s.heap [] 0 0 Q (F0 m 25 ls [])) → W p l e (rmm 1 0 0) s m args below meth c s.heap [] 0 0 Q (F0 m 2 ls []) := by
    intro n
    induction n with
    | zero =>
      intro xk hn hV hlo ls hl kk2
      refine lv_iload_n hx hb dX6_placeOf_2 rfl (lv_at hl 2 rfl) ?_
      refine ri_bipush hx hb dX6_placeOf_3 (by decide) ?_
      refine ri_icmp_ge (tgt := 25) hx hb dX6_placeOf_5 (by decide) (by omega) (by omega) (fun c1 => ?_) (fun c1 => ?_)
      · exact kk2 hV.symm ls  (lv_sub hl [] rfl)
      · exact absurd c1 (by omega)
    | succ n ih2 =>
      intro xk hn hV hlo ls hl kk2
      refine lv_iload_n hx hb dX6_placeOf_2 rfl (lv_at hl 2 rfl) ?_
      refine ri_bipush hx hb dX6_placeOf_3 (by decide) ?_
      refine ri_icmp_ge (tgt := 25) hx hb dX6_placeOf_5 (by decide) (by omega) (by omega) (fun c2 => ?_) (fun c2 => ?_)
      · exact absurd c2 (by omega)
      refine lv_aload_n hx hb dX6_placeOf_8 rfl (lv_at hl 0 rfl) ?_
      refine lv_iload_n hx hb dX6_placeOf_9 rfl (lv_at hl 2 rfl) ?_
      refine call_rS (As := [.ref s0, .int (iI xk)]) (rest := []) hx hb (hml.trans hl.1.symm) hown hts w lk_RX6_53 (t_X6_holds l g s0 F xk (3 * xk + 65) (by omega) (by omega)) [0] rfl rfl rfl rfl (Nat.le_of_ble_eq_true rfl) ⟨Nat.le_of_ble_eq_true rfl, Nat.le_of_ble_eq_true rfl⟩ ⟨Nat.le_of_ble_eq_true rfl, Nat.le_of_ble_eq_true rfl⟩ dX6_placeOf_10 ?_
      have r3 := hB.bd (3 * xk + 65)
      refine lv_iload_n hx hb dX6_placeOf_13 rfl (lv_at hl 1 rfl) ?_
      refine ri_icmp_ne (tgt := 19) hx hb dX6_placeOf_14 (by decide) (by omega) (by omega) (fun c4 => ?_) (fun c4 => ?_)
      · refine ri_iinc (k := 2) (z := xk + 1) (lv' := [(2, .int (iI (xk + 1))), (0, .ref s0), (1, .int (iI v))]) hx hb dX6_placeOf_19 hl rfl (by omega) (by decide) rfl (fun ls hl => ?_)
        refine lv_goto (tgt := 2) hx hb dX6_placeOf_22 (by decide) ?_
        exact ih2 (xk + 1)  (by omega) (fi_f hV (by simp only [p_hold, decide_eq_true_eq]; first | omega | (intro hh; exact absurd hh.1 (by assumption)) | (intro hh; exact absurd hh.2 (by assumption)))) (by omega) ls (lv_sub hl [1, 2, 0] rfl) kk2
      · refine lv_iload_n hx hb dX6_placeOf_17 rfl (lv_at hl 2 rfl) ?_
        exact hend.2 _ (congrArg (fun z => some (Value.int (iI z))) (show r_placeOf F v = xk from by exact fi_t hV (by simp only [p_hold, decide_eq_true_eq]; first | omega | exact ⟨by assumption, by assumption⟩))) ⟨_, rfl, rfl⟩ _ _ dX6_placeOf_18
  refine L2 48 0  (by omega) (rfl) (by omega) ls (lv_sub hl [1, 2, 0] rfl) (fun hZ ls hl => ?_)
  refine ri_bipush hx hb dX6_placeOf_25 (by decide) ?_
  exact hend.2 _ (congrArg (fun z => some (Value.int (iI z))) (show r_placeOf F v = -5 from by exact hZ)) ⟨_, rfl, rfl⟩ _ _ dX6_placeOf_27

set_option maxHeartbeats 4000000 in
set_option maxRecDepth 100000 in
theorem t_X6_lowestPage (l : Launch) (g : GG) (s0 : Nat) (F : Int → Int) (b : Int) (hB : Bd F) (hb0 : 0 ≤ b ∧ b < 6) : Met l yX6_lowestPage (wm yX6_lowestPage cX6_lowestPage 3 (some .int)) (rmm 1 0 0) (pR g [(s0, eI g 233 F)] [.ref s0, .int (iI b)]) (qR (some (.int (iI (r_low F b))))) 0 0 (fun _ => False) := by
  refine met_r (by decide) (Nat.le_of_ble_eq_true rfl) ?_
  intro p e s m args below meth c Q ls hx hb hml hown hts hl w hend
  have hl : lv_has ls 3 [(0, .ref s0), (1, .int (iI b))] := hl
  refine ri_bipush hx hb dX6_lowestPage_0 (by decide) ?_
  refine lv_iload_n hx hb dX6_lowestPage_2 rfl (lv_at hl 1 rfl) ?_
  refine ri_imul (z := 8 * b) hx hb dX6_lowestPage_3 rfl ?_
  refine lv_istore_n (lv' := [(2, .int (iI (8 * b))), (0, .ref s0), (1, .int (iI b))]) hx hb dX6_lowestPage_4 rfl hl (by decide) rfl (fun ls hl => ?_)
  have L5 : ∀ (n : Nat) (xk : Int), (xk + n = 8 * b + 8) → (fi n xk (p_page F) (-5) = r_low F b) → (8 * b ≤ xk) → ∀ (ls : Array Slot), lv_has ls 3 [(0, .ref s0), (1, .int (iI b)), (2, .int (iI xk))] → (∀ (hZ : r_low F b = -5) (ls : Array Slot), lv_has ls 3 [] → W p l e (rmm 1 0 0) s m args below meth c s.heap [] 0 0 Q (F0 m 32 ls [])) → W p l e (rmm 1 0 0) s m args below meth c s.heap [] 0 0 Q (F0 m 5 ls []) := by
    intro n
    induction n with
    | zero =>
      intro xk hn hV hlo ls hl kk5
      refine lv_iload_n hx hb dX6_lowestPage_5 rfl (lv_at hl 2 rfl) ?_
      refine ri_bipush hx hb dX6_lowestPage_6 (by decide) ?_
      refine lv_iload_n hx hb dX6_lowestPage_8 rfl (lv_at hl 1 rfl) ?_
      refine ri_imul (z := 8 * b) hx hb dX6_lowestPage_9 rfl ?_
      refine ri_bipush hx hb dX6_lowestPage_10 (by decide) ?_
      refine ri_iadd (z := 8 * b + 8) hx hb dX6_lowestPage_12 rfl ?_
      refine ri_icmp_ge (tgt := 32) hx hb dX6_lowestPage_13 (by decide) (by omega) (by omega) (fun c1 => ?_) (fun c1 => ?_)
      · exact kk5 hV.symm ls  (lv_sub hl [] rfl)
      · exact absurd c1 (by omega)
    | succ n ih5 =>
      intro xk hn hV hlo ls hl kk5
      refine lv_iload_n hx hb dX6_lowestPage_5 rfl (lv_at hl 2 rfl) ?_
      refine ri_bipush hx hb dX6_lowestPage_6 (by decide) ?_
      refine lv_iload_n hx hb dX6_lowestPage_8 rfl (lv_at hl 1 rfl) ?_
      refine ri_imul (z := 8 * b) hx hb dX6_lowestPage_9 rfl ?_
      refine ri_bipush hx hb dX6_lowestPage_10 (by decide) ?_
      refine ri_iadd (z := 8 * b + 8) hx hb dX6_lowestPage_12 rfl ?_
      refine ri_icmp_ge (tgt := 32) hx hb dX6_lowestPage_13 (by decide) (by omega) (by omega) (fun c2 => ?_) (fun c2 => ?_)
      · exact absurd c2 (by omega)
      refine lv_aload_n hx hb dX6_lowestPage_16 rfl (lv_at hl 0 rfl) ?_
      refine lv_iload_n hx hb dX6_lowestPage_17 rfl (lv_at hl 2 rfl) ?_
      refine call_rS (As := [.ref s0, .int (iI xk)]) (rest := []) hx hb (hml.trans hl.1.symm) hown hts w lk_RX6_53 (t_X6_holds l g s0 F xk (3 * xk + 65) (by omega) (by omega)) [0] rfl rfl rfl rfl (Nat.le_of_ble_eq_true rfl) ⟨Nat.le_of_ble_eq_true rfl, Nat.le_of_ble_eq_true rfl⟩ ⟨Nat.le_of_ble_eq_true rfl, Nat.le_of_ble_eq_true rfl⟩ dX6_lowestPage_18 ?_
      have r3 := hB.bd (3 * xk + 65)
      refine ri_if_lt (tgt := 26) hx hb dX6_lowestPage_21 (by decide) (by omega) (fun c4 => ?_) (fun c4 => ?_)
      · refine ri_iinc (k := 2) (z := xk + 1) (lv' := [(2, .int (iI (xk + 1))), (0, .ref s0), (1, .int (iI b))]) hx hb dX6_lowestPage_26 hl rfl (by omega) (by decide) rfl (fun ls hl => ?_)
        refine lv_goto (tgt := 5) hx hb dX6_lowestPage_29 (by decide) ?_
        exact ih5 (xk + 1)  (by omega) (fi_f hV (by simp only [p_page, decide_eq_true_eq]; first | omega | (intro hh; exact absurd hh.1 (by assumption)) | (intro hh; exact absurd hh.2 (by assumption)))) (by omega) ls (lv_sub hl [1, 2, 0] rfl) kk5
      · refine lv_iload_n hx hb dX6_lowestPage_24 rfl (lv_at hl 2 rfl) ?_
        exact hend.2 _ (congrArg (fun z => some (Value.int (iI z))) (show r_low F b = xk from by exact fi_t hV (by simp only [p_page, decide_eq_true_eq]; first | omega | exact ⟨by assumption, by assumption⟩))) ⟨_, rfl, rfl⟩ _ _ dX6_lowestPage_25
  refine L5 8 (8 * b)  (by omega) (rfl) (by omega) ls (lv_sub hl [1, 2, 0] rfl) (fun hZ ls hl => ?_)
  refine ri_bipush hx hb dX6_lowestPage_32 (by decide) ?_
  exact hend.2 _ (congrArg (fun z => some (Value.int (iI z))) (show r_low F b = -5 from by exact hZ)) ⟨_, rfl, rfl⟩ _ _ dX6_lowestPage_34

set_option maxHeartbeats 4000000 in
set_option maxRecDepth 100000 in
theorem t_X6_buffered (l : Launch) (g : GG) (s0 : Nat) (N : Int) (F : Int → Int) (v : Int) (hW : WF N F) (h1 : -2147483648 ≤ v ∧ v ≤ 2147483647) : Met l yX6_buffered (wm yX6_buffered cX6_buffered 3 (some .int)) (rmm 0 0 0) (pR g [(s0, eI g 233 F)] [.ref s0, .int (iI v)]) (qR (some (.int (iI (r_buf F v))))) 0 0 (fun _ => False) := by
  have he := hW.he
  have hs := hW.se
  refine met_r (by decide) (Nat.le_of_ble_eq_true rfl) ?_
  intro p e s m args below meth c Q ls hx hb hml hown hts hl w hend
  have hl : lv_has ls 3 [(0, .ref s0), (1, .int (iI v))] := hl
  refine ri_iconst hx hb dX6_buffered_0 ?_
  refine lv_istore_n (lv' := [(2, .int (iI 0)), (0, .ref s0), (1, .int (iI v))]) hx hb dX6_buffered_1 rfl hl (by decide) rfl (fun ls hl => ?_)
  have L2 : ∀ (n : Nat) (xk : Int), (xk + n = F 11) → (fi n xk (p_buf F v) (-5) = r_buf F v) → (0 ≤ xk) → ∀ (ls : Array Slot), lv_has ls 3 [(0, .ref s0), (1, .int (iI v)), (2, .int (iI xk))] → (∀ (hZ : r_buf F v = -5) (ls : Array Slot), lv_has ls 3 [] → W p l e (rmm 0 0 0) s m args below meth c s.heap [] 0 0 Q (F0 m 28 ls [])) → W p l e (rmm 0 0 0) s m args below meth c s.heap [] 0 0 Q (F0 m 2 ls []) := by
    intro n
    induction n with
    | zero =>
      intro xk hn hV hlo ls hl kk2
      refine lv_iload_n hx hb dX6_buffered_2 rfl (lv_at hl 2 rfl) ?_
      refine lv_aload_n hx hb dX6_buffered_3 rfl (lv_at hl 0 rfl) ?_
      refine ri_bipush hx hb dX6_buffered_4 (by decide) ?_
      refine ri_iald (v := F 11) hx hb w 0 rfl (by omega) (rfl) dX6_buffered_6 (by decide) ?_
      have r1 := hW.bd 11
      refine ri_icmp_ge (tgt := 28) hx hb dX6_buffered_7 (by decide) (by omega) (by omega) (fun c2 => ?_) (fun c2 => ?_)
      · exact kk2 hV.symm ls  (lv_sub hl [] rfl)
      · exact absurd c2 (by omega)
    | succ n ih2 =>
      intro xk hn hV hlo ls hl kk2
      refine lv_iload_n hx hb dX6_buffered_2 rfl (lv_at hl 2 rfl) ?_
      refine lv_aload_n hx hb dX6_buffered_3 rfl (lv_at hl 0 rfl) ?_
      refine ri_bipush hx hb dX6_buffered_4 (by decide) ?_
      refine ri_iald (v := F 11) hx hb w 0 rfl (by omega) (rfl) dX6_buffered_6 (by decide) ?_
      have r3 := hW.bd 11
      refine ri_icmp_ge (tgt := 28) hx hb dX6_buffered_7 (by decide) (by omega) (by omega) (fun c4 => ?_) (fun c4 => ?_)
      · exact absurd c4 (by omega)
      refine lv_aload_n hx hb dX6_buffered_10 rfl (lv_at hl 0 rfl) ?_
      refine ri_bipush hx hb dX6_buffered_11 (by decide) ?_
      refine lv_iload_n hx hb dX6_buffered_13 rfl (lv_at hl 2 rfl) ?_
      refine ri_iadd (z := xk + 12) hx hb dX6_buffered_14 (by omega) ?_
      refine ri_iald (v := F (xk + 12)) hx hb w 0 rfl (by omega) (rfl) dX6_buffered_15 (by decide) ?_
      have r5 := hW.bd (xk + 12)
      refine lv_iload_n hx hb dX6_buffered_16 rfl (lv_at hl 1 rfl) ?_
      refine ri_icmp_ne (tgt := 22) hx hb dX6_buffered_17 (by decide) (by omega) (by omega) (fun c6 => ?_) (fun c6 => ?_)
      · refine ri_iinc (k := 2) (z := xk + 1) (lv' := [(2, .int (iI (xk + 1))), (0, .ref s0), (1, .int (iI v))]) hx hb dX6_buffered_22 hl rfl (by omega) (by decide) rfl (fun ls hl => ?_)
        refine lv_goto (tgt := 2) hx hb dX6_buffered_25 (by decide) ?_
        exact ih2 (xk + 1)  (by omega) (fi_f hV (by simp only [p_buf, decide_eq_true_eq]; first | omega | (intro hh; exact absurd hh.1 (by assumption)) | (intro hh; exact absurd hh.2 (by assumption)))) (by omega) ls (lv_sub hl [1, 2, 0] rfl) kk2
      · refine lv_iload_n hx hb dX6_buffered_20 rfl (lv_at hl 2 rfl) ?_
        exact hend.2 _ (congrArg (fun z => some (Value.int (iI z))) (show r_buf F v = xk from by exact fi_t hV (by simp only [p_buf, decide_eq_true_eq]; first | omega | exact ⟨by assumption, by assumption⟩))) ⟨_, rfl, rfl⟩ _ _ dX6_buffered_21
  refine L2 (F 11).toNat 0  (by omega) (rfl) (by omega) ls (lv_sub hl [1, 2, 0] rfl) (fun hZ ls hl => ?_)
  refine ri_bipush hx hb dX6_buffered_28 (by decide) ?_
  exact hend.2 _ (congrArg (fun z => some (Value.int (iI z))) (show r_buf F v = -5 from by exact hZ)) ⟨_, rfl, rfl⟩ _ _ dX6_buffered_30

set_option maxHeartbeats 4000000 in
set_option maxRecDepth 100000 in
theorem t_X6_isOpenFull (l : Launch) (g : GG) (s0 : Nat) (N : Int) (F : Int → Int) (hW : WF N F) : Met l yX6_isOpenFull (wm yX6_isOpenFull cX6_isOpenFull 1 (some .boolean)) (rmm 2 0 0) (pR g [(s0, eI g 233 F)] [.ref s0]) (qR (some (.int (iI (if P_full F then 1 else 0))))) 0 0 (fun _ => False) := by
  have ho := hW.op
  refine met_r (by decide) (Nat.le_of_ble_eq_true rfl) ?_
  intro p e s m args below meth c Q ls hx hb hml hown hts hl w hend
  have hl : lv_has ls 1 [(0, .ref s0)] := hl
  refine lv_aload_n hx hb dX6_isOpenFull_0 rfl (lv_at hl 0 rfl) ?_
  refine ri_bipush hx hb dX6_isOpenFull_1 (by decide) ?_
  refine ri_iald (v := F 6) hx hb w 0 rfl (by omega) (rfl) dX6_isOpenFull_3 (by decide) ?_
  have r1 := hW.bd 6
  refine ri_bipush hx hb dX6_isOpenFull_4 (by decide) ?_
  refine ri_icmp_eq (tgt := 21) hx hb dX6_isOpenFull_6 (by decide) (by omega) (by omega) (fun c2 => ?_) (fun c2 => ?_)
  · refine ri_iconst hx hb dX6_isOpenFull_21 ?_
    refine lv_goto (tgt := 26) hx hb dX6_isOpenFull_22 (by decide) ?_
    exact hend.2 _ (congrArg (fun z => some (Value.int (iI z))) (show (if P_full F then 1 else 0) = 1 from by omega)) ⟨_, rfl, (nz (by omega))⟩ _ _ dX6_isOpenFull_26
  · refine lv_aload_n hx hb dX6_isOpenFull_9 rfl (lv_at hl 0 rfl) ?_
    refine lv_aload_n hx hb dX6_isOpenFull_10 rfl (lv_at hl 0 rfl) ?_
    refine ri_bipush hx hb dX6_isOpenFull_11 (by decide) ?_
    refine ri_iald (v := F 6) hx hb w 0 rfl (by omega) (rfl) dX6_isOpenFull_13 (by decide) ?_
    refine ri_iconst hx hb dX6_isOpenFull_14 ?_
    refine call_rS (As := [.ref s0, .int (iI (F 6)), .int (iI (-1))]) (rest := []) hx hb (hml.trans hl.1.symm) hown hts w lk_RX6_60 (t_X6_many l g s0 F (F 6) (-1) (hW.b) (by omega) (by omega)) [0] rfl rfl rfl rfl (Nat.le_of_ble_eq_true rfl) ⟨Nat.le_of_ble_eq_true rfl, Nat.le_of_ble_eq_true rfl⟩ ⟨Nat.le_of_ble_eq_true rfl, Nat.le_of_ble_eq_true rfl⟩ dX6_isOpenFull_15 ?_
    have r3 := cnt_rg F (F 6) (-1)
    refine ri_if_ne (tgt := 25) hx hb dX6_isOpenFull_18 (by decide) (by omega) (fun c4 => ?_) (fun c4 => ?_)
    · refine ri_iconst hx hb dX6_isOpenFull_25 ?_
      exact hend.2 _ (congrArg (fun z => some (Value.int (iI z))) (show (if P_full F then 1 else 0) = 0 from by omega)) ⟨_, rfl, (nz (by omega))⟩ _ _ dX6_isOpenFull_26
    · refine ri_iconst hx hb dX6_isOpenFull_21 ?_
      refine lv_goto (tgt := 26) hx hb dX6_isOpenFull_22 (by decide) ?_
      exact hend.2 _ (congrArg (fun z => some (Value.int (iI z))) (show (if P_full F then 1 else 0) = 1 from by omega)) ⟨_, rfl, (nz (by omega))⟩ _ _ dX6_isOpenFull_26
