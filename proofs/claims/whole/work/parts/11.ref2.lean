set_option maxHeartbeats 4000000 in
set_option maxRecDepth 100000 in
theorem t_X6_readsLeft (l : Launch) (g : GG) (s0 : Nat) (N : Int) (F : Int → Int) (r : Int) (hW : WF N F) (h1 : 0 ≤ r ∧ r < 48) : Met l yX6_readsLeft (wm yX6_readsLeft cX6_readsLeft 6 (some .int)) (rmm 2 0 0) (pR g [(s0, eI g 233 F)] [.ref s0, .int (iI r)]) (qR (some (.int (iI (r_left F r))))) 0 0 (fun _ => False) := by
  refine met_r (by decide) (Nat.le_of_ble_eq_true rfl) ?_
  intro p e s m args below meth c Q ls hx hb hml hown hts hl w hend
  have hl : lv_has ls 6 [(0, .ref s0), (1, .int (iI r))] := hl
  refine lv_iload_n hx hb dX6_readsLeft_0 rfl (lv_at hl 1 rfl) ?_
  refine ri_bipush hx hb dX6_readsLeft_1 (by decide) ?_
  refine ri_idiv (z := (r / 8)) hx hb dX6_readsLeft_3 (by omega) (by omega) rfl ?_
  refine lv_istore_n (lv' := [(2, .int (iI (r / 8))), (0, .ref s0), (1, .int (iI r))]) hx hb dX6_readsLeft_4 rfl hl (by decide) rfl (fun ls hl => ?_)
  refine ri_ldc (n := 99999) hx hb hown hts (W0_of k_const_RX6_68 rfl) dX6_readsLeft_5 (by decide) ?_
  refine lv_istore_n (lv' := [(3, .int (iI 99999)), (2, .int (iI (r / 8))), (0, .ref s0), (1, .int (iI r))]) hx hb dX6_readsLeft_7 rfl hl (by decide) rfl (fun ls hl => ?_)
  refine ri_bipush hx hb dX6_readsLeft_8 (by decide) ?_
  refine lv_iload_n hx hb dX6_readsLeft_10 rfl (lv_at hl 1 rfl) ?_
  refine ri_imul (z := 8 * (r / 8)) hx hb dX6_readsLeft_11 rfl ?_
  refine lv_istore (lv' := [(4, .int (iI (8 * (r / 8)))), (3, .int (iI 99999)), (2, .int (iI (r / 8))), (0, .ref s0), (1, .int (iI r))]) hx hb dX6_readsLeft_12 hl (by decide) rfl (fun ls hl => ?_)
  have L14 : ∀ (n : Nat) (xn xk : Int), (xk + n = 8 * (r / 8) + 8) → (fo n xk xn (s_left F r) = (fo 8 (8 * (r / 8)) 99999 (s_left F r))) → (8 * (r / 8) ≤ xk) → (-200000000 ≤ xn ∧ xn ≤ 200000000) → ∀ (ls : Array Slot), lv_has ls 6 [(0, .ref s0), (1, .int (iI r)), (2, .int (iI (r / 8))), (3, .int (iI xn)), (4, .int (iI xk))] → (∀ (hrx76 : -200000000 ≤ (fo 8 (8 * (r / 8)) 99999 (s_left F r)) ∧ (fo 8 (8 * (r / 8)) 99999 (s_left F r)) ≤ 200000000) (ls : Array Slot), lv_has ls 6 [(3, .int (iI (fo 8 (8 * (r / 8)) 99999 (s_left F r))))] → W p l e (rmm 2 0 0) s m args below meth c s.heap [] 0 0 Q (F0 m 76 ls [])) → W p l e (rmm 2 0 0) s m args below meth c s.heap [] 0 0 Q (F0 m 14 ls []) := by
    intro n
    induction n with
    | zero =>
      intro xn xk hn hX hlo hrg ls hl kk14
      refine lv_iload hx hb dX6_readsLeft_14 (lv_at hl 4 rfl) ?_
      refine ri_bipush hx hb dX6_readsLeft_16 (by decide) ?_
      refine lv_iload_n hx hb dX6_readsLeft_18 rfl (lv_at hl 2 rfl) ?_
      refine ri_imul (z := 8 * (r / 8)) hx hb dX6_readsLeft_19 rfl ?_
      refine ri_bipush hx hb dX6_readsLeft_20 (by decide) ?_
      refine ri_iadd (z := 8 * (r / 8) + 8) hx hb dX6_readsLeft_22 rfl ?_
      refine ri_icmp_ge (tgt := 76) hx hb dX6_readsLeft_23 (by decide) (by omega) (by omega) (fun c1 => ?_) (fun c1 => ?_)
      · have e0 : xn = (fo 8 (8 * (r / 8)) 99999 (s_left F r)) := hX
        rw [e0] at hl
        exact kk14 (by have hz : xn = (fo 8 (8 * (r / 8)) 99999 (s_left F r)) := hX; rw [hz] at hrg; exact hrg) ls  (lv_sub hl [3] rfl)
      · exact absurd c1 (by omega)
    | succ n ih14 =>
      intro xn xk hn hX hlo hrg ls hl kk14
      have hp := hW.pl (k := xk) (by omega) (by omega)
      rw [show xk / 8 = r / 8 from by omega] at hp
      refine lv_iload hx hb dX6_readsLeft_14 (lv_at hl 4 rfl) ?_
      refine ri_bipush hx hb dX6_readsLeft_16 (by decide) ?_
      refine lv_iload_n hx hb dX6_readsLeft_18 rfl (lv_at hl 2 rfl) ?_
      refine ri_imul (z := 8 * (r / 8)) hx hb dX6_readsLeft_19 rfl ?_
      refine ri_bipush hx hb dX6_readsLeft_20 (by decide) ?_
      refine ri_iadd (z := 8 * (r / 8) + 8) hx hb dX6_readsLeft_22 rfl ?_
      refine ri_icmp_ge (tgt := 76) hx hb dX6_readsLeft_23 (by decide) (by omega) (by omega) (fun c2 => ?_) (fun c2 => ?_)
      · exact absurd c2 (by omega)
      refine lv_aload_n hx hb dX6_readsLeft_26 rfl (lv_at hl 0 rfl) ?_
      refine lv_iload_n hx hb dX6_readsLeft_27 rfl (lv_at hl 2 rfl) ?_
      refine call_rS (As := [.ref s0, .int (iI (r / 8))]) (rest := []) hx hb (hml.trans hl.1.symm) hown hts w lk_RX6_69 (t_X6_bears l g s0 _ F (r / 8) (hW) (by omega)) [0] rfl rfl rfl rfl (Nat.le_of_ble_eq_true rfl) ⟨Nat.le_of_ble_eq_true rfl, Nat.le_of_ble_eq_true rfl⟩ ⟨Nat.le_of_ble_eq_true rfl, Nat.le_of_ble_eq_true rfl⟩ dX6_readsLeft_28 ?_
      have r3 := bears_rg hW (b := (r / 8)) (by omega) (by omega)
      refine lv_aload_n hx hb dX6_readsLeft_31 rfl (lv_at hl 0 rfl) ?_
      refine lv_iload hx hb dX6_readsLeft_32 (lv_at hl 4 rfl) ?_
      refine call_rS (As := [.ref s0, .int (iI xk)]) (rest := [.int (iI (r_bears F (r / 8)))]) hx hb (hml.trans hl.1.symm) hown hts w lk_RX6_72 (t_X6_weak l g s0 F xk (3 * xk + 66) (by omega) (by omega)) [0] rfl rfl rfl rfl (Nat.le_of_ble_eq_true rfl) ⟨Nat.le_of_ble_eq_true rfl, Nat.le_of_ble_eq_true rfl⟩ ⟨Nat.le_of_ble_eq_true rfl, Nat.le_of_ble_eq_true rfl⟩ dX6_readsLeft_34 ?_
      have r4 := hW.bd (3 * xk + 66)
      refine ri_isub (z := r_bears F (r / 8) - F (3 * xk + 66)) hx hb dX6_readsLeft_37 rfl ?_
      refine lv_aload_n hx hb dX6_readsLeft_38 rfl (lv_at hl 0 rfl) ?_
      refine lv_iload hx hb dX6_readsLeft_39 (lv_at hl 4 rfl) ?_
      refine lv_iload_n hx hb dX6_readsLeft_41 rfl (lv_at hl 1 rfl) ?_
      refine call_rS (As := [.ref s0, .int (iI xk), .int (iI r)]) (rest := [.int (iI (r_bears F (r / 8) - F (3 * xk + 66)))]) hx hb (hml.trans hl.1.symm) hown hts w lk_RX6_75 (t_X6_weaker l g s0 F xk r (hW.b) (by omega) (by omega)) [0] rfl rfl rfl rfl (Nat.le_of_ble_eq_true rfl) ⟨Nat.le_of_ble_eq_true rfl, Nat.le_of_ble_eq_true rfl⟩ ⟨Nat.le_of_ble_eq_true rfl, Nat.le_of_ble_eq_true rfl⟩ dX6_readsLeft_42 ?_
      have r5 := weaker_rg F xk r
      refine ri_idiv (z := ((r_bears F (r / 8) - F (3 * xk + 66)) / r_weaker F xk r)) hx hb dX6_readsLeft_45 (by omega) (by omega) rfl ?_
      have r6 := div_rg (a := r_bears F (r / 8) - F (3 * xk + 66)) (b := r_weaker F xk r) (by omega) (by omega)
      refine lv_istore (lv' := [(5, .int (iI ((r_bears F (r / 8) - F (3 * xk + 66)) / r_weaker F xk r))), (0, .ref s0), (1, .int (iI r)), (2, .int (iI (r / 8))), (3, .int (iI xn)), (4, .int (iI xk))]) hx hb dX6_readsLeft_46 hl (by decide) rfl (fun ls hl => ?_)
      refine lv_aload_n hx hb dX6_readsLeft_48 rfl (lv_at hl 1 rfl) ?_
      refine lv_iload hx hb dX6_readsLeft_49 (lv_at hl 5 rfl) ?_
      refine call_rS (As := [.ref s0, .int (iI xk)]) (rest := []) hx hb (hml.trans hl.1.symm) hown hts w lk_RX6_53 (t_X6_holds l g s0 F xk (3 * xk + 65) (by omega) (by omega)) [0] rfl rfl rfl rfl (Nat.le_of_ble_eq_true rfl) ⟨Nat.le_of_ble_eq_true rfl, Nat.le_of_ble_eq_true rfl⟩ ⟨Nat.le_of_ble_eq_true rfl, Nat.le_of_ble_eq_true rfl⟩ dX6_readsLeft_51 ?_
      have r7 := hW.bd (3 * xk + 65)
      refine ri_if_lt (tgt := 68) hx hb dX6_readsLeft_54 (by decide) (by omega) (fun c8 => ?_) (fun c8 => ?_)
      · refine lv_iload_n hx hb dX6_readsLeft_68 rfl (lv_at hl 4 rfl) ?_
        refine lv_istore_n (lv' := [(3, .int (iI xn)), (5, .int (iI ((r_bears F (r / 8) - F (3 * xk + 66)) / r_weaker F xk r))), (0, .ref s0), (1, .int (iI r)), (2, .int (iI (r / 8))), (4, .int (iI xk))]) hx hb dX6_readsLeft_69 rfl hl (by decide) rfl (fun ls hl => ?_)
        refine ri_iinc (k := 5) (z := xk + 1) (lv' := [(4, .int (iI (xk + 1))), (3, .int (iI xn)), (5, .int (iI ((r_bears F (r / 8) - F (3 * xk + 66)) / r_weaker F xk r))), (0, .ref s0), (1, .int (iI r)), (2, .int (iI (r / 8)))]) hx hb dX6_readsLeft_70 hl rfl (by omega) (by decide) rfl (fun ls hl => ?_)
        refine lv_goto (tgt := 14) hx hb dX6_readsLeft_73 (by decide) ?_
        exact ih14 xn (xk + 1)  (by omega) (fo_s hX (by unfold s_left; omega)) (by omega) (by omega) ls (lv_sub hl [3, 4, 5, 1, 0] rfl) kk14
      · refine lv_iload hx hb dX6_readsLeft_57 (lv_at hl 0 rfl) ?_
        refine lv_iload_n hx hb dX6_readsLeft_59 rfl (lv_at hl 4 rfl) ?_
        refine ri_icmp_ge (tgt := 68) hx hb dX6_readsLeft_60 (by decide) (by omega) (by omega) (fun c9 => ?_) (fun c9 => ?_)
        · refine lv_iload_n hx hb dX6_readsLeft_68 rfl (lv_at hl 4 rfl) ?_
          refine lv_istore_n (lv' := [(3, .int (iI xn)), (5, .int (iI ((r_bears F (r / 8) - F (3 * xk + 66)) / r_weaker F xk r))), (0, .ref s0), (1, .int (iI r)), (2, .int (iI (r / 8))), (4, .int (iI xk))]) hx hb dX6_readsLeft_69 rfl hl (by decide) rfl (fun ls hl => ?_)
          refine ri_iinc (k := 5) (z := xk + 1) (lv' := [(4, .int (iI (xk + 1))), (3, .int (iI xn)), (5, .int (iI ((r_bears F (r / 8) - F (3 * xk + 66)) / r_weaker F xk r))), (0, .ref s0), (1, .int (iI r)), (2, .int (iI (r / 8)))]) hx hb dX6_readsLeft_70 hl rfl (by omega) (by decide) rfl (fun ls hl => ?_)
          refine lv_goto (tgt := 14) hx hb dX6_readsLeft_73 (by decide) ?_
          exact ih14 xn (xk + 1)  (by omega) (fo_s hX (by unfold s_left; omega)) (by omega) (by omega) ls (lv_sub hl [3, 4, 5, 1, 0] rfl) kk14
        · refine lv_iload hx hb dX6_readsLeft_63 (lv_at hl 0 rfl) ?_
          refine lv_goto (tgt := 69) hx hb dX6_readsLeft_65 (by decide) ?_
          refine lv_istore_n (lv' := [(3, .int (iI ((r_bears F (r / 8) - F (3 * xk + 66)) / r_weaker F xk r))), (5, .int (iI ((r_bears F (r / 8) - F (3 * xk + 66)) / r_weaker F xk r))), (0, .ref s0), (1, .int (iI r)), (2, .int (iI (r / 8))), (4, .int (iI xk))]) hx hb dX6_readsLeft_69 rfl hl (by decide) rfl (fun ls hl => ?_)
          refine ri_iinc (k := 5) (z := xk + 1) (lv' := [(4, .int (iI (xk + 1))), (3, .int (iI ((r_bears F (r / 8) - F (3 * xk + 66)) / r_weaker F xk r))), (5, .int (iI ((r_bears F (r / 8) - F (3 * xk + 66)) / r_weaker F xk r))), (0, .ref s0), (1, .int (iI r)), (2, .int (iI (r / 8)))]) hx hb dX6_readsLeft_70 hl rfl (by omega) (by decide) rfl (fun ls hl => ?_)
          refine lv_goto (tgt := 14) hx hb dX6_readsLeft_73 (by decide) ?_
          exact ih14 ((r_bears F (r / 8) - F (3 * xk + 66)) / r_weaker F xk r) (xk + 1)  (by omega) (fo_s hX (by unfold s_left; omega)) (by omega) (by omega) ls (lv_sub hl [3, 4, 5, 1, 0] rfl) kk14
  refine L14 8 99999 (8 * (r / 8))  (by omega) (rfl) (by omega) (by omega) ls (lv_sub hl [3, 4, 2, 1, 0] rfl) (fun hrx76 ls hl => ?_)
  refine lv_iload_n hx hb dX6_readsLeft_76 rfl (lv_at hl 0 rfl) ?_
  refine ri_if_ge (tgt := 84) hx hb dX6_readsLeft_77 (by decide) (by omega) (fun c10 => ?_) (fun c10 => ?_)
  · refine lv_iload_n hx hb dX6_readsLeft_84 rfl (lv_at hl 0 rfl) ?_
    exact hend.2 _ (congrArg (fun z => some (Value.int (iI z))) (show r_left F r = (fo 8 (8 * (r / 8)) 99999 (s_left F r)) from by unfold r_left; omega)) ⟨_, rfl, rfl⟩ _ _ dX6_readsLeft_85
  · refine ri_iconst hx hb dX6_readsLeft_80 ?_
    refine lv_goto (tgt := 85) hx hb dX6_readsLeft_81 (by decide) ?_
    exact hend.2 _ (congrArg (fun z => some (Value.int (iI z))) (show r_left F r = 0 from by unfold r_left; omega)) ⟨_, rfl, rfl⟩ _ _ dX6_readsLeft_85

set_option maxHeartbeats 4000000 in
set_option maxRecDepth 100000 in
theorem t_X6_greatest (l : Launch) (g : GG) (s0 : Nat) (N : Int) (F : Int → Int) (b : Int) (hW : WF N F) (hb0 : 0 ≤ b ∧ b < 6) : Met l yX6_greatest (wm yX6_greatest cX6_greatest 4 (some .int)) (rmm 1 0 0) (pR g [(s0, eI g 233 F)] [.ref s0, .int (iI b)]) (qR (some (.int (iI (r_great F b))))) 0 0 (fun _ => False) := by
  refine met_r (by decide) (Nat.le_of_ble_eq_true rfl) ?_
  intro p e s m args below meth c Q ls hx hb hml hown hts hl w hend
  have hl : lv_has ls 4 [(0, .ref s0), (1, .int (iI b))] := hl
  refine ri_iconst hx hb dX6_greatest_0 ?_
  refine lv_istore_n (lv' := [(2, .int (iI 0)), (0, .ref s0), (1, .int (iI b))]) hx hb dX6_greatest_1 rfl hl (by decide) rfl (fun ls hl => ?_)
  refine ri_bipush hx hb dX6_greatest_2 (by decide) ?_
  refine lv_iload_n hx hb dX6_greatest_4 rfl (lv_at hl 2 rfl) ?_
  refine ri_imul (z := 8 * b) hx hb dX6_greatest_5 rfl ?_
  refine lv_istore_n (lv' := [(3, .int (iI (8 * b))), (2, .int (iI 0)), (0, .ref s0), (1, .int (iI b))]) hx hb dX6_greatest_6 rfl hl (by decide) rfl (fun ls hl => ?_)
  have L7 : ∀ (n : Nat) (xn xk : Int), (xk + n = 8 * b + 8) → (fo n xk xn (s_great F) = r_great F b) → (8 * b ≤ xk) → (0 ≤ xn ∧ xn ≤ 200000000) → ∀ (ls : Array Slot), lv_has ls 4 [(0, .ref s0), (1, .int (iI b)), (2, .int (iI xn)), (3, .int (iI xk))] → (∀ (hrx51 : 0 ≤ r_great F b ∧ r_great F b ≤ 200000000) (ls : Array Slot), lv_has ls 4 [(2, .int (iI (r_great F b)))] → W p l e (rmm 1 0 0) s m args below meth c s.heap [] 0 0 Q (F0 m 51 ls [])) → W p l e (rmm 1 0 0) s m args below meth c s.heap [] 0 0 Q (F0 m 7 ls []) := by
    intro n
    induction n with
    | zero =>
      intro xn xk hn hX hlo hrg ls hl kk7
      refine lv_iload_n hx hb dX6_greatest_7 rfl (lv_at hl 3 rfl) ?_
      refine ri_bipush hx hb dX6_greatest_8 (by decide) ?_
      refine lv_iload_n hx hb dX6_greatest_10 rfl (lv_at hl 1 rfl) ?_
      refine ri_imul (z := 8 * b) hx hb dX6_greatest_11 rfl ?_
      refine ri_bipush hx hb dX6_greatest_12 (by decide) ?_
      refine ri_iadd (z := 8 * b + 8) hx hb dX6_greatest_14 rfl ?_
      refine ri_icmp_ge (tgt := 51) hx hb dX6_greatest_15 (by decide) (by omega) (by omega) (fun c1 => ?_) (fun c1 => ?_)
      · have e0 : xn = r_great F b := hX
        rw [e0] at hl
        exact kk7 (by have hz : xn = r_great F b := hX; rw [hz] at hrg; exact hrg) ls  (lv_sub hl [2] rfl)
      · exact absurd c1 (by omega)
    | succ n ih7 =>
      intro xn xk hn hX hlo hrg ls hl kk7
      have hp := hW.pl (k := xk) (by omega) (by omega)
      refine lv_iload_n hx hb dX6_greatest_7 rfl (lv_at hl 3 rfl) ?_
      refine ri_bipush hx hb dX6_greatest_8 (by decide) ?_
      refine lv_iload_n hx hb dX6_greatest_10 rfl (lv_at hl 1 rfl) ?_
      refine ri_imul (z := 8 * b) hx hb dX6_greatest_11 rfl ?_
      refine ri_bipush hx hb dX6_greatest_12 (by decide) ?_
      refine ri_iadd (z := 8 * b + 8) hx hb dX6_greatest_14 rfl ?_
      refine ri_icmp_ge (tgt := 51) hx hb dX6_greatest_15 (by decide) (by omega) (by omega) (fun c2 => ?_) (fun c2 => ?_)
      · exact absurd c2 (by omega)
      refine lv_aload_n hx hb dX6_greatest_18 rfl (lv_at hl 0 rfl) ?_
      refine lv_iload_n hx hb dX6_greatest_19 rfl (lv_at hl 3 rfl) ?_
      refine call_rS (As := [.ref s0, .int (iI xk)]) (rest := []) hx hb (hml.trans hl.1.symm) hown hts w lk_RX6_53 (t_X6_holds l g s0 F xk (3 * xk + 65) (by omega) (by omega)) [0] rfl rfl rfl rfl (Nat.le_of_ble_eq_true rfl) ⟨Nat.le_of_ble_eq_true rfl, Nat.le_of_ble_eq_true rfl⟩ ⟨Nat.le_of_ble_eq_true rfl, Nat.le_of_ble_eq_true rfl⟩ dX6_greatest_20 ?_
      have r3 := hW.bd (3 * xk + 65)
      refine ri_if_lt (tgt := 43) hx hb dX6_greatest_23 (by decide) (by omega) (fun c4 => ?_) (fun c4 => ?_)
      · refine lv_iload_n hx hb dX6_greatest_43 rfl (lv_at hl 2 rfl) ?_
        refine lv_istore_n (lv' := [(2, .int (iI xn)), (0, .ref s0), (1, .int (iI b)), (3, .int (iI xk))]) hx hb dX6_greatest_44 rfl hl (by decide) rfl (fun ls hl => ?_)
        refine ri_iinc (k := 3) (z := xk + 1) (lv' := [(3, .int (iI (xk + 1))), (2, .int (iI xn)), (0, .ref s0), (1, .int (iI b))]) hx hb dX6_greatest_45 hl rfl (by omega) (by decide) rfl (fun ls hl => ?_)
        refine lv_goto (tgt := 7) hx hb dX6_greatest_48 (by decide) ?_
        exact ih7 xn (xk + 1)  (by omega) (fo_s hX (by unfold s_great; first | omega | omega)) (by omega) (by omega) ls (lv_sub hl [2, 3, 1, 0] rfl) kk7
      · refine lv_aload_n hx hb dX6_greatest_26 rfl (lv_at hl 0 rfl) ?_
        refine lv_iload_n hx hb dX6_greatest_27 rfl (lv_at hl 3 rfl) ?_
        refine call_rS (As := [.ref s0, .int (iI xk)]) (rest := []) hx hb (hml.trans hl.1.symm) hown hts w lk_RX6_72 (t_X6_weak l g s0 F xk (3 * xk + 66) (by omega) (by omega)) [0] rfl rfl rfl rfl (Nat.le_of_ble_eq_true rfl) ⟨Nat.le_of_ble_eq_true rfl, Nat.le_of_ble_eq_true rfl⟩ ⟨Nat.le_of_ble_eq_true rfl, Nat.le_of_ble_eq_true rfl⟩ dX6_greatest_28 ?_
        have r5 := hW.bd (3 * xk + 66)
        refine lv_iload_n hx hb dX6_greatest_31 rfl (lv_at hl 2 rfl) ?_
        refine ri_icmp_le (tgt := 43) hx hb dX6_greatest_32 (by decide) (by omega) (by omega) (fun c6 => ?_) (fun c6 => ?_)
        · refine lv_iload_n hx hb dX6_greatest_43 rfl (lv_at hl 2 rfl) ?_
          refine lv_istore_n (lv' := [(2, .int (iI xn)), (0, .ref s0), (1, .int (iI b)), (3, .int (iI xk))]) hx hb dX6_greatest_44 rfl hl (by decide) rfl (fun ls hl => ?_)
          refine ri_iinc (k := 3) (z := xk + 1) (lv' := [(3, .int (iI (xk + 1))), (2, .int (iI xn)), (0, .ref s0), (1, .int (iI b))]) hx hb dX6_greatest_45 hl rfl (by omega) (by decide) rfl (fun ls hl => ?_)
          refine lv_goto (tgt := 7) hx hb dX6_greatest_48 (by decide) ?_
          exact ih7 xn (xk + 1)  (by omega) (fo_s hX (by unfold s_great; first | omega | omega)) (by omega) (by omega) ls (lv_sub hl [2, 3, 1, 0] rfl) kk7
        · refine lv_aload_n hx hb dX6_greatest_35 rfl (lv_at hl 0 rfl) ?_
          refine lv_iload_n hx hb dX6_greatest_36 rfl (lv_at hl 3 rfl) ?_
          refine call_rS (As := [.ref s0, .int (iI xk)]) (rest := []) hx hb (hml.trans hl.1.symm) hown hts w lk_RX6_72 (t_X6_weak l g s0 F xk (3 * xk + 66) (by omega) (by omega)) [0] rfl rfl rfl rfl (Nat.le_of_ble_eq_true rfl) ⟨Nat.le_of_ble_eq_true rfl, Nat.le_of_ble_eq_true rfl⟩ ⟨Nat.le_of_ble_eq_true rfl, Nat.le_of_ble_eq_true rfl⟩ dX6_greatest_37 ?_
          refine lv_goto (tgt := 44) hx hb dX6_greatest_40 (by decide) ?_
          refine lv_istore_n (lv' := [(2, .int (iI (F (3 * xk + 66)))), (0, .ref s0), (1, .int (iI b)), (3, .int (iI xk))]) hx hb dX6_greatest_44 rfl hl (by decide) rfl (fun ls hl => ?_)
          refine ri_iinc (k := 3) (z := xk + 1) (lv' := [(3, .int (iI (xk + 1))), (2, .int (iI (F (3 * xk + 66)))), (0, .ref s0), (1, .int (iI b))]) hx hb dX6_greatest_45 hl rfl (by omega) (by decide) rfl (fun ls hl => ?_)
          refine lv_goto (tgt := 7) hx hb dX6_greatest_48 (by decide) ?_
          exact ih7 (F (3 * xk + 66)) (xk + 1)  (by omega) (fo_s hX (by unfold s_great; first | omega | omega)) (by omega) (by omega) ls (lv_sub hl [2, 3, 1, 0] rfl) kk7
  refine L7 8 0 (8 * b)  (by omega) (rfl) (by omega) (by omega) ls (lv_sub hl [2, 3, 1, 0] rfl) (fun hrx51 ls hl => ?_)
  refine lv_iload_n hx hb dX6_greatest_51 rfl (lv_at hl 0 rfl) ?_
  have r7 := great_rg hW (b := b) (by omega) (by omega)
  exact hend.2 _ rfl ⟨_, rfl, rfl⟩ _ _ dX6_greatest_52

set_option maxHeartbeats 4000000 in
set_option maxRecDepth 100000 in
theorem t_X6_hundredths (l : Launch) (g : GG) (s0 : Nat) (N : Int) (F : Int → Int) (b : Int) (hW : WF N F) (hb0 : 0 ≤ b ∧ b < 6) : Met l yX6_hundredths (wm yX6_hundredths cX6_hundredths 2 (some .int)) (rmm 2 0 0) (pR g [(s0, eI g 233 F)] [.ref s0, .int (iI b)]) (qR (some (.int (iI (r_hund F b))))) 0 0 (fun _ => False) := by
  refine met_r (by decide) (Nat.le_of_ble_eq_true rfl) ?_
  intro p e s m args below meth c Q ls hx hb hml hown hts hl w hend
  have hl : lv_has ls 2 [(0, .ref s0), (1, .int (iI b))] := hl
  refine ri_bipush hx hb dX6_hundredths_0 (by decide) ?_
  refine lv_aload_n hx hb dX6_hundredths_2 rfl (lv_at hl 0 rfl) ?_
  refine lv_iload_n hx hb dX6_hundredths_3 rfl (lv_at hl 1 rfl) ?_
  refine call_rS (As := [.ref s0, .int (iI b)]) (rest := [.int (iI 100)]) hx hb (hml.trans hl.1.symm) hown hts w lk_RX6_78 (t_X6_greatest l g s0 _ F b (hW) (by omega)) [0] rfl rfl rfl rfl (Nat.le_of_ble_eq_true rfl) ⟨Nat.le_of_ble_eq_true rfl, Nat.le_of_ble_eq_true rfl⟩ ⟨Nat.le_of_ble_eq_true rfl, Nat.le_of_ble_eq_true rfl⟩ dX6_hundredths_4 ?_
  have r1 := great_rg hW (b := b) (by omega) (by omega)
  refine ri_imul (z := 100 * r_great F b) hx hb dX6_hundredths_7 (by omega) ?_
  refine lv_aload_n hx hb dX6_hundredths_8 rfl (lv_at hl 0 rfl) ?_
  refine lv_iload_n hx hb dX6_hundredths_9 rfl (lv_at hl 1 rfl) ?_
  refine call_rS (As := [.ref s0, .int (iI b)]) (rest := [.int (iI (100 * r_great F b))]) hx hb (hml.trans hl.1.symm) hown hts w lk_RX6_69 (t_X6_bears l g s0 _ F b (hW) (by omega)) [0] rfl rfl rfl rfl (Nat.le_of_ble_eq_true rfl) ⟨Nat.le_of_ble_eq_true rfl, Nat.le_of_ble_eq_true rfl⟩ ⟨Nat.le_of_ble_eq_true rfl, Nat.le_of_ble_eq_true rfl⟩ dX6_hundredths_10 ?_
  have r2 := bears_rg hW (b := b) (by omega) (by omega)
  refine ri_idiv (z := ((100 * r_great F b) / r_bears F b)) hx hb dX6_hundredths_13 (by omega) (by omega) rfl ?_
  have r3 := div_rg (a := 100 * r_great F b) (b := r_bears F b) (by omega) (by omega)
  exact hend.2 _ (congrArg (fun z => some (Value.int (iI z))) (show r_hund F b = ((100 * r_great F b) / r_bears F b) from by unfold r_hund; rfl)) ⟨_, rfl, rfl⟩ _ _ dX6_hundredths_14

set_option maxHeartbeats 4000000 in
set_option maxRecDepth 100000 in
theorem t_X6_isMarked (l : Launch) (g : GG) (s0 : Nat) (N : Int) (F : Int → Int) (b : Int) (hW : WF N F) (hb0 : 0 ≤ b ∧ b < 6) : Met l yX6_isMarked (wm yX6_isMarked cX6_isMarked 4 (some .boolean)) (rmm 3 0 0) (pR g [(s0, eI g 233 F)] [.ref s0, .int (iI b)]) (qR (some (.int (iI (if P_marked F b then 1 else 0))))) 0 0 (fun _ => False) := by
  have hs := hW.se
  refine met_r (by decide) (Nat.le_of_ble_eq_true rfl) ?_
  intro p e s m args below meth c Q ls hx hb hml hown hts hl w hend
  have hl : lv_has ls 4 [(0, .ref s0), (1, .int (iI b))] := hl
  refine lv_aload_n hx hb dX6_isMarked_0 rfl (lv_at hl 0 rfl) ?_
  refine ri_bipush hx hb dX6_isMarked_1 (by decide) ?_
  refine ri_iconst hx hb dX6_isMarked_3 ?_
  refine lv_iload_n hx hb dX6_isMarked_4 rfl (lv_at hl 1 rfl) ?_
  refine ri_imul (z := 4 * b) hx hb dX6_isMarked_5 rfl ?_
  refine ri_iadd (z := 4 * b + 41) hx hb dX6_isMarked_6 (by omega) ?_
  refine ri_iconst hx hb dX6_isMarked_7 ?_
  refine ri_iadd (z := 4 * b + 43) hx hb dX6_isMarked_8 (by omega) ?_
  refine ri_iald (v := F (4 * b + 43)) hx hb w 0 rfl (by omega) (rfl) dX6_isMarked_9 (by decide) ?_
  have r1 := hW.bd (4 * b + 43)
  refine ri_iconst hx hb dX6_isMarked_10 ?_
  refine ri_icmp_ne (tgt := 16) hx hb dX6_isMarked_11 (by decide) (by omega) (by omega) (fun c2 => ?_) (fun c2 => ?_)
  · refine lv_aload_n hx hb dX6_isMarked_16 rfl (lv_at hl 0 rfl) ?_
    refine lv_iload_n hx hb dX6_isMarked_17 rfl (lv_at hl 1 rfl) ?_
    refine ri_iconst hx hb dX6_isMarked_18 ?_
    refine call_rS (As := [.ref s0, .int (iI b), .int (iI 0)]) (rest := []) hx hb (hml.trans hl.1.symm) hown hts w lk_RX6_60 (t_X6_many l g s0 F b 0 (hW.b) (by omega) (by omega)) [0] rfl rfl rfl rfl (Nat.le_of_ble_eq_true rfl) ⟨Nat.le_of_ble_eq_true rfl, Nat.le_of_ble_eq_true rfl⟩ ⟨Nat.le_of_ble_eq_true rfl, Nat.le_of_ble_eq_true rfl⟩ dX6_isMarked_19 ?_
    have r3 := cnt_rg F b 0
    refine ri_if_ne (tgt := 27) hx hb dX6_isMarked_22 (by decide) (by omega) (fun c4 => ?_) (fun c4 => ?_)
    · refine ri_iconst hx hb dX6_isMarked_27 ?_
      refine lv_istore_n (lv' := [(2, .int (iI 0)), (0, .ref s0), (1, .int (iI b))]) hx hb dX6_isMarked_28 rfl hl (by decide) rfl (fun ls hl => ?_)
      refine ri_bipush hx hb dX6_isMarked_29 (by decide) ?_
      refine lv_iload_n hx hb dX6_isMarked_31 rfl (lv_at hl 2 rfl) ?_
      refine ri_imul (z := 8 * b) hx hb dX6_isMarked_32 rfl ?_
      refine lv_istore_n (lv' := [(3, .int (iI (8 * b))), (2, .int (iI 0)), (0, .ref s0), (1, .int (iI b))]) hx hb dX6_isMarked_33 rfl hl (by decide) rfl (fun ls hl => ?_)
      have L34 : ∀ (n : Nat) (xo xk : Int), (xk + n = 8 * b + 8) → ((xo = 1 ∨ an n xk (p_old F) = true) ↔ r_old F b = true) → (8 * b ≤ xk) → (xo = 0 ∨ xo = 1) → ∀ (ls : Array Slot), lv_has ls 4 [(0, .ref s0), (1, .int (iI b)), (2, .int (iI xo)), (3, .int (iI xk))] → (∀ (ls : Array Slot), lv_has ls 4 [(0, .ref s0), (1, .int (iI b)), (2, .int (iI (if r_old F b = true then 1 else 0)))] → W p l e (rmm 3 0 0) s m args below meth c s.heap [] 0 0 Q (F0 m 89 ls [])) → W p l e (rmm 3 0 0) s m args below meth c s.heap [] 0 0 Q (F0 m 34 ls []) := by
        intro n
        induction n with
        | zero =>
          intro xo xk hn hX hlo ho ls hl kk34
          refine lv_iload_n hx hb dX6_isMarked_34 rfl (lv_at hl 3 rfl) ?_
          refine ri_bipush hx hb dX6_isMarked_35 (by decide) ?_
          refine lv_iload_n hx hb dX6_isMarked_37 rfl (lv_at hl 1 rfl) ?_
          refine ri_imul (z := 8 * b) hx hb dX6_isMarked_38 rfl ?_
          refine ri_bipush hx hb dX6_isMarked_39 (by decide) ?_
          refine ri_iadd (z := 8 * b + 8) hx hb dX6_isMarked_41 rfl ?_
          refine ri_icmp_ge (tgt := 89) hx hb dX6_isMarked_42 (by decide) (by omega) (by omega) (fun c5 => ?_) (fun c5 => ?_)
          · have e0 := an_0 hX ho
            rw [e0] at hl
            exact kk34  ls  (lv_sub hl [0, 1, 2] rfl)
          · exact absurd c5 (by omega)
        | succ n ih34 =>
          intro xo xk hn hX hlo ho ls hl kk34
          refine lv_iload_n hx hb dX6_isMarked_34 rfl (lv_at hl 3 rfl) ?_
          refine ri_bipush hx hb dX6_isMarked_35 (by decide) ?_
          refine lv_iload_n hx hb dX6_isMarked_37 rfl (lv_at hl 1 rfl) ?_
          refine ri_imul (z := 8 * b) hx hb dX6_isMarked_38 rfl ?_
          refine ri_bipush hx hb dX6_isMarked_39 (by decide) ?_
          refine ri_iadd (z := 8 * b + 8) hx hb dX6_isMarked_41 rfl ?_
          refine ri_icmp_ge (tgt := 89) hx hb dX6_isMarked_42 (by decide) (by omega) (by omega) (fun c6 => ?_) (fun c6 => ?_)
          · exact absurd c6 (by omega)
          refine lv_iload_n hx hb dX6_isMarked_45 rfl (lv_at hl 2 rfl) ?_
          refine ri_if_ne (tgt := 77) hx hb dX6_isMarked_46 (by decide) (by omega) (fun c7 => ?_) (fun c7 => ?_)
          · refine ri_iconst hx hb dX6_isMarked_77 ?_
            refine lv_goto (tgt := 82) hx hb dX6_isMarked_78 (by decide) ?_
            refine lv_istore_n (lv' := [(2, .int (iI 1)), (0, .ref s0), (1, .int (iI b)), (3, .int (iI xk))]) hx hb dX6_isMarked_82 rfl hl (by decide) rfl (fun ls hl => ?_)
            refine ri_iinc (k := 3) (z := xk + 1) (lv' := [(3, .int (iI (xk + 1))), (2, .int (iI 1)), (0, .ref s0), (1, .int (iI b))]) hx hb dX6_isMarked_83 hl rfl (by omega) (by decide) rfl (fun ls hl => ?_)
            refine lv_goto (tgt := 34) hx hb dX6_isMarked_86 (by decide) ?_
            exact ih34 1 (xk + 1)  (by omega) (an_s hX (by simp only [p_old, decide_eq_true_eq]; refine ⟨fun _ => ?_, fun _ => ?_⟩ <;> first | trivial | omega)) (by omega) (by omega) ls (lv_sub hl [2, 3, 1, 0] rfl) kk34
          · refine lv_aload_n hx hb dX6_isMarked_49 rfl (lv_at hl 0 rfl) ?_
            refine lv_iload_n hx hb dX6_isMarked_50 rfl (lv_at hl 3 rfl) ?_
            refine call_rS (As := [.ref s0, .int (iI xk)]) (rest := []) hx hb (hml.trans hl.1.symm) hown hts w lk_RX6_53 (t_X6_holds l g s0 F xk (3 * xk + 65) (by omega) (by omega)) [0] rfl rfl rfl rfl (Nat.le_of_ble_eq_true rfl) ⟨Nat.le_of_ble_eq_true rfl, Nat.le_of_ble_eq_true rfl⟩ ⟨Nat.le_of_ble_eq_true rfl, Nat.le_of_ble_eq_true rfl⟩ dX6_isMarked_51 ?_
            have r8 := hW.bd (3 * xk + 65)
            refine ri_if_lt (tgt := 81) hx hb dX6_isMarked_54 (by decide) (by omega) (fun c9 => ?_) (fun c9 => ?_)
            · refine ri_iconst hx hb dX6_isMarked_81 ?_
              refine lv_istore_n (lv' := [(2, .int (iI 0)), (0, .ref s0), (1, .int (iI b)), (3, .int (iI xk))]) hx hb dX6_isMarked_82 rfl hl (by decide) rfl (fun ls hl => ?_)
              refine ri_iinc (k := 3) (z := xk + 1) (lv' := [(3, .int (iI (xk + 1))), (2, .int (iI 0)), (0, .ref s0), (1, .int (iI b))]) hx hb dX6_isMarked_83 hl rfl (by omega) (by decide) rfl (fun ls hl => ?_)
              refine lv_goto (tgt := 34) hx hb dX6_isMarked_86 (by decide) ?_
              exact ih34 0 (xk + 1)  (by omega) (an_s hX (by simp only [p_old, decide_eq_true_eq]; refine ⟨fun _ => ?_, fun _ => ?_⟩ <;> first | trivial | omega)) (by omega) (by omega) ls (lv_sub hl [2, 3, 1, 0] rfl) kk34
            · refine lv_aload_n hx hb dX6_isMarked_57 rfl (lv_at hl 0 rfl) ?_
              refine ri_iconst hx hb dX6_isMarked_58 ?_
              refine ri_iald (v := F 0) hx hb w 0 rfl (by omega) (rfl) dX6_isMarked_59 (by decide) ?_
              have r10 := hW.bd 0
              refine lv_aload_n hx hb dX6_isMarked_60 rfl (lv_at hl 0 rfl) ?_
              refine ri_bipush hx hb dX6_isMarked_61 (by decide) ?_
              refine ri_iconst hx hb dX6_isMarked_63 ?_
              refine lv_iload_n hx hb dX6_isMarked_64 rfl (lv_at hl 3 rfl) ?_
              refine ri_imul (z := 3 * xk) hx hb dX6_isMarked_65 rfl ?_
              refine ri_iadd (z := 3 * xk + 65) hx hb dX6_isMarked_66 (by omega) ?_
              refine ri_iconst hx hb dX6_isMarked_67 ?_
              refine ri_iadd (z := 3 * xk + 67) hx hb dX6_isMarked_68 (by omega) ?_
              refine ri_iald (v := F (3 * xk + 67)) hx hb w 0 rfl (by omega) (rfl) dX6_isMarked_69 (by decide) ?_
              have r11 := hW.bd (3 * xk + 67)
              refine ri_isub (z := F 0 - F (3 * xk + 67)) hx hb dX6_isMarked_70 rfl ?_
              refine lv_aload_n hx hb dX6_isMarked_71 rfl (lv_at hl 0 rfl) ?_
              refine ri_iconst hx hb dX6_isMarked_72 ?_
              refine ri_iald (v := F 2) hx hb w 0 rfl (by omega) (rfl) dX6_isMarked_73 (by decide) ?_
              have r12 := hW.bd 2
              refine ri_icmp_lt (tgt := 81) hx hb dX6_isMarked_74 (by decide) (by omega) (by omega) (fun c13 => ?_) (fun c13 => ?_)
              · refine ri_iconst hx hb dX6_isMarked_81 ?_
                refine lv_istore_n (lv' := [(2, .int (iI 0)), (0, .ref s0), (1, .int (iI b)), (3, .int (iI xk))]) hx hb dX6_isMarked_82 rfl hl (by decide) rfl (fun ls hl => ?_)
                refine ri_iinc (k := 3) (z := xk + 1) (lv' := [(3, .int (iI (xk + 1))), (2, .int (iI 0)), (0, .ref s0), (1, .int (iI b))]) hx hb dX6_isMarked_83 hl rfl (by omega) (by decide) rfl (fun ls hl => ?_)
                refine lv_goto (tgt := 34) hx hb dX6_isMarked_86 (by decide) ?_
                exact ih34 0 (xk + 1)  (by omega) (an_s hX (by simp only [p_old, decide_eq_true_eq]; refine ⟨fun _ => ?_, fun _ => ?_⟩ <;> first | trivial | omega)) (by omega) (by omega) ls (lv_sub hl [2, 3, 1, 0] rfl) kk34
              · refine ri_iconst hx hb dX6_isMarked_77 ?_
                refine lv_goto (tgt := 82) hx hb dX6_isMarked_78 (by decide) ?_
                refine lv_istore_n (lv' := [(2, .int (iI 1)), (0, .ref s0), (1, .int (iI b)), (3, .int (iI xk))]) hx hb dX6_isMarked_82 rfl hl (by decide) rfl (fun ls hl => ?_)
                refine ri_iinc (k := 3) (z := xk + 1) (lv' := [(3, .int (iI (xk + 1))), (2, .int (iI 1)), (0, .ref s0), (1, .int (iI b))]) hx hb dX6_isMarked_83 hl rfl (by omega) (by decide) rfl (fun ls hl => ?_)
                refine lv_goto (tgt := 34) hx hb dX6_isMarked_86 (by decide) ?_
                exact ih34 1 (xk + 1)  (by omega) (an_s hX (by simp only [p_old, decide_eq_true_eq]; refine ⟨fun _ => ?_, fun _ => ?_⟩ <;> first | trivial | omega)) (by omega) (by omega) ls (lv_sub hl [2, 3, 1, 0] rfl) kk34
      refine L34 8 0 (8 * b)  (by omega) (⟨fun h => by rcases h with h | h; exact absurd h (by omega); exact h, fun h => Or.inr h⟩) (by omega) (by omega) ls (lv_sub hl [2, 3, 1, 0] rfl) (fun ls hl => ?_)
      refine lv_iload_n hx hb dX6_isMarked_89 rfl (lv_at hl 2 rfl) ?_
      refine ri_ifb_ne (tgt := 113) hx hb dX6_isMarked_90 (by decide) (fun c14 => ?_) (fun c14 => ?_)
      · refine ri_iconst hx hb dX6_isMarked_113 ?_
        refine lv_goto (tgt := 118) hx hb dX6_isMarked_114 (by decide) ?_
        exact hend.2 _ (congrArg (fun z => some (Value.int (iI z))) (show (if P_marked F b then 1 else 0) = 1 from by exact if_pos (by first | exact Or.inl (by omega) | exact Or.inr ⟨by omega, Or.inl (by assumption)⟩ | exact Or.inr ⟨by omega, Or.inr (by omega)⟩))) ⟨_, rfl, (nz (by omega))⟩ _ _ dX6_isMarked_118
      · refine ri_bipush hx hb dX6_isMarked_93 (by decide) ?_
        refine lv_aload_n hx hb dX6_isMarked_95 rfl (lv_at hl 0 rfl) ?_
        refine lv_iload_n hx hb dX6_isMarked_96 rfl (lv_at hl 1 rfl) ?_
        refine call_rS (As := [.ref s0, .int (iI b)]) (rest := [.int (iI 100)]) hx hb (hml.trans hl.1.symm) hown hts w lk_RX6_78 (t_X6_greatest l g s0 _ F b (hW) (by omega)) [0] rfl rfl rfl rfl (Nat.le_of_ble_eq_true rfl) ⟨Nat.le_of_ble_eq_true rfl, Nat.le_of_ble_eq_true rfl⟩ ⟨Nat.le_of_ble_eq_true rfl, Nat.le_of_ble_eq_true rfl⟩ dX6_isMarked_97 ?_
        have r15 := great_rg hW (b := b) (by omega) (by omega)
        refine ri_imul (z := 100 * r_great F b) hx hb dX6_isMarked_100 (by omega) ?_
        refine lv_aload_n hx hb dX6_isMarked_101 rfl (lv_at hl 0 rfl) ?_
        refine ri_iconst hx hb dX6_isMarked_102 ?_
        refine ri_iald (v := F 1) hx hb w 0 rfl (by omega) (rfl) dX6_isMarked_103 (by decide) ?_
        have r16 := hW.bd 1
        refine lv_aload_n hx hb dX6_isMarked_104 rfl (lv_at hl 0 rfl) ?_
        refine lv_iload_n hx hb dX6_isMarked_105 rfl (lv_at hl 1 rfl) ?_
        refine call_rS (As := [.ref s0, .int (iI b)]) (rest := [.int (iI (F 1)), .int (iI (100 * r_great F b))]) hx hb (hml.trans hl.1.symm) hown hts w lk_RX6_69 (t_X6_bears l g s0 _ F b (hW) (by omega)) [0] rfl rfl rfl rfl (Nat.le_of_ble_eq_true rfl) ⟨Nat.le_of_ble_eq_true rfl, Nat.le_of_ble_eq_true rfl⟩ ⟨Nat.le_of_ble_eq_true rfl, Nat.le_of_ble_eq_true rfl⟩ dX6_isMarked_106 ?_
        have r17 := bears_rg hW (b := b) (by omega) (by omega)
        refine ri_imul (z := (F 1 * r_bears F b)) hx hb dX6_isMarked_109 rfl ?_
        have r18 := mul_rg (a := F 1) (b := r_bears F b) (by omega) (by omega)
        refine ri_icmp_lt (tgt := 117) hx hb dX6_isMarked_110 (by decide) (by omega) (by omega) (fun c19 => ?_) (fun c19 => ?_)
        · refine ri_iconst hx hb dX6_isMarked_117 ?_
          exact hend.2 _ (congrArg (fun z => some (Value.int (iI z))) (show (if P_marked F b then 1 else 0) = 0 from by exact if_neg (by rintro (hh | ⟨h1, h2 | h2⟩) <;> first | omega | exact absurd h2 (by assumption)))) ⟨_, rfl, (nz (by omega))⟩ _ _ dX6_isMarked_118
        · refine ri_iconst hx hb dX6_isMarked_113 ?_
          refine lv_goto (tgt := 118) hx hb dX6_isMarked_114 (by decide) ?_
          exact hend.2 _ (congrArg (fun z => some (Value.int (iI z))) (show (if P_marked F b then 1 else 0) = 1 from by exact if_pos (by first | exact Or.inl (by omega) | exact Or.inr ⟨by omega, Or.inl (by assumption)⟩ | exact Or.inr ⟨by omega, Or.inr (by omega)⟩))) ⟨_, rfl, (nz (by omega))⟩ _ _ dX6_isMarked_118
    · refine ri_iconst hx hb dX6_isMarked_25 ?_
      exact hend.2 _ (congrArg (fun z => some (Value.int (iI z))) (show (if P_marked F b then 1 else 0) = 0 from by exact if_neg (by rintro (hh | ⟨h1, h2 | h2⟩) <;> first | omega | exact absurd h2 (by assumption)))) ⟨_, rfl, (nz (by omega))⟩ _ _ dX6_isMarked_26
  · refine ri_iconst hx hb dX6_isMarked_14 ?_
    exact hend.2 _ (congrArg (fun z => some (Value.int (iI z))) (show (if P_marked F b then 1 else 0) = 1 from by exact if_pos (by first | exact Or.inl (by omega) | exact Or.inr ⟨by omega, Or.inl (by assumption)⟩ | exact Or.inr ⟨by omega, Or.inr (by omega)⟩))) ⟨_, rfl, (nz (by omega))⟩ _ _ dX6_isMarked_15

set_option maxHeartbeats 4000000 in
set_option maxRecDepth 100000 in
theorem t_X6_marks (l : Launch) (g : GG) (s0 : Nat) (N : Int) (F : Int → Int) (hW : WF N F) : Met l yX6_marks (wm yX6_marks cX6_marks 3 (some .int)) (rmm 4 0 0) (pR g [(s0, eI g 233 F)] [.ref s0]) (qR (some (.int (iI (r_marks F))))) 0 0 (fun _ => False) := by
  refine met_r (by decide) (Nat.le_of_ble_eq_true rfl) ?_
  intro p e s m args below meth c Q ls hx hb hml hown hts hl w hend
  have hl : lv_has ls 3 [(0, .ref s0)] := hl
  refine ri_iconst hx hb dX6_marks_0 ?_
  refine lv_istore_n (lv' := [(1, .int (iI 0)), (0, .ref s0)]) hx hb dX6_marks_1 rfl hl (by decide) rfl (fun ls hl => ?_)
  refine ri_iconst hx hb dX6_marks_2 ?_
  refine lv_istore_n (lv' := [(2, .int (iI 0)), (1, .int (iI 0)), (0, .ref s0)]) hx hb dX6_marks_3 rfl hl (by decide) rfl (fun ls hl => ?_)
  have L4 : ∀ (n : Nat) (xn xk : Int), (xk + n = 6) → (fo n xk xn (s_marks F) = r_marks F) → (0 ≤ xk) → ∀ (ls : Array Slot), lv_has ls 3 [(0, .ref s0), (1, .int (iI xn)), (2, .int (iI xk))] → (∀ (ls : Array Slot), lv_has ls 3 [(1, .int (iI (r_marks F)))] → W p l e (rmm 4 0 0) s m args below meth c s.heap [] 0 0 Q (F0 m 32 ls [])) → W p l e (rmm 4 0 0) s m args below meth c s.heap [] 0 0 Q (F0 m 4 ls []) := by
    intro n
    induction n with
    | zero =>
      intro xn xk hn hX hlo ls hl kk4
      refine lv_iload_n hx hb dX6_marks_4 rfl (lv_at hl 2 rfl) ?_
      refine ri_bipush hx hb dX6_marks_5 (by decide) ?_
      refine ri_icmp_ge (tgt := 32) hx hb dX6_marks_7 (by decide) (by omega) (by omega) (fun c1 => ?_) (fun c1 => ?_)
      · have e0 : xn = r_marks F := hX
        rw [e0] at hl
        exact kk4  ls  (lv_sub hl [1] rfl)
      · exact absurd c1 (by omega)
    | succ n ih4 =>
      intro xn xk hn hX hlo ls hl kk4
      refine lv_iload_n hx hb dX6_marks_4 rfl (lv_at hl 2 rfl) ?_
      refine ri_bipush hx hb dX6_marks_5 (by decide) ?_
      refine ri_icmp_ge (tgt := 32) hx hb dX6_marks_7 (by decide) (by omega) (by omega) (fun c2 => ?_) (fun c2 => ?_)
      · exact absurd c2 (by omega)
      refine lv_iload_n hx hb dX6_marks_10 rfl (lv_at hl 1 rfl) ?_
      refine lv_aload_n hx hb dX6_marks_11 rfl (lv_at hl 0 rfl) ?_
      refine lv_iload_n hx hb dX6_marks_12 rfl (lv_at hl 2 rfl) ?_
      refine call_rS (As := [.ref s0, .int (iI xk)]) (rest := [.int (iI xn)]) hx hb (hml.trans hl.1.symm) hown hts w lk_RX6_81 (t_X6_isMarked l g s0 _ F xk (hW) (by omega)) [0] rfl rfl rfl rfl (Nat.le_of_ble_eq_true rfl) ⟨Nat.le_of_ble_eq_true rfl, Nat.le_of_ble_eq_true rfl⟩ ⟨Nat.le_of_ble_eq_true rfl, Nat.le_of_ble_eq_true rfl⟩ dX6_marks_13 ?_
      refine ri_ifb_eq (tgt := 23) hx hb dX6_marks_16 (by decide) (fun c3 => ?_) (fun c3 => ?_)
      · refine ri_iconst hx hb dX6_marks_23 ?_
        refine ri_iadd (z := xn) hx hb dX6_marks_24 (by omega) ?_
        refine lv_istore_n (lv' := [(1, .int (iI xn)), (0, .ref s0), (2, .int (iI xk))]) hx hb dX6_marks_25 rfl hl (by decide) rfl (fun ls hl => ?_)
        refine ri_iinc (k := 2) (z := xk + 1) (lv' := [(2, .int (iI (xk + 1))), (1, .int (iI xn)), (0, .ref s0)]) hx hb dX6_marks_26 hl rfl (by omega) (by decide) rfl (fun ls hl => ?_)
        refine lv_goto (tgt := 4) hx hb dX6_marks_29 (by decide) ?_
        exact ih4 xn (xk + 1)  (by omega) (fo_s hX (by unfold s_marks; first | omega | (simp only [if_neg c3]; try omega))) (by omega) ls (lv_sub hl [2, 1, 0] rfl) kk4
      · refine ri_iconst hx hb dX6_marks_19 ?_
        refine lv_goto (tgt := 24) hx hb dX6_marks_20 (by decide) ?_
        refine ri_iadd (z := xn + 1) hx hb dX6_marks_24 rfl ?_
        refine lv_istore_n (lv' := [(1, .int (iI (xn + 1))), (0, .ref s0), (2, .int (iI xk))]) hx hb dX6_marks_25 rfl hl (by decide) rfl (fun ls hl => ?_)
        refine ri_iinc (k := 2) (z := xk + 1) (lv' := [(2, .int (iI (xk + 1))), (1, .int (iI (xn + 1))), (0, .ref s0)]) hx hb dX6_marks_26 hl rfl (by omega) (by decide) rfl (fun ls hl => ?_)
        refine lv_goto (tgt := 4) hx hb dX6_marks_29 (by decide) ?_
        exact ih4 (xn + 1) (xk + 1)  (by omega) (fo_s hX (by unfold s_marks; first | omega | (simp only [if_pos c3]; try omega))) (by omega) ls (lv_sub hl [2, 1, 0] rfl) kk4
  refine L4 6 0 0  (by omega) (rfl) (by omega) ls (lv_sub hl [2, 1, 0] rfl) (fun ls hl => ?_)
  refine lv_iload_n hx hb dX6_marks_32 rfl (lv_at hl 0 rfl) ?_
  have r4 := marks_rg F
  exact hend.2 _ rfl ⟨_, rfl, rfl⟩ _ _ dX6_marks_33

set_option maxHeartbeats 4000000 in
set_option maxRecDepth 100000 in
theorem t_X6_markedAt (l : Launch) (g : GG) (s0 : Nat) (N : Int) (F : Int → Int) (r : Int) (hW : WF N F) (h1 : -2147483648 ≤ r ∧ r ≤ 2147483647) : Met l yX6_markedAt (wm yX6_markedAt cX6_markedAt 6 (some .int)) (rmm 4 0 0) (pR g [(s0, eI g 233 F)] [.ref s0, .int (iI r)]) (qR (some (.int (iI (r_markedAt F r))))) 0 0 (fun _ => False) := by
  refine met_r (by decide) (Nat.le_of_ble_eq_true rfl) ?_
  intro p e s m args below meth c Q ls hx hb hml hown hts hl w hend
  have hl : lv_has ls 6 [(0, .ref s0), (1, .int (iI r))] := hl
  refine ri_iconst hx hb dX6_markedAt_0 ?_
  refine lv_istore_n (lv' := [(2, .int (iI 0)), (0, .ref s0), (1, .int (iI r))]) hx hb dX6_markedAt_1 rfl hl (by decide) rfl (fun ls hl => ?_)
  have L2 : ∀ (n : Nat) (xk : Int), (xk + n = 6) → (fi n xk (p_at F r) (-5) = r_markedAt F r) → (0 ≤ xk) → ∀ (ls : Array Slot), lv_has ls 6 [(0, .ref s0), (1, .int (iI r)), (2, .int (iI xk))] → (∀ (hZ : r_markedAt F r = -5) (ls : Array Slot), lv_has ls 6 [] → W p l e (rmm 4 0 0) s m args below meth c s.heap [] 0 0 Q (F0 m 110 ls [])) → W p l e (rmm 4 0 0) s m args below meth c s.heap [] 0 0 Q (F0 m 2 ls []) := by
    intro n
    induction n with
    | zero =>
      intro xk hn hV hlo ls hl kk2
      refine lv_iload_n hx hb dX6_markedAt_2 rfl (lv_at hl 2 rfl) ?_
      refine ri_bipush hx hb dX6_markedAt_3 (by decide) ?_
      refine ri_icmp_ge (tgt := 110) hx hb dX6_markedAt_5 (by decide) (by omega) (by omega) (fun c1 => ?_) (fun c1 => ?_)
      · exact kk2 hV.symm ls  (lv_sub hl [] rfl)
      · exact absurd c1 (by omega)
    | succ n ih2 =>
      intro xk hn hV hlo ls hl kk2
      refine lv_iload_n hx hb dX6_markedAt_2 rfl (lv_at hl 2 rfl) ?_
      refine ri_bipush hx hb dX6_markedAt_3 (by decide) ?_
      refine ri_icmp_ge (tgt := 110) hx hb dX6_markedAt_5 (by decide) (by omega) (by omega) (fun c2 => ?_) (fun c2 => ?_)
      · exact absurd c2 (by omega)
      refine ri_iconst hx hb dX6_markedAt_8 ?_
      refine lv_istore_n (lv' := [(3, .int (iI 0)), (0, .ref s0), (1, .int (iI r)), (2, .int (iI xk))]) hx hb dX6_markedAt_9 rfl hl (by decide) rfl (fun ls hl => ?_)
      refine ri_iconst hx hb dX6_markedAt_10 ?_
      refine lv_istore (lv' := [(4, .int (iI 0)), (3, .int (iI 0)), (0, .ref s0), (1, .int (iI r)), (2, .int (iI xk))]) hx hb dX6_markedAt_11 hl (by decide) rfl (fun ls hl => ?_)
      have L13 : ∀ (n : Nat) (xn xj : Int), (xj + n = 6) → (fo n xj xn (s_ahead F xk) = r_ahead F xk) → (0 ≤ xj) → ∀ (ls : Array Slot), lv_has ls 6 [(0, .ref s0), (1, .int (iI r)), (2, .int (iI xk)), (3, .int (iI xn)), (4, .int (iI xj))] → (∀ (ls : Array Slot), lv_has ls 6 [(0, .ref s0), (1, .int (iI r)), (2, .int (iI xk)), (3, .int (iI (r_ahead F xk)))] → W p l e (rmm 4 0 0) s m args below meth c s.heap [] 0 0 Q (F0 m 89 ls [])) → W p l e (rmm 4 0 0) s m args below meth c s.heap [] 0 0 Q (F0 m 13 ls []) := by
        intro n
        induction n with
        | zero =>
          intro xn xj hn hX hlo ls hl kk13
          refine lv_iload hx hb dX6_markedAt_13 (lv_at hl 4 rfl) ?_
          refine ri_bipush hx hb dX6_markedAt_15 (by decide) ?_
          refine ri_icmp_ge (tgt := 89) hx hb dX6_markedAt_17 (by decide) (by omega) (by omega) (fun c3 => ?_) (fun c3 => ?_)
          · have e0 : xn = r_ahead F xk := hX
            rw [e0] at hl
            exact kk13  ls  (lv_sub hl [0, 1, 2, 3] rfl)
          · exact absurd c3 (by omega)
        | succ n ih13 =>
          intro xn xj hn hX hlo ls hl kk13
          refine lv_iload hx hb dX6_markedAt_13 (lv_at hl 4 rfl) ?_
          refine ri_bipush hx hb dX6_markedAt_15 (by decide) ?_
          refine ri_icmp_ge (tgt := 89) hx hb dX6_markedAt_17 (by decide) (by omega) (by omega) (fun c4 => ?_) (fun c4 => ?_)
          · exact absurd c4 (by omega)
          refine lv_aload_n hx hb dX6_markedAt_20 rfl (lv_at hl 0 rfl) ?_
          refine lv_iload hx hb dX6_markedAt_21 (lv_at hl 4 rfl) ?_
          refine call_rS (As := [.ref s0, .int (iI xj)]) (rest := []) hx hb (hml.trans hl.1.symm) hown hts w lk_RX6_84 (t_X6_hundredths l g s0 _ F xj (hW) (by omega)) [0] rfl rfl rfl rfl (Nat.le_of_ble_eq_true rfl) ⟨Nat.le_of_ble_eq_true rfl, Nat.le_of_ble_eq_true rfl⟩ ⟨Nat.le_of_ble_eq_true rfl, Nat.le_of_ble_eq_true rfl⟩ dX6_markedAt_23 ?_
          have r5 := hund_rg hW (b := xj) (by omega) (by omega)
          refine lv_aload_n hx hb dX6_markedAt_26 rfl (lv_at hl 0 rfl) ?_
          refine lv_iload_n hx hb dX6_markedAt_27 rfl (lv_at hl 2 rfl) ?_
          refine call_rS (As := [.ref s0, .int (iI xk)]) (rest := [.int (iI (r_hund F xj))]) hx hb (hml.trans hl.1.symm) hown hts w lk_RX6_84 (t_X6_hundredths l g s0 _ F xk (hW) (by omega)) [0] rfl rfl rfl rfl (Nat.le_of_ble_eq_true rfl) ⟨Nat.le_of_ble_eq_true rfl, Nat.le_of_ble_eq_true rfl⟩ ⟨Nat.le_of_ble_eq_true rfl, Nat.le_of_ble_eq_true rfl⟩ dX6_markedAt_28 ?_
          have r6 := hund_rg hW (b := xk) (by omega) (by omega)
          refine ri_icmp_gt (tgt := 54) hx hb dX6_markedAt_31 (by decide) (by omega) (by omega) (fun c7 => ?_) (fun c7 => ?_)
          · refine ri_iconst hx hb dX6_markedAt_54 ?_
            refine lv_goto (tgt := 59) hx hb dX6_markedAt_55 (by decide) ?_
            refine lv_istore (lv' := [(5, .int (iI 1)), (0, .ref s0), (1, .int (iI r)), (2, .int (iI xk)), (3, .int (iI xn)), (4, .int (iI xj))]) hx hb dX6_markedAt_59 hl (by decide) rfl (fun ls hl => ?_)
            refine lv_iload_n hx hb dX6_markedAt_61 rfl (lv_at hl 4 rfl) ?_
            refine lv_aload_n hx hb dX6_markedAt_62 rfl (lv_at hl 1 rfl) ?_
            refine lv_iload hx hb dX6_markedAt_63 (lv_at hl 5 rfl) ?_
            refine call_rS (As := [.ref s0, .int (iI xj)]) (rest := [.int (iI xn)]) hx hb (hml.trans hl.1.symm) hown hts w lk_RX6_81 (t_X6_isMarked l g s0 _ F xj (hW) (by omega)) [0] rfl rfl rfl rfl (Nat.le_of_ble_eq_true rfl) ⟨Nat.le_of_ble_eq_true rfl, Nat.le_of_ble_eq_true rfl⟩ ⟨Nat.le_of_ble_eq_true rfl, Nat.le_of_ble_eq_true rfl⟩ dX6_markedAt_65 ?_
            refine ri_ifb_eq (tgt := 80) hx hb dX6_markedAt_68 (by decide) (fun c8 => ?_) (fun c8 => ?_)
            · refine ri_iconst hx hb dX6_markedAt_80 ?_
              refine ri_iadd (z := xn) hx hb dX6_markedAt_81 (by omega) ?_
              refine lv_istore_n (lv' := [(3, .int (iI xn)), (5, .int (iI 1)), (0, .ref s0), (1, .int (iI r)), (2, .int (iI xk)), (4, .int (iI xj))]) hx hb dX6_markedAt_82 rfl hl (by decide) rfl (fun ls hl => ?_)
              refine ri_iinc (k := 5) (z := xj + 1) (lv' := [(4, .int (iI (xj + 1))), (3, .int (iI xn)), (5, .int (iI 1)), (0, .ref s0), (1, .int (iI r)), (2, .int (iI xk))]) hx hb dX6_markedAt_83 hl rfl (by omega) (by decide) rfl (fun ls hl => ?_)
              refine lv_goto (tgt := 13) hx hb dX6_markedAt_86 (by decide) ?_
              exact ih13 xn (xj + 1)  (by omega) (fo_s hX (by unfold s_ahead; split <;> rename_i hq <;> first | omega | exact absurd hq.1 (by assumption) | (exfalso; have := hq.2; omega) | exact absurd ⟨by assumption, by omega⟩ hq)) (by omega) ls (lv_sub hl [3, 4, 5, 1, 0] rfl) kk13
            · refine lv_iload hx hb dX6_markedAt_71 (lv_at hl 0 rfl) ?_
              refine ri_if_eq (tgt := 80) hx hb dX6_markedAt_73 (by decide) (by omega) (fun c9 => ?_) (fun c9 => ?_)
              · exact absurd c9 (by omega)
              refine ri_iconst hx hb dX6_markedAt_76 ?_
              refine lv_goto (tgt := 81) hx hb dX6_markedAt_77 (by decide) ?_
              refine ri_iadd (z := xn + 1) hx hb dX6_markedAt_81 rfl ?_
              refine lv_istore_n (lv' := [(3, .int (iI (xn + 1))), (5, .int (iI 1)), (0, .ref s0), (1, .int (iI r)), (2, .int (iI xk)), (4, .int (iI xj))]) hx hb dX6_markedAt_82 rfl hl (by decide) rfl (fun ls hl => ?_)
              refine ri_iinc (k := 5) (z := xj + 1) (lv' := [(4, .int (iI (xj + 1))), (3, .int (iI (xn + 1))), (5, .int (iI 1)), (0, .ref s0), (1, .int (iI r)), (2, .int (iI xk))]) hx hb dX6_markedAt_83 hl rfl (by omega) (by decide) rfl (fun ls hl => ?_)
              refine lv_goto (tgt := 13) hx hb dX6_markedAt_86 (by decide) ?_
              exact ih13 (xn + 1) (xj + 1)  (by omega) (fo_s hX (by unfold s_ahead; split <;> rename_i hq <;> first | omega | exact absurd hq.1 (by assumption) | (exfalso; have := hq.2; omega) | exact absurd ⟨by assumption, by omega⟩ hq)) (by omega) ls (lv_sub hl [3, 4, 5, 1, 0] rfl) kk13
          · refine lv_aload_n hx hb dX6_markedAt_34 rfl (lv_at hl 0 rfl) ?_
            refine lv_iload hx hb dX6_markedAt_35 (lv_at hl 4 rfl) ?_
            refine call_rS (As := [.ref s0, .int (iI xj)]) (rest := []) hx hb (hml.trans hl.1.symm) hown hts w lk_RX6_84 (t_X6_hundredths l g s0 _ F xj (hW) (by omega)) [0] rfl rfl rfl rfl (Nat.le_of_ble_eq_true rfl) ⟨Nat.le_of_ble_eq_true rfl, Nat.le_of_ble_eq_true rfl⟩ ⟨Nat.le_of_ble_eq_true rfl, Nat.le_of_ble_eq_true rfl⟩ dX6_markedAt_37 ?_
            refine lv_aload_n hx hb dX6_markedAt_40 rfl (lv_at hl 0 rfl) ?_
            refine lv_iload_n hx hb dX6_markedAt_41 rfl (lv_at hl 2 rfl) ?_
            refine call_rS (As := [.ref s0, .int (iI xk)]) (rest := [.int (iI (r_hund F xj))]) hx hb (hml.trans hl.1.symm) hown hts w lk_RX6_84 (t_X6_hundredths l g s0 _ F xk (hW) (by omega)) [0] rfl rfl rfl rfl (Nat.le_of_ble_eq_true rfl) ⟨Nat.le_of_ble_eq_true rfl, Nat.le_of_ble_eq_true rfl⟩ ⟨Nat.le_of_ble_eq_true rfl, Nat.le_of_ble_eq_true rfl⟩ dX6_markedAt_42 ?_
            refine ri_icmp_ne (tgt := 58) hx hb dX6_markedAt_45 (by decide) (by omega) (by omega) (fun c10 => ?_) (fun c10 => ?_)
            · refine ri_iconst hx hb dX6_markedAt_58 ?_
              refine lv_istore (lv' := [(5, .int (iI 0)), (0, .ref s0), (1, .int (iI r)), (2, .int (iI xk)), (3, .int (iI xn)), (4, .int (iI xj))]) hx hb dX6_markedAt_59 hl (by decide) rfl (fun ls hl => ?_)
              refine lv_iload_n hx hb dX6_markedAt_61 rfl (lv_at hl 4 rfl) ?_
              refine lv_aload_n hx hb dX6_markedAt_62 rfl (lv_at hl 1 rfl) ?_
              refine lv_iload hx hb dX6_markedAt_63 (lv_at hl 5 rfl) ?_
              refine call_rS (As := [.ref s0, .int (iI xj)]) (rest := [.int (iI xn)]) hx hb (hml.trans hl.1.symm) hown hts w lk_RX6_81 (t_X6_isMarked l g s0 _ F xj (hW) (by omega)) [0] rfl rfl rfl rfl (Nat.le_of_ble_eq_true rfl) ⟨Nat.le_of_ble_eq_true rfl, Nat.le_of_ble_eq_true rfl⟩ ⟨Nat.le_of_ble_eq_true rfl, Nat.le_of_ble_eq_true rfl⟩ dX6_markedAt_65 ?_
              refine ri_ifb_eq (tgt := 80) hx hb dX6_markedAt_68 (by decide) (fun c11 => ?_) (fun c11 => ?_)
              · refine ri_iconst hx hb dX6_markedAt_80 ?_
                refine ri_iadd (z := xn) hx hb dX6_markedAt_81 (by omega) ?_
                refine lv_istore_n (lv' := [(3, .int (iI xn)), (5, .int (iI 0)), (0, .ref s0), (1, .int (iI r)), (2, .int (iI xk)), (4, .int (iI xj))]) hx hb dX6_markedAt_82 rfl hl (by decide) rfl (fun ls hl => ?_)
                refine ri_iinc (k := 5) (z := xj + 1) (lv' := [(4, .int (iI (xj + 1))), (3, .int (iI xn)), (5, .int (iI 0)), (0, .ref s0), (1, .int (iI r)), (2, .int (iI xk))]) hx hb dX6_markedAt_83 hl rfl (by omega) (by decide) rfl (fun ls hl => ?_)
                refine lv_goto (tgt := 13) hx hb dX6_markedAt_86 (by decide) ?_
                exact ih13 xn (xj + 1)  (by omega) (fo_s hX (by unfold s_ahead; split <;> rename_i hq <;> first | omega | exact absurd hq.1 (by assumption) | (exfalso; have := hq.2; omega) | exact absurd ⟨by assumption, by omega⟩ hq)) (by omega) ls (lv_sub hl [3, 4, 5, 1, 0] rfl) kk13
              · refine lv_iload hx hb dX6_markedAt_71 (lv_at hl 0 rfl) ?_
                refine ri_if_eq (tgt := 80) hx hb dX6_markedAt_73 (by decide) (by omega) (fun c12 => ?_) (fun c12 => ?_)
                · refine ri_iconst hx hb dX6_markedAt_80 ?_
                  refine ri_iadd (z := xn) hx hb dX6_markedAt_81 (by omega) ?_
                  refine lv_istore_n (lv' := [(3, .int (iI xn)), (5, .int (iI 0)), (0, .ref s0), (1, .int (iI r)), (2, .int (iI xk)), (4, .int (iI xj))]) hx hb dX6_markedAt_82 rfl hl (by decide) rfl (fun ls hl => ?_)
                  refine ri_iinc (k := 5) (z := xj + 1) (lv' := [(4, .int (iI (xj + 1))), (3, .int (iI xn)), (5, .int (iI 0)), (0, .ref s0), (1, .int (iI r)), (2, .int (iI xk))]) hx hb dX6_markedAt_83 hl rfl (by omega) (by decide) rfl (fun ls hl => ?_)
                  refine lv_goto (tgt := 13) hx hb dX6_markedAt_86 (by decide) ?_
                  exact ih13 xn (xj + 1)  (by omega) (fo_s hX (by unfold s_ahead; split <;> rename_i hq <;> first | omega | exact absurd hq.1 (by assumption) | (exfalso; have := hq.2; omega) | exact absurd ⟨by assumption, by omega⟩ hq)) (by omega) ls (lv_sub hl [3, 4, 5, 1, 0] rfl) kk13
                · exact absurd c12 (by omega)
            · refine lv_iload hx hb dX6_markedAt_48 (lv_at hl 4 rfl) ?_
              refine lv_iload_n hx hb dX6_markedAt_50 rfl (lv_at hl 2 rfl) ?_
              refine ri_icmp_ge (tgt := 58) hx hb dX6_markedAt_51 (by decide) (by omega) (by omega) (fun c13 => ?_) (fun c13 => ?_)
              · refine ri_iconst hx hb dX6_markedAt_58 ?_
                refine lv_istore (lv' := [(5, .int (iI 0)), (0, .ref s0), (1, .int (iI r)), (2, .int (iI xk)), (3, .int (iI xn)), (4, .int (iI xj))]) hx hb dX6_markedAt_59 hl (by decide) rfl (fun ls hl => ?_)
                refine lv_iload_n hx hb dX6_markedAt_61 rfl (lv_at hl 4 rfl) ?_
                refine lv_aload_n hx hb dX6_markedAt_62 rfl (lv_at hl 1 rfl) ?_
                refine lv_iload hx hb dX6_markedAt_63 (lv_at hl 5 rfl) ?_
                refine call_rS (As := [.ref s0, .int (iI xj)]) (rest := [.int (iI xn)]) hx hb (hml.trans hl.1.symm) hown hts w lk_RX6_81 (t_X6_isMarked l g s0 _ F xj (hW) (by omega)) [0] rfl rfl rfl rfl (Nat.le_of_ble_eq_true rfl) ⟨Nat.le_of_ble_eq_true rfl, Nat.le_of_ble_eq_true rfl⟩ ⟨Nat.le_of_ble_eq_true rfl, Nat.le_of_ble_eq_true rfl⟩ dX6_markedAt_65 ?_
                refine ri_ifb_eq (tgt := 80) hx hb dX6_markedAt_68 (by decide) (fun c14 => ?_) (fun c14 => ?_)
                · refine ri_iconst hx hb dX6_markedAt_80 ?_
                  refine ri_iadd (z := xn) hx hb dX6_markedAt_81 (by omega) ?_
                  refine lv_istore_n (lv' := [(3, .int (iI xn)), (5, .int (iI 0)), (0, .ref s0), (1, .int (iI r)), (2, .int (iI xk)), (4, .int (iI xj))]) hx hb dX6_markedAt_82 rfl hl (by decide) rfl (fun ls hl => ?_)
                  refine ri_iinc (k := 5) (z := xj + 1) (lv' := [(4, .int (iI (xj + 1))), (3, .int (iI xn)), (5, .int (iI 0)), (0, .ref s0), (1, .int (iI r)), (2, .int (iI xk))]) hx hb dX6_markedAt_83 hl rfl (by omega) (by decide) rfl (fun ls hl => ?_)
                  refine lv_goto (tgt := 13) hx hb dX6_markedAt_86 (by decide) ?_
                  exact ih13 xn (xj + 1)  (by omega) (fo_s hX (by unfold s_ahead; split <;> rename_i hq <;> first | omega | exact absurd hq.1 (by assumption) | (exfalso; have := hq.2; omega) | exact absurd ⟨by assumption, by omega⟩ hq)) (by omega) ls (lv_sub hl [3, 4, 5, 1, 0] rfl) kk13
                · refine lv_iload hx hb dX6_markedAt_71 (lv_at hl 0 rfl) ?_
                  refine ri_if_eq (tgt := 80) hx hb dX6_markedAt_73 (by decide) (by omega) (fun c15 => ?_) (fun c15 => ?_)
                  · refine ri_iconst hx hb dX6_markedAt_80 ?_
                    refine ri_iadd (z := xn) hx hb dX6_markedAt_81 (by omega) ?_
                    refine lv_istore_n (lv' := [(3, .int (iI xn)), (5, .int (iI 0)), (0, .ref s0), (1, .int (iI r)), (2, .int (iI xk)), (4, .int (iI xj))]) hx hb dX6_markedAt_82 rfl hl (by decide) rfl (fun ls hl => ?_)
                    refine ri_iinc (k := 5) (z := xj + 1) (lv' := [(4, .int (iI (xj + 1))), (3, .int (iI xn)), (5, .int (iI 0)), (0, .ref s0), (1, .int (iI r)), (2, .int (iI xk))]) hx hb dX6_markedAt_83 hl rfl (by omega) (by decide) rfl (fun ls hl => ?_)
                    refine lv_goto (tgt := 13) hx hb dX6_markedAt_86 (by decide) ?_
                    exact ih13 xn (xj + 1)  (by omega) (fo_s hX (by unfold s_ahead; split <;> rename_i hq <;> first | omega | exact absurd hq.1 (by assumption) | (exfalso; have := hq.2; omega) | exact absurd ⟨by assumption, by omega⟩ hq)) (by omega) ls (lv_sub hl [3, 4, 5, 1, 0] rfl) kk13
                  · exact absurd c15 (by omega)
              · refine ri_iconst hx hb dX6_markedAt_54 ?_
                refine lv_goto (tgt := 59) hx hb dX6_markedAt_55 (by decide) ?_
                refine lv_istore (lv' := [(5, .int (iI 1)), (0, .ref s0), (1, .int (iI r)), (2, .int (iI xk)), (3, .int (iI xn)), (4, .int (iI xj))]) hx hb dX6_markedAt_59 hl (by decide) rfl (fun ls hl => ?_)
                refine lv_iload_n hx hb dX6_markedAt_61 rfl (lv_at hl 4 rfl) ?_
                refine lv_aload_n hx hb dX6_markedAt_62 rfl (lv_at hl 1 rfl) ?_
                refine lv_iload hx hb dX6_markedAt_63 (lv_at hl 5 rfl) ?_
                refine call_rS (As := [.ref s0, .int (iI xj)]) (rest := [.int (iI xn)]) hx hb (hml.trans hl.1.symm) hown hts w lk_RX6_81 (t_X6_isMarked l g s0 _ F xj (hW) (by omega)) [0] rfl rfl rfl rfl (Nat.le_of_ble_eq_true rfl) ⟨Nat.le_of_ble_eq_true rfl, Nat.le_of_ble_eq_true rfl⟩ ⟨Nat.le_of_ble_eq_true rfl, Nat.le_of_ble_eq_true rfl⟩ dX6_markedAt_65 ?_
                refine ri_ifb_eq (tgt := 80) hx hb dX6_markedAt_68 (by decide) (fun c16 => ?_) (fun c16 => ?_)
                · refine ri_iconst hx hb dX6_markedAt_80 ?_
                  refine ri_iadd (z := xn) hx hb dX6_markedAt_81 (by omega) ?_
                  refine lv_istore_n (lv' := [(3, .int (iI xn)), (5, .int (iI 1)), (0, .ref s0), (1, .int (iI r)), (2, .int (iI xk)), (4, .int (iI xj))]) hx hb dX6_markedAt_82 rfl hl (by decide) rfl (fun ls hl => ?_)
                  refine ri_iinc (k := 5) (z := xj + 1) (lv' := [(4, .int (iI (xj + 1))), (3, .int (iI xn)), (5, .int (iI 1)), (0, .ref s0), (1, .int (iI r)), (2, .int (iI xk))]) hx hb dX6_markedAt_83 hl rfl (by omega) (by decide) rfl (fun ls hl => ?_)
                  refine lv_goto (tgt := 13) hx hb dX6_markedAt_86 (by decide) ?_
                  exact ih13 xn (xj + 1)  (by omega) (fo_s hX (by unfold s_ahead; split <;> rename_i hq <;> first | omega | exact absurd hq.1 (by assumption) | (exfalso; have := hq.2; omega) | exact absurd ⟨by assumption, by omega⟩ hq)) (by omega) ls (lv_sub hl [3, 4, 5, 1, 0] rfl) kk13
                · refine lv_iload hx hb dX6_markedAt_71 (lv_at hl 0 rfl) ?_
                  refine ri_if_eq (tgt := 80) hx hb dX6_markedAt_73 (by decide) (by omega) (fun c17 => ?_) (fun c17 => ?_)
                  · exact absurd c17 (by omega)
                  refine ri_iconst hx hb dX6_markedAt_76 ?_
                  refine lv_goto (tgt := 81) hx hb dX6_markedAt_77 (by decide) ?_
                  refine ri_iadd (z := xn + 1) hx hb dX6_markedAt_81 rfl ?_
                  refine lv_istore_n (lv' := [(3, .int (iI (xn + 1))), (5, .int (iI 1)), (0, .ref s0), (1, .int (iI r)), (2, .int (iI xk)), (4, .int (iI xj))]) hx hb dX6_markedAt_82 rfl hl (by decide) rfl (fun ls hl => ?_)
                  refine ri_iinc (k := 5) (z := xj + 1) (lv' := [(4, .int (iI (xj + 1))), (3, .int (iI (xn + 1))), (5, .int (iI 1)), (0, .ref s0), (1, .int (iI r)), (2, .int (iI xk))]) hx hb dX6_markedAt_83 hl rfl (by omega) (by decide) rfl (fun ls hl => ?_)
                  refine lv_goto (tgt := 13) hx hb dX6_markedAt_86 (by decide) ?_
                  exact ih13 (xn + 1) (xj + 1)  (by omega) (fo_s hX (by unfold s_ahead; split <;> rename_i hq <;> first | omega | exact absurd hq.1 (by assumption) | (exfalso; have := hq.2; omega) | exact absurd ⟨by assumption, by omega⟩ hq)) (by omega) ls (lv_sub hl [3, 4, 5, 1, 0] rfl) kk13
      refine L13 6 0 0  (by omega) (rfl) (by omega) ls (lv_sub hl [2, 3, 4, 1, 0] rfl) (fun ls hl => ?_)
      refine lv_aload_n hx hb dX6_markedAt_89 rfl (lv_at hl 0 rfl) ?_
      refine lv_iload_n hx hb dX6_markedAt_90 rfl (lv_at hl 2 rfl) ?_
      refine call_rS (As := [.ref s0, .int (iI xk)]) (rest := []) hx hb (hml.trans hl.1.symm) hown hts w lk_RX6_81 (t_X6_isMarked l g s0 _ F xk (hW) (by omega)) [0] rfl rfl rfl rfl (Nat.le_of_ble_eq_true rfl) ⟨Nat.le_of_ble_eq_true rfl, Nat.le_of_ble_eq_true rfl⟩ ⟨Nat.le_of_ble_eq_true rfl, Nat.le_of_ble_eq_true rfl⟩ dX6_markedAt_91 ?_
      refine ri_ifb_eq (tgt := 104) hx hb dX6_markedAt_94 (by decide) (fun c18 => ?_) (fun c18 => ?_)
      · refine ri_iinc (k := 2) (z := xk + 1) (lv' := [(2, .int (iI (xk + 1))), (0, .ref s0), (1, .int (iI r)), (3, .int (iI (r_ahead F xk)))]) hx hb dX6_markedAt_104 hl rfl (by omega) (by decide) rfl (fun ls hl => ?_)
        refine lv_goto (tgt := 2) hx hb dX6_markedAt_107 (by decide) ?_
        exact ih2 (xk + 1)  (by omega) (fi_f hV (by simp only [p_at, decide_eq_true_eq]; first | omega | (intro hh; exact absurd hh.1 (by assumption)) | (intro hh; exact absurd hh.2 (by assumption)))) (by omega) ls (lv_sub hl [1, 2, 0] rfl) kk2
      · refine lv_iload_n hx hb dX6_markedAt_97 rfl (lv_at hl 3 rfl) ?_
        refine lv_iload_n hx hb dX6_markedAt_98 rfl (lv_at hl 1 rfl) ?_
        have r19 := ahead_rg F xk
        refine ri_icmp_ne (tgt := 104) hx hb dX6_markedAt_99 (by decide) (by omega) (by omega) (fun c20 => ?_) (fun c20 => ?_)
        · refine ri_iinc (k := 2) (z := xk + 1) (lv' := [(2, .int (iI (xk + 1))), (0, .ref s0), (1, .int (iI r)), (3, .int (iI (r_ahead F xk)))]) hx hb dX6_markedAt_104 hl rfl (by omega) (by decide) rfl (fun ls hl => ?_)
          refine lv_goto (tgt := 2) hx hb dX6_markedAt_107 (by decide) ?_
          exact ih2 (xk + 1)  (by omega) (fi_f hV (by simp only [p_at, decide_eq_true_eq]; first | omega | (intro hh; exact absurd hh.1 (by assumption)) | (intro hh; exact absurd hh.2 (by assumption)))) (by omega) ls (lv_sub hl [1, 2, 0] rfl) kk2
        · refine lv_iload_n hx hb dX6_markedAt_102 rfl (lv_at hl 2 rfl) ?_
          exact hend.2 _ (congrArg (fun z => some (Value.int (iI z))) (show r_markedAt F r = xk from by exact fi_t hV (by simp only [p_at, decide_eq_true_eq]; first | omega | exact ⟨by assumption, by assumption⟩))) ⟨_, rfl, rfl⟩ _ _ dX6_markedAt_103
  refine L2 6 0  (by omega) (rfl) (by omega) ls (lv_sub hl [1, 2, 0] rfl) (fun hZ ls hl => ?_)
  refine ri_bipush hx hb dX6_markedAt_110 (by decide) ?_
  exact hend.2 _ (congrArg (fun z => some (Value.int (iI z))) (show r_markedAt F r = -5 from by exact hZ)) ⟨_, rfl, rfl⟩ _ _ dX6_markedAt_112

set_option maxHeartbeats 4000000 in
set_option maxRecDepth 100000 in
theorem t_X6_bestFree (l : Launch) (g : GG) (s0 : Nat) (F : Int → Int) (hB : Bd F) : Met l yX6_bestFree (wm yX6_bestFree cX6_bestFree 3 (some .int)) (rmm 3 0 0) (pR g [(s0, eI g 233 F)] [.ref s0]) (qR (some (.int (iI (r_best F))))) 0 0 (fun _ => False) := by
  refine met_r (by decide) (Nat.le_of_ble_eq_true rfl) ?_
  intro p e s m args below meth c Q ls hx hb hml hown hts hl w hend
  have hl : lv_has ls 3 [(0, .ref s0)] := hl
  refine ri_bipush hx hb dX6_bestFree_0 (by decide) ?_
  refine lv_istore_n (lv' := [(1, .int (iI (-5))), (0, .ref s0)]) hx hb dX6_bestFree_2 rfl hl (by decide) rfl (fun ls hl => ?_)
  refine ri_iconst hx hb dX6_bestFree_3 ?_
  refine lv_istore_n (lv' := [(2, .int (iI 0)), (1, .int (iI (-5))), (0, .ref s0)]) hx hb dX6_bestFree_4 rfl hl (by decide) rfl (fun ls hl => ?_)
  have L5 : ∀ (n : Nat) (xn xk : Int), (xk + n = 6) → (fo n xk xn (s_best F) = r_best F) → (0 ≤ xk) → (xn = -5 ∨ 0 ≤ xn ∧ xn < 6) → ∀ (ls : Array Slot), lv_has ls 3 [(0, .ref s0), (1, .int (iI xn)), (2, .int (iI xk))] → (∀ (hrx60 : r_best F = -5 ∨ 0 ≤ r_best F ∧ r_best F < 6) (ls : Array Slot), lv_has ls 3 [(1, .int (iI (r_best F)))] → W p l e (rmm 3 0 0) s m args below meth c s.heap [] 0 0 Q (F0 m 60 ls [])) → W p l e (rmm 3 0 0) s m args below meth c s.heap [] 0 0 Q (F0 m 5 ls []) := by
    intro n
    induction n with
    | zero =>
      intro xn xk hn hX hlo hrg ls hl kk5
      refine lv_iload_n hx hb dX6_bestFree_5 rfl (lv_at hl 2 rfl) ?_
      refine ri_bipush hx hb dX6_bestFree_6 (by decide) ?_
      refine ri_icmp_ge (tgt := 60) hx hb dX6_bestFree_8 (by decide) (by omega) (by omega) (fun c1 => ?_) (fun c1 => ?_)
      · have e0 : xn = r_best F := hX
        rw [e0] at hl
        exact kk5 (by have hz : xn = r_best F := hX; rw [hz] at hrg; exact hrg) ls  (lv_sub hl [1] rfl)
      · exact absurd c1 (by omega)
    | succ n ih5 =>
      intro xn xk hn hX hlo hrg ls hl kk5
      refine lv_iload_n hx hb dX6_bestFree_5 rfl (lv_at hl 2 rfl) ?_
      refine ri_bipush hx hb dX6_bestFree_6 (by decide) ?_
      refine ri_icmp_ge (tgt := 60) hx hb dX6_bestFree_8 (by decide) (by omega) (by omega) (fun c2 => ?_) (fun c2 => ?_)
      · exact absurd c2 (by omega)
      refine lv_aload_n hx hb dX6_bestFree_11 rfl (lv_at hl 0 rfl) ?_
      refine lv_iload_n hx hb dX6_bestFree_12 rfl (lv_at hl 2 rfl) ?_
      refine call_rS (As := [.ref s0, .int (iI xk)]) (rest := []) hx hb (hml.trans hl.1.symm) hown hts w lk_RX6_64 (t_X6_isFree l g s0 F xk (hB) (by omega)) [0] rfl rfl rfl rfl (Nat.le_of_ble_eq_true rfl) ⟨Nat.le_of_ble_eq_true rfl, Nat.le_of_ble_eq_true rfl⟩ ⟨Nat.le_of_ble_eq_true rfl, Nat.le_of_ble_eq_true rfl⟩ dX6_bestFree_13 ?_
      refine ri_ifb_eq (tgt := 52) hx hb dX6_bestFree_16 (by decide) (fun c3 => ?_) (fun c3 => ?_)
      · refine lv_iload_n hx hb dX6_bestFree_52 rfl (lv_at hl 1 rfl) ?_
        refine lv_istore_n (lv' := [(1, .int (iI xn)), (0, .ref s0), (2, .int (iI xk))]) hx hb dX6_bestFree_53 rfl hl (by decide) rfl (fun ls hl => ?_)
        refine ri_iinc (k := 2) (z := xk + 1) (lv' := [(2, .int (iI (xk + 1))), (1, .int (iI xn)), (0, .ref s0)]) hx hb dX6_bestFree_54 hl rfl (by omega) (by decide) rfl (fun ls hl => ?_)
        refine lv_goto (tgt := 5) hx hb dX6_bestFree_57 (by decide) ?_
        exact ih5 xn (xk + 1)  (by omega) (fo_s hX (by unfold s_best; first | omega | (simp only [if_neg c3]; try omega))) (by omega) (by omega) ls (lv_sub hl [2, 1, 0] rfl) kk5
      · refine lv_iload_n hx hb dX6_bestFree_19 rfl (lv_at hl 1 rfl) ?_
        refine ri_bipush hx hb dX6_bestFree_20 (by decide) ?_
        refine ri_icmp_eq (tgt := 48) hx hb dX6_bestFree_22 (by decide) (by omega) (by omega) (fun c4 => ?_) (fun c4 => ?_)
        · refine lv_iload_n hx hb dX6_bestFree_48 rfl (lv_at hl 2 rfl) ?_
          refine lv_goto (tgt := 53) hx hb dX6_bestFree_49 (by decide) ?_
          refine lv_istore_n (lv' := [(1, .int (iI xk)), (0, .ref s0), (2, .int (iI xk))]) hx hb dX6_bestFree_53 rfl hl (by decide) rfl (fun ls hl => ?_)
          refine ri_iinc (k := 2) (z := xk + 1) (lv' := [(2, .int (iI (xk + 1))), (1, .int (iI xk)), (0, .ref s0)]) hx hb dX6_bestFree_54 hl rfl (by omega) (by decide) rfl (fun ls hl => ?_)
          refine lv_goto (tgt := 5) hx hb dX6_bestFree_57 (by decide) ?_
          exact ih5 xk (xk + 1)  (by omega) (fo_s hX (by unfold s_best; first | omega | (simp only [if_pos c3]; try omega))) (by omega) (by omega) ls (lv_sub hl [2, 1, 0] rfl) kk5
        · refine lv_aload_n hx hb dX6_bestFree_25 rfl (lv_at hl 0 rfl) ?_
          refine ri_bipush hx hb dX6_bestFree_26 (by decide) ?_
          refine ri_iconst hx hb dX6_bestFree_28 ?_
          refine lv_iload_n hx hb dX6_bestFree_29 rfl (lv_at hl 2 rfl) ?_
          refine ri_imul (z := 4 * xk) hx hb dX6_bestFree_30 rfl ?_
          refine ri_iadd (z := 4 * xk + 41) hx hb dX6_bestFree_31 (by omega) ?_
          refine ri_iconst hx hb dX6_bestFree_32 ?_
          refine ri_iadd (z := 4 * xk + 42) hx hb dX6_bestFree_33 (by omega) ?_
          refine ri_iald (v := F (4 * xk + 42)) hx hb w 0 rfl (by omega) (rfl) dX6_bestFree_34 (by decide) ?_
          have r5 := hB.bd (4 * xk + 42)
          refine lv_aload_n hx hb dX6_bestFree_35 rfl (lv_at hl 0 rfl) ?_
          refine ri_bipush hx hb dX6_bestFree_36 (by decide) ?_
          refine ri_iconst hx hb dX6_bestFree_38 ?_
          refine lv_iload_n hx hb dX6_bestFree_39 rfl (lv_at hl 1 rfl) ?_
          refine ri_imul (z := 4 * xn) hx hb dX6_bestFree_40 rfl ?_
          refine ri_iadd (z := 4 * xn + 41) hx hb dX6_bestFree_41 (by omega) ?_
          refine ri_iconst hx hb dX6_bestFree_42 ?_
          refine ri_iadd (z := 4 * xn + 42) hx hb dX6_bestFree_43 (by omega) ?_
          refine ri_iald (v := F (4 * xn + 42)) hx hb w 0 rfl (by omega) (rfl) dX6_bestFree_44 (by decide) ?_
          have r6 := hB.bd (4 * xn + 42)
          refine ri_icmp_ge (tgt := 52) hx hb dX6_bestFree_45 (by decide) (by omega) (by omega) (fun c7 => ?_) (fun c7 => ?_)
          · refine lv_iload_n hx hb dX6_bestFree_52 rfl (lv_at hl 1 rfl) ?_
            refine lv_istore_n (lv' := [(1, .int (iI xn)), (0, .ref s0), (2, .int (iI xk))]) hx hb dX6_bestFree_53 rfl hl (by decide) rfl (fun ls hl => ?_)
            refine ri_iinc (k := 2) (z := xk + 1) (lv' := [(2, .int (iI (xk + 1))), (1, .int (iI xn)), (0, .ref s0)]) hx hb dX6_bestFree_54 hl rfl (by omega) (by decide) rfl (fun ls hl => ?_)
            refine lv_goto (tgt := 5) hx hb dX6_bestFree_57 (by decide) ?_
            exact ih5 xn (xk + 1)  (by omega) (fo_s hX (by unfold s_best; first | omega | (simp only [if_pos c3]; try omega))) (by omega) (by omega) ls (lv_sub hl [2, 1, 0] rfl) kk5
          · refine lv_iload_n hx hb dX6_bestFree_48 rfl (lv_at hl 2 rfl) ?_
            refine lv_goto (tgt := 53) hx hb dX6_bestFree_49 (by decide) ?_
            refine lv_istore_n (lv' := [(1, .int (iI xk)), (0, .ref s0), (2, .int (iI xk))]) hx hb dX6_bestFree_53 rfl hl (by decide) rfl (fun ls hl => ?_)
            refine ri_iinc (k := 2) (z := xk + 1) (lv' := [(2, .int (iI (xk + 1))), (1, .int (iI xk)), (0, .ref s0)]) hx hb dX6_bestFree_54 hl rfl (by omega) (by decide) rfl (fun ls hl => ?_)
            refine lv_goto (tgt := 5) hx hb dX6_bestFree_57 (by decide) ?_
            exact ih5 xk (xk + 1)  (by omega) (fo_s hX (by unfold s_best; first | omega | (simp only [if_pos c3]; try omega))) (by omega) (by omega) ls (lv_sub hl [2, 1, 0] rfl) kk5
  refine L5 6 (-5) 0  (by omega) (rfl) (by omega) (by omega) ls (lv_sub hl [2, 1, 0] rfl) (fun hrx60 ls hl => ?_)
  refine lv_iload_n hx hb dX6_bestFree_60 rfl (lv_at hl 0 rfl) ?_
  have r8 := best_rg F
  exact hend.2 _ rfl ⟨_, rfl, rfl⟩ _ _ dX6_bestFree_61
