set_option maxHeartbeats 4000000 in
set_option maxRecDepth 100000 in
theorem t_X6_reads (l : Launch) (g : GG) (s0 : Nat) (N : Int) (F : Int → Int) (r : Int) (hW : WF N F) (h1 : 0 ≤ r ∧ r < 48) (sz : Nat) : Met l yX6_reads (wm yX6_reads cX6_reads 4 none) (rmm 2 0 0) (pW g [(s0, eI g 233 F)] sz [.ref s0, .int (iI r)]) (qW g [(s0, eI g 233 F)] (fun vv ww => vv = none ∧ ww = [(s0, eI g 233 (r_reads F r))])) 0 0 (va_A [(s0, eI g 233 F)] sz) := by
  refine met_w (by decide) (Nat.le_of_ble_eq_true rfl) ?_
  intro p e s m args below meth c Q ls A hx hb hml hown hts hl w hin hend
  obtain ⟨H, hH0⟩ : ∃ H, H = s.heap := ⟨_, rfl⟩
  obtain ⟨locs, hL0⟩ : ∃ locs : List Loc, locs = [] := ⟨_, rfl⟩
  rw [← hH0, ← hL0] at w
  rw [← hH0, ← hL0]
  have hl : lv_has ls 4 [(0, .ref s0), (1, .int (iI r))] := hl
  refine lv_iload_n hx hb dX6_reads_0 rfl (lv_at hl 1 rfl) ?_
  refine ri_bipush hx hb dX6_reads_1 (by decide) ?_
  refine ri_idiv (z := (r / 8)) hx hb dX6_reads_3 (by omega) (by omega) rfl ?_
  refine lv_istore_n (lv' := [(2, .int (iI (r / 8))), (0, .ref s0), (1, .int (iI r))]) hx hb dX6_reads_4 rfl hl (by decide) rfl (fun ls hl => ?_)
  refine ri_bipush hx hb dX6_reads_5 (by decide) ?_
  refine lv_iload_n hx hb dX6_reads_7 rfl (lv_at hl 0 rfl) ?_
  refine ri_imul (z := 8 * (r / 8)) hx hb dX6_reads_8 rfl ?_
  refine lv_istore_n (lv' := [(3, .int (iI (8 * (r / 8)))), (2, .int (iI (r / 8))), (0, .ref s0), (1, .int (iI r))]) hx hb dX6_reads_9 rfl hl (by decide) rfl (fun ls hl => ?_)
  have L10 : ∀ (n : Nat) (xk : Int) (G : Int → Int), (xk + n = 8 * (r / 8) + 8) → (fo n xk G (s_reads r) = r_readsA F r) → (8 * (r / 8) ≤ xk) → (∀ i, F i ≤ G i ∧ G i ≤ F i + 8 * (8 - n)) → ∀ (ls : Array Slot) (H : Heap) (locs : List Loc), lv_has ls 4 [(0, .ref s0), (1, .int (iI r)), (2, .int (iI (r / 8))), (3, .int (iI xk))] → Wd g A [(s0, eI g 233 G)] s H locs → (∀ (ls : Array Slot) (H : Heap) (locs : List Loc), lv_has ls 4 [(0, .ref s0), (2, .int (iI (r / 8)))] → Wd g A [(s0, eI g 233 (r_readsA F r))] s H locs → W p l e (rmm 2 0 0) s m args below meth c H locs 0 0 Q (F0 m 58 ls [])) → W p l e (rmm 2 0 0) s m args below meth c H locs 0 0 Q (F0 m 10 ls []) := by
    intro n
    induction n with
    | zero =>
      intro xk G hn hX hlo hG ls H locs hl w kk10
      have hB : Bd G := fun i => by have q1 := hG i; have q2 := hW.bd i; omega
      refine lv_iload_n hx hb dX6_reads_10 rfl (lv_at hl 3 rfl) ?_
      refine ri_bipush hx hb dX6_reads_11 (by decide) ?_
      refine lv_iload_n hx hb dX6_reads_13 rfl (lv_at hl 2 rfl) ?_
      refine ri_imul (z := 8 * (r / 8)) hx hb dX6_reads_14 rfl ?_
      refine ri_bipush hx hb dX6_reads_15 (by decide) ?_
      refine ri_iadd (z := 8 * (r / 8) + 8) hx hb dX6_reads_17 rfl ?_
      refine ri_icmp_ge (tgt := 58) hx hb dX6_reads_18 (by decide) (by omega) (by omega) (fun c1 => ?_) (fun c1 => ?_)
      · have e0 : G = r_readsA F r := hX
        rw [e0] at w
        exact kk10  ls H locs  (lv_sub hl [0, 2] rfl) w
      · exact absurd c1 (by omega)
    | succ n ih10 =>
      intro xk G hn hX hlo hG ls H locs hl w kk10
      have hB : Bd G := fun i => by have q1 := hG i; have q2 := hW.bd i; omega
      refine lv_iload_n hx hb dX6_reads_10 rfl (lv_at hl 3 rfl) ?_
      refine ri_bipush hx hb dX6_reads_11 (by decide) ?_
      refine lv_iload_n hx hb dX6_reads_13 rfl (lv_at hl 2 rfl) ?_
      refine ri_imul (z := 8 * (r / 8)) hx hb dX6_reads_14 rfl ?_
      refine ri_bipush hx hb dX6_reads_15 (by decide) ?_
      refine ri_iadd (z := 8 * (r / 8) + 8) hx hb dX6_reads_17 rfl ?_
      refine ri_icmp_ge (tgt := 58) hx hb dX6_reads_18 (by decide) (by omega) (by omega) (fun c2 => ?_) (fun c2 => ?_)
      · exact absurd c2 (by omega)
      refine lv_aload_n hx hb dX6_reads_21 rfl (lv_at hl 0 rfl) ?_
      refine ri_bipush hx hb dX6_reads_22 (by decide) ?_
      refine ri_iconst hx hb dX6_reads_24 ?_
      refine lv_iload_n hx hb dX6_reads_25 rfl (lv_at hl 3 rfl) ?_
      refine ri_imul (z := 3 * xk) hx hb dX6_reads_26 rfl ?_
      refine ri_iadd (z := 3 * xk + 65) hx hb dX6_reads_27 (by omega) ?_
      refine ri_iconst hx hb dX6_reads_28 ?_
      refine ri_iadd (z := 3 * xk + 66) hx hb dX6_reads_29 (by omega) ?_
      refine lv_dup2_11 hx hb dX6_reads_30 rfl rfl ?_
      refine ri_iald (v := G (3 * xk + 66)) hx hb w 0 rfl (by omega) (rfl) dX6_reads_31 (by decide) ?_
      have r3 := hB.bd (3 * xk + 66)
      refine lv_aload_n hx hb dX6_reads_32 rfl (lv_at hl 0 rfl) ?_
      refine lv_iload_n hx hb dX6_reads_33 rfl (lv_at hl 3 rfl) ?_
      refine call_rS (As := [.ref s0, .int (iI xk)]) (rest := [.int (iI (G (3 * xk + 66))), .int (iI (3 * xk + 66)), .ref s0]) hx hb (hml.trans hl.1.symm) hown hts w lk_RX6_53 (t_X6_holds l g s0 G xk (3 * xk + 65) (by omega) (by omega)) [0] rfl rfl rfl rfl (Nat.le_of_ble_eq_true rfl) ⟨Nat.le_of_ble_eq_true rfl, Nat.le_of_ble_eq_true rfl⟩ ⟨Nat.le_of_ble_eq_true rfl, Nat.le_of_ble_eq_true rfl⟩ dX6_reads_34 ?_
      have r4 := hB.bd (3 * xk + 65)
      refine ri_if_lt (tgt := 49) hx hb dX6_reads_37 (by decide) (by omega) (fun c5 => ?_) (fun c5 => ?_)
      · refine ri_iconst hx hb dX6_reads_49 ?_
        refine ri_iadd (z := G (3 * xk + 66)) hx hb dX6_reads_50 (by omega) ?_
        refine ri_iast hx hb w 0 rfl (by omega) dX6_reads_51 (by decide) (fun H locs w => ?_)
        have w : Wd g A [(s0, eI g 233 (up G (3 * xk + 66) (G (3 * xk + 66))))] s H locs := w
        refine ri_iinc (k := 3) (z := xk + 1) (lv' := [(3, .int (iI (xk + 1))), (0, .ref s0), (1, .int (iI r)), (2, .int (iI (r / 8)))]) hx hb dX6_reads_52 hl rfl (by omega) (by decide) rfl (fun ls hl => ?_)
        refine lv_goto (tgt := 10) hx hb dX6_reads_55 (by decide) ?_
        exact ih10 (xk + 1) ((up G (3 * xk + 66) (G (3 * xk + 66)))) (by omega) (fo_s hX (by unfold s_reads; first | rw [if_pos (by omega)] | rw [if_neg (by omega), Int.add_zero])) (by omega) (reads_G hG (by omega)) ls H locs (lv_sub hl [1, 2, 3, 0] rfl) w kk10
      · refine lv_aload_n hx hb dX6_reads_40 rfl (lv_at hl 0 rfl) ?_
        refine lv_iload_n hx hb dX6_reads_41 rfl (lv_at hl 3 rfl) ?_
        refine lv_iload_n hx hb dX6_reads_42 rfl (lv_at hl 1 rfl) ?_
        refine call_rS (As := [.ref s0, .int (iI xk), .int (iI r)]) (rest := [.int (iI (G (3 * xk + 66))), .int (iI (3 * xk + 66)), .ref s0]) hx hb (hml.trans hl.1.symm) hown hts w lk_RX6_75 (t_X6_weaker l g s0 G xk r (hB) (by omega) (by omega)) [0] rfl rfl rfl rfl (Nat.le_of_ble_eq_true rfl) ⟨Nat.le_of_ble_eq_true rfl, Nat.le_of_ble_eq_true rfl⟩ ⟨Nat.le_of_ble_eq_true rfl, Nat.le_of_ble_eq_true rfl⟩ dX6_reads_43 ?_
        have r6 := weaker_rg G xk r
        refine lv_goto (tgt := 50) hx hb dX6_reads_46 (by decide) ?_
        refine ri_iadd (z := G (3 * xk + 66) + r_weaker G xk r) hx hb dX6_reads_50 rfl ?_
        refine ri_iast hx hb w 0 rfl (by omega) dX6_reads_51 (by decide) (fun H locs w => ?_)
        have w : Wd g A [(s0, eI g 233 (up G (3 * xk + 66) (G (3 * xk + 66) + r_weaker G xk r)))] s H locs := w
        refine ri_iinc (k := 3) (z := xk + 1) (lv' := [(3, .int (iI (xk + 1))), (0, .ref s0), (1, .int (iI r)), (2, .int (iI (r / 8)))]) hx hb dX6_reads_52 hl rfl (by omega) (by decide) rfl (fun ls hl => ?_)
        refine lv_goto (tgt := 10) hx hb dX6_reads_55 (by decide) ?_
        exact ih10 (xk + 1) ((up G (3 * xk + 66) (G (3 * xk + 66) + r_weaker G xk r))) (by omega) (fo_s hX (by unfold s_reads; first | rw [if_pos (by omega)] | rw [if_neg (by omega), Int.add_zero])) (by omega) (reads_G hG (by omega)) ls H locs (lv_sub hl [1, 2, 3, 0] rfl) w kk10
  refine L10 8 (8 * (r / 8)) (F) (by omega) (rfl) (by omega) (fun i => by omega) ls H locs (lv_sub hl [2, 3, 1, 0] rfl) w (fun ls H locs hl w => ?_)
  refine lv_aload_n hx hb dX6_reads_58 rfl (lv_at hl 0 rfl) ?_
  refine ri_bipush hx hb dX6_reads_59 (by decide) ?_
  refine ri_iconst hx hb dX6_reads_61 ?_
  refine lv_iload_n hx hb dX6_reads_62 rfl (lv_at hl 1 rfl) ?_
  refine ri_imul (z := 4 * (r / 8)) hx hb dX6_reads_63 rfl ?_
  refine ri_iadd (z := 4 * (r / 8) + 41) hx hb dX6_reads_64 (by omega) ?_
  refine ri_iconst hx hb dX6_reads_65 ?_
  refine ri_iadd (z := 4 * (r / 8) + 44) hx hb dX6_reads_66 (by omega) ?_
  refine lv_dup2_11 hx hb dX6_reads_67 rfl rfl ?_
  refine ri_iald (v := (r_readsA F r) (4 * (r / 8) + 44)) hx hb w 0 rfl (by omega) (rfl) dX6_reads_68 (by decide) ?_
  refine ri_iconst hx hb dX6_reads_69 ?_
  refine ri_iadd (z := (r_readsA F r) (4 * (r / 8) + 44) + 1) hx hb dX6_reads_70 rfl ?_
  refine ri_iast hx hb w 0 rfl (by omega) dX6_reads_71 (by decide) (fun H locs w => ?_)
  have w : Wd g A [(s0, eI g 233 (up (r_readsA F r) (4 * (r / 8) + 44) ((r_readsA F r) (4 * (r / 8) + 44) + 1)))] s H locs := w
  exact hend.1 rfl _ _ _ _ _ dX6_reads_72 w ⟨rfl, rfl⟩

set_option maxHeartbeats 4000000 in
set_option maxRecDepth 100000 in
theorem t_X6_leaves (l : Launch) (g : GG) (s0 : Nat) (N : Int) (F : Int → Int) (v : Int) (hW : WF N F) (h1 : -2147483648 ≤ v ∧ v ≤ 2147483647) (sz : Nat) : Met l yX6_leaves (wm yX6_leaves cX6_leaves 4 none) (rmm 1 0 0) (pW g [(s0, eI g 233 F)] sz [.ref s0, .int (iI v)]) (qW g [(s0, eI g 233 F)] (fun vv ww => vv = none ∧ ww = [(s0, eI g 233 (r_leaves F v))])) 0 0 (va_A [(s0, eI g 233 F)] sz) := by
  have he := hW.he
  have hs := hW.se
  refine met_w (by decide) (Nat.le_of_ble_eq_true rfl) ?_
  intro p e s m args below meth c Q ls A hx hb hml hown hts hl w hin hend
  obtain ⟨H, hH0⟩ : ∃ H, H = s.heap := ⟨_, rfl⟩
  obtain ⟨locs, hL0⟩ : ∃ locs : List Loc, locs = [] := ⟨_, rfl⟩
  rw [← hH0, ← hL0] at w
  rw [← hH0, ← hL0]
  have hl : lv_has ls 4 [(0, .ref s0), (1, .int (iI v))] := hl
  refine lv_aload_n hx hb dX6_leaves_0 rfl (lv_at hl 0 rfl) ?_
  refine lv_iload_n hx hb dX6_leaves_1 rfl (lv_at hl 1 rfl) ?_
  refine call_rS (As := [.ref s0, .int (iI v)]) (rest := []) hx hb (hml.trans hl.1.symm) hown hts w lk_RX6_87 (t_X6_buffered l g s0 _ F v (hW) (by omega)) [0] rfl rfl rfl rfl (Nat.le_of_ble_eq_true rfl) ⟨Nat.le_of_ble_eq_true rfl, Nat.le_of_ble_eq_true rfl⟩ ⟨Nat.le_of_ble_eq_true rfl, Nat.le_of_ble_eq_true rfl⟩ dX6_leaves_2 ?_
  have r1 := buf_rg F v
  refine lv_istore_n (lv' := [(2, .int (iI (r_buf F v))), (0, .ref s0), (1, .int (iI v))]) hx hb dX6_leaves_5 rfl hl (by decide) rfl (fun ls hl => ?_)
  refine lv_iload_n hx hb dX6_leaves_6 rfl (lv_at hl 0 rfl) ?_
  refine ri_bipush hx hb dX6_leaves_7 (by decide) ?_
  refine ri_icmp_eq (tgt := 50) hx hb dX6_leaves_9 (by decide) (by omega) (by omega) (fun c2 => ?_) (fun c2 => ?_)
  · exact hend.1 rfl _ _ _ _ _ dX6_leaves_50 w ⟨rfl, (congrArg (fun z => [(s0, eI g 233 z)]) (show F = (r_leaves F v) from by exact (if_pos (by assumption)).symm))⟩
  · refine lv_aload_n hx hb dX6_leaves_12 rfl (lv_at hl 1 rfl) ?_
    refine ri_bipush hx hb dX6_leaves_13 (by decide) ?_
    refine lv_dup2_11 hx hb dX6_leaves_15 rfl rfl ?_
    refine ri_iald (v := F 11) hx hb w 0 rfl (by omega) (rfl) dX6_leaves_16 (by decide) ?_
    have r3 := hW.bd 11
    refine ri_iconst hx hb dX6_leaves_17 ?_
    refine ri_isub (z := F 11 - 1) hx hb dX6_leaves_18 rfl ?_
    refine ri_iast hx hb w 0 rfl (by omega) dX6_leaves_19 (by decide) (fun H locs w => ?_)
    have w : Wd g A [(s0, eI g 233 (up F 11 (F 11 - 1)))] s H locs := w
    refine lv_iload_n hx hb dX6_leaves_20 rfl (lv_at hl 0 rfl) ?_
    refine lv_istore_n (lv' := [(3, .int (iI (r_buf F v))), (2, .int (iI (r_buf F v))), (0, .ref s0), (1, .int (iI v))]) hx hb dX6_leaves_21 rfl hl (by decide) rfl (fun ls hl => ?_)
    have L22 : ∀ (n : Nat) (xk : Int) (G : Int → Int), (xk + n = F 11 - 1) → (fo n xk G s_leave = r_leaves F v) → (0 ≤ xk) → (G 11 = F 11 - 1) → ∀ (ls : Array Slot) (H : Heap) (locs : List Loc), lv_has ls 4 [(0, .ref s0), (3, .int (iI xk))] → Wd g A [(s0, eI g 233 G)] s H locs → (∀ (ls : Array Slot) (H : Heap) (locs : List Loc), lv_has ls 4 [] → Wd g A [(s0, eI g 233 (r_leaves F v))] s H locs → W p l e (rmm 1 0 0) s m args below meth c H locs 0 0 Q (F0 m 50 ls [])) → W p l e (rmm 1 0 0) s m args below meth c H locs 0 0 Q (F0 m 22 ls []) := by
      intro n
      induction n with
      | zero =>
        intro xk G hn hX hlo h11 ls H locs hl w kk22
        refine lv_iload_n hx hb dX6_leaves_22 rfl (lv_at hl 1 rfl) ?_
        refine lv_aload_n hx hb dX6_leaves_23 rfl (lv_at hl 0 rfl) ?_
        refine ri_bipush hx hb dX6_leaves_24 (by decide) ?_
        refine ri_iald (v := F 11 - 1) hx hb w 0 rfl (by omega) (h11) dX6_leaves_26 (by decide) ?_
        refine ri_icmp_ge (tgt := 50) hx hb dX6_leaves_27 (by decide) (by omega) (by omega) (fun c4 => ?_) (fun c4 => ?_)
        · have e0 : G = r_leaves F v := hX
          rw [e0] at w
          exact kk22  ls H locs  (lv_sub hl [] rfl) w
        · exact absurd c4 (by omega)
      | succ n ih22 =>
        intro xk G hn hX hlo h11 ls H locs hl w kk22
        refine lv_iload_n hx hb dX6_leaves_22 rfl (lv_at hl 1 rfl) ?_
        refine lv_aload_n hx hb dX6_leaves_23 rfl (lv_at hl 0 rfl) ?_
        refine ri_bipush hx hb dX6_leaves_24 (by decide) ?_
        refine ri_iald (v := F 11 - 1) hx hb w 0 rfl (by omega) (h11) dX6_leaves_26 (by decide) ?_
        refine ri_icmp_ge (tgt := 50) hx hb dX6_leaves_27 (by decide) (by omega) (by omega) (fun c5 => ?_) (fun c5 => ?_)
        · exact absurd c5 (by omega)
        refine lv_aload_n hx hb dX6_leaves_30 rfl (lv_at hl 0 rfl) ?_
        refine ri_bipush hx hb dX6_leaves_31 (by decide) ?_
        refine lv_iload_n hx hb dX6_leaves_33 rfl (lv_at hl 1 rfl) ?_
        refine ri_iadd (z := xk + 12) hx hb dX6_leaves_34 (by omega) ?_
        refine lv_aload_n hx hb dX6_leaves_35 rfl (lv_at hl 0 rfl) ?_
        refine ri_bipush hx hb dX6_leaves_36 (by decide) ?_
        refine lv_iload_n hx hb dX6_leaves_38 rfl (lv_at hl 1 rfl) ?_
        refine ri_iadd (z := xk + 12) hx hb dX6_leaves_39 (by omega) ?_
        refine ri_iconst hx hb dX6_leaves_40 ?_
        refine ri_iadd (z := xk + 13) hx hb dX6_leaves_41 (by omega) ?_
        refine ri_iald (v := G (xk + 13)) hx hb w 0 rfl (by omega) (rfl) dX6_leaves_42 (by decide) ?_
        refine ri_iast hx hb w 0 rfl (by omega) dX6_leaves_43 (by decide) (fun H locs w => ?_)
        have w : Wd g A [(s0, eI g 233 (up G (xk + 12) (G (xk + 13))))] s H locs := w
        refine ri_iinc (k := 1) (z := xk + 1) (lv' := [(3, .int (iI (xk + 1))), (0, .ref s0)]) hx hb dX6_leaves_44 hl rfl (by omega) (by decide) rfl (fun ls hl => ?_)
        refine lv_goto (tgt := 22) hx hb dX6_leaves_47 (by decide) ?_
        exact ih22 (xk + 1) ((up G (xk + 12) (G (xk + 13)))) (by omega) (fo_s hX rfl) (by omega) ((up_ne (by omega)).trans h11) ls H locs (lv_sub hl [1, 0] rfl) w kk22
    refine L22 (F 11 - 1 - r_buf F v).toNat (r_buf F v) (up F 11 (F 11 - 1)) (by omega) (by unfold r_leaves; rw [if_neg (by assumption)]) (by omega) (up_eq rfl) ls H locs (lv_sub hl [2, 0] rfl) w (fun ls H locs hl w => ?_)
    exact hend.1 rfl _ _ _ _ _ dX6_leaves_50 w ⟨rfl, rfl⟩

set_option maxHeartbeats 4000000 in
set_option maxRecDepth 100000 in
theorem t_X6_shuts (l : Launch) (g : GG) (s0 : Nat) (F : Int → Int) (b : Int) (hB : Bd F) (hb0 : 0 ≤ b ∧ b < 6) (sz : Nat) : Met l yX6_shuts (wm yX6_shuts cX6_shuts 2 none) (rmm 0 0 0) (pW g [(s0, eI g 233 F)] sz [.ref s0, .int (iI b)]) (qW g [(s0, eI g 233 F)] (fun vv ww => vv = none ∧ ww = [(s0, eI g 233 (r_shut F b))])) 0 0 (va_A [(s0, eI g 233 F)] sz) := by
  refine met_w (by decide) (Nat.le_of_ble_eq_true rfl) ?_
  intro p e s m args below meth c Q ls A hx hb hml hown hts hl w hin hend
  obtain ⟨H, hH0⟩ : ∃ H, H = s.heap := ⟨_, rfl⟩
  obtain ⟨locs, hL0⟩ : ∃ locs : List Loc, locs = [] := ⟨_, rfl⟩
  rw [← hH0, ← hL0] at w
  rw [← hH0, ← hL0]
  have hl : lv_has ls 2 [(0, .ref s0), (1, .int (iI b))] := hl
  refine lv_aload_n hx hb dX6_shuts_0 rfl (lv_at hl 0 rfl) ?_
  refine ri_bipush hx hb dX6_shuts_1 (by decide) ?_
  refine lv_aload_n hx hb dX6_shuts_3 rfl (lv_at hl 0 rfl) ?_
  refine ri_bipush hx hb dX6_shuts_4 (by decide) ?_
  refine ri_iald (v := F 6) hx hb w 0 rfl (by omega) (rfl) dX6_shuts_6 (by decide) ?_
  have r1 := hB.bd 6
  refine lv_iload_n hx hb dX6_shuts_7 rfl (lv_at hl 1 rfl) ?_
  refine ri_icmp_ne (tgt := 16) hx hb dX6_shuts_8 (by decide) (by omega) (by omega) (fun c2 => ?_) (fun c2 => ?_)
  · refine lv_aload_n hx hb dX6_shuts_16 rfl (lv_at hl 0 rfl) ?_
    refine ri_bipush hx hb dX6_shuts_17 (by decide) ?_
    refine ri_iald (v := F 6) hx hb w 0 rfl (by omega) (rfl) dX6_shuts_19 (by decide) ?_
    refine ri_iast hx hb w 0 rfl (by omega) dX6_shuts_20 (by decide) (fun H locs w => ?_)
    have w : Wd g A [(s0, eI g 233 (up F 6 (F 6)))] s H locs := w
    exact hend.1 rfl _ _ _ _ _ dX6_shuts_21 w ⟨rfl, (congrArg (fun z => [(s0, eI g 233 z)]) (show (up F 6 (F 6)) = (r_shut F b) from by unfold r_shut; first | rw [if_pos (by assumption)] | rw [if_neg (by assumption)]))⟩
  · refine ri_bipush hx hb dX6_shuts_11 (by decide) ?_
    refine lv_goto (tgt := 20) hx hb dX6_shuts_13 (by decide) ?_
    refine ri_iast hx hb w 0 rfl (by omega) dX6_shuts_20 (by decide) (fun H locs w => ?_)
    have w : Wd g A [(s0, eI g 233 (up F 6 (-5)))] s H locs := w
    exact hend.1 rfl _ _ _ _ _ dX6_shuts_21 w ⟨rfl, (congrArg (fun z => [(s0, eI g 233 z)]) (show (up F 6 (-5)) = (r_shut F b) from by unfold r_shut; first | rw [if_pos (by assumption)] | rw [if_neg (by assumption)]))⟩

set_option maxHeartbeats 4000000 in
set_option maxRecDepth 100000 in
theorem t_X6_fronts (l : Launch) (g : GG) (s0 : Nat) (N : Int) (F : Int → Int) (v : Int) (hW : WF N F) (hp0 : 0 ≤ v ∧ v ≤ 23) (sz : Nat) : Met l yX6_fronts (wm yX6_fronts cX6_fronts 3 none) (rmm 2 0 0) (pW g [(s0, eI g 233 F)] sz [.ref s0, .int (iI v)]) (qW g [(s0, eI g 233 F)] (fun vv ww => vv = none ∧ ww = [(s0, eI g 233 (r_fronts F v))])) 0 0 (va_A [(s0, eI g 233 F)] sz) := by
  have hW1 := wf_leaves hW v
  have he := hW1.he
  have hs := hW1.se
  refine met_w (by decide) (Nat.le_of_ble_eq_true rfl) ?_
  intro p e s m args below meth c Q ls A hx hb hml hown hts hl w hin hend
  obtain ⟨H, hH0⟩ : ∃ H, H = s.heap := ⟨_, rfl⟩
  obtain ⟨locs, hL0⟩ : ∃ locs : List Loc, locs = [] := ⟨_, rfl⟩
  rw [← hH0, ← hL0] at w
  rw [← hH0, ← hL0]
  have hl : lv_has ls 3 [(0, .ref s0), (1, .int (iI v))] := hl
  refine lv_aload_n hx hb dX6_fronts_0 rfl (lv_at hl 0 rfl) ?_
  refine lv_iload_n hx hb dX6_fronts_1 rfl (lv_at hl 1 rfl) ?_
  refine call_wS (wr := []) (As := [.ref s0, .int (iI v)]) (rest := []) hx hb (hml.trans hl.1.symm) hown hts w lk_RX6_90 (fun sz => t_X6_leaves l g s0 _ F v (hW) (by omega) sz) [0] [] rfl rfl rfl rfl (by decide) rfl rfl (Nat.le_of_ble_eq_true rfl) ⟨Nat.le_of_ble_eq_true rfl, Nat.le_of_ble_eq_true rfl⟩ ⟨Nat.le_of_ble_eq_true rfl, Nat.le_of_ble_eq_true rfl⟩ dX6_fronts_2 (fun v w1 H locs hr w => ?_)
  obtain ⟨rfl, rfl⟩ := hr
  have w : Wd g A [(s0, eI g 233 (r_leaves F v))] s H locs := w
  refine lv_aload_n hx hb dX6_fronts_5 rfl (lv_at hl 0 rfl) ?_
  refine ri_iconst hx hb dX6_fronts_6 ?_
  refine ri_iald (v := (r_leaves F v) 4) hx hb w 0 rfl (by omega) (rfl) dX6_fronts_7 (by decide) ?_
  have r1 := hW1.bd 4
  refine ri_if_ne (tgt := 12) hx hb dX6_fronts_8 (by decide) (by omega) (fun c2 => ?_) (fun c2 => ?_)
  · have J39 : ∀ (ls : Array Slot) (H : Heap) (locs : List Loc), lv_has ls 3 [(0, .ref s0), (1, .int (iI v))] → Wd g A [(s0, eI g 233 (up (r_leaves F v) 11 (if r_leaves F v 11 = r_leaves F v 4 then r_leaves F v 11 - 1 else r_leaves F v 11)))] s H locs → W p l e (rmm 2 0 0) s m args below meth c H locs 0 0 Q (F0 m 39 ls []) := by
      intro ls H locs hl w
      refine lv_aload_n hx hb dX6_fronts_39 rfl (lv_at hl 0 rfl) ?_
      refine ri_bipush hx hb dX6_fronts_40 (by decide) ?_
      refine ri_iald (v := (if r_leaves F v 11 = r_leaves F v 4 then r_leaves F v 11 - 1 else r_leaves F v 11)) hx hb w 0 rfl (by omega) (up_eq rfl) dX6_fronts_42 (by decide) ?_
      refine lv_istore_n (lv' := [(2, .int (iI (if r_leaves F v 11 = r_leaves F v 4 then r_leaves F v 11 - 1 else r_leaves F v 11))), (0, .ref s0), (1, .int (iI v))]) hx hb dX6_fronts_43 rfl hl (by decide) rfl (fun ls hl => ?_)
      have L44 : ∀ (n : Nat) (xk : Int) (G : Int → Int), (xk = n) → (r_back n G = r_back ((up (r_leaves F v) 11 (if r_leaves F v 11 = r_leaves F v 4 then r_leaves F v 11 - 1 else r_leaves F v 11)) 11).toNat (up (r_leaves F v) 11 (if r_leaves F v 11 = r_leaves F v 4 then r_leaves F v 11 - 1 else r_leaves F v 11))) → (xk ≤ 3) → ∀ (ls : Array Slot) (H : Heap) (locs : List Loc), lv_has ls 3 [(0, .ref s0), (1, .int (iI v)), (2, .int (iI xk))] → Wd g A [(s0, eI g 233 G)] s H locs → (∀ (ls : Array Slot) (H : Heap) (locs : List Loc), lv_has ls 3 [(0, .ref s0), (1, .int (iI v))] → Wd g A [(s0, eI g 233 (r_back ((up (r_leaves F v) 11 (if r_leaves F v 11 = r_leaves F v 4 then r_leaves F v 11 - 1 else r_leaves F v 11)) 11).toNat (up (r_leaves F v) 11 (if r_leaves F v 11 = r_leaves F v 4 then r_leaves F v 11 - 1 else r_leaves F v 11))))] s H locs → W p l e (rmm 2 0 0) s m args below meth c H locs 0 0 Q (F0 m 68 ls [])) → W p l e (rmm 2 0 0) s m args below meth c H locs 0 0 Q (F0 m 44 ls []) := by
        intro n
        induction n with
        | zero =>
          intro xk G hn hX hlo ls H locs hl w kk44
          refine lv_iload_n hx hb dX6_fronts_44 rfl (lv_at hl 2 rfl) ?_
          refine ri_if_le (tgt := 68) hx hb dX6_fronts_45 (by decide) (by omega) (fun c3 => ?_) (fun c3 => ?_)
          · have e0 : G = r_back ((up (r_leaves F v) 11 (if r_leaves F v 11 = r_leaves F v 4 then r_leaves F v 11 - 1 else r_leaves F v 11)) 11).toNat (up (r_leaves F v) 11 (if r_leaves F v 11 = r_leaves F v 4 then r_leaves F v 11 - 1 else r_leaves F v 11)) := hX
            rw [e0] at w
            exact kk44  ls H locs  (lv_sub hl [0, 1] rfl) w
          · exact absurd c3 (by omega)
        | succ n ih44 =>
          intro xk G hn hX hlo ls H locs hl w kk44
          refine lv_iload_n hx hb dX6_fronts_44 rfl (lv_at hl 2 rfl) ?_
          refine ri_if_le (tgt := 68) hx hb dX6_fronts_45 (by decide) (by omega) (fun c4 => ?_) (fun c4 => ?_)
          · exact absurd c4 (by omega)
          refine lv_aload_n hx hb dX6_fronts_48 rfl (lv_at hl 0 rfl) ?_
          refine ri_bipush hx hb dX6_fronts_49 (by decide) ?_
          refine lv_iload_n hx hb dX6_fronts_51 rfl (lv_at hl 2 rfl) ?_
          refine ri_iadd (z := xk + 12) hx hb dX6_fronts_52 (by omega) ?_
          refine lv_aload_n hx hb dX6_fronts_53 rfl (lv_at hl 0 rfl) ?_
          refine ri_bipush hx hb dX6_fronts_54 (by decide) ?_
          refine lv_iload_n hx hb dX6_fronts_56 rfl (lv_at hl 2 rfl) ?_
          refine ri_iadd (z := xk + 12) hx hb dX6_fronts_57 (by omega) ?_
          refine ri_iconst hx hb dX6_fronts_58 ?_
          refine ri_isub (z := xk + 11) hx hb dX6_fronts_59 (by omega) ?_
          refine ri_iald (v := G (xk + 11)) hx hb w 0 rfl (by omega) (rfl) dX6_fronts_60 (by decide) ?_
          refine ri_iast hx hb w 0 rfl (by omega) dX6_fronts_61 (by decide) (fun H locs w => ?_)
          have w : Wd g A [(s0, eI g 233 (up G (xk + 12) (G (xk + 11))))] s H locs := w
          refine ri_iinc (k := 2) (z := xk - 1) (lv' := [(2, .int (iI (xk - 1))), (0, .ref s0), (1, .int (iI v))]) hx hb dX6_fronts_62 hl rfl (by omega) (by decide) rfl (fun ls hl => ?_)
          refine lv_goto (tgt := 44) hx hb dX6_fronts_65 (by decide) ?_
          exact ih44 (xk - 1) ((up G (xk + 12) (G (xk + 11)))) (by omega) ((by rw [← hX, show xk = (n : Int) + 1 from by omega]; rfl)) (by omega) ls H locs (lv_sub hl [1, 2, 0] rfl) w kk44
      refine L44 ((up (r_leaves F v) 11 (if r_leaves F v 11 = r_leaves F v 4 then r_leaves F v 11 - 1 else r_leaves F v 11)) 11).toNat (if r_leaves F v 11 = r_leaves F v 4 then r_leaves F v 11 - 1 else r_leaves F v 11) (up (r_leaves F v) 11 (if r_leaves F v 11 = r_leaves F v 4 then r_leaves F v 11 - 1 else r_leaves F v 11)) (by rw [up_eq rfl]; omega) (rfl) (by omega) ls H locs (lv_sub hl [1, 2, 0] rfl) w (fun ls H locs hl w => ?_)
      refine lv_aload_n hx hb dX6_fronts_68 rfl (lv_at hl 0 rfl) ?_
      refine ri_bipush hx hb dX6_fronts_69 (by decide) ?_
      refine lv_iload_n hx hb dX6_fronts_71 rfl (lv_at hl 1 rfl) ?_
      refine ri_iast hx hb w 0 rfl (by omega) dX6_fronts_72 (by decide) (fun H locs w => ?_)
      have w : Wd g A [(s0, eI g 233 (up (r_back ((up (r_leaves F v) 11 (if r_leaves F v 11 = r_leaves F v 4 then r_leaves F v 11 - 1 else r_leaves F v 11)) 11).toNat (up (r_leaves F v) 11 (if r_leaves F v 11 = r_leaves F v 4 then r_leaves F v 11 - 1 else r_leaves F v 11))) 12 v))] s H locs := w
      refine lv_aload_n hx hb dX6_fronts_73 rfl (lv_at hl 0 rfl) ?_
      refine ri_bipush hx hb dX6_fronts_74 (by decide) ?_
      refine lv_dup2_11 hx hb dX6_fronts_76 rfl rfl ?_
      refine ri_iald (v := (r_back ((up (r_leaves F v) 11 (if r_leaves F v 11 = r_leaves F v 4 then r_leaves F v 11 - 1 else r_leaves F v 11)) 11).toNat (up (r_leaves F v) 11 (if r_leaves F v 11 = r_leaves F v 4 then r_leaves F v 11 - 1 else r_leaves F v 11))) 11) hx hb w 0 rfl (by omega) (up_ne (by omega)) dX6_fronts_77 (by decide) ?_
      refine ri_iconst hx hb dX6_fronts_78 ?_
      refine ri_iadd (z := (r_back ((up (r_leaves F v) 11 (if r_leaves F v 11 = r_leaves F v 4 then r_leaves F v 11 - 1 else r_leaves F v 11)) 11).toNat (up (r_leaves F v) 11 (if r_leaves F v 11 = r_leaves F v 4 then r_leaves F v 11 - 1 else r_leaves F v 11))) 11 + 1) hx hb dX6_fronts_79 rfl ?_
      refine ri_iast hx hb w 0 rfl (by omega) dX6_fronts_80 (by decide) (fun H locs w => ?_)
      have w : Wd g A [(s0, eI g 233 (up (up (r_back ((up (r_leaves F v) 11 (if r_leaves F v 11 = r_leaves F v 4 then r_leaves F v 11 - 1 else r_leaves F v 11)) 11).toNat (up (r_leaves F v) 11 (if r_leaves F v 11 = r_leaves F v 4 then r_leaves F v 11 - 1 else r_leaves F v 11))) 12 v) 11 ((r_back ((up (r_leaves F v) 11 (if r_leaves F v 11 = r_leaves F v 4 then r_leaves F v 11 - 1 else r_leaves F v 11)) 11).toNat (up (r_leaves F v) 11 (if r_leaves F v 11 = r_leaves F v 4 then r_leaves F v 11 - 1 else r_leaves F v 11))) 11 + 1)))] s H locs := w
      exact hend.1 rfl _ _ _ _ _ dX6_fronts_81 w ⟨rfl, (congrArg (fun z => [(s0, eI g 233 z)]) (show (up (up (r_back ((up (r_leaves F v) 11 (if r_leaves F v 11 = r_leaves F v 4 then r_leaves F v 11 - 1 else r_leaves F v 11)) 11).toNat (up (r_leaves F v) 11 (if r_leaves F v 11 = r_leaves F v 4 then r_leaves F v 11 - 1 else r_leaves F v 11))) 12 v) 11 ((r_back ((up (r_leaves F v) 11 (if r_leaves F v 11 = r_leaves F v 4 then r_leaves F v 11 - 1 else r_leaves F v 11)) 11).toNat (up (r_leaves F v) 11 (if r_leaves F v 11 = r_leaves F v 4 then r_leaves F v 11 - 1 else r_leaves F v 11))) 11 + 1)) = (r_fronts F v) from by exact (if_neg (by assumption)).symm))⟩
    refine lv_aload_n hx hb dX6_fronts_12 rfl (lv_at hl 0 rfl) ?_
    refine ri_bipush hx hb dX6_fronts_13 (by decide) ?_
    refine lv_aload_n hx hb dX6_fronts_15 rfl (lv_at hl 0 rfl) ?_
    refine ri_bipush hx hb dX6_fronts_16 (by decide) ?_
    refine ri_iald (v := (r_leaves F v) 11) hx hb w 0 rfl (by omega) (rfl) dX6_fronts_18 (by decide) ?_
    have r5 := hW1.bd 11
    refine lv_aload_n hx hb dX6_fronts_19 rfl (lv_at hl 0 rfl) ?_
    refine ri_iconst hx hb dX6_fronts_20 ?_
    refine ri_iald (v := (r_leaves F v) 4) hx hb w 0 rfl (by omega) (rfl) dX6_fronts_21 (by decide) ?_
    refine ri_icmp_ne (tgt := 34) hx hb dX6_fronts_22 (by decide) (by omega) (by omega) (fun c6 => ?_) (fun c6 => ?_)
    · refine lv_aload_n hx hb dX6_fronts_34 rfl (lv_at hl 0 rfl) ?_
      refine ri_bipush hx hb dX6_fronts_35 (by decide) ?_
      refine ri_iald (v := (r_leaves F v) 11) hx hb w 0 rfl (by omega) (rfl) dX6_fronts_37 (by decide) ?_
      refine ri_iast hx hb w 0 rfl (by omega) dX6_fronts_38 (by decide) (fun H locs w => ?_)
      have w : Wd g A [(s0, eI g 233 (up (r_leaves F v) 11 ((r_leaves F v) 11)))] s H locs := w
      rw [show (up (r_leaves F v) 11 ((r_leaves F v) 11)) = up (r_leaves F v) 11 (if r_leaves F v 11 = r_leaves F v 4 then r_leaves F v 11 - 1 else r_leaves F v 11) from by first | rw [if_pos (by assumption)] | rw [if_neg (by assumption)]] at w
      exact J39 ls H locs (lv_sub hl [0, 1] rfl) w
    · refine lv_aload_n hx hb dX6_fronts_25 rfl (lv_at hl 0 rfl) ?_
      refine ri_bipush hx hb dX6_fronts_26 (by decide) ?_
      refine ri_iald (v := (r_leaves F v) 11) hx hb w 0 rfl (by omega) (rfl) dX6_fronts_28 (by decide) ?_
      refine ri_iconst hx hb dX6_fronts_29 ?_
      refine ri_isub (z := (r_leaves F v) 11 - 1) hx hb dX6_fronts_30 rfl ?_
      refine lv_goto (tgt := 38) hx hb dX6_fronts_31 (by decide) ?_
      refine ri_iast hx hb w 0 rfl (by omega) dX6_fronts_38 (by decide) (fun H locs w => ?_)
      have w : Wd g A [(s0, eI g 233 (up (r_leaves F v) 11 ((r_leaves F v) 11 - 1)))] s H locs := w
      rw [show (up (r_leaves F v) 11 ((r_leaves F v) 11 - 1)) = up (r_leaves F v) 11 (if r_leaves F v 11 = r_leaves F v 4 then r_leaves F v 11 - 1 else r_leaves F v 11) from by first | rw [if_pos (by assumption)] | rw [if_neg (by assumption)]] at w
      exact J39 ls H locs (lv_sub hl [0, 1] rfl) w
  · exact hend.1 rfl _ _ _ _ _ dX6_fronts_11 w ⟨rfl, (congrArg (fun z => [(s0, eI g 233 z)]) (show (r_leaves F v) = (r_fronts F v) from by exact (if_pos (by assumption)).symm))⟩

set_option maxHeartbeats 4000000 in
set_option maxRecDepth 100000 in
theorem t_X6_gives (l : Launch) (g : GG) (s0 : Nat) (N : Int) (F : Int → Int) (v : Int) (hW : WF N F) (hp0 : 0 ≤ v ∧ v ≤ 23) (hroom : ¬ (P_full F ∧ r_best F = -5)) (sz : Nat) : Met l yX6_gives (wm yX6_gives cX6_gives 4 (some .int)) (rmm 4 0 0) (pW g [(s0, eI g 233 F)] sz [.ref s0, .int (iI v)]) (qW g [(s0, eI g 233 F)] (fun vv ww => vv = some (.int (iI (r_givesK F v))) ∧ ww = [(s0, eI g 233 (r_gives F v))])) 0 0 (va_A [(s0, eI g 233 F)] sz) := by
  have hB1 : Bd (r_opens F) := bd_opens hW.b
  have hB2 : Bd (r_stales (r_opens F) v) := bd_stales hB1
  have hsp := spot_ok hW hp0 hroom
  have hs2 := spot_rg (r_stales (r_opens F) v)
  have ho := hW.op
  have hop := opens_rg hW hroom
  have h6 := stales_6 (r_opens F) v
  refine met_w (by decide) (Nat.le_of_ble_eq_true rfl) ?_
  intro p e s m args below meth c Q ls A hx hb hml hown hts hl w hin hend
  obtain ⟨H, hH0⟩ : ∃ H, H = s.heap := ⟨_, rfl⟩
  obtain ⟨locs, hL0⟩ : ∃ locs : List Loc, locs = [] := ⟨_, rfl⟩
  rw [← hH0, ← hL0] at w
  rw [← hH0, ← hL0]
  have hl : lv_has ls 4 [(0, .ref s0), (1, .int (iI v))] := hl
  have J15 : ∀ (ls : Array Slot) (H : Heap) (locs : List Loc), lv_has ls 4 [(0, .ref s0), (1, .int (iI v))] → Wd g A [(s0, eI g 233 (r_opens F))] s H locs → W p l e (rmm 4 0 0) s m args below meth c H locs 0 0 Q (F0 m 15 ls []) := by
    intro ls H locs hl w
    have J37 : ∀ (ls : Array Slot) (H : Heap) (locs : List Loc), lv_has ls 4 [(0, .ref s0), (1, .int (iI v))] → Wd g A [(s0, eI g 233 (r_stales (r_opens F) v))] s H locs → W p l e (rmm 4 0 0) s m args below meth c H locs 0 0 Q (F0 m 37 ls []) := by
      intro ls H locs hl w
      refine ri_bipush hx hb dX6_gives_37 (by decide) ?_
      refine lv_aload_n hx hb dX6_gives_39 rfl (lv_at hl 0 rfl) ?_
      refine ri_bipush hx hb dX6_gives_40 (by decide) ?_
      refine ri_iald (v := (r_stales (r_opens F) v) 6) hx hb w 0 rfl (by omega) (rfl) dX6_gives_42 (by decide) ?_
      have r1 := hB2.bd 6
      refine ri_imul (z := 8 * (r_stales (r_opens F) v) 6) hx hb dX6_gives_43 (by omega) ?_
      refine lv_istore_n (lv' := [(3, .int (iI (8 * (r_stales (r_opens F) v) 6))), (0, .ref s0), (1, .int (iI v))]) hx hb dX6_gives_44 rfl hl (by decide) rfl (fun ls hl => ?_)
      have L45 : ∀ (n : Nat) (xk : Int), (xk + n = 8 * (r_stales (r_opens F) v) 6 + 8) → (fi n xk (p_empty (r_stales (r_opens F) v)) (-5) = r_spot (r_stales (r_opens F) v)) → (8 * (r_stales (r_opens F) v) 6 ≤ xk) → ∀ (ls : Array Slot) (H : Heap) (locs : List Loc), lv_has ls 4 [(0, .ref s0), (1, .int (iI v)), (3, .int (iI xk))] → Wd g A [(s0, eI g 233 (r_stales (r_opens F) v))] s H locs → (∀ (ls : Array Slot) (H : Heap) (locs : List Loc), lv_has ls 4 [(0, .ref s0), (1, .int (iI v)), (3, .int (iI (r_spot (r_stales (r_opens F) v))))] → Wd g A [(s0, eI g 233 (r_stales (r_opens F) v))] s H locs → W p l e (rmm 4 0 0) s m args below meth c H locs 0 0 Q (F0 m 60 ls [])) → W p l e (rmm 4 0 0) s m args below meth c H locs 0 0 Q (F0 m 45 ls []) := by
        intro n
        induction n with
        | zero =>
          intro xk hn hV hlo ls H locs hl w kk45
          exact absurd hV.symm hsp
        | succ n ih45 =>
          intro xk hn hV hlo ls H locs hl w kk45
          refine lv_aload_n hx hb dX6_gives_45 rfl (lv_at hl 0 rfl) ?_
          refine lv_iload_n hx hb dX6_gives_46 rfl (lv_at hl 2 rfl) ?_
          refine call_rS (As := [.ref s0, .int (iI xk)]) (rest := []) hx hb (hml.trans hl.1.symm) hown hts w lk_RX6_53 (t_X6_holds l g s0 (r_stales (r_opens F) v) xk (3 * xk + 65) (by omega) (by omega)) [0] rfl rfl rfl rfl (Nat.le_of_ble_eq_true rfl) ⟨Nat.le_of_ble_eq_true rfl, Nat.le_of_ble_eq_true rfl⟩ ⟨Nat.le_of_ble_eq_true rfl, Nat.le_of_ble_eq_true rfl⟩ dX6_gives_47 ?_
          have r2 := hB2.bd (3 * xk + 65)
          refine ri_iconst hx hb dX6_gives_50 ?_
          refine ri_icmp_eq (tgt := 60) hx hb dX6_gives_51 (by decide) (by omega) (by omega) (fun c3 => ?_) (fun c3 => ?_)
          · have e0 : r_spot (r_stales (r_opens F) v) = xk := fi_t hV (by simp only [p_empty, decide_eq_true_eq]; omega)
            rw [← e0] at hl
            exact kk45  ls H locs  (lv_sub hl [0, 1, 2] rfl) w
          · refine ri_iinc (k := 2) (z := xk + 1) (lv' := [(3, .int (iI (xk + 1))), (0, .ref s0), (1, .int (iI v))]) hx hb dX6_gives_54 hl rfl (by omega) (by decide) rfl (fun ls hl => ?_)
            refine lv_goto (tgt := 45) hx hb dX6_gives_57 (by decide) ?_
            exact ih45 (xk + 1)  (by omega) (fi_f hV (by simp only [p_empty, decide_eq_true_eq]; omega)) (by omega) ls H locs (lv_sub hl [1, 2, 0] rfl) w kk45
      refine L45 8 (8 * (r_stales (r_opens F) v) 6)  (by omega) (rfl) (by omega) ls H locs (lv_sub hl [1, 2, 0] rfl) w (fun ls H locs hl w => ?_)
      refine lv_aload_n hx hb dX6_gives_60 rfl (lv_at hl 0 rfl) ?_
      refine ri_bipush hx hb dX6_gives_61 (by decide) ?_
      refine ri_iconst hx hb dX6_gives_63 ?_
      refine lv_iload_n hx hb dX6_gives_64 rfl (lv_at hl 2 rfl) ?_
      refine ri_imul (z := 3 * r_spot (r_stales (r_opens F) v)) hx hb dX6_gives_65 (by omega) ?_
      refine ri_iadd (z := 3 * r_spot (r_stales (r_opens F) v) + 65) hx hb dX6_gives_66 (by omega) ?_
      refine lv_iload_n hx hb dX6_gives_67 rfl (lv_at hl 1 rfl) ?_
      have r4 := spot_rg (r_stales (r_opens F) v)
      refine ri_iast hx hb w 0 rfl (by omega) dX6_gives_68 (by decide) (fun H locs w => ?_)
      have w : Wd g A [(s0, eI g 233 (up (r_stales (r_opens F) v) (3 * r_spot (r_stales (r_opens F) v) + 65) v))] s H locs := w
      refine lv_aload_n hx hb dX6_gives_69 rfl (lv_at hl 0 rfl) ?_
      refine ri_bipush hx hb dX6_gives_70 (by decide) ?_
      refine ri_iconst hx hb dX6_gives_72 ?_
      refine lv_iload_n hx hb dX6_gives_73 rfl (lv_at hl 2 rfl) ?_
      refine ri_imul (z := 3 * r_spot (r_stales (r_opens F) v)) hx hb dX6_gives_74 (by omega) ?_
      refine ri_iadd (z := 3 * r_spot (r_stales (r_opens F) v) + 65) hx hb dX6_gives_75 (by omega) ?_
      refine ri_iconst hx hb dX6_gives_76 ?_
      refine ri_iadd (z := 3 * r_spot (r_stales (r_opens F) v) + 66) hx hb dX6_gives_77 (by omega) ?_
      refine ri_iconst hx hb dX6_gives_78 ?_
      refine ri_iast hx hb w 0 rfl (by omega) dX6_gives_79 (by decide) (fun H locs w => ?_)
      have w : Wd g A [(s0, eI g 233 (up (up (r_stales (r_opens F) v) (3 * r_spot (r_stales (r_opens F) v) + 65) v) (3 * r_spot (r_stales (r_opens F) v) + 66) 0))] s H locs := w
      refine lv_aload_n hx hb dX6_gives_80 rfl (lv_at hl 0 rfl) ?_
      refine ri_bipush hx hb dX6_gives_81 (by decide) ?_
      refine ri_iconst hx hb dX6_gives_83 ?_
      refine lv_iload_n hx hb dX6_gives_84 rfl (lv_at hl 2 rfl) ?_
      refine ri_imul (z := 3 * r_spot (r_stales (r_opens F) v)) hx hb dX6_gives_85 (by omega) ?_
      refine ri_iadd (z := 3 * r_spot (r_stales (r_opens F) v) + 65) hx hb dX6_gives_86 (by omega) ?_
      refine ri_iconst hx hb dX6_gives_87 ?_
      refine ri_iadd (z := 3 * r_spot (r_stales (r_opens F) v) + 67) hx hb dX6_gives_88 (by omega) ?_
      refine lv_aload_n hx hb dX6_gives_89 rfl (lv_at hl 0 rfl) ?_
      refine ri_iconst hx hb dX6_gives_90 ?_
      refine ri_iald (v := (r_stales (r_opens F) v) 0) hx hb w 0 rfl (by omega) ((up_ne (by omega)).trans (up_ne (by omega))) dX6_gives_91 (by decide) ?_
      have r5 := hB2.bd 0
      refine ri_iast hx hb w 0 rfl (by omega) dX6_gives_92 (by decide) (fun H locs w => ?_)
      have w : Wd g A [(s0, eI g 233 (up (up (up (r_stales (r_opens F) v) (3 * r_spot (r_stales (r_opens F) v) + 65) v) (3 * r_spot (r_stales (r_opens F) v) + 66) 0) (3 * r_spot (r_stales (r_opens F) v) + 67) ((r_stales (r_opens F) v) 0)))] s H locs := w
      refine lv_iload_n hx hb dX6_gives_93 rfl (lv_at hl 2 rfl) ?_
      exact hend.2 _ _ _ _ ⟨_, rfl, rfl⟩ _ _ dX6_gives_94 w ⟨(congrArg (fun z => some (Value.int (iI z))) (show r_spot (r_stales (r_opens F) v) = r_givesK F v from by rfl)), rfl⟩
    refine lv_aload_n hx hb dX6_gives_15 rfl (lv_at hl 0 rfl) ?_
    refine lv_iload_n hx hb dX6_gives_16 rfl (lv_at hl 1 rfl) ?_
    refine call_rS (As := [.ref s0, .int (iI v)]) (rest := []) hx hb (hml.trans hl.1.symm) hown hts w lk_RX6_102 (t_X6_placeOf l g s0 (r_opens F) v (hB1) (by omega)) [0] rfl rfl rfl rfl (Nat.le_of_ble_eq_true rfl) ⟨Nat.le_of_ble_eq_true rfl, Nat.le_of_ble_eq_true rfl⟩ ⟨Nat.le_of_ble_eq_true rfl, Nat.le_of_ble_eq_true rfl⟩ dX6_gives_17 ?_
    have r6 := placeOf_rg (r_opens F) v
    refine lv_istore_n (lv' := [(2, .int (iI (r_placeOf (r_opens F) v))), (0, .ref s0), (1, .int (iI v))]) hx hb dX6_gives_20 rfl hl (by decide) rfl (fun ls hl => ?_)
    refine lv_iload_n hx hb dX6_gives_21 rfl (lv_at hl 0 rfl) ?_
    refine ri_bipush hx hb dX6_gives_22 (by decide) ?_
    refine ri_icmp_eq (tgt := 37) hx hb dX6_gives_24 (by decide) (by omega) (by omega) (fun c7 => ?_) (fun c7 => ?_)
    · rw [show [(s0, eI g 233 (r_opens F))] = [(s0, eI g 233 (r_stales (r_opens F) v))] from congrArg (fun z => [(s0, eI g 233 z)]) (show (r_opens F) = r_stales (r_opens F) v from by first | exact (if_pos (by assumption)).symm | exact (if_neg (by assumption)).symm)] at w
      exact J37 ls H locs (lv_sub hl [1, 2] rfl) w
    · refine lv_aload_n hx hb dX6_gives_27 rfl (lv_at hl 1 rfl) ?_
      refine ri_bipush hx hb dX6_gives_28 (by decide) ?_
      refine ri_iconst hx hb dX6_gives_30 ?_
      refine lv_iload_n hx hb dX6_gives_31 rfl (lv_at hl 0 rfl) ?_
      refine ri_imul (z := 3 * r_placeOf (r_opens F) v) hx hb dX6_gives_32 (by omega) ?_
      refine ri_iadd (z := 3 * r_placeOf (r_opens F) v + 65) hx hb dX6_gives_33 (by omega) ?_
      refine ri_bipush hx hb dX6_gives_34 (by decide) ?_
      refine ri_iast hx hb w 0 rfl (by omega) dX6_gives_36 (by decide) (fun H locs w => ?_)
      have w : Wd g A [(s0, eI g 233 (up (r_opens F) (3 * r_placeOf (r_opens F) v + 65) (-2)))] s H locs := w
      rw [show [(s0, eI g 233 (up (r_opens F) (3 * r_placeOf (r_opens F) v + 65) (-2)))] = [(s0, eI g 233 (r_stales (r_opens F) v))] from congrArg (fun z => [(s0, eI g 233 z)]) (show (up (r_opens F) (3 * r_placeOf (r_opens F) v + 65) (-2)) = r_stales (r_opens F) v from by first | exact (if_pos (by assumption)).symm | exact (if_neg (by assumption)).symm)] at w
      exact J37 ls H locs (lv_sub hl [1, 2] rfl) w
  refine lv_aload_n hx hb dX6_gives_0 rfl (lv_at hl 0 rfl) ?_
  refine call_rS (As := [.ref s0]) (rest := []) hx hb (hml.trans hl.1.symm) hown hts w lk_RX6_94 (t_X6_isOpenFull l g s0 _ F  (hW) ) [0] rfl rfl rfl rfl (Nat.le_of_ble_eq_true rfl) ⟨Nat.le_of_ble_eq_true rfl, Nat.le_of_ble_eq_true rfl⟩ ⟨Nat.le_of_ble_eq_true rfl, Nat.le_of_ble_eq_true rfl⟩ dX6_gives_1 ?_
  refine ri_ifb_eq (tgt := 15) hx hb dX6_gives_4 (by decide) (fun c8 => ?_) (fun c8 => ?_)
  · rw [show [(s0, eI g 233 F)] = [(s0, eI g 233 (r_opens F))] from congrArg (fun z => [(s0, eI g 233 z)]) (show F = r_opens F from (if_neg (by assumption)).symm)] at w
    exact J15 ls H locs (lv_sub hl [0, 1] rfl) w
  · refine lv_aload_n hx hb dX6_gives_7 rfl (lv_at hl 0 rfl) ?_
    refine ri_bipush hx hb dX6_gives_8 (by decide) ?_
    refine lv_aload_n hx hb dX6_gives_10 rfl (lv_at hl 0 rfl) ?_
    refine call_rS (As := [.ref s0]) (rest := [.int (iI 6), .ref s0]) hx hb (hml.trans hl.1.symm) hown hts w lk_RX6_98 (t_X6_bestFree l g s0 F  (hW.b) ) [0] rfl rfl rfl rfl (Nat.le_of_ble_eq_true rfl) ⟨Nat.le_of_ble_eq_true rfl, Nat.le_of_ble_eq_true rfl⟩ ⟨Nat.le_of_ble_eq_true rfl, Nat.le_of_ble_eq_true rfl⟩ dX6_gives_11 ?_
    have r9 := best_rg F
    refine ri_iast hx hb w 0 rfl (by omega) dX6_gives_14 (by decide) (fun H locs w => ?_)
    have w : Wd g A [(s0, eI g 233 (up F 6 (r_best F)))] s H locs := w
    rw [show (up F 6 (r_best F)) = r_opens F from by first | exact (if_pos (by assumption)).symm | exact (if_neg (by assumption)).symm] at w
    exact J15 ls H locs (lv_sub hl [0, 1] rfl) w
