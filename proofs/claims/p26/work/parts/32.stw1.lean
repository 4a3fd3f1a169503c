set_option maxHeartbeats 4000000 in
set_option maxRecDepth 100000 in
theorem t_X4_readPlace (l : Launch) (g : GG) (a : Nat → Nat) (N : Int) (F : Int → Int) (T : Nat → Int → Int) (r : Int) (hW : WF N F) (hR : Rel F T) (h1 : 0 ≤ r ∧ r < 48) (sz : Nat) : Met l yX4_readPlace (wm yX4_readPlace cX4_readPlace 4 none) (rmm 2 0 0) (pW g (st_ws g a T) sz [.ref (a 0), .int (iI r)]) (qW g (st_ws g a T) (fun vv ww => vv = none ∧ ∃ T' : Nat → Int → Int, ww = st_ws g a T' ∧ (Rel (r_reads F r) T'))) 0 0 (va_A (st_ws g a T) sz) := by
  refine met_w (by decide) (Nat.le_of_ble_eq_true rfl) ?_
  intro p e s m args below meth c Q ls A hx hb hml hown hts hl w hin hend
  obtain ⟨H, hH0⟩ : ∃ H, H = s.heap := ⟨_, rfl⟩
  obtain ⟨locs, hL0⟩ : ∃ locs : List Loc, locs = [] := ⟨_, rfl⟩
  rw [← hH0, ← hL0] at w
  rw [← hH0, ← hL0]
  have hl : lv_has ls 4 [(0, .ref (a 0)), (1, .int (iI r))] := hl
  refine lv_iload_n hx hb dX4_readPlace_0 rfl (lv_at hl 1 rfl) ?_
  refine lv_iload_n hx hb dX4_readPlace_1 rfl (lv_at hl 1 rfl) ?_
  refine ri_bipush hx hb dX4_readPlace_2 (by decide) ?_
  refine ri_irem (z := (r % 8)) hx hb dX4_readPlace_4 (by omega) (by omega) rfl ?_
  refine ri_isub (z := 8 * (r / 8)) hx hb dX4_readPlace_5 (by omega) ?_
  refine lv_istore_n (lv' := [(2, .int (iI (8 * (r / 8)))), (0, .ref (a 0)), (1, .int (iI r))]) hx hb dX4_readPlace_6 rfl hl (by decide) rfl (fun ls hl => ?_)
  refine lv_iload_n hx hb dX4_readPlace_7 rfl (lv_at hl 0 rfl) ?_
  refine lv_istore_n (lv' := [(3, .int (iI (8 * (r / 8)))), (2, .int (iI (8 * (r / 8)))), (0, .ref (a 0)), (1, .int (iI r))]) hx hb dX4_readPlace_8 rfl hl (by decide) rfl (fun ls hl => ?_)
  have L9 : ∀ (n : Nat) (xk : Int) (G : Int → Int) (U : Nat → Int → Int), (xk + n = 8 * (r / 8) + 8) → (fo n xk G (s_reads r) = r_readsA F r) → (8 * (r / 8) ≤ xk) → (∀ i, F i ≤ G i ∧ G i ≤ F i + 8 * (8 - n)) → (Rel G U) → ∀ (ls : Array Slot) (H : Heap) (locs : List Loc), lv_has ls 4 [(0, .ref (a 0)), (1, .int (iI r)), (2, .int (iI (8 * (r / 8)))), (3, .int (iI xk))] → Wd g A (st_ws g a U) s H locs → (∀ (V : Nat → Int → Int) (hRV : Rel (r_readsA F r) V) (ls : Array Slot) (H : Heap) (locs : List Loc), lv_has ls 4 [(0, .ref (a 0)), (1, .int (iI r))] → Wd g A (st_ws g a V) s H locs → W p l e (rmm 2 0 0) s m args below meth c H locs 0 0 Q (F0 m 47 ls [])) → W p l e (rmm 2 0 0) s m args below meth c H locs 0 0 Q (F0 m 9 ls []) := by
    intro n
    induction n with
    | zero =>
      intro xk G U hn hX hlo hG hRG ls H locs hl w kk9
      have hB : Bd G := fun i => by have q1 := hG i; have q2 := hW.bd i; omega
      refine lv_iload_n hx hb dX4_readPlace_9 rfl (lv_at hl 3 rfl) ?_
      refine lv_iload_n hx hb dX4_readPlace_10 rfl (lv_at hl 2 rfl) ?_
      refine ri_bipush hx hb dX4_readPlace_11 (by decide) ?_
      refine ri_iadd (z := 8 * (r / 8) + 8) hx hb dX4_readPlace_13 rfl ?_
      refine ri_icmp_ge (tgt := 47) hx hb dX4_readPlace_14 (by decide) (by omega) (by omega) (fun c1 => ?_) (fun c1 => ?_)
      · have e0 : G = r_readsA F r := hX
        exact kk9 U (by rw [← e0]; exact hRG) ls H locs  (lv_sub hl [0, 1] rfl) w
      · exact absurd c1 (by omega)
    | succ n ih9 =>
      intro xk G U hn hX hlo hG hRG ls H locs hl w kk9
      have hB : Bd G := fun i => by have q1 := hG i; have q2 := hW.bd i; omega
      refine lv_iload_n hx hb dX4_readPlace_9 rfl (lv_at hl 3 rfl) ?_
      refine lv_iload_n hx hb dX4_readPlace_10 rfl (lv_at hl 2 rfl) ?_
      refine ri_bipush hx hb dX4_readPlace_11 (by decide) ?_
      refine ri_iadd (z := 8 * (r / 8) + 8) hx hb dX4_readPlace_13 rfl ?_
      refine ri_icmp_ge (tgt := 47) hx hb dX4_readPlace_14 (by decide) (by omega) (by omega) (fun c2 => ?_) (fun c2 => ?_)
      · exact absurd c2 (by omega)
      refine lv_aload_n hx hb dX4_readPlace_17 rfl (lv_at hl 0 rfl) ?_
      refine ri_get (v := .ref (a 6)) hx hb hts hown w fX4 0 5 (W0_of k_fl_RX4_28 rfl) rfl rfl (by decide) dX4_readPlace_18 ?_
      refine lv_iload_n hx hb dX4_readPlace_21 rfl (lv_at hl 3 rfl) ?_
      refine ri_iald (f := U 6) (v := G (3 * xk + 65)) hx hb w 6 rfl (by omega) ((hRG.he (by omega) (by omega)).trans (congrArg _ (by omega))) dX4_readPlace_22 (by omega) ?_
      have r3 := hB.bd (3 * xk + 65)
      refine ri_if_lt (tgt := 41) hx hb dX4_readPlace_23 (by decide) (by omega) (fun c4 => ?_) (fun c4 => ?_)
      · refine ri_iinc (k := 3) (z := xk + 1) (lv' := [(3, .int (iI (xk + 1))), (0, .ref (a 0)), (1, .int (iI r)), (2, .int (iI (8 * (r / 8))))]) hx hb dX4_readPlace_41 hl rfl (by omega) (by decide) rfl (fun ls hl => ?_)
        refine lv_goto (tgt := 9) hx hb dX4_readPlace_44 (by decide) ?_
        exact ih9 (xk + 1) (G) (U) (by omega) (fo_s hX (by unfold s_reads; rw [if_neg (by omega), Int.add_zero]; exact up_self)) (by omega) (fun i => by have := hG i; omega) (hRG) ls H locs (lv_sub hl [1, 2, 3, 0] rfl) w kk9
      · refine lv_aload_n hx hb dX4_readPlace_26 rfl (lv_at hl 0 rfl) ?_
        refine ri_get (v := .ref (a 7)) hx hb hts hown w fX4 0 6 (W0_of k_fl_RX4_31 rfl) rfl rfl (by decide) dX4_readPlace_27 ?_
        refine lv_iload_n hx hb dX4_readPlace_30 rfl (lv_at hl 3 rfl) ?_
        refine lv_dup2_11 hx hb dX4_readPlace_31 rfl rfl ?_
        refine ri_iald (f := U 7) (v := G (3 * xk + 66)) hx hb w 7 rfl (by omega) ((hRG.we (by omega) (by omega)).trans (congrArg _ (by omega))) dX4_readPlace_32 (by omega) ?_
        have r5 := hB.bd (3 * xk + 66)
        refine lv_aload_n hx hb dX4_readPlace_33 rfl (lv_at hl 0 rfl) ?_
        refine lv_iload_n hx hb dX4_readPlace_34 rfl (lv_at hl 1 rfl) ?_
        refine lv_iload_n hx hb dX4_readPlace_35 rfl (lv_at hl 3 rfl) ?_
        refine call_rV (As := [.int (iI r), .int (iI xk)]) (rest := [.int (iI (G (3 * xk + 66))), .int (iI xk), .ref (a 7)]) hx hb (hml.trans hl.1.symm) hown hts w lk_RX4_136 (t_X4_addedBy l g a G U r xk (hB) (hRG) (by omega) (by omega)) [0, 1, 2, 3, 4, 5, 6, 7, 8, 9, 10, 11, 12, 13, 14, 15, 16, 17] rfl rfl (call_recv w (q0 := 0) rfl fX4.1) rfl rfl (Nat.le_of_ble_eq_true rfl) ⟨Nat.le_of_ble_eq_true rfl, Nat.le_of_ble_eq_true rfl⟩ ⟨Nat.le_of_ble_eq_true rfl, Nat.le_of_ble_eq_true rfl⟩ dX4_readPlace_36 ?_
        have r6 := weaker_rg G xk r
        refine ri_iadd (z := G (3 * xk + 66) + r_weaker G xk r) hx hb dX4_readPlace_39 rfl ?_
        refine ri_iast hx hb w 7 rfl (by omega) dX4_readPlace_40 (by omega) (fun H locs w => ?_)
        have w : Wd g A (st_ws g a (upT U 7 (up (U 7) xk (G (3 * xk + 66) + r_weaker G xk r)))) s H locs := w
        have hR7 : Rel (up G (3 * xk + 66) (G (3 * xk + 66) + r_weaker G xk r)) (upT U 7 (up (U 7) xk (G (3 * xk + 66) + r_weaker G xk r))) := hRG.u7 (x := xk) (v := G (3 * xk + 66) + r_weaker G xk r) (by omega) (by omega)
        refine ri_iinc (k := 3) (z := xk + 1) (lv' := [(3, .int (iI (xk + 1))), (0, .ref (a 0)), (1, .int (iI r)), (2, .int (iI (8 * (r / 8))))]) hx hb dX4_readPlace_41 hl rfl (by omega) (by decide) rfl (fun ls hl => ?_)
        refine lv_goto (tgt := 9) hx hb dX4_readPlace_44 (by decide) ?_
        exact ih9 (xk + 1) (up G (3 * xk + 66) (G (3 * xk + 66) + r_weaker G xk r)) ((upT U 7 (up (U 7) xk (G (3 * xk + 66) + r_weaker G xk r)))) (by omega) (fo_s hX (by unfold s_reads; rw [if_pos (by omega)])) (by omega) (reads_G hG (by have := weaker_rg G xk r; omega)) (hR7) ls H locs (lv_sub hl [1, 2, 3, 0] rfl) w kk9
  refine L9 8 (8 * (r / 8)) (F) (T) (by omega) (rfl) (by omega) (fun i => by omega) (hR) ls H locs (lv_sub hl [2, 3, 1, 0] rfl) w (fun V hRV ls H locs hl w => ?_)
  refine lv_aload_n hx hb dX4_readPlace_47 rfl (lv_at hl 0 rfl) ?_
  refine ri_get (v := .ref (a 4)) hx hb hts hown w fX4 0 3 (W0_of k_fl_RX4_22 rfl) rfl rfl (by decide) dX4_readPlace_48 ?_
  refine lv_iload_n hx hb dX4_readPlace_51 rfl (lv_at hl 1 rfl) ?_
  refine ri_bipush hx hb dX4_readPlace_52 (by decide) ?_
  refine ri_idiv (z := (r / 8)) hx hb dX4_readPlace_54 (by omega) (by omega) rfl ?_
  refine lv_dup2_11 hx hb dX4_readPlace_55 rfl rfl ?_
  refine ri_iald (f := V 4) (v := (r_readsA F r) (4 * (r / 8) + 44)) hx hb w 4 rfl (by omega) ((hRV.br (by omega) (by omega)).trans (congrArg _ (by omega))) dX4_readPlace_56 (by omega) ?_
  refine ri_iconst hx hb dX4_readPlace_57 ?_
  refine ri_iadd (z := (r_readsA F r) (4 * (r / 8) + 44) + 1) hx hb dX4_readPlace_58 rfl ?_
  refine ri_iast hx hb w 4 rfl (by omega) dX4_readPlace_59 (by omega) (fun H locs w => ?_)
  have w : Wd g A (st_ws g a (upT V 4 (up (V 4) (r / 8) ((r_readsA F r) (4 * (r / 8) + 44) + 1)))) s H locs := w
  have hR8 : Rel (up (r_readsA F r) (4 * (r / 8) + 44) ((r_readsA F r) (4 * (r / 8) + 44) + 1)) (upT V 4 (up (V 4) (r / 8) ((r_readsA F r) (4 * (r / 8) + 44) + 1))) := hRV.u4 (x := (r / 8)) (v := (r_readsA F r) (4 * (r / 8) + 44) + 1) (by omega) (by omega)
  exact hend.1 rfl _ _ _ _ _ dX4_readPlace_60 w ⟨rfl, (upT V 4 (up (V 4) (r / 8) ((r_readsA F r) (4 * (r / 8) + 44) + 1))), rfl, hR8⟩

set_option maxHeartbeats 4000000 in
set_option maxRecDepth 100000 in
theorem t_X4_dropPlace (l : Launch) (g : GG) (a : Nat → Nat) (N : Int) (F : Int → Int) (T : Nat → Int → Int) (v : Int) (hW : WF N F) (hR : Rel F T) (hv : 0 ≤ v ∧ v ≤ 23) (sz : Nat) : Met l yX4_dropPlace (wm yX4_dropPlace cX4_dropPlace 3 none) (rmm 0 0 0) (pW g (st_ws g a T) sz [.ref (a 0), .int (iI v)]) (qW g (st_ws g a T) (fun vv ww => vv = none ∧ ∃ T' : Nat → Int → Int, ww = st_ws g a T' ∧ (Rel (r_stales F v) T'))) 0 0 (va_A (st_ws g a T) sz) := by
  refine met_w (by decide) (Nat.le_of_ble_eq_true rfl) ?_
  intro p e s m args below meth c Q ls A hx hb hml hown hts hl w hin hend
  obtain ⟨H, hH0⟩ : ∃ H, H = s.heap := ⟨_, rfl⟩
  obtain ⟨locs, hL0⟩ : ∃ locs : List Loc, locs = [] := ⟨_, rfl⟩
  rw [← hH0, ← hL0] at w
  rw [← hH0, ← hL0]
  have hl : lv_has ls 3 [(0, .ref (a 0)), (1, .int (iI v))] := hl
  refine lv_aload_n hx hb dX4_dropPlace_0 rfl (lv_at hl 0 rfl) ?_
  refine ri_get (v := .ref (a 9)) hx hb hts hown w fX4 0 8 (W0_of k_fl_RX4_37 rfl) rfl rfl (by decide) dX4_dropPlace_1 ?_
  refine lv_iload_n hx hb dX4_dropPlace_4 rfl (lv_at hl 1 rfl) ?_
  refine ri_iald (f := T 9) (v := r_at F v) hx hb w 9 rfl (by omega) (hR.pl (by omega) (by omega)) dX4_dropPlace_5 (by omega) ?_
  have r1 := rat_rg F v
  refine lv_istore_n (lv' := [(2, .int (iI (r_at F v))), (0, .ref (a 0)), (1, .int (iI v))]) hx hb dX4_dropPlace_6 rfl hl (by decide) rfl (fun ls hl => ?_)
  refine lv_iload_n hx hb dX4_dropPlace_7 rfl (lv_at hl 0 rfl) ?_
  refine ri_if_lt (tgt := 25) hx hb dX4_dropPlace_8 (by decide) (by omega) (fun c2 => ?_) (fun c2 => ?_)
  · refine lv_aload_n hx hb dX4_dropPlace_25 rfl (lv_at hl 1 rfl) ?_
    refine ri_get (v := .ref (a 9)) hx hb hts hown w fX4 0 8 (W0_of k_fl_RX4_37 rfl) rfl rfl (by decide) dX4_dropPlace_26 ?_
    refine lv_iload_n hx hb dX4_dropPlace_29 rfl (lv_at hl 2 rfl) ?_
    refine ri_iconst hx hb dX4_dropPlace_30 ?_
    refine ri_iast hx hb w 9 rfl (by omega) dX4_dropPlace_31 (by omega) (fun H locs w => ?_)
    have w : Wd g A (st_ws g a (upT T 9 (up (T 9) v (-1)))) s H locs := w
    exact hend.1 rfl _ _ _ _ _ dX4_dropPlace_32 w ⟨rfl, (upT T 9 (up (T 9) v (-1))), rfl, rel_stale0 hW hR hv (by omega)⟩
  · refine lv_iload_n hx hb dX4_dropPlace_11 rfl (lv_at hl 0 rfl) ?_
    refine ri_bipush hx hb dX4_dropPlace_12 (by decide) ?_
    refine ri_icmp_ge (tgt := 25) hx hb dX4_dropPlace_14 (by decide) (by omega) (by omega) (fun c4 => ?_) (fun c4 => ?_)
    · exact absurd c4 (by omega)
    refine lv_aload_n hx hb dX4_dropPlace_17 rfl (lv_at hl 1 rfl) ?_
    refine ri_get (v := .ref (a 6)) hx hb hts hown w fX4 0 5 (W0_of k_fl_RX4_28 rfl) rfl rfl (by decide) dX4_dropPlace_18 ?_
    refine lv_iload_n hx hb dX4_dropPlace_21 rfl (lv_at hl 0 rfl) ?_
    refine ri_bipush hx hb dX4_dropPlace_22 (by decide) ?_
    refine ri_iast hx hb w 6 rfl (by omega) dX4_dropPlace_24 (by omega) (fun H locs w => ?_)
    have w : Wd g A (st_ws g a (upT T 6 (up (T 6) (r_at F v) (-2)))) s H locs := w
    refine lv_aload_n hx hb dX4_dropPlace_25 rfl (lv_at hl 1 rfl) ?_
    refine ri_get (v := .ref (a 9)) hx hb hts hown w fX4 0 8 (W0_of k_fl_RX4_37 rfl) rfl rfl (by decide) dX4_dropPlace_26 ?_
    refine lv_iload_n hx hb dX4_dropPlace_29 rfl (lv_at hl 2 rfl) ?_
    refine ri_iconst hx hb dX4_dropPlace_30 ?_
    refine ri_iast hx hb w 9 rfl (by omega) dX4_dropPlace_31 (by omega) (fun H locs w => ?_)
    have w : Wd g A (st_ws g a (upT (upT T 6 (up (T 6) (r_at F v) (-2))) 9 (up (T 9) v (-1)))) s H locs := w
    exact hend.1 rfl _ _ _ _ _ dX4_dropPlace_32 w ⟨rfl, (upT (upT T 6 (up (T 6) (r_at F v) (-2))) 9 (up (T 9) v (-1))), rfl, rel_stale1 hW hR hv (by omega)⟩

set_option maxHeartbeats 4000000 in
set_option maxRecDepth 100000 in
theorem t_X4_putInto (l : Launch) (g : GG) (a : Nat → Nat) (N : Int) (F : Int → Int) (T : Nat → Int → Int) (b : Int) (v : Int) (hW : WF N F) (hR : Rel F T) (hb0 : b = r_target F) (hb1 : 0 ≤ b) (hv : 0 ≤ v ∧ v ≤ 23) (sz : Nat) : Met l yX4_putInto (wm yX4_putInto cX4_putInto 4 none) (rmm 1 0 0) (pW g (st_ws g a T) sz [.ref (a 0), .int (iI b), .int (iI v)]) (qW g (st_ws g a T) (fun vv ww => vv = none ∧ ∃ T' : Nat → Int → Int, ww = st_ws g a T' ∧ (Rel (r_gives F v) T'))) 0 0 (va_A (st_ws g a T) sz) := by
  have htr := target_rg hW
  have hb5 : 0 ≤ b ∧ b < 6 := by omega
  have hct : r_cnt F b (-1) ≠ 0 := by rw [hb0]; exact target_room hW (by omega)
  have hcg := cnt_rg F b (-1)
  have hWo : WF N (up F 6 b) := wf_open hW (by omega)
  have hc2 : r_cnt (r_stales (up F 6 b) v) b (-1) = r_cnt F b (-1) := (cnt_stales hWo v b (by omega)).trans (cnt_up6 _ _ _ _)
  refine met_w (by decide) (Nat.le_of_ble_eq_true rfl) ?_
  intro p e s m args below meth c Q ls A hx hb hml hown hts hl w hin hend
  obtain ⟨H, hH0⟩ : ∃ H, H = s.heap := ⟨_, rfl⟩
  obtain ⟨locs, hL0⟩ : ∃ locs : List Loc, locs = [] := ⟨_, rfl⟩
  rw [← hH0, ← hL0] at w
  rw [← hH0, ← hL0]
  have hl : lv_has ls 4 [(0, .ref (a 0)), (1, .int (iI b)), (2, .int (iI v))] := hl
  refine lv_iload_n hx hb dX4_putInto_0 rfl (lv_at hl 2 rfl) ?_
  refine call_rN (As := [.int (iI v)]) (rest := []) hx hb (hml.trans hl.1.symm) hown hts w lk_RX4_105 (t_X5_isPage l g v (by omega)) [] rfl rfl rfl rfl (Nat.le_of_ble_eq_true rfl) ⟨Nat.le_of_ble_eq_true rfl, Nat.le_of_ble_eq_true rfl⟩ ⟨Nat.le_of_ble_eq_true rfl, Nat.le_of_ble_eq_true rfl⟩ dX4_putInto_1 ?_
  refine ri_ifb_eq (tgt := 27) hx hb dX4_putInto_4 (by decide) (fun c1 => ?_) (fun c1 => ?_)
  · exact absurd c1 (by omega)
  refine lv_aload_n hx hb dX4_putInto_7 rfl (lv_at hl 0 rfl) ?_
  refine ri_get (v := .ref (a 5)) hx hb hts hown w fX4 0 4 (W0_of k_fl_RX4_25 rfl) rfl rfl (by decide) dX4_putInto_8 ?_
  refine lv_iload_n hx hb dX4_putInto_11 rfl (lv_at hl 1 rfl) ?_
  refine ri_iald (f := T 5) (v := 8 - r_cnt F b (-1)) hx hb w 5 rfl (by omega) (hR.us (by omega) (by omega)) dX4_putInto_12 (by omega) ?_
  have r2 := cnt_rg F b (-1)
  refine ri_if_lt (tgt := 27) hx hb dX4_putInto_13 (by decide) (by omega) (fun c3 => ?_) (fun c3 => ?_)
  · exact absurd c3 (by omega)
  refine lv_aload_n hx hb dX4_putInto_16 rfl (lv_at hl 0 rfl) ?_
  refine ri_get (v := .ref (a 5)) hx hb hts hown w fX4 0 4 (W0_of k_fl_RX4_25 rfl) rfl rfl (by decide) dX4_putInto_17 ?_
  refine lv_iload_n hx hb dX4_putInto_20 rfl (lv_at hl 1 rfl) ?_
  refine ri_iald (f := T 5) (v := 8 - r_cnt F b (-1)) hx hb w 5 rfl (by omega) (hR.us (by omega) (by omega)) dX4_putInto_21 (by omega) ?_
  refine ri_bipush hx hb dX4_putInto_22 (by decide) ?_
  refine ri_icmp_lt (tgt := 28) hx hb dX4_putInto_24 (by decide) (by omega) (by omega) (fun c4 => ?_) (fun c4 => ?_)
  · refine lv_aload_n hx hb dX4_putInto_28 rfl (lv_at hl 0 rfl) ?_
    refine lv_iload_n hx hb dX4_putInto_29 rfl (lv_at hl 1 rfl) ?_
    refine ri_put hx hb hts hown w fX4 0 13 (W0_of k_fl_RX4_60 rfl) rfl (Nat.le_of_ble_eq_true rfl) (by decide) rfl rfl rfl dX4_putInto_30 (fun H locs w => ?_)
    have w : Wd g A (st_ws g a (upT T 18 (fun _ => b))) s H locs := w
    have hR5 : Rel (up F 6 b) (upT T 18 (fun _ => b)) := hR.u18 (v := b) (u := b) (by omega)
    refine lv_aload_n hx hb dX4_putInto_33 rfl (lv_at hl 0 rfl) ?_
    refine lv_iload_n hx hb dX4_putInto_34 rfl (lv_at hl 2 rfl) ?_
    refine call_wV (wr := []) (As := [.int (iI v)]) (rest := []) hx hb (hml.trans hl.1.symm) hown hts w lk_RX4_145 (fun sz => t_X4_dropPlace l g a _ (up F 6 b) (upT T 18 (fun _ => b)) v (hWo) (hR5) (by omega) sz) [0, 1, 2, 3, 4, 5, 6, 7, 8, 9, 10, 11, 12, 13, 14, 15, 16, 17] [] rfl rfl rfl rfl (by decide) (call_recv w (q0 := 0) rfl fX4.1) rfl rfl (Nat.le_of_ble_eq_true rfl) ⟨Nat.le_of_ble_eq_true rfl, Nat.le_of_ble_eq_true rfl⟩ ⟨Nat.le_of_ble_eq_true rfl, Nat.le_of_ble_eq_true rfl⟩ dX4_putInto_35 (fun v w1 H locs hr w => ?_)
    obtain ⟨rfl, T6, rfl, hRT6⟩ := hr
    have w : Wd g A (st_ws g a T6) s H locs := w
    refine lv_iload_n hx hb dX4_putInto_38 rfl (lv_at hl 1 rfl) ?_
    refine ri_bipush hx hb dX4_putInto_39 (by decide) ?_
    refine ri_imul (z := 8 * b) hx hb dX4_putInto_41 (by omega) ?_
    refine lv_aload_n hx hb dX4_putInto_42 rfl (lv_at hl 0 rfl) ?_
    refine ri_get (v := .ref (a 5)) hx hb hts hown w fX4 0 4 (W0_of k_fl_RX4_25 rfl) rfl rfl (by decide) dX4_putInto_43 ?_
    refine lv_iload_n hx hb dX4_putInto_46 rfl (lv_at hl 1 rfl) ?_
    refine ri_iald (f := T6 5) (v := 8 - r_cnt (r_stales (up F 6 b) v) b (-1)) hx hb w 5 rfl (by omega) (hRT6.us (by omega) (by omega)) dX4_putInto_47 (by omega) ?_
    have r7 := cnt_rg (r_stales (up F 6 b) v) b (-1)
    refine ri_iadd (z := 8 * b - r_cnt (r_stales (up F 6 b) v) b (-1) + 8) hx hb dX4_putInto_48 (by omega) ?_
    refine lv_istore_n (lv' := [(3, .int (iI (8 * b - r_cnt (r_stales (up F 6 b) v) b (-1) + 8))), (0, .ref (a 0)), (1, .int (iI b)), (2, .int (iI v))]) hx hb dX4_putInto_49 rfl hl (by decide) rfl (fun ls hl => ?_)
    refine lv_aload_n hx hb dX4_putInto_50 rfl (lv_at hl 1 rfl) ?_
    refine ri_get (v := .ref (a 5)) hx hb hts hown w fX4 0 4 (W0_of k_fl_RX4_25 rfl) rfl rfl (by decide) dX4_putInto_51 ?_
    refine lv_iload_n hx hb dX4_putInto_54 rfl (lv_at hl 2 rfl) ?_
    refine lv_dup2_11 hx hb dX4_putInto_55 rfl rfl ?_
    refine ri_iald (f := T6 5) (v := 8 - r_cnt (r_stales (up F 6 b) v) b (-1)) hx hb w 5 rfl (by omega) (hRT6.us (by omega) (by omega)) dX4_putInto_56 (by omega) ?_
    refine ri_iconst hx hb dX4_putInto_57 ?_
    refine ri_iadd (z := 9 - r_cnt (r_stales (up F 6 b) v) b (-1)) hx hb dX4_putInto_58 (by omega) ?_
    refine ri_iast hx hb w 5 rfl (by omega) dX4_putInto_59 (by omega) (fun H locs w => ?_)
    have w : Wd g A (st_ws g a (upT T6 5 (up (T6 5) b (9 - r_cnt (r_stales (up F 6 b) v) b (-1))))) s H locs := w
    refine lv_aload_n hx hb dX4_putInto_60 rfl (lv_at hl 1 rfl) ?_
    refine ri_get (v := .ref (a 6)) hx hb hts hown w fX4 0 5 (W0_of k_fl_RX4_28 rfl) rfl rfl (by decide) dX4_putInto_61 ?_
    refine lv_iload_n hx hb dX4_putInto_64 rfl (lv_at hl 0 rfl) ?_
    refine lv_iload_n hx hb dX4_putInto_65 rfl (lv_at hl 3 rfl) ?_
    refine ri_iast hx hb w 6 rfl (by omega) dX4_putInto_66 (by omega) (fun H locs w => ?_)
    have w : Wd g A (st_ws g a (upT (upT T6 5 (up (T6 5) b (9 - r_cnt (r_stales (up F 6 b) v) b (-1)))) 6 (up (T6 6) (8 * b - r_cnt (r_stales (up F 6 b) v) b (-1) + 8) v))) s H locs := w
    refine lv_aload_n hx hb dX4_putInto_67 rfl (lv_at hl 1 rfl) ?_
    refine ri_get (v := .ref (a 7)) hx hb hts hown w fX4 0 6 (W0_of k_fl_RX4_31 rfl) rfl rfl (by decide) dX4_putInto_68 ?_
    refine lv_iload_n hx hb dX4_putInto_71 rfl (lv_at hl 0 rfl) ?_
    refine ri_iconst hx hb dX4_putInto_72 ?_
    refine ri_iast hx hb w 7 rfl (by omega) dX4_putInto_73 (by omega) (fun H locs w => ?_)
    have w : Wd g A (st_ws g a (upT (upT (upT T6 5 (up (T6 5) b (9 - r_cnt (r_stales (up F 6 b) v) b (-1)))) 6 (up (T6 6) (8 * b - r_cnt (r_stales (up F 6 b) v) b (-1) + 8) v)) 7 (up (T6 7) (8 * b - r_cnt (r_stales (up F 6 b) v) b (-1) + 8) 0))) s H locs := w
    refine lv_aload_n hx hb dX4_putInto_74 rfl (lv_at hl 1 rfl) ?_
    refine ri_get (v := .ref (a 8)) hx hb hts hown w fX4 0 7 (W0_of k_fl_RX4_34 rfl) rfl rfl (by decide) dX4_putInto_75 ?_
    refine lv_iload_n hx hb dX4_putInto_78 rfl (lv_at hl 0 rfl) ?_
    refine lv_aload_n hx hb dX4_putInto_79 rfl (lv_at hl 1 rfl) ?_
    refine ri_get (v := .int (iI ((r_stales (up F 6 b) v) 0))) hx hb hts hown w fX4 0 14 (W0_of k_fl_RX4_64 rfl) rfl (congrArg (fun z => some (Value.int (iI z))) (hRT6.ti)) (by decide) dX4_putInto_80 ?_
    refine ri_iast hx hb w 8 rfl (by omega) dX4_putInto_83 (by omega) (fun H locs w => ?_)
    have w : Wd g A (st_ws g a (upT (upT (upT (upT T6 5 (up (T6 5) b (9 - r_cnt (r_stales (up F 6 b) v) b (-1)))) 6 (up (T6 6) (8 * b - r_cnt (r_stales (up F 6 b) v) b (-1) + 8) v)) 7 (up (T6 7) (8 * b - r_cnt (r_stales (up F 6 b) v) b (-1) + 8) 0)) 8 (up (T6 8) (8 * b - r_cnt (r_stales (up F 6 b) v) b (-1) + 8) ((r_stales (up F 6 b) v) 0)))) s H locs := w
    refine lv_aload_n hx hb dX4_putInto_84 rfl (lv_at hl 1 rfl) ?_
    refine ri_get (v := .ref (a 9)) hx hb hts hown w fX4 0 8 (W0_of k_fl_RX4_37 rfl) rfl rfl (by decide) dX4_putInto_85 ?_
    refine lv_iload_n hx hb dX4_putInto_88 rfl (lv_at hl 3 rfl) ?_
    refine lv_iload_n hx hb dX4_putInto_89 rfl (lv_at hl 0 rfl) ?_
    refine ri_iast hx hb w 9 rfl (by omega) dX4_putInto_90 (by omega) (fun H locs w => ?_)
    have w : Wd g A (st_ws g a (upT (upT (upT (upT (upT T6 5 (up (T6 5) b (9 - r_cnt (r_stales (up F 6 b) v) b (-1)))) 6 (up (T6 6) (8 * b - r_cnt (r_stales (up F 6 b) v) b (-1) + 8) v)) 7 (up (T6 7) (8 * b - r_cnt (r_stales (up F 6 b) v) b (-1) + 8) 0)) 8 (up (T6 8) (8 * b - r_cnt (r_stales (up F 6 b) v) b (-1) + 8) ((r_stales (up F 6 b) v) 0))) 9 (up (T6 9) v (8 * b - r_cnt (r_stales (up F 6 b) v) b (-1) + 8)))) s H locs := w
    exact hend.1 rfl _ _ _ _ _ dX4_putInto_91 w ⟨rfl, (upT (upT (upT (upT (upT T6 5 (up (T6 5) b (9 - r_cnt (r_stales (up F 6 b) v) b (-1)))) 6 (up (T6 6) (8 * b - r_cnt (r_stales (up F 6 b) v) b (-1) + 8) v)) 7 (up (T6 7) (8 * b - r_cnt (r_stales (up F 6 b) v) b (-1) + 8) 0)) 8 (up (T6 8) (8 * b - r_cnt (r_stales (up F 6 b) v) b (-1) + 8) ((r_stales (up F 6 b) v) 0))) 9 (up (T6 9) v (8 * b - r_cnt (r_stales (up F 6 b) v) b (-1) + 8))), rfl, rel_gives hW hRT6 hb0 hb1 hv hct rfl rfl⟩
  · exact absurd c4 (by omega)
