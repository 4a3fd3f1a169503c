set_option maxHeartbeats 4000000 in
set_option maxRecDepth 100000 in
theorem t_X3_letterOf (l : Launch) (g : GG) (o : Nat → Nat) (P : Nat → Int → Int) (t : Int → Int) (tn : Int) (v : Int) (ht : P 1 = t) (hn5 : P 5 0 = tn) (hT : Tx t) (hnr : 0 ≤ tn ∧ tn ≤ 60) (h1 : 0 ≤ v ∧ v < P 6 0) (h2 : P 6 0 ≤ 32) (h3 : 0 ≤ P 2 v ∧ P 2 v ≤ 65535) : Met l yX3_letterOf (wm yX3_letterOf cX3_letterOf 2 (some .char)) (rmm 0 0 0) (pR g (or_ws g o P) [.ref (o 0), .int (iI v)]) (qR (some (.int (iI (P 2 v))))) 0 0 (fun _ => False) := by
  refine met_r (by decide) (Nat.le_of_ble_eq_true rfl) ?_
  intro p e s m args below meth c Q ls hx hb hml hown hts hl w hend
  have hl : lv_has ls 2 [(0, .ref (o 0)), (1, .int (iI v))] := hl
  refine lv_iload_n hx hb dX3_letterOf_0 rfl (lv_at hl 1 rfl) ?_
  refine ri_if_lt (tgt := 12) hx hb dX3_letterOf_1 (by decide) (by omega) (fun c1 => ?_) (fun c1 => ?_)
  · exact absurd c1 (by omega)
  refine lv_iload_n hx hb dX3_letterOf_4 rfl (lv_at hl 1 rfl) ?_
  refine lv_aload_n hx hb dX3_letterOf_5 rfl (lv_at hl 0 rfl) ?_
  refine ri_get (v := .int (iI (P 6 0))) hx hb hts hown w fX3 0 5 (W0_of k_fl_RX3_29 rfl) rfl rfl (by decide) dX3_letterOf_6 ?_
  refine ri_icmp_lt (tgt := 17) hx hb dX3_letterOf_9 (by decide) (by omega) (by omega) (fun c2 => ?_) (fun c2 => ?_)
  · refine lv_aload_n hx hb dX3_letterOf_17 rfl (lv_at hl 0 rfl) ?_
    refine ri_get (v := .ref (o 2)) hx hb hts hown w fX3 0 2 (W0_of k_fl_RX3_19 rfl) rfl rfl (by decide) dX3_letterOf_18 ?_
    refine lv_iload_n hx hb dX3_letterOf_21 rfl (lv_at hl 1 rfl) ?_
    refine ri_cald (f := P 2) (v := (P 2) v) hx hb w 2 rfl (by omega) (rfl) dX3_letterOf_22 (by omega) ?_
    exact hend.2 _ (congrArg (fun z => some (Value.int (iI z))) (show P 2 v = (P 2) v from by omega)) ⟨_, rfl, (congrArg Value.int (nar_char (by omega)))⟩ _ _ dX3_letterOf_23
  · exact absurd c2 (by omega)

set_option maxHeartbeats 4000000 in
set_option maxRecDepth 100000 in
theorem t_X3_append (l : Launch) (g : GG) (o : Nat → Nat) (P : Nat → Int → Int) (t : Int → Int) (tn : Int) (v : Int) (ht : P 1 = t) (hn5 : P 5 0 = tn) (hT : Tx t) (hnr : 0 ≤ tn ∧ tn ≤ 60) (h1 : 0 ≤ v ∧ v ≤ 65535) (sz : Nat) : Met l yX3_append (wm yX3_append cX3_append 2 (some .int)) (rmm 0 0 0) (pW g (or_ws g o P) sz [.ref (o 0), .int (iI v)]) (qW g (or_ws g o P) (fun vv ww => (tn = 60 ∧ vv = some (.int (iI (-3))) ∧ ww = or_ws g o P) ∨ (tn < 60 ∧ vv = some (.int (iI (tn + 1))) ∧ ww = or_ws g o (upT (upT P 1 (up (P 1) tn v)) 5 (fun _ => tn + 1))))) 0 0 (va_A (or_ws g o P) sz) := by
  refine met_w (by decide) (Nat.le_of_ble_eq_true rfl) ?_
  intro p e s m args below meth c Q ls A hx hb hml hown hts hl w hin hend
  obtain ⟨H, hH0⟩ : ∃ H, H = s.heap := ⟨_, rfl⟩
  obtain ⟨locs, hL0⟩ : ∃ locs : List Loc, locs = [] := ⟨_, rfl⟩
  rw [← hH0, ← hL0] at w
  rw [← hH0, ← hL0]
  have hl : lv_has ls 2 [(0, .ref (o 0)), (1, .int (iI v))] := hl
  refine lv_aload_n hx hb dX3_append_0 rfl (lv_at hl 0 rfl) ?_
  refine ri_get (v := .int (iI tn)) hx hb hts hown w fX3 0 1 (W0_of k_fl_RX3_15 rfl) rfl (congrArg (fun z => some (Value.int (iI z))) (hn5)) (by decide) dX3_append_1 ?_
  refine ri_bipush hx hb dX3_append_4 (by decide) ?_
  refine ri_icmp_lt (tgt := 12) hx hb dX3_append_6 (by decide) (by omega) (by omega) (fun c1 => ?_) (fun c1 => ?_)
  · refine lv_aload_n hx hb dX3_append_12 rfl (lv_at hl 0 rfl) ?_
    refine ri_get (v := .ref (o 1)) hx hb hts hown w fX3 0 0 (W0_of k_fl_RX3_9 rfl) rfl rfl (by decide) dX3_append_13 ?_
    refine lv_aload_n hx hb dX3_append_16 rfl (lv_at hl 0 rfl) ?_
    refine ri_get (v := .int (iI tn)) hx hb hts hown w fX3 0 1 (W0_of k_fl_RX3_15 rfl) rfl (congrArg (fun z => some (Value.int (iI z))) (hn5)) (by decide) dX3_append_17 ?_
    refine lv_iload_n hx hb dX3_append_20 rfl (lv_at hl 1 rfl) ?_
    refine ri_cast hx hb w 1 rfl (by omega) (by omega) dX3_append_21 (by omega) (fun H locs w => ?_)
    have w : Wd g A (or_ws g o (upT P 1 (up (P 1) tn v))) s H locs := w
    refine lv_aload_n hx hb dX3_append_22 rfl (lv_at hl 0 rfl) ?_
    refine lv_dup hx hb dX3_append_23 rfl ?_
    refine ri_get (v := .int (iI tn)) hx hb hts hown w fX3 0 1 (W0_of k_fl_RX3_15 rfl) rfl (congrArg (fun z => some (Value.int (iI z))) (hn5)) (by decide) dX3_append_24 ?_
    refine ri_iconst hx hb dX3_append_27 ?_
    refine ri_iadd (z := tn + 1) hx hb dX3_append_28 rfl ?_
    refine ri_put hx hb hts hown w fX3 0 1 (W0_of k_fl_RX3_15 rfl) rfl (Nat.le_of_ble_eq_true rfl) (by decide) rfl rfl rfl dX3_append_29 (fun H locs w => ?_)
    have w : Wd g A (or_ws g o (upT (upT P 1 (up (P 1) tn v)) 5 (fun _ => tn + 1))) s H locs := w
    refine lv_aload_n hx hb dX3_append_32 rfl (lv_at hl 0 rfl) ?_
    refine ri_get (v := .int (iI (tn + 1))) hx hb hts hown w fX3 0 1 (W0_of k_fl_RX3_15 rfl) rfl rfl (by decide) dX3_append_33 ?_
    exact hend.2 _ _ _ _ ⟨_, rfl, rfl⟩ _ _ dX3_append_36 w (Or.inr ⟨by omega, rfl, rfl⟩)
  · refine ri_bipush hx hb dX3_append_9 (by decide) ?_
    exact hend.2 _ _ _ _ ⟨_, rfl, rfl⟩ _ _ dX3_append_11 w (Or.inl ⟨by omega, rfl, rfl⟩)

set_option maxHeartbeats 4000000 in
set_option maxRecDepth 100000 in
theorem t_X3_empty (l : Launch) (g : GG) (o : Nat → Nat) (P : Nat → Int → Int) (t : Int → Int) (tn : Int) (ht : P 1 = t) (hn5 : P 5 0 = tn) (hT : Tx t) (hnr : 0 ≤ tn ∧ tn ≤ 60) (sz : Nat) : Met l yX3_empty (wm yX3_empty cX3_empty 2 (some .int)) (rmm 0 0 0) (pW g (or_ws g o P) sz [.ref (o 0)]) (qW g (or_ws g o P) (fun vv ww => vv = some (.int (iI tn)) ∧ ww = or_ws g o (upT P 5 (fun _ => 0)))) 0 0 (va_A (or_ws g o P) sz) := by
  refine met_w (by decide) (Nat.le_of_ble_eq_true rfl) ?_
  intro p e s m args below meth c Q ls A hx hb hml hown hts hl w hin hend
  obtain ⟨H, hH0⟩ : ∃ H, H = s.heap := ⟨_, rfl⟩
  obtain ⟨locs, hL0⟩ : ∃ locs : List Loc, locs = [] := ⟨_, rfl⟩
  rw [← hH0, ← hL0] at w
  rw [← hH0, ← hL0]
  have hl : lv_has ls 2 [(0, .ref (o 0))] := hl
  refine lv_aload_n hx hb dX3_empty_0 rfl (lv_at hl 0 rfl) ?_
  refine ri_get (v := .int (iI tn)) hx hb hts hown w fX3 0 1 (W0_of k_fl_RX3_15 rfl) rfl (congrArg (fun z => some (Value.int (iI z))) (hn5)) (by decide) dX3_empty_1 ?_
  refine lv_istore_n (lv' := [(1, .int (iI tn)), (0, .ref (o 0))]) hx hb dX3_empty_4 rfl hl (by decide) rfl (fun ls hl => ?_)
  refine lv_aload_n hx hb dX3_empty_5 rfl (lv_at hl 1 rfl) ?_
  refine ri_iconst hx hb dX3_empty_6 ?_
  refine ri_put hx hb hts hown w fX3 0 1 (W0_of k_fl_RX3_15 rfl) rfl (Nat.le_of_ble_eq_true rfl) (by decide) rfl rfl rfl dX3_empty_7 (fun H locs w => ?_)
  have w : Wd g A (or_ws g o (upT P 5 (fun _ => 0))) s H locs := w
  refine lv_iload_n hx hb dX3_empty_10 rfl (lv_at hl 0 rfl) ?_
  exact hend.2 _ _ _ _ ⟨_, rfl, rfl⟩ _ _ dX3_empty_11 w ⟨rfl, rfl⟩

set_option maxHeartbeats 4000000 in
set_option maxRecDepth 100000 in
theorem t_X5_settle (l : Launch) (g : GG) (c0 : Nat) (na : Nat → Nat) (be : Nat → Nat) (tr : Nat → Nat) (sn : Nat → Nat) (x : Nat → Nat) (h : Nat → Nat → Nat) (o : Nat → Nat) (T : Nat → Int → Int) (T1 : Nat → Int → Int) (T2 : Nat → Int → Int) (T3 : Nat → Int → Int) (K : Nat → Nat → Int → Int) (z : Int) (P : Nat → Int → Int) (C : Nat → Int) (r : Int) (hz1 : ∀ b, 0 ≤ b → b < 6 → T1 3 b = 0 ∨ T1 3 b = 1) (hzz : 0 ≤ z ∧ z ≤ 4) (h1 : -2000000000 ≤ r ∧ r ≤ 2000000000) (sz : Nat) : Met l yX5_settle (wm yX5_settle cX5_settle 2 (some .int)) (rmm 4 0 0) (pW g (List.flatten ([[(c0, .inr (5, [.ref (na 0), .ref (be 0), .ref (tr 0), .ref (sn 0), .int (iI (C 0)), .ref (x 0), .ref (o 0), .int (iI (C 1)), .int (iI (C 2)), .int (iI (C 3)), .int (iI (C 4))]))], st_ws g na T, st_ws g be T1, st_ws g tr T2, st_ws g sn T3, hi_ws g x h K z, or_ws g o P] : List va_W)) sz [.ref c0, .int (iI r)]) (qW g (List.flatten ([[(c0, .inr (5, [.ref (na 0), .ref (be 0), .ref (tr 0), .ref (sn 0), .int (iI (C 0)), .ref (x 0), .ref (o 0), .int (iI (C 1)), .int (iI (C 2)), .int (iI (C 3)), .int (iI (C 4))]))], st_ws g na T, st_ws g be T1, st_ws g tr T2, st_ws g sn T3, hi_ws g x h K z, or_ws g o P] : List va_W)) (fun vv ww => vv = some (.int (iI r)) ∧ ((r < 0 ∧ ww = wp_ws g c0 na be tr sn x h o T1 T1 T2 T3 K z P C) ∨ (0 ≤ r ∧ ww = wp_ws g c0 na be tr sn x (rot h) o T T1 T2 T3 (reK K T1) (if 4 < z + 1 then 4 else z + 1) P C)))) 0 0 (va_A (List.flatten ([[(c0, .inr (5, [.ref (na 0), .ref (be 0), .ref (tr 0), .ref (sn 0), .int (iI (C 0)), .ref (x 0), .ref (o 0), .int (iI (C 1)), .int (iI (C 2)), .int (iI (C 3)), .int (iI (C 4))]))], st_ws g na T, st_ws g be T1, st_ws g tr T2, st_ws g sn T3, hi_ws g x h K z, or_ws g o P] : List va_W)) sz) := by
  refine met_w (by decide) (Nat.le_of_ble_eq_true rfl) ?_
  intro p e s m args below meth c Q ls A hx hb hml hown hts hl w hin hend
  obtain ⟨H, hH0⟩ : ∃ H, H = s.heap := ⟨_, rfl⟩
  obtain ⟨locs, hL0⟩ : ∃ locs : List Loc, locs = [] := ⟨_, rfl⟩
  rw [← hH0, ← hL0] at w
  rw [← hH0, ← hL0]
  have hl : lv_has ls 2 [(0, .ref c0), (1, .int (iI r))] := hl
  refine lv_iload_n hx hb dX5_settle_0 rfl (lv_at hl 1 rfl) ?_
  refine ri_if_ge (tgt := 18) hx hb dX5_settle_1 (by decide) (by omega) (fun c1 => ?_) (fun c1 => ?_)
  · refine lv_aload_n hx hb dX5_settle_18 rfl (lv_at hl 0 rfl) ?_
    refine ri_get (v := .ref (x 0)) hx hb hts hown w fX5 0 5 (W0_of k_fl_RX5_32 rfl) rfl rfl (by decide) dX5_settle_19 ?_
    refine lv_aload_n hx hb dX5_settle_22 rfl (lv_at hl 0 rfl) ?_
    refine ri_get (v := .ref (be 0)) hx hb hts hown w fX5 0 1 (W0_of k_fl_RX5_16 rfl) rfl rfl (by decide) dX5_settle_23 ?_
    refine cb_wV (bc := [hi_ws g x h K z, st_ws g be T1]) (br := [[(c0, .inr (5, [.ref (na 0), .ref (be 0), .ref (tr 0), .ref (sn 0), .int (iI (C 0)), .ref (x 0), .ref (o 0), .int (iI (C 1)), .int (iI (C 2)), .int (iI (C 3)), .int (iI (C 4))]))], st_ws g na T, st_ws g tr T2, st_ws g sn T3, or_ws g o P]) (kb := 7) (As := [.ref (be 0)]) (rest := []) hx hb (hml.trans hl.1.symm) hown hts w lk_RX5_90 (fun sz => t_X2_record l g x h K z be T1 (by omega) (hz1) sz) [5, 2, 0, 1, 3, 4, 6] (by decide) rfl rfl rfl (call_recv w (q0 := 73) rfl fX2.1) rfl rfl (Nat.le_of_ble_eq_true rfl) ⟨Nat.le_of_ble_eq_true rfl, Nat.le_of_ble_eq_true rfl⟩ ⟨Nat.le_of_ble_eq_true rfl, Nat.le_of_ble_eq_true rfl⟩ dX5_settle_26 (fun v w1 H locs hr w => ?_)
    obtain ⟨rfl, rfl⟩ := hr
    have w := w.two
    have w : Wd g A (List.flatten ([[(c0, .inr (5, [.ref (na 0), .ref (be 0), .ref (tr 0), .ref (sn 0), .int (iI (C 0)), .ref (x 0), .ref (o 0), .int (iI (C 1)), .int (iI (C 2)), .int (iI (C 3)), .int (iI (C 4))]))], st_ws g na T, st_ws g tr T2, st_ws g sn T3, or_ws g o P, hi_ws g x (rot h) (reK K T1) (if 4 < z + 1 then 4 else z + 1), st_ws g be T1] : List va_W)) s H locs := w
    refine lv_iload_n hx hb dX5_settle_29 rfl (lv_at hl 1 rfl) ?_
    have w := w.blk (bc := [[(c0, .inr (5, [.ref (na 0), .ref (be 0), .ref (tr 0), .ref (sn 0), .int (iI (C 0)), .ref (x 0), .ref (o 0), .int (iI (C 1)), .int (iI (C 2)), .int (iI (C 3)), .int (iI (C 4))]))], st_ws g na T, st_ws g be T1, st_ws g tr T2, st_ws g sn T3, hi_ws g x (rot h) (reK K T1) (if 4 < z + 1 then 4 else z + 1), or_ws g o P]) [0, 1, 6, 2, 3, 5, 4] (k := 7) (by decide) rfl rfl
    have w : Wd g A (wp_ws g c0 na be tr sn x (rot h) o T T1 T2 T3 (reK K T1) (if 4 < z + 1 then 4 else z + 1) P C) s H locs := w
    exact hend.2 _ _ _ _ ⟨_, rfl, rfl⟩ _ _ dX5_settle_30 w ⟨rfl, Or.inr ⟨by omega, rfl⟩⟩
  · refine lv_aload_n hx hb dX5_settle_4 rfl (lv_at hl 0 rfl) ?_
    refine ri_get (v := .ref (na 0)) hx hb hts hown w fX5 0 0 (W0_of k_fl_RX5_10 rfl) rfl rfl (by decide) dX5_settle_5 ?_
    refine lv_aload_n hx hb dX5_settle_8 rfl (lv_at hl 0 rfl) ?_
    refine ri_get (v := .ref (be 0)) hx hb hts hown w fX5 0 1 (W0_of k_fl_RX5_16 rfl) rfl rfl (by decide) dX5_settle_9 ?_
    refine cb_wV (bc := [st_ws g na T, st_ws g be T1]) (br := [[(c0, .inr (5, [.ref (na 0), .ref (be 0), .ref (tr 0), .ref (sn 0), .int (iI (C 0)), .ref (x 0), .ref (o 0), .int (iI (C 1)), .int (iI (C 2)), .int (iI (C 3)), .int (iI (C 4))]))], st_ws g tr T2, st_ws g sn T3, hi_ws g x h K z, or_ws g o P]) (kb := 7) (As := [.ref (be 0)]) (rest := []) hx hb (hml.trans hl.1.symm) hown hts w lk_RX5_56 (fun sz => t_X4_copyFrom l g na be T T1 (hz1) sz) [1, 2, 0, 3, 4, 5, 6] (by decide) rfl rfl rfl (call_recv w (q0 := 1) rfl fX4.1) rfl rfl (Nat.le_of_ble_eq_true rfl) ⟨Nat.le_of_ble_eq_true rfl, Nat.le_of_ble_eq_true rfl⟩ ⟨Nat.le_of_ble_eq_true rfl, Nat.le_of_ble_eq_true rfl⟩ dX5_settle_12 (fun v w1 H locs hr w => ?_)
    obtain ⟨rfl, rfl⟩ := hr
    have w := w.two
    have w : Wd g A (List.flatten ([[(c0, .inr (5, [.ref (na 0), .ref (be 0), .ref (tr 0), .ref (sn 0), .int (iI (C 0)), .ref (x 0), .ref (o 0), .int (iI (C 1)), .int (iI (C 2)), .int (iI (C 3)), .int (iI (C 4))]))], st_ws g tr T2, st_ws g sn T3, hi_ws g x h K z, or_ws g o P, st_ws g na T1, st_ws g be T1] : List va_W)) s H locs := w
    refine lv_goto (tgt := 29) hx hb dX5_settle_15 (by decide) ?_
    refine lv_iload_n hx hb dX5_settle_29 rfl (lv_at hl 1 rfl) ?_
    have w := w.blk (bc := [[(c0, .inr (5, [.ref (na 0), .ref (be 0), .ref (tr 0), .ref (sn 0), .int (iI (C 0)), .ref (x 0), .ref (o 0), .int (iI (C 1)), .int (iI (C 2)), .int (iI (C 3)), .int (iI (C 4))]))], st_ws g na T1, st_ws g be T1, st_ws g tr T2, st_ws g sn T3, hi_ws g x h K z, or_ws g o P]) [0, 5, 6, 1, 2, 3, 4] (k := 7) (by decide) rfl rfl
    have w : Wd g A (wp_ws g c0 na be tr sn x h o T1 T1 T2 T3 K z P C) s H locs := w
    exact hend.2 _ _ _ _ ⟨_, rfl, rfl⟩ _ _ dX5_settle_30 w ⟨rfl, Or.inl ⟨by omega, rfl⟩⟩
