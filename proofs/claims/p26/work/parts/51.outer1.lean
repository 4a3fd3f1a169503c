set_option maxHeartbeats 4000000 in
set_option maxRecDepth 100000 in
theorem t_X5_settle (l : Launch) (g : GG) (c0 : Nat) (na : Nat → Nat) (be : Nat → Nat) (tr : Nat → Nat) (sn : Nat → Nat) (x : Nat → Nat) (h : Nat → Nat → Nat) (o : Nat → Nat) (T : Nat → Int → Int) (T1 : Nat → Int → Int) (T2 : Nat → Int → Int) (T3 : Nat → Int → Int) (K : Nat → Nat → Int → Int) (z : Int) (P : Nat → Int → Int) (C : Nat → Int) (r : Int) (hz1 : ∀ b, 0 ≤ b → b < 6 → T1 3 b = 0 ∨ T1 3 b = 1) (hzz : 0 ≤ z ∧ z ≤ 4) (h1 : -2000000000 ≤ r ∧ r ≤ 2000000000) (sz : Nat) : Met l yX5_settle (wm yX5_settle cX5_settle 2 (some .int)) (rmm 4 0 0) (pW g (List.flatten ([[(c0, .inr (5, [.ref (na 0), .ref (be 0), .ref (tr 0), .ref (sn 0), .int (iI (C 0)), .ref (x 0), .ref (o 0), .int (iI (C 1)), .int (iI (C 2)), .int (iI (C 3)), .int (iI (C 4))]))], st_ws g na T, st_ws g be T1, st_ws g tr T2, st_ws g sn T3, hi_ws g x h K z, or_ws g o P] : List va_W)) sz [.ref c0, .int (iI r)]) (qW g (List.flatten ([[(c0, .inr (5, [.ref (na 0), .ref (be 0), .ref (tr 0), .ref (sn 0), .int (iI (C 0)), .ref (x 0), .ref (o 0), .int (iI (C 1)), .int (iI (C 2)), .int (iI (C 3)), .int (iI (C 4))]))], st_ws g na T, st_ws g be T1, st_ws g tr T2, st_ws g sn T3, hi_ws g x h K z, or_ws g o P] : List va_W)) (fun vv ww => vv = some (.int (iI r)) ∧ ((r < 0 ∧ ww = wp_ws g c0 na be tr sn x h o T1 T1 T2 T3 K z P C) ∨ (0 ≤ r ∧ ww = wp_ws g c0 na be tr sn x (rot h) o T T1 T2 T3 (reK K T1) (if 4 < z + 1 then 4 else z + 1) P C)))) 0 0 (va_A (List.flatten ([[(c0, .inr (5, [.ref (na 0), .ref (be 0), .ref (tr 0), .ref (sn 0), .int (iI (C 0)), .ref (x 0), .ref (o 0), .int (iI (C 1)), .int (iI (C 2)), .int (iI (C 3)), .int (iI (C 4))]))], st_ws g na T, st_ws g be T1, st_ws g tr T2, st_ws g sn T3, hi_ws g x h K z, or_ws g o P] : List va_W)) sz) := by
  refine met_w (by decide) (Nat.le_of_ble_eq_true rfl) ?_
  intro p e s m args below meth c Q ls A hx hb hml hown hts hl w hin hend
  obtain ⟨H, hH0⟩ : ∃ H, H = s.heap := ⟨_, rfl⟩
  obtain ⟨locs, hL0⟩ : ∃ locs : List Loc, locs = [] := ⟨_, rfl⟩
  rw [← hH0, ← hL0] at w
  rw [← hH0, ← hL0]
  have hl : lv_has ls 2 [(0, .ref c0), (1, .int (iI r))] := hl
  refine lv_iload_n hx hb dX5_settle_0 rfl (lv_at hl 1 rfl) ?_
  refine ri_if_ge (tgt := 18) hx hb dX5_settle_1 (by decide) (by omega) (fun c1 => ?_) (fun c1 => ?_)
  · refine lv_aload_n hx hb dX5_settle_18 rfl (lv_at hl 0 rfl) ?_
    refine ri_get (v := .ref (x 0)) hx hb hts hown w fX5 0 5 (W0_of k_fl_RX5_32 rfl) rfl rfl (by decide) dX5_settle_19 ?_
    refine lv_aload_n hx hb dX5_settle_22 rfl (lv_at hl 0 rfl) ?_
    refine ri_get (v := .ref (be 0)) hx hb hts hown w fX5 0 1 (W0_of k_fl_RX5_16 rfl) rfl rfl (by decide) dX5_settle_23 ?_
    refine cb_wV (bc := [hi_ws g x h K z, st_ws g be T1]) (br := [[(c0, .inr (5, [.ref (na 0), .ref (be 0), .ref (tr 0), .ref (sn 0), .int (iI (C 0)), .ref (x 0), .ref (o 0), .int (iI (C 1)), .int (iI (C 2)), .int (iI (C 3)), .int (iI (C 4))]))], st_ws g na T, st_ws g tr T2, st_ws g sn T3, or_ws g o P]) (kb := 7) (As := [.ref (be 0)]) (rest := []) hx hb (hml.trans hl.1.symm) hown hts w lk_RX5_90 (fun sz => t_X2_record l g x h K z be T1 (by omega) (hz1) sz) [5, 2, 0, 1, 3, 4, 6] (by decide) rfl rfl rfl (call_recv w (q0 := 73) rfl fX2.1) rfl rfl (Nat.le_of_ble_eq_true rfl) ⟨Nat.le_of_ble_eq_true rfl, Nat.le_of_ble_eq_true rfl⟩ ⟨Nat.le_of_ble_eq_true rfl, Nat.le_of_ble_eq_true rfl⟩ dX5_settle_26 (fun v w1 H locs hr w => ?_)
    obtain ⟨rfl, rfl⟩ := hr
    have w := w.two
    have w : Wd g A (List.flatten ([[(c0, .inr (5, [.ref (na 0), .ref (be 0), .ref (tr 0), .ref (sn 0), .int (iI (C 0)), .ref (x 0), .ref (o 0), .int (iI (C 1)), .int (iI (C 2)), .int (iI (C 3)), .int (iI (C 4))]))], st_ws g na T, st_ws g tr T2, st_ws g sn T3, or_ws g o P, hi_ws g x (rot h) (reK K T1) (if 4 < z + 1 then 4 else z + 1), st_ws g be T1] : List va_W)) s H locs := w
    refine lv_iload_n hx hb dX5_settle_29 rfl (lv_at hl 1 rfl) ?_
    have w := w.blk (bc := [[(c0, .inr (5, [.ref (na 0), .ref (be 0), .ref (tr 0), .ref (sn 0), .int (iI (C 0)), .ref (x 0), .ref (o 0), .int (iI (C 1)), .int (iI (C 2)), .int (iI (C 3)), .int (iI (C 4))]))], st_ws g na T, st_ws g be T1, st_ws g tr T2, st_ws g sn T3, hi_ws g x (rot h) (reK K T1) (if 4 < z + 1 then 4 else z + 1), or_ws g o P]) [0, 1, 6, 2, 3, 5, 4] (k := 7) (by decide) rfl rfl
    have w : Wd g A (wp_ws g c0 na be tr sn x (rot h) o T T1 T2 T3 (reK K T1) (if 4 < z + 1 then 4 else z + 1) P C) s H locs := w
    exact hend.2 _ _ _ _ ⟨_, rfl, rfl⟩ _ _ dX5_settle_30 w ⟨rfl, Or.inr ⟨by omega, rfl⟩⟩
  · refine lv_aload_n hx hb dX5_settle_4 rfl (lv_at hl 0 rfl) ?_
    refine ri_get (v := .ref (na 0)) hx hb hts hown w fX5 0 0 (W0_of k_fl_RX5_10 rfl) rfl rfl (by decide) dX5_settle_5 ?_
    refine lv_aload_n hx hb dX5_settle_8 rfl (lv_at hl 0 rfl) ?_
    refine ri_get (v := .ref (be 0)) hx hb hts hown w fX5 0 1 (W0_of k_fl_RX5_16 rfl) rfl rfl (by decide) dX5_settle_9 ?_
    refine cb_wV (bc := [st_ws g na T, st_ws g be T1]) (br := [[(c0, .inr (5, [.ref (na 0), .ref (be 0), .ref (tr 0), .ref (sn 0), .int (iI (C 0)), .ref (x 0), .ref (o 0), .int (iI (C 1)), .int (iI (C 2)), .int (iI (C 3)), .int (iI (C 4))]))], st_ws g tr T2, st_ws g sn T3, hi_ws g x h K z, or_ws g o P]) (kb := 7) (As := [.ref (be 0)]) (rest := []) hx hb (hml.trans hl.1.symm) hown hts w lk_RX5_56 (fun sz => t_X4_copyFrom l g na be T T1 (hz1) sz) [1, 2, 0, 3, 4, 5, 6] (by decide) rfl rfl rfl (call_recv w (q0 := 1) rfl fX4.1) rfl rfl (Nat.le_of_ble_eq_true rfl) ⟨Nat.le_of_ble_eq_true rfl, Nat.le_of_ble_eq_true rfl⟩ ⟨Nat.le_of_ble_eq_true rfl, Nat.le_of_ble_eq_true rfl⟩ dX5_settle_12 (fun v w1 H locs hr w => ?_)
    obtain ⟨rfl, rfl⟩ := hr
    have w := w.two
    have w : Wd g A (List.flatten ([[(c0, .inr (5, [.ref (na 0), .ref (be 0), .ref (tr 0), .ref (sn 0), .int (iI (C 0)), .ref (x 0), .ref (o 0), .int (iI (C 1)), .int (iI (C 2)), .int (iI (C 3)), .int (iI (C 4))]))], st_ws g tr T2, st_ws g sn T3, hi_ws g x h K z, or_ws g o P, st_ws g na T1, st_ws g be T1] : List va_W)) s H locs := w
    refine lv_goto (tgt := 29) hx hb dX5_settle_15 (by decide) ?_
    refine lv_iload_n hx hb dX5_settle_29 rfl (lv_at hl 1 rfl) ?_
    have w := w.blk (bc := [[(c0, .inr (5, [.ref (na 0), .ref (be 0), .ref (tr 0), .ref (sn 0), .int (iI (C 0)), .ref (x 0), .ref (o 0), .int (iI (C 1)), .int (iI (C 2)), .int (iI (C 3)), .int (iI (C 4))]))], st_ws g na T1, st_ws g be T1, st_ws g tr T2, st_ws g sn T3, hi_ws g x h K z, or_ws g o P]) [0, 5, 6, 1, 2, 3, 4] (k := 7) (by decide) rfl rfl
    have w : Wd g A (wp_ws g c0 na be tr sn x h o T1 T1 T2 T3 K z P C) s H locs := w
    exact hend.2 _ _ _ _ ⟨_, rfl, rfl⟩ _ _ dX5_settle_30 w ⟨rfl, Or.inl ⟨by omega, rfl⟩⟩
