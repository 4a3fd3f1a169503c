set_option maxHeartbeats 4000000 in
set_option maxRecDepth 100000 in
theorem t_X5_set (l : Launch) (g : GG) (c0 : Nat) (na : Nat → Nat) (be : Nat → Nat) (tr : Nat → Nat) (sn : Nat → Nat) (x : Nat → Nat) (h : Nat → Nat → Nat) (o : Nat → Nat) (T : Nat → Int → Int) (T1 : Nat → Int → Int) (T2 : Nat → Int → Int) (T3 : Nat → Int → Int) (K : Nat → Nat → Int → Int) (z : Int) (P : Nat → Int → Int) (C : Nat → Int) (N : Int) (B : Nat → Int → Int) (v : Int) (u : Int) (hW : WB N B) (hC : RelC B T T3 K z P C) (h1 : -2147483648 ≤ v ∧ v ≤ 2147483647) (h2 : -2147483648 ≤ u ∧ u ≤ 2147483647) (sz : Nat) : Met l yX5_set (wm yX5_set cX5_set 3 (some .int)) (rmm 6 0 0) (pW g (List.flatten ([[(c0, .inr (5, [.ref (na 0), .ref (be 0), .ref (tr 0), .ref (sn 0), .int (iI (C 0)), .ref (x 0), .ref (o 0), .int (iI (C 1)), .int (iI (C 2)), .int (iI (C 3)), .int (iI (C 4))]))], st_ws g na T, st_ws g be T1, st_ws g tr T2, st_ws g sn T3, hi_ws g x h K z, or_ws g o P] : List va_W)) sz [.ref c0, .int (iI v), .int (iI u)]) (qW g (List.flatten ([[(c0, .inr (5, [.ref (na 0), .ref (be 0), .ref (tr 0), .ref (sn 0), .int (iI (C 0)), .ref (x 0), .ref (o 0), .int (iI (C 1)), .int (iI (C 2)), .int (iI (C 3)), .int (iI (C 4))]))], st_ws g na T, st_ws g be T1, st_ws g tr T2, st_ws g sn T3, hi_ws g x h K z, or_ws g o P] : List va_W)) (fun vv ww => vv = some (.int (iI (c_set B v u).1)) ∧ ∃ (h' : Nat → Nat → Nat) (T' T1' T2' T3' : Nat → Int → Int) (K' : Nat → Nat → Int → Int) (z' : Int) (P' : Nat → Int → Int) (C' : Nat → Int), ww = wp_ws g c0 na be tr sn x h' o T' T1' T2' T3' K' z' P' C' ∧ RelC (c_set B v u).2 T' T3' K' z' P' C')) 0 0 (va_A (List.flatten ([[(c0, .inr (5, [.ref (na 0), .ref (be 0), .ref (tr 0), .ref (sn 0), .int (iI (C 0)), .ref (x 0), .ref (o 0), .int (iI (C 1)), .int (iI (C 2)), .int (iI (C 3)), .int (iI (C 4))]))], st_ws g na T, st_ws g be T1, st_ws g tr T2, st_ws g sn T3, hi_ws g x h K z, or_ws g o P] : List va_W)) sz) := by
  have hk := hW.k
  have hj := hW.j
  have htl := hW.tl
  have hrf := hW.rf
  have hTx := hW.tx
  have hrr := hW.rr
  have hW0 := hW.1
  have hR := hC.1
  have hrz := hC.zz
  have hc0 := hC.c0
  refine met_w (by decide) (Nat.le_of_ble_eq_true rfl) ?_
  intro p e s m args below meth c Q ls A hx hb hml hown hts hl w hin hend
  obtain ⟨H, hH0⟩ : ∃ H, H = s.heap := ⟨_, rfl⟩
  obtain ⟨locs, hL0⟩ : ∃ locs : List Loc, locs = [] := ⟨_, rfl⟩
  rw [← hH0, ← hL0] at w
  rw [← hH0, ← hL0]
  have hl : lv_has ls 3 [(0, .ref c0), (1, .int (iI v)), (2, .int (iI u))] := hl
  refine lv_aload_n hx hb dX5_set_0 rfl (lv_at hl 0 rfl) ?_
  refine ri_get (v := .ref (be 0)) hx hb hts hown w fX5 0 1 (W0_of k_fl_RX5_16 rfl) rfl rfl (by decide) dX5_set_1 ?_
  refine lv_aload_n hx hb dX5_set_4 rfl (lv_at hl 0 rfl) ?_
  refine ri_get (v := .ref (na 0)) hx hb hts hown w fX5 0 0 (W0_of k_fl_RX5_10 rfl) rfl rfl (by decide) dX5_set_5 ?_
  refine cb_wV (bc := [st_ws g be T1, st_ws g na T]) (br := [[(c0, .inr (5, [.ref (na 0), .ref (be 0), .ref (tr 0), .ref (sn 0), .int (iI (C 0)), .ref (x 0), .ref (o 0), .int (iI (C 1)), .int (iI (C 2)), .int (iI (C 3)), .int (iI (C 4))]))], st_ws g tr T2, st_ws g sn T3, hi_ws g x h K z, or_ws g o P]) (kb := 7) (As := [.ref (na 0)]) (rest := []) hx hb (hml.trans hl.1.symm) hown hts w lk_RX5_56 (fun sz => t_X4_copyFrom l g be na T1 T (fun b h0 h1 => by have q1 := hR.ca h0 h1; have q2 := hW0.bl h0 h1; omega) sz) [2, 1, 0, 3, 4, 5, 6] (by decide) rfl rfl rfl (call_recv w (q0 := 19) rfl fX4.1) rfl rfl (Nat.le_of_ble_eq_true rfl) ⟨Nat.le_of_ble_eq_true rfl, Nat.le_of_ble_eq_true rfl⟩ ⟨Nat.le_of_ble_eq_true rfl, Nat.le_of_ble_eq_true rfl⟩ dX5_set_8 (fun v w1 H locs hr w => ?_)
  obtain ⟨rfl, rfl⟩ := hr
  have w := w.two
  have w : Wd g A (List.flatten ([[(c0, .inr (5, [.ref (na 0), .ref (be 0), .ref (tr 0), .ref (sn 0), .int (iI (C 0)), .ref (x 0), .ref (o 0), .int (iI (C 1)), .int (iI (C 2)), .int (iI (C 3)), .int (iI (C 4))]))], st_ws g tr T2, st_ws g sn T3, hi_ws g x h K z, or_ws g o P, st_ws g be T, st_ws g na T] : List va_W)) s H locs := w
  refine lv_aload_n hx hb dX5_set_11 rfl (lv_at hl 0 rfl) ?_
  refine lv_aload_n hx hb dX5_set_12 rfl (lv_at hl 0 rfl) ?_
  refine ri_get (v := .ref (na 0)) hx hb hts hown w fX5 0 0 (W0_of k_fl_RX5_10 rfl) rfl rfl (by decide) dX5_set_13 ?_
  refine lv_iload_n hx hb dX5_set_16 rfl (lv_at hl 1 rfl) ?_
  refine lv_iload_n hx hb dX5_set_17 rfl (lv_at hl 2 rfl) ?_
  refine cb_wV (bc := [st_ws g na T]) (br := [[(c0, .inr (5, [.ref (na 0), .ref (be 0), .ref (tr 0), .ref (sn 0), .int (iI (C 0)), .ref (x 0), .ref (o 0), .int (iI (C 1)), .int (iI (C 2)), .int (iI (C 3)), .int (iI (C 4))]))], st_ws g tr T2, st_ws g sn T3, hi_ws g x h K z, or_ws g o P, st_ws g be T]) (kb := 7) (As := [.int (iI v), .int (iI u)]) (rest := [.ref c0]) hx hb (hml.trans hl.1.symm) hown hts w lk_RX5_60 (fun sz => t_X4_changeSetting l g na _ (B 0) T v u (hW0) (hR) (by omega) (by omega) sz) [6, 0, 1, 2, 3, 4, 5] (by decide) rfl rfl rfl (call_recv w (q0 := 134) rfl fX4.1) rfl rfl (Nat.le_of_ble_eq_true rfl) ⟨Nat.le_of_ble_eq_true rfl, Nat.le_of_ble_eq_true rfl⟩ ⟨Nat.le_of_ble_eq_true rfl, Nat.le_of_ble_eq_true rfl⟩ dX5_set_18 (fun v w1 H locs hr w => ?_)
  obtain ⟨rfl, T1, rfl, hRT1⟩ := hr
  have w : Wd g A (List.flatten ([[(c0, .inr (5, [.ref (na 0), .ref (be 0), .ref (tr 0), .ref (sn 0), .int (iI (C 0)), .ref (x 0), .ref (o 0), .int (iI (C 1)), .int (iI (C 2)), .int (iI (C 3)), .int (iI (C 4))]))], st_ws g tr T2, st_ws g sn T3, hi_ws g x h K z, or_ws g o P, st_ws g be T, st_ws g na T1] : List va_W)) s H locs := w
  have r2 := k_set_rg hW0 v u
  refine cb_wV (bc := [[(c0, .inr (5, [.ref (na 0), .ref (be 0), .ref (tr 0), .ref (sn 0), .int (iI (C 0)), .ref (x 0), .ref (o 0), .int (iI (C 1)), .int (iI (C 2)), .int (iI (C 3)), .int (iI (C 4))]))], st_ws g na T1, st_ws g be T, st_ws g tr T2, st_ws g sn T3, hi_ws g x h K z, or_ws g o P]) (br := []) (kb := 7) (As := [.int (iI (k_set (B 0) v u).1)]) (rest := []) hx hb (hml.trans hl.1.symm) hown hts w lk_RX5_64 (fun sz => t_X5_settle l g c0 na be tr sn x h o T1 T T2 T3 K z P C (k_set (B 0) v u).1 (fun b h0 h1 => by have q1 := hR.ca h0 h1; have q2 := hW0.bl h0 h1; omega) (by omega) (by omega) sz) [0, 6, 5, 1, 2, 3, 4] (by decide) rfl rfl rfl (call_recv w (q0 := 0) rfl fX5.1) rfl rfl (Nat.le_of_ble_eq_true rfl) ⟨Nat.le_of_ble_eq_true rfl, Nat.le_of_ble_eq_true rfl⟩ ⟨Nat.le_of_ble_eq_true rfl, Nat.le_of_ble_eq_true rfl⟩ dX5_set_21 (fun v w1 H locs hr w => ?_)
  rcases hr with ⟨rfl, ⟨hq, rfl⟩ | ⟨hq, rfl⟩⟩
  · have w : Wd g A (List.flatten ([[(c0, .inr (5, [.ref (na 0), .ref (be 0), .ref (tr 0), .ref (sn 0), .int (iI (C 0)), .ref (x 0), .ref (o 0), .int (iI (C 1)), .int (iI (C 2)), .int (iI (C 3)), .int (iI (C 4))]))], st_ws g na T, st_ws g be T, st_ws g tr T2, st_ws g sn T3, hi_ws g x h K z, or_ws g o P] : List va_W)) s H locs := w.one
    have w : Wd g A (wp_ws g c0 na be tr sn x h o T T T2 T3 K z P C) s H locs := w
    have e8 : c_set B v u = ((k_set (B 0) v u).1, B) := (c_set_eq hW0).trans (act_n hq)
    exact hend.2 _ _ _ _ ⟨_, rfl, rfl⟩ _ _ dX5_set_24 w (by rw [e8]; exact ⟨rfl, h, T, T, T2, T3, K, z, P, C, rfl, hC⟩)
  · have w : Wd g A (List.flatten ([[(c0, .inr (5, [.ref (na 0), .ref (be 0), .ref (tr 0), .ref (sn 0), .int (iI (C 0)), .ref (x 0), .ref (o 0), .int (iI (C 1)), .int (iI (C 2)), .int (iI (C 3)), .int (iI (C 4))]))], st_ws g na T1, st_ws g be T, st_ws g tr T2, st_ws g sn T3, hi_ws g x (rot h) (reK K T) (if 4 < z + 1 then 4 else z + 1), or_ws g o P] : List va_W)) s H locs := w.one
    have w : Wd g A (wp_ws g c0 na be tr sn x (rot h) o T1 T T2 T3 (reK K T) (if 4 < z + 1 then 4 else z + 1) P C) s H locs := w
    have e8 : c_set B v u = ((k_set (B 0) v u).1, upT (b_rec B) 0 (k_set (B 0) v u).2) := (c_set_eq hW0).trans (act_p hq)
    exact hend.2 _ _ _ _ ⟨_, rfl, rfl⟩ _ _ dX5_set_24 w (by rw [e8]; exact ⟨rfl, (rot h), T1, T, T2, T3, (reK K T), (if 4 < z + 1 then 4 else z + 1), P, C, rfl, hC.rec (by omega) (hRT1 hq)⟩)

set_option maxHeartbeats 4000000 in
set_option maxRecDepth 100000 in
theorem t_X5_setKind (l : Launch) (g : GG) (c0 : Nat) (na : Nat → Nat) (be : Nat → Nat) (tr : Nat → Nat) (sn : Nat → Nat) (x : Nat → Nat) (h : Nat → Nat → Nat) (o : Nat → Nat) (T : Nat → Int → Int) (T1 : Nat → Int → Int) (T2 : Nat → Int → Int) (T3 : Nat → Int → Int) (K : Nat → Nat → Int → Int) (z : Int) (P : Nat → Int → Int) (C : Nat → Int) (N : Int) (B : Nat → Int → Int) (v : Int) (u : Int) (hW : WB N B) (hC : RelC B T T3 K z P C) (h1 : -2147483648 ≤ v ∧ v ≤ 2147483647) (h2 : -2147483648 ≤ u ∧ u ≤ 2147483647) (sz : Nat) : Met l yX5_setKind (wm yX5_setKind cX5_setKind 3 (some .int)) (rmm 6 0 0) (pW g (List.flatten ([[(c0, .inr (5, [.ref (na 0), .ref (be 0), .ref (tr 0), .ref (sn 0), .int (iI (C 0)), .ref (x 0), .ref (o 0), .int (iI (C 1)), .int (iI (C 2)), .int (iI (C 3)), .int (iI (C 4))]))], st_ws g na T, st_ws g be T1, st_ws g tr T2, st_ws g sn T3, hi_ws g x h K z, or_ws g o P] : List va_W)) sz [.ref c0, .int (iI v), .int (iI u)]) (qW g (List.flatten ([[(c0, .inr (5, [.ref (na 0), .ref (be 0), .ref (tr 0), .ref (sn 0), .int (iI (C 0)), .ref (x 0), .ref (o 0), .int (iI (C 1)), .int (iI (C 2)), .int (iI (C 3)), .int (iI (C 4))]))], st_ws g na T, st_ws g be T1, st_ws g tr T2, st_ws g sn T3, hi_ws g x h K z, or_ws g o P] : List va_W)) (fun vv ww => vv = some (.int (iI (c_setKind B v u).1)) ∧ ∃ (h' : Nat → Nat → Nat) (T' T1' T2' T3' : Nat → Int → Int) (K' : Nat → Nat → Int → Int) (z' : Int) (P' : Nat → Int → Int) (C' : Nat → Int), ww = wp_ws g c0 na be tr sn x h' o T' T1' T2' T3' K' z' P' C' ∧ RelC (c_setKind B v u).2 T' T3' K' z' P' C')) 0 0 (va_A (List.flatten ([[(c0, .inr (5, [.ref (na 0), .ref (be 0), .ref (tr 0), .ref (sn 0), .int (iI (C 0)), .ref (x 0), .ref (o 0), .int (iI (C 1)), .int (iI (C 2)), .int (iI (C 3)), .int (iI (C 4))]))], st_ws g na T, st_ws g be T1, st_ws g tr T2, st_ws g sn T3, hi_ws g x h K z, or_ws g o P] : List va_W)) sz) := by
  have hk := hW.k
  have hj := hW.j
  have htl := hW.tl
  have hrf := hW.rf
  have hTx := hW.tx
  have hrr := hW.rr
  have hW0 := hW.1
  have hR := hC.1
  have hrz := hC.zz
  have hc0 := hC.c0
  refine met_w (by decide) (Nat.le_of_ble_eq_true rfl) ?_
  intro p e s m args below meth c Q ls A hx hb hml hown hts hl w hin hend
  obtain ⟨H, hH0⟩ : ∃ H, H = s.heap := ⟨_, rfl⟩
  obtain ⟨locs, hL0⟩ : ∃ locs : List Loc, locs = [] := ⟨_, rfl⟩
  rw [← hH0, ← hL0] at w
  rw [← hH0, ← hL0]
  have hl : lv_has ls 3 [(0, .ref c0), (1, .int (iI v)), (2, .int (iI u))] := hl
  refine lv_aload_n hx hb dX5_setKind_0 rfl (lv_at hl 0 rfl) ?_
  refine ri_get (v := .ref (be 0)) hx hb hts hown w fX5 0 1 (W0_of k_fl_RX5_16 rfl) rfl rfl (by decide) dX5_setKind_1 ?_
  refine lv_aload_n hx hb dX5_setKind_4 rfl (lv_at hl 0 rfl) ?_
  refine ri_get (v := .ref (na 0)) hx hb hts hown w fX5 0 0 (W0_of k_fl_RX5_10 rfl) rfl rfl (by decide) dX5_setKind_5 ?_
  refine cb_wV (bc := [st_ws g be T1, st_ws g na T]) (br := [[(c0, .inr (5, [.ref (na 0), .ref (be 0), .ref (tr 0), .ref (sn 0), .int (iI (C 0)), .ref (x 0), .ref (o 0), .int (iI (C 1)), .int (iI (C 2)), .int (iI (C 3)), .int (iI (C 4))]))], st_ws g tr T2, st_ws g sn T3, hi_ws g x h K z, or_ws g o P]) (kb := 7) (As := [.ref (na 0)]) (rest := []) hx hb (hml.trans hl.1.symm) hown hts w lk_RX5_56 (fun sz => t_X4_copyFrom l g be na T1 T (fun b h0 h1 => by have q1 := hR.ca h0 h1; have q2 := hW0.bl h0 h1; omega) sz) [2, 1, 0, 3, 4, 5, 6] (by decide) rfl rfl rfl (call_recv w (q0 := 19) rfl fX4.1) rfl rfl (Nat.le_of_ble_eq_true rfl) ⟨Nat.le_of_ble_eq_true rfl, Nat.le_of_ble_eq_true rfl⟩ ⟨Nat.le_of_ble_eq_true rfl, Nat.le_of_ble_eq_true rfl⟩ dX5_setKind_8 (fun v w1 H locs hr w => ?_)
  obtain ⟨rfl, rfl⟩ := hr
  have w := w.two
  have w : Wd g A (List.flatten ([[(c0, .inr (5, [.ref (na 0), .ref (be 0), .ref (tr 0), .ref (sn 0), .int (iI (C 0)), .ref (x 0), .ref (o 0), .int (iI (C 1)), .int (iI (C 2)), .int (iI (C 3)), .int (iI (C 4))]))], st_ws g tr T2, st_ws g sn T3, hi_ws g x h K z, or_ws g o P, st_ws g be T, st_ws g na T] : List va_W)) s H locs := w
  refine lv_aload_n hx hb dX5_setKind_11 rfl (lv_at hl 0 rfl) ?_
  refine lv_aload_n hx hb dX5_setKind_12 rfl (lv_at hl 0 rfl) ?_
  refine ri_get (v := .ref (na 0)) hx hb hts hown w fX5 0 0 (W0_of k_fl_RX5_10 rfl) rfl rfl (by decide) dX5_setKind_13 ?_
  refine lv_iload_n hx hb dX5_setKind_16 rfl (lv_at hl 1 rfl) ?_
  refine lv_iload_n hx hb dX5_setKind_17 rfl (lv_at hl 2 rfl) ?_
  refine cb_wV (bc := [st_ws g na T]) (br := [[(c0, .inr (5, [.ref (na 0), .ref (be 0), .ref (tr 0), .ref (sn 0), .int (iI (C 0)), .ref (x 0), .ref (o 0), .int (iI (C 1)), .int (iI (C 2)), .int (iI (C 3)), .int (iI (C 4))]))], st_ws g tr T2, st_ws g sn T3, hi_ws g x h K z, or_ws g o P, st_ws g be T]) (kb := 7) (As := [.int (iI v), .int (iI u)]) (rest := [.ref c0]) hx hb (hml.trans hl.1.symm) hown hts w lk_RX5_68 (fun sz => t_X4_changeKind l g na _ (B 0) T v u (hW0) (hR) (by omega) (by omega) sz) [6, 0, 1, 2, 3, 4, 5] (by decide) rfl rfl rfl (call_recv w (q0 := 134) rfl fX4.1) rfl rfl (Nat.le_of_ble_eq_true rfl) ⟨Nat.le_of_ble_eq_true rfl, Nat.le_of_ble_eq_true rfl⟩ ⟨Nat.le_of_ble_eq_true rfl, Nat.le_of_ble_eq_true rfl⟩ dX5_setKind_18 (fun v w1 H locs hr w => ?_)
  obtain ⟨rfl, T1, rfl, hRT1⟩ := hr
  have w : Wd g A (List.flatten ([[(c0, .inr (5, [.ref (na 0), .ref (be 0), .ref (tr 0), .ref (sn 0), .int (iI (C 0)), .ref (x 0), .ref (o 0), .int (iI (C 1)), .int (iI (C 2)), .int (iI (C 3)), .int (iI (C 4))]))], st_ws g tr T2, st_ws g sn T3, hi_ws g x h K z, or_ws g o P, st_ws g be T, st_ws g na T1] : List va_W)) s H locs := w
  have r2 := k_setKind_rg hW0 v u
  refine cb_wV (bc := [[(c0, .inr (5, [.ref (na 0), .ref (be 0), .ref (tr 0), .ref (sn 0), .int (iI (C 0)), .ref (x 0), .ref (o 0), .int (iI (C 1)), .int (iI (C 2)), .int (iI (C 3)), .int (iI (C 4))]))], st_ws g na T1, st_ws g be T, st_ws g tr T2, st_ws g sn T3, hi_ws g x h K z, or_ws g o P]) (br := []) (kb := 7) (As := [.int (iI (k_setKind (B 0) v u).1)]) (rest := []) hx hb (hml.trans hl.1.symm) hown hts w lk_RX5_64 (fun sz => t_X5_settle l g c0 na be tr sn x h o T1 T T2 T3 K z P C (k_setKind (B 0) v u).1 (fun b h0 h1 => by have q1 := hR.ca h0 h1; have q2 := hW0.bl h0 h1; omega) (by omega) (by omega) sz) [0, 6, 5, 1, 2, 3, 4] (by decide) rfl rfl rfl (call_recv w (q0 := 0) rfl fX5.1) rfl rfl (Nat.le_of_ble_eq_true rfl) ⟨Nat.le_of_ble_eq_true rfl, Nat.le_of_ble_eq_true rfl⟩ ⟨Nat.le_of_ble_eq_true rfl, Nat.le_of_ble_eq_true rfl⟩ dX5_setKind_21 (fun v w1 H locs hr w => ?_)
  rcases hr with ⟨rfl, ⟨hq, rfl⟩ | ⟨hq, rfl⟩⟩
  · have w : Wd g A (List.flatten ([[(c0, .inr (5, [.ref (na 0), .ref (be 0), .ref (tr 0), .ref (sn 0), .int (iI (C 0)), .ref (x 0), .ref (o 0), .int (iI (C 1)), .int (iI (C 2)), .int (iI (C 3)), .int (iI (C 4))]))], st_ws g na T, st_ws g be T, st_ws g tr T2, st_ws g sn T3, hi_ws g x h K z, or_ws g o P] : List va_W)) s H locs := w.one
    have w : Wd g A (wp_ws g c0 na be tr sn x h o T T T2 T3 K z P C) s H locs := w
    have e8 : c_setKind B v u = ((k_setKind (B 0) v u).1, B) := (c_setKind_eq hW0).trans (act_n hq)
    exact hend.2 _ _ _ _ ⟨_, rfl, rfl⟩ _ _ dX5_setKind_24 w (by rw [e8]; exact ⟨rfl, h, T, T, T2, T3, K, z, P, C, rfl, hC⟩)
  · have w : Wd g A (List.flatten ([[(c0, .inr (5, [.ref (na 0), .ref (be 0), .ref (tr 0), .ref (sn 0), .int (iI (C 0)), .ref (x 0), .ref (o 0), .int (iI (C 1)), .int (iI (C 2)), .int (iI (C 3)), .int (iI (C 4))]))], st_ws g na T1, st_ws g be T, st_ws g tr T2, st_ws g sn T3, hi_ws g x (rot h) (reK K T) (if 4 < z + 1 then 4 else z + 1), or_ws g o P] : List va_W)) s H locs := w.one
    have w : Wd g A (wp_ws g c0 na be tr sn x (rot h) o T1 T T2 T3 (reK K T) (if 4 < z + 1 then 4 else z + 1) P C) s H locs := w
    have e8 : c_setKind B v u = ((k_setKind (B 0) v u).1, upT (b_rec B) 0 (k_setKind (B 0) v u).2) := (c_setKind_eq hW0).trans (act_p hq)
    exact hend.2 _ _ _ _ ⟨_, rfl, rfl⟩ _ _ dX5_setKind_24 w (by rw [e8]; exact ⟨rfl, (rot h), T1, T, T2, T3, (reK K T), (if 4 < z + 1 then 4 else z + 1), P, C, rfl, hC.rec (by omega) (hRT1 hq)⟩)

set_option maxHeartbeats 4000000 in
set_option maxRecDepth 100000 in
theorem t_X5_mark (l : Launch) (g : GG) (c0 : Nat) (na : Nat → Nat) (be : Nat → Nat) (tr : Nat → Nat) (sn : Nat → Nat) (x : Nat → Nat) (h : Nat → Nat → Nat) (o : Nat → Nat) (T : Nat → Int → Int) (T1 : Nat → Int → Int) (T2 : Nat → Int → Int) (T3 : Nat → Int → Int) (K : Nat → Nat → Int → Int) (z : Int) (P : Nat → Int → Int) (C : Nat → Int) (N : Int) (B : Nat → Int → Int) (v : Int) (i : Int) (hW : WB N B) (hC : RelC B T T3 K z P C) (h1 : -2147483648 ≤ v ∧ v ≤ 2147483647) (hi : i = 0 ∨ i = 1) (sz : Nat) : Met l yX5_mark (wm yX5_mark cX5_mark 3 (some .int)) (rmm 6 0 0) (pW g (List.flatten ([[(c0, .inr (5, [.ref (na 0), .ref (be 0), .ref (tr 0), .ref (sn 0), .int (iI (C 0)), .ref (x 0), .ref (o 0), .int (iI (C 1)), .int (iI (C 2)), .int (iI (C 3)), .int (iI (C 4))]))], st_ws g na T, st_ws g be T1, st_ws g tr T2, st_ws g sn T3, hi_ws g x h K z, or_ws g o P] : List va_W)) sz [.ref c0, .int (iI v), .int (iI i)]) (qW g (List.flatten ([[(c0, .inr (5, [.ref (na 0), .ref (be 0), .ref (tr 0), .ref (sn 0), .int (iI (C 0)), .ref (x 0), .ref (o 0), .int (iI (C 1)), .int (iI (C 2)), .int (iI (C 3)), .int (iI (C 4))]))], st_ws g na T, st_ws g be T1, st_ws g tr T2, st_ws g sn T3, hi_ws g x h K z, or_ws g o P] : List va_W)) (fun vv ww => vv = some (.int (iI (c_mark B v i).1)) ∧ ∃ (h' : Nat → Nat → Nat) (T' T1' T2' T3' : Nat → Int → Int) (K' : Nat → Nat → Int → Int) (z' : Int) (P' : Nat → Int → Int) (C' : Nat → Int), ww = wp_ws g c0 na be tr sn x h' o T' T1' T2' T3' K' z' P' C' ∧ RelC (c_mark B v i).2 T' T3' K' z' P' C')) 0 0 (va_A (List.flatten ([[(c0, .inr (5, [.ref (na 0), .ref (be 0), .ref (tr 0), .ref (sn 0), .int (iI (C 0)), .ref (x 0), .ref (o 0), .int (iI (C 1)), .int (iI (C 2)), .int (iI (C 3)), .int (iI (C 4))]))], st_ws g na T, st_ws g be T1, st_ws g tr T2, st_ws g sn T3, hi_ws g x h K z, or_ws g o P] : List va_W)) sz) := by
  have hk := hW.k
  have hj := hW.j
  have htl := hW.tl
  have hrf := hW.rf
  have hTx := hW.tx
  have hrr := hW.rr
  have hW0 := hW.1
  have hR := hC.1
  have hrz := hC.zz
  have hc0 := hC.c0
  refine met_w (by decide) (Nat.le_of_ble_eq_true rfl) ?_
  intro p e s m args below meth c Q ls A hx hb hml hown hts hl w hin hend
  obtain ⟨H, hH0⟩ : ∃ H, H = s.heap := ⟨_, rfl⟩
  obtain ⟨locs, hL0⟩ : ∃ locs : List Loc, locs = [] := ⟨_, rfl⟩
  rw [← hH0, ← hL0] at w
  rw [← hH0, ← hL0]
  have hl : lv_has ls 3 [(0, .ref c0), (1, .int (iI v)), (2, .int (iI i))] := hl
  refine lv_aload_n hx hb dX5_mark_0 rfl (lv_at hl 0 rfl) ?_
  refine ri_get (v := .ref (be 0)) hx hb hts hown w fX5 0 1 (W0_of k_fl_RX5_16 rfl) rfl rfl (by decide) dX5_mark_1 ?_
  refine lv_aload_n hx hb dX5_mark_4 rfl (lv_at hl 0 rfl) ?_
  refine ri_get (v := .ref (na 0)) hx hb hts hown w fX5 0 0 (W0_of k_fl_RX5_10 rfl) rfl rfl (by decide) dX5_mark_5 ?_
  refine cb_wV (bc := [st_ws g be T1, st_ws g na T]) (br := [[(c0, .inr (5, [.ref (na 0), .ref (be 0), .ref (tr 0), .ref (sn 0), .int (iI (C 0)), .ref (x 0), .ref (o 0), .int (iI (C 1)), .int (iI (C 2)), .int (iI (C 3)), .int (iI (C 4))]))], st_ws g tr T2, st_ws g sn T3, hi_ws g x h K z, or_ws g o P]) (kb := 7) (As := [.ref (na 0)]) (rest := []) hx hb (hml.trans hl.1.symm) hown hts w lk_RX5_56 (fun sz => t_X4_copyFrom l g be na T1 T (fun b h0 h1 => by have q1 := hR.ca h0 h1; have q2 := hW0.bl h0 h1; omega) sz) [2, 1, 0, 3, 4, 5, 6] (by decide) rfl rfl rfl (call_recv w (q0 := 19) rfl fX4.1) rfl rfl (Nat.le_of_ble_eq_true rfl) ⟨Nat.le_of_ble_eq_true rfl, Nat.le_of_ble_eq_true rfl⟩ ⟨Nat.le_of_ble_eq_true rfl, Nat.le_of_ble_eq_true rfl⟩ dX5_mark_8 (fun v w1 H locs hr w => ?_)
  obtain ⟨rfl, rfl⟩ := hr
  have w := w.two
  have w : Wd g A (List.flatten ([[(c0, .inr (5, [.ref (na 0), .ref (be 0), .ref (tr 0), .ref (sn 0), .int (iI (C 0)), .ref (x 0), .ref (o 0), .int (iI (C 1)), .int (iI (C 2)), .int (iI (C 3)), .int (iI (C 4))]))], st_ws g tr T2, st_ws g sn T3, hi_ws g x h K z, or_ws g o P, st_ws g be T, st_ws g na T] : List va_W)) s H locs := w
  refine lv_aload_n hx hb dX5_mark_11 rfl (lv_at hl 0 rfl) ?_
  refine lv_aload_n hx hb dX5_mark_12 rfl (lv_at hl 0 rfl) ?_
  refine ri_get (v := .ref (na 0)) hx hb hts hown w fX5 0 0 (W0_of k_fl_RX5_10 rfl) rfl rfl (by decide) dX5_mark_13 ?_
  refine lv_iload_n hx hb dX5_mark_16 rfl (lv_at hl 1 rfl) ?_
  refine lv_iload_n hx hb dX5_mark_17 rfl (lv_at hl 2 rfl) ?_
  refine cb_wV (bc := [st_ws g na T]) (br := [[(c0, .inr (5, [.ref (na 0), .ref (be 0), .ref (tr 0), .ref (sn 0), .int (iI (C 0)), .ref (x 0), .ref (o 0), .int (iI (C 1)), .int (iI (C 2)), .int (iI (C 3)), .int (iI (C 4))]))], st_ws g tr T2, st_ws g sn T3, hi_ws g x h K z, or_ws g o P, st_ws g be T]) (kb := 7) (As := [.int (iI v), .int (iI i)]) (rest := [.ref c0]) hx hb (hml.trans hl.1.symm) hown hts w lk_RX5_71 (fun sz => t_X4_changeCall l g na _ (B 0) T v i (hW0) (hR) (by omega) (by omega) sz) [6, 0, 1, 2, 3, 4, 5] (by decide) rfl rfl rfl (call_recv w (q0 := 134) rfl fX4.1) rfl rfl (Nat.le_of_ble_eq_true rfl) ⟨Nat.le_of_ble_eq_true rfl, Nat.le_of_ble_eq_true rfl⟩ ⟨Nat.le_of_ble_eq_true rfl, Nat.le_of_ble_eq_true rfl⟩ dX5_mark_18 (fun v w1 H locs hr w => ?_)
  obtain ⟨rfl, T1, rfl, hRT1⟩ := hr
  have w : Wd g A (List.flatten ([[(c0, .inr (5, [.ref (na 0), .ref (be 0), .ref (tr 0), .ref (sn 0), .int (iI (C 0)), .ref (x 0), .ref (o 0), .int (iI (C 1)), .int (iI (C 2)), .int (iI (C 3)), .int (iI (C 4))]))], st_ws g tr T2, st_ws g sn T3, hi_ws g x h K z, or_ws g o P, st_ws g be T, st_ws g na T1] : List va_W)) s H locs := w
  have r2 := k_mark_rg hW0 v i
  refine cb_wV (bc := [[(c0, .inr (5, [.ref (na 0), .ref (be 0), .ref (tr 0), .ref (sn 0), .int (iI (C 0)), .ref (x 0), .ref (o 0), .int (iI (C 1)), .int (iI (C 2)), .int (iI (C 3)), .int (iI (C 4))]))], st_ws g na T1, st_ws g be T, st_ws g tr T2, st_ws g sn T3, hi_ws g x h K z, or_ws g o P]) (br := []) (kb := 7) (As := [.int (iI (k_mark (B 0) v i).1)]) (rest := []) hx hb (hml.trans hl.1.symm) hown hts w lk_RX5_64 (fun sz => t_X5_settle l g c0 na be tr sn x h o T1 T T2 T3 K z P C (k_mark (B 0) v i).1 (fun b h0 h1 => by have q1 := hR.ca h0 h1; have q2 := hW0.bl h0 h1; omega) (by omega) (by omega) sz) [0, 6, 5, 1, 2, 3, 4] (by decide) rfl rfl rfl (call_recv w (q0 := 0) rfl fX5.1) rfl rfl (Nat.le_of_ble_eq_true rfl) ⟨Nat.le_of_ble_eq_true rfl, Nat.le_of_ble_eq_true rfl⟩ ⟨Nat.le_of_ble_eq_true rfl, Nat.le_of_ble_eq_true rfl⟩ dX5_mark_21 (fun v w1 H locs hr w => ?_)
  rcases hr with ⟨rfl, ⟨hq, rfl⟩ | ⟨hq, rfl⟩⟩
  · have w : Wd g A (List.flatten ([[(c0, .inr (5, [.ref (na 0), .ref (be 0), .ref (tr 0), .ref (sn 0), .int (iI (C 0)), .ref (x 0), .ref (o 0), .int (iI (C 1)), .int (iI (C 2)), .int (iI (C 3)), .int (iI (C 4))]))], st_ws g na T, st_ws g be T, st_ws g tr T2, st_ws g sn T3, hi_ws g x h K z, or_ws g o P] : List va_W)) s H locs := w.one
    have w : Wd g A (wp_ws g c0 na be tr sn x h o T T T2 T3 K z P C) s H locs := w
    have e8 : c_mark B v i = ((k_mark (B 0) v i).1, B) := (c_mark_eq).trans (act_n hq)
    exact hend.2 _ _ _ _ ⟨_, rfl, rfl⟩ _ _ dX5_mark_24 w (by rw [e8]; exact ⟨rfl, h, T, T, T2, T3, K, z, P, C, rfl, hC⟩)
  · have w : Wd g A (List.flatten ([[(c0, .inr (5, [.ref (na 0), .ref (be 0), .ref (tr 0), .ref (sn 0), .int (iI (C 0)), .ref (x 0), .ref (o 0), .int (iI (C 1)), .int (iI (C 2)), .int (iI (C 3)), .int (iI (C 4))]))], st_ws g na T1, st_ws g be T, st_ws g tr T2, st_ws g sn T3, hi_ws g x (rot h) (reK K T) (if 4 < z + 1 then 4 else z + 1), or_ws g o P] : List va_W)) s H locs := w.one
    have w : Wd g A (wp_ws g c0 na be tr sn x (rot h) o T1 T T2 T3 (reK K T) (if 4 < z + 1 then 4 else z + 1) P C) s H locs := w
    have e8 : c_mark B v i = ((k_mark (B 0) v i).1, upT (b_rec B) 0 (k_mark (B 0) v i).2) := (c_mark_eq).trans (act_p hq)
    exact hend.2 _ _ _ _ ⟨_, rfl, rfl⟩ _ _ dX5_mark_24 w (by rw [e8]; exact ⟨rfl, (rot h), T1, T, T2, T3, (reK K T), (if 4 < z + 1 then 4 else z + 1), P, C, rfl, hC.rec (by omega) (hRT1 hq)⟩)

set_option maxHeartbeats 4000000 in
set_option maxRecDepth 100000 in
theorem t_X5_write (l : Launch) (g : GG) (c0 : Nat) (na : Nat → Nat) (be : Nat → Nat) (tr : Nat → Nat) (sn : Nat → Nat) (x : Nat → Nat) (h : Nat → Nat → Nat) (o : Nat → Nat) (T : Nat → Int → Int) (T1 : Nat → Int → Int) (T2 : Nat → Int → Int) (T3 : Nat → Int → Int) (K : Nat → Nat → Int → Int) (z : Int) (P : Nat → Int → Int) (C : Nat → Int) (N : Int) (B : Nat → Int → Int) (v : Int) (hW : WB N B) (hC : RelC B T T3 K z P C) (h1 : -2147483648 ≤ v ∧ v ≤ 2147483647) (sz : Nat) : Met l yX5_write (wm yX5_write cX5_write 2 (some .int)) (rmm 6 0 0) (pW g (List.flatten ([[(c0, .inr (5, [.ref (na 0), .ref (be 0), .ref (tr 0), .ref (sn 0), .int (iI (C 0)), .ref (x 0), .ref (o 0), .int (iI (C 1)), .int (iI (C 2)), .int (iI (C 3)), .int (iI (C 4))]))], st_ws g na T, st_ws g be T1, st_ws g tr T2, st_ws g sn T3, hi_ws g x h K z, or_ws g o P] : List va_W)) sz [.ref c0, .int (iI v)]) (qW g (List.flatten ([[(c0, .inr (5, [.ref (na 0), .ref (be 0), .ref (tr 0), .ref (sn 0), .int (iI (C 0)), .ref (x 0), .ref (o 0), .int (iI (C 1)), .int (iI (C 2)), .int (iI (C 3)), .int (iI (C 4))]))], st_ws g na T, st_ws g be T1, st_ws g tr T2, st_ws g sn T3, hi_ws g x h K z, or_ws g o P] : List va_W)) (fun vv ww => vv = some (.int (iI (c_write B v).1)) ∧ ∃ (h' : Nat → Nat → Nat) (T' T1' T2' T3' : Nat → Int → Int) (K' : Nat → Nat → Int → Int) (z' : Int) (P' : Nat → Int → Int) (C' : Nat → Int), ww = wp_ws g c0 na be tr sn x h' o T' T1' T2' T3' K' z' P' C' ∧ RelC (c_write B v).2 T' T3' K' z' P' C')) 0 0 (va_A (List.flatten ([[(c0, .inr (5, [.ref (na 0), .ref (be 0), .ref (tr 0), .ref (sn 0), .int (iI (C 0)), .ref (x 0), .ref (o 0), .int (iI (C 1)), .int (iI (C 2)), .int (iI (C 3)), .int (iI (C 4))]))], st_ws g na T, st_ws g be T1, st_ws g tr T2, st_ws g sn T3, hi_ws g x h K z, or_ws g o P] : List va_W)) sz) := by
  have hk := hW.k
  have hj := hW.j
  have htl := hW.tl
  have hrf := hW.rf
  have hTx := hW.tx
  have hrr := hW.rr
  have hW0 := hW.1
  have hR := hC.1
  have hrz := hC.zz
  have hc0 := hC.c0
  refine met_w (by decide) (Nat.le_of_ble_eq_true rfl) ?_
  intro p e s m args below meth c Q ls A hx hb hml hown hts hl w hin hend
  obtain ⟨H, hH0⟩ : ∃ H, H = s.heap := ⟨_, rfl⟩
  obtain ⟨locs, hL0⟩ : ∃ locs : List Loc, locs = [] := ⟨_, rfl⟩
  rw [← hH0, ← hL0] at w
  rw [← hH0, ← hL0]
  have hl : lv_has ls 2 [(0, .ref c0), (1, .int (iI v))] := hl
  refine lv_aload_n hx hb dX5_write_0 rfl (lv_at hl 0 rfl) ?_
  refine ri_get (v := .ref (be 0)) hx hb hts hown w fX5 0 1 (W0_of k_fl_RX5_16 rfl) rfl rfl (by decide) dX5_write_1 ?_
  refine lv_aload_n hx hb dX5_write_4 rfl (lv_at hl 0 rfl) ?_
  refine ri_get (v := .ref (na 0)) hx hb hts hown w fX5 0 0 (W0_of k_fl_RX5_10 rfl) rfl rfl (by decide) dX5_write_5 ?_
  refine cb_wV (bc := [st_ws g be T1, st_ws g na T]) (br := [[(c0, .inr (5, [.ref (na 0), .ref (be 0), .ref (tr 0), .ref (sn 0), .int (iI (C 0)), .ref (x 0), .ref (o 0), .int (iI (C 1)), .int (iI (C 2)), .int (iI (C 3)), .int (iI (C 4))]))], st_ws g tr T2, st_ws g sn T3, hi_ws g x h K z, or_ws g o P]) (kb := 7) (As := [.ref (na 0)]) (rest := []) hx hb (hml.trans hl.1.symm) hown hts w lk_RX5_56 (fun sz => t_X4_copyFrom l g be na T1 T (fun b h0 h1 => by have q1 := hR.ca h0 h1; have q2 := hW0.bl h0 h1; omega) sz) [2, 1, 0, 3, 4, 5, 6] (by decide) rfl rfl rfl (call_recv w (q0 := 19) rfl fX4.1) rfl rfl (Nat.le_of_ble_eq_true rfl) ⟨Nat.le_of_ble_eq_true rfl, Nat.le_of_ble_eq_true rfl⟩ ⟨Nat.le_of_ble_eq_true rfl, Nat.le_of_ble_eq_true rfl⟩ dX5_write_8 (fun v w1 H locs hr w => ?_)
  obtain ⟨rfl, rfl⟩ := hr
  have w := w.two
  have w : Wd g A (List.flatten ([[(c0, .inr (5, [.ref (na 0), .ref (be 0), .ref (tr 0), .ref (sn 0), .int (iI (C 0)), .ref (x 0), .ref (o 0), .int (iI (C 1)), .int (iI (C 2)), .int (iI (C 3)), .int (iI (C 4))]))], st_ws g tr T2, st_ws g sn T3, hi_ws g x h K z, or_ws g o P, st_ws g be T, st_ws g na T] : List va_W)) s H locs := w
  refine lv_aload_n hx hb dX5_write_11 rfl (lv_at hl 0 rfl) ?_
  refine lv_aload_n hx hb dX5_write_12 rfl (lv_at hl 0 rfl) ?_
  refine ri_get (v := .ref (na 0)) hx hb hts hown w fX5 0 0 (W0_of k_fl_RX5_10 rfl) rfl rfl (by decide) dX5_write_13 ?_
  refine lv_iload_n hx hb dX5_write_16 rfl (lv_at hl 1 rfl) ?_
  refine cb_wV (bc := [st_ws g na T]) (br := [[(c0, .inr (5, [.ref (na 0), .ref (be 0), .ref (tr 0), .ref (sn 0), .int (iI (C 0)), .ref (x 0), .ref (o 0), .int (iI (C 1)), .int (iI (C 2)), .int (iI (C 3)), .int (iI (C 4))]))], st_ws g tr T2, st_ws g sn T3, hi_ws g x h K z, or_ws g o P, st_ws g be T]) (kb := 7) (As := [.int (iI v)]) (rest := [.ref c0]) hx hb (hml.trans hl.1.symm) hown hts w lk_RX5_75 (fun sz => t_X4_writePage l g na _ (B 0) T v (hW0) (hR) (by omega) sz) [6, 0, 1, 2, 3, 4, 5] (by decide) rfl rfl rfl (call_recv w (q0 := 134) rfl fX4.1) rfl rfl (Nat.le_of_ble_eq_true rfl) ⟨Nat.le_of_ble_eq_true rfl, Nat.le_of_ble_eq_true rfl⟩ ⟨Nat.le_of_ble_eq_true rfl, Nat.le_of_ble_eq_true rfl⟩ dX5_write_17 (fun v w1 H locs hr w => ?_)
  obtain ⟨rfl, T1, rfl, hRT1⟩ := hr
  have w : Wd g A (List.flatten ([[(c0, .inr (5, [.ref (na 0), .ref (be 0), .ref (tr 0), .ref (sn 0), .int (iI (C 0)), .ref (x 0), .ref (o 0), .int (iI (C 1)), .int (iI (C 2)), .int (iI (C 3)), .int (iI (C 4))]))], st_ws g tr T2, st_ws g sn T3, hi_ws g x h K z, or_ws g o P, st_ws g be T, st_ws g na T1] : List va_W)) s H locs := w
  have r2 := write_rg hW0 v
  refine cb_wV (bc := [[(c0, .inr (5, [.ref (na 0), .ref (be 0), .ref (tr 0), .ref (sn 0), .int (iI (C 0)), .ref (x 0), .ref (o 0), .int (iI (C 1)), .int (iI (C 2)), .int (iI (C 3)), .int (iI (C 4))]))], st_ws g na T1, st_ws g be T, st_ws g tr T2, st_ws g sn T3, hi_ws g x h K z, or_ws g o P]) (br := []) (kb := 7) (As := [.int (iI (r_write (B 0) v).1)]) (rest := []) hx hb (hml.trans hl.1.symm) hown hts w lk_RX5_64 (fun sz => t_X5_settle l g c0 na be tr sn x h o T1 T T2 T3 K z P C (r_write (B 0) v).1 (fun b h0 h1 => by have q1 := hR.ca h0 h1; have q2 := hW0.bl h0 h1; omega) (by omega) (by omega) sz) [0, 6, 5, 1, 2, 3, 4] (by decide) rfl rfl rfl (call_recv w (q0 := 0) rfl fX5.1) rfl rfl (Nat.le_of_ble_eq_true rfl) ⟨Nat.le_of_ble_eq_true rfl, Nat.le_of_ble_eq_true rfl⟩ ⟨Nat.le_of_ble_eq_true rfl, Nat.le_of_ble_eq_true rfl⟩ dX5_write_20 (fun v w1 H locs hr w => ?_)
  rcases hr with ⟨rfl, ⟨hq, rfl⟩ | ⟨hq, rfl⟩⟩
  · have w : Wd g A (List.flatten ([[(c0, .inr (5, [.ref (na 0), .ref (be 0), .ref (tr 0), .ref (sn 0), .int (iI (C 0)), .ref (x 0), .ref (o 0), .int (iI (C 1)), .int (iI (C 2)), .int (iI (C 3)), .int (iI (C 4))]))], st_ws g na T, st_ws g be T, st_ws g tr T2, st_ws g sn T3, hi_ws g x h K z, or_ws g o P] : List va_W)) s H locs := w.one
    have w : Wd g A (wp_ws g c0 na be tr sn x h o T T T2 T3 K z P C) s H locs := w
    have e8 : c_write B v = ((r_write (B 0) v).1, B) := (rfl).trans (act_n hq)
    exact hend.2 _ _ _ _ ⟨_, rfl, rfl⟩ _ _ dX5_write_23 w (by rw [e8]; exact ⟨rfl, h, T, T, T2, T3, K, z, P, C, rfl, hC⟩)
  · have w : Wd g A (List.flatten ([[(c0, .inr (5, [.ref (na 0), .ref (be 0), .ref (tr 0), .ref (sn 0), .int (iI (C 0)), .ref (x 0), .ref (o 0), .int (iI (C 1)), .int (iI (C 2)), .int (iI (C 3)), .int (iI (C 4))]))], st_ws g na T1, st_ws g be T, st_ws g tr T2, st_ws g sn T3, hi_ws g x (rot h) (reK K T) (if 4 < z + 1 then 4 else z + 1), or_ws g o P] : List va_W)) s H locs := w.one
    have w : Wd g A (wp_ws g c0 na be tr sn x (rot h) o T1 T T2 T3 (reK K T) (if 4 < z + 1 then 4 else z + 1) P C) s H locs := w
    have e8 : c_write B v = ((r_write (B 0) v).1, upT (b_rec B) 0 (r_write (B 0) v).2) := (rfl).trans (act_p hq)
    exact hend.2 _ _ _ _ ⟨_, rfl, rfl⟩ _ _ dX5_write_23 w (by rw [e8]; exact ⟨rfl, (rot h), T1, T, T2, T3, (reK K T), (if 4 < z + 1 then 4 else z + 1), P, C, rfl, hC.rec (by omega) (hRT1 hq)⟩)

set_option maxHeartbeats 4000000 in
set_option maxRecDepth 100000 in
theorem t_X5_read (l : Launch) (g : GG) (c0 : Nat) (na : Nat → Nat) (be : Nat → Nat) (tr : Nat → Nat) (sn : Nat → Nat) (x : Nat → Nat) (h : Nat → Nat → Nat) (o : Nat → Nat) (T : Nat → Int → Int) (T1 : Nat → Int → Int) (T2 : Nat → Int → Int) (T3 : Nat → Int → Int) (K : Nat → Nat → Int → Int) (z : Int) (P : Nat → Int → Int) (C : Nat → Int) (N : Int) (B : Nat → Int → Int) (v : Int) (hW : WB N B) (hC : RelC B T T3 K z P C) (h1 : -2147483648 ≤ v ∧ v ≤ 2147483647) (hN : N + 100 ≤ 200000000) (sz : Nat) : Met l yX5_read (wm yX5_read cX5_read 2 (some .int)) (rmm 8 0 0) (pW g (List.flatten ([[(c0, .inr (5, [.ref (na 0), .ref (be 0), .ref (tr 0), .ref (sn 0), .int (iI (C 0)), .ref (x 0), .ref (o 0), .int (iI (C 1)), .int (iI (C 2)), .int (iI (C 3)), .int (iI (C 4))]))], st_ws g na T, st_ws g be T1, st_ws g tr T2, st_ws g sn T3, hi_ws g x h K z, or_ws g o P] : List va_W)) sz [.ref c0, .int (iI v)]) (qW g (List.flatten ([[(c0, .inr (5, [.ref (na 0), .ref (be 0), .ref (tr 0), .ref (sn 0), .int (iI (C 0)), .ref (x 0), .ref (o 0), .int (iI (C 1)), .int (iI (C 2)), .int (iI (C 3)), .int (iI (C 4))]))], st_ws g na T, st_ws g be T1, st_ws g tr T2, st_ws g sn T3, hi_ws g x h K z, or_ws g o P] : List va_W)) (fun vv ww => vv = some (.int (iI (c_read B v).1)) ∧ ∃ (h' : Nat → Nat → Nat) (T' T1' T2' T3' : Nat → Int → Int) (K' : Nat → Nat → Int → Int) (z' : Int) (P' : Nat → Int → Int) (C' : Nat → Int), ww = wp_ws g c0 na be tr sn x h' o T' T1' T2' T3' K' z' P' C' ∧ RelC (c_read B v).2 T' T3' K' z' P' C')) 0 0 (va_A (List.flatten ([[(c0, .inr (5, [.ref (na 0), .ref (be 0), .ref (tr 0), .ref (sn 0), .int (iI (C 0)), .ref (x 0), .ref (o 0), .int (iI (C 1)), .int (iI (C 2)), .int (iI (C 3)), .int (iI (C 4))]))], st_ws g na T, st_ws g be T1, st_ws g tr T2, st_ws g sn T3, hi_ws g x h K z, or_ws g o P] : List va_W)) sz) := by
  have hk := hW.k
  have hj := hW.j
  have htl := hW.tl
  have hrf := hW.rf
  have hTx := hW.tx
  have hrr := hW.rr
  have hW0 := hW.1
  have hR := hC.1
  have hrz := hC.zz
  have hc0 := hC.c0
  refine met_w (by decide) (Nat.le_of_ble_eq_true rfl) ?_
  intro p e s m args below meth c Q ls A hx hb hml hown hts hl w hin hend
  obtain ⟨H, hH0⟩ : ∃ H, H = s.heap := ⟨_, rfl⟩
  obtain ⟨locs, hL0⟩ : ∃ locs : List Loc, locs = [] := ⟨_, rfl⟩
  rw [← hH0, ← hL0] at w
  rw [← hH0, ← hL0]
  have hl : lv_has ls 2 [(0, .ref c0), (1, .int (iI v))] := hl
  refine lv_aload_n hx hb dX5_read_0 rfl (lv_at hl 0 rfl) ?_
  refine ri_get (v := .ref (be 0)) hx hb hts hown w fX5 0 1 (W0_of k_fl_RX5_16 rfl) rfl rfl (by decide) dX5_read_1 ?_
  refine lv_aload_n hx hb dX5_read_4 rfl (lv_at hl 0 rfl) ?_
  refine ri_get (v := .ref (na 0)) hx hb hts hown w fX5 0 0 (W0_of k_fl_RX5_10 rfl) rfl rfl (by decide) dX5_read_5 ?_
  refine cb_wV (bc := [st_ws g be T1, st_ws g na T]) (br := [[(c0, .inr (5, [.ref (na 0), .ref (be 0), .ref (tr 0), .ref (sn 0), .int (iI (C 0)), .ref (x 0), .ref (o 0), .int (iI (C 1)), .int (iI (C 2)), .int (iI (C 3)), .int (iI (C 4))]))], st_ws g tr T2, st_ws g sn T3, hi_ws g x h K z, or_ws g o P]) (kb := 7) (As := [.ref (na 0)]) (rest := []) hx hb (hml.trans hl.1.symm) hown hts w lk_RX5_56 (fun sz => t_X4_copyFrom l g be na T1 T (fun b h0 h1 => by have q1 := hR.ca h0 h1; have q2 := hW0.bl h0 h1; omega) sz) [2, 1, 0, 3, 4, 5, 6] (by decide) rfl rfl rfl (call_recv w (q0 := 19) rfl fX4.1) rfl rfl (Nat.le_of_ble_eq_true rfl) ⟨Nat.le_of_ble_eq_true rfl, Nat.le_of_ble_eq_true rfl⟩ ⟨Nat.le_of_ble_eq_true rfl, Nat.le_of_ble_eq_true rfl⟩ dX5_read_8 (fun v w1 H locs hr w => ?_)
  obtain ⟨rfl, rfl⟩ := hr
  have w := w.two
  have w : Wd g A (List.flatten ([[(c0, .inr (5, [.ref (na 0), .ref (be 0), .ref (tr 0), .ref (sn 0), .int (iI (C 0)), .ref (x 0), .ref (o 0), .int (iI (C 1)), .int (iI (C 2)), .int (iI (C 3)), .int (iI (C 4))]))], st_ws g tr T2, st_ws g sn T3, hi_ws g x h K z, or_ws g o P, st_ws g be T, st_ws g na T] : List va_W)) s H locs := w
  refine lv_aload_n hx hb dX5_read_11 rfl (lv_at hl 0 rfl) ?_
  refine lv_aload_n hx hb dX5_read_12 rfl (lv_at hl 0 rfl) ?_
  refine ri_get (v := .ref (na 0)) hx hb hts hown w fX5 0 0 (W0_of k_fl_RX5_10 rfl) rfl rfl (by decide) dX5_read_13 ?_
  refine lv_iload_n hx hb dX5_read_16 rfl (lv_at hl 1 rfl) ?_
  refine cb_wV (bc := [st_ws g na T]) (br := [[(c0, .inr (5, [.ref (na 0), .ref (be 0), .ref (tr 0), .ref (sn 0), .int (iI (C 0)), .ref (x 0), .ref (o 0), .int (iI (C 1)), .int (iI (C 2)), .int (iI (C 3)), .int (iI (C 4))]))], st_ws g tr T2, st_ws g sn T3, hi_ws g x h K z, or_ws g o P, st_ws g be T]) (kb := 7) (As := [.int (iI v)]) (rest := [.ref c0]) hx hb (hml.trans hl.1.symm) hown hts w lk_RX5_78 (fun sz => t_X4_readPage l g na _ (B 0) T v (hW0) (hR) (by omega) (by omega) sz) [6, 0, 1, 2, 3, 4, 5] (by decide) rfl rfl rfl (call_recv w (q0 := 134) rfl fX4.1) rfl rfl (Nat.le_of_ble_eq_true rfl) ⟨Nat.le_of_ble_eq_true rfl, Nat.le_of_ble_eq_true rfl⟩ ⟨Nat.le_of_ble_eq_true rfl, Nat.le_of_ble_eq_true rfl⟩ dX5_read_17 (fun v w1 H locs hr w => ?_)
  obtain ⟨rfl, T1, rfl, hRT1⟩ := hr
  have w : Wd g A (List.flatten ([[(c0, .inr (5, [.ref (na 0), .ref (be 0), .ref (tr 0), .ref (sn 0), .int (iI (C 0)), .ref (x 0), .ref (o 0), .int (iI (C 1)), .int (iI (C 2)), .int (iI (C 3)), .int (iI (C 4))]))], st_ws g tr T2, st_ws g sn T3, hi_ws g x h K z, or_ws g o P, st_ws g be T, st_ws g na T1] : List va_W)) s H locs := w
  have r2 := read_rg hW0 v
  refine cb_wV (bc := [[(c0, .inr (5, [.ref (na 0), .ref (be 0), .ref (tr 0), .ref (sn 0), .int (iI (C 0)), .ref (x 0), .ref (o 0), .int (iI (C 1)), .int (iI (C 2)), .int (iI (C 3)), .int (iI (C 4))]))], st_ws g na T1, st_ws g be T, st_ws g tr T2, st_ws g sn T3, hi_ws g x h K z, or_ws g o P]) (br := []) (kb := 7) (As := [.int (iI (r_read (B 0) v).1)]) (rest := []) hx hb (hml.trans hl.1.symm) hown hts w lk_RX5_64 (fun sz => t_X5_settle l g c0 na be tr sn x h o T1 T T2 T3 K z P C (r_read (B 0) v).1 (fun b h0 h1 => by have q1 := hR.ca h0 h1; have q2 := hW0.bl h0 h1; omega) (by omega) (by omega) sz) [0, 6, 5, 1, 2, 3, 4] (by decide) rfl rfl rfl (call_recv w (q0 := 0) rfl fX5.1) rfl rfl (Nat.le_of_ble_eq_true rfl) ⟨Nat.le_of_ble_eq_true rfl, Nat.le_of_ble_eq_true rfl⟩ ⟨Nat.le_of_ble_eq_true rfl, Nat.le_of_ble_eq_true rfl⟩ dX5_read_20 (fun v w1 H locs hr w => ?_)
  rcases hr with ⟨rfl, ⟨hq, rfl⟩ | ⟨hq, rfl⟩⟩
  · have w : Wd g A (List.flatten ([[(c0, .inr (5, [.ref (na 0), .ref (be 0), .ref (tr 0), .ref (sn 0), .int (iI (C 0)), .ref (x 0), .ref (o 0), .int (iI (C 1)), .int (iI (C 2)), .int (iI (C 3)), .int (iI (C 4))]))], st_ws g na T, st_ws g be T, st_ws g tr T2, st_ws g sn T3, hi_ws g x h K z, or_ws g o P] : List va_W)) s H locs := w.one
    have w : Wd g A (wp_ws g c0 na be tr sn x h o T T T2 T3 K z P C) s H locs := w
    have e8 : c_read B v = ((r_read (B 0) v).1, B) := (rfl).trans (act_n hq)
    exact hend.2 _ _ _ _ ⟨_, rfl, rfl⟩ _ _ dX5_read_23 w (by rw [e8]; exact ⟨rfl, h, T, T, T2, T3, K, z, P, C, rfl, hC⟩)
  · have w : Wd g A (List.flatten ([[(c0, .inr (5, [.ref (na 0), .ref (be 0), .ref (tr 0), .ref (sn 0), .int (iI (C 0)), .ref (x 0), .ref (o 0), .int (iI (C 1)), .int (iI (C 2)), .int (iI (C 3)), .int (iI (C 4))]))], st_ws g na T1, st_ws g be T, st_ws g tr T2, st_ws g sn T3, hi_ws g x (rot h) (reK K T) (if 4 < z + 1 then 4 else z + 1), or_ws g o P] : List va_W)) s H locs := w.one
    have w : Wd g A (wp_ws g c0 na be tr sn x (rot h) o T1 T T2 T3 (reK K T) (if 4 < z + 1 then 4 else z + 1) P C) s H locs := w
    have e8 : c_read B v = ((r_read (B 0) v).1, upT (b_rec B) 0 (r_read (B 0) v).2) := (rfl).trans (act_p hq)
    exact hend.2 _ _ _ _ ⟨_, rfl, rfl⟩ _ _ dX5_read_23 w (by rw [e8]; exact ⟨rfl, (rot h), T1, T, T2, T3, (reK K T), (if 4 < z + 1 then 4 else z + 1), P, C, rfl, hC.rec (by omega) (hRT1 hq)⟩)

set_option maxHeartbeats 4000000 in
set_option maxRecDepth 100000 in
theorem t_X5_forget (l : Launch) (g : GG) (c0 : Nat) (na : Nat → Nat) (be : Nat → Nat) (tr : Nat → Nat) (sn : Nat → Nat) (x : Nat → Nat) (h : Nat → Nat → Nat) (o : Nat → Nat) (T : Nat → Int → Int) (T1 : Nat → Int → Int) (T2 : Nat → Int → Int) (T3 : Nat → Int → Int) (K : Nat → Nat → Int → Int) (z : Int) (P : Nat → Int → Int) (C : Nat → Int) (N : Int) (B : Nat → Int → Int) (v : Int) (hW : WB N B) (hC : RelC B T T3 K z P C) (h1 : -2147483648 ≤ v ∧ v ≤ 2147483647) (sz : Nat) : Met l yX5_forget (wm yX5_forget cX5_forget 2 (some .int)) (rmm 6 0 0) (pW g (List.flatten ([[(c0, .inr (5, [.ref (na 0), .ref (be 0), .ref (tr 0), .ref (sn 0), .int (iI (C 0)), .ref (x 0), .ref (o 0), .int (iI (C 1)), .int (iI (C 2)), .int (iI (C 3)), .int (iI (C 4))]))], st_ws g na T, st_ws g be T1, st_ws g tr T2, st_ws g sn T3, hi_ws g x h K z, or_ws g o P] : List va_W)) sz [.ref c0, .int (iI v)]) (qW g (List.flatten ([[(c0, .inr (5, [.ref (na 0), .ref (be 0), .ref (tr 0), .ref (sn 0), .int (iI (C 0)), .ref (x 0), .ref (o 0), .int (iI (C 1)), .int (iI (C 2)), .int (iI (C 3)), .int (iI (C 4))]))], st_ws g na T, st_ws g be T1, st_ws g tr T2, st_ws g sn T3, hi_ws g x h K z, or_ws g o P] : List va_W)) (fun vv ww => vv = some (.int (iI (c_forget B v).1)) ∧ ∃ (h' : Nat → Nat → Nat) (T' T1' T2' T3' : Nat → Int → Int) (K' : Nat → Nat → Int → Int) (z' : Int) (P' : Nat → Int → Int) (C' : Nat → Int), ww = wp_ws g c0 na be tr sn x h' o T' T1' T2' T3' K' z' P' C' ∧ RelC (c_forget B v).2 T' T3' K' z' P' C')) 0 0 (va_A (List.flatten ([[(c0, .inr (5, [.ref (na 0), .ref (be 0), .ref (tr 0), .ref (sn 0), .int (iI (C 0)), .ref (x 0), .ref (o 0), .int (iI (C 1)), .int (iI (C 2)), .int (iI (C 3)), .int (iI (C 4))]))], st_ws g na T, st_ws g be T1, st_ws g tr T2, st_ws g sn T3, hi_ws g x h K z, or_ws g o P] : List va_W)) sz) := by
  have hk := hW.k
  have hj := hW.j
  have htl := hW.tl
  have hrf := hW.rf
  have hTx := hW.tx
  have hrr := hW.rr
  have hW0 := hW.1
  have hR := hC.1
  have hrz := hC.zz
  have hc0 := hC.c0
  refine met_w (by decide) (Nat.le_of_ble_eq_true rfl) ?_
  intro p e s m args below meth c Q ls A hx hb hml hown hts hl w hin hend
  obtain ⟨H, hH0⟩ : ∃ H, H = s.heap := ⟨_, rfl⟩
  obtain ⟨locs, hL0⟩ : ∃ locs : List Loc, locs = [] := ⟨_, rfl⟩
  rw [← hH0, ← hL0] at w
  rw [← hH0, ← hL0]
  have hl : lv_has ls 2 [(0, .ref c0), (1, .int (iI v))] := hl
  refine lv_aload_n hx hb dX5_forget_0 rfl (lv_at hl 0 rfl) ?_
  refine ri_get (v := .ref (be 0)) hx hb hts hown w fX5 0 1 (W0_of k_fl_RX5_16 rfl) rfl rfl (by decide) dX5_forget_1 ?_
  refine lv_aload_n hx hb dX5_forget_4 rfl (lv_at hl 0 rfl) ?_
  refine ri_get (v := .ref (na 0)) hx hb hts hown w fX5 0 0 (W0_of k_fl_RX5_10 rfl) rfl rfl (by decide) dX5_forget_5 ?_
  refine cb_wV (bc := [st_ws g be T1, st_ws g na T]) (br := [[(c0, .inr (5, [.ref (na 0), .ref (be 0), .ref (tr 0), .ref (sn 0), .int (iI (C 0)), .ref (x 0), .ref (o 0), .int (iI (C 1)), .int (iI (C 2)), .int (iI (C 3)), .int (iI (C 4))]))], st_ws g tr T2, st_ws g sn T3, hi_ws g x h K z, or_ws g o P]) (kb := 7) (As := [.ref (na 0)]) (rest := []) hx hb (hml.trans hl.1.symm) hown hts w lk_RX5_56 (fun sz => t_X4_copyFrom l g be na T1 T (fun b h0 h1 => by have q1 := hR.ca h0 h1; have q2 := hW0.bl h0 h1; omega) sz) [2, 1, 0, 3, 4, 5, 6] (by decide) rfl rfl rfl (call_recv w (q0 := 19) rfl fX4.1) rfl rfl (Nat.le_of_ble_eq_true rfl) ⟨Nat.le_of_ble_eq_true rfl, Nat.le_of_ble_eq_true rfl⟩ ⟨Nat.le_of_ble_eq_true rfl, Nat.le_of_ble_eq_true rfl⟩ dX5_forget_8 (fun v w1 H locs hr w => ?_)
  obtain ⟨rfl, rfl⟩ := hr
  have w := w.two
  have w : Wd g A (List.flatten ([[(c0, .inr (5, [.ref (na 0), .ref (be 0), .ref (tr 0), .ref (sn 0), .int (iI (C 0)), .ref (x 0), .ref (o 0), .int (iI (C 1)), .int (iI (C 2)), .int (iI (C 3)), .int (iI (C 4))]))], st_ws g tr T2, st_ws g sn T3, hi_ws g x h K z, or_ws g o P, st_ws g be T, st_ws g na T] : List va_W)) s H locs := w
  refine lv_aload_n hx hb dX5_forget_11 rfl (lv_at hl 0 rfl) ?_
  refine lv_aload_n hx hb dX5_forget_12 rfl (lv_at hl 0 rfl) ?_
  refine ri_get (v := .ref (na 0)) hx hb hts hown w fX5 0 0 (W0_of k_fl_RX5_10 rfl) rfl rfl (by decide) dX5_forget_13 ?_
  refine lv_iload_n hx hb dX5_forget_16 rfl (lv_at hl 1 rfl) ?_
  refine cb_wV (bc := [st_ws g na T]) (br := [[(c0, .inr (5, [.ref (na 0), .ref (be 0), .ref (tr 0), .ref (sn 0), .int (iI (C 0)), .ref (x 0), .ref (o 0), .int (iI (C 1)), .int (iI (C 2)), .int (iI (C 3)), .int (iI (C 4))]))], st_ws g tr T2, st_ws g sn T3, hi_ws g x h K z, or_ws g o P, st_ws g be T]) (kb := 7) (As := [.int (iI v)]) (rest := [.ref c0]) hx hb (hml.trans hl.1.symm) hown hts w lk_RX5_81 (fun sz => t_X4_forgetPage l g na _ (B 0) T v (hW0) (hR) (by omega) sz) [6, 0, 1, 2, 3, 4, 5] (by decide) rfl rfl rfl (call_recv w (q0 := 134) rfl fX4.1) rfl rfl (Nat.le_of_ble_eq_true rfl) ⟨Nat.le_of_ble_eq_true rfl, Nat.le_of_ble_eq_true rfl⟩ ⟨Nat.le_of_ble_eq_true rfl, Nat.le_of_ble_eq_true rfl⟩ dX5_forget_17 (fun v w1 H locs hr w => ?_)
  obtain ⟨rfl, T1, rfl, hRT1⟩ := hr
  have w : Wd g A (List.flatten ([[(c0, .inr (5, [.ref (na 0), .ref (be 0), .ref (tr 0), .ref (sn 0), .int (iI (C 0)), .ref (x 0), .ref (o 0), .int (iI (C 1)), .int (iI (C 2)), .int (iI (C 3)), .int (iI (C 4))]))], st_ws g tr T2, st_ws g sn T3, hi_ws g x h K z, or_ws g o P, st_ws g be T, st_ws g na T1] : List va_W)) s H locs := w
  have r2 := k_forget_rg hW0 v
  refine cb_wV (bc := [[(c0, .inr (5, [.ref (na 0), .ref (be 0), .ref (tr 0), .ref (sn 0), .int (iI (C 0)), .ref (x 0), .ref (o 0), .int (iI (C 1)), .int (iI (C 2)), .int (iI (C 3)), .int (iI (C 4))]))], st_ws g na T1, st_ws g be T, st_ws g tr T2, st_ws g sn T3, hi_ws g x h K z, or_ws g o P]) (br := []) (kb := 7) (As := [.int (iI (k_forget (B 0) v).1)]) (rest := []) hx hb (hml.trans hl.1.symm) hown hts w lk_RX5_64 (fun sz => t_X5_settle l g c0 na be tr sn x h o T1 T T2 T3 K z P C (k_forget (B 0) v).1 (fun b h0 h1 => by have q1 := hR.ca h0 h1; have q2 := hW0.bl h0 h1; omega) (by omega) (by omega) sz) [0, 6, 5, 1, 2, 3, 4] (by decide) rfl rfl rfl (call_recv w (q0 := 0) rfl fX5.1) rfl rfl (Nat.le_of_ble_eq_true rfl) ⟨Nat.le_of_ble_eq_true rfl, Nat.le_of_ble_eq_true rfl⟩ ⟨Nat.le_of_ble_eq_true rfl, Nat.le_of_ble_eq_true rfl⟩ dX5_forget_20 (fun v w1 H locs hr w => ?_)
  rcases hr with ⟨rfl, ⟨hq, rfl⟩ | ⟨hq, rfl⟩⟩
  · have w : Wd g A (List.flatten ([[(c0, .inr (5, [.ref (na 0), .ref (be 0), .ref (tr 0), .ref (sn 0), .int (iI (C 0)), .ref (x 0), .ref (o 0), .int (iI (C 1)), .int (iI (C 2)), .int (iI (C 3)), .int (iI (C 4))]))], st_ws g na T, st_ws g be T, st_ws g tr T2, st_ws g sn T3, hi_ws g x h K z, or_ws g o P] : List va_W)) s H locs := w.one
    have w : Wd g A (wp_ws g c0 na be tr sn x h o T T T2 T3 K z P C) s H locs := w
    have e8 : c_forget B v = ((k_forget (B 0) v).1, B) := (c_forget_eq).trans (act_n hq)
    exact hend.2 _ _ _ _ ⟨_, rfl, rfl⟩ _ _ dX5_forget_23 w (by rw [e8]; exact ⟨rfl, h, T, T, T2, T3, K, z, P, C, rfl, hC⟩)
  · have w : Wd g A (List.flatten ([[(c0, .inr (5, [.ref (na 0), .ref (be 0), .ref (tr 0), .ref (sn 0), .int (iI (C 0)), .ref (x 0), .ref (o 0), .int (iI (C 1)), .int (iI (C 2)), .int (iI (C 3)), .int (iI (C 4))]))], st_ws g na T1, st_ws g be T, st_ws g tr T2, st_ws g sn T3, hi_ws g x (rot h) (reK K T) (if 4 < z + 1 then 4 else z + 1), or_ws g o P] : List va_W)) s H locs := w.one
    have w : Wd g A (wp_ws g c0 na be tr sn x (rot h) o T1 T T2 T3 (reK K T) (if 4 < z + 1 then 4 else z + 1) P C) s H locs := w
    have e8 : c_forget B v = ((k_forget (B 0) v).1, upT (b_rec B) 0 (k_forget (B 0) v).2) := (c_forget_eq).trans (act_p hq)
    exact hend.2 _ _ _ _ ⟨_, rfl, rfl⟩ _ _ dX5_forget_23 w (by rw [e8]; exact ⟨rfl, (rot h), T1, T, T2, T3, (reK K T), (if 4 < z + 1 then 4 else z + 1), P, C, rfl, hC.rec (by omega) (hRT1 hq)⟩)

set_option maxHeartbeats 4000000 in
set_option maxRecDepth 100000 in
theorem t_X5_moveBlock (l : Launch) (g : GG) (c0 : Nat) (na : Nat → Nat) (be : Nat → Nat) (tr : Nat → Nat) (sn : Nat → Nat) (x : Nat → Nat) (h : Nat → Nat → Nat) (o : Nat → Nat) (T : Nat → Int → Int) (T1 : Nat → Int → Int) (T2 : Nat → Int → Int) (T3 : Nat → Int → Int) (K : Nat → Nat → Int → Int) (z : Int) (P : Nat → Int → Int) (C : Nat → Int) (N : Int) (B : Nat → Int → Int) (v : Int) (hW : WB N B) (hC : RelC B T T3 K z P C) (h1 : -2147483648 ≤ v ∧ v ≤ 2147483647) (hN : N + 18 ≤ 200000000) (sz : Nat) : Met l yX5_moveBlock (wm yX5_moveBlock cX5_moveBlock 2 (some .int)) (rmm 8 0 0) (pW g (List.flatten ([[(c0, .inr (5, [.ref (na 0), .ref (be 0), .ref (tr 0), .ref (sn 0), .int (iI (C 0)), .ref (x 0), .ref (o 0), .int (iI (C 1)), .int (iI (C 2)), .int (iI (C 3)), .int (iI (C 4))]))], st_ws g na T, st_ws g be T1, st_ws g tr T2, st_ws g sn T3, hi_ws g x h K z, or_ws g o P] : List va_W)) sz [.ref c0, .int (iI v)]) (qW g (List.flatten ([[(c0, .inr (5, [.ref (na 0), .ref (be 0), .ref (tr 0), .ref (sn 0), .int (iI (C 0)), .ref (x 0), .ref (o 0), .int (iI (C 1)), .int (iI (C 2)), .int (iI (C 3)), .int (iI (C 4))]))], st_ws g na T, st_ws g be T1, st_ws g tr T2, st_ws g sn T3, hi_ws g x h K z, or_ws g o P] : List va_W)) (fun vv ww => vv = some (.int (iI (c_moveBlock B v).1)) ∧ ∃ (h' : Nat → Nat → Nat) (T' T1' T2' T3' : Nat → Int → Int) (K' : Nat → Nat → Int → Int) (z' : Int) (P' : Nat → Int → Int) (C' : Nat → Int), ww = wp_ws g c0 na be tr sn x h' o T' T1' T2' T3' K' z' P' C' ∧ RelC (c_moveBlock B v).2 T' T3' K' z' P' C')) 0 0 (va_A (List.flatten ([[(c0, .inr (5, [.ref (na 0), .ref (be 0), .ref (tr 0), .ref (sn 0), .int (iI (C 0)), .ref (x 0), .ref (o 0), .int (iI (C 1)), .int (iI (C 2)), .int (iI (C 3)), .int (iI (C 4))]))], st_ws g na T, st_ws g be T1, st_ws g tr T2, st_ws g sn T3, hi_ws g x h K z, or_ws g o P] : List va_W)) sz) := by
  have hk := hW.k
  have hj := hW.j
  have htl := hW.tl
  have hrf := hW.rf
  have hTx := hW.tx
  have hrr := hW.rr
  have hW0 := hW.1
  have hR := hC.1
  have hrz := hC.zz
  have hc0 := hC.c0
  refine met_w (by decide) (Nat.le_of_ble_eq_true rfl) ?_
  intro p e s m args below meth c Q ls A hx hb hml hown hts hl w hin hend
  obtain ⟨H, hH0⟩ : ∃ H, H = s.heap := ⟨_, rfl⟩
  obtain ⟨locs, hL0⟩ : ∃ locs : List Loc, locs = [] := ⟨_, rfl⟩
  rw [← hH0, ← hL0] at w
  rw [← hH0, ← hL0]
  have hl : lv_has ls 2 [(0, .ref c0), (1, .int (iI v))] := hl
  refine lv_aload_n hx hb dX5_moveBlock_0 rfl (lv_at hl 0 rfl) ?_
  refine ri_get (v := .ref (be 0)) hx hb hts hown w fX5 0 1 (W0_of k_fl_RX5_16 rfl) rfl rfl (by decide) dX5_moveBlock_1 ?_
  refine lv_aload_n hx hb dX5_moveBlock_4 rfl (lv_at hl 0 rfl) ?_
  refine ri_get (v := .ref (na 0)) hx hb hts hown w fX5 0 0 (W0_of k_fl_RX5_10 rfl) rfl rfl (by decide) dX5_moveBlock_5 ?_
  refine cb_wV (bc := [st_ws g be T1, st_ws g na T]) (br := [[(c0, .inr (5, [.ref (na 0), .ref (be 0), .ref (tr 0), .ref (sn 0), .int (iI (C 0)), .ref (x 0), .ref (o 0), .int (iI (C 1)), .int (iI (C 2)), .int (iI (C 3)), .int (iI (C 4))]))], st_ws g tr T2, st_ws g sn T3, hi_ws g x h K z, or_ws g o P]) (kb := 7) (As := [.ref (na 0)]) (rest := []) hx hb (hml.trans hl.1.symm) hown hts w lk_RX5_56 (fun sz => t_X4_copyFrom l g be na T1 T (fun b h0 h1 => by have q1 := hR.ca h0 h1; have q2 := hW0.bl h0 h1; omega) sz) [2, 1, 0, 3, 4, 5, 6] (by decide) rfl rfl rfl (call_recv w (q0 := 19) rfl fX4.1) rfl rfl (Nat.le_of_ble_eq_true rfl) ⟨Nat.le_of_ble_eq_true rfl, Nat.le_of_ble_eq_true rfl⟩ ⟨Nat.le_of_ble_eq_true rfl, Nat.le_of_ble_eq_true rfl⟩ dX5_moveBlock_8 (fun v w1 H locs hr w => ?_)
  obtain ⟨rfl, rfl⟩ := hr
  have w := w.two
  have w : Wd g A (List.flatten ([[(c0, .inr (5, [.ref (na 0), .ref (be 0), .ref (tr 0), .ref (sn 0), .int (iI (C 0)), .ref (x 0), .ref (o 0), .int (iI (C 1)), .int (iI (C 2)), .int (iI (C 3)), .int (iI (C 4))]))], st_ws g tr T2, st_ws g sn T3, hi_ws g x h K z, or_ws g o P, st_ws g be T, st_ws g na T] : List va_W)) s H locs := w
  refine lv_aload_n hx hb dX5_moveBlock_11 rfl (lv_at hl 0 rfl) ?_
  refine lv_aload_n hx hb dX5_moveBlock_12 rfl (lv_at hl 0 rfl) ?_
  refine ri_get (v := .ref (na 0)) hx hb hts hown w fX5 0 0 (W0_of k_fl_RX5_10 rfl) rfl rfl (by decide) dX5_moveBlock_13 ?_
  refine lv_iload_n hx hb dX5_moveBlock_16 rfl (lv_at hl 1 rfl) ?_
  refine cb_wV (bc := [st_ws g na T]) (br := [[(c0, .inr (5, [.ref (na 0), .ref (be 0), .ref (tr 0), .ref (sn 0), .int (iI (C 0)), .ref (x 0), .ref (o 0), .int (iI (C 1)), .int (iI (C 2)), .int (iI (C 3)), .int (iI (C 4))]))], st_ws g tr T2, st_ws g sn T3, hi_ws g x h K z, or_ws g o P, st_ws g be T]) (kb := 7) (As := [.int (iI v)]) (rest := [.ref c0]) hx hb (hml.trans hl.1.symm) hown hts w lk_RX5_84 (fun sz => t_X4_moveOnDemand l g na _ (B 0) T v (hW0) (hR) (by omega) (by omega) sz) [6, 0, 1, 2, 3, 4, 5] (by decide) rfl rfl rfl (call_recv w (q0 := 134) rfl fX4.1) rfl rfl (Nat.le_of_ble_eq_true rfl) ⟨Nat.le_of_ble_eq_true rfl, Nat.le_of_ble_eq_true rfl⟩ ⟨Nat.le_of_ble_eq_true rfl, Nat.le_of_ble_eq_true rfl⟩ dX5_moveBlock_17 (fun v w1 H locs hr w => ?_)
  obtain ⟨rfl, T1, rfl, hRT1⟩ := hr
  have w : Wd g A (List.flatten ([[(c0, .inr (5, [.ref (na 0), .ref (be 0), .ref (tr 0), .ref (sn 0), .int (iI (C 0)), .ref (x 0), .ref (o 0), .int (iI (C 1)), .int (iI (C 2)), .int (iI (C 3)), .int (iI (C 4))]))], st_ws g tr T2, st_ws g sn T3, hi_ws g x h K z, or_ws g o P, st_ws g be T, st_ws g na T1] : List va_W)) s H locs := w
  have r2 := k_moveB_rg hW0 v
  refine cb_wV (bc := [[(c0, .inr (5, [.ref (na 0), .ref (be 0), .ref (tr 0), .ref (sn 0), .int (iI (C 0)), .ref (x 0), .ref (o 0), .int (iI (C 1)), .int (iI (C 2)), .int (iI (C 3)), .int (iI (C 4))]))], st_ws g na T1, st_ws g be T, st_ws g tr T2, st_ws g sn T3, hi_ws g x h K z, or_ws g o P]) (br := []) (kb := 7) (As := [.int (iI (k_moveB (B 0) v).1)]) (rest := []) hx hb (hml.trans hl.1.symm) hown hts w lk_RX5_64 (fun sz => t_X5_settle l g c0 na be tr sn x h o T1 T T2 T3 K z P C (k_moveB (B 0) v).1 (fun b h0 h1 => by have q1 := hR.ca h0 h1; have q2 := hW0.bl h0 h1; omega) (by omega) (by omega) sz) [0, 6, 5, 1, 2, 3, 4] (by decide) rfl rfl rfl (call_recv w (q0 := 0) rfl fX5.1) rfl rfl (Nat.le_of_ble_eq_true rfl) ⟨Nat.le_of_ble_eq_true rfl, Nat.le_of_ble_eq_true rfl⟩ ⟨Nat.le_of_ble_eq_true rfl, Nat.le_of_ble_eq_true rfl⟩ dX5_moveBlock_20 (fun v w1 H locs hr w => ?_)
  rcases hr with ⟨rfl, ⟨hq, rfl⟩ | ⟨hq, rfl⟩⟩
  · have w : Wd g A (List.flatten ([[(c0, .inr (5, [.ref (na 0), .ref (be 0), .ref (tr 0), .ref (sn 0), .int (iI (C 0)), .ref (x 0), .ref (o 0), .int (iI (C 1)), .int (iI (C 2)), .int (iI (C 3)), .int (iI (C 4))]))], st_ws g na T, st_ws g be T, st_ws g tr T2, st_ws g sn T3, hi_ws g x h K z, or_ws g o P] : List va_W)) s H locs := w.one
    have w : Wd g A (wp_ws g c0 na be tr sn x h o T T T2 T3 K z P C) s H locs := w
    have e8 : c_moveBlock B v = ((k_moveB (B 0) v).1, B) := (c_moveB_eq).trans (act_n hq)
    exact hend.2 _ _ _ _ ⟨_, rfl, rfl⟩ _ _ dX5_moveBlock_23 w (by rw [e8]; exact ⟨rfl, h, T, T, T2, T3, K, z, P, C, rfl, hC⟩)
  · have w : Wd g A (List.flatten ([[(c0, .inr (5, [.ref (na 0), .ref (be 0), .ref (tr 0), .ref (sn 0), .int (iI (C 0)), .ref (x 0), .ref (o 0), .int (iI (C 1)), .int (iI (C 2)), .int (iI (C 3)), .int (iI (C 4))]))], st_ws g na T1, st_ws g be T, st_ws g tr T2, st_ws g sn T3, hi_ws g x (rot h) (reK K T) (if 4 < z + 1 then 4 else z + 1), or_ws g o P] : List va_W)) s H locs := w.one
    have w : Wd g A (wp_ws g c0 na be tr sn x (rot h) o T1 T T2 T3 (reK K T) (if 4 < z + 1 then 4 else z + 1) P C) s H locs := w
    have e8 : c_moveBlock B v = ((k_moveB (B 0) v).1, upT (b_rec B) 0 (k_moveB (B 0) v).2) := (c_moveB_eq).trans (act_p hq)
    exact hend.2 _ _ _ _ ⟨_, rfl, rfl⟩ _ _ dX5_moveBlock_23 w (by rw [e8]; exact ⟨rfl, (rot h), T1, T, T2, T3, (reK K T), (if 4 < z + 1 then 4 else z + 1), P, C, rfl, hC.rec (by omega) (hRT1 hq)⟩)

set_option maxHeartbeats 4000000 in
set_option maxRecDepth 100000 in
theorem t_X5_pass (l : Launch) (g : GG) (c0 : Nat) (na : Nat → Nat) (be : Nat → Nat) (tr : Nat → Nat) (sn : Nat → Nat) (x : Nat → Nat) (h : Nat → Nat → Nat) (o : Nat → Nat) (T : Nat → Int → Int) (T1 : Nat → Int → Int) (T2 : Nat → Int → Int) (T3 : Nat → Int → Int) (K : Nat → Nat → Int → Int) (z : Int) (P : Nat → Int → Int) (C : Nat → Int) (N : Int) (B : Nat → Int → Int) (v : Int) (hW : WB N B) (hC : RelC B T T3 K z P C) (h1 : -2147483648 ≤ v ∧ v ≤ 2147483647) (hN : N + 10000 ≤ 200000000) (sz : Nat) : Met l yX5_pass (wm yX5_pass cX5_pass 2 (some .int)) (rmm 8 0 0) (pW g (List.flatten ([[(c0, .inr (5, [.ref (na 0), .ref (be 0), .ref (tr 0), .ref (sn 0), .int (iI (C 0)), .ref (x 0), .ref (o 0), .int (iI (C 1)), .int (iI (C 2)), .int (iI (C 3)), .int (iI (C 4))]))], st_ws g na T, st_ws g be T1, st_ws g tr T2, st_ws g sn T3, hi_ws g x h K z, or_ws g o P] : List va_W)) sz [.ref c0, .int (iI v)]) (qW g (List.flatten ([[(c0, .inr (5, [.ref (na 0), .ref (be 0), .ref (tr 0), .ref (sn 0), .int (iI (C 0)), .ref (x 0), .ref (o 0), .int (iI (C 1)), .int (iI (C 2)), .int (iI (C 3)), .int (iI (C 4))]))], st_ws g na T, st_ws g be T1, st_ws g tr T2, st_ws g sn T3, hi_ws g x h K z, or_ws g o P] : List va_W)) (fun vv ww => vv = some (.int (iI (c_pass B v).1)) ∧ ∃ (h' : Nat → Nat → Nat) (T' T1' T2' T3' : Nat → Int → Int) (K' : Nat → Nat → Int → Int) (z' : Int) (P' : Nat → Int → Int) (C' : Nat → Int), ww = wp_ws g c0 na be tr sn x h' o T' T1' T2' T3' K' z' P' C' ∧ RelC (c_pass B v).2 T' T3' K' z' P' C')) 0 0 (va_A (List.flatten ([[(c0, .inr (5, [.ref (na 0), .ref (be 0), .ref (tr 0), .ref (sn 0), .int (iI (C 0)), .ref (x 0), .ref (o 0), .int (iI (C 1)), .int (iI (C 2)), .int (iI (C 3)), .int (iI (C 4))]))], st_ws g na T, st_ws g be T1, st_ws g tr T2, st_ws g sn T3, hi_ws g x h K z, or_ws g o P] : List va_W)) sz) := by
  have hk := hW.k
  have hj := hW.j
  have htl := hW.tl
  have hrf := hW.rf
  have hTx := hW.tx
  have hrr := hW.rr
  have hW0 := hW.1
  have hR := hC.1
  have hrz := hC.zz
  have hc0 := hC.c0
  refine met_w (by decide) (Nat.le_of_ble_eq_true rfl) ?_
  intro p e s m args below meth c Q ls A hx hb hml hown hts hl w hin hend
  obtain ⟨H, hH0⟩ : ∃ H, H = s.heap := ⟨_, rfl⟩
  obtain ⟨locs, hL0⟩ : ∃ locs : List Loc, locs = [] := ⟨_, rfl⟩
  rw [← hH0, ← hL0] at w
  rw [← hH0, ← hL0]
  have hl : lv_has ls 2 [(0, .ref c0), (1, .int (iI v))] := hl
  refine lv_aload_n hx hb dX5_pass_0 rfl (lv_at hl 0 rfl) ?_
  refine ri_get (v := .ref (be 0)) hx hb hts hown w fX5 0 1 (W0_of k_fl_RX5_16 rfl) rfl rfl (by decide) dX5_pass_1 ?_
  refine lv_aload_n hx hb dX5_pass_4 rfl (lv_at hl 0 rfl) ?_
  refine ri_get (v := .ref (na 0)) hx hb hts hown w fX5 0 0 (W0_of k_fl_RX5_10 rfl) rfl rfl (by decide) dX5_pass_5 ?_
  refine cb_wV (bc := [st_ws g be T1, st_ws g na T]) (br := [[(c0, .inr (5, [.ref (na 0), .ref (be 0), .ref (tr 0), .ref (sn 0), .int (iI (C 0)), .ref (x 0), .ref (o 0), .int (iI (C 1)), .int (iI (C 2)), .int (iI (C 3)), .int (iI (C 4))]))], st_ws g tr T2, st_ws g sn T3, hi_ws g x h K z, or_ws g o P]) (kb := 7) (As := [.ref (na 0)]) (rest := []) hx hb (hml.trans hl.1.symm) hown hts w lk_RX5_56 (fun sz => t_X4_copyFrom l g be na T1 T (fun b h0 h1 => by have q1 := hR.ca h0 h1; have q2 := hW0.bl h0 h1; omega) sz) [2, 1, 0, 3, 4, 5, 6] (by decide) rfl rfl rfl (call_recv w (q0 := 19) rfl fX4.1) rfl rfl (Nat.le_of_ble_eq_true rfl) ⟨Nat.le_of_ble_eq_true rfl, Nat.le_of_ble_eq_true rfl⟩ ⟨Nat.le_of_ble_eq_true rfl, Nat.le_of_ble_eq_true rfl⟩ dX5_pass_8 (fun v w1 H locs hr w => ?_)
  obtain ⟨rfl, rfl⟩ := hr
  have w := w.two
  have w : Wd g A (List.flatten ([[(c0, .inr (5, [.ref (na 0), .ref (be 0), .ref (tr 0), .ref (sn 0), .int (iI (C 0)), .ref (x 0), .ref (o 0), .int (iI (C 1)), .int (iI (C 2)), .int (iI (C 3)), .int (iI (C 4))]))], st_ws g tr T2, st_ws g sn T3, hi_ws g x h K z, or_ws g o P, st_ws g be T, st_ws g na T] : List va_W)) s H locs := w
  refine lv_aload_n hx hb dX5_pass_11 rfl (lv_at hl 0 rfl) ?_
  refine lv_aload_n hx hb dX5_pass_12 rfl (lv_at hl 0 rfl) ?_
  refine ri_get (v := .ref (na 0)) hx hb hts hown w fX5 0 0 (W0_of k_fl_RX5_10 rfl) rfl rfl (by decide) dX5_pass_13 ?_
  refine lv_iload_n hx hb dX5_pass_16 rfl (lv_at hl 1 rfl) ?_
  refine cb_wV (bc := [st_ws g na T]) (br := [[(c0, .inr (5, [.ref (na 0), .ref (be 0), .ref (tr 0), .ref (sn 0), .int (iI (C 0)), .ref (x 0), .ref (o 0), .int (iI (C 1)), .int (iI (C 2)), .int (iI (C 3)), .int (iI (C 4))]))], st_ws g tr T2, st_ws g sn T3, hi_ws g x h K z, or_ws g o P, st_ws g be T]) (kb := 7) (As := [.int (iI v)]) (rest := [.ref c0]) hx hb (hml.trans hl.1.symm) hown hts w lk_RX5_87 (fun sz => t_X4_passTicks l g na _ (B 0) T v (hW0) (hR) (by omega) (by omega) sz) [6, 0, 1, 2, 3, 4, 5] (by decide) rfl rfl rfl (call_recv w (q0 := 134) rfl fX4.1) rfl rfl (Nat.le_of_ble_eq_true rfl) ⟨Nat.le_of_ble_eq_true rfl, Nat.le_of_ble_eq_true rfl⟩ ⟨Nat.le_of_ble_eq_true rfl, Nat.le_of_ble_eq_true rfl⟩ dX5_pass_17 (fun v w1 H locs hr w => ?_)
  obtain ⟨rfl, T1, rfl, hRT1⟩ := hr
  have w : Wd g A (List.flatten ([[(c0, .inr (5, [.ref (na 0), .ref (be 0), .ref (tr 0), .ref (sn 0), .int (iI (C 0)), .ref (x 0), .ref (o 0), .int (iI (C 1)), .int (iI (C 2)), .int (iI (C 3)), .int (iI (C 4))]))], st_ws g tr T2, st_ws g sn T3, hi_ws g x h K z, or_ws g o P, st_ws g be T, st_ws g na T1] : List va_W)) s H locs := w
  have r2 := pass_rg hW0 v
  refine cb_wV (bc := [[(c0, .inr (5, [.ref (na 0), .ref (be 0), .ref (tr 0), .ref (sn 0), .int (iI (C 0)), .ref (x 0), .ref (o 0), .int (iI (C 1)), .int (iI (C 2)), .int (iI (C 3)), .int (iI (C 4))]))], st_ws g na T1, st_ws g be T, st_ws g tr T2, st_ws g sn T3, hi_ws g x h K z, or_ws g o P]) (br := []) (kb := 7) (As := [.int (iI (r_pass (B 0) v).1)]) (rest := []) hx hb (hml.trans hl.1.symm) hown hts w lk_RX5_64 (fun sz => t_X5_settle l g c0 na be tr sn x h o T1 T T2 T3 K z P C (r_pass (B 0) v).1 (fun b h0 h1 => by have q1 := hR.ca h0 h1; have q2 := hW0.bl h0 h1; omega) (by omega) (by omega) sz) [0, 6, 5, 1, 2, 3, 4] (by decide) rfl rfl rfl (call_recv w (q0 := 0) rfl fX5.1) rfl rfl (Nat.le_of_ble_eq_true rfl) ⟨Nat.le_of_ble_eq_true rfl, Nat.le_of_ble_eq_true rfl⟩ ⟨Nat.le_of_ble_eq_true rfl, Nat.le_of_ble_eq_true rfl⟩ dX5_pass_20 (fun v w1 H locs hr w => ?_)
  rcases hr with ⟨rfl, ⟨hq, rfl⟩ | ⟨hq, rfl⟩⟩
  · have w : Wd g A (List.flatten ([[(c0, .inr (5, [.ref (na 0), .ref (be 0), .ref (tr 0), .ref (sn 0), .int (iI (C 0)), .ref (x 0), .ref (o 0), .int (iI (C 1)), .int (iI (C 2)), .int (iI (C 3)), .int (iI (C 4))]))], st_ws g na T, st_ws g be T, st_ws g tr T2, st_ws g sn T3, hi_ws g x h K z, or_ws g o P] : List va_W)) s H locs := w.one
    have w : Wd g A (wp_ws g c0 na be tr sn x h o T T T2 T3 K z P C) s H locs := w
    have e8 : c_pass B v = ((r_pass (B 0) v).1, B) := (rfl).trans (act_n hq)
    exact hend.2 _ _ _ _ ⟨_, rfl, rfl⟩ _ _ dX5_pass_23 w (by rw [e8]; exact ⟨rfl, h, T, T, T2, T3, K, z, P, C, rfl, hC⟩)
  · have w : Wd g A (List.flatten ([[(c0, .inr (5, [.ref (na 0), .ref (be 0), .ref (tr 0), .ref (sn 0), .int (iI (C 0)), .ref (x 0), .ref (o 0), .int (iI (C 1)), .int (iI (C 2)), .int (iI (C 3)), .int (iI (C 4))]))], st_ws g na T1, st_ws g be T, st_ws g tr T2, st_ws g sn T3, hi_ws g x (rot h) (reK K T) (if 4 < z + 1 then 4 else z + 1), or_ws g o P] : List va_W)) s H locs := w.one
    have w : Wd g A (wp_ws g c0 na be tr sn x (rot h) o T1 T T2 T3 (reK K T) (if 4 < z + 1 then 4 else z + 1) P C) s H locs := w
    have e8 : c_pass B v = ((r_pass (B 0) v).1, upT (b_rec B) 0 (r_pass (B 0) v).2) := (rfl).trans (act_p hq)
    exact hend.2 _ _ _ _ ⟨_, rfl, rfl⟩ _ _ dX5_pass_23 w (by rw [e8]; exact ⟨rfl, (rot h), T1, T, T2, T3, (reK K T), (if 4 < z + 1 then 4 else z + 1), P, C, rfl, hC.rec (by omega) (hRT1 hq)⟩)
