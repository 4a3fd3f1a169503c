set_option maxHeartbeats 4000000 in
set_option maxRecDepth 100000 in
theorem t_X5_undo (l : Launch) (g : GG) (c0 : Nat) (na : Nat → Nat) (be : Nat → Nat) (tr : Nat → Nat) (sn : Nat → Nat) (x : Nat → Nat) (h : Nat → Nat → Nat) (o : Nat → Nat) (T : Nat → Int → Int) (T1 : Nat → Int → Int) (T2 : Nat → Int → Int) (T3 : Nat → Int → Int) (K : Nat → Nat → Int → Int) (z : Int) (P : Nat → Int → Int) (C : Nat → Int) (N : Int) (B : Nat → Int → Int) (hW : WB N B) (hC : RelC B T T3 K z P C) (sz : Nat) : Met l yX5_undo (wm yX5_undo cX5_undo 1 (some .int)) (rmm 4 0 0) (pW g (List.flatten ([[(c0, .inr (5, [.ref (na 0), .ref (be 0), .ref (tr 0), .ref (sn 0), .int (iI (C 0)), .ref (x 0), .ref (o 0), .int (iI (C 1)), .int (iI (C 2)), .int (iI (C 3)), .int (iI (C 4))]))], st_ws g na T, st_ws g be T1, st_ws g tr T2, st_ws g sn T3, hi_ws g x h K z, or_ws g o P] : List va_W)) sz [.ref c0]) (qW g (List.flatten ([[(c0, .inr (5, [.ref (na 0), .ref (be 0), .ref (tr 0), .ref (sn 0), .int (iI (C 0)), .ref (x 0), .ref (o 0), .int (iI (C 1)), .int (iI (C 2)), .int (iI (C 3)), .int (iI (C 4))]))], st_ws g na T, st_ws g be T1, st_ws g tr T2, st_ws g sn T3, hi_ws g x h K z, or_ws g o P] : List va_W)) (fun vv ww => vv = some (.int (iI (c_undo B).1)) ∧ ∃ (h' : Nat → Nat → Nat) (T' T1' T2' T3' : Nat → Int → Int) (K' : Nat → Nat → Int → Int) (z' : Int) (P' : Nat → Int → Int) (C' : Nat → Int), ww = wp_ws g c0 na be tr sn x h' o T' T1' T2' T3' K' z' P' C' ∧ RelC (c_undo B).2 T' T3' K' z' P' C')) 0 0 (va_A (List.flatten ([[(c0, .inr (5, [.ref (na 0), .ref (be 0), .ref (tr 0), .ref (sn 0), .int (iI (C 0)), .ref (x 0), .ref (o 0), .int (iI (C 1)), .int (iI (C 2)), .int (iI (C 3)), .int (iI (C 4))]))], st_ws g na T, st_ws g be T1, st_ws g tr T2, st_ws g sn T3, hi_ws g x h K z, or_ws g o P] : List va_W)) sz) := by
  have hk := hW.k
  have hj := hW.j
  have htl := hW.tl
  have hrf := hW.rf
  have hTx := hW.tx
  have hrr := hW.rr
  have hW0 := hW.1
  have hR := hC.1
  have hrz := hC.zz
  have hc0 := hC.c0
  refine met_w (by decide) (Nat.le_of_ble_eq_true rfl) ?_
  intro p e s m args below meth c Q ls A hx hb hml hown hts hl w hin hend
  obtain ⟨H, hH0⟩ : ∃ H, H = s.heap := ⟨_, rfl⟩
  obtain ⟨locs, hL0⟩ : ∃ locs : List Loc, locs = [] := ⟨_, rfl⟩
  rw [← hH0, ← hL0] at w
  rw [← hH0, ← hL0]
  have hl : lv_has ls 1 [(0, .ref c0)] := hl
  refine lv_aload_n hx hb dX5_undo_0 rfl (lv_at hl 0 rfl) ?_
  refine ri_get (v := .ref (x 0)) hx hb hts hown w fX5 0 5 (W0_of k_fl_RX5_32 rfl) rfl rfl (by decide) dX5_undo_1 ?_
  refine ri_get (v := .int (iI z)) hx hb hts hown w fX2 73 1 (W0_of k_fl_RX5_124 rfl) rfl rfl (by decide) dX5_undo_4 ?_
  refine ri_if_ne (tgt := 13) hx hb dX5_undo_7 (by decide) (by omega) (fun c1 => ?_) (fun c1 => ?_)
  · have hK0 : Rel (B 1) (K 0) := hC.hi 0 (by omega)
    have hW1 := hW.2.2.1 (by omega)
    refine lv_aload_n hx hb dX5_undo_13 rfl (lv_at hl 0 rfl) ?_
    refine ri_get (v := .ref (x 0)) hx hb hts hown w fX5 0 5 (W0_of k_fl_RX5_32 rfl) rfl rfl (by decide) dX5_undo_14 ?_
    refine lv_aload_n hx hb dX5_undo_17 rfl (lv_at hl 0 rfl) ?_
    refine ri_get (v := .ref (na 0)) hx hb hts hown w fX5 0 0 (W0_of k_fl_RX5_10 rfl) rfl rfl (by decide) dX5_undo_18 ?_
    refine cb_wV (bc := [hi_ws g x h K z, st_ws g na T]) (br := [[(c0, .inr (5, [.ref (na 0), .ref (be 0), .ref (tr 0), .ref (sn 0), .int (iI (C 0)), .ref (x 0), .ref (o 0), .int (iI (C 1)), .int (iI (C 2)), .int (iI (C 3)), .int (iI (C 4))]))], st_ws g be T1, st_ws g tr T2, st_ws g sn T3, or_ws g o P]) (kb := 7) (As := [.ref (na 0)]) (rest := []) hx hb (hml.trans hl.1.symm) hown hts w lk_RX5_127 (fun sz => t_X2_takeLatest l g x h K z na T (by omega) (fun b h0 h1 => by have q1 := hK0.ca h0 h1; have q2 := hW1.bl h0 h1; omega) sz) [5, 1, 0, 2, 3, 4, 6] (by decide) rfl rfl rfl (call_recv w (q0 := 73) rfl fX2.1) rfl rfl (Nat.le_of_ble_eq_true rfl) ⟨Nat.le_of_ble_eq_true rfl, Nat.le_of_ble_eq_true rfl⟩ ⟨Nat.le_of_ble_eq_true rfl, Nat.le_of_ble_eq_true rfl⟩ dX5_undo_21 (fun v w1 H locs hr w => ?_)
    obtain ⟨rfl, rfl⟩ := hr
    have w := w.two
    have w : Wd g A (List.flatten ([[(c0, .inr (5, [.ref (na 0), .ref (be 0), .ref (tr 0), .ref (sn 0), .int (iI (C 0)), .ref (x 0), .ref (o 0), .int (iI (C 1)), .int (iI (C 2)), .int (iI (C 3)), .int (iI (C 4))]))], st_ws g be T1, st_ws g tr T2, st_ws g sn T3, or_ws g o P, hi_ws g x (tor h) (tor K) (z - 1), st_ws g na (K 0)] : List va_W)) s H locs := w
    refine lv_aload_n hx hb dX5_undo_24 rfl (lv_at hl 0 rfl) ?_
    refine ri_get (v := .ref (x 0)) hx hb hts hown w fX5 0 5 (W0_of k_fl_RX5_32 rfl) rfl rfl (by decide) dX5_undo_25 ?_
    refine ri_get (v := .int (iI (z - 1))) hx hb hts hown w fX2 60 1 (W0_of k_fl_RX5_124 rfl) rfl rfl (by decide) dX5_undo_28 ?_
    have w := w.blk (bc := [[(c0, .inr (5, [.ref (na 0), .ref (be 0), .ref (tr 0), .ref (sn 0), .int (iI (C 0)), .ref (x 0), .ref (o 0), .int (iI (C 1)), .int (iI (C 2)), .int (iI (C 3)), .int (iI (C 4))]))], st_ws g na (K 0), st_ws g be T1, st_ws g tr T2, st_ws g sn T3, hi_ws g x (tor h) (tor K) (z - 1), or_ws g o P]) [0, 6, 1, 2, 3, 5, 4] (k := 7) (by decide) rfl rfl
    have w : Wd g A (wp_ws g c0 na be tr sn x (tor h) o (K 0) T1 T2 T3 (tor K) (z - 1) P C) s H locs := w
    have e8 : c_undo B = (z - 1, b_pop B) := by rw [hrz]; exact if_neg (by omega)
    exact hend.2 _ _ _ _ ⟨_, rfl, rfl⟩ _ _ dX5_undo_31 w (by rw [e8]; exact ⟨rfl, (tor h), (K 0), T1, T2, T3, (tor K), (z - 1), P, C, rfl, hC.pop (by omega)⟩)
  · refine ri_bipush hx hb dX5_undo_10 (by decide) ?_
    have w : Wd g A (wp_ws g c0 na be tr sn x h o T T1 T2 T3 K z P C) s H locs := w
    have e8 : c_undo B = (-5, B) := by exact if_pos (by omega)
    exact hend.2 _ _ _ _ ⟨_, rfl, rfl⟩ _ _ dX5_undo_12 w (by rw [e8]; exact ⟨rfl, h, T, T1, T2, T3, K, z, P, C, rfl, hC⟩)

set_option maxHeartbeats 4000000 in
set_option maxRecDepth 100000 in
theorem t_X5_keep (l : Launch) (g : GG) (c0 : Nat) (na : Nat → Nat) (be : Nat → Nat) (tr : Nat → Nat) (sn : Nat → Nat) (x : Nat → Nat) (h : Nat → Nat → Nat) (o : Nat → Nat) (T : Nat → Int → Int) (T1 : Nat → Int → Int) (T2 : Nat → Int → Int) (T3 : Nat → Int → Int) (K : Nat → Nat → Int → Int) (z : Int) (P : Nat → Int → Int) (C : Nat → Int) (N : Int) (B : Nat → Int → Int) (hW : WB N B) (hC : RelC B T T3 K z P C) (sz : Nat) : Met l yX5_keep (wm yX5_keep cX5_keep 1 (some .int)) (rmm 3 0 0) (pW g (List.flatten ([[(c0, .inr (5, [.ref (na 0), .ref (be 0), .ref (tr 0), .ref (sn 0), .int (iI (C 0)), .ref (x 0), .ref (o 0), .int (iI (C 1)), .int (iI (C 2)), .int (iI (C 3)), .int (iI (C 4))]))], st_ws g na T, st_ws g be T1, st_ws g tr T2, st_ws g sn T3, hi_ws g x h K z, or_ws g o P] : List va_W)) sz [.ref c0]) (qW g (List.flatten ([[(c0, .inr (5, [.ref (na 0), .ref (be 0), .ref (tr 0), .ref (sn 0), .int (iI (C 0)), .ref (x 0), .ref (o 0), .int (iI (C 1)), .int (iI (C 2)), .int (iI (C 3)), .int (iI (C 4))]))], st_ws g na T, st_ws g be T1, st_ws g tr T2, st_ws g sn T3, hi_ws g x h K z, or_ws g o P] : List va_W)) (fun vv ww => vv = some (.int (iI (c_keep B).1)) ∧ ∃ (h' : Nat → Nat → Nat) (T' T1' T2' T3' : Nat → Int → Int) (K' : Nat → Nat → Int → Int) (z' : Int) (P' : Nat → Int → Int) (C' : Nat → Int), ww = wp_ws g c0 na be tr sn x h' o T' T1' T2' T3' K' z' P' C' ∧ RelC (c_keep B).2 T' T3' K' z' P' C')) 0 0 (va_A (List.flatten ([[(c0, .inr (5, [.ref (na 0), .ref (be 0), .ref (tr 0), .ref (sn 0), .int (iI (C 0)), .ref (x 0), .ref (o 0), .int (iI (C 1)), .int (iI (C 2)), .int (iI (C 3)), .int (iI (C 4))]))], st_ws g na T, st_ws g be T1, st_ws g tr T2, st_ws g sn T3, hi_ws g x h K z, or_ws g o P] : List va_W)) sz) := by
  have hk := hW.k
  have hj := hW.j
  have htl := hW.tl
  have hrf := hW.rf
  have hTx := hW.tx
  have hrr := hW.rr
  have hW0 := hW.1
  have hR := hC.1
  have hrz := hC.zz
  have hc0 := hC.c0
  refine met_w (by decide) (Nat.le_of_ble_eq_true rfl) ?_
  intro p e s m args below meth c Q ls A hx hb hml hown hts hl w hin hend
  obtain ⟨H, hH0⟩ : ∃ H, H = s.heap := ⟨_, rfl⟩
  obtain ⟨locs, hL0⟩ : ∃ locs : List Loc, locs = [] := ⟨_, rfl⟩
  rw [← hH0, ← hL0] at w
  rw [← hH0, ← hL0]
  have hl : lv_has ls 1 [(0, .ref c0)] := hl
  refine lv_aload_n hx hb dX5_keep_0 rfl (lv_at hl 0 rfl) ?_
  refine ri_get (v := .ref (sn 0)) hx hb hts hown w fX5 0 3 (W0_of k_fl_RX5_22 rfl) rfl rfl (by decide) dX5_keep_1 ?_
  refine lv_aload_n hx hb dX5_keep_4 rfl (lv_at hl 0 rfl) ?_
  refine ri_get (v := .ref (na 0)) hx hb hts hown w fX5 0 0 (W0_of k_fl_RX5_10 rfl) rfl rfl (by decide) dX5_keep_5 ?_
  refine cb_wV (bc := [st_ws g sn T3, st_ws g na T]) (br := [[(c0, .inr (5, [.ref (na 0), .ref (be 0), .ref (tr 0), .ref (sn 0), .int (iI (C 0)), .ref (x 0), .ref (o 0), .int (iI (C 1)), .int (iI (C 2)), .int (iI (C 3)), .int (iI (C 4))]))], st_ws g be T1, st_ws g tr T2, hi_ws g x h K z, or_ws g o P]) (kb := 7) (As := [.ref (na 0)]) (rest := []) hx hb (hml.trans hl.1.symm) hown hts w lk_RX5_56 (fun sz => t_X4_copyFrom l g sn na T3 T (fun b h0 h1 => by have q1 := hR.ca h0 h1; have q2 := hW0.bl h0 h1; omega) sz) [4, 1, 0, 2, 3, 5, 6] (by decide) rfl rfl rfl (call_recv w (q0 := 55) rfl fX4.1) rfl rfl (Nat.le_of_ble_eq_true rfl) ⟨Nat.le_of_ble_eq_true rfl, Nat.le_of_ble_eq_true rfl⟩ ⟨Nat.le_of_ble_eq_true rfl, Nat.le_of_ble_eq_true rfl⟩ dX5_keep_8 (fun v w1 H locs hr w => ?_)
  obtain ⟨rfl, rfl⟩ := hr
  have w := w.two
  have w : Wd g A (List.flatten ([[(c0, .inr (5, [.ref (na 0), .ref (be 0), .ref (tr 0), .ref (sn 0), .int (iI (C 0)), .ref (x 0), .ref (o 0), .int (iI (C 1)), .int (iI (C 2)), .int (iI (C 3)), .int (iI (C 4))]))], st_ws g be T1, st_ws g tr T2, hi_ws g x h K z, or_ws g o P, st_ws g sn T, st_ws g na T] : List va_W)) s H locs := w
  refine lv_aload_n hx hb dX5_keep_11 rfl (lv_at hl 0 rfl) ?_
  refine ri_iconst hx hb dX5_keep_12 ?_
  refine ri_put hx hb hts hown w fX5 0 4 (W0_of k_fl_RX5_25 rfl) rfl (Nat.le_of_ble_eq_true rfl) (by decide) rfl (by decide) (by decide) dX5_keep_13 (fun H locs w => ?_)
  have w : Wd g A (List.flatten ([[(c0, .inr (5, [.ref (na 0), .ref (be 0), .ref (tr 0), .ref (sn 0), .int (iI 1), .ref (x 0), .ref (o 0), .int (iI (C 1)), .int (iI (C 2)), .int (iI (C 3)), .int (iI (C 4))]))], st_ws g be T1, st_ws g tr T2, hi_ws g x h K z, or_ws g o P, st_ws g sn T, st_ws g na T] : List va_W)) s H locs := w
  refine lv_aload_n hx hb dX5_keep_16 rfl (lv_at hl 0 rfl) ?_
  refine ri_get (v := .ref (na 0)) hx hb hts hown w fX5 0 0 (W0_of k_fl_RX5_10 rfl) rfl rfl (by decide) dX5_keep_17 ?_
  refine ri_get (v := .int (iI ((B 0) 0))) hx hb hts hown w fX4 134 14 (W0_of k_fl_RX5_130 rfl) rfl (congrArg (fun z => some (Value.int (iI z))) (hR.ti)) (by decide) dX5_keep_20 ?_
  have r1 := hW0.bd 0
  have w := w.blk (bc := [[(c0, .inr (5, [.ref (na 0), .ref (be 0), .ref (tr 0), .ref (sn 0), .int (iI 1), .ref (x 0), .ref (o 0), .int (iI (C 1)), .int (iI (C 2)), .int (iI (C 3)), .int (iI (C 4))]))], st_ws g na T, st_ws g be T1, st_ws g tr T2, st_ws g sn T, hi_ws g x h K z, or_ws g o P]) [0, 6, 1, 2, 5, 3, 4] (k := 7) (by decide) rfl rfl
  have w : Wd g A (wp_ws g c0 na be tr sn x h o T T1 T2 T K z P (cf 1 (C 1) (C 2) (C 3) (C 4))) s H locs := w
  have e8 : c_keep B = ((B 0) 0, upT (upT B 5 (B 0)) 9 (fun _ => 1)) := by rfl
  exact hend.2 _ _ _ _ ⟨_, rfl, rfl⟩ _ _ dX5_keep_23 w (by rw [e8]; exact ⟨rfl, h, T, T1, T2, T, K, z, P, (cf 1 (C 1) (C 2) (C 3) (C 4)), rfl, hC.keep hk⟩)

set_option maxHeartbeats 4000000 in
set_option maxRecDepth 100000 in
theorem t_X5_restore (l : Launch) (g : GG) (c0 : Nat) (na : Nat → Nat) (be : Nat → Nat) (tr : Nat → Nat) (sn : Nat → Nat) (x : Nat → Nat) (h : Nat → Nat → Nat) (o : Nat → Nat) (T : Nat → Int → Int) (T1 : Nat → Int → Int) (T2 : Nat → Int → Int) (T3 : Nat → Int → Int) (K : Nat → Nat → Int → Int) (z : Int) (P : Nat → Int → Int) (C : Nat → Int) (N : Int) (B : Nat → Int → Int) (hW : WB N B) (hC : RelC B T T3 K z P C) (sz : Nat) : Met l yX5_restore (wm yX5_restore cX5_restore 1 (some .int)) (rmm 4 0 0) (pW g (List.flatten ([[(c0, .inr (5, [.ref (na 0), .ref (be 0), .ref (tr 0), .ref (sn 0), .int (iI (C 0)), .ref (x 0), .ref (o 0), .int (iI (C 1)), .int (iI (C 2)), .int (iI (C 3)), .int (iI (C 4))]))], st_ws g na T, st_ws g be T1, st_ws g tr T2, st_ws g sn T3, hi_ws g x h K z, or_ws g o P] : List va_W)) sz [.ref c0]) (qW g (List.flatten ([[(c0, .inr (5, [.ref (na 0), .ref (be 0), .ref (tr 0), .ref (sn 0), .int (iI (C 0)), .ref (x 0), .ref (o 0), .int (iI (C 1)), .int (iI (C 2)), .int (iI (C 3)), .int (iI (C 4))]))], st_ws g na T, st_ws g be T1, st_ws g tr T2, st_ws g sn T3, hi_ws g x h K z, or_ws g o P] : List va_W)) (fun vv ww => vv = some (.int (iI (c_restore B).1)) ∧ ∃ (h' : Nat → Nat → Nat) (T' T1' T2' T3' : Nat → Int → Int) (K' : Nat → Nat → Int → Int) (z' : Int) (P' : Nat → Int → Int) (C' : Nat → Int), ww = wp_ws g c0 na be tr sn x h' o T' T1' T2' T3' K' z' P' C' ∧ RelC (c_restore B).2 T' T3' K' z' P' C')) 0 0 (va_A (List.flatten ([[(c0, .inr (5, [.ref (na 0), .ref (be 0), .ref (tr 0), .ref (sn 0), .int (iI (C 0)), .ref (x 0), .ref (o 0), .int (iI (C 1)), .int (iI (C 2)), .int (iI (C 3)), .int (iI (C 4))]))], st_ws g na T, st_ws g be T1, st_ws g tr T2, st_ws g sn T3, hi_ws g x h K z, or_ws g o P] : List va_W)) sz) := by
  have hk := hW.k
  have hj := hW.j
  have htl := hW.tl
  have hrf := hW.rf
  have hTx := hW.tx
  have hrr := hW.rr
  have hW0 := hW.1
  have hR := hC.1
  have hrz := hC.zz
  have hc0 := hC.c0
  refine met_w (by decide) (Nat.le_of_ble_eq_true rfl) ?_
  intro p e s m args below meth c Q ls A hx hb hml hown hts hl w hin hend
  obtain ⟨H, hH0⟩ : ∃ H, H = s.heap := ⟨_, rfl⟩
  obtain ⟨locs, hL0⟩ : ∃ locs : List Loc, locs = [] := ⟨_, rfl⟩
  rw [← hH0, ← hL0] at w
  rw [← hH0, ← hL0]
  have hl : lv_has ls 1 [(0, .ref c0)] := hl
  refine lv_aload_n hx hb dX5_restore_0 rfl (lv_at hl 0 rfl) ?_
  refine ri_get (v := .int (iI (C 0))) hx hb hts hown w fX5 0 4 (W0_of k_fl_RX5_25 rfl) rfl rfl (by decide) dX5_restore_1 ?_
  refine ri_if_ne (tgt := 10) hx hb dX5_restore_4 (by decide) (by omega) (fun c1 => ?_) (fun c1 => ?_)
  · have hS : Rel (B 5) T3 := hC.sn (by omega)
    have hW5 := hW.sh (by omega)
    refine lv_aload_n hx hb dX5_restore_10 rfl (lv_at hl 0 rfl) ?_
    refine ri_get (v := .ref (x 0)) hx hb hts hown w fX5 0 5 (W0_of k_fl_RX5_32 rfl) rfl rfl (by decide) dX5_restore_11 ?_
    refine lv_aload_n hx hb dX5_restore_14 rfl (lv_at hl 0 rfl) ?_
    refine ri_get (v := .ref (na 0)) hx hb hts hown w fX5 0 0 (W0_of k_fl_RX5_10 rfl) rfl rfl (by decide) dX5_restore_15 ?_
    refine cb_wV (bc := [hi_ws g x h K z, st_ws g na T]) (br := [[(c0, .inr (5, [.ref (na 0), .ref (be 0), .ref (tr 0), .ref (sn 0), .int (iI (C 0)), .ref (x 0), .ref (o 0), .int (iI (C 1)), .int (iI (C 2)), .int (iI (C 3)), .int (iI (C 4))]))], st_ws g be T1, st_ws g tr T2, st_ws g sn T3, or_ws g o P]) (kb := 7) (As := [.ref (na 0)]) (rest := []) hx hb (hml.trans hl.1.symm) hown hts w lk_RX5_90 (fun sz => t_X2_record l g x h K z na T (by omega) (fun b h0 h1 => by have q1 := hR.ca h0 h1; have q2 := hW0.bl h0 h1; omega) sz) [5, 1, 0, 2, 3, 4, 6] (by decide) rfl rfl rfl (call_recv w (q0 := 73) rfl fX2.1) rfl rfl (Nat.le_of_ble_eq_true rfl) ⟨Nat.le_of_ble_eq_true rfl, Nat.le_of_ble_eq_true rfl⟩ ⟨Nat.le_of_ble_eq_true rfl, Nat.le_of_ble_eq_true rfl⟩ dX5_restore_18 (fun v w1 H locs hr w => ?_)
    obtain ⟨rfl, rfl⟩ := hr
    have w := w.two
    have w : Wd g A (List.flatten ([[(c0, .inr (5, [.ref (na 0), .ref (be 0), .ref (tr 0), .ref (sn 0), .int (iI (C 0)), .ref (x 0), .ref (o 0), .int (iI (C 1)), .int (iI (C 2)), .int (iI (C 3)), .int (iI (C 4))]))], st_ws g be T1, st_ws g tr T2, st_ws g sn T3, or_ws g o P, hi_ws g x (rot h) (reK K T) (if 4 < z + 1 then 4 else z + 1), st_ws g na T] : List va_W)) s H locs := w
    refine lv_aload_n hx hb dX5_restore_21 rfl (lv_at hl 0 rfl) ?_
    refine ri_get (v := .ref (na 0)) hx hb hts hown w fX5 0 0 (W0_of k_fl_RX5_10 rfl) rfl rfl (by decide) dX5_restore_22 ?_
    refine lv_aload_n hx hb dX5_restore_25 rfl (lv_at hl 0 rfl) ?_
    refine ri_get (v := .ref (sn 0)) hx hb hts hown w fX5 0 3 (W0_of k_fl_RX5_22 rfl) rfl rfl (by decide) dX5_restore_26 ?_
    refine cb_wV (bc := [st_ws g na T, st_ws g sn T3]) (br := [[(c0, .inr (5, [.ref (na 0), .ref (be 0), .ref (tr 0), .ref (sn 0), .int (iI (C 0)), .ref (x 0), .ref (o 0), .int (iI (C 1)), .int (iI (C 2)), .int (iI (C 3)), .int (iI (C 4))]))], st_ws g be T1, st_ws g tr T2, or_ws g o P, hi_ws g x (rot h) (reK K T) (if 4 < z + 1 then 4 else z + 1)]) (kb := 7) (As := [.ref (sn 0)]) (rest := []) hx hb (hml.trans hl.1.symm) hown hts w lk_RX5_56 (fun sz => t_X4_copyFrom l g na sn T T3 (fun b h0 h1 => by have q1 := hS.ca h0 h1; have q2 := hW5.bl h0 h1; omega) sz) [6, 3, 0, 1, 2, 4, 5] (by decide) rfl rfl rfl (call_recv w (q0 := 134) rfl fX4.1) rfl rfl (Nat.le_of_ble_eq_true rfl) ⟨Nat.le_of_ble_eq_true rfl, Nat.le_of_ble_eq_true rfl⟩ ⟨Nat.le_of_ble_eq_true rfl, Nat.le_of_ble_eq_true rfl⟩ dX5_restore_29 (fun v w1 H locs hr w => ?_)
    obtain ⟨rfl, rfl⟩ := hr
    have w := w.two
    have w : Wd g A (List.flatten ([[(c0, .inr (5, [.ref (na 0), .ref (be 0), .ref (tr 0), .ref (sn 0), .int (iI (C 0)), .ref (x 0), .ref (o 0), .int (iI (C 1)), .int (iI (C 2)), .int (iI (C 3)), .int (iI (C 4))]))], st_ws g be T1, st_ws g tr T2, or_ws g o P, hi_ws g x (rot h) (reK K T) (if 4 < z + 1 then 4 else z + 1), st_ws g na T3, st_ws g sn T3] : List va_W)) s H locs := w
    refine lv_aload_n hx hb dX5_restore_32 rfl (lv_at hl 0 rfl) ?_
    refine ri_get (v := .ref (na 0)) hx hb hts hown w fX5 0 0 (W0_of k_fl_RX5_10 rfl) rfl rfl (by decide) dX5_restore_33 ?_
    refine ri_get (v := .int (iI ((B 5) 0))) hx hb hts hown w fX4 116 14 (W0_of k_fl_RX5_130 rfl) rfl (congrArg (fun z => some (Value.int (iI z))) (hS.ti)) (by decide) dX5_restore_36 ?_
    have r2 := hW5.bd 0
    have w := w.blk (bc := [[(c0, .inr (5, [.ref (na 0), .ref (be 0), .ref (tr 0), .ref (sn 0), .int (iI (C 0)), .ref (x 0), .ref (o 0), .int (iI (C 1)), .int (iI (C 2)), .int (iI (C 3)), .int (iI (C 4))]))], st_ws g na T3, st_ws g be T1, st_ws g tr T2, st_ws g sn T3, hi_ws g x (rot h) (reK K T) (if 4 < z + 1 then 4 else z + 1), or_ws g o P]) [0, 5, 1, 2, 6, 4, 3] (k := 7) (by decide) rfl rfl
    have w : Wd g A (wp_ws g c0 na be tr sn x (rot h) o T3 T1 T2 T3 (reK K T) (if 4 < z + 1 then 4 else z + 1) P C) s H locs := w
    have e8 : c_restore B = ((B 5) 0, upT (b_rec B) 0 (B 5)) := by exact if_neg (by omega)
    exact hend.2 _ _ _ _ ⟨_, rfl, rfl⟩ _ _ dX5_restore_39 w (by rw [e8]; exact ⟨rfl, (rot h), T3, T1, T2, T3, (reK K T), (if 4 < z + 1 then 4 else z + 1), P, C, rfl, hC.rec (by omega) hS⟩)
  · refine ri_bipush hx hb dX5_restore_7 (by decide) ?_
    have w : Wd g A (wp_ws g c0 na be tr sn x h o T T1 T2 T3 K z P C) s H locs := w
    have e8 : c_restore B = (-5, B) := by exact if_pos (by omega)
    exact hend.2 _ _ _ _ ⟨_, rfl, rfl⟩ _ _ dX5_restore_9 w (by rw [e8]; exact ⟨rfl, h, T, T1, T2, T3, K, z, P, C, rfl, hC⟩)
