set_option maxHeartbeats 4000000 in
set_option maxRecDepth 100000 in
theorem law_undo {p : Program} {l : Launch} {e : Env} {s : State} {m : MethodId} {below : List Frame} {meth : Method} {c : Code} {Q : State → Prop} {b L : Nat} {xs : Nat → Int32} {g : GG} {c0 : Nat} {na be tr sn x o mb : Nat → Nat} {i N : Int} (C0 : LawCtx p s m c b L xs) (hi : 0 ≤ i ∧ i + 4 ≤ L) (hN : N + 250000 ≤ 200000000) {H : Heap} {locs : List Loc} {ls : Array Slot} (S0 : LawSt g s b c0 na be tr sn x o mb i N H locs ls) (kk : ∀ (H : Heap) (locs : List Loc) (ls : Array Slot), LawSt g s b c0 na be tr sn x o mb i (N + 210000) H locs ls → W p l e room_1 s m #[Value.ref b] below meth c H locs 600000 7302250 Q (F0 m 707 ls [])) : W p l e room_1 s m #[Value.ref b] below meth c H locs 600000 7302250 Q (F0 m 444 ls []) := by
  obtain ⟨hx, hb, hml, hown, hts, hX, hbl, hL⟩ := C0
  obtain ⟨h, T, T1, T2, T3, K, z, P, C, B, X, hW, hC, hP, w, hl⟩ := S0
  have hWm := hW.mono (show N ≤ N + 210000 from by omega) (by omega)
  obtain ⟨v1, hv1⟩ : ∃ v : Int, v = (xs (i + 1).toNat).toInt := ⟨_, rfl⟩
  have hr1 : -2147483648 ≤ v1 ∧ v1 ≤ 2147483647 := by rw [hv1]; exact x_rg _
  obtain ⟨v2, hv2⟩ : ∃ v : Int, v = (xs (i + 2).toNat).toInt := ⟨_, rfl⟩
  have hr2 : -2147483648 ≤ v2 ∧ v2 ≤ 2147483647 := by rw [hv2]; exact x_rg _
  obtain ⟨v3, hv3⟩ : ∃ v : Int, v = (xs (i + 3).toNat).toInt := ⟨_, rfl⟩
  have hr3 : -2147483648 ≤ v3 ∧ v3 ≤ 2147483647 := by rw [hv3]; exact x_rg _
  refine lv_aload_n hx hb dL_law_444 rfl (lv_at hl 1 rfl) ?_
  refine cb_wV (bc := [wp_ws g c0 na be tr sn x h o T T1 T2 T3 K z P C]) (br := [mo_ws g mb B X]) (kb := 2) (As := []) (rest := []) hx hb (hml.trans hl.1.symm) hown hts w lk_RL_66 (fun sz => t_X5_undo l g c0 na be tr sn x h o T T1 T2 T3 K z P C N B hW hC sz) [0, 1] (by decide) rfl rfl (fl1 _) (call_recv w (q0 := 0) rfl fX5.1) rfl rfl (Nat.le_of_ble_eq_true rfl) ⟨Nat.le_of_ble_eq_true rfl, Nat.le_of_ble_eq_true rfl⟩ ⟨Nat.le_of_ble_eq_true rfl, Nat.le_of_ble_eq_true rfl⟩ dL_law_445 (fun vv w1 H locs hr w => ?_)
  obtain ⟨rfl, h', T', T1', T2', T3', K', z', P', C', rfl, hC'⟩ := hr
  have w : Wd g (LA s) ([mo_ws g mb B X, wp_ws g c0 na be tr sn x h' o T' T1' T2' T3' K' z' P' C'] : List va_W).flatten s H locs := w
  refine lv_aload_n hx hb dL_law_448 rfl (lv_at hl 2 rfl) ?_
  refine cb_wV (bc := [mo_ws g mb B X]) (br := [wp_ws g c0 na be tr sn x h' o T' T1' T2' T3' K' z' P' C']) (kb := 2) (As := []) (rest := [.int (iI ((c_undo B).1))]) hx hb (hml.trans hl.1.symm) hown hts w lk_RL_69 (fun sz => t_X6_undo l g mb N B X hW hP sz) [0, 1] (by decide) rfl rfl (fl1 _) (call_recv w (q0 := 0) rfl fX6.1) rfl rfl (Nat.le_of_ble_eq_true rfl) ⟨Nat.le_of_ble_eq_true rfl, Nat.le_of_ble_eq_true rfl⟩ ⟨Nat.le_of_ble_eq_true rfl, Nat.le_of_ble_eq_true rfl⟩ dL_law_449 (fun vv w1 H locs hr w => ?_)
  obtain ⟨rfl, X', rfl, hP'⟩ := hr
  have w : Wd g (LA s) ([wp_ws g c0 na be tr sn x h' o T' T1' T2' T3' K' z' P' C', mo_ws g mb (c_undo B).2 X'] : List va_W).flatten s H locs := w
  refine lv_icmp_eq (tgt := 707) hx hb dL_law_452 (by decide) (fun _ => ?_) (fun q => absurd rfl q)
  exact kk H locs ls ⟨h', T', T1', T2', T3', K', z', P', C', _, X', wb_undo hW (by omega), hC', hP', w, hl⟩

set_option maxHeartbeats 4000000 in
set_option maxRecDepth 100000 in
theorem law_keep {p : Program} {l : Launch} {e : Env} {s : State} {m : MethodId} {below : List Frame} {meth : Method} {c : Code} {Q : State → Prop} {b L : Nat} {xs : Nat → Int32} {g : GG} {c0 : Nat} {na be tr sn x o mb : Nat → Nat} {i N : Int} (C0 : LawCtx p s m c b L xs) (hi : 0 ≤ i ∧ i + 4 ≤ L) (hN : N + 250000 ≤ 200000000) {H : Heap} {locs : List Loc} {ls : Array Slot} (S0 : LawSt g s b c0 na be tr sn x o mb i N H locs ls) (kk : ∀ (H : Heap) (locs : List Loc) (ls : Array Slot), LawSt g s b c0 na be tr sn x o mb i (N + 210000) H locs ls → W p l e room_1 s m #[Value.ref b] below meth c H locs 600000 7302250 Q (F0 m 707 ls [])) : W p l e room_1 s m #[Value.ref b] below meth c H locs 600000 7302250 Q (F0 m 457 ls []) := by
  obtain ⟨hx, hb, hml, hown, hts, hX, hbl, hL⟩ := C0
  obtain ⟨h, T, T1, T2, T3, K, z, P, C, B, X, hW, hC, hP, w, hl⟩ := S0
  have hWm := hW.mono (show N ≤ N + 210000 from by omega) (by omega)
  obtain ⟨v1, hv1⟩ : ∃ v : Int, v = (xs (i + 1).toNat).toInt := ⟨_, rfl⟩
  have hr1 : -2147483648 ≤ v1 ∧ v1 ≤ 2147483647 := by rw [hv1]; exact x_rg _
  obtain ⟨v2, hv2⟩ : ∃ v : Int, v = (xs (i + 2).toNat).toInt := ⟨_, rfl⟩
  have hr2 : -2147483648 ≤ v2 ∧ v2 ≤ 2147483647 := by rw [hv2]; exact x_rg _
  obtain ⟨v3, hv3⟩ : ∃ v : Int, v = (xs (i + 3).toNat).toInt := ⟨_, rfl⟩
  have hr3 : -2147483648 ≤ v3 ∧ v3 ≤ 2147483647 := by rw [hv3]; exact x_rg _
  refine lv_aload_n hx hb dL_law_457 rfl (lv_at hl 1 rfl) ?_
  refine cb_wV (bc := [wp_ws g c0 na be tr sn x h o T T1 T2 T3 K z P C]) (br := [mo_ws g mb B X]) (kb := 2) (As := []) (rest := []) hx hb (hml.trans hl.1.symm) hown hts w lk_RL_70 (fun sz => t_X5_keep l g c0 na be tr sn x h o T T1 T2 T3 K z P C N B hW hC sz) [0, 1] (by decide) rfl rfl (fl1 _) (call_recv w (q0 := 0) rfl fX5.1) rfl rfl (Nat.le_of_ble_eq_true rfl) ⟨Nat.le_of_ble_eq_true rfl, Nat.le_of_ble_eq_true rfl⟩ ⟨Nat.le_of_ble_eq_true rfl, Nat.le_of_ble_eq_true rfl⟩ dL_law_458 (fun vv w1 H locs hr w => ?_)
  obtain ⟨rfl, h', T', T1', T2', T3', K', z', P', C', rfl, hC'⟩ := hr
  have w : Wd g (LA s) ([mo_ws g mb B X, wp_ws g c0 na be tr sn x h' o T' T1' T2' T3' K' z' P' C'] : List va_W).flatten s H locs := w
  refine lv_aload_n hx hb dL_law_461 rfl (lv_at hl 2 rfl) ?_
  refine cb_wV (bc := [mo_ws g mb B X]) (br := [wp_ws g c0 na be tr sn x h' o T' T1' T2' T3' K' z' P' C']) (kb := 2) (As := []) (rest := [.int (iI ((c_keep B).1))]) hx hb (hml.trans hl.1.symm) hown hts w lk_RL_73 (fun sz => t_X6_keep l g mb N B X hW hP sz) [0, 1] (by decide) rfl rfl (fl1 _) (call_recv w (q0 := 0) rfl fX6.1) rfl rfl (Nat.le_of_ble_eq_true rfl) ⟨Nat.le_of_ble_eq_true rfl, Nat.le_of_ble_eq_true rfl⟩ ⟨Nat.le_of_ble_eq_true rfl, Nat.le_of_ble_eq_true rfl⟩ dL_law_462 (fun vv w1 H locs hr w => ?_)
  obtain ⟨rfl, X', rfl, hP'⟩ := hr
  have w : Wd g (LA s) ([wp_ws g c0 na be tr sn x h' o T' T1' T2' T3' K' z' P' C', mo_ws g mb (c_keep B).2 X'] : List va_W).flatten s H locs := w
  refine lv_icmp_eq (tgt := 707) hx hb dL_law_465 (by decide) (fun _ => ?_) (fun q => absurd rfl q)
  exact kk H locs ls ⟨h', T', T1', T2', T3', K', z', P', C', _, X', wb_keep hW (by omega), hC', hP', w, hl⟩

set_option maxHeartbeats 4000000 in
set_option maxRecDepth 100000 in
theorem law_restore {p : Program} {l : Launch} {e : Env} {s : State} {m : MethodId} {below : List Frame} {meth : Method} {c : Code} {Q : State → Prop} {b L : Nat} {xs : Nat → Int32} {g : GG} {c0 : Nat} {na be tr sn x o mb : Nat → Nat} {i N : Int} (C0 : LawCtx p s m c b L xs) (hi : 0 ≤ i ∧ i + 4 ≤ L) (hN : N + 250000 ≤ 200000000) {H : Heap} {locs : List Loc} {ls : Array Slot} (S0 : LawSt g s b c0 na be tr sn x o mb i N H locs ls) (kk : ∀ (H : Heap) (locs : List Loc) (ls : Array Slot), LawSt g s b c0 na be tr sn x o mb i (N + 210000) H locs ls → W p l e room_1 s m #[Value.ref b] below meth c H locs 600000 7302250 Q (F0 m 707 ls [])) : W p l e room_1 s m #[Value.ref b] below meth c H locs 600000 7302250 Q (F0 m 470 ls []) := by
  obtain ⟨hx, hb, hml, hown, hts, hX, hbl, hL⟩ := C0
  obtain ⟨h, T, T1, T2, T3, K, z, P, C, B, X, hW, hC, hP, w, hl⟩ := S0
  have hWm := hW.mono (show N ≤ N + 210000 from by omega) (by omega)
  obtain ⟨v1, hv1⟩ : ∃ v : Int, v = (xs (i + 1).toNat).toInt := ⟨_, rfl⟩
  have hr1 : -2147483648 ≤ v1 ∧ v1 ≤ 2147483647 := by rw [hv1]; exact x_rg _
  obtain ⟨v2, hv2⟩ : ∃ v : Int, v = (xs (i + 2).toNat).toInt := ⟨_, rfl⟩
  have hr2 : -2147483648 ≤ v2 ∧ v2 ≤ 2147483647 := by rw [hv2]; exact x_rg _
  obtain ⟨v3, hv3⟩ : ∃ v : Int, v = (xs (i + 3).toNat).toInt := ⟨_, rfl⟩
  have hr3 : -2147483648 ≤ v3 ∧ v3 ≤ 2147483647 := by rw [hv3]; exact x_rg _
  refine lv_aload_n hx hb dL_law_470 rfl (lv_at hl 1 rfl) ?_
  refine cb_wV (bc := [wp_ws g c0 na be tr sn x h o T T1 T2 T3 K z P C]) (br := [mo_ws g mb B X]) (kb := 2) (As := []) (rest := []) hx hb (hml.trans hl.1.symm) hown hts w lk_RL_74 (fun sz => t_X5_restore l g c0 na be tr sn x h o T T1 T2 T3 K z P C N B hW hC sz) [0, 1] (by decide) rfl rfl (fl1 _) (call_recv w (q0 := 0) rfl fX5.1) rfl rfl (Nat.le_of_ble_eq_true rfl) ⟨Nat.le_of_ble_eq_true rfl, Nat.le_of_ble_eq_true rfl⟩ ⟨Nat.le_of_ble_eq_true rfl, Nat.le_of_ble_eq_true rfl⟩ dL_law_471 (fun vv w1 H locs hr w => ?_)
  obtain ⟨rfl, h', T', T1', T2', T3', K', z', P', C', rfl, hC'⟩ := hr
  have w : Wd g (LA s) ([mo_ws g mb B X, wp_ws g c0 na be tr sn x h' o T' T1' T2' T3' K' z' P' C'] : List va_W).flatten s H locs := w
  refine lv_aload_n hx hb dL_law_474 rfl (lv_at hl 2 rfl) ?_
  refine cb_wV (bc := [mo_ws g mb B X]) (br := [wp_ws g c0 na be tr sn x h' o T' T1' T2' T3' K' z' P' C']) (kb := 2) (As := []) (rest := [.int (iI ((c_restore B).1))]) hx hb (hml.trans hl.1.symm) hown hts w lk_RL_77 (fun sz => t_X6_restore l g mb N B X hW hP sz) [0, 1] (by decide) rfl rfl (fl1 _) (call_recv w (q0 := 0) rfl fX6.1) rfl rfl (Nat.le_of_ble_eq_true rfl) ⟨Nat.le_of_ble_eq_true rfl, Nat.le_of_ble_eq_true rfl⟩ ⟨Nat.le_of_ble_eq_true rfl, Nat.le_of_ble_eq_true rfl⟩ dL_law_475 (fun vv w1 H locs hr w => ?_)
  obtain ⟨rfl, X', rfl, hP'⟩ := hr
  have w : Wd g (LA s) ([wp_ws g c0 na be tr sn x h' o T' T1' T2' T3' K' z' P' C', mo_ws g mb (c_restore B).2 X'] : List va_W).flatten s H locs := w
  refine lv_icmp_eq (tgt := 707) hx hb dL_law_478 (by decide) (fun _ => ?_) (fun q => absurd rfl q)
  exact kk H locs ls ⟨h', T', T1', T2', T3', K', z', P', C', _, X', wb_restore hW (by omega), hC', hP', w, hl⟩

set_option maxHeartbeats 4000000 in
set_option maxRecDepth 100000 in
theorem law_page {p : Program} {l : Launch} {e : Env} {s : State} {m : MethodId} {below : List Frame} {meth : Method} {c : Code} {Q : State → Prop} {b L : Nat} {xs : Nat → Int32} {g : GG} {c0 : Nat} {na be tr sn x o mb : Nat → Nat} {i N : Int} (C0 : LawCtx p s m c b L xs) (hi : 0 ≤ i ∧ i + 4 ≤ L) (hN : N + 250000 ≤ 200000000) {H : Heap} {locs : List Loc} {ls : Array Slot} (S0 : LawSt g s b c0 na be tr sn x o mb i N H locs ls) (kk : ∀ (H : Heap) (locs : List Loc) (ls : Array Slot), LawSt g s b c0 na be tr sn x o mb i (N + 210000) H locs ls → W p l e room_1 s m #[Value.ref b] below meth c H locs 600000 7302250 Q (F0 m 707 ls [])) : W p l e room_1 s m #[Value.ref b] below meth c H locs 600000 7302250 Q (F0 m 483 ls []) := by
  obtain ⟨hx, hb, hml, hown, hts, hX, hbl, hL⟩ := C0
  obtain ⟨h, T, T1, T2, T3, K, z, P, C, B, X, hW, hC, hP, w, hl⟩ := S0
  have hWm := hW.mono (show N ≤ N + 210000 from by omega) (by omega)
  obtain ⟨v1, hv1⟩ : ∃ v : Int, v = (xs (i + 1).toNat).toInt := ⟨_, rfl⟩
  have hr1 : -2147483648 ≤ v1 ∧ v1 ≤ 2147483647 := by rw [hv1]; exact x_rg _
  obtain ⟨v2, hv2⟩ : ∃ v : Int, v = (xs (i + 2).toNat).toInt := ⟨_, rfl⟩
  have hr2 : -2147483648 ≤ v2 ∧ v2 ≤ 2147483647 := by rw [hv2]; exact x_rg _
  obtain ⟨v3, hv3⟩ : ∃ v : Int, v = (xs (i + 3).toNat).toInt := ⟨_, rfl⟩
  have hr3 : -2147483648 ≤ v3 ∧ v3 ≤ 2147483647 := by rw [hv3]; exact x_rg _
  refine lv_aload_n hx hb dL_law_483 rfl (lv_at hl 1 rfl) ?_
  refine lv_aload_n hx hb dL_law_484 rfl (lv_at hl 0 rfl) ?_
  refine lv_iload_n hx hb dL_law_485 rfl (lv_at hl 3 rfl) ?_
  refine ri_iconst hx hb dL_law_486 ?_
  refine ri_iadd (z := i + 1) hx hb dL_law_487 rfl ?_
  refine ri_sld (v := v1) hx hb hX hbl hL w (j := i + 1) (by omega) hv1 dL_law_488 ?_
  refine lv_aload_n hx hb dL_law_489 rfl (lv_at hl 0 rfl) ?_
  refine lv_iload_n hx hb dL_law_490 rfl (lv_at hl 3 rfl) ?_
  refine ri_iconst hx hb dL_law_491 ?_
  refine ri_iadd (z := i + 2) hx hb dL_law_492 rfl ?_
  refine ri_sld (v := v2) hx hb hX hbl hL w (j := i + 2) (by omega) hv2 dL_law_493 ?_
  refine cb_rV (bc := [wp_ws g c0 na be tr sn x h o T T1 T2 T3 K z P C]) (br := [mo_ws g mb B X]) (kb := 2) (As := [.int (iI v1), .int (iI v2)]) (rest := []) hx hb (hml.trans hl.1.symm) hown hts w lk_RL_78 (t_X5_page l g c0 na be tr sn x h o T T1 T2 T3 K z P C N B v1 v2 hW hC (by omega) (by omega)) [0, 1] (by decide) rfl rfl (fl1 _) (call_recv w (q0 := 0) rfl fX5.1) rfl rfl (Nat.le_of_ble_eq_true rfl) ⟨Nat.le_of_ble_eq_true rfl, Nat.le_of_ble_eq_true rfl⟩ ⟨Nat.le_of_ble_eq_true rfl, Nat.le_of_ble_eq_true rfl⟩ dL_law_494 ?_
  refine lv_aload_n hx hb dL_law_497 rfl (lv_at hl 2 rfl) ?_
  refine lv_aload_n hx hb dL_law_498 rfl (lv_at hl 0 rfl) ?_
  refine lv_iload_n hx hb dL_law_499 rfl (lv_at hl 3 rfl) ?_
  refine ri_iconst hx hb dL_law_500 ?_
  refine ri_iadd (z := i + 1) hx hb dL_law_501 rfl ?_
  refine ri_sld (v := v1) hx hb hX hbl hL w (j := i + 1) (by omega) hv1 dL_law_502 ?_
  refine lv_aload_n hx hb dL_law_503 rfl (lv_at hl 0 rfl) ?_
  refine lv_iload_n hx hb dL_law_504 rfl (lv_at hl 3 rfl) ?_
  refine ri_iconst hx hb dL_law_505 ?_
  refine ri_iadd (z := i + 2) hx hb dL_law_506 rfl ?_
  refine ri_sld (v := v2) hx hb hX hbl hL w (j := i + 2) (by omega) hv2 dL_law_507 ?_
  refine cb_rV (bc := [mo_ws g mb B X]) (br := [wp_ws g c0 na be tr sn x h o T T1 T2 T3 K z P C]) (kb := 2) (As := [.int (iI v1), .int (iI v2)]) (rest := [.int (iI (c_page (B 0) v1 v2))]) hx hb (hml.trans hl.1.symm) hown hts w lk_RL_81 (t_X6_page l g mb N B X v1 v2 hW (by omega) (by omega)) [1, 0] (by decide) rfl rfl (fl1 _) (call_recv (w.blk (bc := [mo_ws g mb B X, wp_ws g c0 na be tr sn x h o T T1 T2 T3 K z P C]) (k := 2) [1, 0] (by decide) rfl rfl) (q0 := 0) rfl fX6.1) rfl rfl (Nat.le_of_ble_eq_true rfl) ⟨Nat.le_of_ble_eq_true rfl, Nat.le_of_ble_eq_true rfl⟩ ⟨Nat.le_of_ble_eq_true rfl, Nat.le_of_ble_eq_true rfl⟩ dL_law_508 ?_
  refine lv_icmp_eq (tgt := 707) hx hb dL_law_511 (by decide) (fun _ => ?_) (fun q => absurd rfl q)
  exact kk H locs ls ⟨h, T, T1, T2, T3, K, z, P, C, B, X, hWm, hC, hP, w, hl⟩

set_option maxHeartbeats 4000000 in
set_option maxRecDepth 100000 in
theorem law_block {p : Program} {l : Launch} {e : Env} {s : State} {m : MethodId} {below : List Frame} {meth : Method} {c : Code} {Q : State → Prop} {b L : Nat} {xs : Nat → Int32} {g : GG} {c0 : Nat} {na be tr sn x o mb : Nat → Nat} {i N : Int} (C0 : LawCtx p s m c b L xs) (hi : 0 ≤ i ∧ i + 4 ≤ L) (hN : N + 250000 ≤ 200000000) {H : Heap} {locs : List Loc} {ls : Array Slot} (S0 : LawSt g s b c0 na be tr sn x o mb i N H locs ls) (kk : ∀ (H : Heap) (locs : List Loc) (ls : Array Slot), LawSt g s b c0 na be tr sn x o mb i (N + 210000) H locs ls → W p l e room_1 s m #[Value.ref b] below meth c H locs 600000 7302250 Q (F0 m 707 ls [])) : W p l e room_1 s m #[Value.ref b] below meth c H locs 600000 7302250 Q (F0 m 516 ls []) := by
  obtain ⟨hx, hb, hml, hown, hts, hX, hbl, hL⟩ := C0
  obtain ⟨h, T, T1, T2, T3, K, z, P, C, B, X, hW, hC, hP, w, hl⟩ := S0
  have hWm := hW.mono (show N ≤ N + 210000 from by omega) (by omega)
  obtain ⟨v1, hv1⟩ : ∃ v : Int, v = (xs (i + 1).toNat).toInt := ⟨_, rfl⟩
  have hr1 : -2147483648 ≤ v1 ∧ v1 ≤ 2147483647 := by rw [hv1]; exact x_rg _
  obtain ⟨v2, hv2⟩ : ∃ v : Int, v = (xs (i + 2).toNat).toInt := ⟨_, rfl⟩
  have hr2 : -2147483648 ≤ v2 ∧ v2 ≤ 2147483647 := by rw [hv2]; exact x_rg _
  obtain ⟨v3, hv3⟩ : ∃ v : Int, v = (xs (i + 3).toNat).toInt := ⟨_, rfl⟩
  have hr3 : -2147483648 ≤ v3 ∧ v3 ≤ 2147483647 := by rw [hv3]; exact x_rg _
  refine lv_aload_n hx hb dL_law_516 rfl (lv_at hl 1 rfl) ?_
  refine lv_aload_n hx hb dL_law_517 rfl (lv_at hl 0 rfl) ?_
  refine lv_iload_n hx hb dL_law_518 rfl (lv_at hl 3 rfl) ?_
  refine ri_iconst hx hb dL_law_519 ?_
  refine ri_iadd (z := i + 1) hx hb dL_law_520 rfl ?_
  refine ri_sld (v := v1) hx hb hX hbl hL w (j := i + 1) (by omega) hv1 dL_law_521 ?_
  refine lv_aload_n hx hb dL_law_522 rfl (lv_at hl 0 rfl) ?_
  refine lv_iload_n hx hb dL_law_523 rfl (lv_at hl 3 rfl) ?_
  refine ri_iconst hx hb dL_law_524 ?_
  refine ri_iadd (z := i + 2) hx hb dL_law_525 rfl ?_
  refine ri_sld (v := v2) hx hb hX hbl hL w (j := i + 2) (by omega) hv2 dL_law_526 ?_
  refine cb_rV (bc := [wp_ws g c0 na be tr sn x h o T T1 T2 T3 K z P C]) (br := [mo_ws g mb B X]) (kb := 2) (As := [.int (iI v1), .int (iI v2)]) (rest := []) hx hb (hml.trans hl.1.symm) hown hts w lk_RL_82 (t_X5_block l g c0 na be tr sn x h o T T1 T2 T3 K z P C N B v1 v2 hW hC (by omega) (by omega)) [0, 1] (by decide) rfl rfl (fl1 _) (call_recv w (q0 := 0) rfl fX5.1) rfl rfl (Nat.le_of_ble_eq_true rfl) ⟨Nat.le_of_ble_eq_true rfl, Nat.le_of_ble_eq_true rfl⟩ ⟨Nat.le_of_ble_eq_true rfl, Nat.le_of_ble_eq_true rfl⟩ dL_law_527 ?_
  refine lv_aload_n hx hb dL_law_530 rfl (lv_at hl 2 rfl) ?_
  refine lv_aload_n hx hb dL_law_531 rfl (lv_at hl 0 rfl) ?_
  refine lv_iload_n hx hb dL_law_532 rfl (lv_at hl 3 rfl) ?_
  refine ri_iconst hx hb dL_law_533 ?_
  refine ri_iadd (z := i + 1) hx hb dL_law_534 rfl ?_
  refine ri_sld (v := v1) hx hb hX hbl hL w (j := i + 1) (by omega) hv1 dL_law_535 ?_
  refine lv_aload_n hx hb dL_law_536 rfl (lv_at hl 0 rfl) ?_
  refine lv_iload_n hx hb dL_law_537 rfl (lv_at hl 3 rfl) ?_
  refine ri_iconst hx hb dL_law_538 ?_
  refine ri_iadd (z := i + 2) hx hb dL_law_539 rfl ?_
  refine ri_sld (v := v2) hx hb hX hbl hL w (j := i + 2) (by omega) hv2 dL_law_540 ?_
  refine cb_rV (bc := [mo_ws g mb B X]) (br := [wp_ws g c0 na be tr sn x h o T T1 T2 T3 K z P C]) (kb := 2) (As := [.int (iI v1), .int (iI v2)]) (rest := [.int (iI (c_block (B 0) v1 v2))]) hx hb (hml.trans hl.1.symm) hown hts w lk_RL_85 (t_X6_block l g mb N B X v1 v2 hW (by omega) (by omega)) [1, 0] (by decide) rfl rfl (fl1 _) (call_recv (w.blk (bc := [mo_ws g mb B X, wp_ws g c0 na be tr sn x h o T T1 T2 T3 K z P C]) (k := 2) [1, 0] (by decide) rfl rfl) (q0 := 0) rfl fX6.1) rfl rfl (Nat.le_of_ble_eq_true rfl) ⟨Nat.le_of_ble_eq_true rfl, Nat.le_of_ble_eq_true rfl⟩ ⟨Nat.le_of_ble_eq_true rfl, Nat.le_of_ble_eq_true rfl⟩ dL_law_541 ?_
  refine lv_icmp_eq (tgt := 707) hx hb dL_law_544 (by decide) (fun _ => ?_) (fun q => absurd rfl q)
  exact kk H locs ls ⟨h, T, T1, T2, T3, K, z, P, C, B, X, hWm, hC, hP, w, hl⟩

set_option maxHeartbeats 4000000 in
set_option maxRecDepth 100000 in
theorem law_place {p : Program} {l : Launch} {e : Env} {s : State} {m : MethodId} {below : List Frame} {meth : Method} {c : Code} {Q : State → Prop} {b L : Nat} {xs : Nat → Int32} {g : GG} {c0 : Nat} {na be tr sn x o mb : Nat → Nat} {i N : Int} (C0 : LawCtx p s m c b L xs) (hi : 0 ≤ i ∧ i + 4 ≤ L) (hN : N + 250000 ≤ 200000000) {H : Heap} {locs : List Loc} {ls : Array Slot} (S0 : LawSt g s b c0 na be tr sn x o mb i N H locs ls) (kk : ∀ (H : Heap) (locs : List Loc) (ls : Array Slot), LawSt g s b c0 na be tr sn x o mb i (N + 210000) H locs ls → W p l e room_1 s m #[Value.ref b] below meth c H locs 600000 7302250 Q (F0 m 707 ls [])) : W p l e room_1 s m #[Value.ref b] below meth c H locs 600000 7302250 Q (F0 m 549 ls []) := by
  obtain ⟨hx, hb, hml, hown, hts, hX, hbl, hL⟩ := C0
  obtain ⟨h, T, T1, T2, T3, K, z, P, C, B, X, hW, hC, hP, w, hl⟩ := S0
  have hWm := hW.mono (show N ≤ N + 210000 from by omega) (by omega)
  obtain ⟨v1, hv1⟩ : ∃ v : Int, v = (xs (i + 1).toNat).toInt := ⟨_, rfl⟩
  have hr1 : -2147483648 ≤ v1 ∧ v1 ≤ 2147483647 := by rw [hv1]; exact x_rg _
  obtain ⟨v2, hv2⟩ : ∃ v : Int, v = (xs (i + 2).toNat).toInt := ⟨_, rfl⟩
  have hr2 : -2147483648 ≤ v2 ∧ v2 ≤ 2147483647 := by rw [hv2]; exact x_rg _
  obtain ⟨v3, hv3⟩ : ∃ v : Int, v = (xs (i + 3).toNat).toInt := ⟨_, rfl⟩
  have hr3 : -2147483648 ≤ v3 ∧ v3 ≤ 2147483647 := by rw [hv3]; exact x_rg _
  refine lv_aload_n hx hb dL_law_549 rfl (lv_at hl 1 rfl) ?_
  refine lv_aload_n hx hb dL_law_550 rfl (lv_at hl 0 rfl) ?_
  refine lv_iload_n hx hb dL_law_551 rfl (lv_at hl 3 rfl) ?_
  refine ri_iconst hx hb dL_law_552 ?_
  refine ri_iadd (z := i + 1) hx hb dL_law_553 rfl ?_
  refine ri_sld (v := v1) hx hb hX hbl hL w (j := i + 1) (by omega) hv1 dL_law_554 ?_
  refine lv_aload_n hx hb dL_law_555 rfl (lv_at hl 0 rfl) ?_
  refine lv_iload_n hx hb dL_law_556 rfl (lv_at hl 3 rfl) ?_
  refine ri_iconst hx hb dL_law_557 ?_
  refine ri_iadd (z := i + 2) hx hb dL_law_558 rfl ?_
  refine ri_sld (v := v2) hx hb hX hbl hL w (j := i + 2) (by omega) hv2 dL_law_559 ?_
  refine lv_aload_n hx hb dL_law_560 rfl (lv_at hl 0 rfl) ?_
  refine lv_iload_n hx hb dL_law_561 rfl (lv_at hl 3 rfl) ?_
  refine ri_iconst hx hb dL_law_562 ?_
  refine ri_iadd (z := i + 3) hx hb dL_law_563 rfl ?_
  refine ri_sld (v := v3) hx hb hX hbl hL w (j := i + 3) (by omega) hv3 dL_law_564 ?_
  refine cb_rV (bc := [wp_ws g c0 na be tr sn x h o T T1 T2 T3 K z P C]) (br := [mo_ws g mb B X]) (kb := 2) (As := [.int (iI v1), .int (iI v2), .int (iI v3)]) (rest := []) hx hb (hml.trans hl.1.symm) hown hts w lk_RL_86 (t_X5_place l g c0 na be tr sn x h o T T1 T2 T3 K z P C N B v1 v2 v3 hW hC (by omega) (by omega) (by omega)) [0, 1] (by decide) rfl rfl (fl1 _) (call_recv w (q0 := 0) rfl fX5.1) rfl rfl (Nat.le_of_ble_eq_true rfl) ⟨Nat.le_of_ble_eq_true rfl, Nat.le_of_ble_eq_true rfl⟩ ⟨Nat.le_of_ble_eq_true rfl, Nat.le_of_ble_eq_true rfl⟩ dL_law_565 ?_
  refine lv_aload_n hx hb dL_law_568 rfl (lv_at hl 2 rfl) ?_
  refine lv_aload_n hx hb dL_law_569 rfl (lv_at hl 0 rfl) ?_
  refine lv_iload_n hx hb dL_law_570 rfl (lv_at hl 3 rfl) ?_
  refine ri_iconst hx hb dL_law_571 ?_
  refine ri_iadd (z := i + 1) hx hb dL_law_572 rfl ?_
  refine ri_sld (v := v1) hx hb hX hbl hL w (j := i + 1) (by omega) hv1 dL_law_573 ?_
  refine lv_aload_n hx hb dL_law_574 rfl (lv_at hl 0 rfl) ?_
  refine lv_iload_n hx hb dL_law_575 rfl (lv_at hl 3 rfl) ?_
  refine ri_iconst hx hb dL_law_576 ?_
  refine ri_iadd (z := i + 2) hx hb dL_law_577 rfl ?_
  refine ri_sld (v := v2) hx hb hX hbl hL w (j := i + 2) (by omega) hv2 dL_law_578 ?_
  refine lv_aload_n hx hb dL_law_579 rfl (lv_at hl 0 rfl) ?_
  refine lv_iload_n hx hb dL_law_580 rfl (lv_at hl 3 rfl) ?_
  refine ri_iconst hx hb dL_law_581 ?_
  refine ri_iadd (z := i + 3) hx hb dL_law_582 rfl ?_
  refine ri_sld (v := v3) hx hb hX hbl hL w (j := i + 3) (by omega) hv3 dL_law_583 ?_
  refine cb_rV (bc := [mo_ws g mb B X]) (br := [wp_ws g c0 na be tr sn x h o T T1 T2 T3 K z P C]) (kb := 2) (As := [.int (iI v1), .int (iI v2), .int (iI v3)]) (rest := [.int (iI (c_place (B 0) v1 v2 v3))]) hx hb (hml.trans hl.1.symm) hown hts w lk_RL_90 (t_X6_place l g mb N B X v1 v2 v3 hW (by omega) (by omega) (by omega)) [1, 0] (by decide) rfl rfl (fl1 _) (call_recv (w.blk (bc := [mo_ws g mb B X, wp_ws g c0 na be tr sn x h o T T1 T2 T3 K z P C]) (k := 2) [1, 0] (by decide) rfl rfl) (q0 := 0) rfl fX6.1) rfl rfl (Nat.le_of_ble_eq_true rfl) ⟨Nat.le_of_ble_eq_true rfl, Nat.le_of_ble_eq_true rfl⟩ ⟨Nat.le_of_ble_eq_true rfl, Nat.le_of_ble_eq_true rfl⟩ dL_law_584 ?_
  refine lv_icmp_eq (tgt := 707) hx hb dL_law_587 (by decide) (fun _ => ?_) (fun q => absurd rfl q)
  exact kk H locs ls ⟨h, T, T1, T2, T3, K, z, P, C, B, X, hWm, hC, hP, w, hl⟩

set_option maxHeartbeats 4000000 in
set_option maxRecDepth 100000 in
theorem law_marked {p : Program} {l : Launch} {e : Env} {s : State} {m : MethodId} {below : List Frame} {meth : Method} {c : Code} {Q : State → Prop} {b L : Nat} {xs : Nat → Int32} {g : GG} {c0 : Nat} {na be tr sn x o mb : Nat → Nat} {i N : Int} (C0 : LawCtx p s m c b L xs) (hi : 0 ≤ i ∧ i + 4 ≤ L) (hN : N + 250000 ≤ 200000000) {H : Heap} {locs : List Loc} {ls : Array Slot} (S0 : LawSt g s b c0 na be tr sn x o mb i N H locs ls) (kk : ∀ (H : Heap) (locs : List Loc) (ls : Array Slot), LawSt g s b c0 na be tr sn x o mb i (N + 210000) H locs ls → W p l e room_1 s m #[Value.ref b] below meth c H locs 600000 7302250 Q (F0 m 707 ls [])) : W p l e room_1 s m #[Value.ref b] below meth c H locs 600000 7302250 Q (F0 m 592 ls []) := by
  obtain ⟨hx, hb, hml, hown, hts, hX, hbl, hL⟩ := C0
  obtain ⟨h, T, T1, T2, T3, K, z, P, C, B, X, hW, hC, hP, w, hl⟩ := S0
  have hWm := hW.mono (show N ≤ N + 210000 from by omega) (by omega)
  obtain ⟨v1, hv1⟩ : ∃ v : Int, v = (xs (i + 1).toNat).toInt := ⟨_, rfl⟩
  have hr1 : -2147483648 ≤ v1 ∧ v1 ≤ 2147483647 := by rw [hv1]; exact x_rg _
  obtain ⟨v2, hv2⟩ : ∃ v : Int, v = (xs (i + 2).toNat).toInt := ⟨_, rfl⟩
  have hr2 : -2147483648 ≤ v2 ∧ v2 ≤ 2147483647 := by rw [hv2]; exact x_rg _
  obtain ⟨v3, hv3⟩ : ∃ v : Int, v = (xs (i + 3).toNat).toInt := ⟨_, rfl⟩
  have hr3 : -2147483648 ≤ v3 ∧ v3 ≤ 2147483647 := by rw [hv3]; exact x_rg _
  refine lv_aload_n hx hb dL_law_592 rfl (lv_at hl 1 rfl) ?_
  refine lv_aload_n hx hb dL_law_593 rfl (lv_at hl 0 rfl) ?_
  refine lv_iload_n hx hb dL_law_594 rfl (lv_at hl 3 rfl) ?_
  refine ri_iconst hx hb dL_law_595 ?_
  refine ri_iadd (z := i + 1) hx hb dL_law_596 rfl ?_
  refine ri_sld (v := v1) hx hb hX hbl hL w (j := i + 1) (by omega) hv1 dL_law_597 ?_
  refine cb_rV (bc := [wp_ws g c0 na be tr sn x h o T T1 T2 T3 K z P C]) (br := [mo_ws g mb B X]) (kb := 2) (As := [.int (iI v1)]) (rest := []) hx hb (hml.trans hl.1.symm) hown hts w lk_RL_91 (t_X5_marked l g c0 na be tr sn x h o T T1 T2 T3 K z P C N B v1 hW hC (by omega)) [0, 1] (by decide) rfl rfl (fl1 _) (call_recv w (q0 := 0) rfl fX5.1) rfl rfl (Nat.le_of_ble_eq_true rfl) ⟨Nat.le_of_ble_eq_true rfl, Nat.le_of_ble_eq_true rfl⟩ ⟨Nat.le_of_ble_eq_true rfl, Nat.le_of_ble_eq_true rfl⟩ dL_law_598 ?_
  refine lv_aload_n hx hb dL_law_601 rfl (lv_at hl 2 rfl) ?_
  refine lv_aload_n hx hb dL_law_602 rfl (lv_at hl 0 rfl) ?_
  refine lv_iload_n hx hb dL_law_603 rfl (lv_at hl 3 rfl) ?_
  refine ri_iconst hx hb dL_law_604 ?_
  refine ri_iadd (z := i + 1) hx hb dL_law_605 rfl ?_
  refine ri_sld (v := v1) hx hb hX hbl hL w (j := i + 1) (by omega) hv1 dL_law_606 ?_
  refine cb_rV (bc := [mo_ws g mb B X]) (br := [wp_ws g c0 na be tr sn x h o T T1 T2 T3 K z P C]) (kb := 2) (As := [.int (iI v1)]) (rest := [.int (iI (c_marked (B 0) v1))]) hx hb (hml.trans hl.1.symm) hown hts w lk_RL_94 (t_X6_marked l g mb N B X v1 hW (by omega)) [1, 0] (by decide) rfl rfl (fl1 _) (call_recv (w.blk (bc := [mo_ws g mb B X, wp_ws g c0 na be tr sn x h o T T1 T2 T3 K z P C]) (k := 2) [1, 0] (by decide) rfl rfl) (q0 := 0) rfl fX6.1) rfl rfl (Nat.le_of_ble_eq_true rfl) ⟨Nat.le_of_ble_eq_true rfl, Nat.le_of_ble_eq_true rfl⟩ ⟨Nat.le_of_ble_eq_true rfl, Nat.le_of_ble_eq_true rfl⟩ dL_law_607 ?_
  refine lv_icmp_eq (tgt := 707) hx hb dL_law_610 (by decide) (fun _ => ?_) (fun q => absurd rfl q)
  exact kk H locs ls ⟨h, T, T1, T2, T3, K, z, P, C, B, X, hWm, hC, hP, w, hl⟩

set_option maxHeartbeats 4000000 in
set_option maxRecDepth 100000 in
theorem law_quietIn {p : Program} {l : Launch} {e : Env} {s : State} {m : MethodId} {below : List Frame} {meth : Method} {c : Code} {Q : State → Prop} {b L : Nat} {xs : Nat → Int32} {g : GG} {c0 : Nat} {na be tr sn x o mb : Nat → Nat} {i N : Int} (C0 : LawCtx p s m c b L xs) (hi : 0 ≤ i ∧ i + 4 ≤ L) (hN : N + 250000 ≤ 200000000) {H : Heap} {locs : List Loc} {ls : Array Slot} (S0 : LawSt g s b c0 na be tr sn x o mb i N H locs ls) (kk : ∀ (H : Heap) (locs : List Loc) (ls : Array Slot), LawSt g s b c0 na be tr sn x o mb i (N + 210000) H locs ls → W p l e room_1 s m #[Value.ref b] below meth c H locs 600000 7302250 Q (F0 m 707 ls [])) : W p l e room_1 s m #[Value.ref b] below meth c H locs 600000 7302250 Q (F0 m 615 ls []) := by
  obtain ⟨hx, hb, hml, hown, hts, hX, hbl, hL⟩ := C0
  obtain ⟨h, T, T1, T2, T3, K, z, P, C, B, X, hW, hC, hP, w, hl⟩ := S0
  have hWm := hW.mono (show N ≤ N + 210000 from by omega) (by omega)
  obtain ⟨v1, hv1⟩ : ∃ v : Int, v = (xs (i + 1).toNat).toInt := ⟨_, rfl⟩
  have hr1 : -2147483648 ≤ v1 ∧ v1 ≤ 2147483647 := by rw [hv1]; exact x_rg _
  obtain ⟨v2, hv2⟩ : ∃ v : Int, v = (xs (i + 2).toNat).toInt := ⟨_, rfl⟩
  have hr2 : -2147483648 ≤ v2 ∧ v2 ≤ 2147483647 := by rw [hv2]; exact x_rg _
  obtain ⟨v3, hv3⟩ : ∃ v : Int, v = (xs (i + 3).toNat).toInt := ⟨_, rfl⟩
  have hr3 : -2147483648 ≤ v3 ∧ v3 ≤ 2147483647 := by rw [hv3]; exact x_rg _
  refine lv_aload_n hx hb dL_law_615 rfl (lv_at hl 1 rfl) ?_
  refine cb_wV (bc := [wp_ws g c0 na be tr sn x h o T T1 T2 T3 K z P C]) (br := [mo_ws g mb B X]) (kb := 2) (As := []) (rest := []) hx hb (hml.trans hl.1.symm) hown hts w lk_RL_95 (fun sz => t_X5_quietIn l g c0 na be tr sn x h o T T1 T2 T3 K z P C N B hW hC (by omega) sz) [0, 1] (by decide) rfl rfl (fl1 _) (call_recv w (q0 := 0) rfl fX5.1) rfl rfl (Nat.le_of_ble_eq_true rfl) ⟨Nat.le_of_ble_eq_true rfl, Nat.le_of_ble_eq_true rfl⟩ ⟨Nat.le_of_ble_eq_true rfl, Nat.le_of_ble_eq_true rfl⟩ dL_law_616 (fun vv w1 H locs hr w => ?_)
  obtain ⟨rfl, h', T', T1', T2', T3', K', z', P', C', rfl, hC'⟩ := hr
  have w : Wd g (LA s) ([mo_ws g mb B X, wp_ws g c0 na be tr sn x h' o T' T1' T2' T3' K' z' P' C'] : List va_W).flatten s H locs := w
  refine lv_aload_n hx hb dL_law_619 rfl (lv_at hl 2 rfl) ?_
  refine cb_wV (bc := [mo_ws g mb B X]) (br := [wp_ws g c0 na be tr sn x h' o T' T1' T2' T3' K' z' P' C']) (kb := 2) (As := []) (rest := [.int (iI (c_quiet (B 0)))]) hx hb (hml.trans hl.1.symm) hown hts w lk_RL_98 (fun sz => t_X6_quietIn l g mb N B X hW hP (by omega) sz) [0, 1] (by decide) rfl rfl (fl1 _) (call_recv w (q0 := 0) rfl fX6.1) rfl rfl (Nat.le_of_ble_eq_true rfl) ⟨Nat.le_of_ble_eq_true rfl, Nat.le_of_ble_eq_true rfl⟩ ⟨Nat.le_of_ble_eq_true rfl, Nat.le_of_ble_eq_true rfl⟩ dL_law_620 (fun vv w1 H locs hr w => ?_)
  obtain ⟨rfl, X', rfl, hP'⟩ := hr
  have w : Wd g (LA s) ([wp_ws g c0 na be tr sn x h' o T' T1' T2' T3' K' z' P' C', mo_ws g mb B X'] : List va_W).flatten s H locs := w
  refine lv_icmp_eq (tgt := 707) hx hb dL_law_623 (by decide) (fun _ => ?_) (fun q => absurd rfl q)
  exact kk H locs ls ⟨h', T', T1', T2', T3', K', z', P', C', B, X', hWm, hC', hP', w, hl⟩

set_option maxHeartbeats 4000000 in
set_option maxRecDepth 100000 in
theorem law_erasure {p : Program} {l : Launch} {e : Env} {s : State} {m : MethodId} {below : List Frame} {meth : Method} {c : Code} {Q : State → Prop} {b L : Nat} {xs : Nat → Int32} {g : GG} {c0 : Nat} {na be tr sn x o mb : Nat → Nat} {i N : Int} (C0 : LawCtx p s m c b L xs) (hi : 0 ≤ i ∧ i + 4 ≤ L) (hN : N + 250000 ≤ 200000000) {H : Heap} {locs : List Loc} {ls : Array Slot} (S0 : LawSt g s b c0 na be tr sn x o mb i N H locs ls) (kk : ∀ (H : Heap) (locs : List Loc) (ls : Array Slot), LawSt g s b c0 na be tr sn x o mb i (N + 210000) H locs ls → W p l e room_1 s m #[Value.ref b] below meth c H locs 600000 7302250 Q (F0 m 707 ls [])) : W p l e room_1 s m #[Value.ref b] below meth c H locs 600000 7302250 Q (F0 m 628 ls []) := by
  obtain ⟨hx, hb, hml, hown, hts, hX, hbl, hL⟩ := C0
  obtain ⟨h, T, T1, T2, T3, K, z, P, C, B, X, hW, hC, hP, w, hl⟩ := S0
  have hWm := hW.mono (show N ≤ N + 210000 from by omega) (by omega)
  obtain ⟨v1, hv1⟩ : ∃ v : Int, v = (xs (i + 1).toNat).toInt := ⟨_, rfl⟩
  have hr1 : -2147483648 ≤ v1 ∧ v1 ≤ 2147483647 := by rw [hv1]; exact x_rg _
  obtain ⟨v2, hv2⟩ : ∃ v : Int, v = (xs (i + 2).toNat).toInt := ⟨_, rfl⟩
  have hr2 : -2147483648 ≤ v2 ∧ v2 ≤ 2147483647 := by rw [hv2]; exact x_rg _
  obtain ⟨v3, hv3⟩ : ∃ v : Int, v = (xs (i + 3).toNat).toInt := ⟨_, rfl⟩
  have hr3 : -2147483648 ≤ v3 ∧ v3 ≤ 2147483647 := by rw [hv3]; exact x_rg _
  refine lv_aload_n hx hb dL_law_628 rfl (lv_at hl 1 rfl) ?_
  refine lv_aload_n hx hb dL_law_629 rfl (lv_at hl 0 rfl) ?_
  refine lv_iload_n hx hb dL_law_630 rfl (lv_at hl 3 rfl) ?_
  refine ri_iconst hx hb dL_law_631 ?_
  refine ri_iadd (z := i + 1) hx hb dL_law_632 rfl ?_
  refine ri_sld (v := v1) hx hb hX hbl hL w (j := i + 1) (by omega) hv1 dL_law_633 ?_
  refine lv_aload_n hx hb dL_law_634 rfl (lv_at hl 0 rfl) ?_
  refine lv_iload_n hx hb dL_law_635 rfl (lv_at hl 3 rfl) ?_
  refine ri_iconst hx hb dL_law_636 ?_
  refine ri_iadd (z := i + 2) hx hb dL_law_637 rfl ?_
  refine ri_sld (v := v2) hx hb hX hbl hL w (j := i + 2) (by omega) hv2 dL_law_638 ?_
  refine cb_rV (bc := [wp_ws g c0 na be tr sn x h o T T1 T2 T3 K z P C]) (br := [mo_ws g mb B X]) (kb := 2) (As := [.int (iI v1), .int (iI v2)]) (rest := []) hx hb (hml.trans hl.1.symm) hown hts w lk_RL_99 (t_X5_erasure l g c0 na be tr sn x h o T T1 T2 T3 K z P C N B v1 v2 hW hC (by omega) (by omega)) [0, 1] (by decide) rfl rfl (fl1 _) (call_recv w (q0 := 0) rfl fX5.1) rfl rfl (Nat.le_of_ble_eq_true rfl) ⟨Nat.le_of_ble_eq_true rfl, Nat.le_of_ble_eq_true rfl⟩ ⟨Nat.le_of_ble_eq_true rfl, Nat.le_of_ble_eq_true rfl⟩ dL_law_639 ?_
  refine lv_aload_n hx hb dL_law_642 rfl (lv_at hl 2 rfl) ?_
  refine lv_aload_n hx hb dL_law_643 rfl (lv_at hl 0 rfl) ?_
  refine lv_iload_n hx hb dL_law_644 rfl (lv_at hl 3 rfl) ?_
  refine ri_iconst hx hb dL_law_645 ?_
  refine ri_iadd (z := i + 1) hx hb dL_law_646 rfl ?_
  refine ri_sld (v := v1) hx hb hX hbl hL w (j := i + 1) (by omega) hv1 dL_law_647 ?_
  refine lv_aload_n hx hb dL_law_648 rfl (lv_at hl 0 rfl) ?_
  refine lv_iload_n hx hb dL_law_649 rfl (lv_at hl 3 rfl) ?_
  refine ri_iconst hx hb dL_law_650 ?_
  refine ri_iadd (z := i + 2) hx hb dL_law_651 rfl ?_
  refine ri_sld (v := v2) hx hb hX hbl hL w (j := i + 2) (by omega) hv2 dL_law_652 ?_
  refine cb_rV (bc := [mo_ws g mb B X]) (br := [wp_ws g c0 na be tr sn x h o T T1 T2 T3 K z P C]) (kb := 2) (As := [.int (iI v1), .int (iI v2)]) (rest := [.int (iI (c_erasure (B 0) v1 v2))]) hx hb (hml.trans hl.1.symm) hown hts w lk_RL_102 (t_X6_erasure l g mb N B X v1 v2 hW (by omega) (by omega)) [1, 0] (by decide) rfl rfl (fl1 _) (call_recv (w.blk (bc := [mo_ws g mb B X, wp_ws g c0 na be tr sn x h o T T1 T2 T3 K z P C]) (k := 2) [1, 0] (by decide) rfl rfl) (q0 := 0) rfl fX6.1) rfl rfl (Nat.le_of_ble_eq_true rfl) ⟨Nat.le_of_ble_eq_true rfl, Nat.le_of_ble_eq_true rfl⟩ ⟨Nat.le_of_ble_eq_true rfl, Nat.le_of_ble_eq_true rfl⟩ dL_law_653 ?_
  refine lv_icmp_eq (tgt := 707) hx hb dL_law_656 (by decide) (fun _ => ?_) (fun q => absurd rfl q)
  exact kk H locs ls ⟨h, T, T1, T2, T3, K, z, P, C, B, X, hWm, hC, hP, w, hl⟩

set_option maxHeartbeats 4000000 in
set_option maxRecDepth 100000 in
theorem law_count {p : Program} {l : Launch} {e : Env} {s : State} {m : MethodId} {below : List Frame} {meth : Method} {c : Code} {Q : State → Prop} {b L : Nat} {xs : Nat → Int32} {g : GG} {c0 : Nat} {na be tr sn x o mb : Nat → Nat} {i N : Int} (C0 : LawCtx p s m c b L xs) (hi : 0 ≤ i ∧ i + 4 ≤ L) (hN : N + 250000 ≤ 200000000) {H : Heap} {locs : List Loc} {ls : Array Slot} (S0 : LawSt g s b c0 na be tr sn x o mb i N H locs ls) (kk : ∀ (H : Heap) (locs : List Loc) (ls : Array Slot), LawSt g s b c0 na be tr sn x o mb i (N + 210000) H locs ls → W p l e room_1 s m #[Value.ref b] below meth c H locs 600000 7302250 Q (F0 m 707 ls [])) : W p l e room_1 s m #[Value.ref b] below meth c H locs 600000 7302250 Q (F0 m 661 ls []) := by
  obtain ⟨hx, hb, hml, hown, hts, hX, hbl, hL⟩ := C0
  obtain ⟨h, T, T1, T2, T3, K, z, P, C, B, X, hW, hC, hP, w, hl⟩ := S0
  have hWm := hW.mono (show N ≤ N + 210000 from by omega) (by omega)
  obtain ⟨v1, hv1⟩ : ∃ v : Int, v = (xs (i + 1).toNat).toInt := ⟨_, rfl⟩
  have hr1 : -2147483648 ≤ v1 ∧ v1 ≤ 2147483647 := by rw [hv1]; exact x_rg _
  obtain ⟨v2, hv2⟩ : ∃ v : Int, v = (xs (i + 2).toNat).toInt := ⟨_, rfl⟩
  have hr2 : -2147483648 ≤ v2 ∧ v2 ≤ 2147483647 := by rw [hv2]; exact x_rg _
  obtain ⟨v3, hv3⟩ : ∃ v : Int, v = (xs (i + 3).toNat).toInt := ⟨_, rfl⟩
  have hr3 : -2147483648 ≤ v3 ∧ v3 ≤ 2147483647 := by rw [hv3]; exact x_rg _
  refine lv_aload_n hx hb dL_law_661 rfl (lv_at hl 1 rfl) ?_
  refine lv_aload_n hx hb dL_law_662 rfl (lv_at hl 0 rfl) ?_
  refine lv_iload_n hx hb dL_law_663 rfl (lv_at hl 3 rfl) ?_
  refine ri_iconst hx hb dL_law_664 ?_
  refine ri_iadd (z := i + 1) hx hb dL_law_665 rfl ?_
  refine ri_sld (v := v1) hx hb hX hbl hL w (j := i + 1) (by omega) hv1 dL_law_666 ?_
  refine cb_rV (bc := [wp_ws g c0 na be tr sn x h o T T1 T2 T3 K z P C]) (br := [mo_ws g mb B X]) (kb := 2) (As := [.int (iI v1)]) (rest := []) hx hb (hml.trans hl.1.symm) hown hts w lk_RL_103 (t_X5_count l g c0 na be tr sn x h o T T1 T2 T3 K z P C N B v1 hW hC (by omega)) [0, 1] (by decide) rfl rfl (fl1 _) (call_recv w (q0 := 0) rfl fX5.1) rfl rfl (Nat.le_of_ble_eq_true rfl) ⟨Nat.le_of_ble_eq_true rfl, Nat.le_of_ble_eq_true rfl⟩ ⟨Nat.le_of_ble_eq_true rfl, Nat.le_of_ble_eq_true rfl⟩ dL_law_667 ?_
  refine lv_aload_n hx hb dL_law_670 rfl (lv_at hl 2 rfl) ?_
  refine lv_aload_n hx hb dL_law_671 rfl (lv_at hl 0 rfl) ?_
  refine lv_iload_n hx hb dL_law_672 rfl (lv_at hl 3 rfl) ?_
  refine ri_iconst hx hb dL_law_673 ?_
  refine ri_iadd (z := i + 1) hx hb dL_law_674 rfl ?_
  refine ri_sld (v := v1) hx hb hX hbl hL w (j := i + 1) (by omega) hv1 dL_law_675 ?_
  refine cb_rV (bc := [mo_ws g mb B X]) (br := [wp_ws g c0 na be tr sn x h o T T1 T2 T3 K z P C]) (kb := 2) (As := [.int (iI v1)]) (rest := [.int (iI (c_count B v1))]) hx hb (hml.trans hl.1.symm) hown hts w lk_RL_106 (t_X6_count l g mb N B X v1 hW (by omega)) [1, 0] (by decide) rfl rfl (fl1 _) (call_recv (w.blk (bc := [mo_ws g mb B X, wp_ws g c0 na be tr sn x h o T T1 T2 T3 K z P C]) (k := 2) [1, 0] (by decide) rfl rfl) (q0 := 0) rfl fX6.1) rfl rfl (Nat.le_of_ble_eq_true rfl) ⟨Nat.le_of_ble_eq_true rfl, Nat.le_of_ble_eq_true rfl⟩ ⟨Nat.le_of_ble_eq_true rfl, Nat.le_of_ble_eq_true rfl⟩ dL_law_676 ?_
  refine lv_icmp_eq (tgt := 707) hx hb dL_law_679 (by decide) (fun _ => ?_) (fun q => absurd rfl q)
  exact kk H locs ls ⟨h, T, T1, T2, T3, K, z, P, C, B, X, hWm, hC, hP, w, hl⟩

set_option maxHeartbeats 4000000 in
set_option maxRecDepth 100000 in
theorem law_setting {p : Program} {l : Launch} {e : Env} {s : State} {m : MethodId} {below : List Frame} {meth : Method} {c : Code} {Q : State → Prop} {b L : Nat} {xs : Nat → Int32} {g : GG} {c0 : Nat} {na be tr sn x o mb : Nat → Nat} {i N : Int} (C0 : LawCtx p s m c b L xs) (hi : 0 ≤ i ∧ i + 4 ≤ L) (hN : N + 250000 ≤ 200000000) {H : Heap} {locs : List Loc} {ls : Array Slot} (S0 : LawSt g s b c0 na be tr sn x o mb i N H locs ls) (kk : ∀ (H : Heap) (locs : List Loc) (ls : Array Slot), LawSt g s b c0 na be tr sn x o mb i (N + 210000) H locs ls → W p l e room_1 s m #[Value.ref b] below meth c H locs 600000 7302250 Q (F0 m 707 ls [])) : W p l e room_1 s m #[Value.ref b] below meth c H locs 600000 7302250 Q (F0 m 684 ls []) := by
  obtain ⟨hx, hb, hml, hown, hts, hX, hbl, hL⟩ := C0
  obtain ⟨h, T, T1, T2, T3, K, z, P, C, B, X, hW, hC, hP, w, hl⟩ := S0
  have hWm := hW.mono (show N ≤ N + 210000 from by omega) (by omega)
  obtain ⟨v1, hv1⟩ : ∃ v : Int, v = (xs (i + 1).toNat).toInt := ⟨_, rfl⟩
  have hr1 : -2147483648 ≤ v1 ∧ v1 ≤ 2147483647 := by rw [hv1]; exact x_rg _
  obtain ⟨v2, hv2⟩ : ∃ v : Int, v = (xs (i + 2).toNat).toInt := ⟨_, rfl⟩
  have hr2 : -2147483648 ≤ v2 ∧ v2 ≤ 2147483647 := by rw [hv2]; exact x_rg _
  obtain ⟨v3, hv3⟩ : ∃ v : Int, v = (xs (i + 3).toNat).toInt := ⟨_, rfl⟩
  have hr3 : -2147483648 ≤ v3 ∧ v3 ≤ 2147483647 := by rw [hv3]; exact x_rg _
  refine lv_aload_n hx hb dL_law_684 rfl (lv_at hl 1 rfl) ?_
  refine lv_aload_n hx hb dL_law_685 rfl (lv_at hl 0 rfl) ?_
  refine lv_iload_n hx hb dL_law_686 rfl (lv_at hl 3 rfl) ?_
  refine ri_iconst hx hb dL_law_687 ?_
  refine ri_iadd (z := i + 1) hx hb dL_law_688 rfl ?_
  refine ri_sld (v := v1) hx hb hX hbl hL w (j := i + 1) (by omega) hv1 dL_law_689 ?_
  refine cb_rV (bc := [wp_ws g c0 na be tr sn x h o T T1 T2 T3 K z P C]) (br := [mo_ws g mb B X]) (kb := 2) (As := [.int (iI v1)]) (rest := []) hx hb (hml.trans hl.1.symm) hown hts w lk_RL_107 (t_X5_setting l g c0 na be tr sn x h o T T1 T2 T3 K z P C N B v1 hW hC (by omega)) [0, 1] (by decide) rfl rfl (fl1 _) (call_recv w (q0 := 0) rfl fX5.1) rfl rfl (Nat.le_of_ble_eq_true rfl) ⟨Nat.le_of_ble_eq_true rfl, Nat.le_of_ble_eq_true rfl⟩ ⟨Nat.le_of_ble_eq_true rfl, Nat.le_of_ble_eq_true rfl⟩ dL_law_690 ?_
  refine lv_aload_n hx hb dL_law_693 rfl (lv_at hl 2 rfl) ?_
  refine lv_aload_n hx hb dL_law_694 rfl (lv_at hl 0 rfl) ?_
  refine lv_iload_n hx hb dL_law_695 rfl (lv_at hl 3 rfl) ?_
  refine ri_iconst hx hb dL_law_696 ?_
  refine ri_iadd (z := i + 1) hx hb dL_law_697 rfl ?_
  refine ri_sld (v := v1) hx hb hX hbl hL w (j := i + 1) (by omega) hv1 dL_law_698 ?_
  refine cb_rV (bc := [mo_ws g mb B X]) (br := [wp_ws g c0 na be tr sn x h o T T1 T2 T3 K z P C]) (kb := 2) (As := [.int (iI v1)]) (rest := [.int (iI (c_setting (B 0) v1))]) hx hb (hml.trans hl.1.symm) hown hts w lk_RL_110 (t_X6_setting l g mb N B X v1 hW (by omega)) [1, 0] (by decide) rfl rfl (fl1 _) (call_recv (w.blk (bc := [mo_ws g mb B X, wp_ws g c0 na be tr sn x h o T T1 T2 T3 K z P C]) (k := 2) [1, 0] (by decide) rfl rfl) (q0 := 0) rfl fX6.1) rfl rfl (Nat.le_of_ble_eq_true rfl) ⟨Nat.le_of_ble_eq_true rfl, Nat.le_of_ble_eq_true rfl⟩ ⟨Nat.le_of_ble_eq_true rfl, Nat.le_of_ble_eq_true rfl⟩ dL_law_699 ?_
  refine lv_icmp_eq (tgt := 707) hx hb dL_law_702 (by decide) (fun _ => ?_) (fun q => absurd rfl q)
  exact kk H locs ls ⟨h, T, T1, T2, T3, K, z, P, C, B, X, hWm, hC, hP, w, hl⟩
