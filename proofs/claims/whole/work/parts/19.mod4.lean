set_option maxHeartbeats 4000000 in
set_option maxRecDepth 100000 in
theorem t_X6_isAt (l : Launch) (g : GG) (b : Nat → Nat) (N : Int) (B : Nat → Int → Int) (X : Nat → Int → Int) (lo : Int) (hi : Int) (a : Int) (hW : WB N B) (hxa : X 3 0 = a) (ha : 0 ≤ a ∧ a ≤ 60) (h1 : -2147483648 ≤ lo ∧ lo ≤ 2147483647) (h2 : -2147483648 ≤ hi ∧ hi ≤ 2147483647) : Met l yX6_isAt (wm yX6_isAt cX6_isAt 3 (some .boolean)) (rmm 1 0 0) (pR g (mo_ws g b B X) [.ref (b 0), .int (iI lo), .int (iI hi)]) (qR (some (.int (iI (if a < B 10 0 ∧ lo ≤ B 6 a ∧ B 6 a ≤ hi then 1 else 0))))) 0 0 (fun _ => False) := by
  have hk := hW.k
  have hj := hW.j
  have htl := hW.tl
  have hrf := hW.rf
  have hTx := hW.tx
  have hrr := hW.rr
  have hW0 := hW.1
  refine met_r (by decide) (Nat.le_of_ble_eq_true rfl) ?_
  intro p e s m args below meth c Q ls hx hb hml hown hts hl w hend
  have hl : lv_has ls 3 [(0, .ref (b 0)), (1, .int (iI lo)), (2, .int (iI hi))] := hl
  refine lv_aload_n hx hb dX6_isAt_0 rfl (lv_at hl 0 rfl) ?_
  refine ri_get (v := .int (iI a)) hx hb hts hown w fX6 0 9 (W0_of k_fl_RX6_177 rfl) rfl (congrArg (fun z => some (Value.int (iI z))) (hxa)) (by decide) dX6_isAt_1 ?_
  refine lv_aload_n hx hb dX6_isAt_4 rfl (lv_at hl 0 rfl) ?_
  refine ri_get (v := .int (iI (B 10 0))) hx hb hts hown w fX6 0 8 (W0_of k_fl_RX6_174 rfl) rfl rfl (by decide) dX6_isAt_5 ?_
  refine ri_icmp_ge (tgt := 32) hx hb dX6_isAt_8 (by decide) (by omega) (by omega) (fun c1 => ?_) (fun c1 => ?_)
  · refine ri_iconst hx hb dX6_isAt_32 ?_
    exact hend.2 _ (congrArg (fun z => some (Value.int (iI z))) (show (if a < B 10 0 ∧ lo ≤ B 6 a ∧ B 6 a ≤ hi then 1 else 0) = 0 from by omega)) ⟨_, rfl, (nz (by omega))⟩ _ _ dX6_isAt_33
  · refine lv_aload_n hx hb dX6_isAt_11 rfl (lv_at hl 0 rfl) ?_
    refine ri_get (v := .ref (b 6)) hx hb hts hown w fX6 0 7 (W0_of k_fl_RX6_25 rfl) rfl rfl (by decide) dX6_isAt_12 ?_
    refine lv_aload_n hx hb dX6_isAt_15 rfl (lv_at hl 0 rfl) ?_
    refine ri_get (v := .int (iI a)) hx hb hts hown w fX6 0 9 (W0_of k_fl_RX6_177 rfl) rfl (congrArg (fun z => some (Value.int (iI z))) (hxa)) (by decide) dX6_isAt_16 ?_
    refine ri_iald (f := B 6) (v := (B 6) a) hx hb w 6 rfl (by omega) (rfl) dX6_isAt_19 (by omega) ?_
    have r2 := hTx.bd a
    refine lv_iload_n hx hb dX6_isAt_20 rfl (lv_at hl 1 rfl) ?_
    refine lv_iload_n hx hb dX6_isAt_21 rfl (lv_at hl 2 rfl) ?_
    refine call_rS (As := [.int (iI ((B 6) a)), .int (iI lo), .int (iI hi)]) (rest := []) hx hb (hml.trans hl.1.symm) hown hts w lk_RX6_34 (t_X6_in l g ((B 6) a) lo hi (by omega) (by omega) (by omega)) [] rfl rfl rfl rfl (Nat.le_of_ble_eq_true rfl) ⟨Nat.le_of_ble_eq_true rfl, Nat.le_of_ble_eq_true rfl⟩ ⟨Nat.le_of_ble_eq_true rfl, Nat.le_of_ble_eq_true rfl⟩ dX6_isAt_22 ?_
    refine ri_ifb_eq (tgt := 32) hx hb dX6_isAt_25 (by decide) (fun c3 => ?_) (fun c3 => ?_)
    · refine ri_iconst hx hb dX6_isAt_32 ?_
      exact hend.2 _ (congrArg (fun z => some (Value.int (iI z))) (show (if a < B 10 0 ∧ lo ≤ B 6 a ∧ B 6 a ≤ hi then 1 else 0) = 0 from by omega)) ⟨_, rfl, (nz (by omega))⟩ _ _ dX6_isAt_33
    · refine ri_iconst hx hb dX6_isAt_28 ?_
      refine lv_goto (tgt := 33) hx hb dX6_isAt_29 (by decide) ?_
      exact hend.2 _ (congrArg (fun z => some (Value.int (iI z))) (show (if a < B 10 0 ∧ lo ≤ B 6 a ∧ B 6 a ≤ hi then 1 else 0) = 1 from by omega)) ⟨_, rfl, (nz (by omega))⟩ _ _ dX6_isAt_33

set_option maxHeartbeats 4000000 in
set_option maxRecDepth 100000 in
theorem t_X6_isSign (l : Launch) (g : GG) (b : Nat → Nat) (N : Int) (B : Nat → Int → Int) (X : Nat → Int → Int) (v : Int) (a : Int) (hW : WB N B) (hxa : X 3 0 = a) (ha : 0 ≤ a ∧ a ≤ 60) (h1 : 0 ≤ v ∧ v ≤ 127) (sz : Nat) : Met l yX6_isSign (wm yX6_isSign cX6_isSign 3 (some .boolean)) (rmm 2 0 0) (pW g (mo_ws g b B X) sz [.ref (b 0), .int (iI v)]) (qW g (mo_ws g b B X) (fun vv ww => (vv = some (.int (iI 1)) ∧ (a < B 10 0 ∧ B 6 a = v) ∧ ww = mo_ws g b B (upT X 3 (fun _ => a + 1))) ∨ (vv = some (.int (iI 0)) ∧ ¬ (a < B 10 0 ∧ B 6 a = v) ∧ ww = mo_ws g b B X))) 0 0 (va_A (mo_ws g b B X) sz) := by
  have hk := hW.k
  have hj := hW.j
  have htl := hW.tl
  have hrf := hW.rf
  have hTx := hW.tx
  have hrr := hW.rr
  have hW0 := hW.1
  refine met_w (by decide) (Nat.le_of_ble_eq_true rfl) ?_
  intro p e s m args below meth c Q ls A hx hb hml hown hts hl w hin hend
  obtain ⟨H, hH0⟩ : ∃ H, H = s.heap := ⟨_, rfl⟩
  obtain ⟨locs, hL0⟩ : ∃ locs : List Loc, locs = [] := ⟨_, rfl⟩
  rw [← hH0, ← hL0] at w
  rw [← hH0, ← hL0]
  have hl : lv_has ls 3 [(0, .ref (b 0)), (1, .int (iI v))] := hl
  refine lv_aload_n hx hb dX6_isSign_0 rfl (lv_at hl 0 rfl) ?_
  refine lv_iload_n hx hb dX6_isSign_1 rfl (lv_at hl 1 rfl) ?_
  refine lv_iload_n hx hb dX6_isSign_2 rfl (lv_at hl 1 rfl) ?_
  refine call_rV (As := [.int (iI v), .int (iI v)]) (rest := []) hx hb (hml.trans hl.1.symm) hown hts w lk_RX6_180 (t_X6_isAt l g b _ B X v v a hW (hxa) (by omega) (by omega) (by omega)) [0, 1, 2, 3, 4, 5, 6, 7, 8] rfl rfl (call_recv w (q0 := 0) rfl fX6.1) rfl rfl (Nat.le_of_ble_eq_true rfl) ⟨Nat.le_of_ble_eq_true rfl, Nat.le_of_ble_eq_true rfl⟩ ⟨Nat.le_of_ble_eq_true rfl, Nat.le_of_ble_eq_true rfl⟩ dX6_isSign_3 ?_
  refine lv_istore_n (lv' := [(2, .int (iI (if a < B 10 0 ∧ v ≤ B 6 a ∧ B 6 a ≤ v then 1 else 0))), (0, .ref (b 0)), (1, .int (iI v))]) hx hb dX6_isSign_6 rfl hl (by decide) rfl (fun ls hl => ?_)
  refine lv_aload_n hx hb dX6_isSign_7 rfl (lv_at hl 1 rfl) ?_
  refine lv_dup hx hb dX6_isSign_8 rfl ?_
  refine ri_get (v := .int (iI a)) hx hb hts hown w fX6 0 9 (W0_of k_fl_RX6_177 rfl) rfl (congrArg (fun z => some (Value.int (iI z))) (hxa)) (by decide) dX6_isSign_9 ?_
  refine lv_iload_n hx hb dX6_isSign_12 rfl (lv_at hl 0 rfl) ?_
  refine ri_ifb_eq (tgt := 20) hx hb dX6_isSign_13 (by decide) (fun c1 => ?_) (fun c1 => ?_)
  · refine ri_iconst hx hb dX6_isSign_20 ?_
    refine ri_iadd (z := a) hx hb dX6_isSign_21 (by omega) ?_
    refine ri_put hx hb hts hown w fX6 0 9 (W0_of k_fl_RX6_177 rfl) rfl (Nat.le_of_ble_eq_true rfl) (by decide) rfl rfl rfl dX6_isSign_22 (fun H locs w => ?_)
    have w : Wd g A (mo_ws g b B (upT X 3 (fun _ => a))) s H locs := w
    refine lv_iload_n hx hb dX6_isSign_25 rfl (lv_at hl 0 rfl) ?_
    have e8 : (if a < B 10 0 ∧ v ≤ B 6 a ∧ B 6 a ≤ v then (1 : Int) else 0) = 0 := if_neg c1
    exact hend.2 _ _ _ _ ⟨_, rfl, (nz (by omega))⟩ _ _ dX6_isSign_26 w (Or.inr ⟨by rw [e8], by omega, by rw [← hxa]; rfl⟩)
  · refine ri_iconst hx hb dX6_isSign_16 ?_
    refine lv_goto (tgt := 21) hx hb dX6_isSign_17 (by decide) ?_
    refine ri_iadd (z := a + 1) hx hb dX6_isSign_21 rfl ?_
    refine ri_put hx hb hts hown w fX6 0 9 (W0_of k_fl_RX6_177 rfl) rfl (Nat.le_of_ble_eq_true rfl) (by decide) rfl rfl rfl dX6_isSign_22 (fun H locs w => ?_)
    have w : Wd g A (mo_ws g b B (upT X 3 (fun _ => a + 1))) s H locs := w
    refine lv_iload_n hx hb dX6_isSign_25 rfl (lv_at hl 0 rfl) ?_
    have e8 : (if a < B 10 0 ∧ v ≤ B 6 a ∧ B 6 a ≤ v then (1 : Int) else 0) = 1 := if_pos c1
    exact hend.2 _ _ _ _ ⟨_, rfl, (nz (by omega))⟩ _ _ dX6_isSign_26 w (Or.inl ⟨by rw [e8], by omega, rfl⟩)

set_option maxHeartbeats 4000000 in
set_option maxRecDepth 100000 in
theorem t_X6_isNumber (l : Launch) (g : GG) (b : Nat → Nat) (N : Int) (B : Nat → Int → Int) (X : Nat → Int → Int) (lo : Int) (hi : Int) (a : Int) (hW : WB N B) (hxa : X 3 0 = a) (ha : 0 ≤ a ∧ a ≤ 60) (h1 : 0 ≤ lo ∧ lo ≤ 9) (h2 : 0 ≤ hi ∧ hi ≤ 99) (sz : Nat) : Met l yX6_isNumber (wm yX6_isNumber cX6_isNumber 3 (some .boolean)) (rmm 2 0 0) (pW g (mo_ws g b B X) sz [.ref (b 0), .int (iI lo), .int (iI hi)]) (qW g (mo_ws g b B X) (fun vv ww => (vv = some (.int (iI 1)) ∧ lo ≤ d_at (B 6) (B 10 0) a ∧ ww = mo_ws g b B (upT (upT X 4 (fun _ => n_val (B 6) (B 10 0) a hi)) 3 (fun _ => n_end (B 6) (B 10 0) a hi))) ∨ (vv = some (.int (iI 0)) ∧ ¬ lo ≤ d_at (B 6) (B 10 0) a ∧ ww = mo_ws g b B X))) 0 0 (va_A (mo_ws g b B X) sz) := by
  have hk := hW.k
  have hj := hW.j
  have htl := hW.tl
  have hrf := hW.rf
  have hTx := hW.tx
  have hrr := hW.rr
  have hW0 := hW.1
  refine met_w (by decide) (Nat.le_of_ble_eq_true rfl) ?_
  intro p e s m args below meth c Q ls A hx hb hml hown hts hl w hin hend
  obtain ⟨H, hH0⟩ : ∃ H, H = s.heap := ⟨_, rfl⟩
  obtain ⟨locs, hL0⟩ : ∃ locs : List Loc, locs = [] := ⟨_, rfl⟩
  rw [← hH0, ← hL0] at w
  rw [← hH0, ← hL0]
  have hl : lv_has ls 3 [(0, .ref (b 0)), (1, .int (iI lo)), (2, .int (iI hi))] := hl
  refine lv_aload_n hx hb dX6_isNumber_0 rfl (lv_at hl 0 rfl) ?_
  refine ri_bipush hx hb dX6_isNumber_1 (by decide) ?_
  refine lv_iload_n hx hb dX6_isNumber_3 rfl (lv_at hl 1 rfl) ?_
  refine ri_iadd (z := lo + 48) hx hb dX6_isNumber_4 (by omega) ?_
  refine ri_bipush hx hb dX6_isNumber_5 (by decide) ?_
  refine call_rV (As := [.int (iI (lo + 48)), .int (iI 57)]) (rest := []) hx hb (hml.trans hl.1.symm) hown hts w lk_RX6_180 (t_X6_isAt l g b _ B X (lo + 48) 57 a hW (hxa) (by omega) (by omega) (by omega)) [0, 1, 2, 3, 4, 5, 6, 7, 8] rfl rfl (call_recv w (q0 := 0) rfl fX6.1) rfl rfl (Nat.le_of_ble_eq_true rfl) ⟨Nat.le_of_ble_eq_true rfl, Nat.le_of_ble_eq_true rfl⟩ ⟨Nat.le_of_ble_eq_true rfl, Nat.le_of_ble_eq_true rfl⟩ dX6_isNumber_7 ?_
  refine ri_ifb_ne (tgt := 15) hx hb dX6_isNumber_10 (by decide) (fun c1 => ?_) (fun c1 => ?_)
  · refine lv_aload_n hx hb dX6_isNumber_15 rfl (lv_at hl 0 rfl) ?_
    refine lv_aload_n hx hb dX6_isNumber_16 rfl (lv_at hl 0 rfl) ?_
    refine ri_get (v := .ref (b 6)) hx hb hts hown w fX6 0 7 (W0_of k_fl_RX6_25 rfl) rfl rfl (by decide) dX6_isNumber_17 ?_
    refine lv_aload_n hx hb dX6_isNumber_20 rfl (lv_at hl 0 rfl) ?_
    refine ri_get (v := .int (iI a)) hx hb hts hown w fX6 0 9 (W0_of k_fl_RX6_177 rfl) rfl (congrArg (fun z => some (Value.int (iI z))) (hxa)) (by decide) dX6_isNumber_21 ?_
    refine ri_iald (f := B 6) (v := (B 6) a) hx hb w 6 rfl (by omega) (rfl) dX6_isNumber_24 (by omega) ?_
    have r2 := hTx.bd a
    refine ri_bipush hx hb dX6_isNumber_25 (by decide) ?_
    refine ri_isub (z := (B 6) a - 48) hx hb dX6_isNumber_27 rfl ?_
    refine ri_put hx hb hts hown w fX6 0 10 (W0_of k_fl_RX6_183 rfl) rfl (Nat.le_of_ble_eq_true rfl) (by decide) rfl rfl rfl dX6_isNumber_28 (fun H locs w => ?_)
    have w : Wd g A (mo_ws g b B (upT X 4 (fun _ => (B 6) a - 48))) s H locs := w
    refine lv_aload_n hx hb dX6_isNumber_31 rfl (lv_at hl 0 rfl) ?_
    refine lv_dup hx hb dX6_isNumber_32 rfl ?_
    refine ri_get (v := .int (iI a)) hx hb hts hown w fX6 0 9 (W0_of k_fl_RX6_177 rfl) rfl (congrArg (fun z => some (Value.int (iI z))) (hxa)) (by decide) dX6_isNumber_33 ?_
    refine ri_iconst hx hb dX6_isNumber_36 ?_
    refine ri_iadd (z := a + 1) hx hb dX6_isNumber_37 rfl ?_
    refine ri_put hx hb hts hown w fX6 0 9 (W0_of k_fl_RX6_177 rfl) rfl (Nat.le_of_ble_eq_true rfl) (by decide) rfl rfl rfl dX6_isNumber_38 (fun H locs w => ?_)
    have w : Wd g A (mo_ws g b B (upT (upT X 4 (fun _ => (B 6) a - 48)) 3 (fun _ => a + 1))) s H locs := w
    refine lv_aload_n hx hb dX6_isNumber_41 rfl (lv_at hl 0 rfl) ?_
    refine ri_get (v := .int (iI ((B 6) a - 48))) hx hb hts hown w fX6 0 10 (W0_of k_fl_RX6_183 rfl) rfl rfl (by decide) dX6_isNumber_42 ?_
    refine ri_if_le (tgt := 117) hx hb dX6_isNumber_45 (by decide) (by omega) (fun c3 => ?_) (fun c3 => ?_)
    · refine ri_iconst hx hb dX6_isNumber_117 ?_
      have e5 : n_val (B 6) (B 10 0) a hi = (B 6) a - 48 := by simp only [n_val, N_two, d_at]; omega
      have e4 : n_end (B 6) (B 10 0) a hi = a + 1 := by simp only [n_end, N_two, d_at]; omega
      exact hend.2 _ _ _ _ ⟨_, rfl, (nz (by omega))⟩ _ _ dX6_isNumber_118 w (Or.inl ⟨rfl, by unfold d_at; omega, by rw [e5, e4]⟩)
    · refine lv_aload_n hx hb dX6_isNumber_48 rfl (lv_at hl 0 rfl) ?_
      refine ri_bipush hx hb dX6_isNumber_49 (by decide) ?_
      refine ri_bipush hx hb dX6_isNumber_51 (by decide) ?_
      refine call_rV (As := [.int (iI 48), .int (iI 57)]) (rest := []) hx hb (hml.trans hl.1.symm) hown hts w lk_RX6_180 (t_X6_isAt l g b _ B (upT (upT X 4 (fun _ => (B 6) a - 48)) 3 (fun _ => a + 1)) 48 57 (a + 1) hW (rfl) (by omega) (by omega) (by omega)) [0, 1, 2, 3, 4, 5, 6, 7, 8] rfl rfl (call_recv w (q0 := 0) rfl fX6.1) rfl rfl (Nat.le_of_ble_eq_true rfl) ⟨Nat.le_of_ble_eq_true rfl, Nat.le_of_ble_eq_true rfl⟩ ⟨Nat.le_of_ble_eq_true rfl, Nat.le_of_ble_eq_true rfl⟩ dX6_isNumber_53 ?_
      refine ri_ifb_eq (tgt := 117) hx hb dX6_isNumber_56 (by decide) (fun c4 => ?_) (fun c4 => ?_)
      · refine ri_iconst hx hb dX6_isNumber_117 ?_
        have e5 : n_val (B 6) (B 10 0) a hi = (B 6) a - 48 := by simp only [n_val, N_two, d_at]; omega
        have e4 : n_end (B 6) (B 10 0) a hi = a + 1 := by simp only [n_end, N_two, d_at]; omega
        exact hend.2 _ _ _ _ ⟨_, rfl, (nz (by omega))⟩ _ _ dX6_isNumber_118 w (Or.inl ⟨rfl, by unfold d_at; omega, by rw [e5, e4]⟩)
      · refine ri_bipush hx hb dX6_isNumber_59 (by decide) ?_
        refine lv_aload_n hx hb dX6_isNumber_61 rfl (lv_at hl 0 rfl) ?_
        refine ri_get (v := .int (iI ((B 6) a - 48))) hx hb hts hown w fX6 0 10 (W0_of k_fl_RX6_183 rfl) rfl rfl (by decide) dX6_isNumber_62 ?_
        refine ri_imul (z := 10 * (B 6) a - 480) hx hb dX6_isNumber_65 (by omega) ?_
        refine lv_aload_n hx hb dX6_isNumber_66 rfl (lv_at hl 0 rfl) ?_
        refine ri_get (v := .ref (b 6)) hx hb hts hown w fX6 0 7 (W0_of k_fl_RX6_25 rfl) rfl rfl (by decide) dX6_isNumber_67 ?_
        refine lv_aload_n hx hb dX6_isNumber_70 rfl (lv_at hl 0 rfl) ?_
        refine ri_get (v := .int (iI (a + 1))) hx hb hts hown w fX6 0 9 (W0_of k_fl_RX6_177 rfl) rfl rfl (by decide) dX6_isNumber_71 ?_
        refine ri_iald (f := B 6) (v := (B 6) (a + 1)) hx hb w 6 rfl (by omega) (rfl) dX6_isNumber_74 (by omega) ?_
        have r5 := hTx.bd (a + 1)
        refine ri_iadd (z := (B 6) (a + 1) + 10 * (B 6) a - 480) hx hb dX6_isNumber_75 (by omega) ?_
        refine ri_bipush hx hb dX6_isNumber_76 (by decide) ?_
        refine ri_isub (z := (B 6) (a + 1) + 10 * (B 6) a - 528) hx hb dX6_isNumber_78 (by omega) ?_
        refine lv_iload_n hx hb dX6_isNumber_79 rfl (lv_at hl 2 rfl) ?_
        refine ri_icmp_gt (tgt := 117) hx hb dX6_isNumber_80 (by decide) (by omega) (by omega) (fun c6 => ?_) (fun c6 => ?_)
        · refine ri_iconst hx hb dX6_isNumber_117 ?_
          have e5 : n_val (B 6) (B 10 0) a hi = (B 6) a - 48 := by simp only [n_val, N_two, d_at]; omega
          have e4 : n_end (B 6) (B 10 0) a hi = a + 1 := by simp only [n_end, N_two, d_at]; omega
          exact hend.2 _ _ _ _ ⟨_, rfl, (nz (by omega))⟩ _ _ dX6_isNumber_118 w (Or.inl ⟨rfl, by unfold d_at; omega, by rw [e5, e4]⟩)
        · refine lv_aload_n hx hb dX6_isNumber_83 rfl (lv_at hl 0 rfl) ?_
          refine ri_bipush hx hb dX6_isNumber_84 (by decide) ?_
          refine lv_aload_n hx hb dX6_isNumber_86 rfl (lv_at hl 0 rfl) ?_
          refine ri_get (v := .int (iI ((B 6) a - 48))) hx hb hts hown w fX6 0 10 (W0_of k_fl_RX6_183 rfl) rfl rfl (by decide) dX6_isNumber_87 ?_
          refine ri_imul (z := 10 * (B 6) a - 480) hx hb dX6_isNumber_90 (by omega) ?_
          refine lv_aload_n hx hb dX6_isNumber_91 rfl (lv_at hl 0 rfl) ?_
          refine ri_get (v := .ref (b 6)) hx hb hts hown w fX6 0 7 (W0_of k_fl_RX6_25 rfl) rfl rfl (by decide) dX6_isNumber_92 ?_
          refine lv_aload_n hx hb dX6_isNumber_95 rfl (lv_at hl 0 rfl) ?_
          refine ri_get (v := .int (iI (a + 1))) hx hb hts hown w fX6 0 9 (W0_of k_fl_RX6_177 rfl) rfl rfl (by decide) dX6_isNumber_96 ?_
          refine ri_iald (f := B 6) (v := (B 6) (a + 1)) hx hb w 6 rfl (by omega) (rfl) dX6_isNumber_99 (by omega) ?_
          refine ri_iadd (z := (B 6) (a + 1) + 10 * (B 6) a - 480) hx hb dX6_isNumber_100 (by omega) ?_
          refine ri_bipush hx hb dX6_isNumber_101 (by decide) ?_
          refine ri_isub (z := (B 6) (a + 1) + 10 * (B 6) a - 528) hx hb dX6_isNumber_103 (by omega) ?_
          refine ri_put hx hb hts hown w fX6 0 10 (W0_of k_fl_RX6_183 rfl) rfl (Nat.le_of_ble_eq_true rfl) (by decide) rfl rfl rfl dX6_isNumber_104 (fun H locs w => ?_)
          have w : Wd g A (mo_ws g b B (upT (upT X 3 (fun _ => a + 1)) 4 (fun _ => (B 6) (a + 1) + 10 * (B 6) a - 528))) s H locs := w
          refine lv_aload_n hx hb dX6_isNumber_107 rfl (lv_at hl 0 rfl) ?_
          refine lv_dup hx hb dX6_isNumber_108 rfl ?_
          refine ri_get (v := .int (iI (a + 1))) hx hb hts hown w fX6 0 9 (W0_of k_fl_RX6_177 rfl) rfl rfl (by decide) dX6_isNumber_109 ?_
          refine ri_iconst hx hb dX6_isNumber_112 ?_
          refine ri_iadd (z := a + 2) hx hb dX6_isNumber_113 (by omega) ?_
          refine ri_put hx hb hts hown w fX6 0 9 (W0_of k_fl_RX6_177 rfl) rfl (Nat.le_of_ble_eq_true rfl) (by decide) rfl rfl rfl dX6_isNumber_114 (fun H locs w => ?_)
          have w : Wd g A (mo_ws g b B (upT (upT X 4 (fun _ => (B 6) (a + 1) + 10 * (B 6) a - 528)) 3 (fun _ => a + 2))) s H locs := w
          refine ri_iconst hx hb dX6_isNumber_117 ?_
          have e5 : n_val (B 6) (B 10 0) a hi = (B 6) (a + 1) + 10 * (B 6) a - 528 := by simp only [n_val, N_two, d_at]; omega
          have e4 : n_end (B 6) (B 10 0) a hi = a + 2 := by simp only [n_end, N_two, d_at]; omega
          exact hend.2 _ _ _ _ ⟨_, rfl, (nz (by omega))⟩ _ _ dX6_isNumber_118 w (Or.inl ⟨rfl, by unfold d_at; omega, by rw [e5, e4]⟩)
  · refine ri_iconst hx hb dX6_isNumber_13 ?_
    exact hend.2 _ _ _ _ ⟨_, rfl, (nz (by omega))⟩ _ _ dX6_isNumber_14 w (Or.inr ⟨rfl, by unfold d_at; omega, rfl⟩)

set_option maxHeartbeats 4000000 in
set_option maxRecDepth 100000 in
theorem t_X6_isOrder (l : Launch) (g : GG) (b : Nat → Nat) (N : Int) (B : Nat → Int → Int) (X : Nat → Int → Int) (a : Int) (mm : Int) (hW : WB N B) (hxa : X 3 0 = a) (hxm : X 6 0 = mm) (ha : 0 ≤ a ∧ a ≤ 60) (hm : 0 ≤ mm ∧ mm ≤ 25) (sz : Nat) : Met l yX6_isOrder (wm yX6_isOrder cX6_isOrder 3 (some .boolean)) (rmm 3 0 0) (pW g (mo_ws g b B X) sz [.ref (b 0)]) (qW g (mo_ws g b B X) (fun vv ww => (vv = some (.int (iI 1)) ∧ O_ok (B 6) (B 10 0) a ∧ ∃ X', ww = mo_ws g b B X' ∧ X' 2 = X 2 ∧ X' 3 0 = o_end (B 6) (B 10 0) a ∧ X' 6 0 = mm ∧ (∀ i, X' 5 i = if i = 3 * mm then B 6 a else if i = 3 * mm + 1 then o_arg (B 6) (B 10 0) a else if i = 3 * mm + 2 then o_rep (B 6) (B 10 0) a else X 5 i)) ∨ (vv = some (.int (iI 0)) ∧ ¬ O_ok (B 6) (B 10 0) a ∧ ∃ X', ww = mo_ws g b B X' ∧ X' 2 = X 2 ∧ X' 3 0 = o_end (B 6) (B 10 0) a ∧ X' 6 0 = mm))) 0 0 (va_A (mo_ws g b B X) sz) := by
  have hk := hW.k
  have hj := hW.j
  have htl := hW.tl
  have hrf := hW.rf
  have hTx := hW.tx
  have hrr := hW.rr
  have hW0 := hW.1
  refine met_w (by decide) (Nat.le_of_ble_eq_true rfl) ?_
  intro p e s m args below meth c Q ls A hx hb hml hown hts hl w hin hend
  obtain ⟨H, hH0⟩ : ∃ H, H = s.heap := ⟨_, rfl⟩
  obtain ⟨locs, hL0⟩ : ∃ locs : List Loc, locs = [] := ⟨_, rfl⟩
  rw [← hH0, ← hL0] at w
  rw [← hH0, ← hL0]
  have hl : lv_has ls 3 [(0, .ref (b 0))] := hl
  refine lv_aload_n hx hb dX6_isOrder_0 rfl (lv_at hl 0 rfl) ?_
  refine ri_get (v := .int (iI a)) hx hb hts hown w fX6 0 9 (W0_of k_fl_RX6_177 rfl) rfl (congrArg (fun z => some (Value.int (iI z))) (hxa)) (by decide) dX6_isOrder_1 ?_
  refine lv_aload_n hx hb dX6_isOrder_4 rfl (lv_at hl 0 rfl) ?_
  refine ri_get (v := .int (iI (B 10 0))) hx hb hts hown w fX6 0 8 (W0_of k_fl_RX6_174 rfl) rfl rfl (by decide) dX6_isOrder_5 ?_
  refine ri_icmp_ge (tgt := 23) hx hb dX6_isOrder_8 (by decide) (by omega) (by omega) (fun c1 => ?_) (fun c1 => ?_)
  · refine ri_iconst hx hb dX6_isOrder_23 ?_
    refine lv_istore_n (lv' := [(1, .int (iI 0)), (0, .ref (b 0))]) hx hb dX6_isOrder_24 rfl hl (by decide) rfl (fun ls hl => ?_)
    refine lv_iload_n hx hb dX6_isOrder_25 rfl (lv_at hl 0 rfl) ?_
    refine ri_bipush hx hb dX6_isOrder_26 (by decide) ?_
    refine ri_icmp_eq (tgt := 45) hx hb dX6_isOrder_28 (by decide) (by omega) (by omega) (fun c2 => ?_) (fun c2 => ?_)
    · exact absurd c2 (by omega)
    refine lv_iload_n hx hb dX6_isOrder_31 rfl (lv_at hl 0 rfl) ?_
    refine ri_bipush hx hb dX6_isOrder_32 (by decide) ?_
    refine ri_icmp_eq (tgt := 45) hx hb dX6_isOrder_34 (by decide) (by omega) (by omega) (fun c3 => ?_) (fun c3 => ?_)
    · exact absurd c3 (by omega)
    refine lv_iload_n hx hb dX6_isOrder_37 rfl (lv_at hl 0 rfl) ?_
    refine ri_bipush hx hb dX6_isOrder_38 (by decide) ?_
    refine ri_icmp_eq (tgt := 45) hx hb dX6_isOrder_40 (by decide) (by omega) (by omega) (fun c4 => ?_) (fun c4 => ?_)
    · exact absurd c4 (by omega)
    refine ri_iconst hx hb dX6_isOrder_43 ?_
    have hL : ¬ O_let (B 6) (B 10 0) a := by rintro ⟨q1, q2⟩; omega
    exact hend.2 _ _ _ _ ⟨_, rfl, (nz (by omega))⟩ _ _ dX6_isOrder_44 w (Or.inr ⟨rfl, fun hh => hL hh.1, X, rfl, rfl, hxa.trans (o_end_0 hL).symm, hxm⟩)
  · refine lv_aload_n hx hb dX6_isOrder_11 rfl (lv_at hl 0 rfl) ?_
    refine ri_get (v := .ref (b 6)) hx hb hts hown w fX6 0 7 (W0_of k_fl_RX6_25 rfl) rfl rfl (by decide) dX6_isOrder_12 ?_
    refine lv_aload_n hx hb dX6_isOrder_15 rfl (lv_at hl 0 rfl) ?_
    refine ri_get (v := .int (iI a)) hx hb hts hown w fX6 0 9 (W0_of k_fl_RX6_177 rfl) rfl (congrArg (fun z => some (Value.int (iI z))) (hxa)) (by decide) dX6_isOrder_16 ?_
    refine ri_iald (f := B 6) (v := (B 6) a) hx hb w 6 rfl (by omega) (rfl) dX6_isOrder_19 (by omega) ?_
    have r5 := hTx.bd a
    refine lv_goto (tgt := 24) hx hb dX6_isOrder_20 (by decide) ?_
    refine lv_istore_n (lv' := [(1, .int (iI ((B 6) a))), (0, .ref (b 0))]) hx hb dX6_isOrder_24 rfl hl (by decide) rfl (fun ls hl => ?_)
    refine lv_iload_n hx hb dX6_isOrder_25 rfl (lv_at hl 0 rfl) ?_
    refine ri_bipush hx hb dX6_isOrder_26 (by decide) ?_
    refine ri_icmp_eq (tgt := 45) hx hb dX6_isOrder_28 (by decide) (by omega) (by omega) (fun c6 => ?_) (fun c6 => ?_)
    · refine lv_aload_n hx hb dX6_isOrder_45 rfl (lv_at hl 1 rfl) ?_
      refine lv_dup hx hb dX6_isOrder_46 rfl ?_
      refine ri_get (v := .int (iI a)) hx hb hts hown w fX6 0 9 (W0_of k_fl_RX6_177 rfl) rfl (congrArg (fun z => some (Value.int (iI z))) (hxa)) (by decide) dX6_isOrder_47 ?_
      refine ri_iconst hx hb dX6_isOrder_50 ?_
      refine ri_iadd (z := a + 1) hx hb dX6_isOrder_51 rfl ?_
      refine ri_put hx hb hts hown w fX6 0 9 (W0_of k_fl_RX6_177 rfl) rfl (Nat.le_of_ble_eq_true rfl) (by decide) rfl rfl rfl dX6_isOrder_52 (fun H locs w => ?_)
      have w : Wd g A (mo_ws g b B (upT X 3 (fun _ => a + 1))) s H locs := w
      refine lv_iload_n hx hb dX6_isOrder_55 rfl (lv_at hl 0 rfl) ?_
      refine ri_bipush hx hb dX6_isOrder_56 (by decide) ?_
      refine ri_icmp_ne (tgt := 65) hx hb dX6_isOrder_58 (by decide) (by omega) (by omega) (fun c7 => ?_) (fun c7 => ?_)
      · refine ri_iconst hx hb dX6_isOrder_65 ?_
        refine lv_istore_n (lv' := [(2, .int (iI 0)), (1, .int (iI ((B 6) a))), (0, .ref (b 0))]) hx hb dX6_isOrder_66 rfl hl (by decide) rfl (fun ls hl => ?_)
        refine lv_aload_n hx hb dX6_isOrder_67 rfl (lv_at hl 2 rfl) ?_
        refine lv_iload_n hx hb dX6_isOrder_68 rfl (lv_at hl 0 rfl) ?_
        refine ri_if_eq (tgt := 76) hx hb dX6_isOrder_69 (by decide) (by omega) (fun c8 => ?_) (fun c8 => ?_)
        · refine ri_iconst hx hb dX6_isOrder_76 ?_
          refine lv_iload_n hx hb dX6_isOrder_77 rfl (lv_at hl 0 rfl) ?_
          refine ri_if_eq (tgt := 86) hx hb dX6_isOrder_78 (by decide) (by omega) (fun c9 => ?_) (fun c9 => ?_)
          · refine ri_bipush hx hb dX6_isOrder_86 (by decide) ?_
            refine call_wV (wr := []) (As := [.int (iI 0), .int (iI 23)]) (rest := []) hx hb (hml.trans hl.1.symm) hown hts w lk_RX6_186 (fun sz => t_X6_isNumber l g b _ B (upT X 3 (fun _ => a + 1)) 0 23 (a + 1) hW (rfl) (by omega) (by omega) (by omega) sz) [0, 1, 2, 3, 4, 5, 6, 7, 8] [] rfl rfl rfl rfl (by decide) (call_recv w (q0 := 0) rfl fX6.1) rfl rfl (Nat.le_of_ble_eq_true rfl) ⟨Nat.le_of_ble_eq_true rfl, Nat.le_of_ble_eq_true rfl⟩ ⟨Nat.le_of_ble_eq_true rfl, Nat.le_of_ble_eq_true rfl⟩ dX6_isOrder_88 (fun v w1 H locs hr w => ?_)
            rcases hr with ⟨rfl, c10, rfl⟩ | ⟨rfl, c10, rfl⟩
            · have w : Wd g A (mo_ws g b B (upT (upT X 4 (fun _ => n_val (B 6) (B 10 0) (a + 1) 23)) 3 (fun _ => n_end (B 6) (B 10 0) (a + 1) 23))) s H locs := w
              have qc10 := n_end_rg (t := B 6) (n := B 10 0) (a := a + 1) (hi := 23) (by omega)
              have vc10 := n_val_rg (t := B 6) (n := B 10 0) (a := a + 1) (hi := 23) (by omega)
              refine ri_if_ne (tgt := 96) hx hb dX6_isOrder_91 (by decide) (by omega) (fun c11 => ?_) (fun c11 => ?_)
              · refine lv_aload_n hx hb dX6_isOrder_96 rfl (lv_at hl 2 rfl) ?_
                refine ri_get (v := .ref (b 7)) hx hb hts hown w fX6 0 11 (W0_of k_fl_RX6_28 rfl) rfl rfl (by decide) dX6_isOrder_97 ?_
                refine ri_iconst hx hb dX6_isOrder_100 ?_
                refine lv_aload_n hx hb dX6_isOrder_101 rfl (lv_at hl 2 rfl) ?_
                refine ri_get (v := .int (iI mm)) hx hb hts hown w fX6 0 12 (W0_of k_fl_RX6_189 rfl) rfl (congrArg (fun z => some (Value.int (iI z))) (hxm)) (by decide) dX6_isOrder_102 ?_
                refine ri_imul (z := 3 * mm) hx hb dX6_isOrder_105 rfl ?_
                refine lv_iload_n hx hb dX6_isOrder_106 rfl (lv_at hl 1 rfl) ?_
                refine ri_iast hx hb w 7 rfl (by omega) dX6_isOrder_107 (by omega) (fun H locs w => ?_)
                have w : Wd g A (mo_ws g b B (upT (upT (upT X 4 (fun _ => n_val (B 6) (B 10 0) (a + 1) 23)) 3 (fun _ => n_end (B 6) (B 10 0) (a + 1) 23)) 5 (up (X 5) (3 * mm) ((B 6) a)))) s H locs := w
                refine lv_aload_n hx hb dX6_isOrder_108 rfl (lv_at hl 2 rfl) ?_
                refine ri_get (v := .ref (b 7)) hx hb hts hown w fX6 0 11 (W0_of k_fl_RX6_28 rfl) rfl rfl (by decide) dX6_isOrder_109 ?_
                refine ri_iconst hx hb dX6_isOrder_112 ?_
                refine lv_aload_n hx hb dX6_isOrder_113 rfl (lv_at hl 2 rfl) ?_
                refine ri_get (v := .int (iI mm)) hx hb hts hown w fX6 0 12 (W0_of k_fl_RX6_189 rfl) rfl (congrArg (fun z => some (Value.int (iI z))) (hxm)) (by decide) dX6_isOrder_114 ?_
                refine ri_imul (z := 3 * mm) hx hb dX6_isOrder_117 rfl ?_
                refine ri_iconst hx hb dX6_isOrder_118 ?_
                refine ri_iadd (z := 3 * mm + 1) hx hb dX6_isOrder_119 rfl ?_
                refine lv_aload_n hx hb dX6_isOrder_120 rfl (lv_at hl 2 rfl) ?_
                refine ri_get (v := .int (iI (n_val (B 6) (B 10 0) (a + 1) 23))) hx hb hts hown w fX6 0 10 (W0_of k_fl_RX6_183 rfl) rfl rfl (by decide) dX6_isOrder_121 ?_
                refine ri_iast hx hb w 7 rfl (by omega) dX6_isOrder_124 (by omega) (fun H locs w => ?_)
                have w : Wd g A (mo_ws g b B (upT (upT (upT X 4 (fun _ => n_val (B 6) (B 10 0) (a + 1) 23)) 3 (fun _ => n_end (B 6) (B 10 0) (a + 1) 23)) 5 (up (up (X 5) (3 * mm) ((B 6) a)) (3 * mm + 1) (n_val (B 6) (B 10 0) (a + 1) 23)))) s H locs := w
                refine lv_aload_n hx hb dX6_isOrder_125 rfl (lv_at hl 2 rfl) ?_
                refine ri_get (v := .ref (b 7)) hx hb hts hown w fX6 0 11 (W0_of k_fl_RX6_28 rfl) rfl rfl (by decide) dX6_isOrder_126 ?_
                refine ri_iconst hx hb dX6_isOrder_129 ?_
                refine lv_aload_n hx hb dX6_isOrder_130 rfl (lv_at hl 2 rfl) ?_
                refine ri_get (v := .int (iI mm)) hx hb hts hown w fX6 0 12 (W0_of k_fl_RX6_189 rfl) rfl (congrArg (fun z => some (Value.int (iI z))) (hxm)) (by decide) dX6_isOrder_131 ?_
                refine ri_imul (z := 3 * mm) hx hb dX6_isOrder_134 rfl ?_
                refine ri_iconst hx hb dX6_isOrder_135 ?_
                refine ri_iadd (z := 3 * mm + 2) hx hb dX6_isOrder_136 rfl ?_
                refine ri_iconst hx hb dX6_isOrder_137 ?_
                refine ri_iast hx hb w 7 rfl (by omega) dX6_isOrder_138 (by omega) (fun H locs w => ?_)
                have w : Wd g A (mo_ws g b B (upT (upT (upT X 4 (fun _ => n_val (B 6) (B 10 0) (a + 1) 23)) 3 (fun _ => n_end (B 6) (B 10 0) (a + 1) 23)) 5 (up (up (up (X 5) (3 * mm) ((B 6) a)) (3 * mm + 1) (n_val (B 6) (B 10 0) (a + 1) 23)) (3 * mm + 2) 1))) s H locs := w
                refine lv_iload_n hx hb dX6_isOrder_139 rfl (lv_at hl 1 rfl) ?_
                refine ri_bipush hx hb dX6_isOrder_140 (by decide) ?_
                refine ri_icmp_ne (tgt := 183) hx hb dX6_isOrder_142 (by decide) (by omega) (by omega) (fun c12 => ?_) (fun c12 => ?_)
                · exact absurd c12 (by omega)
                refine lv_aload_n hx hb dX6_isOrder_145 rfl (lv_at hl 2 rfl) ?_
                refine ri_bipush hx hb dX6_isOrder_146 (by decide) ?_
                refine call_wV (wr := []) (As := [.int (iI 42)]) (rest := []) hx hb (hml.trans hl.1.symm) hown hts w lk_RX6_192 (fun sz => t_X6_isSign l g b _ B (upT (upT (upT X 4 (fun _ => n_val (B 6) (B 10 0) (a + 1) 23)) 3 (fun _ => n_end (B 6) (B 10 0) (a + 1) 23)) 5 (up (up (up (X 5) (3 * mm) ((B 6) a)) (3 * mm + 1) (n_val (B 6) (B 10 0) (a + 1) 23)) (3 * mm + 2) 1)) 42 (n_end (B 6) (B 10 0) (a + 1) 23) hW (rfl) (by omega) (by omega) sz) [0, 1, 2, 3, 4, 5, 6, 7, 8] [] rfl rfl rfl rfl (by decide) (call_recv w (q0 := 0) rfl fX6.1) rfl rfl (Nat.le_of_ble_eq_true rfl) ⟨Nat.le_of_ble_eq_true rfl, Nat.le_of_ble_eq_true rfl⟩ ⟨Nat.le_of_ble_eq_true rfl, Nat.le_of_ble_eq_true rfl⟩ dX6_isOrder_148 (fun v w1 H locs hr w => ?_)
                rcases hr with ⟨rfl, c13, rfl⟩ | ⟨rfl, c13, rfl⟩
                · have w : Wd g A (mo_ws g b B (upT (upT (upT X 4 (fun _ => n_val (B 6) (B 10 0) (a + 1) 23)) 5 (up (up (up (X 5) (3 * mm) ((B 6) a)) (3 * mm + 1) (n_val (B 6) (B 10 0) (a + 1) 23)) (3 * mm + 2) 1)) 3 (fun _ => n_end (B 6) (B 10 0) (a + 1) 23 + 1))) s H locs := w
                  refine ri_if_eq (tgt := 183) hx hb dX6_isOrder_151 (by decide) (by omega) (fun c14 => ?_) (fun c14 => ?_)
                  · exact absurd c14 (by omega)
                  refine lv_aload_n hx hb dX6_isOrder_154 rfl (lv_at hl 2 rfl) ?_
                  refine ri_iconst hx hb dX6_isOrder_155 ?_
                  refine ri_bipush hx hb dX6_isOrder_156 (by decide) ?_
                  refine call_wV (wr := []) (As := [.int (iI 1), .int (iI 99)]) (rest := []) hx hb (hml.trans hl.1.symm) hown hts w lk_RX6_186 (fun sz => t_X6_isNumber l g b _ B (upT (upT (upT X 4 (fun _ => n_val (B 6) (B 10 0) (a + 1) 23)) 5 (up (up (up (X 5) (3 * mm) ((B 6) a)) (3 * mm + 1) (n_val (B 6) (B 10 0) (a + 1) 23)) (3 * mm + 2) 1)) 3 (fun _ => n_end (B 6) (B 10 0) (a + 1) 23 + 1)) 1 99 (n_end (B 6) (B 10 0) (a + 1) 23 + 1) hW (rfl) (by omega) (by omega) (by omega) sz) [0, 1, 2, 3, 4, 5, 6, 7, 8] [] rfl rfl rfl rfl (by decide) (call_recv w (q0 := 0) rfl fX6.1) rfl rfl (Nat.le_of_ble_eq_true rfl) ⟨Nat.le_of_ble_eq_true rfl, Nat.le_of_ble_eq_true rfl⟩ ⟨Nat.le_of_ble_eq_true rfl, Nat.le_of_ble_eq_true rfl⟩ dX6_isOrder_158 (fun v w1 H locs hr w => ?_)
                  rcases hr with ⟨rfl, c15, rfl⟩ | ⟨rfl, c15, rfl⟩
                  · have w : Wd g A (mo_ws g b B (upT (upT (upT X 5 (up (up (up (X 5) (3 * mm) ((B 6) a)) (3 * mm + 1) (n_val (B 6) (B 10 0) (a + 1) 23)) (3 * mm + 2) 1)) 4 (fun _ => n_val (B 6) (B 10 0) (n_end (B 6) (B 10 0) (a + 1) 23 + 1) 99)) 3 (fun _ => n_end (B 6) (B 10 0) (n_end (B 6) (B 10 0) (a + 1) 23 + 1) 99))) s H locs := w
                    have qc15 := n_end_rg (t := B 6) (n := B 10 0) (a := n_end (B 6) (B 10 0) (a + 1) 23 + 1) (hi := 99) (by omega)
                    have vc15 := n_val_rg (t := B 6) (n := B 10 0) (a := n_end (B 6) (B 10 0) (a + 1) 23 + 1) (hi := 99) (by omega)
                    refine ri_if_ne (tgt := 166) hx hb dX6_isOrder_161 (by decide) (by omega) (fun c16 => ?_) (fun c16 => ?_)
                    · refine lv_aload_n hx hb dX6_isOrder_166 rfl (lv_at hl 2 rfl) ?_
                      refine ri_get (v := .ref (b 7)) hx hb hts hown w fX6 0 11 (W0_of k_fl_RX6_28 rfl) rfl rfl (by decide) dX6_isOrder_167 ?_
                      refine ri_iconst hx hb dX6_isOrder_170 ?_
                      refine lv_aload_n hx hb dX6_isOrder_171 rfl (lv_at hl 2 rfl) ?_
                      refine ri_get (v := .int (iI mm)) hx hb hts hown w fX6 0 12 (W0_of k_fl_RX6_189 rfl) rfl (congrArg (fun z => some (Value.int (iI z))) (hxm)) (by decide) dX6_isOrder_172 ?_
                      refine ri_imul (z := 3 * mm) hx hb dX6_isOrder_175 rfl ?_
                      refine ri_iconst hx hb dX6_isOrder_176 ?_
                      refine ri_iadd (z := 3 * mm + 2) hx hb dX6_isOrder_177 rfl ?_
                      refine lv_aload_n hx hb dX6_isOrder_178 rfl (lv_at hl 2 rfl) ?_
                      refine ri_get (v := .int (iI (n_val (B 6) (B 10 0) (n_end (B 6) (B 10 0) (a + 1) 23 + 1) 99))) hx hb hts hown w fX6 0 10 (W0_of k_fl_RX6_183 rfl) rfl rfl (by decide) dX6_isOrder_179 ?_
                      refine ri_iast hx hb w 7 rfl (by omega) dX6_isOrder_182 (by omega) (fun H locs w => ?_)
                      have w : Wd g A (mo_ws g b B (upT (upT (upT X 4 (fun _ => n_val (B 6) (B 10 0) (n_end (B 6) (B 10 0) (a + 1) 23 + 1) 99)) 3 (fun _ => n_end (B 6) (B 10 0) (n_end (B 6) (B 10 0) (a + 1) 23 + 1) 99)) 5 (up (up (up (up (X 5) (3 * mm) ((B 6) a)) (3 * mm + 1) (n_val (B 6) (B 10 0) (a + 1) 23)) (3 * mm + 2) 1) (3 * mm + 2) (n_val (B 6) (B 10 0) (n_end (B 6) (B 10 0) (a + 1) 23 + 1) 99)))) s H locs := w
                      refine ri_iconst hx hb dX6_isOrder_183 ?_
                      have hL : O_let (B 6) (B 10 0) a := by refine ⟨by omega, ?_⟩; omega
                      have elo : o_lo (B 6) a = 0 := by unfold o_lo; omega
                      have ehi : o_hi (B 6) a = 23 := by unfold o_hi; omega
                      have hN : O_num (B 6) (B 10 0) a := by show o_lo (B 6) a ≤ _; rw [elo]; assumption
                      have e1 : o_e1 (B 6) (B 10 0) a = n_end (B 6) (B 10 0) (a + 1) 23 := by unfold o_e1; rw [ehi]
                      have e2 : o_arg (B 6) (B 10 0) a = n_val (B 6) (B 10 0) (a + 1) 23 := by unfold o_arg; rw [ehi]
                      have hS : O_star (B 6) (B 10 0) a := by rw [show O_star (B 6) (B 10 0) a = (B 6 a = 114 ∧ o_e1 (B 6) (B 10 0) a < B 10 0 ∧ B 6 (o_e1 (B 6) (B 10 0) a) = 42) from rfl, e1]; omega
                      have hR : O_rep (B 6) (B 10 0) a := by show 1 ≤ d_at _ _ (o_e1 (B 6) (B 10 0) a + 1); rw [e1]; assumption
                      have e3 : o_rep (B 6) (B 10 0) a = n_val (B 6) (B 10 0) (n_end (B 6) (B 10 0) (a + 1) 23 + 1) 99 := by unfold o_rep; rw [if_pos hS, e1]
                      exact hend.2 _ _ _ _ ⟨_, rfl, (nz (by omega))⟩ _ _ dX6_isOrder_184 w (Or.inl ⟨rfl, ⟨hL, hN, fun _ => hR⟩, (upT (upT (upT X 4 (fun _ => n_val (B 6) (B 10 0) (n_end (B 6) (B 10 0) (a + 1) 23 + 1) 99)) 3 (fun _ => n_end (B 6) (B 10 0) (n_end (B 6) (B 10 0) (a + 1) 23 + 1) 99)) 5 (up (up (up (up (X 5) (3 * mm) ((B 6) a)) (3 * mm + 1) (n_val (B 6) (B 10 0) (a + 1) 23)) (3 * mm + 2) 1) (3 * mm + 2) (n_val (B 6) (B 10 0) (n_end (B 6) (B 10 0) (a + 1) 23 + 1) 99))), rfl, rfl, ((o_end_4 hL hN hS hR).trans (by rw [e1]; rfl)).symm, hxm, fun i => by rw [e2, e3]; show (up (up (up (up (X 5) (3 * mm) ((B 6) a)) (3 * mm + 1) (n_val (B 6) (B 10 0) (a + 1) 23)) (3 * mm + 2) 1) (3 * mm + 2) (n_val (B 6) (B 10 0) (n_end (B 6) (B 10 0) (a + 1) 23 + 1) 99)) i = _; unfold up; omega⟩)
                    · exact absurd c16 (by omega)
                  · have w : Wd g A (mo_ws g b B (upT (upT (upT X 4 (fun _ => n_val (B 6) (B 10 0) (a + 1) 23)) 5 (up (up (up (X 5) (3 * mm) ((B 6) a)) (3 * mm + 1) (n_val (B 6) (B 10 0) (a + 1) 23)) (3 * mm + 2) 1)) 3 (fun _ => n_end (B 6) (B 10 0) (a + 1) 23 + 1))) s H locs := w
                    refine ri_if_ne (tgt := 166) hx hb dX6_isOrder_161 (by decide) (by omega) (fun c17 => ?_) (fun c17 => ?_)
                    · exact absurd c17 (by omega)
                    refine ri_iconst hx hb dX6_isOrder_164 ?_
                    have hL : O_let (B 6) (B 10 0) a := by refine ⟨by omega, ?_⟩; omega
                    have elo : o_lo (B 6) a = 0 := by unfold o_lo; omega
                    have ehi : o_hi (B 6) a = 23 := by unfold o_hi; omega
                    have hN : O_num (B 6) (B 10 0) a := by show o_lo (B 6) a ≤ _; rw [elo]; assumption
                    have e1 : o_e1 (B 6) (B 10 0) a = n_end (B 6) (B 10 0) (a + 1) 23 := by unfold o_e1; rw [ehi]
                    have e2 : o_arg (B 6) (B 10 0) a = n_val (B 6) (B 10 0) (a + 1) 23 := by unfold o_arg; rw [ehi]
                    have hS : O_star (B 6) (B 10 0) a := by rw [show O_star (B 6) (B 10 0) a = (B 6 a = 114 ∧ o_e1 (B 6) (B 10 0) a < B 10 0 ∧ B 6 (o_e1 (B 6) (B 10 0) a) = 42) from rfl, e1]; omega
                    have hR : ¬ O_rep (B 6) (B 10 0) a := by show ¬ (1 ≤ d_at _ _ (o_e1 (B 6) (B 10 0) a + 1)); rw [e1]; assumption
                    exact hend.2 _ _ _ _ ⟨_, rfl, (nz (by omega))⟩ _ _ dX6_isOrder_165 w (Or.inr ⟨rfl, fun hh => hR (hh.2.2 hS), (upT (upT (upT X 4 (fun _ => n_val (B 6) (B 10 0) (a + 1) 23)) 5 (up (up (up (X 5) (3 * mm) ((B 6) a)) (3 * mm + 1) (n_val (B 6) (B 10 0) (a + 1) 23)) (3 * mm + 2) 1)) 3 (fun _ => n_end (B 6) (B 10 0) (a + 1) 23 + 1)), rfl, rfl, ((o_end_3 hL hN hS hR).trans (by rw [e1]; rfl)).symm, hxm⟩)
                · have w : Wd g A (mo_ws g b B (upT (upT (upT X 4 (fun _ => n_val (B 6) (B 10 0) (a + 1) 23)) 3 (fun _ => n_end (B 6) (B 10 0) (a + 1) 23)) 5 (up (up (up (X 5) (3 * mm) ((B 6) a)) (3 * mm + 1) (n_val (B 6) (B 10 0) (a + 1) 23)) (3 * mm + 2) 1))) s H locs := w
                  refine ri_if_eq (tgt := 183) hx hb dX6_isOrder_151 (by decide) (by omega) (fun c18 => ?_) (fun c18 => ?_)
                  · refine ri_iconst hx hb dX6_isOrder_183 ?_
                    have hL : O_let (B 6) (B 10 0) a := by refine ⟨by omega, ?_⟩; omega
                    have elo : o_lo (B 6) a = 0 := by unfold o_lo; omega
                    have ehi : o_hi (B 6) a = 23 := by unfold o_hi; omega
                    have hN : O_num (B 6) (B 10 0) a := by show o_lo (B 6) a ≤ _; rw [elo]; assumption
                    have e1 : o_e1 (B 6) (B 10 0) a = n_end (B 6) (B 10 0) (a + 1) 23 := by unfold o_e1; rw [ehi]
                    have e2 : o_arg (B 6) (B 10 0) a = n_val (B 6) (B 10 0) (a + 1) 23 := by unfold o_arg; rw [ehi]
                    have hS : ¬ O_star (B 6) (B 10 0) a := by rw [show O_star (B 6) (B 10 0) a = (B 6 a = 114 ∧ o_e1 (B 6) (B 10 0) a < B 10 0 ∧ B 6 (o_e1 (B 6) (B 10 0) a) = 42) from rfl, e1]; omega
                    have e3 : o_rep (B 6) (B 10 0) a = 1 := if_neg hS
                    exact hend.2 _ _ _ _ ⟨_, rfl, (nz (by omega))⟩ _ _ dX6_isOrder_184 w (Or.inl ⟨rfl, ⟨hL, hN, fun hh => absurd hh hS⟩, (upT (upT (upT X 4 (fun _ => n_val (B 6) (B 10 0) (a + 1) 23)) 3 (fun _ => n_end (B 6) (B 10 0) (a + 1) 23)) 5 (up (up (up (X 5) (3 * mm) ((B 6) a)) (3 * mm + 1) (n_val (B 6) (B 10 0) (a + 1) 23)) (3 * mm + 2) 1)), rfl, rfl, ((o_end_2 hL hN hS).trans e1).symm, hxm, fun i => by rw [e2, e3]; show (up (up (up (X 5) (3 * mm) ((B 6) a)) (3 * mm + 1) (n_val (B 6) (B 10 0) (a + 1) 23)) (3 * mm + 2) 1) i = _; unfold up; omega⟩)
                  · exact absurd c18 (by omega)
              · exact absurd c11 (by omega)
            · have w : Wd g A (mo_ws g b B (upT X 3 (fun _ => a + 1))) s H locs := w
              refine ri_if_ne (tgt := 96) hx hb dX6_isOrder_91 (by decide) (by omega) (fun c19 => ?_) (fun c19 => ?_)
              · exact absurd c19 (by omega)
              refine ri_iconst hx hb dX6_isOrder_94 ?_
              have hL : O_let (B 6) (B 10 0) a := by refine ⟨by omega, ?_⟩; omega
              have elo : o_lo (B 6) a = 0 := by unfold o_lo; omega
              have ehi : o_hi (B 6) a = 23 := by unfold o_hi; omega
              have hN : ¬ O_num (B 6) (B 10 0) a := by show ¬ (o_lo (B 6) a ≤ _); rw [elo]; assumption
              exact hend.2 _ _ _ _ ⟨_, rfl, (nz (by omega))⟩ _ _ dX6_isOrder_95 w (Or.inr ⟨rfl, fun hh => hN hh.2.1, (upT X 3 (fun _ => a + 1)), rfl, rfl, (o_end_1 hL hN).symm, hxm⟩)
          · exact absurd c9 (by omega)
        · exact absurd c8 (by omega)
      · refine ri_iconst hx hb dX6_isOrder_61 ?_
        refine lv_goto (tgt := 66) hx hb dX6_isOrder_62 (by decide) ?_
        refine lv_istore_n (lv' := [(2, .int (iI 1)), (1, .int (iI ((B 6) a))), (0, .ref (b 0))]) hx hb dX6_isOrder_66 rfl hl (by decide) rfl (fun ls hl => ?_)
        refine lv_aload_n hx hb dX6_isOrder_67 rfl (lv_at hl 2 rfl) ?_
        refine lv_iload_n hx hb dX6_isOrder_68 rfl (lv_at hl 0 rfl) ?_
        refine ri_if_eq (tgt := 76) hx hb dX6_isOrder_69 (by decide) (by omega) (fun c20 => ?_) (fun c20 => ?_)
        · exact absurd c20 (by omega)
        refine ri_iconst hx hb dX6_isOrder_72 ?_
        refine lv_goto (tgt := 77) hx hb dX6_isOrder_73 (by decide) ?_
        refine lv_iload_n hx hb dX6_isOrder_77 rfl (lv_at hl 0 rfl) ?_
        refine ri_if_eq (tgt := 86) hx hb dX6_isOrder_78 (by decide) (by omega) (fun c21 => ?_) (fun c21 => ?_)
        · exact absurd c21 (by omega)
        refine ri_bipush hx hb dX6_isOrder_81 (by decide) ?_
        refine lv_goto (tgt := 88) hx hb dX6_isOrder_83 (by decide) ?_
        refine call_wV (wr := []) (As := [.int (iI 1), .int (iI 99)]) (rest := []) hx hb (hml.trans hl.1.symm) hown hts w lk_RX6_186 (fun sz => t_X6_isNumber l g b _ B (upT X 3 (fun _ => a + 1)) 1 99 (a + 1) hW (rfl) (by omega) (by omega) (by omega) sz) [0, 1, 2, 3, 4, 5, 6, 7, 8] [] rfl rfl rfl rfl (by decide) (call_recv w (q0 := 0) rfl fX6.1) rfl rfl (Nat.le_of_ble_eq_true rfl) ⟨Nat.le_of_ble_eq_true rfl, Nat.le_of_ble_eq_true rfl⟩ ⟨Nat.le_of_ble_eq_true rfl, Nat.le_of_ble_eq_true rfl⟩ dX6_isOrder_88 (fun v w1 H locs hr w => ?_)
        rcases hr with ⟨rfl, c22, rfl⟩ | ⟨rfl, c22, rfl⟩
        · have w : Wd g A (mo_ws g b B (upT (upT X 4 (fun _ => n_val (B 6) (B 10 0) (a + 1) 99)) 3 (fun _ => n_end (B 6) (B 10 0) (a + 1) 99))) s H locs := w
          have qc22 := n_end_rg (t := B 6) (n := B 10 0) (a := a + 1) (hi := 99) (by omega)
          have vc22 := n_val_rg (t := B 6) (n := B 10 0) (a := a + 1) (hi := 99) (by omega)
          refine ri_if_ne (tgt := 96) hx hb dX6_isOrder_91 (by decide) (by omega) (fun c23 => ?_) (fun c23 => ?_)
          · refine lv_aload_n hx hb dX6_isOrder_96 rfl (lv_at hl 2 rfl) ?_
            refine ri_get (v := .ref (b 7)) hx hb hts hown w fX6 0 11 (W0_of k_fl_RX6_28 rfl) rfl rfl (by decide) dX6_isOrder_97 ?_
            refine ri_iconst hx hb dX6_isOrder_100 ?_
            refine lv_aload_n hx hb dX6_isOrder_101 rfl (lv_at hl 2 rfl) ?_
            refine ri_get (v := .int (iI mm)) hx hb hts hown w fX6 0 12 (W0_of k_fl_RX6_189 rfl) rfl (congrArg (fun z => some (Value.int (iI z))) (hxm)) (by decide) dX6_isOrder_102 ?_
            refine ri_imul (z := 3 * mm) hx hb dX6_isOrder_105 rfl ?_
            refine lv_iload_n hx hb dX6_isOrder_106 rfl (lv_at hl 1 rfl) ?_
            refine ri_iast hx hb w 7 rfl (by omega) dX6_isOrder_107 (by omega) (fun H locs w => ?_)
            have w : Wd g A (mo_ws g b B (upT (upT (upT X 4 (fun _ => n_val (B 6) (B 10 0) (a + 1) 99)) 3 (fun _ => n_end (B 6) (B 10 0) (a + 1) 99)) 5 (up (X 5) (3 * mm) ((B 6) a)))) s H locs := w
            refine lv_aload_n hx hb dX6_isOrder_108 rfl (lv_at hl 2 rfl) ?_
            refine ri_get (v := .ref (b 7)) hx hb hts hown w fX6 0 11 (W0_of k_fl_RX6_28 rfl) rfl rfl (by decide) dX6_isOrder_109 ?_
            refine ri_iconst hx hb dX6_isOrder_112 ?_
            refine lv_aload_n hx hb dX6_isOrder_113 rfl (lv_at hl 2 rfl) ?_
            refine ri_get (v := .int (iI mm)) hx hb hts hown w fX6 0 12 (W0_of k_fl_RX6_189 rfl) rfl (congrArg (fun z => some (Value.int (iI z))) (hxm)) (by decide) dX6_isOrder_114 ?_
            refine ri_imul (z := 3 * mm) hx hb dX6_isOrder_117 rfl ?_
            refine ri_iconst hx hb dX6_isOrder_118 ?_
            refine ri_iadd (z := 3 * mm + 1) hx hb dX6_isOrder_119 rfl ?_
            refine lv_aload_n hx hb dX6_isOrder_120 rfl (lv_at hl 2 rfl) ?_
            refine ri_get (v := .int (iI (n_val (B 6) (B 10 0) (a + 1) 99))) hx hb hts hown w fX6 0 10 (W0_of k_fl_RX6_183 rfl) rfl rfl (by decide) dX6_isOrder_121 ?_
            refine ri_iast hx hb w 7 rfl (by omega) dX6_isOrder_124 (by omega) (fun H locs w => ?_)
            have w : Wd g A (mo_ws g b B (upT (upT (upT X 4 (fun _ => n_val (B 6) (B 10 0) (a + 1) 99)) 3 (fun _ => n_end (B 6) (B 10 0) (a + 1) 99)) 5 (up (up (X 5) (3 * mm) ((B 6) a)) (3 * mm + 1) (n_val (B 6) (B 10 0) (a + 1) 99)))) s H locs := w
            refine lv_aload_n hx hb dX6_isOrder_125 rfl (lv_at hl 2 rfl) ?_
            refine ri_get (v := .ref (b 7)) hx hb hts hown w fX6 0 11 (W0_of k_fl_RX6_28 rfl) rfl rfl (by decide) dX6_isOrder_126 ?_
            refine ri_iconst hx hb dX6_isOrder_129 ?_
            refine lv_aload_n hx hb dX6_isOrder_130 rfl (lv_at hl 2 rfl) ?_
            refine ri_get (v := .int (iI mm)) hx hb hts hown w fX6 0 12 (W0_of k_fl_RX6_189 rfl) rfl (congrArg (fun z => some (Value.int (iI z))) (hxm)) (by decide) dX6_isOrder_131 ?_
            refine ri_imul (z := 3 * mm) hx hb dX6_isOrder_134 rfl ?_
            refine ri_iconst hx hb dX6_isOrder_135 ?_
            refine ri_iadd (z := 3 * mm + 2) hx hb dX6_isOrder_136 rfl ?_
            refine ri_iconst hx hb dX6_isOrder_137 ?_
            refine ri_iast hx hb w 7 rfl (by omega) dX6_isOrder_138 (by omega) (fun H locs w => ?_)
            have w : Wd g A (mo_ws g b B (upT (upT (upT X 4 (fun _ => n_val (B 6) (B 10 0) (a + 1) 99)) 3 (fun _ => n_end (B 6) (B 10 0) (a + 1) 99)) 5 (up (up (up (X 5) (3 * mm) ((B 6) a)) (3 * mm + 1) (n_val (B 6) (B 10 0) (a + 1) 99)) (3 * mm + 2) 1))) s H locs := w
            refine lv_iload_n hx hb dX6_isOrder_139 rfl (lv_at hl 1 rfl) ?_
            refine ri_bipush hx hb dX6_isOrder_140 (by decide) ?_
            refine ri_icmp_ne (tgt := 183) hx hb dX6_isOrder_142 (by decide) (by omega) (by omega) (fun c24 => ?_) (fun c24 => ?_)
            · exact absurd c24 (by omega)
            refine lv_aload_n hx hb dX6_isOrder_145 rfl (lv_at hl 2 rfl) ?_
            refine ri_bipush hx hb dX6_isOrder_146 (by decide) ?_
            refine call_wV (wr := []) (As := [.int (iI 42)]) (rest := []) hx hb (hml.trans hl.1.symm) hown hts w lk_RX6_192 (fun sz => t_X6_isSign l g b _ B (upT (upT (upT X 4 (fun _ => n_val (B 6) (B 10 0) (a + 1) 99)) 3 (fun _ => n_end (B 6) (B 10 0) (a + 1) 99)) 5 (up (up (up (X 5) (3 * mm) ((B 6) a)) (3 * mm + 1) (n_val (B 6) (B 10 0) (a + 1) 99)) (3 * mm + 2) 1)) 42 (n_end (B 6) (B 10 0) (a + 1) 99) hW (rfl) (by omega) (by omega) sz) [0, 1, 2, 3, 4, 5, 6, 7, 8] [] rfl rfl rfl rfl (by decide) (call_recv w (q0 := 0) rfl fX6.1) rfl rfl (Nat.le_of_ble_eq_true rfl) ⟨Nat.le_of_ble_eq_true rfl, Nat.le_of_ble_eq_true rfl⟩ ⟨Nat.le_of_ble_eq_true rfl, Nat.le_of_ble_eq_true rfl⟩ dX6_isOrder_148 (fun v w1 H locs hr w => ?_)
            rcases hr with ⟨rfl, c25, rfl⟩ | ⟨rfl, c25, rfl⟩
            · have w : Wd g A (mo_ws g b B (upT (upT (upT X 4 (fun _ => n_val (B 6) (B 10 0) (a + 1) 99)) 5 (up (up (up (X 5) (3 * mm) ((B 6) a)) (3 * mm + 1) (n_val (B 6) (B 10 0) (a + 1) 99)) (3 * mm + 2) 1)) 3 (fun _ => n_end (B 6) (B 10 0) (a + 1) 99 + 1))) s H locs := w
              refine ri_if_eq (tgt := 183) hx hb dX6_isOrder_151 (by decide) (by omega) (fun c26 => ?_) (fun c26 => ?_)
              · exact absurd c26 (by omega)
              refine lv_aload_n hx hb dX6_isOrder_154 rfl (lv_at hl 2 rfl) ?_
              refine ri_iconst hx hb dX6_isOrder_155 ?_
              refine ri_bipush hx hb dX6_isOrder_156 (by decide) ?_
              refine call_wV (wr := []) (As := [.int (iI 1), .int (iI 99)]) (rest := []) hx hb (hml.trans hl.1.symm) hown hts w lk_RX6_186 (fun sz => t_X6_isNumber l g b _ B (upT (upT (upT X 4 (fun _ => n_val (B 6) (B 10 0) (a + 1) 99)) 5 (up (up (up (X 5) (3 * mm) ((B 6) a)) (3 * mm + 1) (n_val (B 6) (B 10 0) (a + 1) 99)) (3 * mm + 2) 1)) 3 (fun _ => n_end (B 6) (B 10 0) (a + 1) 99 + 1)) 1 99 (n_end (B 6) (B 10 0) (a + 1) 99 + 1) hW (rfl) (by omega) (by omega) (by omega) sz) [0, 1, 2, 3, 4, 5, 6, 7, 8] [] rfl rfl rfl rfl (by decide) (call_recv w (q0 := 0) rfl fX6.1) rfl rfl (Nat.le_of_ble_eq_true rfl) ⟨Nat.le_of_ble_eq_true rfl, Nat.le_of_ble_eq_true rfl⟩ ⟨Nat.le_of_ble_eq_true rfl, Nat.le_of_ble_eq_true rfl⟩ dX6_isOrder_158 (fun v w1 H locs hr w => ?_)
              rcases hr with ⟨rfl, c27, rfl⟩ | ⟨rfl, c27, rfl⟩
              · have w : Wd g A (mo_ws g b B (upT (upT (upT X 5 (up (up (up (X 5) (3 * mm) ((B 6) a)) (3 * mm + 1) (n_val (B 6) (B 10 0) (a + 1) 99)) (3 * mm + 2) 1)) 4 (fun _ => n_val (B 6) (B 10 0) (n_end (B 6) (B 10 0) (a + 1) 99 + 1) 99)) 3 (fun _ => n_end (B 6) (B 10 0) (n_end (B 6) (B 10 0) (a + 1) 99 + 1) 99))) s H locs := w
                have qc27 := n_end_rg (t := B 6) (n := B 10 0) (a := n_end (B 6) (B 10 0) (a + 1) 99 + 1) (hi := 99) (by omega)
                have vc27 := n_val_rg (t := B 6) (n := B 10 0) (a := n_end (B 6) (B 10 0) (a + 1) 99 + 1) (hi := 99) (by omega)
                refine ri_if_ne (tgt := 166) hx hb dX6_isOrder_161 (by decide) (by omega) (fun c28 => ?_) (fun c28 => ?_)
                · refine lv_aload_n hx hb dX6_isOrder_166 rfl (lv_at hl 2 rfl) ?_
                  refine ri_get (v := .ref (b 7)) hx hb hts hown w fX6 0 11 (W0_of k_fl_RX6_28 rfl) rfl rfl (by decide) dX6_isOrder_167 ?_
                  refine ri_iconst hx hb dX6_isOrder_170 ?_
                  refine lv_aload_n hx hb dX6_isOrder_171 rfl (lv_at hl 2 rfl) ?_
                  refine ri_get (v := .int (iI mm)) hx hb hts hown w fX6 0 12 (W0_of k_fl_RX6_189 rfl) rfl (congrArg (fun z => some (Value.int (iI z))) (hxm)) (by decide) dX6_isOrder_172 ?_
                  refine ri_imul (z := 3 * mm) hx hb dX6_isOrder_175 rfl ?_
                  refine ri_iconst hx hb dX6_isOrder_176 ?_
                  refine ri_iadd (z := 3 * mm + 2) hx hb dX6_isOrder_177 rfl ?_
                  refine lv_aload_n hx hb dX6_isOrder_178 rfl (lv_at hl 2 rfl) ?_
                  refine ri_get (v := .int (iI (n_val (B 6) (B 10 0) (n_end (B 6) (B 10 0) (a + 1) 99 + 1) 99))) hx hb hts hown w fX6 0 10 (W0_of k_fl_RX6_183 rfl) rfl rfl (by decide) dX6_isOrder_179 ?_
                  refine ri_iast hx hb w 7 rfl (by omega) dX6_isOrder_182 (by omega) (fun H locs w => ?_)
                  have w : Wd g A (mo_ws g b B (upT (upT (upT X 4 (fun _ => n_val (B 6) (B 10 0) (n_end (B 6) (B 10 0) (a + 1) 99 + 1) 99)) 3 (fun _ => n_end (B 6) (B 10 0) (n_end (B 6) (B 10 0) (a + 1) 99 + 1) 99)) 5 (up (up (up (up (X 5) (3 * mm) ((B 6) a)) (3 * mm + 1) (n_val (B 6) (B 10 0) (a + 1) 99)) (3 * mm + 2) 1) (3 * mm + 2) (n_val (B 6) (B 10 0) (n_end (B 6) (B 10 0) (a + 1) 99 + 1) 99)))) s H locs := w
                  refine ri_iconst hx hb dX6_isOrder_183 ?_
                  have hL : O_let (B 6) (B 10 0) a := by refine ⟨by omega, ?_⟩; omega
                  have elo : o_lo (B 6) a = 1 := by unfold o_lo; omega
                  have ehi : o_hi (B 6) a = 99 := by unfold o_hi; omega
                  have hN : O_num (B 6) (B 10 0) a := by show o_lo (B 6) a ≤ _; rw [elo]; assumption
                  have e1 : o_e1 (B 6) (B 10 0) a = n_end (B 6) (B 10 0) (a + 1) 99 := by unfold o_e1; rw [ehi]
                  have e2 : o_arg (B 6) (B 10 0) a = n_val (B 6) (B 10 0) (a + 1) 99 := by unfold o_arg; rw [ehi]
                  have hS : O_star (B 6) (B 10 0) a := by rw [show O_star (B 6) (B 10 0) a = (B 6 a = 114 ∧ o_e1 (B 6) (B 10 0) a < B 10 0 ∧ B 6 (o_e1 (B 6) (B 10 0) a) = 42) from rfl, e1]; omega
                  have hR : O_rep (B 6) (B 10 0) a := by show 1 ≤ d_at _ _ (o_e1 (B 6) (B 10 0) a + 1); rw [e1]; assumption
                  have e3 : o_rep (B 6) (B 10 0) a = n_val (B 6) (B 10 0) (n_end (B 6) (B 10 0) (a + 1) 99 + 1) 99 := by unfold o_rep; rw [if_pos hS, e1]
                  exact hend.2 _ _ _ _ ⟨_, rfl, (nz (by omega))⟩ _ _ dX6_isOrder_184 w (Or.inl ⟨rfl, ⟨hL, hN, fun _ => hR⟩, (upT (upT (upT X 4 (fun _ => n_val (B 6) (B 10 0) (n_end (B 6) (B 10 0) (a + 1) 99 + 1) 99)) 3 (fun _ => n_end (B 6) (B 10 0) (n_end (B 6) (B 10 0) (a + 1) 99 + 1) 99)) 5 (up (up (up (up (X 5) (3 * mm) ((B 6) a)) (3 * mm + 1) (n_val (B 6) (B 10 0) (a + 1) 99)) (3 * mm + 2) 1) (3 * mm + 2) (n_val (B 6) (B 10 0) (n_end (B 6) (B 10 0) (a + 1) 99 + 1) 99))), rfl, rfl, ((o_end_4 hL hN hS hR).trans (by rw [e1]; rfl)).symm, hxm, fun i => by rw [e2, e3]; show (up (up (up (up (X 5) (3 * mm) ((B 6) a)) (3 * mm + 1) (n_val (B 6) (B 10 0) (a + 1) 99)) (3 * mm + 2) 1) (3 * mm + 2) (n_val (B 6) (B 10 0) (n_end (B 6) (B 10 0) (a + 1) 99 + 1) 99)) i = _; unfold up; omega⟩)
                · exact absurd c28 (by omega)
              · have w : Wd g A (mo_ws g b B (upT (upT (upT X 4 (fun _ => n_val (B 6) (B 10 0) (a + 1) 99)) 5 (up (up (up (X 5) (3 * mm) ((B 6) a)) (3 * mm + 1) (n_val (B 6) (B 10 0) (a + 1) 99)) (3 * mm + 2) 1)) 3 (fun _ => n_end (B 6) (B 10 0) (a + 1) 99 + 1))) s H locs := w
                refine ri_if_ne (tgt := 166) hx hb dX6_isOrder_161 (by decide) (by omega) (fun c29 => ?_) (fun c29 => ?_)
                · exact absurd c29 (by omega)
                refine ri_iconst hx hb dX6_isOrder_164 ?_
                have hL : O_let (B 6) (B 10 0) a := by refine ⟨by omega, ?_⟩; omega
                have elo : o_lo (B 6) a = 1 := by unfold o_lo; omega
                have ehi : o_hi (B 6) a = 99 := by unfold o_hi; omega
                have hN : O_num (B 6) (B 10 0) a := by show o_lo (B 6) a ≤ _; rw [elo]; assumption
                have e1 : o_e1 (B 6) (B 10 0) a = n_end (B 6) (B 10 0) (a + 1) 99 := by unfold o_e1; rw [ehi]
                have e2 : o_arg (B 6) (B 10 0) a = n_val (B 6) (B 10 0) (a + 1) 99 := by unfold o_arg; rw [ehi]
                have hS : O_star (B 6) (B 10 0) a := by rw [show O_star (B 6) (B 10 0) a = (B 6 a = 114 ∧ o_e1 (B 6) (B 10 0) a < B 10 0 ∧ B 6 (o_e1 (B 6) (B 10 0) a) = 42) from rfl, e1]; omega
                have hR : ¬ O_rep (B 6) (B 10 0) a := by show ¬ (1 ≤ d_at _ _ (o_e1 (B 6) (B 10 0) a + 1)); rw [e1]; assumption
                exact hend.2 _ _ _ _ ⟨_, rfl, (nz (by omega))⟩ _ _ dX6_isOrder_165 w (Or.inr ⟨rfl, fun hh => hR (hh.2.2 hS), (upT (upT (upT X 4 (fun _ => n_val (B 6) (B 10 0) (a + 1) 99)) 5 (up (up (up (X 5) (3 * mm) ((B 6) a)) (3 * mm + 1) (n_val (B 6) (B 10 0) (a + 1) 99)) (3 * mm + 2) 1)) 3 (fun _ => n_end (B 6) (B 10 0) (a + 1) 99 + 1)), rfl, rfl, ((o_end_3 hL hN hS hR).trans (by rw [e1]; rfl)).symm, hxm⟩)
            · have w : Wd g A (mo_ws g b B (upT (upT (upT X 4 (fun _ => n_val (B 6) (B 10 0) (a + 1) 99)) 3 (fun _ => n_end (B 6) (B 10 0) (a + 1) 99)) 5 (up (up (up (X 5) (3 * mm) ((B 6) a)) (3 * mm + 1) (n_val (B 6) (B 10 0) (a + 1) 99)) (3 * mm + 2) 1))) s H locs := w
              refine ri_if_eq (tgt := 183) hx hb dX6_isOrder_151 (by decide) (by omega) (fun c30 => ?_) (fun c30 => ?_)
              · refine ri_iconst hx hb dX6_isOrder_183 ?_
                have hL : O_let (B 6) (B 10 0) a := by refine ⟨by omega, ?_⟩; omega
                have elo : o_lo (B 6) a = 1 := by unfold o_lo; omega
                have ehi : o_hi (B 6) a = 99 := by unfold o_hi; omega
                have hN : O_num (B 6) (B 10 0) a := by show o_lo (B 6) a ≤ _; rw [elo]; assumption
                have e1 : o_e1 (B 6) (B 10 0) a = n_end (B 6) (B 10 0) (a + 1) 99 := by unfold o_e1; rw [ehi]
                have e2 : o_arg (B 6) (B 10 0) a = n_val (B 6) (B 10 0) (a + 1) 99 := by unfold o_arg; rw [ehi]
                have hS : ¬ O_star (B 6) (B 10 0) a := by rw [show O_star (B 6) (B 10 0) a = (B 6 a = 114 ∧ o_e1 (B 6) (B 10 0) a < B 10 0 ∧ B 6 (o_e1 (B 6) (B 10 0) a) = 42) from rfl, e1]; omega
                have e3 : o_rep (B 6) (B 10 0) a = 1 := if_neg hS
                exact hend.2 _ _ _ _ ⟨_, rfl, (nz (by omega))⟩ _ _ dX6_isOrder_184 w (Or.inl ⟨rfl, ⟨hL, hN, fun hh => absurd hh hS⟩, (upT (upT (upT X 4 (fun _ => n_val (B 6) (B 10 0) (a + 1) 99)) 3 (fun _ => n_end (B 6) (B 10 0) (a + 1) 99)) 5 (up (up (up (X 5) (3 * mm) ((B 6) a)) (3 * mm + 1) (n_val (B 6) (B 10 0) (a + 1) 99)) (3 * mm + 2) 1)), rfl, rfl, ((o_end_2 hL hN hS).trans e1).symm, hxm, fun i => by rw [e2, e3]; show (up (up (up (X 5) (3 * mm) ((B 6) a)) (3 * mm + 1) (n_val (B 6) (B 10 0) (a + 1) 99)) (3 * mm + 2) 1) i = _; unfold up; omega⟩)
              · exact absurd c30 (by omega)
          · exact absurd c23 (by omega)
        · have w : Wd g A (mo_ws g b B (upT X 3 (fun _ => a + 1))) s H locs := w
          refine ri_if_ne (tgt := 96) hx hb dX6_isOrder_91 (by decide) (by omega) (fun c31 => ?_) (fun c31 => ?_)
          · exact absurd c31 (by omega)
          refine ri_iconst hx hb dX6_isOrder_94 ?_
          have hL : O_let (B 6) (B 10 0) a := by refine ⟨by omega, ?_⟩; omega
          have elo : o_lo (B 6) a = 1 := by unfold o_lo; omega
          have ehi : o_hi (B 6) a = 99 := by unfold o_hi; omega
          have hN : ¬ O_num (B 6) (B 10 0) a := by show ¬ (o_lo (B 6) a ≤ _); rw [elo]; assumption
          exact hend.2 _ _ _ _ ⟨_, rfl, (nz (by omega))⟩ _ _ dX6_isOrder_95 w (Or.inr ⟨rfl, fun hh => hN hh.2.1, (upT X 3 (fun _ => a + 1)), rfl, rfl, (o_end_1 hL hN).symm, hxm⟩)
    · refine lv_iload_n hx hb dX6_isOrder_31 rfl (lv_at hl 0 rfl) ?_
      refine ri_bipush hx hb dX6_isOrder_32 (by decide) ?_
      refine ri_icmp_eq (tgt := 45) hx hb dX6_isOrder_34 (by decide) (by omega) (by omega) (fun c32 => ?_) (fun c32 => ?_)
      · refine lv_aload_n hx hb dX6_isOrder_45 rfl (lv_at hl 1 rfl) ?_
        refine lv_dup hx hb dX6_isOrder_46 rfl ?_
        refine ri_get (v := .int (iI a)) hx hb hts hown w fX6 0 9 (W0_of k_fl_RX6_177 rfl) rfl (congrArg (fun z => some (Value.int (iI z))) (hxa)) (by decide) dX6_isOrder_47 ?_
        refine ri_iconst hx hb dX6_isOrder_50 ?_
        refine ri_iadd (z := a + 1) hx hb dX6_isOrder_51 rfl ?_
        refine ri_put hx hb hts hown w fX6 0 9 (W0_of k_fl_RX6_177 rfl) rfl (Nat.le_of_ble_eq_true rfl) (by decide) rfl rfl rfl dX6_isOrder_52 (fun H locs w => ?_)
        have w : Wd g A (mo_ws g b B (upT X 3 (fun _ => a + 1))) s H locs := w
        refine lv_iload_n hx hb dX6_isOrder_55 rfl (lv_at hl 0 rfl) ?_
        refine ri_bipush hx hb dX6_isOrder_56 (by decide) ?_
        refine ri_icmp_ne (tgt := 65) hx hb dX6_isOrder_58 (by decide) (by omega) (by omega) (fun c33 => ?_) (fun c33 => ?_)
        · refine ri_iconst hx hb dX6_isOrder_65 ?_
          refine lv_istore_n (lv' := [(2, .int (iI 0)), (1, .int (iI ((B 6) a))), (0, .ref (b 0))]) hx hb dX6_isOrder_66 rfl hl (by decide) rfl (fun ls hl => ?_)
          refine lv_aload_n hx hb dX6_isOrder_67 rfl (lv_at hl 2 rfl) ?_
          refine lv_iload_n hx hb dX6_isOrder_68 rfl (lv_at hl 0 rfl) ?_
          refine ri_if_eq (tgt := 76) hx hb dX6_isOrder_69 (by decide) (by omega) (fun c34 => ?_) (fun c34 => ?_)
          · refine ri_iconst hx hb dX6_isOrder_76 ?_
            refine lv_iload_n hx hb dX6_isOrder_77 rfl (lv_at hl 0 rfl) ?_
            refine ri_if_eq (tgt := 86) hx hb dX6_isOrder_78 (by decide) (by omega) (fun c35 => ?_) (fun c35 => ?_)
            · refine ri_bipush hx hb dX6_isOrder_86 (by decide) ?_
              refine call_wV (wr := []) (As := [.int (iI 0), .int (iI 23)]) (rest := []) hx hb (hml.trans hl.1.symm) hown hts w lk_RX6_186 (fun sz => t_X6_isNumber l g b _ B (upT X 3 (fun _ => a + 1)) 0 23 (a + 1) hW (rfl) (by omega) (by omega) (by omega) sz) [0, 1, 2, 3, 4, 5, 6, 7, 8] [] rfl rfl rfl rfl (by decide) (call_recv w (q0 := 0) rfl fX6.1) rfl rfl (Nat.le_of_ble_eq_true rfl) ⟨Nat.le_of_ble_eq_true rfl, Nat.le_of_ble_eq_true rfl⟩ ⟨Nat.le_of_ble_eq_true rfl, Nat.le_of_ble_eq_true rfl⟩ dX6_isOrder_88 (fun v w1 H locs hr w => ?_)
              rcases hr with ⟨rfl, c36, rfl⟩ | ⟨rfl, c36, rfl⟩
              · have w : Wd g A (mo_ws g b B (upT (upT X 4 (fun _ => n_val (B 6) (B 10 0) (a + 1) 23)) 3 (fun _ => n_end (B 6) (B 10 0) (a + 1) 23))) s H locs := w
                have qc36 := n_end_rg (t := B 6) (n := B 10 0) (a := a + 1) (hi := 23) (by omega)
                have vc36 := n_val_rg (t := B 6) (n := B 10 0) (a := a + 1) (hi := 23) (by omega)
                refine ri_if_ne (tgt := 96) hx hb dX6_isOrder_91 (by decide) (by omega) (fun c37 => ?_) (fun c37 => ?_)
                · refine lv_aload_n hx hb dX6_isOrder_96 rfl (lv_at hl 2 rfl) ?_
                  refine ri_get (v := .ref (b 7)) hx hb hts hown w fX6 0 11 (W0_of k_fl_RX6_28 rfl) rfl rfl (by decide) dX6_isOrder_97 ?_
                  refine ri_iconst hx hb dX6_isOrder_100 ?_
                  refine lv_aload_n hx hb dX6_isOrder_101 rfl (lv_at hl 2 rfl) ?_
                  refine ri_get (v := .int (iI mm)) hx hb hts hown w fX6 0 12 (W0_of k_fl_RX6_189 rfl) rfl (congrArg (fun z => some (Value.int (iI z))) (hxm)) (by decide) dX6_isOrder_102 ?_
                  refine ri_imul (z := 3 * mm) hx hb dX6_isOrder_105 rfl ?_
                  refine lv_iload_n hx hb dX6_isOrder_106 rfl (lv_at hl 1 rfl) ?_
                  refine ri_iast hx hb w 7 rfl (by omega) dX6_isOrder_107 (by omega) (fun H locs w => ?_)
                  have w : Wd g A (mo_ws g b B (upT (upT (upT X 4 (fun _ => n_val (B 6) (B 10 0) (a + 1) 23)) 3 (fun _ => n_end (B 6) (B 10 0) (a + 1) 23)) 5 (up (X 5) (3 * mm) ((B 6) a)))) s H locs := w
                  refine lv_aload_n hx hb dX6_isOrder_108 rfl (lv_at hl 2 rfl) ?_
                  refine ri_get (v := .ref (b 7)) hx hb hts hown w fX6 0 11 (W0_of k_fl_RX6_28 rfl) rfl rfl (by decide) dX6_isOrder_109 ?_
                  refine ri_iconst hx hb dX6_isOrder_112 ?_
                  refine lv_aload_n hx hb dX6_isOrder_113 rfl (lv_at hl 2 rfl) ?_
                  refine ri_get (v := .int (iI mm)) hx hb hts hown w fX6 0 12 (W0_of k_fl_RX6_189 rfl) rfl (congrArg (fun z => some (Value.int (iI z))) (hxm)) (by decide) dX6_isOrder_114 ?_
                  refine ri_imul (z := 3 * mm) hx hb dX6_isOrder_117 rfl ?_
                  refine ri_iconst hx hb dX6_isOrder_118 ?_
                  refine ri_iadd (z := 3 * mm + 1) hx hb dX6_isOrder_119 rfl ?_
                  refine lv_aload_n hx hb dX6_isOrder_120 rfl (lv_at hl 2 rfl) ?_
                  refine ri_get (v := .int (iI (n_val (B 6) (B 10 0) (a + 1) 23))) hx hb hts hown w fX6 0 10 (W0_of k_fl_RX6_183 rfl) rfl rfl (by decide) dX6_isOrder_121 ?_
                  refine ri_iast hx hb w 7 rfl (by omega) dX6_isOrder_124 (by omega) (fun H locs w => ?_)
                  have w : Wd g A (mo_ws g b B (upT (upT (upT X 4 (fun _ => n_val (B 6) (B 10 0) (a + 1) 23)) 3 (fun _ => n_end (B 6) (B 10 0) (a + 1) 23)) 5 (up (up (X 5) (3 * mm) ((B 6) a)) (3 * mm + 1) (n_val (B 6) (B 10 0) (a + 1) 23)))) s H locs := w
                  refine lv_aload_n hx hb dX6_isOrder_125 rfl (lv_at hl 2 rfl) ?_
                  refine ri_get (v := .ref (b 7)) hx hb hts hown w fX6 0 11 (W0_of k_fl_RX6_28 rfl) rfl rfl (by decide) dX6_isOrder_126 ?_
                  refine ri_iconst hx hb dX6_isOrder_129 ?_
                  refine lv_aload_n hx hb dX6_isOrder_130 rfl (lv_at hl 2 rfl) ?_
                  refine ri_get (v := .int (iI mm)) hx hb hts hown w fX6 0 12 (W0_of k_fl_RX6_189 rfl) rfl (congrArg (fun z => some (Value.int (iI z))) (hxm)) (by decide) dX6_isOrder_131 ?_
                  refine ri_imul (z := 3 * mm) hx hb dX6_isOrder_134 rfl ?_
                  refine ri_iconst hx hb dX6_isOrder_135 ?_
                  refine ri_iadd (z := 3 * mm + 2) hx hb dX6_isOrder_136 rfl ?_
                  refine ri_iconst hx hb dX6_isOrder_137 ?_
                  refine ri_iast hx hb w 7 rfl (by omega) dX6_isOrder_138 (by omega) (fun H locs w => ?_)
                  have w : Wd g A (mo_ws g b B (upT (upT (upT X 4 (fun _ => n_val (B 6) (B 10 0) (a + 1) 23)) 3 (fun _ => n_end (B 6) (B 10 0) (a + 1) 23)) 5 (up (up (up (X 5) (3 * mm) ((B 6) a)) (3 * mm + 1) (n_val (B 6) (B 10 0) (a + 1) 23)) (3 * mm + 2) 1))) s H locs := w
                  refine lv_iload_n hx hb dX6_isOrder_139 rfl (lv_at hl 1 rfl) ?_
                  refine ri_bipush hx hb dX6_isOrder_140 (by decide) ?_
                  refine ri_icmp_ne (tgt := 183) hx hb dX6_isOrder_142 (by decide) (by omega) (by omega) (fun c38 => ?_) (fun c38 => ?_)
                  · refine ri_iconst hx hb dX6_isOrder_183 ?_
                    have hL : O_let (B 6) (B 10 0) a := by refine ⟨by omega, ?_⟩; omega
                    have elo : o_lo (B 6) a = 0 := by unfold o_lo; omega
                    have ehi : o_hi (B 6) a = 23 := by unfold o_hi; omega
                    have hN : O_num (B 6) (B 10 0) a := by show o_lo (B 6) a ≤ _; rw [elo]; assumption
                    have e1 : o_e1 (B 6) (B 10 0) a = n_end (B 6) (B 10 0) (a + 1) 23 := by unfold o_e1; rw [ehi]
                    have e2 : o_arg (B 6) (B 10 0) a = n_val (B 6) (B 10 0) (a + 1) 23 := by unfold o_arg; rw [ehi]
                    have hS : ¬ O_star (B 6) (B 10 0) a := by rw [show O_star (B 6) (B 10 0) a = (B 6 a = 114 ∧ o_e1 (B 6) (B 10 0) a < B 10 0 ∧ B 6 (o_e1 (B 6) (B 10 0) a) = 42) from rfl, e1]; omega
                    have e3 : o_rep (B 6) (B 10 0) a = 1 := if_neg hS
                    exact hend.2 _ _ _ _ ⟨_, rfl, (nz (by omega))⟩ _ _ dX6_isOrder_184 w (Or.inl ⟨rfl, ⟨hL, hN, fun hh => absurd hh hS⟩, (upT (upT (upT X 4 (fun _ => n_val (B 6) (B 10 0) (a + 1) 23)) 3 (fun _ => n_end (B 6) (B 10 0) (a + 1) 23)) 5 (up (up (up (X 5) (3 * mm) ((B 6) a)) (3 * mm + 1) (n_val (B 6) (B 10 0) (a + 1) 23)) (3 * mm + 2) 1)), rfl, rfl, ((o_end_2 hL hN hS).trans e1).symm, hxm, fun i => by rw [e2, e3]; show (up (up (up (X 5) (3 * mm) ((B 6) a)) (3 * mm + 1) (n_val (B 6) (B 10 0) (a + 1) 23)) (3 * mm + 2) 1) i = _; unfold up; omega⟩)
                  · exact absurd c38 (by omega)
                · exact absurd c37 (by omega)
              · have w : Wd g A (mo_ws g b B (upT X 3 (fun _ => a + 1))) s H locs := w
                refine ri_if_ne (tgt := 96) hx hb dX6_isOrder_91 (by decide) (by omega) (fun c39 => ?_) (fun c39 => ?_)
                · exact absurd c39 (by omega)
                refine ri_iconst hx hb dX6_isOrder_94 ?_
                have hL : O_let (B 6) (B 10 0) a := by refine ⟨by omega, ?_⟩; omega
                have elo : o_lo (B 6) a = 0 := by unfold o_lo; omega
                have ehi : o_hi (B 6) a = 23 := by unfold o_hi; omega
                have hN : ¬ O_num (B 6) (B 10 0) a := by show ¬ (o_lo (B 6) a ≤ _); rw [elo]; assumption
                exact hend.2 _ _ _ _ ⟨_, rfl, (nz (by omega))⟩ _ _ dX6_isOrder_95 w (Or.inr ⟨rfl, fun hh => hN hh.2.1, (upT X 3 (fun _ => a + 1)), rfl, rfl, (o_end_1 hL hN).symm, hxm⟩)
            · exact absurd c35 (by omega)
          · exact absurd c34 (by omega)
        · refine ri_iconst hx hb dX6_isOrder_61 ?_
          refine lv_goto (tgt := 66) hx hb dX6_isOrder_62 (by decide) ?_
          refine lv_istore_n (lv' := [(2, .int (iI 1)), (1, .int (iI ((B 6) a))), (0, .ref (b 0))]) hx hb dX6_isOrder_66 rfl hl (by decide) rfl (fun ls hl => ?_)
          refine lv_aload_n hx hb dX6_isOrder_67 rfl (lv_at hl 2 rfl) ?_
          refine lv_iload_n hx hb dX6_isOrder_68 rfl (lv_at hl 0 rfl) ?_
          refine ri_if_eq (tgt := 76) hx hb dX6_isOrder_69 (by decide) (by omega) (fun c40 => ?_) (fun c40 => ?_)
          · exact absurd c40 (by omega)
          refine ri_iconst hx hb dX6_isOrder_72 ?_
          refine lv_goto (tgt := 77) hx hb dX6_isOrder_73 (by decide) ?_
          refine lv_iload_n hx hb dX6_isOrder_77 rfl (lv_at hl 0 rfl) ?_
          refine ri_if_eq (tgt := 86) hx hb dX6_isOrder_78 (by decide) (by omega) (fun c41 => ?_) (fun c41 => ?_)
          · exact absurd c41 (by omega)
          refine ri_bipush hx hb dX6_isOrder_81 (by decide) ?_
          refine lv_goto (tgt := 88) hx hb dX6_isOrder_83 (by decide) ?_
          refine call_wV (wr := []) (As := [.int (iI 1), .int (iI 99)]) (rest := []) hx hb (hml.trans hl.1.symm) hown hts w lk_RX6_186 (fun sz => t_X6_isNumber l g b _ B (upT X 3 (fun _ => a + 1)) 1 99 (a + 1) hW (rfl) (by omega) (by omega) (by omega) sz) [0, 1, 2, 3, 4, 5, 6, 7, 8] [] rfl rfl rfl rfl (by decide) (call_recv w (q0 := 0) rfl fX6.1) rfl rfl (Nat.le_of_ble_eq_true rfl) ⟨Nat.le_of_ble_eq_true rfl, Nat.le_of_ble_eq_true rfl⟩ ⟨Nat.le_of_ble_eq_true rfl, Nat.le_of_ble_eq_true rfl⟩ dX6_isOrder_88 (fun v w1 H locs hr w => ?_)
          rcases hr with ⟨rfl, c42, rfl⟩ | ⟨rfl, c42, rfl⟩
          · have w : Wd g A (mo_ws g b B (upT (upT X 4 (fun _ => n_val (B 6) (B 10 0) (a + 1) 99)) 3 (fun _ => n_end (B 6) (B 10 0) (a + 1) 99))) s H locs := w
            have qc42 := n_end_rg (t := B 6) (n := B 10 0) (a := a + 1) (hi := 99) (by omega)
            have vc42 := n_val_rg (t := B 6) (n := B 10 0) (a := a + 1) (hi := 99) (by omega)
            refine ri_if_ne (tgt := 96) hx hb dX6_isOrder_91 (by decide) (by omega) (fun c43 => ?_) (fun c43 => ?_)
            · refine lv_aload_n hx hb dX6_isOrder_96 rfl (lv_at hl 2 rfl) ?_
              refine ri_get (v := .ref (b 7)) hx hb hts hown w fX6 0 11 (W0_of k_fl_RX6_28 rfl) rfl rfl (by decide) dX6_isOrder_97 ?_
              refine ri_iconst hx hb dX6_isOrder_100 ?_
              refine lv_aload_n hx hb dX6_isOrder_101 rfl (lv_at hl 2 rfl) ?_
              refine ri_get (v := .int (iI mm)) hx hb hts hown w fX6 0 12 (W0_of k_fl_RX6_189 rfl) rfl (congrArg (fun z => some (Value.int (iI z))) (hxm)) (by decide) dX6_isOrder_102 ?_
              refine ri_imul (z := 3 * mm) hx hb dX6_isOrder_105 rfl ?_
              refine lv_iload_n hx hb dX6_isOrder_106 rfl (lv_at hl 1 rfl) ?_
              refine ri_iast hx hb w 7 rfl (by omega) dX6_isOrder_107 (by omega) (fun H locs w => ?_)
              have w : Wd g A (mo_ws g b B (upT (upT (upT X 4 (fun _ => n_val (B 6) (B 10 0) (a + 1) 99)) 3 (fun _ => n_end (B 6) (B 10 0) (a + 1) 99)) 5 (up (X 5) (3 * mm) ((B 6) a)))) s H locs := w
              refine lv_aload_n hx hb dX6_isOrder_108 rfl (lv_at hl 2 rfl) ?_
              refine ri_get (v := .ref (b 7)) hx hb hts hown w fX6 0 11 (W0_of k_fl_RX6_28 rfl) rfl rfl (by decide) dX6_isOrder_109 ?_
              refine ri_iconst hx hb dX6_isOrder_112 ?_
              refine lv_aload_n hx hb dX6_isOrder_113 rfl (lv_at hl 2 rfl) ?_
              refine ri_get (v := .int (iI mm)) hx hb hts hown w fX6 0 12 (W0_of k_fl_RX6_189 rfl) rfl (congrArg (fun z => some (Value.int (iI z))) (hxm)) (by decide) dX6_isOrder_114 ?_
              refine ri_imul (z := 3 * mm) hx hb dX6_isOrder_117 rfl ?_
              refine ri_iconst hx hb dX6_isOrder_118 ?_
              refine ri_iadd (z := 3 * mm + 1) hx hb dX6_isOrder_119 rfl ?_
              refine lv_aload_n hx hb dX6_isOrder_120 rfl (lv_at hl 2 rfl) ?_
              refine ri_get (v := .int (iI (n_val (B 6) (B 10 0) (a + 1) 99))) hx hb hts hown w fX6 0 10 (W0_of k_fl_RX6_183 rfl) rfl rfl (by decide) dX6_isOrder_121 ?_
              refine ri_iast hx hb w 7 rfl (by omega) dX6_isOrder_124 (by omega) (fun H locs w => ?_)
              have w : Wd g A (mo_ws g b B (upT (upT (upT X 4 (fun _ => n_val (B 6) (B 10 0) (a + 1) 99)) 3 (fun _ => n_end (B 6) (B 10 0) (a + 1) 99)) 5 (up (up (X 5) (3 * mm) ((B 6) a)) (3 * mm + 1) (n_val (B 6) (B 10 0) (a + 1) 99)))) s H locs := w
              refine lv_aload_n hx hb dX6_isOrder_125 rfl (lv_at hl 2 rfl) ?_
              refine ri_get (v := .ref (b 7)) hx hb hts hown w fX6 0 11 (W0_of k_fl_RX6_28 rfl) rfl rfl (by decide) dX6_isOrder_126 ?_
              refine ri_iconst hx hb dX6_isOrder_129 ?_
              refine lv_aload_n hx hb dX6_isOrder_130 rfl (lv_at hl 2 rfl) ?_
              refine ri_get (v := .int (iI mm)) hx hb hts hown w fX6 0 12 (W0_of k_fl_RX6_189 rfl) rfl (congrArg (fun z => some (Value.int (iI z))) (hxm)) (by decide) dX6_isOrder_131 ?_
              refine ri_imul (z := 3 * mm) hx hb dX6_isOrder_134 rfl ?_
              refine ri_iconst hx hb dX6_isOrder_135 ?_
              refine ri_iadd (z := 3 * mm + 2) hx hb dX6_isOrder_136 rfl ?_
              refine ri_iconst hx hb dX6_isOrder_137 ?_
              refine ri_iast hx hb w 7 rfl (by omega) dX6_isOrder_138 (by omega) (fun H locs w => ?_)
              have w : Wd g A (mo_ws g b B (upT (upT (upT X 4 (fun _ => n_val (B 6) (B 10 0) (a + 1) 99)) 3 (fun _ => n_end (B 6) (B 10 0) (a + 1) 99)) 5 (up (up (up (X 5) (3 * mm) ((B 6) a)) (3 * mm + 1) (n_val (B 6) (B 10 0) (a + 1) 99)) (3 * mm + 2) 1))) s H locs := w
              refine lv_iload_n hx hb dX6_isOrder_139 rfl (lv_at hl 1 rfl) ?_
              refine ri_bipush hx hb dX6_isOrder_140 (by decide) ?_
              refine ri_icmp_ne (tgt := 183) hx hb dX6_isOrder_142 (by decide) (by omega) (by omega) (fun c44 => ?_) (fun c44 => ?_)
              · refine ri_iconst hx hb dX6_isOrder_183 ?_
                have hL : O_let (B 6) (B 10 0) a := by refine ⟨by omega, ?_⟩; omega
                have elo : o_lo (B 6) a = 1 := by unfold o_lo; omega
                have ehi : o_hi (B 6) a = 99 := by unfold o_hi; omega
                have hN : O_num (B 6) (B 10 0) a := by show o_lo (B 6) a ≤ _; rw [elo]; assumption
                have e1 : o_e1 (B 6) (B 10 0) a = n_end (B 6) (B 10 0) (a + 1) 99 := by unfold o_e1; rw [ehi]
                have e2 : o_arg (B 6) (B 10 0) a = n_val (B 6) (B 10 0) (a + 1) 99 := by unfold o_arg; rw [ehi]
                have hS : ¬ O_star (B 6) (B 10 0) a := by rw [show O_star (B 6) (B 10 0) a = (B 6 a = 114 ∧ o_e1 (B 6) (B 10 0) a < B 10 0 ∧ B 6 (o_e1 (B 6) (B 10 0) a) = 42) from rfl, e1]; omega
                have e3 : o_rep (B 6) (B 10 0) a = 1 := if_neg hS
                exact hend.2 _ _ _ _ ⟨_, rfl, (nz (by omega))⟩ _ _ dX6_isOrder_184 w (Or.inl ⟨rfl, ⟨hL, hN, fun hh => absurd hh hS⟩, (upT (upT (upT X 4 (fun _ => n_val (B 6) (B 10 0) (a + 1) 99)) 3 (fun _ => n_end (B 6) (B 10 0) (a + 1) 99)) 5 (up (up (up (X 5) (3 * mm) ((B 6) a)) (3 * mm + 1) (n_val (B 6) (B 10 0) (a + 1) 99)) (3 * mm + 2) 1)), rfl, rfl, ((o_end_2 hL hN hS).trans e1).symm, hxm, fun i => by rw [e2, e3]; show (up (up (up (X 5) (3 * mm) ((B 6) a)) (3 * mm + 1) (n_val (B 6) (B 10 0) (a + 1) 99)) (3 * mm + 2) 1) i = _; unfold up; omega⟩)
              · exact absurd c44 (by omega)
            · exact absurd c43 (by omega)
          · have w : Wd g A (mo_ws g b B (upT X 3 (fun _ => a + 1))) s H locs := w
            refine ri_if_ne (tgt := 96) hx hb dX6_isOrder_91 (by decide) (by omega) (fun c45 => ?_) (fun c45 => ?_)
            · exact absurd c45 (by omega)
            refine ri_iconst hx hb dX6_isOrder_94 ?_
            have hL : O_let (B 6) (B 10 0) a := by refine ⟨by omega, ?_⟩; omega
            have elo : o_lo (B 6) a = 1 := by unfold o_lo; omega
            have ehi : o_hi (B 6) a = 99 := by unfold o_hi; omega
            have hN : ¬ O_num (B 6) (B 10 0) a := by show ¬ (o_lo (B 6) a ≤ _); rw [elo]; assumption
            exact hend.2 _ _ _ _ ⟨_, rfl, (nz (by omega))⟩ _ _ dX6_isOrder_95 w (Or.inr ⟨rfl, fun hh => hN hh.2.1, (upT X 3 (fun _ => a + 1)), rfl, rfl, (o_end_1 hL hN).symm, hxm⟩)
      · refine lv_iload_n hx hb dX6_isOrder_37 rfl (lv_at hl 0 rfl) ?_
        refine ri_bipush hx hb dX6_isOrder_38 (by decide) ?_
        refine ri_icmp_eq (tgt := 45) hx hb dX6_isOrder_40 (by decide) (by omega) (by omega) (fun c46 => ?_) (fun c46 => ?_)
        · refine lv_aload_n hx hb dX6_isOrder_45 rfl (lv_at hl 1 rfl) ?_
          refine lv_dup hx hb dX6_isOrder_46 rfl ?_
          refine ri_get (v := .int (iI a)) hx hb hts hown w fX6 0 9 (W0_of k_fl_RX6_177 rfl) rfl (congrArg (fun z => some (Value.int (iI z))) (hxa)) (by decide) dX6_isOrder_47 ?_
          refine ri_iconst hx hb dX6_isOrder_50 ?_
          refine ri_iadd (z := a + 1) hx hb dX6_isOrder_51 rfl ?_
          refine ri_put hx hb hts hown w fX6 0 9 (W0_of k_fl_RX6_177 rfl) rfl (Nat.le_of_ble_eq_true rfl) (by decide) rfl rfl rfl dX6_isOrder_52 (fun H locs w => ?_)
          have w : Wd g A (mo_ws g b B (upT X 3 (fun _ => a + 1))) s H locs := w
          refine lv_iload_n hx hb dX6_isOrder_55 rfl (lv_at hl 0 rfl) ?_
          refine ri_bipush hx hb dX6_isOrder_56 (by decide) ?_
          refine ri_icmp_ne (tgt := 65) hx hb dX6_isOrder_58 (by decide) (by omega) (by omega) (fun c47 => ?_) (fun c47 => ?_)
          · exact absurd c47 (by omega)
          refine ri_iconst hx hb dX6_isOrder_61 ?_
          refine lv_goto (tgt := 66) hx hb dX6_isOrder_62 (by decide) ?_
          refine lv_istore_n (lv' := [(2, .int (iI 1)), (1, .int (iI ((B 6) a))), (0, .ref (b 0))]) hx hb dX6_isOrder_66 rfl hl (by decide) rfl (fun ls hl => ?_)
          refine lv_aload_n hx hb dX6_isOrder_67 rfl (lv_at hl 2 rfl) ?_
          refine lv_iload_n hx hb dX6_isOrder_68 rfl (lv_at hl 0 rfl) ?_
          refine ri_if_eq (tgt := 76) hx hb dX6_isOrder_69 (by decide) (by omega) (fun c48 => ?_) (fun c48 => ?_)
          · exact absurd c48 (by omega)
          refine ri_iconst hx hb dX6_isOrder_72 ?_
          refine lv_goto (tgt := 77) hx hb dX6_isOrder_73 (by decide) ?_
          refine lv_iload_n hx hb dX6_isOrder_77 rfl (lv_at hl 0 rfl) ?_
          refine ri_if_eq (tgt := 86) hx hb dX6_isOrder_78 (by decide) (by omega) (fun c49 => ?_) (fun c49 => ?_)
          · exact absurd c49 (by omega)
          refine ri_bipush hx hb dX6_isOrder_81 (by decide) ?_
          refine lv_goto (tgt := 88) hx hb dX6_isOrder_83 (by decide) ?_
          refine call_wV (wr := []) (As := [.int (iI 1), .int (iI 99)]) (rest := []) hx hb (hml.trans hl.1.symm) hown hts w lk_RX6_186 (fun sz => t_X6_isNumber l g b _ B (upT X 3 (fun _ => a + 1)) 1 99 (a + 1) hW (rfl) (by omega) (by omega) (by omega) sz) [0, 1, 2, 3, 4, 5, 6, 7, 8] [] rfl rfl rfl rfl (by decide) (call_recv w (q0 := 0) rfl fX6.1) rfl rfl (Nat.le_of_ble_eq_true rfl) ⟨Nat.le_of_ble_eq_true rfl, Nat.le_of_ble_eq_true rfl⟩ ⟨Nat.le_of_ble_eq_true rfl, Nat.le_of_ble_eq_true rfl⟩ dX6_isOrder_88 (fun v w1 H locs hr w => ?_)
          rcases hr with ⟨rfl, c50, rfl⟩ | ⟨rfl, c50, rfl⟩
          · have w : Wd g A (mo_ws g b B (upT (upT X 4 (fun _ => n_val (B 6) (B 10 0) (a + 1) 99)) 3 (fun _ => n_end (B 6) (B 10 0) (a + 1) 99))) s H locs := w
            have qc50 := n_end_rg (t := B 6) (n := B 10 0) (a := a + 1) (hi := 99) (by omega)
            have vc50 := n_val_rg (t := B 6) (n := B 10 0) (a := a + 1) (hi := 99) (by omega)
            refine ri_if_ne (tgt := 96) hx hb dX6_isOrder_91 (by decide) (by omega) (fun c51 => ?_) (fun c51 => ?_)
            · refine lv_aload_n hx hb dX6_isOrder_96 rfl (lv_at hl 2 rfl) ?_
              refine ri_get (v := .ref (b 7)) hx hb hts hown w fX6 0 11 (W0_of k_fl_RX6_28 rfl) rfl rfl (by decide) dX6_isOrder_97 ?_
              refine ri_iconst hx hb dX6_isOrder_100 ?_
              refine lv_aload_n hx hb dX6_isOrder_101 rfl (lv_at hl 2 rfl) ?_
              refine ri_get (v := .int (iI mm)) hx hb hts hown w fX6 0 12 (W0_of k_fl_RX6_189 rfl) rfl (congrArg (fun z => some (Value.int (iI z))) (hxm)) (by decide) dX6_isOrder_102 ?_
              refine ri_imul (z := 3 * mm) hx hb dX6_isOrder_105 rfl ?_
              refine lv_iload_n hx hb dX6_isOrder_106 rfl (lv_at hl 1 rfl) ?_
              refine ri_iast hx hb w 7 rfl (by omega) dX6_isOrder_107 (by omega) (fun H locs w => ?_)
              have w : Wd g A (mo_ws g b B (upT (upT (upT X 4 (fun _ => n_val (B 6) (B 10 0) (a + 1) 99)) 3 (fun _ => n_end (B 6) (B 10 0) (a + 1) 99)) 5 (up (X 5) (3 * mm) ((B 6) a)))) s H locs := w
              refine lv_aload_n hx hb dX6_isOrder_108 rfl (lv_at hl 2 rfl) ?_
              refine ri_get (v := .ref (b 7)) hx hb hts hown w fX6 0 11 (W0_of k_fl_RX6_28 rfl) rfl rfl (by decide) dX6_isOrder_109 ?_
              refine ri_iconst hx hb dX6_isOrder_112 ?_
              refine lv_aload_n hx hb dX6_isOrder_113 rfl (lv_at hl 2 rfl) ?_
              refine ri_get (v := .int (iI mm)) hx hb hts hown w fX6 0 12 (W0_of k_fl_RX6_189 rfl) rfl (congrArg (fun z => some (Value.int (iI z))) (hxm)) (by decide) dX6_isOrder_114 ?_
              refine ri_imul (z := 3 * mm) hx hb dX6_isOrder_117 rfl ?_
              refine ri_iconst hx hb dX6_isOrder_118 ?_
              refine ri_iadd (z := 3 * mm + 1) hx hb dX6_isOrder_119 rfl ?_
              refine lv_aload_n hx hb dX6_isOrder_120 rfl (lv_at hl 2 rfl) ?_
              refine ri_get (v := .int (iI (n_val (B 6) (B 10 0) (a + 1) 99))) hx hb hts hown w fX6 0 10 (W0_of k_fl_RX6_183 rfl) rfl rfl (by decide) dX6_isOrder_121 ?_
              refine ri_iast hx hb w 7 rfl (by omega) dX6_isOrder_124 (by omega) (fun H locs w => ?_)
              have w : Wd g A (mo_ws g b B (upT (upT (upT X 4 (fun _ => n_val (B 6) (B 10 0) (a + 1) 99)) 3 (fun _ => n_end (B 6) (B 10 0) (a + 1) 99)) 5 (up (up (X 5) (3 * mm) ((B 6) a)) (3 * mm + 1) (n_val (B 6) (B 10 0) (a + 1) 99)))) s H locs := w
              refine lv_aload_n hx hb dX6_isOrder_125 rfl (lv_at hl 2 rfl) ?_
              refine ri_get (v := .ref (b 7)) hx hb hts hown w fX6 0 11 (W0_of k_fl_RX6_28 rfl) rfl rfl (by decide) dX6_isOrder_126 ?_
              refine ri_iconst hx hb dX6_isOrder_129 ?_
              refine lv_aload_n hx hb dX6_isOrder_130 rfl (lv_at hl 2 rfl) ?_
              refine ri_get (v := .int (iI mm)) hx hb hts hown w fX6 0 12 (W0_of k_fl_RX6_189 rfl) rfl (congrArg (fun z => some (Value.int (iI z))) (hxm)) (by decide) dX6_isOrder_131 ?_
              refine ri_imul (z := 3 * mm) hx hb dX6_isOrder_134 rfl ?_
              refine ri_iconst hx hb dX6_isOrder_135 ?_
              refine ri_iadd (z := 3 * mm + 2) hx hb dX6_isOrder_136 rfl ?_
              refine ri_iconst hx hb dX6_isOrder_137 ?_
              refine ri_iast hx hb w 7 rfl (by omega) dX6_isOrder_138 (by omega) (fun H locs w => ?_)
              have w : Wd g A (mo_ws g b B (upT (upT (upT X 4 (fun _ => n_val (B 6) (B 10 0) (a + 1) 99)) 3 (fun _ => n_end (B 6) (B 10 0) (a + 1) 99)) 5 (up (up (up (X 5) (3 * mm) ((B 6) a)) (3 * mm + 1) (n_val (B 6) (B 10 0) (a + 1) 99)) (3 * mm + 2) 1))) s H locs := w
              refine lv_iload_n hx hb dX6_isOrder_139 rfl (lv_at hl 1 rfl) ?_
              refine ri_bipush hx hb dX6_isOrder_140 (by decide) ?_
              refine ri_icmp_ne (tgt := 183) hx hb dX6_isOrder_142 (by decide) (by omega) (by omega) (fun c52 => ?_) (fun c52 => ?_)
              · refine ri_iconst hx hb dX6_isOrder_183 ?_
                have hL : O_let (B 6) (B 10 0) a := by refine ⟨by omega, ?_⟩; omega
                have elo : o_lo (B 6) a = 1 := by unfold o_lo; omega
                have ehi : o_hi (B 6) a = 99 := by unfold o_hi; omega
                have hN : O_num (B 6) (B 10 0) a := by show o_lo (B 6) a ≤ _; rw [elo]; assumption
                have e1 : o_e1 (B 6) (B 10 0) a = n_end (B 6) (B 10 0) (a + 1) 99 := by unfold o_e1; rw [ehi]
                have e2 : o_arg (B 6) (B 10 0) a = n_val (B 6) (B 10 0) (a + 1) 99 := by unfold o_arg; rw [ehi]
                have hS : ¬ O_star (B 6) (B 10 0) a := by rw [show O_star (B 6) (B 10 0) a = (B 6 a = 114 ∧ o_e1 (B 6) (B 10 0) a < B 10 0 ∧ B 6 (o_e1 (B 6) (B 10 0) a) = 42) from rfl, e1]; omega
                have e3 : o_rep (B 6) (B 10 0) a = 1 := if_neg hS
                exact hend.2 _ _ _ _ ⟨_, rfl, (nz (by omega))⟩ _ _ dX6_isOrder_184 w (Or.inl ⟨rfl, ⟨hL, hN, fun hh => absurd hh hS⟩, (upT (upT (upT X 4 (fun _ => n_val (B 6) (B 10 0) (a + 1) 99)) 3 (fun _ => n_end (B 6) (B 10 0) (a + 1) 99)) 5 (up (up (up (X 5) (3 * mm) ((B 6) a)) (3 * mm + 1) (n_val (B 6) (B 10 0) (a + 1) 99)) (3 * mm + 2) 1)), rfl, rfl, ((o_end_2 hL hN hS).trans e1).symm, hxm, fun i => by rw [e2, e3]; show (up (up (up (X 5) (3 * mm) ((B 6) a)) (3 * mm + 1) (n_val (B 6) (B 10 0) (a + 1) 99)) (3 * mm + 2) 1) i = _; unfold up; omega⟩)
              · exact absurd c52 (by omega)
            · exact absurd c51 (by omega)
          · have w : Wd g A (mo_ws g b B (upT X 3 (fun _ => a + 1))) s H locs := w
            refine ri_if_ne (tgt := 96) hx hb dX6_isOrder_91 (by decide) (by omega) (fun c53 => ?_) (fun c53 => ?_)
            · exact absurd c53 (by omega)
            refine ri_iconst hx hb dX6_isOrder_94 ?_
            have hL : O_let (B 6) (B 10 0) a := by refine ⟨by omega, ?_⟩; omega
            have elo : o_lo (B 6) a = 1 := by unfold o_lo; omega
            have ehi : o_hi (B 6) a = 99 := by unfold o_hi; omega
            have hN : ¬ O_num (B 6) (B 10 0) a := by show ¬ (o_lo (B 6) a ≤ _); rw [elo]; assumption
            exact hend.2 _ _ _ _ ⟨_, rfl, (nz (by omega))⟩ _ _ dX6_isOrder_95 w (Or.inr ⟨rfl, fun hh => hN hh.2.1, (upT X 3 (fun _ => a + 1)), rfl, rfl, (o_end_1 hL hN).symm, hxm⟩)
        · refine ri_iconst hx hb dX6_isOrder_43 ?_
          have hL : ¬ O_let (B 6) (B 10 0) a := by rintro ⟨q1, q2⟩; omega
          exact hend.2 _ _ _ _ ⟨_, rfl, (nz (by omega))⟩ _ _ dX6_isOrder_44 w (Or.inr ⟨rfl, fun hh => hL hh.1, X, rfl, rfl, hxa.trans (o_end_0 hL).symm, hxm⟩)
