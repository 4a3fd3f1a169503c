set_option maxHeartbeats 4000000 in
set_option maxRecDepth 100000 in
theorem t_X3_digitAt (l : Launch) (g : GG) (o : Nat → Nat) (P : Nat → Int → Int) (t : Int → Int) (tn : Int) (v : Int) (ht : P 1 = t) (hn5 : P 5 0 = tn) (hT : Tx t) (hnr : 0 ≤ tn ∧ tn ≤ 60) (h1 : 0 ≤ v ∧ v ≤ 61) : Met l yX3_digitAt (wm yX3_digitAt cX3_digitAt 2 (some .int)) (rmm 0 0 0) (pR g (or_ws g o P) [.ref (o 0), .int (iI v)]) (qR (some (.int (iI (d_at t tn v))))) 0 0 (fun _ => False) := by
  refine met_r (by decide) (Nat.le_of_ble_eq_true rfl) ?_
  intro p e s m args below meth c Q ls hx hb hml hown hts hl w hend
  have hl : lv_has ls 2 [(0, .ref (o 0)), (1, .int (iI v))] := hl
  refine lv_iload_n hx hb dX3_digitAt_0 rfl (lv_at hl 1 rfl) ?_
  refine ri_if_lt (tgt := 34) hx hb dX3_digitAt_1 (by decide) (by omega) (fun c1 => ?_) (fun c1 => ?_)
  · refine ri_iconst hx hb dX3_digitAt_34 ?_
    exact hend.2 _ (congrArg (fun z => some (Value.int (iI z))) (show d_at t tn v = -1 from by unfold d_at; omega)) ⟨_, rfl, rfl⟩ _ _ dX3_digitAt_35
  · refine lv_iload_n hx hb dX3_digitAt_4 rfl (lv_at hl 1 rfl) ?_
    refine lv_aload_n hx hb dX3_digitAt_5 rfl (lv_at hl 0 rfl) ?_
    refine ri_get (v := .int (iI tn)) hx hb hts hown w fX3 0 1 (W0_of k_fl_RX3_15 rfl) rfl (congrArg (fun z => some (Value.int (iI z))) (hn5)) (by decide) dX3_digitAt_6 ?_
    refine ri_icmp_ge (tgt := 34) hx hb dX3_digitAt_9 (by decide) (by omega) (by omega) (fun c2 => ?_) (fun c2 => ?_)
    · refine ri_iconst hx hb dX3_digitAt_34 ?_
      exact hend.2 _ (congrArg (fun z => some (Value.int (iI z))) (show d_at t tn v = -1 from by unfold d_at; omega)) ⟨_, rfl, rfl⟩ _ _ dX3_digitAt_35
    · refine lv_aload_n hx hb dX3_digitAt_12 rfl (lv_at hl 0 rfl) ?_
      refine ri_get (v := .ref (o 1)) hx hb hts hown w fX3 0 0 (W0_of k_fl_RX3_9 rfl) rfl rfl (by decide) dX3_digitAt_13 ?_
      refine lv_iload_n hx hb dX3_digitAt_16 rfl (lv_at hl 1 rfl) ?_
      refine ri_cald (f := P 1) (v := t v) hx hb w 1 rfl (by omega) (congrFun ht _) dX3_digitAt_17 (by omega) ?_
      have r3 := hT.bd v
      refine ri_bipush hx hb dX3_digitAt_18 (by decide) ?_
      refine ri_icmp_lt (tgt := 34) hx hb dX3_digitAt_20 (by decide) (by omega) (by omega) (fun c4 => ?_) (fun c4 => ?_)
      · refine ri_iconst hx hb dX3_digitAt_34 ?_
        exact hend.2 _ (congrArg (fun z => some (Value.int (iI z))) (show d_at t tn v = -1 from by unfold d_at; omega)) ⟨_, rfl, rfl⟩ _ _ dX3_digitAt_35
      · refine lv_aload_n hx hb dX3_digitAt_23 rfl (lv_at hl 0 rfl) ?_
        refine ri_get (v := .ref (o 1)) hx hb hts hown w fX3 0 0 (W0_of k_fl_RX3_9 rfl) rfl rfl (by decide) dX3_digitAt_24 ?_
        refine lv_iload_n hx hb dX3_digitAt_27 rfl (lv_at hl 1 rfl) ?_
        refine ri_cald (f := P 1) (v := t v) hx hb w 1 rfl (by omega) (congrFun ht _) dX3_digitAt_28 (by omega) ?_
        refine ri_bipush hx hb dX3_digitAt_29 (by decide) ?_
        refine ri_icmp_le (tgt := 36) hx hb dX3_digitAt_31 (by decide) (by omega) (by omega) (fun c5 => ?_) (fun c5 => ?_)
        · refine lv_aload_n hx hb dX3_digitAt_36 rfl (lv_at hl 0 rfl) ?_
          refine ri_get (v := .ref (o 1)) hx hb hts hown w fX3 0 0 (W0_of k_fl_RX3_9 rfl) rfl rfl (by decide) dX3_digitAt_37 ?_
          refine lv_iload_n hx hb dX3_digitAt_40 rfl (lv_at hl 1 rfl) ?_
          refine ri_cald (f := P 1) (v := t v) hx hb w 1 rfl (by omega) (congrFun ht _) dX3_digitAt_41 (by omega) ?_
          refine ri_bipush hx hb dX3_digitAt_42 (by decide) ?_
          refine ri_isub (z := t v - 48) hx hb dX3_digitAt_44 rfl ?_
          exact hend.2 _ (congrArg (fun z => some (Value.int (iI z))) (show d_at t tn v = t v - 48 from by unfold d_at; omega)) ⟨_, rfl, rfl⟩ _ _ dX3_digitAt_45
        · refine ri_iconst hx hb dX3_digitAt_34 ?_
          exact hend.2 _ (congrArg (fun z => some (Value.int (iI z))) (show d_at t tn v = -1 from by unfold d_at; omega)) ⟨_, rfl, rfl⟩ _ _ dX3_digitAt_35

set_option maxHeartbeats 4000000 in
set_option maxRecDepth 100000 in
theorem t_X3_parseNumber (l : Launch) (g : GG) (o : Nat → Nat) (P : Nat → Int → Int) (t : Int → Int) (tn : Int) (a : Int) (lo : Int) (hi : Int) (ht : P 1 = t) (hn5 : P 5 0 = tn) (hT : Tx t) (hnr : 0 ≤ tn ∧ tn ≤ 60) (hxa : P 7 0 = a) (ha : 0 ≤ a ∧ a ≤ 60) (h1 : 0 ≤ lo ∧ lo ≤ 9) (h2 : 0 ≤ hi ∧ hi ≤ 99) (sz : Nat) : Met l yX3_parseNumber (wm yX3_parseNumber cX3_parseNumber 5 (some .int)) (rmm 1 0 0) (pW g (or_ws g o P) sz [.ref (o 0), .int (iI lo), .int (iI hi)]) (qW g (or_ws g o P) (fun vv ww => (vv = some (.int (iI (n_val t tn a hi))) ∧ lo ≤ d_at t tn a ∧ ww = or_ws g o (upT P 7 (fun _ => n_end t tn a hi))) ∨ (vv = some (.int (iI (-1))) ∧ ¬ lo ≤ d_at t tn a ∧ ww = or_ws g o P))) 0 0 (va_A (or_ws g o P) sz) := by
  refine met_w (by decide) (Nat.le_of_ble_eq_true rfl) ?_
  intro p e s m args below meth c Q ls A hx hb hml hown hts hl w hin hend
  obtain ⟨H, hH0⟩ : ∃ H, H = s.heap := ⟨_, rfl⟩
  obtain ⟨locs, hL0⟩ : ∃ locs : List Loc, locs = [] := ⟨_, rfl⟩
  rw [← hH0, ← hL0] at w
  rw [← hH0, ← hL0]
  have hl : lv_has ls 5 [(0, .ref (o 0)), (1, .int (iI lo)), (2, .int (iI hi))] := hl
  refine lv_aload_n hx hb dX3_parseNumber_0 rfl (lv_at hl 0 rfl) ?_
  refine lv_aload_n hx hb dX3_parseNumber_1 rfl (lv_at hl 0 rfl) ?_
  refine ri_get (v := .int (iI a)) hx hb hts hown w fX3 0 6 (W0_of k_fl_RX3_32 rfl) rfl (congrArg (fun z => some (Value.int (iI z))) (hxa)) (by decide) dX3_parseNumber_2 ?_
  refine call_rV (As := [.int (iI a)]) (rest := []) hx hb (hml.trans hl.1.symm) hown hts w lk_RX3_43 (t_X3_digitAt l g o P t tn a ht hn5 hT hnr (by omega)) [0, 1, 2, 3, 4] rfl rfl (call_recv w (q0 := 0) rfl fX3.1) rfl rfl (Nat.le_of_ble_eq_true rfl) ⟨Nat.le_of_ble_eq_true rfl, Nat.le_of_ble_eq_true rfl⟩ ⟨Nat.le_of_ble_eq_true rfl, Nat.le_of_ble_eq_true rfl⟩ dX3_parseNumber_5 ?_
  have r1 := d_rg t tn a
  refine lv_istore_n (lv' := [(3, .int (iI (d_at t tn a))), (0, .ref (o 0)), (1, .int (iI lo)), (2, .int (iI hi))]) hx hb dX3_parseNumber_8 rfl hl (by decide) rfl (fun ls hl => ?_)
  refine lv_iload_n hx hb dX3_parseNumber_9 rfl (lv_at hl 0 rfl) ?_
  refine ri_iconst hx hb dX3_parseNumber_10 ?_
  refine ri_icmp_eq (tgt := 19) hx hb dX3_parseNumber_11 (by decide) (by omega) (by omega) (fun c2 => ?_) (fun c2 => ?_)
  · refine ri_iconst hx hb dX3_parseNumber_19 ?_
    exact hend.2 _ _ _ _ ⟨_, rfl, rfl⟩ _ _ dX3_parseNumber_20 w (Or.inr ⟨rfl, by omega, rfl⟩)
  · refine lv_iload_n hx hb dX3_parseNumber_14 rfl (lv_at hl 0 rfl) ?_
    refine lv_iload_n hx hb dX3_parseNumber_15 rfl (lv_at hl 2 rfl) ?_
    refine ri_icmp_ge (tgt := 21) hx hb dX3_parseNumber_16 (by decide) (by omega) (by omega) (fun c3 => ?_) (fun c3 => ?_)
    · refine lv_aload_n hx hb dX3_parseNumber_21 rfl (lv_at hl 1 rfl) ?_
      refine lv_dup hx hb dX3_parseNumber_22 rfl ?_
      refine ri_get (v := .int (iI a)) hx hb hts hown w fX3 0 6 (W0_of k_fl_RX3_32 rfl) rfl (congrArg (fun z => some (Value.int (iI z))) (hxa)) (by decide) dX3_parseNumber_23 ?_
      refine ri_iconst hx hb dX3_parseNumber_26 ?_
      refine ri_iadd (z := a + 1) hx hb dX3_parseNumber_27 rfl ?_
      refine ri_put hx hb hts hown w fX3 0 6 (W0_of k_fl_RX3_32 rfl) rfl (Nat.le_of_ble_eq_true rfl) (by decide) rfl rfl rfl dX3_parseNumber_28 (fun H locs w => ?_)
      have w : Wd g A (or_ws g o (upT P 7 (fun _ => a + 1))) s H locs := w
      refine lv_aload_n hx hb dX3_parseNumber_31 rfl (lv_at hl 1 rfl) ?_
      refine lv_aload_n hx hb dX3_parseNumber_32 rfl (lv_at hl 1 rfl) ?_
      refine ri_get (v := .int (iI (a + 1))) hx hb hts hown w fX3 0 6 (W0_of k_fl_RX3_32 rfl) rfl rfl (by decide) dX3_parseNumber_33 ?_
      refine call_rV (As := [.int (iI (a + 1))]) (rest := []) hx hb (hml.trans hl.1.symm) hown hts w lk_RX3_43 (t_X3_digitAt l g o (upT P 7 (fun _ => a + 1)) t tn (a + 1) ht hn5 hT hnr (by omega)) [0, 1, 2, 3, 4] rfl rfl (call_recv w (q0 := 0) rfl fX3.1) rfl rfl (Nat.le_of_ble_eq_true rfl) ⟨Nat.le_of_ble_eq_true rfl, Nat.le_of_ble_eq_true rfl⟩ ⟨Nat.le_of_ble_eq_true rfl, Nat.le_of_ble_eq_true rfl⟩ dX3_parseNumber_36 ?_
      have r4 := d_rg t tn (a + 1)
      refine lv_istore (lv' := [(4, .int (iI (d_at t tn (a + 1)))), (3, .int (iI (d_at t tn a))), (0, .ref (o 0)), (1, .int (iI lo)), (2, .int (iI hi))]) hx hb dX3_parseNumber_39 hl (by decide) rfl (fun ls hl => ?_)
      refine lv_iload_n hx hb dX3_parseNumber_41 rfl (lv_at hl 1 rfl) ?_
      refine ri_if_le (tgt := 80) hx hb dX3_parseNumber_42 (by decide) (by omega) (fun c5 => ?_) (fun c5 => ?_)
      · refine lv_iload_n hx hb dX3_parseNumber_80 rfl (lv_at hl 1 rfl) ?_
        have e5 : n_val t tn a hi = d_at t tn a := by simp only [n_val, N_two]; omega
        have e4 : n_end t tn a hi = a + 1 := by simp only [n_end, N_two]; omega
        exact hend.2 _ _ _ _ ⟨_, rfl, rfl⟩ _ _ dX3_parseNumber_81 w (Or.inl ⟨by rw [e5], by omega, by rw [e4]⟩)
      · refine lv_iload hx hb dX3_parseNumber_45 (lv_at hl 0 rfl) ?_
        refine ri_iconst hx hb dX3_parseNumber_47 ?_
        refine ri_icmp_eq (tgt := 80) hx hb dX3_parseNumber_48 (by decide) (by omega) (by omega) (fun c6 => ?_) (fun c6 => ?_)
        · refine lv_iload_n hx hb dX3_parseNumber_80 rfl (lv_at hl 1 rfl) ?_
          have e5 : n_val t tn a hi = d_at t tn a := by simp only [n_val, N_two]; omega
          have e4 : n_end t tn a hi = a + 1 := by simp only [n_end, N_two]; omega
          exact hend.2 _ _ _ _ ⟨_, rfl, rfl⟩ _ _ dX3_parseNumber_81 w (Or.inl ⟨by rw [e5], by omega, by rw [e4]⟩)
        · refine ri_bipush hx hb dX3_parseNumber_51 (by decide) ?_
          refine lv_iload_n hx hb dX3_parseNumber_53 rfl (lv_at hl 1 rfl) ?_
          refine ri_imul (z := 10 * d_at t tn a) hx hb dX3_parseNumber_54 (by omega) ?_
          refine lv_iload hx hb dX3_parseNumber_55 (lv_at hl 0 rfl) ?_
          refine ri_iadd (z := d_at t tn (a + 1) + 10 * d_at t tn a) hx hb dX3_parseNumber_57 (by omega) ?_
          refine lv_iload_n hx hb dX3_parseNumber_58 rfl (lv_at hl 4 rfl) ?_
          refine ri_icmp_gt (tgt := 80) hx hb dX3_parseNumber_59 (by decide) (by omega) (by omega) (fun c7 => ?_) (fun c7 => ?_)
          · refine lv_iload_n hx hb dX3_parseNumber_80 rfl (lv_at hl 1 rfl) ?_
            have e5 : n_val t tn a hi = d_at t tn a := by simp only [n_val, N_two]; omega
            have e4 : n_end t tn a hi = a + 1 := by simp only [n_end, N_two]; omega
            exact hend.2 _ _ _ _ ⟨_, rfl, rfl⟩ _ _ dX3_parseNumber_81 w (Or.inl ⟨by rw [e5], by omega, by rw [e4]⟩)
          · refine ri_bipush hx hb dX3_parseNumber_62 (by decide) ?_
            refine lv_iload_n hx hb dX3_parseNumber_64 rfl (lv_at hl 1 rfl) ?_
            refine ri_imul (z := 10 * d_at t tn a) hx hb dX3_parseNumber_65 (by omega) ?_
            refine lv_iload hx hb dX3_parseNumber_66 (lv_at hl 0 rfl) ?_
            refine ri_iadd (z := d_at t tn (a + 1) + 10 * d_at t tn a) hx hb dX3_parseNumber_68 (by omega) ?_
            refine lv_istore_n (lv' := [(3, .int (iI (d_at t tn (a + 1) + 10 * d_at t tn a))), (4, .int (iI (d_at t tn (a + 1)))), (0, .ref (o 0)), (1, .int (iI lo)), (2, .int (iI hi))]) hx hb dX3_parseNumber_69 rfl hl (by decide) rfl (fun ls hl => ?_)
            refine lv_aload_n hx hb dX3_parseNumber_70 rfl (lv_at hl 2 rfl) ?_
            refine lv_dup hx hb dX3_parseNumber_71 rfl ?_
            refine ri_get (v := .int (iI (a + 1))) hx hb hts hown w fX3 0 6 (W0_of k_fl_RX3_32 rfl) rfl rfl (by decide) dX3_parseNumber_72 ?_
            refine ri_iconst hx hb dX3_parseNumber_75 ?_
            refine ri_iadd (z := a + 2) hx hb dX3_parseNumber_76 (by omega) ?_
            refine ri_put hx hb hts hown w fX3 0 6 (W0_of k_fl_RX3_32 rfl) rfl (Nat.le_of_ble_eq_true rfl) (by decide) rfl rfl rfl dX3_parseNumber_77 (fun H locs w => ?_)
            have w : Wd g A (or_ws g o (upT P 7 (fun _ => a + 2))) s H locs := w
            refine lv_iload_n hx hb dX3_parseNumber_80 rfl (lv_at hl 0 rfl) ?_
            have e5 : n_val t tn a hi = d_at t tn (a + 1) + 10 * d_at t tn a := by simp only [n_val, N_two]; omega
            have e4 : n_end t tn a hi = a + 2 := by simp only [n_end, N_two]; omega
            exact hend.2 _ _ _ _ ⟨_, rfl, rfl⟩ _ _ dX3_parseNumber_81 w (Or.inl ⟨by rw [e5], by omega, by rw [e4]⟩)
    · refine ri_iconst hx hb dX3_parseNumber_19 ?_
      exact hend.2 _ _ _ _ ⟨_, rfl, rfl⟩ _ _ dX3_parseNumber_20 w (Or.inr ⟨rfl, by omega, rfl⟩)

set_option maxHeartbeats 4000000 in
set_option maxRecDepth 100000 in
theorem t_X3_parseOrder (l : Launch) (g : GG) (o : Nat → Nat) (P : Nat → Int → Int) (t : Int → Int) (tn : Int) (a : Int) (k : Int) (ht : P 1 = t) (hn5 : P 5 0 = tn) (hT : Tx t) (hnr : 0 ≤ tn ∧ tn ≤ 60) (hxa : P 7 0 = a) (ha : 0 ≤ a ∧ a ≤ 60) (hxk : P 6 0 = k) (hk : 0 ≤ k ∧ k < 32) (sz : Nat) : Met l yX3_parseOrder (wm yX3_parseOrder cX3_parseOrder 4 (some .boolean)) (rmm 2 0 0) (pW g (or_ws g o P) sz [.ref (o 0)]) (qW g (or_ws g o P) (fun vv ww => (vv = some (.int (iI 1)) ∧ O_ok t tn a ∧ ∃ P' : Nat → Int → Int, ww = or_ws g o P' ∧ P' 1 = t ∧ P' 5 0 = tn ∧ P' 7 0 = o_end t tn a ∧ P' 6 0 = k + 1 ∧ P' 2 = up (P 2) k (t a) ∧ P' 3 = up (P 3) k (o_arg t tn a) ∧ P' 4 = up (P 4) k (o_rep t tn a)) ∨ (vv = some (.int (iI 0)) ∧ ¬ O_ok t tn a ∧ ∃ P' : Nat → Int → Int, ww = or_ws g o P' ∧ P' 1 = t ∧ P' 5 0 = tn ∧ P' 7 0 = o_end t tn a ∧ P' 6 0 = k))) 0 0 (va_A (or_ws g o P) sz) := by
  refine met_w (by decide) (Nat.le_of_ble_eq_true rfl) ?_
  intro p e s m args below meth c Q ls A hx hb hml hown hts hl w hin hend
  obtain ⟨H, hH0⟩ : ∃ H, H = s.heap := ⟨_, rfl⟩
  obtain ⟨locs, hL0⟩ : ∃ locs : List Loc, locs = [] := ⟨_, rfl⟩
  rw [← hH0, ← hL0] at w
  rw [← hH0, ← hL0]
  have hl : lv_has ls 4 [(0, .ref (o 0))] := hl
  refine lv_aload_n hx hb dX3_parseOrder_0 rfl (lv_at hl 0 rfl) ?_
  refine ri_get (v := .int (iI a)) hx hb hts hown w fX3 0 6 (W0_of k_fl_RX3_32 rfl) rfl (congrArg (fun z => some (Value.int (iI z))) (hxa)) (by decide) dX3_parseOrder_1 ?_
  refine lv_aload_n hx hb dX3_parseOrder_4 rfl (lv_at hl 0 rfl) ?_
  refine ri_get (v := .int (iI tn)) hx hb hts hown w fX3 0 1 (W0_of k_fl_RX3_15 rfl) rfl (congrArg (fun z => some (Value.int (iI z))) (hn5)) (by decide) dX3_parseOrder_5 ?_
  refine ri_icmp_ge (tgt := 20) hx hb dX3_parseOrder_8 (by decide) (by omega) (by omega) (fun c1 => ?_) (fun c1 => ?_)
  · refine ri_iconst hx hb dX3_parseOrder_20 ?_
    have hL : ¬ O_let t tn a := by rintro ⟨q1, q2⟩; omega
    exact hend.2 _ _ _ _ ⟨_, rfl, (nz (by omega))⟩ _ _ dX3_parseOrder_21 w (Or.inr ⟨rfl, fun hh => hL hh.1, P, rfl, ht, hn5, hxa.trans (o_end_0 hL).symm, hxk⟩)
  · refine lv_aload_n hx hb dX3_parseOrder_11 rfl (lv_at hl 0 rfl) ?_
    refine ri_get (v := .int (iI k)) hx hb hts hown w fX3 0 5 (W0_of k_fl_RX3_29 rfl) rfl (congrArg (fun z => some (Value.int (iI z))) (hxk)) (by decide) dX3_parseOrder_12 ?_
    refine ri_bipush hx hb dX3_parseOrder_15 (by decide) ?_
    refine ri_icmp_lt (tgt := 22) hx hb dX3_parseOrder_17 (by decide) (by omega) (by omega) (fun c2 => ?_) (fun c2 => ?_)
    · refine lv_aload_n hx hb dX3_parseOrder_22 rfl (lv_at hl 0 rfl) ?_
      refine ri_get (v := .ref (o 1)) hx hb hts hown w fX3 0 0 (W0_of k_fl_RX3_9 rfl) rfl rfl (by decide) dX3_parseOrder_23 ?_
      refine lv_aload_n hx hb dX3_parseOrder_26 rfl (lv_at hl 0 rfl) ?_
      refine ri_get (v := .int (iI a)) hx hb hts hown w fX3 0 6 (W0_of k_fl_RX3_32 rfl) rfl (congrArg (fun z => some (Value.int (iI z))) (hxa)) (by decide) dX3_parseOrder_27 ?_
      refine ri_cald (f := P 1) (v := t a) hx hb w 1 rfl (by omega) (congrFun ht _) dX3_parseOrder_30 (by omega) ?_
      have r3 := hT.bd a
      refine lv_istore_n (lv' := [(1, .int (iI (t a))), (0, .ref (o 0))]) hx hb dX3_parseOrder_31 rfl hl (by decide) rfl (fun ls hl => ?_)
      refine lv_iload_n hx hb dX3_parseOrder_32 rfl (lv_at hl 0 rfl) ?_
      refine ri_bipush hx hb dX3_parseOrder_33 (by decide) ?_
      refine ri_icmp_eq (tgt := 52) hx hb dX3_parseOrder_35 (by decide) (by omega) (by omega) (fun c4 => ?_) (fun c4 => ?_)
      · refine lv_aload_n hx hb dX3_parseOrder_52 rfl (lv_at hl 1 rfl) ?_
        refine lv_dup hx hb dX3_parseOrder_53 rfl ?_
        refine ri_get (v := .int (iI a)) hx hb hts hown w fX3 0 6 (W0_of k_fl_RX3_32 rfl) rfl (congrArg (fun z => some (Value.int (iI z))) (hxa)) (by decide) dX3_parseOrder_54 ?_
        refine ri_iconst hx hb dX3_parseOrder_57 ?_
        refine ri_iadd (z := a + 1) hx hb dX3_parseOrder_58 rfl ?_
        refine ri_put hx hb hts hown w fX3 0 6 (W0_of k_fl_RX3_32 rfl) rfl (Nat.le_of_ble_eq_true rfl) (by decide) rfl rfl rfl dX3_parseOrder_59 (fun H locs w => ?_)
        have w : Wd g A (or_ws g o (upT P 7 (fun _ => a + 1))) s H locs := w
        refine lv_iload_n hx hb dX3_parseOrder_62 rfl (lv_at hl 0 rfl) ?_
        refine ri_bipush hx hb dX3_parseOrder_63 (by decide) ?_
        refine ri_icmp_ne (tgt := 78) hx hb dX3_parseOrder_65 (by decide) (by omega) (by omega) (fun c5 => ?_) (fun c5 => ?_)
        · refine lv_aload_n hx hb dX3_parseOrder_78 rfl (lv_at hl 1 rfl) ?_
          refine ri_iconst hx hb dX3_parseOrder_79 ?_
          refine ri_bipush hx hb dX3_parseOrder_80 (by decide) ?_
          refine call_wV (wr := []) (As := [.int (iI 0), .int (iI 23)]) (rest := []) hx hb (hml.trans hl.1.symm) hown hts w lk_RX3_39 (fun sz => t_X3_parseNumber l g o (upT P 7 (fun _ => a + 1)) t tn (a + 1) 0 23 ht hn5 hT hnr (rfl) (by omega) (by omega) (by omega) sz) [0, 1, 2, 3, 4] [] rfl rfl rfl rfl (by decide) (call_recv w (q0 := 0) rfl fX3.1) rfl rfl (Nat.le_of_ble_eq_true rfl) ⟨Nat.le_of_ble_eq_true rfl, Nat.le_of_ble_eq_true rfl⟩ ⟨Nat.le_of_ble_eq_true rfl, Nat.le_of_ble_eq_true rfl⟩ dX3_parseOrder_82 (fun v w1 H locs hr w => ?_)
          rcases hr with ⟨rfl, c6, rfl⟩ | ⟨rfl, c6, rfl⟩
          · have w : Wd g A (or_ws g o (upT P 7 (fun _ => n_end t tn (a + 1) 23))) s H locs := w
            have qc6 := n_end_rg (t := t) (n := tn) (a := a + 1) (hi := 23) (by omega)
            have vc6 := n_val_rg (t := t) (n := tn) (a := a + 1) (hi := 23) (by omega)
            refine lv_istore_n (lv' := [(2, .int (iI (n_val t tn (a + 1) 23))), (1, .int (iI (t a))), (0, .ref (o 0))]) hx hb dX3_parseOrder_85 rfl hl (by decide) rfl (fun ls hl => ?_)
            refine lv_iload_n hx hb dX3_parseOrder_86 rfl (lv_at hl 0 rfl) ?_
            refine ri_iconst hx hb dX3_parseOrder_87 ?_
            refine ri_icmp_ne (tgt := 93) hx hb dX3_parseOrder_88 (by decide) (by omega) (by omega) (fun c7 => ?_) (fun c7 => ?_)
            · refine ri_iconst hx hb dX3_parseOrder_93 ?_
              refine lv_istore_n (lv' := [(3, .int (iI 1)), (2, .int (iI (n_val t tn (a + 1) 23))), (1, .int (iI (t a))), (0, .ref (o 0))]) hx hb dX3_parseOrder_94 rfl hl (by decide) rfl (fun ls hl => ?_)
              refine lv_iload_n hx hb dX3_parseOrder_95 rfl (lv_at hl 2 rfl) ?_
              refine ri_bipush hx hb dX3_parseOrder_96 (by decide) ?_
              refine ri_icmp_ne (tgt := 151) hx hb dX3_parseOrder_98 (by decide) (by omega) (by omega) (fun c8 => ?_) (fun c8 => ?_)
              · exact absurd c8 (by omega)
              refine lv_aload_n hx hb dX3_parseOrder_101 rfl (lv_at hl 3 rfl) ?_
              refine ri_get (v := .int (iI (n_end t tn (a + 1) 23))) hx hb hts hown w fX3 0 6 (W0_of k_fl_RX3_32 rfl) rfl rfl (by decide) dX3_parseOrder_102 ?_
              refine lv_aload_n hx hb dX3_parseOrder_105 rfl (lv_at hl 3 rfl) ?_
              refine ri_get (v := .int (iI tn)) hx hb hts hown w fX3 0 1 (W0_of k_fl_RX3_15 rfl) rfl (congrArg (fun z => some (Value.int (iI z))) (hn5)) (by decide) dX3_parseOrder_106 ?_
              refine ri_icmp_ge (tgt := 151) hx hb dX3_parseOrder_109 (by decide) (by omega) (by omega) (fun c9 => ?_) (fun c9 => ?_)
              · refine lv_aload_n hx hb dX3_parseOrder_151 rfl (lv_at hl 3 rfl) ?_
                refine ri_get (v := .ref (o 2)) hx hb hts hown w fX3 0 2 (W0_of k_fl_RX3_19 rfl) rfl rfl (by decide) dX3_parseOrder_152 ?_
                refine lv_aload_n hx hb dX3_parseOrder_155 rfl (lv_at hl 3 rfl) ?_
                refine ri_get (v := .int (iI k)) hx hb hts hown w fX3 0 5 (W0_of k_fl_RX3_29 rfl) rfl (congrArg (fun z => some (Value.int (iI z))) (hxk)) (by decide) dX3_parseOrder_156 ?_
                refine lv_iload_n hx hb dX3_parseOrder_159 rfl (lv_at hl 2 rfl) ?_
                refine ri_cast hx hb w 2 rfl (by omega) (by omega) dX3_parseOrder_160 (by omega) (fun H locs w => ?_)
                have w : Wd g A (or_ws g o (upT (upT P 7 (fun _ => n_end t tn (a + 1) 23)) 2 (up (P 2) k (t a)))) s H locs := w
                refine lv_aload_n hx hb dX3_parseOrder_161 rfl (lv_at hl 3 rfl) ?_
                refine ri_get (v := .ref (o 3)) hx hb hts hown w fX3 0 3 (W0_of k_fl_RX3_22 rfl) rfl rfl (by decide) dX3_parseOrder_162 ?_
                refine lv_aload_n hx hb dX3_parseOrder_165 rfl (lv_at hl 3 rfl) ?_
                refine ri_get (v := .int (iI k)) hx hb hts hown w fX3 0 5 (W0_of k_fl_RX3_29 rfl) rfl (congrArg (fun z => some (Value.int (iI z))) (hxk)) (by decide) dX3_parseOrder_166 ?_
                refine lv_iload_n hx hb dX3_parseOrder_169 rfl (lv_at hl 1 rfl) ?_
                refine ri_iast hx hb w 3 rfl (by omega) dX3_parseOrder_170 (by omega) (fun H locs w => ?_)
                have w : Wd g A (or_ws g o (upT (upT (upT P 7 (fun _ => n_end t tn (a + 1) 23)) 2 (up (P 2) k (t a))) 3 (up (P 3) k (n_val t tn (a + 1) 23)))) s H locs := w
                refine lv_aload_n hx hb dX3_parseOrder_171 rfl (lv_at hl 3 rfl) ?_
                refine ri_get (v := .ref (o 4)) hx hb hts hown w fX3 0 4 (W0_of k_fl_RX3_26 rfl) rfl rfl (by decide) dX3_parseOrder_172 ?_
                refine lv_aload_n hx hb dX3_parseOrder_175 rfl (lv_at hl 3 rfl) ?_
                refine ri_get (v := .int (iI k)) hx hb hts hown w fX3 0 5 (W0_of k_fl_RX3_29 rfl) rfl (congrArg (fun z => some (Value.int (iI z))) (hxk)) (by decide) dX3_parseOrder_176 ?_
                refine lv_iload_n hx hb dX3_parseOrder_179 rfl (lv_at hl 0 rfl) ?_
                refine ri_iast hx hb w 4 rfl (by omega) dX3_parseOrder_180 (by omega) (fun H locs w => ?_)
                have w : Wd g A (or_ws g o (upT (upT (upT (upT P 7 (fun _ => n_end t tn (a + 1) 23)) 2 (up (P 2) k (t a))) 3 (up (P 3) k (n_val t tn (a + 1) 23))) 4 (up (P 4) k 1))) s H locs := w
                refine lv_aload_n hx hb dX3_parseOrder_181 rfl (lv_at hl 3 rfl) ?_
                refine lv_dup hx hb dX3_parseOrder_182 rfl ?_
                refine ri_get (v := .int (iI k)) hx hb hts hown w fX3 0 5 (W0_of k_fl_RX3_29 rfl) rfl (congrArg (fun z => some (Value.int (iI z))) (hxk)) (by decide) dX3_parseOrder_183 ?_
                refine ri_iconst hx hb dX3_parseOrder_186 ?_
                refine ri_iadd (z := k + 1) hx hb dX3_parseOrder_187 rfl ?_
                refine ri_put hx hb hts hown w fX3 0 5 (W0_of k_fl_RX3_29 rfl) rfl (Nat.le_of_ble_eq_true rfl) (by decide) rfl rfl rfl dX3_parseOrder_188 (fun H locs w => ?_)
                have w : Wd g A (or_ws g o (upT (upT (upT (upT (upT P 7 (fun _ => n_end t tn (a + 1) 23)) 2 (up (P 2) k (t a))) 3 (up (P 3) k (n_val t tn (a + 1) 23))) 4 (up (P 4) k 1)) 6 (fun _ => k + 1))) s H locs := w
                refine ri_iconst hx hb dX3_parseOrder_191 ?_
                have hL : O_let t tn a := by refine ⟨by omega, ?_⟩; omega
                have elo : o_lo t a = 0 := by unfold o_lo; omega
                have ehi : o_hi t a = 23 := by unfold o_hi; omega
                have hN : O_num t tn a := by show o_lo t a ≤ _; rw [elo]; assumption
                have e1 : o_e1 t tn a = n_end t tn (a + 1) 23 := by unfold o_e1; rw [ehi]
                have e2 : o_arg t tn a = n_val t tn (a + 1) 23 := by unfold o_arg; rw [ehi]
                have hS : ¬ O_star t tn a := by rw [show O_star t tn a = (t a = 114 ∧ o_e1 t tn a < tn ∧ t (o_e1 t tn a) = 42) from rfl, e1]; omega
                have e3 : o_rep t tn a = 1 := if_neg hS
                exact hend.2 _ _ _ _ ⟨_, rfl, (nz (by omega))⟩ _ _ dX3_parseOrder_192 w (Or.inl ⟨rfl, ⟨hL, hN, fun hh => absurd hh hS⟩, (upT (upT (upT (upT (upT P 7 (fun _ => n_end t tn (a + 1) 23)) 2 (up (P 2) k (t a))) 3 (up (P 3) k (n_val t tn (a + 1) 23))) 4 (up (P 4) k 1)) 6 (fun _ => k + 1)), rfl, ht, hn5, ((o_end_2 hL hN hS).trans e1).symm, rfl, rfl, by rw [e2]; rfl, by rw [e3]; rfl⟩)
              · refine lv_aload_n hx hb dX3_parseOrder_112 rfl (lv_at hl 3 rfl) ?_
                refine ri_get (v := .ref (o 1)) hx hb hts hown w fX3 0 0 (W0_of k_fl_RX3_9 rfl) rfl rfl (by decide) dX3_parseOrder_113 ?_
                refine lv_aload_n hx hb dX3_parseOrder_116 rfl (lv_at hl 3 rfl) ?_
                refine ri_get (v := .int (iI (n_end t tn (a + 1) 23))) hx hb hts hown w fX3 0 6 (W0_of k_fl_RX3_32 rfl) rfl rfl (by decide) dX3_parseOrder_117 ?_
                refine ri_cald (f := P 1) (v := t (n_end t tn (a + 1) 23)) hx hb w 1 rfl (by omega) (congrFun ht _) dX3_parseOrder_120 (by omega) ?_
                have r10 := hT.bd (n_end t tn (a + 1) 23)
                refine ri_bipush hx hb dX3_parseOrder_121 (by decide) ?_
                refine ri_icmp_ne (tgt := 151) hx hb dX3_parseOrder_123 (by decide) (by omega) (by omega) (fun c11 => ?_) (fun c11 => ?_)
                · refine lv_aload_n hx hb dX3_parseOrder_151 rfl (lv_at hl 3 rfl) ?_
                  refine ri_get (v := .ref (o 2)) hx hb hts hown w fX3 0 2 (W0_of k_fl_RX3_19 rfl) rfl rfl (by decide) dX3_parseOrder_152 ?_
                  refine lv_aload_n hx hb dX3_parseOrder_155 rfl (lv_at hl 3 rfl) ?_
                  refine ri_get (v := .int (iI k)) hx hb hts hown w fX3 0 5 (W0_of k_fl_RX3_29 rfl) rfl (congrArg (fun z => some (Value.int (iI z))) (hxk)) (by decide) dX3_parseOrder_156 ?_
                  refine lv_iload_n hx hb dX3_parseOrder_159 rfl (lv_at hl 2 rfl) ?_
                  refine ri_cast hx hb w 2 rfl (by omega) (by omega) dX3_parseOrder_160 (by omega) (fun H locs w => ?_)
                  have w : Wd g A (or_ws g o (upT (upT P 7 (fun _ => n_end t tn (a + 1) 23)) 2 (up (P 2) k (t a)))) s H locs := w
                  refine lv_aload_n hx hb dX3_parseOrder_161 rfl (lv_at hl 3 rfl) ?_
                  refine ri_get (v := .ref (o 3)) hx hb hts hown w fX3 0 3 (W0_of k_fl_RX3_22 rfl) rfl rfl (by decide) dX3_parseOrder_162 ?_
                  refine lv_aload_n hx hb dX3_parseOrder_165 rfl (lv_at hl 3 rfl) ?_
                  refine ri_get (v := .int (iI k)) hx hb hts hown w fX3 0 5 (W0_of k_fl_RX3_29 rfl) rfl (congrArg (fun z => some (Value.int (iI z))) (hxk)) (by decide) dX3_parseOrder_166 ?_
                  refine lv_iload_n hx hb dX3_parseOrder_169 rfl (lv_at hl 1 rfl) ?_
                  refine ri_iast hx hb w 3 rfl (by omega) dX3_parseOrder_170 (by omega) (fun H locs w => ?_)
                  have w : Wd g A (or_ws g o (upT (upT (upT P 7 (fun _ => n_end t tn (a + 1) 23)) 2 (up (P 2) k (t a))) 3 (up (P 3) k (n_val t tn (a + 1) 23)))) s H locs := w
                  refine lv_aload_n hx hb dX3_parseOrder_171 rfl (lv_at hl 3 rfl) ?_
                  refine ri_get (v := .ref (o 4)) hx hb hts hown w fX3 0 4 (W0_of k_fl_RX3_26 rfl) rfl rfl (by decide) dX3_parseOrder_172 ?_
                  refine lv_aload_n hx hb dX3_parseOrder_175 rfl (lv_at hl 3 rfl) ?_
                  refine ri_get (v := .int (iI k)) hx hb hts hown w fX3 0 5 (W0_of k_fl_RX3_29 rfl) rfl (congrArg (fun z => some (Value.int (iI z))) (hxk)) (by decide) dX3_parseOrder_176 ?_
                  refine lv_iload_n hx hb dX3_parseOrder_179 rfl (lv_at hl 0 rfl) ?_
                  refine ri_iast hx hb w 4 rfl (by omega) dX3_parseOrder_180 (by omega) (fun H locs w => ?_)
                  have w : Wd g A (or_ws g o (upT (upT (upT (upT P 7 (fun _ => n_end t tn (a + 1) 23)) 2 (up (P 2) k (t a))) 3 (up (P 3) k (n_val t tn (a + 1) 23))) 4 (up (P 4) k 1))) s H locs := w
                  refine lv_aload_n hx hb dX3_parseOrder_181 rfl (lv_at hl 3 rfl) ?_
                  refine lv_dup hx hb dX3_parseOrder_182 rfl ?_
                  refine ri_get (v := .int (iI k)) hx hb hts hown w fX3 0 5 (W0_of k_fl_RX3_29 rfl) rfl (congrArg (fun z => some (Value.int (iI z))) (hxk)) (by decide) dX3_parseOrder_183 ?_
                  refine ri_iconst hx hb dX3_parseOrder_186 ?_
                  refine ri_iadd (z := k + 1) hx hb dX3_parseOrder_187 rfl ?_
                  refine ri_put hx hb hts hown w fX3 0 5 (W0_of k_fl_RX3_29 rfl) rfl (Nat.le_of_ble_eq_true rfl) (by decide) rfl rfl rfl dX3_parseOrder_188 (fun H locs w => ?_)
                  have w : Wd g A (or_ws g o (upT (upT (upT (upT (upT P 7 (fun _ => n_end t tn (a + 1) 23)) 2 (up (P 2) k (t a))) 3 (up (P 3) k (n_val t tn (a + 1) 23))) 4 (up (P 4) k 1)) 6 (fun _ => k + 1))) s H locs := w
                  refine ri_iconst hx hb dX3_parseOrder_191 ?_
                  have hL : O_let t tn a := by refine ⟨by omega, ?_⟩; omega
                  have elo : o_lo t a = 0 := by unfold o_lo; omega
                  have ehi : o_hi t a = 23 := by unfold o_hi; omega
                  have hN : O_num t tn a := by show o_lo t a ≤ _; rw [elo]; assumption
                  have e1 : o_e1 t tn a = n_end t tn (a + 1) 23 := by unfold o_e1; rw [ehi]
                  have e2 : o_arg t tn a = n_val t tn (a + 1) 23 := by unfold o_arg; rw [ehi]
                  have hS : ¬ O_star t tn a := by rw [show O_star t tn a = (t a = 114 ∧ o_e1 t tn a < tn ∧ t (o_e1 t tn a) = 42) from rfl, e1]; omega
                  have e3 : o_rep t tn a = 1 := if_neg hS
                  exact hend.2 _ _ _ _ ⟨_, rfl, (nz (by omega))⟩ _ _ dX3_parseOrder_192 w (Or.inl ⟨rfl, ⟨hL, hN, fun hh => absurd hh hS⟩, (upT (upT (upT (upT (upT P 7 (fun _ => n_end t tn (a + 1) 23)) 2 (up (P 2) k (t a))) 3 (up (P 3) k (n_val t tn (a + 1) 23))) 4 (up (P 4) k 1)) 6 (fun _ => k + 1)), rfl, ht, hn5, ((o_end_2 hL hN hS).trans e1).symm, rfl, rfl, by rw [e2]; rfl, by rw [e3]; rfl⟩)
                · refine lv_aload_n hx hb dX3_parseOrder_126 rfl (lv_at hl 3 rfl) ?_
                  refine lv_dup hx hb dX3_parseOrder_127 rfl ?_
                  refine ri_get (v := .int (iI (n_end t tn (a + 1) 23))) hx hb hts hown w fX3 0 6 (W0_of k_fl_RX3_32 rfl) rfl rfl (by decide) dX3_parseOrder_128 ?_
                  refine ri_iconst hx hb dX3_parseOrder_131 ?_
                  refine ri_iadd (z := n_end t tn (a + 1) 23 + 1) hx hb dX3_parseOrder_132 rfl ?_
                  refine ri_put hx hb hts hown w fX3 0 6 (W0_of k_fl_RX3_32 rfl) rfl (Nat.le_of_ble_eq_true rfl) (by decide) rfl rfl rfl dX3_parseOrder_133 (fun H locs w => ?_)
                  have w : Wd g A (or_ws g o (upT P 7 (fun _ => n_end t tn (a + 1) 23 + 1))) s H locs := w
                  refine lv_aload_n hx hb dX3_parseOrder_136 rfl (lv_at hl 3 rfl) ?_
                  refine ri_iconst hx hb dX3_parseOrder_137 ?_
                  refine ri_bipush hx hb dX3_parseOrder_138 (by decide) ?_
                  refine call_wV (wr := []) (As := [.int (iI 1), .int (iI 99)]) (rest := []) hx hb (hml.trans hl.1.symm) hown hts w lk_RX3_39 (fun sz => t_X3_parseNumber l g o (upT P 7 (fun _ => n_end t tn (a + 1) 23 + 1)) t tn (n_end t tn (a + 1) 23 + 1) 1 99 ht hn5 hT hnr (rfl) (by omega) (by omega) (by omega) sz) [0, 1, 2, 3, 4] [] rfl rfl rfl rfl (by decide) (call_recv w (q0 := 0) rfl fX3.1) rfl rfl (Nat.le_of_ble_eq_true rfl) ⟨Nat.le_of_ble_eq_true rfl, Nat.le_of_ble_eq_true rfl⟩ ⟨Nat.le_of_ble_eq_true rfl, Nat.le_of_ble_eq_true rfl⟩ dX3_parseOrder_140 (fun v w1 H locs hr w => ?_)
                  rcases hr with ⟨rfl, c12, rfl⟩ | ⟨rfl, c12, rfl⟩
                  · have w : Wd g A (or_ws g o (upT P 7 (fun _ => n_end t tn (n_end t tn (a + 1) 23 + 1) 99))) s H locs := w
                    have qc12 := n_end_rg (t := t) (n := tn) (a := n_end t tn (a + 1) 23 + 1) (hi := 99) (by omega)
                    have vc12 := n_val_rg (t := t) (n := tn) (a := n_end t tn (a + 1) 23 + 1) (hi := 99) (by omega)
                    refine lv_istore_n (lv' := [(3, .int (iI (n_val t tn (n_end t tn (a + 1) 23 + 1) 99))), (2, .int (iI (n_val t tn (a + 1) 23))), (1, .int (iI (t a))), (0, .ref (o 0))]) hx hb dX3_parseOrder_143 rfl hl (by decide) rfl (fun ls hl => ?_)
                    refine lv_iload_n hx hb dX3_parseOrder_144 rfl (lv_at hl 0 rfl) ?_
                    refine ri_iconst hx hb dX3_parseOrder_145 ?_
                    refine ri_icmp_ne (tgt := 151) hx hb dX3_parseOrder_146 (by decide) (by omega) (by omega) (fun c13 => ?_) (fun c13 => ?_)
                    · refine lv_aload_n hx hb dX3_parseOrder_151 rfl (lv_at hl 3 rfl) ?_
                      refine ri_get (v := .ref (o 2)) hx hb hts hown w fX3 0 2 (W0_of k_fl_RX3_19 rfl) rfl rfl (by decide) dX3_parseOrder_152 ?_
                      refine lv_aload_n hx hb dX3_parseOrder_155 rfl (lv_at hl 3 rfl) ?_
                      refine ri_get (v := .int (iI k)) hx hb hts hown w fX3 0 5 (W0_of k_fl_RX3_29 rfl) rfl (congrArg (fun z => some (Value.int (iI z))) (hxk)) (by decide) dX3_parseOrder_156 ?_
                      refine lv_iload_n hx hb dX3_parseOrder_159 rfl (lv_at hl 2 rfl) ?_
                      refine ri_cast hx hb w 2 rfl (by omega) (by omega) dX3_parseOrder_160 (by omega) (fun H locs w => ?_)
                      have w : Wd g A (or_ws g o (upT (upT P 7 (fun _ => n_end t tn (n_end t tn (a + 1) 23 + 1) 99)) 2 (up (P 2) k (t a)))) s H locs := w
                      refine lv_aload_n hx hb dX3_parseOrder_161 rfl (lv_at hl 3 rfl) ?_
                      refine ri_get (v := .ref (o 3)) hx hb hts hown w fX3 0 3 (W0_of k_fl_RX3_22 rfl) rfl rfl (by decide) dX3_parseOrder_162 ?_
                      refine lv_aload_n hx hb dX3_parseOrder_165 rfl (lv_at hl 3 rfl) ?_
                      refine ri_get (v := .int (iI k)) hx hb hts hown w fX3 0 5 (W0_of k_fl_RX3_29 rfl) rfl (congrArg (fun z => some (Value.int (iI z))) (hxk)) (by decide) dX3_parseOrder_166 ?_
                      refine lv_iload_n hx hb dX3_parseOrder_169 rfl (lv_at hl 1 rfl) ?_
                      refine ri_iast hx hb w 3 rfl (by omega) dX3_parseOrder_170 (by omega) (fun H locs w => ?_)
                      have w : Wd g A (or_ws g o (upT (upT (upT P 7 (fun _ => n_end t tn (n_end t tn (a + 1) 23 + 1) 99)) 2 (up (P 2) k (t a))) 3 (up (P 3) k (n_val t tn (a + 1) 23)))) s H locs := w
                      refine lv_aload_n hx hb dX3_parseOrder_171 rfl (lv_at hl 3 rfl) ?_
                      refine ri_get (v := .ref (o 4)) hx hb hts hown w fX3 0 4 (W0_of k_fl_RX3_26 rfl) rfl rfl (by decide) dX3_parseOrder_172 ?_
                      refine lv_aload_n hx hb dX3_parseOrder_175 rfl (lv_at hl 3 rfl) ?_
                      refine ri_get (v := .int (iI k)) hx hb hts hown w fX3 0 5 (W0_of k_fl_RX3_29 rfl) rfl (congrArg (fun z => some (Value.int (iI z))) (hxk)) (by decide) dX3_parseOrder_176 ?_
                      refine lv_iload_n hx hb dX3_parseOrder_179 rfl (lv_at hl 0 rfl) ?_
                      refine ri_iast hx hb w 4 rfl (by omega) dX3_parseOrder_180 (by omega) (fun H locs w => ?_)
                      have w : Wd g A (or_ws g o (upT (upT (upT (upT P 7 (fun _ => n_end t tn (n_end t tn (a + 1) 23 + 1) 99)) 2 (up (P 2) k (t a))) 3 (up (P 3) k (n_val t tn (a + 1) 23))) 4 (up (P 4) k (n_val t tn (n_end t tn (a + 1) 23 + 1) 99)))) s H locs := w
                      refine lv_aload_n hx hb dX3_parseOrder_181 rfl (lv_at hl 3 rfl) ?_
                      refine lv_dup hx hb dX3_parseOrder_182 rfl ?_
                      refine ri_get (v := .int (iI k)) hx hb hts hown w fX3 0 5 (W0_of k_fl_RX3_29 rfl) rfl (congrArg (fun z => some (Value.int (iI z))) (hxk)) (by decide) dX3_parseOrder_183 ?_
                      refine ri_iconst hx hb dX3_parseOrder_186 ?_
                      refine ri_iadd (z := k + 1) hx hb dX3_parseOrder_187 rfl ?_
                      refine ri_put hx hb hts hown w fX3 0 5 (W0_of k_fl_RX3_29 rfl) rfl (Nat.le_of_ble_eq_true rfl) (by decide) rfl rfl rfl dX3_parseOrder_188 (fun H locs w => ?_)
                      have w : Wd g A (or_ws g o (upT (upT (upT (upT (upT P 7 (fun _ => n_end t tn (n_end t tn (a + 1) 23 + 1) 99)) 2 (up (P 2) k (t a))) 3 (up (P 3) k (n_val t tn (a + 1) 23))) 4 (up (P 4) k (n_val t tn (n_end t tn (a + 1) 23 + 1) 99))) 6 (fun _ => k + 1))) s H locs := w
                      refine ri_iconst hx hb dX3_parseOrder_191 ?_
                      have hL : O_let t tn a := by refine ⟨by omega, ?_⟩; omega
                      have elo : o_lo t a = 0 := by unfold o_lo; omega
                      have ehi : o_hi t a = 23 := by unfold o_hi; omega
                      have hN : O_num t tn a := by show o_lo t a ≤ _; rw [elo]; assumption
                      have e1 : o_e1 t tn a = n_end t tn (a + 1) 23 := by unfold o_e1; rw [ehi]
                      have e2 : o_arg t tn a = n_val t tn (a + 1) 23 := by unfold o_arg; rw [ehi]
                      have hS : O_star t tn a := by rw [show O_star t tn a = (t a = 114 ∧ o_e1 t tn a < tn ∧ t (o_e1 t tn a) = 42) from rfl, e1]; omega
                      have hR : O_rep t tn a := by show 1 ≤ d_at _ _ (o_e1 t tn a + 1); rw [e1]; assumption
                      have e3 : o_rep t tn a = n_val t tn (n_end t tn (a + 1) 23 + 1) 99 := by unfold o_rep; rw [if_pos hS, e1]
                      exact hend.2 _ _ _ _ ⟨_, rfl, (nz (by omega))⟩ _ _ dX3_parseOrder_192 w (Or.inl ⟨rfl, ⟨hL, hN, fun _ => hR⟩, (upT (upT (upT (upT (upT P 7 (fun _ => n_end t tn (n_end t tn (a + 1) 23 + 1) 99)) 2 (up (P 2) k (t a))) 3 (up (P 3) k (n_val t tn (a + 1) 23))) 4 (up (P 4) k (n_val t tn (n_end t tn (a + 1) 23 + 1) 99))) 6 (fun _ => k + 1)), rfl, ht, hn5, ((o_end_4 hL hN hS hR).trans (by rw [e1]; rfl)).symm, rfl, rfl, by rw [e2]; rfl, by rw [e3]; rfl⟩)
                    · exact absurd c13 (by omega)
                  · have w : Wd g A (or_ws g o (upT P 7 (fun _ => n_end t tn (a + 1) 23 + 1))) s H locs := w
                    refine lv_istore_n (lv' := [(3, .int (iI (-1))), (2, .int (iI (n_val t tn (a + 1) 23))), (1, .int (iI (t a))), (0, .ref (o 0))]) hx hb dX3_parseOrder_143 rfl hl (by decide) rfl (fun ls hl => ?_)
                    refine lv_iload_n hx hb dX3_parseOrder_144 rfl (lv_at hl 0 rfl) ?_
                    refine ri_iconst hx hb dX3_parseOrder_145 ?_
                    refine ri_icmp_ne (tgt := 151) hx hb dX3_parseOrder_146 (by decide) (by omega) (by omega) (fun c14 => ?_) (fun c14 => ?_)
                    · exact absurd c14 (by omega)
                    refine ri_iconst hx hb dX3_parseOrder_149 ?_
                    have hL : O_let t tn a := by refine ⟨by omega, ?_⟩; omega
                    have elo : o_lo t a = 0 := by unfold o_lo; omega
                    have ehi : o_hi t a = 23 := by unfold o_hi; omega
                    have hN : O_num t tn a := by show o_lo t a ≤ _; rw [elo]; assumption
                    have e1 : o_e1 t tn a = n_end t tn (a + 1) 23 := by unfold o_e1; rw [ehi]
                    have e2 : o_arg t tn a = n_val t tn (a + 1) 23 := by unfold o_arg; rw [ehi]
                    have hS : O_star t tn a := by rw [show O_star t tn a = (t a = 114 ∧ o_e1 t tn a < tn ∧ t (o_e1 t tn a) = 42) from rfl, e1]; omega
                    have hR : ¬ O_rep t tn a := by show ¬ (1 ≤ d_at _ _ (o_e1 t tn a + 1)); rw [e1]; assumption
                    exact hend.2 _ _ _ _ ⟨_, rfl, (nz (by omega))⟩ _ _ dX3_parseOrder_150 w (Or.inr ⟨rfl, fun hh => hR (hh.2.2 hS), (upT P 7 (fun _ => n_end t tn (a + 1) 23 + 1)), rfl, ht, hn5, ((o_end_3 hL hN hS hR).trans (by rw [e1]; rfl)).symm, hxk⟩)
            · exact absurd c7 (by omega)
          · have w : Wd g A (or_ws g o (upT P 7 (fun _ => a + 1))) s H locs := w
            refine lv_istore_n (lv' := [(2, .int (iI (-1))), (1, .int (iI (t a))), (0, .ref (o 0))]) hx hb dX3_parseOrder_85 rfl hl (by decide) rfl (fun ls hl => ?_)
            refine lv_iload_n hx hb dX3_parseOrder_86 rfl (lv_at hl 0 rfl) ?_
            refine ri_iconst hx hb dX3_parseOrder_87 ?_
            refine ri_icmp_ne (tgt := 93) hx hb dX3_parseOrder_88 (by decide) (by omega) (by omega) (fun c15 => ?_) (fun c15 => ?_)
            · exact absurd c15 (by omega)
            refine ri_iconst hx hb dX3_parseOrder_91 ?_
            have hL : O_let t tn a := by refine ⟨by omega, ?_⟩; omega
            have elo : o_lo t a = 0 := by unfold o_lo; omega
            have ehi : o_hi t a = 23 := by unfold o_hi; omega
            have hN : ¬ O_num t tn a := by show ¬ (o_lo t a ≤ _); rw [elo]; assumption
            exact hend.2 _ _ _ _ ⟨_, rfl, (nz (by omega))⟩ _ _ dX3_parseOrder_92 w (Or.inr ⟨rfl, fun hh => hN hh.2.1, (upT P 7 (fun _ => a + 1)), rfl, ht, hn5, (o_end_1 hL hN).symm, hxk⟩)
        · exact absurd c5 (by omega)
      · refine lv_iload_n hx hb dX3_parseOrder_38 rfl (lv_at hl 0 rfl) ?_
        refine ri_bipush hx hb dX3_parseOrder_39 (by decide) ?_
        refine ri_icmp_eq (tgt := 52) hx hb dX3_parseOrder_41 (by decide) (by omega) (by omega) (fun c16 => ?_) (fun c16 => ?_)
        · refine lv_aload_n hx hb dX3_parseOrder_52 rfl (lv_at hl 1 rfl) ?_
          refine lv_dup hx hb dX3_parseOrder_53 rfl ?_
          refine ri_get (v := .int (iI a)) hx hb hts hown w fX3 0 6 (W0_of k_fl_RX3_32 rfl) rfl (congrArg (fun z => some (Value.int (iI z))) (hxa)) (by decide) dX3_parseOrder_54 ?_
          refine ri_iconst hx hb dX3_parseOrder_57 ?_
          refine ri_iadd (z := a + 1) hx hb dX3_parseOrder_58 rfl ?_
          refine ri_put hx hb hts hown w fX3 0 6 (W0_of k_fl_RX3_32 rfl) rfl (Nat.le_of_ble_eq_true rfl) (by decide) rfl rfl rfl dX3_parseOrder_59 (fun H locs w => ?_)
          have w : Wd g A (or_ws g o (upT P 7 (fun _ => a + 1))) s H locs := w
          refine lv_iload_n hx hb dX3_parseOrder_62 rfl (lv_at hl 0 rfl) ?_
          refine ri_bipush hx hb dX3_parseOrder_63 (by decide) ?_
          refine ri_icmp_ne (tgt := 78) hx hb dX3_parseOrder_65 (by decide) (by omega) (by omega) (fun c17 => ?_) (fun c17 => ?_)
          · refine lv_aload_n hx hb dX3_parseOrder_78 rfl (lv_at hl 1 rfl) ?_
            refine ri_iconst hx hb dX3_parseOrder_79 ?_
            refine ri_bipush hx hb dX3_parseOrder_80 (by decide) ?_
            refine call_wV (wr := []) (As := [.int (iI 0), .int (iI 23)]) (rest := []) hx hb (hml.trans hl.1.symm) hown hts w lk_RX3_39 (fun sz => t_X3_parseNumber l g o (upT P 7 (fun _ => a + 1)) t tn (a + 1) 0 23 ht hn5 hT hnr (rfl) (by omega) (by omega) (by omega) sz) [0, 1, 2, 3, 4] [] rfl rfl rfl rfl (by decide) (call_recv w (q0 := 0) rfl fX3.1) rfl rfl (Nat.le_of_ble_eq_true rfl) ⟨Nat.le_of_ble_eq_true rfl, Nat.le_of_ble_eq_true rfl⟩ ⟨Nat.le_of_ble_eq_true rfl, Nat.le_of_ble_eq_true rfl⟩ dX3_parseOrder_82 (fun v w1 H locs hr w => ?_)
            rcases hr with ⟨rfl, c18, rfl⟩ | ⟨rfl, c18, rfl⟩
            · have w : Wd g A (or_ws g o (upT P 7 (fun _ => n_end t tn (a + 1) 23))) s H locs := w
              have qc18 := n_end_rg (t := t) (n := tn) (a := a + 1) (hi := 23) (by omega)
              have vc18 := n_val_rg (t := t) (n := tn) (a := a + 1) (hi := 23) (by omega)
              refine lv_istore_n (lv' := [(2, .int (iI (n_val t tn (a + 1) 23))), (1, .int (iI (t a))), (0, .ref (o 0))]) hx hb dX3_parseOrder_85 rfl hl (by decide) rfl (fun ls hl => ?_)
              refine lv_iload_n hx hb dX3_parseOrder_86 rfl (lv_at hl 0 rfl) ?_
              refine ri_iconst hx hb dX3_parseOrder_87 ?_
              refine ri_icmp_ne (tgt := 93) hx hb dX3_parseOrder_88 (by decide) (by omega) (by omega) (fun c19 => ?_) (fun c19 => ?_)
              · refine ri_iconst hx hb dX3_parseOrder_93 ?_
                refine lv_istore_n (lv' := [(3, .int (iI 1)), (2, .int (iI (n_val t tn (a + 1) 23))), (1, .int (iI (t a))), (0, .ref (o 0))]) hx hb dX3_parseOrder_94 rfl hl (by decide) rfl (fun ls hl => ?_)
                refine lv_iload_n hx hb dX3_parseOrder_95 rfl (lv_at hl 2 rfl) ?_
                refine ri_bipush hx hb dX3_parseOrder_96 (by decide) ?_
                refine ri_icmp_ne (tgt := 151) hx hb dX3_parseOrder_98 (by decide) (by omega) (by omega) (fun c20 => ?_) (fun c20 => ?_)
                · refine lv_aload_n hx hb dX3_parseOrder_151 rfl (lv_at hl 3 rfl) ?_
                  refine ri_get (v := .ref (o 2)) hx hb hts hown w fX3 0 2 (W0_of k_fl_RX3_19 rfl) rfl rfl (by decide) dX3_parseOrder_152 ?_
                  refine lv_aload_n hx hb dX3_parseOrder_155 rfl (lv_at hl 3 rfl) ?_
                  refine ri_get (v := .int (iI k)) hx hb hts hown w fX3 0 5 (W0_of k_fl_RX3_29 rfl) rfl (congrArg (fun z => some (Value.int (iI z))) (hxk)) (by decide) dX3_parseOrder_156 ?_
                  refine lv_iload_n hx hb dX3_parseOrder_159 rfl (lv_at hl 2 rfl) ?_
                  refine ri_cast hx hb w 2 rfl (by omega) (by omega) dX3_parseOrder_160 (by omega) (fun H locs w => ?_)
                  have w : Wd g A (or_ws g o (upT (upT P 7 (fun _ => n_end t tn (a + 1) 23)) 2 (up (P 2) k (t a)))) s H locs := w
                  refine lv_aload_n hx hb dX3_parseOrder_161 rfl (lv_at hl 3 rfl) ?_
                  refine ri_get (v := .ref (o 3)) hx hb hts hown w fX3 0 3 (W0_of k_fl_RX3_22 rfl) rfl rfl (by decide) dX3_parseOrder_162 ?_
                  refine lv_aload_n hx hb dX3_parseOrder_165 rfl (lv_at hl 3 rfl) ?_
                  refine ri_get (v := .int (iI k)) hx hb hts hown w fX3 0 5 (W0_of k_fl_RX3_29 rfl) rfl (congrArg (fun z => some (Value.int (iI z))) (hxk)) (by decide) dX3_parseOrder_166 ?_
                  refine lv_iload_n hx hb dX3_parseOrder_169 rfl (lv_at hl 1 rfl) ?_
                  refine ri_iast hx hb w 3 rfl (by omega) dX3_parseOrder_170 (by omega) (fun H locs w => ?_)
                  have w : Wd g A (or_ws g o (upT (upT (upT P 7 (fun _ => n_end t tn (a + 1) 23)) 2 (up (P 2) k (t a))) 3 (up (P 3) k (n_val t tn (a + 1) 23)))) s H locs := w
                  refine lv_aload_n hx hb dX3_parseOrder_171 rfl (lv_at hl 3 rfl) ?_
                  refine ri_get (v := .ref (o 4)) hx hb hts hown w fX3 0 4 (W0_of k_fl_RX3_26 rfl) rfl rfl (by decide) dX3_parseOrder_172 ?_
                  refine lv_aload_n hx hb dX3_parseOrder_175 rfl (lv_at hl 3 rfl) ?_
                  refine ri_get (v := .int (iI k)) hx hb hts hown w fX3 0 5 (W0_of k_fl_RX3_29 rfl) rfl (congrArg (fun z => some (Value.int (iI z))) (hxk)) (by decide) dX3_parseOrder_176 ?_
                  refine lv_iload_n hx hb dX3_parseOrder_179 rfl (lv_at hl 0 rfl) ?_
                  refine ri_iast hx hb w 4 rfl (by omega) dX3_parseOrder_180 (by omega) (fun H locs w => ?_)
                  have w : Wd g A (or_ws g o (upT (upT (upT (upT P 7 (fun _ => n_end t tn (a + 1) 23)) 2 (up (P 2) k (t a))) 3 (up (P 3) k (n_val t tn (a + 1) 23))) 4 (up (P 4) k 1))) s H locs := w
                  refine lv_aload_n hx hb dX3_parseOrder_181 rfl (lv_at hl 3 rfl) ?_
                  refine lv_dup hx hb dX3_parseOrder_182 rfl ?_
                  refine ri_get (v := .int (iI k)) hx hb hts hown w fX3 0 5 (W0_of k_fl_RX3_29 rfl) rfl (congrArg (fun z => some (Value.int (iI z))) (hxk)) (by decide) dX3_parseOrder_183 ?_
                  refine ri_iconst hx hb dX3_parseOrder_186 ?_
                  refine ri_iadd (z := k + 1) hx hb dX3_parseOrder_187 rfl ?_
                  refine ri_put hx hb hts hown w fX3 0 5 (W0_of k_fl_RX3_29 rfl) rfl (Nat.le_of_ble_eq_true rfl) (by decide) rfl rfl rfl dX3_parseOrder_188 (fun H locs w => ?_)
                  have w : Wd g A (or_ws g o (upT (upT (upT (upT (upT P 7 (fun _ => n_end t tn (a + 1) 23)) 2 (up (P 2) k (t a))) 3 (up (P 3) k (n_val t tn (a + 1) 23))) 4 (up (P 4) k 1)) 6 (fun _ => k + 1))) s H locs := w
                  refine ri_iconst hx hb dX3_parseOrder_191 ?_
                  have hL : O_let t tn a := by refine ⟨by omega, ?_⟩; omega
                  have elo : o_lo t a = 0 := by unfold o_lo; omega
                  have ehi : o_hi t a = 23 := by unfold o_hi; omega
                  have hN : O_num t tn a := by show o_lo t a ≤ _; rw [elo]; assumption
                  have e1 : o_e1 t tn a = n_end t tn (a + 1) 23 := by unfold o_e1; rw [ehi]
                  have e2 : o_arg t tn a = n_val t tn (a + 1) 23 := by unfold o_arg; rw [ehi]
                  have hS : ¬ O_star t tn a := by rw [show O_star t tn a = (t a = 114 ∧ o_e1 t tn a < tn ∧ t (o_e1 t tn a) = 42) from rfl, e1]; omega
                  have e3 : o_rep t tn a = 1 := if_neg hS
                  exact hend.2 _ _ _ _ ⟨_, rfl, (nz (by omega))⟩ _ _ dX3_parseOrder_192 w (Or.inl ⟨rfl, ⟨hL, hN, fun hh => absurd hh hS⟩, (upT (upT (upT (upT (upT P 7 (fun _ => n_end t tn (a + 1) 23)) 2 (up (P 2) k (t a))) 3 (up (P 3) k (n_val t tn (a + 1) 23))) 4 (up (P 4) k 1)) 6 (fun _ => k + 1)), rfl, ht, hn5, ((o_end_2 hL hN hS).trans e1).symm, rfl, rfl, by rw [e2]; rfl, by rw [e3]; rfl⟩)
                · exact absurd c20 (by omega)
              · exact absurd c19 (by omega)
            · have w : Wd g A (or_ws g o (upT P 7 (fun _ => a + 1))) s H locs := w
              refine lv_istore_n (lv' := [(2, .int (iI (-1))), (1, .int (iI (t a))), (0, .ref (o 0))]) hx hb dX3_parseOrder_85 rfl hl (by decide) rfl (fun ls hl => ?_)
              refine lv_iload_n hx hb dX3_parseOrder_86 rfl (lv_at hl 0 rfl) ?_
              refine ri_iconst hx hb dX3_parseOrder_87 ?_
              refine ri_icmp_ne (tgt := 93) hx hb dX3_parseOrder_88 (by decide) (by omega) (by omega) (fun c21 => ?_) (fun c21 => ?_)
              · exact absurd c21 (by omega)
              refine ri_iconst hx hb dX3_parseOrder_91 ?_
              have hL : O_let t tn a := by refine ⟨by omega, ?_⟩; omega
              have elo : o_lo t a = 0 := by unfold o_lo; omega
              have ehi : o_hi t a = 23 := by unfold o_hi; omega
              have hN : ¬ O_num t tn a := by show ¬ (o_lo t a ≤ _); rw [elo]; assumption
              exact hend.2 _ _ _ _ ⟨_, rfl, (nz (by omega))⟩ _ _ dX3_parseOrder_92 w (Or.inr ⟨rfl, fun hh => hN hh.2.1, (upT P 7 (fun _ => a + 1)), rfl, ht, hn5, (o_end_1 hL hN).symm, hxk⟩)
          · exact absurd c17 (by omega)
        · refine lv_iload_n hx hb dX3_parseOrder_44 rfl (lv_at hl 0 rfl) ?_
          refine ri_bipush hx hb dX3_parseOrder_45 (by decide) ?_
          refine ri_icmp_eq (tgt := 52) hx hb dX3_parseOrder_47 (by decide) (by omega) (by omega) (fun c22 => ?_) (fun c22 => ?_)
          · refine lv_aload_n hx hb dX3_parseOrder_52 rfl (lv_at hl 1 rfl) ?_
            refine lv_dup hx hb dX3_parseOrder_53 rfl ?_
            refine ri_get (v := .int (iI a)) hx hb hts hown w fX3 0 6 (W0_of k_fl_RX3_32 rfl) rfl (congrArg (fun z => some (Value.int (iI z))) (hxa)) (by decide) dX3_parseOrder_54 ?_
            refine ri_iconst hx hb dX3_parseOrder_57 ?_
            refine ri_iadd (z := a + 1) hx hb dX3_parseOrder_58 rfl ?_
            refine ri_put hx hb hts hown w fX3 0 6 (W0_of k_fl_RX3_32 rfl) rfl (Nat.le_of_ble_eq_true rfl) (by decide) rfl rfl rfl dX3_parseOrder_59 (fun H locs w => ?_)
            have w : Wd g A (or_ws g o (upT P 7 (fun _ => a + 1))) s H locs := w
            refine lv_iload_n hx hb dX3_parseOrder_62 rfl (lv_at hl 0 rfl) ?_
            refine ri_bipush hx hb dX3_parseOrder_63 (by decide) ?_
            refine ri_icmp_ne (tgt := 78) hx hb dX3_parseOrder_65 (by decide) (by omega) (by omega) (fun c23 => ?_) (fun c23 => ?_)
            · exact absurd c23 (by omega)
            refine lv_aload_n hx hb dX3_parseOrder_68 rfl (lv_at hl 1 rfl) ?_
            refine ri_iconst hx hb dX3_parseOrder_69 ?_
            refine ri_bipush hx hb dX3_parseOrder_70 (by decide) ?_
            refine call_wV (wr := []) (As := [.int (iI 1), .int (iI 99)]) (rest := []) hx hb (hml.trans hl.1.symm) hown hts w lk_RX3_39 (fun sz => t_X3_parseNumber l g o (upT P 7 (fun _ => a + 1)) t tn (a + 1) 1 99 ht hn5 hT hnr (rfl) (by omega) (by omega) (by omega) sz) [0, 1, 2, 3, 4] [] rfl rfl rfl rfl (by decide) (call_recv w (q0 := 0) rfl fX3.1) rfl rfl (Nat.le_of_ble_eq_true rfl) ⟨Nat.le_of_ble_eq_true rfl, Nat.le_of_ble_eq_true rfl⟩ ⟨Nat.le_of_ble_eq_true rfl, Nat.le_of_ble_eq_true rfl⟩ dX3_parseOrder_72 (fun v w1 H locs hr w => ?_)
            rcases hr with ⟨rfl, c24, rfl⟩ | ⟨rfl, c24, rfl⟩
            · have w : Wd g A (or_ws g o (upT P 7 (fun _ => n_end t tn (a + 1) 99))) s H locs := w
              have qc24 := n_end_rg (t := t) (n := tn) (a := a + 1) (hi := 99) (by omega)
              have vc24 := n_val_rg (t := t) (n := tn) (a := a + 1) (hi := 99) (by omega)
              refine lv_goto (tgt := 85) hx hb dX3_parseOrder_75 (by decide) ?_
              refine lv_istore_n (lv' := [(2, .int (iI (n_val t tn (a + 1) 99))), (1, .int (iI (t a))), (0, .ref (o 0))]) hx hb dX3_parseOrder_85 rfl hl (by decide) rfl (fun ls hl => ?_)
              refine lv_iload_n hx hb dX3_parseOrder_86 rfl (lv_at hl 0 rfl) ?_
              refine ri_iconst hx hb dX3_parseOrder_87 ?_
              refine ri_icmp_ne (tgt := 93) hx hb dX3_parseOrder_88 (by decide) (by omega) (by omega) (fun c25 => ?_) (fun c25 => ?_)
              · refine ri_iconst hx hb dX3_parseOrder_93 ?_
                refine lv_istore_n (lv' := [(3, .int (iI 1)), (2, .int (iI (n_val t tn (a + 1) 99))), (1, .int (iI (t a))), (0, .ref (o 0))]) hx hb dX3_parseOrder_94 rfl hl (by decide) rfl (fun ls hl => ?_)
                refine lv_iload_n hx hb dX3_parseOrder_95 rfl (lv_at hl 2 rfl) ?_
                refine ri_bipush hx hb dX3_parseOrder_96 (by decide) ?_
                refine ri_icmp_ne (tgt := 151) hx hb dX3_parseOrder_98 (by decide) (by omega) (by omega) (fun c26 => ?_) (fun c26 => ?_)
                · refine lv_aload_n hx hb dX3_parseOrder_151 rfl (lv_at hl 3 rfl) ?_
                  refine ri_get (v := .ref (o 2)) hx hb hts hown w fX3 0 2 (W0_of k_fl_RX3_19 rfl) rfl rfl (by decide) dX3_parseOrder_152 ?_
                  refine lv_aload_n hx hb dX3_parseOrder_155 rfl (lv_at hl 3 rfl) ?_
                  refine ri_get (v := .int (iI k)) hx hb hts hown w fX3 0 5 (W0_of k_fl_RX3_29 rfl) rfl (congrArg (fun z => some (Value.int (iI z))) (hxk)) (by decide) dX3_parseOrder_156 ?_
                  refine lv_iload_n hx hb dX3_parseOrder_159 rfl (lv_at hl 2 rfl) ?_
                  refine ri_cast hx hb w 2 rfl (by omega) (by omega) dX3_parseOrder_160 (by omega) (fun H locs w => ?_)
                  have w : Wd g A (or_ws g o (upT (upT P 7 (fun _ => n_end t tn (a + 1) 99)) 2 (up (P 2) k (t a)))) s H locs := w
                  refine lv_aload_n hx hb dX3_parseOrder_161 rfl (lv_at hl 3 rfl) ?_
                  refine ri_get (v := .ref (o 3)) hx hb hts hown w fX3 0 3 (W0_of k_fl_RX3_22 rfl) rfl rfl (by decide) dX3_parseOrder_162 ?_
                  refine lv_aload_n hx hb dX3_parseOrder_165 rfl (lv_at hl 3 rfl) ?_
                  refine ri_get (v := .int (iI k)) hx hb hts hown w fX3 0 5 (W0_of k_fl_RX3_29 rfl) rfl (congrArg (fun z => some (Value.int (iI z))) (hxk)) (by decide) dX3_parseOrder_166 ?_
                  refine lv_iload_n hx hb dX3_parseOrder_169 rfl (lv_at hl 1 rfl) ?_
                  refine ri_iast hx hb w 3 rfl (by omega) dX3_parseOrder_170 (by omega) (fun H locs w => ?_)
                  have w : Wd g A (or_ws g o (upT (upT (upT P 7 (fun _ => n_end t tn (a + 1) 99)) 2 (up (P 2) k (t a))) 3 (up (P 3) k (n_val t tn (a + 1) 99)))) s H locs := w
                  refine lv_aload_n hx hb dX3_parseOrder_171 rfl (lv_at hl 3 rfl) ?_
                  refine ri_get (v := .ref (o 4)) hx hb hts hown w fX3 0 4 (W0_of k_fl_RX3_26 rfl) rfl rfl (by decide) dX3_parseOrder_172 ?_
                  refine lv_aload_n hx hb dX3_parseOrder_175 rfl (lv_at hl 3 rfl) ?_
                  refine ri_get (v := .int (iI k)) hx hb hts hown w fX3 0 5 (W0_of k_fl_RX3_29 rfl) rfl (congrArg (fun z => some (Value.int (iI z))) (hxk)) (by decide) dX3_parseOrder_176 ?_
                  refine lv_iload_n hx hb dX3_parseOrder_179 rfl (lv_at hl 0 rfl) ?_
                  refine ri_iast hx hb w 4 rfl (by omega) dX3_parseOrder_180 (by omega) (fun H locs w => ?_)
                  have w : Wd g A (or_ws g o (upT (upT (upT (upT P 7 (fun _ => n_end t tn (a + 1) 99)) 2 (up (P 2) k (t a))) 3 (up (P 3) k (n_val t tn (a + 1) 99))) 4 (up (P 4) k 1))) s H locs := w
                  refine lv_aload_n hx hb dX3_parseOrder_181 rfl (lv_at hl 3 rfl) ?_
                  refine lv_dup hx hb dX3_parseOrder_182 rfl ?_
                  refine ri_get (v := .int (iI k)) hx hb hts hown w fX3 0 5 (W0_of k_fl_RX3_29 rfl) rfl (congrArg (fun z => some (Value.int (iI z))) (hxk)) (by decide) dX3_parseOrder_183 ?_
                  refine ri_iconst hx hb dX3_parseOrder_186 ?_
                  refine ri_iadd (z := k + 1) hx hb dX3_parseOrder_187 rfl ?_
                  refine ri_put hx hb hts hown w fX3 0 5 (W0_of k_fl_RX3_29 rfl) rfl (Nat.le_of_ble_eq_true rfl) (by decide) rfl rfl rfl dX3_parseOrder_188 (fun H locs w => ?_)
                  have w : Wd g A (or_ws g o (upT (upT (upT (upT (upT P 7 (fun _ => n_end t tn (a + 1) 99)) 2 (up (P 2) k (t a))) 3 (up (P 3) k (n_val t tn (a + 1) 99))) 4 (up (P 4) k 1)) 6 (fun _ => k + 1))) s H locs := w
                  refine ri_iconst hx hb dX3_parseOrder_191 ?_
                  have hL : O_let t tn a := by refine ⟨by omega, ?_⟩; omega
                  have elo : o_lo t a = 1 := by unfold o_lo; omega
                  have ehi : o_hi t a = 99 := by unfold o_hi; omega
                  have hN : O_num t tn a := by show o_lo t a ≤ _; rw [elo]; assumption
                  have e1 : o_e1 t tn a = n_end t tn (a + 1) 99 := by unfold o_e1; rw [ehi]
                  have e2 : o_arg t tn a = n_val t tn (a + 1) 99 := by unfold o_arg; rw [ehi]
                  have hS : ¬ O_star t tn a := by rw [show O_star t tn a = (t a = 114 ∧ o_e1 t tn a < tn ∧ t (o_e1 t tn a) = 42) from rfl, e1]; omega
                  have e3 : o_rep t tn a = 1 := if_neg hS
                  exact hend.2 _ _ _ _ ⟨_, rfl, (nz (by omega))⟩ _ _ dX3_parseOrder_192 w (Or.inl ⟨rfl, ⟨hL, hN, fun hh => absurd hh hS⟩, (upT (upT (upT (upT (upT P 7 (fun _ => n_end t tn (a + 1) 99)) 2 (up (P 2) k (t a))) 3 (up (P 3) k (n_val t tn (a + 1) 99))) 4 (up (P 4) k 1)) 6 (fun _ => k + 1)), rfl, ht, hn5, ((o_end_2 hL hN hS).trans e1).symm, rfl, rfl, by rw [e2]; rfl, by rw [e3]; rfl⟩)
                · exact absurd c26 (by omega)
              · exact absurd c25 (by omega)
            · have w : Wd g A (or_ws g o (upT P 7 (fun _ => a + 1))) s H locs := w
              refine lv_goto (tgt := 85) hx hb dX3_parseOrder_75 (by decide) ?_
              refine lv_istore_n (lv' := [(2, .int (iI (-1))), (1, .int (iI (t a))), (0, .ref (o 0))]) hx hb dX3_parseOrder_85 rfl hl (by decide) rfl (fun ls hl => ?_)
              refine lv_iload_n hx hb dX3_parseOrder_86 rfl (lv_at hl 0 rfl) ?_
              refine ri_iconst hx hb dX3_parseOrder_87 ?_
              refine ri_icmp_ne (tgt := 93) hx hb dX3_parseOrder_88 (by decide) (by omega) (by omega) (fun c27 => ?_) (fun c27 => ?_)
              · exact absurd c27 (by omega)
              refine ri_iconst hx hb dX3_parseOrder_91 ?_
              have hL : O_let t tn a := by refine ⟨by omega, ?_⟩; omega
              have elo : o_lo t a = 1 := by unfold o_lo; omega
              have ehi : o_hi t a = 99 := by unfold o_hi; omega
              have hN : ¬ O_num t tn a := by show ¬ (o_lo t a ≤ _); rw [elo]; assumption
              exact hend.2 _ _ _ _ ⟨_, rfl, (nz (by omega))⟩ _ _ dX3_parseOrder_92 w (Or.inr ⟨rfl, fun hh => hN hh.2.1, (upT P 7 (fun _ => a + 1)), rfl, ht, hn5, (o_end_1 hL hN).symm, hxk⟩)
          · refine ri_iconst hx hb dX3_parseOrder_50 ?_
            have hL : ¬ O_let t tn a := by rintro ⟨q1, q2⟩; omega
            exact hend.2 _ _ _ _ ⟨_, rfl, (nz (by omega))⟩ _ _ dX3_parseOrder_51 w (Or.inr ⟨rfl, fun hh => hL hh.1, P, rfl, ht, hn5, hxa.trans (o_end_0 hL).symm, hxk⟩)
    · exact absurd c2 (by omega)

set_option maxHeartbeats 4000000 in
set_option maxRecDepth 100000 in
theorem t_X3_parse (l : Launch) (g : GG) (o : Nat → Nat) (P : Nat → Int → Int) (t : Int → Int) (tn : Int) (ht : P 1 = t) (hn5 : P 5 0 = tn) (hT : Tx t) (hnr : 0 ≤ tn ∧ tn ≤ 60) (sz : Nat) : Met l yX3_parse (wm yX3_parse cX3_parse 2 (some .int)) (rmm 3 0 0) (pW g (or_ws g o P) sz [.ref (o 0)]) (qW g (or_ws g o P) (fun vv ww => ∃ P' : Nat → Int → Int, ww = or_ws g o P' ∧ P' 1 = t ∧ P' 5 0 = tn ∧ ((vv = some (.int (iI (-1))) ∧ (t_run t tn 21 0 0).1 = 1 ∧ 0 ≤ (t_run t tn 21 0 0).2.2 ∧ (t_run t tn 21 0 0).2.2 ≤ 20 ∧ P' 6 0 = (t_run t tn 21 0 0).2.2 ∧ (∀ j : Nat, (j : Int) < (t_run t tn 21 0 0).2.2 → P' 2 j = t (t_at t tn j) ∧ P' 3 j = o_arg t tn (t_at t tn j) ∧ P' 4 j = o_rep t tn (t_at t tn j) ∧ O_ok t tn (t_at t tn j))) ∨ (vv = some (.int (iI (t_run t tn 21 0 0).2.1)) ∧ (t_run t tn 21 0 0).1 = 0 ∧ 0 ≤ (t_run t tn 21 0 0).2.1 ∧ (t_run t tn 21 0 0).2.1 ≤ 60)))) 0 0 (va_A (or_ws g o P) sz) := by
  refine met_w (by decide) (Nat.le_of_ble_eq_true rfl) ?_
  intro p e s m args below meth c Q ls A hx hb hml hown hts hl w hin hend
  obtain ⟨H, hH0⟩ : ∃ H, H = s.heap := ⟨_, rfl⟩
  obtain ⟨locs, hL0⟩ : ∃ locs : List Loc, locs = [] := ⟨_, rfl⟩
  rw [← hH0, ← hL0] at w
  rw [← hH0, ← hL0]
  have hl : lv_has ls 2 [(0, .ref (o 0))] := hl
  refine lv_aload_n hx hb dX3_parse_0 rfl (lv_at hl 0 rfl) ?_
  refine ri_iconst hx hb dX3_parse_1 ?_
  refine ri_put hx hb hts hown w fX3 0 5 (W0_of k_fl_RX3_29 rfl) rfl (Nat.le_of_ble_eq_true rfl) (by decide) rfl rfl rfl dX3_parse_2 (fun H locs w => ?_)
  have w : Wd g A (or_ws g o (upT P 6 (fun _ => 0))) s H locs := w
  refine lv_aload_n hx hb dX3_parse_5 rfl (lv_at hl 0 rfl) ?_
  refine ri_iconst hx hb dX3_parse_6 ?_
  refine ri_put hx hb hts hown w fX3 0 6 (W0_of k_fl_RX3_32 rfl) rfl (Nat.le_of_ble_eq_true rfl) (by decide) rfl rfl rfl dX3_parse_7 (fun H locs w => ?_)
  have w : Wd g A (or_ws g o (upT (upT P 6 (fun _ => 0)) 7 (fun _ => 0))) s H locs := w
  refine ri_iconst hx hb dX3_parse_10 ?_
  refine lv_istore_n (lv' := [(1, .int (iI 0)), (0, .ref (o 0))]) hx hb dX3_parse_11 rfl hl (by decide) rfl (fun ls hl => ?_)
  have L12 : ∀ (n : Nat) (xk : Int) (Y : Nat → Int → Int) (a : Int), (xk + n = 32) → (t_run t tn (21 - xk).toNat a xk = t_run t tn 21 0 0) → (Y 1 = t) → (Y 5 0 = tn) → (Y 7 0 = a) → (Y 6 0 = xk) → (0 ≤ a ∧ a ≤ tn ∧ 3 * xk ≤ a ∧ 0 ≤ xk) → (t_at t tn xk.toNat = a) → ((∀ j : Nat, (j : Int) < xk → Y 2 j = t (t_at t tn j) ∧ Y 3 j = o_arg t tn (t_at t tn j) ∧ Y 4 j = o_rep t tn (t_at t tn j) ∧ O_ok t tn (t_at t tn j))) → ∀ (ls : Array Slot) (H : Heap) (locs : List Loc), lv_has ls 2 [(0, .ref (o 0)), (1, .int (iI xk))] → Wd g A (or_ws g o Y) s H locs → W p l e (rmm 3 0 0) s m args below meth c H locs 0 0 Q (F0 m 12 ls []) := by
    intro n
    induction n with
    | zero =>
      intro xk Y a hn hrun hy1 hy5 ha7 hk6 ha hat hro ls H locs hl w
      exact absurd hn (by omega)
    | succ n ih12 =>
      intro xk Y a hn hrun hy1 hy5 ha7 hk6 ha hat hro ls H locs hl w
      refine lv_iload_n hx hb dX3_parse_12 rfl (lv_at hl 1 rfl) ?_
      refine ri_bipush hx hb dX3_parse_13 (by decide) ?_
      refine ri_icmp_ge (tgt := 78) hx hb dX3_parse_15 (by decide) (by omega) (by omega) (fun c1 => ?_) (fun c1 => ?_)
      · exact absurd c1 (by omega)
      refine lv_aload_n hx hb dX3_parse_18 rfl (lv_at hl 0 rfl) ?_
      refine call_wV (wr := []) (As := []) (rest := []) hx hb (hml.trans hl.1.symm) hown hts w lk_RX3_35 (fun sz => t_X3_parseOrder l g o Y t tn a xk  hy1 hy5 hT hnr (ha7) (by omega) (hk6) (by omega)  sz) [0, 1, 2, 3, 4] [] rfl rfl rfl rfl (by decide) (call_recv w (q0 := 0) rfl fX3.1) rfl rfl (Nat.le_of_ble_eq_true rfl) ⟨Nat.le_of_ble_eq_true rfl, Nat.le_of_ble_eq_true rfl⟩ ⟨Nat.le_of_ble_eq_true rfl, Nat.le_of_ble_eq_true rfl⟩ dX3_parse_19 (fun v w1 H locs hr w => ?_)
      rcases hr with ⟨rfl, c2, Z3, rfl, z1c2, z5c2, z7c2, z6c2, z2c2, z3c2, z4c2⟩ | ⟨rfl, c2, Z3, rfl, z1c2, z5c2, z7c2, z6c2⟩
      · have w : Wd g A (or_ws g o Z3) s H locs := w
        refine ri_if_ne (tgt := 30) hx hb dX3_parse_22 (by decide) (by omega) (fun c4 => ?_) (fun c4 => ?_)
        · have hog := o_ok_rg c2
          refine lv_aload_n hx hb dX3_parse_30 rfl (lv_at hl 0 rfl) ?_
          refine ri_get (v := .int (iI (o_end t tn a))) hx hb hts hown w fX3 0 6 (W0_of k_fl_RX3_32 rfl) rfl (congrArg (fun z => some (Value.int (iI z))) (z7c2)) (by decide) dX3_parse_31 ?_
          refine lv_aload_n hx hb dX3_parse_34 rfl (lv_at hl 0 rfl) ?_
          refine ri_get (v := .int (iI tn)) hx hb hts hown w fX3 0 1 (W0_of k_fl_RX3_15 rfl) rfl (congrArg (fun z => some (Value.int (iI z))) (z5c2)) (by decide) dX3_parse_35 ?_
          refine ri_icmp_lt (tgt := 43) hx hb dX3_parse_38 (by decide) (by omega) (by omega) (fun c5 => ?_) (fun c5 => ?_)
          · refine lv_aload_n hx hb dX3_parse_43 rfl (lv_at hl 0 rfl) ?_
            refine ri_get (v := .ref (o 1)) hx hb hts hown w fX3 0 0 (W0_of k_fl_RX3_9 rfl) rfl rfl (by decide) dX3_parse_44 ?_
            refine lv_aload_n hx hb dX3_parse_47 rfl (lv_at hl 0 rfl) ?_
            refine ri_get (v := .int (iI (o_end t tn a))) hx hb hts hown w fX3 0 6 (W0_of k_fl_RX3_32 rfl) rfl (congrArg (fun z => some (Value.int (iI z))) (z7c2)) (by decide) dX3_parse_48 ?_
            refine ri_cald (f := Z3 1) (v := t (o_end t tn a)) hx hb w 1 rfl (by omega) (congrFun z1c2 _) dX3_parse_51 (by omega) ?_
            have r6 := hT.bd (o_end t tn a)
            refine ri_bipush hx hb dX3_parse_52 (by decide) ?_
            refine ri_icmp_eq (tgt := 62) hx hb dX3_parse_54 (by decide) (by omega) (by omega) (fun c7 => ?_) (fun c7 => ?_)
            · refine lv_aload_n hx hb dX3_parse_62 rfl (lv_at hl 0 rfl) ?_
              refine lv_dup hx hb dX3_parse_63 rfl ?_
              refine ri_get (v := .int (iI (o_end t tn a))) hx hb hts hown w fX3 0 6 (W0_of k_fl_RX3_32 rfl) rfl (congrArg (fun z => some (Value.int (iI z))) (z7c2)) (by decide) dX3_parse_64 ?_
              refine ri_iconst hx hb dX3_parse_67 ?_
              refine ri_iadd (z := o_end t tn a + 1) hx hb dX3_parse_68 rfl ?_
              refine ri_put hx hb hts hown w fX3 0 6 (W0_of k_fl_RX3_32 rfl) rfl (Nat.le_of_ble_eq_true rfl) (by decide) rfl rfl rfl dX3_parse_69 (fun H locs w => ?_)
              have w : Wd g A (or_ws g o (upT Z3 7 (fun _ => o_end t tn a + 1))) s H locs := w
              refine ri_iinc (k := 1) (z := xk + 1) (lv' := [(1, .int (iI (xk + 1))), (0, .ref (o 0))]) hx hb dX3_parse_72 hl rfl (by omega) (by decide) rfl (fun ls hl => ?_)
              refine lv_goto (tgt := 12) hx hb dX3_parse_75 (by decide) ?_
              exact ih12 (xk + 1) ((upT Z3 7 (fun _ => o_end t tn a + 1))) (o_end t tn a + 1) (by omega) (by rw [show (21 - (xk + 1)).toNat = (21 - xk).toNat - 1 from by omega, ← hrun, t_run_2 (by omega) c2 (by omega)]) (z1c2) (z5c2) (rfl) (z6c2) (by omega) (by rw [show (xk + 1).toNat = xk.toNat + 1 from by omega]; show o_end _ _ (t_at _ _ xk.toNat) + 1 = _; rw [hat]) (or_rows hro z2c2 z3c2 z4c2 hat c2 (by omega)) ls H locs (lv_sub hl [1, 0] rfl) w
            · refine lv_aload_n hx hb dX3_parse_57 rfl (lv_at hl 0 rfl) ?_
              refine ri_get (v := .int (iI (o_end t tn a))) hx hb hts hown w fX3 0 6 (W0_of k_fl_RX3_32 rfl) rfl (congrArg (fun z => some (Value.int (iI z))) (z7c2)) (by decide) dX3_parse_58 ?_
              have e9 : t_run t tn 21 0 0 = (0, o_end t tn a, xk + 1) := by rw [← hrun, t_run_3 (by omega) c2 (by omega), if_neg (by omega)]
              exact hend.2 _ _ _ _ ⟨_, rfl, rfl⟩ _ _ dX3_parse_61 w ⟨Z3, rfl, z1c2, z5c2, Or.inr ⟨by rw [e9], by rw [e9], by rw [e9]; show 0 ≤ o_end _ _ a; omega, by rw [e9]; show o_end _ _ a ≤ 60; omega⟩⟩
          · refine ri_iconst hx hb dX3_parse_41 ?_
            have e9 : t_run t tn 21 0 0 = (1, o_end t tn a, xk + 1) := by rw [← hrun, t_run_3 (by omega) c2 (by omega), if_pos (by omega)]
            exact hend.2 _ _ _ _ ⟨_, rfl, rfl⟩ _ _ dX3_parse_42 w ⟨Z3, rfl, z1c2, z5c2, Or.inl ⟨rfl, by rw [e9], by rw [e9]; show 0 ≤ xk + 1; omega, by rw [e9]; show xk + 1 ≤ 20; omega, by rw [e9]; exact z6c2, by rw [e9]; exact or_rows hro z2c2 z3c2 z4c2 hat c2 (by omega)⟩⟩
        · exact absurd c4 (by omega)
      · have w : Wd g A (or_ws g o Z3) s H locs := w
        refine ri_if_ne (tgt := 30) hx hb dX3_parse_22 (by decide) (by omega) (fun c8 => ?_) (fun c8 => ?_)
        · exact absurd c8 (by omega)
        have eg := o_end_rg0 (t := t) (n := tn) (a := a) (by omega)
        refine lv_aload_n hx hb dX3_parse_25 rfl (lv_at hl 0 rfl) ?_
        refine ri_get (v := .int (iI (o_end t tn a))) hx hb hts hown w fX3 0 6 (W0_of k_fl_RX3_32 rfl) rfl (congrArg (fun z => some (Value.int (iI z))) (z7c2)) (by decide) dX3_parse_26 ?_
        have e9 : t_run t tn 21 0 0 = (0, o_end t tn a, xk) := by rw [← hrun, t_run_1 (by omega) c2]
        exact hend.2 _ _ _ _ ⟨_, rfl, rfl⟩ _ _ dX3_parse_29 w ⟨Z3, rfl, z1c2, z5c2, Or.inr ⟨by rw [e9], by rw [e9], by rw [e9]; show 0 ≤ o_end _ _ a; omega, by rw [e9]; show o_end _ _ a ≤ 60; omega⟩⟩
  refine L12 32 0 ((upT (upT P 6 (fun _ => 0)) 7 (fun _ => 0))) (0) (by omega) (rfl) (ht) (hn5) (rfl) (rfl) (by omega) (rfl) (fun j hj => absurd hj (by omega)) ls H locs (lv_sub hl [1, 0] rfl) w 

set_option maxHeartbeats 4000000 in
set_option maxRecDepth 100000 in
theorem t_X3_argumentOf (l : Launch) (g : GG) (o : Nat → Nat) (P : Nat → Int → Int) (t : Int → Int) (tn : Int) (v : Int) (ht : P 1 = t) (hn5 : P 5 0 = tn) (hT : Tx t) (hnr : 0 ≤ tn ∧ tn ≤ 60) (h1 : 0 ≤ v ∧ v < P 6 0) (h2 : P 6 0 ≤ 32) : Met l yX3_argumentOf (wm yX3_argumentOf cX3_argumentOf 2 (some .int)) (rmm 0 0 0) (pR g (or_ws g o P) [.ref (o 0), .int (iI v)]) (qR (some (.int (iI (P 3 v))))) 0 0 (fun _ => False) := by
  refine met_r (by decide) (Nat.le_of_ble_eq_true rfl) ?_
  intro p e s m args below meth c Q ls hx hb hml hown hts hl w hend
  have hl : lv_has ls 2 [(0, .ref (o 0)), (1, .int (iI v))] := hl
  refine lv_iload_n hx hb dX3_argumentOf_0 rfl (lv_at hl 1 rfl) ?_
  refine ri_if_lt (tgt := 12) hx hb dX3_argumentOf_1 (by decide) (by omega) (fun c1 => ?_) (fun c1 => ?_)
  · exact absurd c1 (by omega)
  refine lv_iload_n hx hb dX3_argumentOf_4 rfl (lv_at hl 1 rfl) ?_
  refine lv_aload_n hx hb dX3_argumentOf_5 rfl (lv_at hl 0 rfl) ?_
  refine ri_get (v := .int (iI (P 6 0))) hx hb hts hown w fX3 0 5 (W0_of k_fl_RX3_29 rfl) rfl rfl (by decide) dX3_argumentOf_6 ?_
  refine ri_icmp_lt (tgt := 16) hx hb dX3_argumentOf_9 (by decide) (by omega) (by omega) (fun c2 => ?_) (fun c2 => ?_)
  · refine lv_aload_n hx hb dX3_argumentOf_16 rfl (lv_at hl 0 rfl) ?_
    refine ri_get (v := .ref (o 3)) hx hb hts hown w fX3 0 3 (W0_of k_fl_RX3_22 rfl) rfl rfl (by decide) dX3_argumentOf_17 ?_
    refine lv_iload_n hx hb dX3_argumentOf_20 rfl (lv_at hl 1 rfl) ?_
    refine ri_iald (f := P 3) (v := (P 3) v) hx hb w 3 rfl (by omega) (rfl) dX3_argumentOf_21 (by omega) ?_
    exact hend.2 _ (congrArg (fun z => some (Value.int (iI z))) (show P 3 v = (P 3) v from by omega)) ⟨_, rfl, rfl⟩ _ _ dX3_argumentOf_22
  · exact absurd c2 (by omega)

set_option maxHeartbeats 4000000 in
set_option maxRecDepth 100000 in
theorem t_X3_timesOf (l : Launch) (g : GG) (o : Nat → Nat) (P : Nat → Int → Int) (t : Int → Int) (tn : Int) (v : Int) (ht : P 1 = t) (hn5 : P 5 0 = tn) (hT : Tx t) (hnr : 0 ≤ tn ∧ tn ≤ 60) (h1 : 0 ≤ v ∧ v < P 6 0) (h2 : P 6 0 ≤ 32) : Met l yX3_timesOf (wm yX3_timesOf cX3_timesOf 2 (some .int)) (rmm 0 0 0) (pR g (or_ws g o P) [.ref (o 0), .int (iI v)]) (qR (some (.int (iI (P 4 v))))) 0 0 (fun _ => False) := by
  refine met_r (by decide) (Nat.le_of_ble_eq_true rfl) ?_
  intro p e s m args below meth c Q ls hx hb hml hown hts hl w hend
  have hl : lv_has ls 2 [(0, .ref (o 0)), (1, .int (iI v))] := hl
  refine lv_iload_n hx hb dX3_timesOf_0 rfl (lv_at hl 1 rfl) ?_
  refine ri_if_lt (tgt := 12) hx hb dX3_timesOf_1 (by decide) (by omega) (fun c1 => ?_) (fun c1 => ?_)
  · exact absurd c1 (by omega)
  refine lv_iload_n hx hb dX3_timesOf_4 rfl (lv_at hl 1 rfl) ?_
  refine lv_aload_n hx hb dX3_timesOf_5 rfl (lv_at hl 0 rfl) ?_
  refine ri_get (v := .int (iI (P 6 0))) hx hb hts hown w fX3 0 5 (W0_of k_fl_RX3_29 rfl) rfl rfl (by decide) dX3_timesOf_6 ?_
  refine ri_icmp_lt (tgt := 16) hx hb dX3_timesOf_9 (by decide) (by omega) (by omega) (fun c2 => ?_) (fun c2 => ?_)
  · refine lv_aload_n hx hb dX3_timesOf_16 rfl (lv_at hl 0 rfl) ?_
    refine ri_get (v := .ref (o 4)) hx hb hts hown w fX3 0 4 (W0_of k_fl_RX3_26 rfl) rfl rfl (by decide) dX3_timesOf_17 ?_
    refine lv_iload_n hx hb dX3_timesOf_20 rfl (lv_at hl 1 rfl) ?_
    refine ri_iald (f := P 4) (v := (P 4) v) hx hb w 4 rfl (by omega) (rfl) dX3_timesOf_21 (by omega) ?_
    exact hend.2 _ (congrArg (fun z => some (Value.int (iI z))) (show P 4 v = (P 4) v from by omega)) ⟨_, rfl, rfl⟩ _ _ dX3_timesOf_22
  · exact absurd c2 (by omega)
