set_option maxHeartbeats 4000000 in
set_option maxRecDepth 100000 in
theorem t_X6_doesOnce (l : Launch) (g : GG) (b : Nat → Nat) (N : Int) (B : Nat → Int → Int) (X : Nat → Int → Int) (v : Int) (cc : Int) (xx : Int) (hW : WB N B) (hv : 0 ≤ v ∧ v ≤ 20) (hc : X 5 (3 * v) = cc) (hc1 : X 5 (3 * v + 1) = xx) (hcc : cc = 114 ∨ cc = 119 ∨ cc = 116) (hxx : 0 ≤ xx ∧ xx ≤ 99) (hX0 : WF N (X 0)) (hN : N + 10000 ≤ 200000000) (sz : Nat) : Met l yX6_doesOnce (wm yX6_doesOnce cX6_doesOnce 3 (some .int)) (rmm 9 0 0) (pW g (mo_ws g b B X) sz [.ref (b 0), .int (iI v)]) (qW g (mo_ws g b B X) (fun vv ww => vv = some (.int (iI (e_one (X 0) cc xx).1)) ∧ ∃ Y, ww = mo_ws g b B (upT (upT X 1 Y) 0 (e_one (X 0) cc xx).2))) 0 0 (va_A (mo_ws g b B X) sz) := by
  have hk := hW.k
  have hj := hW.j
  have htl := hW.tl
  have hrf := hW.rf
  have hTx := hW.tx
  have hrr := hW.rr
  have hW0 := hW.1
  refine met_w (by decide) (Nat.le_of_ble_eq_true rfl) ?_
  intro p e s m args below meth c Q ls A hx hb hml hown hts hl w hin hend
  obtain ⟨H, hH0⟩ : ∃ H, H = s.heap := ⟨_, rfl⟩
  obtain ⟨locs, hL0⟩ : ∃ locs : List Loc, locs = [] := ⟨_, rfl⟩
  rw [← hH0, ← hL0] at w
  rw [← hH0, ← hL0]
  have hl : lv_has ls 3 [(0, .ref (b 0)), (1, .int (iI v))] := hl
  refine lv_aload_n hx hb dX6_doesOnce_0 rfl (lv_at hl 0 rfl) ?_
  refine ri_get (v := .ref (b 7)) hx hb hts hown w fX6 0 11 (W0_of k_fl_RX6_28 rfl) rfl rfl (by decide) dX6_doesOnce_1 ?_
  refine ri_iconst hx hb dX6_doesOnce_4 ?_
  refine lv_iload_n hx hb dX6_doesOnce_5 rfl (lv_at hl 1 rfl) ?_
  refine ri_imul (z := 3 * v) hx hb dX6_doesOnce_6 rfl ?_
  refine ri_iconst hx hb dX6_doesOnce_7 ?_
  refine ri_iadd (z := 3 * v + 1) hx hb dX6_doesOnce_8 rfl ?_
  refine ri_iald (f := X 5) (v := xx) hx hb w 7 rfl (by omega) (hc1) dX6_doesOnce_9 (by omega) ?_
  refine lv_istore_n (lv' := [(2, .int (iI xx)), (0, .ref (b 0)), (1, .int (iI v))]) hx hb dX6_doesOnce_10 rfl hl (by decide) rfl (fun ls hl => ?_)
  refine lv_aload_n hx hb dX6_doesOnce_11 rfl (lv_at hl 1 rfl) ?_
  refine ri_get (v := .ref (b 7)) hx hb hts hown w fX6 0 11 (W0_of k_fl_RX6_28 rfl) rfl rfl (by decide) dX6_doesOnce_12 ?_
  refine ri_iconst hx hb dX6_doesOnce_15 ?_
  refine lv_iload_n hx hb dX6_doesOnce_16 rfl (lv_at hl 2 rfl) ?_
  refine ri_imul (z := 3 * v) hx hb dX6_doesOnce_17 rfl ?_
  refine ri_iald (f := X 5) (v := cc) hx hb w 7 rfl (by omega) (hc) dX6_doesOnce_18 (by omega) ?_
  refine ri_bipush hx hb dX6_doesOnce_19 (by decide) ?_
  refine ri_icmp_ne (tgt := 36) hx hb dX6_doesOnce_21 (by decide) (by omega) (by omega) (fun c1 => ?_) (fun c1 => ?_)
  · refine lv_aload_n hx hb dX6_doesOnce_36 rfl (lv_at hl 1 rfl) ?_
    refine ri_get (v := .ref (b 7)) hx hb hts hown w fX6 0 11 (W0_of k_fl_RX6_28 rfl) rfl rfl (by decide) dX6_doesOnce_37 ?_
    refine ri_iconst hx hb dX6_doesOnce_40 ?_
    refine lv_iload_n hx hb dX6_doesOnce_41 rfl (lv_at hl 2 rfl) ?_
    refine ri_imul (z := 3 * v) hx hb dX6_doesOnce_42 rfl ?_
    refine ri_iald (f := X 5) (v := cc) hx hb w 7 rfl (by omega) (hc) dX6_doesOnce_43 (by omega) ?_
    refine ri_bipush hx hb dX6_doesOnce_44 (by decide) ?_
    refine ri_icmp_ne (tgt := 60) hx hb dX6_doesOnce_46 (by decide) (by omega) (by omega) (fun c2 => ?_) (fun c2 => ?_)
    · refine lv_aload_n hx hb dX6_doesOnce_60 rfl (lv_at hl 1 rfl) ?_
      refine ri_get (v := .ref (b 2)) hx hb hts hown w fX6 0 1 (W0_of k_fl_RX6_13 rfl) rfl rfl (by decide) dX6_doesOnce_61 ?_
      refine lv_iload_n hx hb dX6_doesOnce_64 rfl (lv_at hl 0 rfl) ?_
      refine call_wS (wr := [(b 0, .inr (6, [.ref (b 1), .ref (b 2), .ref (b 3), .ref (b 4), .int (iI (B 8 0)), .ref (b 5), .int (iI (B 9 0)), .ref (b 6), .int (iI (B 10 0)), .int (iI (X 3 0)), .int (iI (X 4 0)), .ref (b 7), .int (iI (X 6 0)), .ref (b 8), .int (iI (B 11 0))])), (b 1, eI g 233 (B 0)), (b 3, eI g 233 (X 1)), (b 4, eI g 932 (X 2)), (b 5, eI g 233 (B 5)), (b 6, eI g 60 (B 6)), (b 7, eI g 93 (X 5)), (b 8, eI g 3 (B 7))]) (As := [.ref (b 2), .int (iI xx)]) (rest := []) hx hb (hml.trans hl.1.symm) hown hts w lk_RX6_171 (fun sz => t_X6_passesOn l g (b 2) _ (X 0) xx (hX0) (by omega) (by omega) sz) [2] [0, 1, 3, 4, 5, 6, 7, 8] rfl rfl rfl rfl (by decide) rfl rfl (Nat.le_of_ble_eq_true rfl) ⟨Nat.le_of_ble_eq_true rfl, Nat.le_of_ble_eq_true rfl⟩ ⟨Nat.le_of_ble_eq_true rfl, Nat.le_of_ble_eq_true rfl⟩ dX6_doesOnce_65 (fun v w1 H locs hr w => ?_)
      obtain ⟨rfl, rfl⟩ := hr
      have w := w.perm (wc := (mo_ws g b B (upT X 0 (r_pass (X 0) xx).2))) [0, 1, 8, 2, 3, 4, 5, 6, 7] (by decide) rfl
      have w : Wd g A (mo_ws g b B (upT X 0 (r_pass (X 0) xx).2)) s H locs := w
      have r3 := pass_rg hX0 xx
      have e8 : e_one (X 0) cc xx = r_pass (X 0) xx := by unfold e_one; rw [if_neg (by omega), if_neg (by omega)]
      exact hend.2 _ _ _ _ ⟨_, rfl, rfl⟩ _ _ dX6_doesOnce_68 w ⟨by rw [e8], (X 1), by first | (rw [e8]; done) | (rw [e8]; rfl)⟩
    · refine lv_aload_n hx hb dX6_doesOnce_49 rfl (lv_at hl 1 rfl) ?_
      refine ri_get (v := .ref (b 2)) hx hb hts hown w fX6 0 1 (W0_of k_fl_RX6_13 rfl) rfl rfl (by decide) dX6_doesOnce_50 ?_
      refine lv_iload_n hx hb dX6_doesOnce_53 rfl (lv_at hl 0 rfl) ?_
      refine call_wS (wr := [(b 0, .inr (6, [.ref (b 1), .ref (b 2), .ref (b 3), .ref (b 4), .int (iI (B 8 0)), .ref (b 5), .int (iI (B 9 0)), .ref (b 6), .int (iI (B 10 0)), .int (iI (X 3 0)), .int (iI (X 4 0)), .ref (b 7), .int (iI (X 6 0)), .ref (b 8), .int (iI (B 11 0))])), (b 1, eI g 233 (B 0)), (b 3, eI g 233 (X 1)), (b 4, eI g 932 (X 2)), (b 5, eI g 233 (B 5)), (b 6, eI g 60 (B 6)), (b 7, eI g 93 (X 5)), (b 8, eI g 3 (B 7))]) (As := [.ref (b 2), .int (iI xx)]) (rest := []) hx hb (hml.trans hl.1.symm) hown hts w lk_RX6_158 (fun sz => t_X6_writesOn l g (b 2) _ (X 0) xx (hX0) (by omega) sz) [2] [0, 1, 3, 4, 5, 6, 7, 8] rfl rfl rfl rfl (by decide) rfl rfl (Nat.le_of_ble_eq_true rfl) ⟨Nat.le_of_ble_eq_true rfl, Nat.le_of_ble_eq_true rfl⟩ ⟨Nat.le_of_ble_eq_true rfl, Nat.le_of_ble_eq_true rfl⟩ dX6_doesOnce_54 (fun v w1 H locs hr w => ?_)
      obtain ⟨rfl, rfl⟩ := hr
      have w := w.perm (wc := (mo_ws g b B (upT X 0 (r_write (X 0) xx).2))) [0, 1, 8, 2, 3, 4, 5, 6, 7] (by decide) rfl
      have w : Wd g A (mo_ws g b B (upT X 0 (r_write (X 0) xx).2)) s H locs := w
      refine lv_goto (tgt := 68) hx hb dX6_doesOnce_57 (by decide) ?_
      have r4 := write_rg hX0 xx
      have e8 : e_one (X 0) cc xx = r_write (X 0) xx := by unfold e_one; rw [if_neg (by omega), if_pos (by omega)]
      exact hend.2 _ _ _ _ ⟨_, rfl, rfl⟩ _ _ dX6_doesOnce_68 w ⟨by rw [e8], (X 1), by first | (rw [e8]; done) | (rw [e8]; rfl)⟩
  · refine lv_aload_n hx hb dX6_doesOnce_24 rfl (lv_at hl 1 rfl) ?_
    refine lv_aload_n hx hb dX6_doesOnce_25 rfl (lv_at hl 1 rfl) ?_
    refine ri_get (v := .ref (b 2)) hx hb hts hown w fX6 0 1 (W0_of k_fl_RX6_13 rfl) rfl rfl (by decide) dX6_doesOnce_26 ?_
    refine lv_iload_n hx hb dX6_doesOnce_29 rfl (lv_at hl 0 rfl) ?_
    refine call_wV (wr := []) (As := [.ref (b 2), .int (iI xx)]) (rest := []) hx hb (hml.trans hl.1.symm) hown hts w lk_RX6_165 (fun sz => t_X6_readsOn l g b _ B X xx (hW) (by omega) hX0 (by omega) sz) [0, 1, 2, 3, 4, 5, 6, 7, 8] [] rfl rfl rfl rfl (by decide) (call_recv w (q0 := 0) rfl fX6.1) rfl rfl (Nat.le_of_ble_eq_true rfl) ⟨Nat.le_of_ble_eq_true rfl, Nat.le_of_ble_eq_true rfl⟩ ⟨Nat.le_of_ble_eq_true rfl, Nat.le_of_ble_eq_true rfl⟩ dX6_doesOnce_30 (fun v w1 H locs hr w => ?_)
    obtain ⟨rfl, Y5, rfl⟩ := hr
    have w : Wd g A (mo_ws g b B (upT (upT X 1 Y5) 0 (r_read (X 0) xx).2)) s H locs := w
    refine lv_goto (tgt := 68) hx hb dX6_doesOnce_33 (by decide) ?_
    have r6 := read_rg hX0 xx
    have e8 : e_one (X 0) cc xx = r_read (X 0) xx := by unfold e_one; rw [if_pos (by omega)]
    exact hend.2 _ _ _ _ ⟨_, rfl, rfl⟩ _ _ dX6_doesOnce_68 w ⟨by rw [e8], Y5, by first | (rw [e8]; done) | (rw [e8]; rfl)⟩

set_option maxHeartbeats 4000000 in
set_option maxRecDepth 100000 in
theorem t_X6_perform (l : Launch) (g : GG) (b : Nat → Nat) (N : Int) (B : Nat → Int → Int) (X : Nat → Int → Int) (hW : WB N B) (hP : PastOk B (X 2)) (hN : N + 210000 ≤ 200000000) (sz : Nat) : Met l yX6_perform (wm yX6_perform cX6_perform 4 (some .int)) (rmm 10 0 0) (pW g (mo_ws g b B X) sz [.ref (b 0)]) (qW g (mo_ws g b B X) (fun vv ww => vv = some (.int (iI (c_perform B).1)) ∧ ∃ X', ww = mo_ws g b (c_perform B).2 X' ∧ PastOk (c_perform B).2 (X' 2))) 0 0 (va_A (mo_ws g b B X) sz) := by
  have hk := hW.k
  have hj := hW.j
  have htl := hW.tl
  have hrf := hW.rf
  have hTx := hW.tx
  have hrr := hW.rr
  have hW0 := hW.1
  refine met_w (by decide) (Nat.le_of_ble_eq_true rfl) ?_
  intro p e s m args below meth c Q ls A hx hb hml hown hts hl w hin hend
  obtain ⟨H, hH0⟩ : ∃ H, H = s.heap := ⟨_, rfl⟩
  obtain ⟨locs, hL0⟩ : ∃ locs : List Loc, locs = [] := ⟨_, rfl⟩
  rw [← hH0, ← hL0] at w
  rw [← hH0, ← hL0]
  have hl : lv_has ls 4 [(0, .ref (b 0))] := hl
  refine lv_aload_n hx hb dX6_perform_0 rfl (lv_at hl 0 rfl) ?_
  refine call_wV (wr := []) (As := []) (rest := []) hx hb (hml.trans hl.1.symm) hown hts w lk_RX6_199 (fun sz => t_X6_isText l g b _ B X  (hW) hP  sz) [0, 1, 2, 3, 4, 5, 6, 7, 8] [] rfl rfl rfl rfl (by decide) (call_recv w (q0 := 0) rfl fX6.1) rfl rfl (Nat.le_of_ble_eq_true rfl) ⟨Nat.le_of_ble_eq_true rfl, Nat.le_of_ble_eq_true rfl⟩ ⟨Nat.le_of_ble_eq_true rfl, Nat.le_of_ble_eq_true rfl⟩ dX6_perform_1 (fun v w1 H locs hr w => ?_)
  obtain ⟨Z2, rfl, zx2, ⟨rfl, ht1, hk0, hk20, zx6, hro⟩ | ⟨rfl, ht1, ha0, ha60, zx3⟩⟩ := hr
  · have w : Wd g A (mo_ws g b B Z2) s H locs := w
    refine ri_if_ne (tgt := 15) hx hb dX6_perform_4 (by decide) (by omega) (fun c3 => ?_) (fun c3 => ?_)
    · refine lv_aload_n hx hb dX6_perform_15 rfl (lv_at hl 0 rfl) ?_
      refine call_wV (wr := []) (As := []) (rest := []) hx hb (hml.trans hl.1.symm) hown hts w lk_RX6_155 (fun sz => t_X6_tries l g b _ B Z2  (hW)  sz) [0, 1, 2, 3, 4, 5, 6, 7, 8] [] rfl rfl rfl rfl (by decide) (call_recv w (q0 := 0) rfl fX6.1) rfl rfl (Nat.le_of_ble_eq_true rfl) ⟨Nat.le_of_ble_eq_true rfl, Nat.le_of_ble_eq_true rfl⟩ ⟨Nat.le_of_ble_eq_true rfl, Nat.le_of_ble_eq_true rfl⟩ dX6_perform_16 (fun v w1 H locs hr w => ?_)
      obtain ⟨rfl, rfl⟩ := hr
      have w : Wd g A (mo_ws g b B (upT Z2 0 (B 0))) s H locs := w
      refine ri_iconst hx hb dX6_perform_19 ?_
      refine lv_istore_n (lv' := [(1, .int (iI 0)), (0, .ref (b 0))]) hx hb dX6_perform_20 rfl hl (by decide) rfl (fun ls hl => ?_)
      have L21 : ∀ (n : Nat) (xk : Int) (Y : Nat → Int → Int), (xk + n = (t_of B).2.2) → (e_all (B 6) (B 10 0) n xk.toNat (Y 0) = p_of B) → (0 ≤ xk) → (Y 2 = X 2) → (Y 6 0 = (t_of B).2.2) → ((∀ j : Nat, (j : Int) < (t_of B).2.2 → Y 5 (3 * j) = B 6 (t_at (B 6) (B 10 0) j) ∧ Y 5 (3 * j + 1) = o_arg (B 6) (B 10 0) (t_at (B 6) (B 10 0) j) ∧ Y 5 (3 * j + 2) = o_rep (B 6) (B 10 0) (t_at (B 6) (B 10 0) j) ∧ O_ok (B 6) (B 10 0) (t_at (B 6) (B 10 0) j))) → (WF (N + 10000 * xk) (Y 0)) → ∀ (ls : Array Slot) (H : Heap) (locs : List Loc), lv_has ls 4 [(0, .ref (b 0)), (1, .int (iI xk))] → Wd g A (mo_ws g b B Y) s H locs → (∀ (Y : Nat → Int → Int) (hY2 : Y 2 = X 2) (hY6 : Y 6 0 = (t_of B).2.2) (hE : (0, (((t_of B).2.2).toNat : Int), 0, Y 0) = p_of B) (ls : Array Slot) (H : Heap) (locs : List Loc), lv_has ls 4 [(0, .ref (b 0))] → Wd g A (mo_ws g b B Y) s H locs → W p l e (rmm 10 0 0) s m args below meth c H locs 0 0 Q (F0 m 96 ls [])) → W p l e (rmm 10 0 0) s m args below meth c H locs 0 0 Q (F0 m 21 ls []) := by
        intro n
        induction n with
        | zero =>
          intro xk Y hn hE hlo hY2 hY6 hro hWY ls H locs hl w kk21
          refine lv_iload_n hx hb dX6_perform_21 rfl (lv_at hl 1 rfl) ?_
          refine lv_aload_n hx hb dX6_perform_22 rfl (lv_at hl 0 rfl) ?_
          refine ri_get (v := .int (iI (t_of B).2.2)) hx hb hts hown w fX6 0 12 (W0_of k_fl_RX6_189 rfl) rfl (congrArg (fun z => some (Value.int (iI z))) (hY6)) (by decide) dX6_perform_23 ?_
          refine ri_icmp_ge (tgt := 96) hx hb dX6_perform_26 (by decide) (by omega) (by omega) (fun c4 => ?_) (fun c4 => ?_)
          · exact kk21 Y hY2 hY6 (by rw [← hE, show xk = (t_of B).2.2 from by omega]; rfl) ls H locs  (lv_sub hl [0] rfl) w
          · exact absurd c4 (by omega)
        | succ n ih21 =>
          intro xk Y hn hE hlo hY2 hY6 hro hWY ls H locs hl w kk21
          refine lv_iload_n hx hb dX6_perform_21 rfl (lv_at hl 1 rfl) ?_
          refine lv_aload_n hx hb dX6_perform_22 rfl (lv_at hl 0 rfl) ?_
          refine ri_get (v := .int (iI (t_of B).2.2)) hx hb hts hown w fX6 0 12 (W0_of k_fl_RX6_189 rfl) rfl (congrArg (fun z => some (Value.int (iI z))) (hY6)) (by decide) dX6_perform_23 ?_
          refine ri_icmp_ge (tgt := 96) hx hb dX6_perform_26 (by decide) (by omega) (by omega) (fun c5 => ?_) (fun c5 => ?_)
          · exact absurd c5 (by omega)
          have hYr := hro xk.toNat (by omega)
          rw [Int.toNat_of_nonneg (by omega)] at hYr
          have hog := o_ok_rg hYr.2.2.2
          have hog1 : (B 6 (t_at (B 6) (B 10 0) xk.toNat)) = 114 ∨ (B 6 (t_at (B 6) (B 10 0) xk.toNat)) = 119 ∨ (B 6 (t_at (B 6) (B 10 0) xk.toNat)) = 116 := by have := hYr.2.2.2.1.2; omega
          have hogx : 0 ≤ (o_arg (B 6) (B 10 0) (t_at (B 6) (B 10 0) xk.toNat)) ∧ (o_arg (B 6) (B 10 0) (t_at (B 6) (B 10 0) xk.toNat)) ≤ 99 := by have h1 := hog.2.2.1; have h2 := hog.2.2.2.1; unfold o_lo at h1; unfold o_hi at h2; omega
          refine ri_iconst hx hb dX6_perform_29 ?_
          refine lv_istore_n (lv' := [(2, .int (iI 0)), (0, .ref (b 0)), (1, .int (iI xk))]) hx hb dX6_perform_30 rfl hl (by decide) rfl (fun ls hl => ?_)
          have L31 : ∀ (n : Nat) (xd : Int) (Z : Nat → Int → Int), (xd + n = (o_rep (B 6) (B 10 0) (t_at (B 6) (B 10 0) xk.toNat))) → (e_reps (B 6 (t_at (B 6) (B 10 0) xk.toNat)) (o_arg (B 6) (B 10 0) (t_at (B 6) (B 10 0) xk.toNat)) n xd (Z 0) = e_reps (B 6 (t_at (B 6) (B 10 0) xk.toNat)) (o_arg (B 6) (B 10 0) (t_at (B 6) (B 10 0) xk.toNat)) (o_rep (B 6) (B 10 0) (t_at (B 6) (B 10 0) xk.toNat)).toNat 0 (Y 0)) → (0 ≤ xd) → (Z 2 = X 2) → (Z 6 0 = (t_of B).2.2) → (Z 5 = Y 5) → (WF (N + 10000 * xk + e_grow (B 6 (t_at (B 6) (B 10 0) xk.toNat)) * xd) (Z 0)) → ∀ (ls : Array Slot) (H : Heap) (locs : List Loc), lv_has ls 4 [(0, .ref (b 0)), (1, .int (iI xk)), (2, .int (iI xd))] → Wd g A (mo_ws g b B Z) s H locs → (∀ (Z : Nat → Int → Int) (hZ2 : Z 2 = X 2) (hZ6 : Z 6 0 = (t_of B).2.2) (hZ5 : Z 5 = Y 5) (hZG : Z 0 = (e_reps (B 6 (t_at (B 6) (B 10 0) xk.toNat)) (o_arg (B 6) (B 10 0) (t_at (B 6) (B 10 0) xk.toNat)) (o_rep (B 6) (B 10 0) (t_at (B 6) (B 10 0) xk.toNat)).toNat 0 (Y 0)).2.2) (hZ1 : (e_reps (B 6 (t_at (B 6) (B 10 0) xk.toNat)) (o_arg (B 6) (B 10 0) (t_at (B 6) (B 10 0) xk.toNat)) (o_rep (B 6) (B 10 0) (t_at (B 6) (B 10 0) xk.toNat)).toNat 0 (Y 0)).1 = 0) (hWZ : WF (N + 10000 * xk + 10000) (Z 0)) (ls : Array Slot) (H : Heap) (locs : List Loc), lv_has ls 4 [(0, .ref (b 0)), (1, .int (iI xk))] → Wd g A (mo_ws g b B Z) s H locs → W p l e (rmm 10 0 0) s m args below meth c H locs 0 0 Q (F0 m 90 ls [])) → W p l e (rmm 10 0 0) s m args below meth c H locs 0 0 Q (F0 m 31 ls []) := by
            intro n
            induction n with
            | zero =>
              intro xd Z hn2 hE2 hlo2 hZ2 hZ6 hZ5 hWZ ls H locs hl w kk31
              have hZr : Z 5 (3 * xk) = (B 6 (t_at (B 6) (B 10 0) xk.toNat)) ∧ Z 5 (3 * xk + 1) = (o_arg (B 6) (B 10 0) (t_at (B 6) (B 10 0) xk.toNat)) ∧ Z 5 (3 * xk + 2) = (o_rep (B 6) (B 10 0) (t_at (B 6) (B 10 0) xk.toNat)) ∧ O_ok (B 6) (B 10 0) (t_at (B 6) (B 10 0) xk.toNat) := by rw [hZ5]; exact hYr
              refine lv_iload_n hx hb dX6_perform_31 rfl (lv_at hl 2 rfl) ?_
              refine lv_aload_n hx hb dX6_perform_32 rfl (lv_at hl 0 rfl) ?_
              refine ri_get (v := .ref (b 7)) hx hb hts hown w fX6 0 11 (W0_of k_fl_RX6_28 rfl) rfl rfl (by decide) dX6_perform_33 ?_
              refine ri_iconst hx hb dX6_perform_36 ?_
              refine lv_iload_n hx hb dX6_perform_37 rfl (lv_at hl 1 rfl) ?_
              refine ri_imul (z := 3 * xk) hx hb dX6_perform_38 rfl ?_
              refine ri_iconst hx hb dX6_perform_39 ?_
              refine ri_iadd (z := 3 * xk + 2) hx hb dX6_perform_40 rfl ?_
              refine ri_iald (f := Z 5) (v := (o_rep (B 6) (B 10 0) (t_at (B 6) (B 10 0) xk.toNat))) hx hb w 7 rfl (by omega) (hZr.2.2.1) dX6_perform_41 (by omega) ?_
              refine ri_icmp_ge (tgt := 90) hx hb dX6_perform_42 (by decide) (by omega) (by omega) (fun c6 => ?_) (fun c6 => ?_)
              · exact kk31 Z hZ2 hZ6 hZ5 (by rw [← hE2]; rfl) (by rw [← hE2]; rfl) (hWZ.mono (by rw [show xd = (o_rep (B 6) (B 10 0) (t_at (B 6) (B 10 0) xk.toNat)) from by omega]; have := grow_99 hog.2.2.2.2.1 hog.2.2.2.2.2.1 hog.2.2.2.2.2.2; omega) (by omega)) ls H locs  (lv_sub hl [0, 1] rfl) w
              · exact absurd c6 (by omega)
            | succ n ih31 =>
              intro xd Z hn2 hE2 hlo2 hZ2 hZ6 hZ5 hWZ ls H locs hl w kk31
              have hZr : Z 5 (3 * xk) = (B 6 (t_at (B 6) (B 10 0) xk.toNat)) ∧ Z 5 (3 * xk + 1) = (o_arg (B 6) (B 10 0) (t_at (B 6) (B 10 0) xk.toNat)) ∧ Z 5 (3 * xk + 2) = (o_rep (B 6) (B 10 0) (t_at (B 6) (B 10 0) xk.toNat)) ∧ O_ok (B 6) (B 10 0) (t_at (B 6) (B 10 0) xk.toNat) := by rw [hZ5]; exact hYr
              refine lv_iload_n hx hb dX6_perform_31 rfl (lv_at hl 2 rfl) ?_
              refine lv_aload_n hx hb dX6_perform_32 rfl (lv_at hl 0 rfl) ?_
              refine ri_get (v := .ref (b 7)) hx hb hts hown w fX6 0 11 (W0_of k_fl_RX6_28 rfl) rfl rfl (by decide) dX6_perform_33 ?_
              refine ri_iconst hx hb dX6_perform_36 ?_
              refine lv_iload_n hx hb dX6_perform_37 rfl (lv_at hl 1 rfl) ?_
              refine ri_imul (z := 3 * xk) hx hb dX6_perform_38 rfl ?_
              refine ri_iconst hx hb dX6_perform_39 ?_
              refine ri_iadd (z := 3 * xk + 2) hx hb dX6_perform_40 rfl ?_
              refine ri_iald (f := Z 5) (v := (o_rep (B 6) (B 10 0) (t_at (B 6) (B 10 0) xk.toNat))) hx hb w 7 rfl (by omega) (hZr.2.2.1) dX6_perform_41 (by omega) ?_
              refine ri_icmp_ge (tgt := 90) hx hb dX6_perform_42 (by decide) (by omega) (by omega) (fun c7 => ?_) (fun c7 => ?_)
              · exact absurd c7 (by omega)
              have hgr := grow_le (c := (B 6 (t_at (B 6) (B 10 0) xk.toNat))) (xd := xd) (rp := (o_rep (B 6) (B 10 0) (t_at (B 6) (B 10 0) xk.toNat))) (by omega) (by omega) (by omega) hog.2.2.2.2.2.2
              refine lv_aload_n hx hb dX6_perform_45 rfl (lv_at hl 0 rfl) ?_
              refine lv_iload_n hx hb dX6_perform_46 rfl (lv_at hl 1 rfl) ?_
              refine call_wV (wr := []) (As := [.int (iI xk)]) (rest := []) hx hb (hml.trans hl.1.symm) hown hts w lk_RX6_202 (fun sz => t_X6_doesOnce l g b _ B Z xk (B 6 (t_at (B 6) (B 10 0) xk.toNat)) (o_arg (B 6) (B 10 0) (t_at (B 6) (B 10 0) xk.toNat)) (hW.mono (M := N + 10000 * xk + e_grow (B 6 (t_at (B 6) (B 10 0) xk.toNat)) * xd) (by omega) (by omega)) (by omega) hZr.1 hZr.2.1 hog1 hogx hWZ (by omega) sz) [0, 1, 2, 3, 4, 5, 6, 7, 8] [] rfl rfl rfl rfl (by decide) (call_recv w (q0 := 0) rfl fX6.1) rfl rfl (Nat.le_of_ble_eq_true rfl) ⟨Nat.le_of_ble_eq_true rfl, Nat.le_of_ble_eq_true rfl⟩ ⟨Nat.le_of_ble_eq_true rfl, Nat.le_of_ble_eq_true rfl⟩ dX6_perform_47 (fun v w1 H locs hr w => ?_)
              obtain ⟨rfl, Y8, rfl⟩ := hr
              have w : Wd g A (mo_ws g b B (upT (upT Z 1 Y8) 0 (e_one (Z 0) (B 6 (t_at (B 6) (B 10 0) xk.toNat)) (o_arg (B 6) (B 10 0) (t_at (B 6) (B 10 0) xk.toNat))).2)) s H locs := w
              have hor := one_rg (c := (B 6 (t_at (B 6) (B 10 0) xk.toNat))) (x := (o_arg (B 6) (B 10 0) (t_at (B 6) (B 10 0) xk.toNat))) hWZ
              refine lv_istore_n (lv' := [(3, .int (iI (e_one (Z 0) (B 6 (t_at (B 6) (B 10 0) xk.toNat)) (o_arg (B 6) (B 10 0) (t_at (B 6) (B 10 0) xk.toNat))).1)), (0, .ref (b 0)), (1, .int (iI xk)), (2, .int (iI xd))]) hx hb dX6_perform_50 rfl hl (by decide) rfl (fun ls hl => ?_)
              refine lv_iload_n hx hb dX6_perform_51 rfl (lv_at hl 0 rfl) ?_
              refine ri_if_ge (tgt := 84) hx hb dX6_perform_52 (by decide) (by omega) (fun c9 => ?_) (fun c9 => ?_)
              · refine ri_iinc (k := 3) (z := xd + 1) (lv' := [(2, .int (iI (xd + 1))), (3, .int (iI (e_one (Z 0) (B 6 (t_at (B 6) (B 10 0) xk.toNat)) (o_arg (B 6) (B 10 0) (t_at (B 6) (B 10 0) xk.toNat))).1)), (0, .ref (b 0)), (1, .int (iI xk))]) hx hb dX6_perform_84 hl rfl (by omega) (by decide) rfl (fun ls hl => ?_)
                refine lv_goto (tgt := 31) hx hb dX6_perform_87 (by decide) ?_
                exact ih31 (xd + 1) ((upT (upT Z 1 Y8) 0 (e_one (Z 0) (B 6 (t_at (B 6) (B 10 0) xk.toNat)) (o_arg (B 6) (B 10 0) (t_at (B 6) (B 10 0) xk.toNat))).2)) (by omega) ((by rw [← hE2, e_reps_s, if_neg (by omega)]; rfl)) (by omega) (hZ2) (hZ6) (hZ5) ((by rw [grow_1, ← Int.add_assoc]; exact wf_one hWZ hog1 (by omega) (by omega))) ls H locs (lv_sub hl [2, 3, 0] rfl) w kk31
              · refine lv_aload_n hx hb dX6_perform_55 rfl (lv_at hl 1 rfl) ?_
                refine ri_get (v := .ref (b 8)) hx hb hts hown w fX6 0 13 (W0_of k_fl_RX6_31 rfl) rfl rfl (by decide) dX6_perform_56 ?_
                refine ri_iconst hx hb dX6_perform_59 ?_
                refine lv_iload_n hx hb dX6_perform_60 rfl (lv_at hl 2 rfl) ?_
                refine ri_iast hx hb w 8 rfl (by omega) dX6_perform_61 (by omega) (fun H locs w => ?_)
                have w : Wd g A (mo_ws g b (upT B 7 (up (B 7) 0 xk)) (upT (upT Z 1 Y8) 0 (e_one (Z 0) (B 6 (t_at (B 6) (B 10 0) xk.toNat)) (o_arg (B 6) (B 10 0) (t_at (B 6) (B 10 0) xk.toNat))).2)) s H locs := w
                refine lv_aload_n hx hb dX6_perform_62 rfl (lv_at hl 1 rfl) ?_
                refine ri_get (v := .ref (b 8)) hx hb hts hown w fX6 0 13 (W0_of k_fl_RX6_31 rfl) rfl rfl (by decide) dX6_perform_63 ?_
                refine ri_iconst hx hb dX6_perform_66 ?_
                refine lv_iload_n hx hb dX6_perform_67 rfl (lv_at hl 0 rfl) ?_
                refine ri_iast hx hb w 8 rfl (by omega) dX6_perform_68 (by omega) (fun H locs w => ?_)
                have w : Wd g A (mo_ws g b (upT B 7 (up (up (B 7) 0 xk) 1 (e_one (Z 0) (B 6 (t_at (B 6) (B 10 0) xk.toNat)) (o_arg (B 6) (B 10 0) (t_at (B 6) (B 10 0) xk.toNat))).1)) (upT (upT Z 1 Y8) 0 (e_one (Z 0) (B 6 (t_at (B 6) (B 10 0) xk.toNat)) (o_arg (B 6) (B 10 0) (t_at (B 6) (B 10 0) xk.toNat))).2)) s H locs := w
                refine lv_aload_n hx hb dX6_perform_69 rfl (lv_at hl 1 rfl) ?_
                refine ri_get (v := .ref (b 8)) hx hb hts hown w fX6 0 13 (W0_of k_fl_RX6_31 rfl) rfl rfl (by decide) dX6_perform_70 ?_
                refine ri_iconst hx hb dX6_perform_73 ?_
                refine lv_iload_n hx hb dX6_perform_74 rfl (lv_at hl 3 rfl) ?_
                refine ri_iast hx hb w 8 rfl (by omega) dX6_perform_75 (by omega) (fun H locs w => ?_)
                have w : Wd g A (mo_ws g b (upT B 7 (up (up (up (B 7) 0 xk) 1 (e_one (Z 0) (B 6 (t_at (B 6) (B 10 0) xk.toNat)) (o_arg (B 6) (B 10 0) (t_at (B 6) (B 10 0) xk.toNat))).1) 2 xd)) (upT (upT Z 1 Y8) 0 (e_one (Z 0) (B 6 (t_at (B 6) (B 10 0) xk.toNat)) (o_arg (B 6) (B 10 0) (t_at (B 6) (B 10 0) xk.toNat))).2)) s H locs := w
                refine lv_aload_n hx hb dX6_perform_76 rfl (lv_at hl 1 rfl) ?_
                refine ri_iconst hx hb dX6_perform_77 ?_
                refine ri_put hx hb hts hown w fX6 0 14 (W0_of k_fl_RX6_205 rfl) rfl (Nat.le_of_ble_eq_true rfl) (by decide) rfl (by decide) (by decide) dX6_perform_78 (fun H locs w => ?_)
                have w : Wd g A (mo_ws g b (upT (upT B 7 (up (up (up (B 7) 0 xk) 1 (e_one (Z 0) (B 6 (t_at (B 6) (B 10 0) xk.toNat)) (o_arg (B 6) (B 10 0) (t_at (B 6) (B 10 0) xk.toNat))).1) 2 xd)) 11 (fun _ => 1)) (upT (upT Z 1 Y8) 0 (e_one (Z 0) (B 6 (t_at (B 6) (B 10 0) xk.toNat)) (o_arg (B 6) (B 10 0) (t_at (B 6) (B 10 0) xk.toNat))).2)) s H locs := w
                refine ri_bipush hx hb dX6_perform_81 (by decide) ?_
                have e7 : e_reps (B 6 (t_at (B 6) (B 10 0) xk.toNat)) (o_arg (B 6) (B 10 0) (t_at (B 6) (B 10 0) xk.toNat)) (o_rep (B 6) (B 10 0) (t_at (B 6) (B 10 0) xk.toNat)).toNat 0 (Y 0) = ((e_one (Z 0) (B 6 (t_at (B 6) (B 10 0) xk.toNat)) (o_arg (B 6) (B 10 0) (t_at (B 6) (B 10 0) xk.toNat))).1, xd, Z 0) := by rw [← hE2, e_reps_s, if_pos (by omega)]
                have e6 : p_of B = ((e_one (Z 0) (B 6 (t_at (B 6) (B 10 0) xk.toNat)) (o_arg (B 6) (B 10 0) (t_at (B 6) (B 10 0) xk.toNat))).1, xk, xd, Y 0) := by rw [← hE, e_all_s, e7, if_pos (by show (e_one (Z 0) (B 6 (t_at (B 6) (B 10 0) xk.toNat)) (o_arg (B 6) (B 10 0) (t_at (B 6) (B 10 0) xk.toNat))).1 < 0; omega), Int.toNat_of_nonneg (by omega)]
                have e8 : c_perform B = (-4, upT (upT B 7 (up (up (up (B 7) 0 xk) 1 (e_one (Z 0) (B 6 (t_at (B 6) (B 10 0) xk.toNat)) (o_arg (B 6) (B 10 0) (t_at (B 6) (B 10 0) xk.toNat))).1) 2 xd)) 11 (fun _ => 1)) := by unfold c_perform; rw [if_neg (by omega), e6, if_pos (by show (e_one (Z 0) (B 6 (t_at (B 6) (B 10 0) xk.toNat)) (o_arg (B 6) (B 10 0) (t_at (B 6) (B 10 0) xk.toNat))).1 < 0; omega)]
                exact hend.2 _ _ _ _ ⟨_, rfl, rfl⟩ _ _ dX6_perform_83 w (by rw [e8]; exact ⟨rfl, (upT (upT Z 1 Y8) 0 (e_one (Z 0) (B 6 (t_at (B 6) (B 10 0) xk.toNat)) (o_arg (B 6) (B 10 0) (t_at (B 6) (B 10 0) xk.toNat))).2), rfl, (show PastOk B _ from by show PastOk B (Z 2); rw [hZ2]; exact hP)⟩)
          refine L31 (o_rep (B 6) (B 10 0) (t_at (B 6) (B 10 0) xk.toNat)).toNat 0 (Y) (by omega) (rfl) (by omega) (hY2) (hY6) (rfl) (by rw [grow_0, Int.add_zero]; exact hWY) ls H locs (lv_sub hl [1, 2, 0] rfl) w (fun Z hZ2 hZ6 hZ5 hZG hZ1 hWZ ls H locs hl w => ?_)
          refine ri_iinc (k := 1) (z := xk + 1) (lv' := [(1, .int (iI (xk + 1))), (0, .ref (b 0))]) hx hb dX6_perform_90 hl rfl (by omega) (by decide) rfl (fun ls hl => ?_)
          refine lv_goto (tgt := 21) hx hb dX6_perform_93 (by decide) ?_
          exact ih21 (xk + 1) (Z) (by omega) ((by rw [show (xk + 1).toNat = xk.toNat + 1 from by omega, hZG, ← hE, e_all_s, if_neg (by omega)])) (by omega) (hZ2) (hZ6) ((by rw [hZ5]; exact hro)) (hWZ.mono (by omega) (by omega)) ls H locs (lv_sub hl [1, 0] rfl) w kk21
      refine L21 (t_of B).2.2.toNat 0 ((upT Z2 0 (B 0))) (by omega) (rfl) (by omega) (zx2) (zx6) (hro) (by rw [show N + 10000 * (0 : Int) = N from by omega]; exact hW0) ls H locs (lv_sub hl [1, 0] rfl) w (fun Y hY2 hY6 hE ls H locs hl w => ?_)
      refine lv_aload_n hx hb dX6_perform_96 rfl (lv_at hl 0 rfl) ?_
      refine lv_aload_n hx hb dX6_perform_97 rfl (lv_at hl 0 rfl) ?_
      refine ri_get (v := .int (iI (t_of B).2.2)) hx hb hts hown w fX6 0 12 (W0_of k_fl_RX6_189 rfl) rfl (congrArg (fun z => some (Value.int (iI z))) (hY6)) (by decide) dX6_perform_98 ?_
      refine call_wV (wr := []) (As := [.int (iI (t_of B).2.2)]) (rest := []) hx hb (hml.trans hl.1.symm) hown hts w lk_RX6_161 (fun sz => t_X6_becomes l g b _ B Y (t_of B).2.2 (hW) (by rw [hY2]; exact hP)  sz) [0, 1, 2, 3, 4, 5, 6, 7, 8] [] rfl rfl rfl rfl (by decide) (call_recv w (q0 := 0) rfl fX6.1) rfl rfl (Nat.le_of_ble_eq_true rfl) ⟨Nat.le_of_ble_eq_true rfl, Nat.le_of_ble_eq_true rfl⟩ ⟨Nat.le_of_ble_eq_true rfl, Nat.le_of_ble_eq_true rfl⟩ dX6_perform_101 (fun v w1 H locs hr w => ?_)
      obtain ⟨rfl, P10, rfl, hP10⟩ := hr
      have w : Wd g A (mo_ws g b (upT (b_rec B) 0 (Y 0)) (upT Y 2 P10)) s H locs := w
      have e8 : c_perform B = ((t_of B).2.2, upT (b_rec B) 0 (Y 0)) := by unfold c_perform; rw [if_neg (by omega), ← hE]; exact if_neg (by show ¬ ((0 : Int) < 0); omega)
      exact hend.2 _ _ _ _ ⟨_, rfl, rfl⟩ _ _ dX6_perform_104 w (by rw [e8]; exact ⟨rfl, (upT Y 2 P10), rfl, hP10⟩)
    · exact absurd c3 (by omega)
  · have w : Wd g A (mo_ws g b B Z2) s H locs := w
    refine ri_if_ne (tgt := 15) hx hb dX6_perform_4 (by decide) (by omega) (fun c11 => ?_) (fun c11 => ?_)
    · exact absurd c11 (by omega)
    refine ri_bipush hx hb dX6_perform_7 (by decide) ?_
    refine lv_aload_n hx hb dX6_perform_9 rfl (lv_at hl 0 rfl) ?_
    refine ri_get (v := .int (iI (t_of B).2.1)) hx hb hts hown w fX6 0 9 (W0_of k_fl_RX6_177 rfl) rfl (congrArg (fun z => some (Value.int (iI z))) (zx3)) (by decide) dX6_perform_10 ?_
    refine ri_isub (z := -(t_of B).2.1 - 100) hx hb dX6_perform_13 (by omega) ?_
    have e8 : c_perform B = (-(t_of B).2.1 - 100, B) := by unfold c_perform; rw [if_pos ht1, show -100 - (t_of B).2.1 = -(t_of B).2.1 - 100 from by omega]
    exact hend.2 _ _ _ _ ⟨_, rfl, rfl⟩ _ _ dX6_perform_14 w (by rw [e8]; exact ⟨rfl, _, rfl, by rw [zx2]; exact hP⟩)
