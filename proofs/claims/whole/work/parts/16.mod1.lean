set_option maxHeartbeats 4000000 in
set_option maxRecDepth 100000 in
theorem t_X6_lays (l : Launch) (g : GG) (s0 : Nat) (s1 : Nat) (n0 : Nat) (n1 : Nat) (F : Int → Int) (G : Int → Int) (Y : Int → Int) (fa : Int) (ta : Int) (hf : 0 ≤ fa ∧ fa + 233 ≤ n0) (ht : 0 ≤ ta ∧ ta + 233 ≤ n1) (hnn : n0 ≤ 100000 ∧ n1 ≤ 100000) (hY : ∀ i : Int, 0 ≤ i → i < n1 → Y i = if ta ≤ i ∧ i < ta + 233 then F (i - ta + fa) else G i) (sz : Nat) : Met l yX6_lays (wm yX6_lays cX6_lays 5 none) (rmm 0 0 0) (pW g [(s0, eI g n0 F), (s1, eI g n1 G)] sz [.ref s0, .int (iI fa), .ref s1, .int (iI ta)]) (qW g [(s0, eI g n0 F), (s1, eI g n1 G)] (fun vv ww => vv = none ∧ ww = [(s0, eI g n0 F), (s1, eI g n1 Y)])) 0 0 (va_A [(s0, eI g n0 F), (s1, eI g n1 G)] sz) := by
  refine met_w (by decide) (Nat.le_of_ble_eq_true rfl) ?_
  intro p e s m args below meth c Q ls A hx hb hml hown hts hl w hin hend
  obtain ⟨H, hH0⟩ : ∃ H, H = s.heap := ⟨_, rfl⟩
  obtain ⟨locs, hL0⟩ : ∃ locs : List Loc, locs = [] := ⟨_, rfl⟩
  rw [← hH0, ← hL0] at w
  rw [← hH0, ← hL0]
  have hl : lv_has ls 5 [(0, .ref s0), (1, .int (iI fa)), (2, .ref s1), (3, .int (iI ta))] := hl
  refine ri_iconst hx hb dX6_lays_0 ?_
  refine lv_istore (lv' := [(4, .int (iI 0)), (0, .ref s0), (1, .int (iI fa)), (2, .ref s1), (3, .int (iI ta))]) hx hb dX6_lays_1 hl (by decide) rfl (fun ls hl => ?_)
  have w : Wd g A [(s0, eI g n0 F), (s1, eI g n1 (cpy F G fa ta 0))] s H locs := by rw [cpy_0]; exact w
  have L3 : ∀ (n : Nat) (xk : Int), (xk + n = 233) → (0 ≤ xk) → ∀ (ls : Array Slot) (H : Heap) (locs : List Loc), lv_has ls 5 [(0, .ref s0), (1, .int (iI fa)), (2, .ref s1), (3, .int (iI ta)), (4, .int (iI xk))] → Wd g A [(s0, eI g n0 F), (s1, eI g n1 (cpy F G fa ta xk))] s H locs → (∀ (ls : Array Slot) (H : Heap) (locs : List Loc), lv_has ls 5 [] → Wd g A [(s0, eI g n0 F), (s1, eI g n1 Y)] s H locs → W p l e (rmm 0 0 0) s m args below meth c H locs 0 0 Q (F0 m 29 ls [])) → W p l e (rmm 0 0 0) s m args below meth c H locs 0 0 Q (F0 m 3 ls []) := by
    intro n
    induction n with
    | zero =>
      intro xk hn hlo ls H locs hl w kk3
      refine lv_iload hx hb dX6_lays_3 (lv_at hl 4 rfl) ?_
      refine ri_sipush hx hb dX6_lays_5 (by decide) ?_
      refine ri_icmp_ge (tgt := 29) hx hb dX6_lays_8 (by decide) (by omega) (by omega) (fun c1 => ?_) (fun c1 => ?_)
      · have w := w.re 1 (f' := Y) rfl (fun i q0 q1 => by rw [hY i q0 q1]; unfold cpy; rw [show xk = 233 from by omega])
        have w : Wd g A [(s0, eI g n0 F), (s1, eI g n1 Y)] s H locs := w
        exact kk3  ls H locs  (lv_sub hl [] rfl) w
      · exact absurd c1 (by omega)
    | succ n ih3 =>
      intro xk hn hlo ls H locs hl w kk3
      refine lv_iload hx hb dX6_lays_3 (lv_at hl 4 rfl) ?_
      refine ri_sipush hx hb dX6_lays_5 (by decide) ?_
      refine ri_icmp_ge (tgt := 29) hx hb dX6_lays_8 (by decide) (by omega) (by omega) (fun c2 => ?_) (fun c2 => ?_)
      · exact absurd c2 (by omega)
      refine lv_aload_n hx hb dX6_lays_11 rfl (lv_at hl 2 rfl) ?_
      refine lv_iload_n hx hb dX6_lays_12 rfl (lv_at hl 3 rfl) ?_
      refine lv_iload hx hb dX6_lays_13 (lv_at hl 4 rfl) ?_
      refine ri_iadd (z := ta + xk) hx hb dX6_lays_15 rfl ?_
      refine lv_aload_n hx hb dX6_lays_16 rfl (lv_at hl 0 rfl) ?_
      refine lv_iload_n hx hb dX6_lays_17 rfl (lv_at hl 1 rfl) ?_
      refine lv_iload hx hb dX6_lays_18 (lv_at hl 4 rfl) ?_
      refine ri_iadd (z := fa + xk) hx hb dX6_lays_20 rfl ?_
      refine ri_iald (f := F) (v := F (fa + xk)) hx hb w 0 rfl (by omega) (rfl) dX6_lays_21 (by omega) ?_
      refine ri_iast hx hb w 1 rfl (by omega) dX6_lays_22 (by omega) (fun H locs w => ?_)
      have w : Wd g A [(s0, eI g n0 F), (s1, eI g n1 (up (cpy F G fa ta xk) (ta + xk) (F (fa + xk))))] s H locs := w
      refine ri_iinc (k := 4) (z := xk + 1) (lv' := [(4, .int (iI (xk + 1))), (0, .ref s0), (1, .int (iI fa)), (2, .ref s1), (3, .int (iI ta))]) hx hb dX6_lays_23 hl rfl (by omega) (by decide) rfl (fun ls hl => ?_)
      refine lv_goto (tgt := 3) hx hb dX6_lays_26 (by decide) ?_
      rw [cpy_s (by omega) rfl] at w
      exact ih3 (xk + 1)  (by omega) (by omega) ls H locs (lv_sub hl [1, 2, 3, 4, 0] rfl) w kk3
  refine L3 233 0  (by omega) (by omega) ls H locs (lv_sub hl [1, 2, 3, 4, 0] rfl) w (fun ls H locs hl w => ?_)
  exact hend.1 rfl _ _ _ _ _ dX6_lays_29 w ⟨rfl, rfl⟩

set_option maxHeartbeats 4000000 in
set_option maxRecDepth 100000 in
theorem t_X6_records (l : Launch) (g : GG) (b : Nat → Nat) (N : Int) (B : Nat → Int → Int) (X : Nat → Int → Int) (hW : WB N B) (hP : PastOk B (X 2)) (sz : Nat) : Met l yX6_records (wm yX6_records cX6_records 2 none) (rmm 1 0 0) (pW g (mo_ws g b B X) sz [.ref (b 0)]) (qW g (mo_ws g b B X) (fun vv ww => vv = none ∧ ∃ P, ww = mo_ws g b (b_rec B) (upT X 2 P) ∧ PastOk (b_rec B) P)) 0 0 (va_A (mo_ws g b B X) sz) := by
  have hk := hW.k
  have hj := hW.j
  have htl := hW.tl
  have hrf := hW.rf
  have hTx := hW.tx
  have hrr := hW.rr
  have hW0 := hW.1
  refine met_w (by decide) (Nat.le_of_ble_eq_true rfl) ?_
  intro p e s m args below meth c Q ls A hx hb hml hown hts hl w hin hend
  obtain ⟨H, hH0⟩ : ∃ H, H = s.heap := ⟨_, rfl⟩
  obtain ⟨locs, hL0⟩ : ∃ locs : List Loc, locs = [] := ⟨_, rfl⟩
  rw [← hH0, ← hL0] at w
  rw [← hH0, ← hL0]
  have hl : lv_has ls 2 [(0, .ref (b 0))] := hl
  refine lv_aload_n hx hb dX6_records_0 rfl (lv_at hl 0 rfl) ?_
  refine ri_get (v := .int (iI (B 8 0))) hx hb hts hown w fX6 0 4 (W0_of k_fl_RX6_38 rfl) rfl rfl (by decide) dX6_records_1 ?_
  refine ri_iconst hx hb dX6_records_4 ?_
  refine ri_icmp_ne (tgt := 49) hx hb dX6_records_5 (by decide) (by omega) (by omega) (fun c1 => ?_) (fun c1 => ?_)
  · refine lv_aload_n hx hb dX6_records_49 rfl (lv_at hl 0 rfl) ?_
    refine ri_get (v := .ref (b 1)) hx hb hts hown w fX6 0 0 (W0_of k_fl_RX6_7 rfl) rfl rfl (by decide) dX6_records_50 ?_
    refine ri_iconst hx hb dX6_records_53 ?_
    refine lv_aload_n hx hb dX6_records_54 rfl (lv_at hl 0 rfl) ?_
    refine ri_get (v := .ref (b 4)) hx hb hts hown w fX6 0 3 (W0_of k_fl_RX6_19 rfl) rfl rfl (by decide) dX6_records_55 ?_
    refine ri_sipush hx hb dX6_records_58 (by decide) ?_
    refine lv_aload_n hx hb dX6_records_61 rfl (lv_at hl 0 rfl) ?_
    refine ri_get (v := .int (iI (B 8 0))) hx hb hts hown w fX6 0 4 (W0_of k_fl_RX6_38 rfl) rfl rfl (by decide) dX6_records_62 ?_
    refine ri_imul (z := 233 * B 8 0) hx hb dX6_records_65 (by omega) ?_
    refine call_wS (wr := [(b 0, .inr (6, [.ref (b 1), .ref (b 2), .ref (b 3), .ref (b 4), .int (iI (B 8 0)), .ref (b 5), .int (iI (B 9 0)), .ref (b 6), .int (iI (B 10 0)), .int (iI (X 3 0)), .int (iI (X 4 0)), .ref (b 7), .int (iI (X 6 0)), .ref (b 8), .int (iI (B 11 0))])), (b 2, eI g 233 (X 0)), (b 3, eI g 233 (X 1)), (b 5, eI g 233 (B 5)), (b 6, eI g 60 (B 6)), (b 7, eI g 93 (X 5)), (b 8, eI g 3 (B 7))]) (As := [.ref (b 1), .int (iI 0), .ref (b 4), .int (iI (233 * B 8 0))]) (rest := []) hx hb (hml.trans hl.1.symm) hown hts w lk_RX6_42 (fun sz => t_X6_lays l g (b 1) (b 4) 233 932 (B 0) (X 2) (cpy (B 0) (X 2) 0 (233 * B 8 0) 233) 0 (233 * B 8 0) (by omega) (by omega) (by omega) (lay_cpy) sz) [1, 4] [0, 2, 3, 5, 6, 7, 8] rfl rfl rfl rfl (by decide) rfl rfl (Nat.le_of_ble_eq_true rfl) ⟨Nat.le_of_ble_eq_true rfl, Nat.le_of_ble_eq_true rfl⟩ ⟨Nat.le_of_ble_eq_true rfl, Nat.le_of_ble_eq_true rfl⟩ dX6_records_66 (fun v w1 H locs hr w => ?_)
    obtain ⟨rfl, rfl⟩ := hr
    have w := w.perm (wc := [(b 0, .inr (6, [.ref (b 1), .ref (b 2), .ref (b 3), .ref (b 4), .int (iI (B 8 0)), .ref (b 5), .int (iI (B 9 0)), .ref (b 6), .int (iI (B 10 0)), .int (iI (X 3 0)), .int (iI (X 4 0)), .ref (b 7), .int (iI (X 6 0)), .ref (b 8), .int (iI (B 11 0))])), (b 1, eI g 233 (B 0)), (b 2, eI g 233 (X 0)), (b 3, eI g 233 (X 1)), (b 4, eI g 932 (cpy (B 0) (X 2) 0 (233 * B 8 0) 233)), (b 5, eI g 233 (B 5)), (b 6, eI g 60 (B 6)), (b 7, eI g 93 (X 5)), (b 8, eI g 3 (B 7))]) [0, 7, 1, 2, 8, 3, 4, 5, 6] (by decide) rfl
    have w : Wd g A (mo_ws g b B (upT X 2 (cpy (B 0) (X 2) 0 (233 * B 8 0) 233))) s H locs := w
    refine lv_aload_n hx hb dX6_records_69 rfl (lv_at hl 0 rfl) ?_
    refine lv_dup hx hb dX6_records_70 rfl ?_
    refine ri_get (v := .int (iI (B 8 0))) hx hb hts hown w fX6 0 4 (W0_of k_fl_RX6_38 rfl) rfl rfl (by decide) dX6_records_71 ?_
    refine ri_iconst hx hb dX6_records_74 ?_
    refine ri_iadd (z := B 8 0 + 1) hx hb dX6_records_75 rfl ?_
    refine ri_put hx hb hts hown w fX6 0 4 (W0_of k_fl_RX6_38 rfl) rfl (Nat.le_of_ble_eq_true rfl) (by decide) rfl rfl rfl dX6_records_76 (fun H locs w => ?_)
    have w : Wd g A (mo_ws g b (upT B 8 (fun _ => B 8 0 + 1)) (upT X 2 (cpy (B 0) (X 2) 0 (233 * B 8 0) 233))) s H locs := w
    exact hend.1 rfl _ _ _ _ _ dX6_records_79 w ⟨rfl, _, (show mo_ws g b (upT B 8 (fun _ => B 8 0 + 1)) (upT X 2 (cpy (B 0) (X 2) 0 (233 * B 8 0) 233)) = mo_ws g b (b_rec B) (upT X 2 (cpy (B 0) (X 2) 0 (233 * B 8 0) 233)) from by rw [show B 8 0 + 1 = (if B 8 0 = 4 then 4 else B 8 0 + 1) from by omega]; rfl) , past_rec1 hP hk (by omega)⟩
  · refine ri_iconst hx hb dX6_records_8 ?_
    refine lv_istore_n (lv' := [(1, .int (iI 0)), (0, .ref (b 0))]) hx hb dX6_records_9 rfl hl (by decide) rfl (fun ls hl => ?_)
    have w : Wd g A (mo_ws g b B (upT X 2 (shf (X 2) 0))) s H locs := by rw [shf_0]; exact w
    have L10 : ∀ (n : Nat) (xk : Int), (xk + n = 699) → (0 ≤ xk) → ∀ (ls : Array Slot) (H : Heap) (locs : List Loc), lv_has ls 2 [(0, .ref (b 0)), (1, .int (iI xk))] → Wd g A (mo_ws g b B (upT X 2 (shf (X 2) xk))) s H locs → (∀ (ls : Array Slot) (H : Heap) (locs : List Loc), lv_has ls 2 [(0, .ref (b 0))] → Wd g A (mo_ws g b B (upT X 2 (shf (X 2) 699))) s H locs → W p l e (rmm 1 0 0) s m args below meth c H locs 0 0 Q (F0 m 39 ls [])) → W p l e (rmm 1 0 0) s m args below meth c H locs 0 0 Q (F0 m 10 ls []) := by
      intro n
      induction n with
      | zero =>
        intro xk hn hlo ls H locs hl w kk10
        refine lv_iload_n hx hb dX6_records_10 rfl (lv_at hl 1 rfl) ?_
        refine ri_sipush hx hb dX6_records_11 (by decide) ?_
        refine ri_icmp_ge (tgt := 39) hx hb dX6_records_14 (by decide) (by omega) (by omega) (fun c2 => ?_) (fun c2 => ?_)
        · rw [show xk = 699 from by omega] at w
          exact kk10  ls H locs  (lv_sub hl [0] rfl) w
        · exact absurd c2 (by omega)
      | succ n ih10 =>
        intro xk hn hlo ls H locs hl w kk10
        refine lv_iload_n hx hb dX6_records_10 rfl (lv_at hl 1 rfl) ?_
        refine ri_sipush hx hb dX6_records_11 (by decide) ?_
        refine ri_icmp_ge (tgt := 39) hx hb dX6_records_14 (by decide) (by omega) (by omega) (fun c3 => ?_) (fun c3 => ?_)
        · exact absurd c3 (by omega)
        refine lv_aload_n hx hb dX6_records_17 rfl (lv_at hl 0 rfl) ?_
        refine ri_get (v := .ref (b 4)) hx hb hts hown w fX6 0 3 (W0_of k_fl_RX6_19 rfl) rfl rfl (by decide) dX6_records_18 ?_
        refine lv_iload_n hx hb dX6_records_21 rfl (lv_at hl 1 rfl) ?_
        refine lv_aload_n hx hb dX6_records_22 rfl (lv_at hl 0 rfl) ?_
        refine ri_get (v := .ref (b 4)) hx hb hts hown w fX6 0 3 (W0_of k_fl_RX6_19 rfl) rfl rfl (by decide) dX6_records_23 ?_
        refine lv_iload_n hx hb dX6_records_26 rfl (lv_at hl 1 rfl) ?_
        refine ri_sipush hx hb dX6_records_27 (by decide) ?_
        refine ri_iadd (z := xk + 233) hx hb dX6_records_30 rfl ?_
        refine ri_iald (f := shf (X 2) xk) (v := X 2 (xk + 233)) hx hb w 4 rfl (by omega) (shf_hi (by omega)) dX6_records_31 (by omega) ?_
        refine ri_iast hx hb w 4 rfl (by omega) dX6_records_32 (by omega) (fun H locs w => ?_)
        have w : Wd g A (mo_ws g b B (upT X 2 (up (shf (X 2) xk) xk (X 2 (xk + 233))))) s H locs := w
        refine ri_iinc (k := 1) (z := xk + 1) (lv' := [(1, .int (iI (xk + 1))), (0, .ref (b 0))]) hx hb dX6_records_33 hl rfl (by omega) (by decide) rfl (fun ls hl => ?_)
        refine lv_goto (tgt := 10) hx hb dX6_records_36 (by decide) ?_
        rw [shf_s (by omega)] at w
        exact ih10 (xk + 1)  (by omega) (by omega) ls H locs (lv_sub hl [1, 0] rfl) w kk10
    refine L10 699 0  (by omega) (by omega) ls H locs (lv_sub hl [1, 0] rfl) w (fun ls H locs hl w => ?_)
    refine lv_aload_n hx hb dX6_records_39 rfl (lv_at hl 0 rfl) ?_
    refine lv_dup hx hb dX6_records_40 rfl ?_
    refine ri_get (v := .int (iI (B 8 0))) hx hb hts hown w fX6 0 4 (W0_of k_fl_RX6_38 rfl) rfl rfl (by decide) dX6_records_41 ?_
    refine ri_iconst hx hb dX6_records_44 ?_
    refine ri_isub (z := B 8 0 - 1) hx hb dX6_records_45 rfl ?_
    refine ri_put hx hb hts hown w fX6 0 4 (W0_of k_fl_RX6_38 rfl) rfl (Nat.le_of_ble_eq_true rfl) (by decide) rfl rfl rfl dX6_records_46 (fun H locs w => ?_)
    have w : Wd g A (mo_ws g b (upT B 8 (fun _ => B 8 0 - 1)) (upT X 2 (shf (X 2) 699))) s H locs := w
    refine lv_aload_n hx hb dX6_records_49 rfl (lv_at hl 0 rfl) ?_
    refine ri_get (v := .ref (b 1)) hx hb hts hown w fX6 0 0 (W0_of k_fl_RX6_7 rfl) rfl rfl (by decide) dX6_records_50 ?_
    refine ri_iconst hx hb dX6_records_53 ?_
    refine lv_aload_n hx hb dX6_records_54 rfl (lv_at hl 0 rfl) ?_
    refine ri_get (v := .ref (b 4)) hx hb hts hown w fX6 0 3 (W0_of k_fl_RX6_19 rfl) rfl rfl (by decide) dX6_records_55 ?_
    refine ri_sipush hx hb dX6_records_58 (by decide) ?_
    refine lv_aload_n hx hb dX6_records_61 rfl (lv_at hl 0 rfl) ?_
    refine ri_get (v := .int (iI (B 8 0 - 1))) hx hb hts hown w fX6 0 4 (W0_of k_fl_RX6_38 rfl) rfl rfl (by decide) dX6_records_62 ?_
    refine ri_imul (z := 233 * B 8 0 - 233) hx hb dX6_records_65 (by omega) ?_
    refine call_wS (wr := [(b 0, .inr (6, [.ref (b 1), .ref (b 2), .ref (b 3), .ref (b 4), .int (iI (B 8 0 - 1)), .ref (b 5), .int (iI (B 9 0)), .ref (b 6), .int (iI (B 10 0)), .int (iI (X 3 0)), .int (iI (X 4 0)), .ref (b 7), .int (iI (X 6 0)), .ref (b 8), .int (iI (B 11 0))])), (b 2, eI g 233 (X 0)), (b 3, eI g 233 (X 1)), (b 5, eI g 233 (B 5)), (b 6, eI g 60 (B 6)), (b 7, eI g 93 (X 5)), (b 8, eI g 3 (B 7))]) (As := [.ref (b 1), .int (iI 0), .ref (b 4), .int (iI (233 * B 8 0 - 233))]) (rest := []) hx hb (hml.trans hl.1.symm) hown hts w lk_RX6_42 (fun sz => t_X6_lays l g (b 1) (b 4) 233 932 (B 0) (shf (X 2) 699) (cpy (B 0) (shf (X 2) 699) 0 (233 * B 8 0 - 233) 233) 0 (233 * B 8 0 - 233) (by omega) (by omega) (by omega) (lay_cpy) sz) [1, 4] [0, 2, 3, 5, 6, 7, 8] rfl rfl rfl rfl (by decide) rfl rfl (Nat.le_of_ble_eq_true rfl) ⟨Nat.le_of_ble_eq_true rfl, Nat.le_of_ble_eq_true rfl⟩ ⟨Nat.le_of_ble_eq_true rfl, Nat.le_of_ble_eq_true rfl⟩ dX6_records_66 (fun v w1 H locs hr w => ?_)
    obtain ⟨rfl, rfl⟩ := hr
    have w := w.perm (wc := [(b 0, .inr (6, [.ref (b 1), .ref (b 2), .ref (b 3), .ref (b 4), .int (iI (B 8 0 - 1)), .ref (b 5), .int (iI (B 9 0)), .ref (b 6), .int (iI (B 10 0)), .int (iI (X 3 0)), .int (iI (X 4 0)), .ref (b 7), .int (iI (X 6 0)), .ref (b 8), .int (iI (B 11 0))])), (b 1, eI g 233 (B 0)), (b 2, eI g 233 (X 0)), (b 3, eI g 233 (X 1)), (b 4, eI g 932 (cpy (B 0) (shf (X 2) 699) 0 (233 * B 8 0 - 233) 233)), (b 5, eI g 233 (B 5)), (b 6, eI g 60 (B 6)), (b 7, eI g 93 (X 5)), (b 8, eI g 3 (B 7))]) [0, 7, 1, 2, 8, 3, 4, 5, 6] (by decide) rfl
    have w : Wd g A (mo_ws g b (upT B 8 (fun _ => B 8 0 - 1)) (upT X 2 (cpy (B 0) (shf (X 2) 699) 0 (233 * B 8 0 - 233) 233))) s H locs := w
    refine lv_aload_n hx hb dX6_records_69 rfl (lv_at hl 0 rfl) ?_
    refine lv_dup hx hb dX6_records_70 rfl ?_
    refine ri_get (v := .int (iI (B 8 0 - 1))) hx hb hts hown w fX6 0 4 (W0_of k_fl_RX6_38 rfl) rfl rfl (by decide) dX6_records_71 ?_
    refine ri_iconst hx hb dX6_records_74 ?_
    refine ri_iadd (z := B 8 0) hx hb dX6_records_75 (by omega) ?_
    refine ri_put hx hb hts hown w fX6 0 4 (W0_of k_fl_RX6_38 rfl) rfl (Nat.le_of_ble_eq_true rfl) (by decide) rfl rfl rfl dX6_records_76 (fun H locs w => ?_)
    have w : Wd g A (mo_ws g b (upT B 8 (fun _ => B 8 0)) (upT X 2 (cpy (B 0) (shf (X 2) 699) 0 (233 * B 8 0 - 233) 233))) s H locs := w
    exact hend.1 rfl _ _ _ _ _ dX6_records_79 w ⟨rfl, _, (show mo_ws g b (upT B 8 (fun _ => B 8 0)) (upT X 2 (cpy (B 0) (shf (X 2) 699) 0 (233 * B 8 0 - 233) 233)) = mo_ws g b (b_rec B) (upT X 2 (cpy (B 0) (shf (X 2) 699) 0 (233 * B 8 0 - 233) 233)) from by rw [show B 8 0 = (if B 8 0 = 4 then 4 else B 8 0 + 1) from by omega]; rfl) , past_rec2 hP (by omega)⟩

set_option maxHeartbeats 4000000 in
set_option maxRecDepth 100000 in
theorem t_X6_tries (l : Launch) (g : GG) (b : Nat → Nat) (N : Int) (B : Nat → Int → Int) (X : Nat → Int → Int) (hW : WB N B) (sz : Nat) : Met l yX6_tries (wm yX6_tries cX6_tries 1 none) (rmm 1 0 0) (pW g (mo_ws g b B X) sz [.ref (b 0)]) (qW g (mo_ws g b B X) (fun vv ww => vv = none ∧ ww = mo_ws g b B (upT X 0 (B 0)))) 0 0 (va_A (mo_ws g b B X) sz) := by
  have hk := hW.k
  have hj := hW.j
  have htl := hW.tl
  have hrf := hW.rf
  have hTx := hW.tx
  have hrr := hW.rr
  have hW0 := hW.1
  refine met_w (by decide) (Nat.le_of_ble_eq_true rfl) ?_
  intro p e s m args below meth c Q ls A hx hb hml hown hts hl w hin hend
  obtain ⟨H, hH0⟩ : ∃ H, H = s.heap := ⟨_, rfl⟩
  obtain ⟨locs, hL0⟩ : ∃ locs : List Loc, locs = [] := ⟨_, rfl⟩
  rw [← hH0, ← hL0] at w
  rw [← hH0, ← hL0]
  have hl : lv_has ls 1 [(0, .ref (b 0))] := hl
  refine lv_aload_n hx hb dX6_tries_0 rfl (lv_at hl 0 rfl) ?_
  refine ri_get (v := .ref (b 1)) hx hb hts hown w fX6 0 0 (W0_of k_fl_RX6_7 rfl) rfl rfl (by decide) dX6_tries_1 ?_
  refine ri_iconst hx hb dX6_tries_4 ?_
  refine lv_aload_n hx hb dX6_tries_5 rfl (lv_at hl 0 rfl) ?_
  refine ri_get (v := .ref (b 2)) hx hb hts hown w fX6 0 1 (W0_of k_fl_RX6_13 rfl) rfl rfl (by decide) dX6_tries_6 ?_
  refine ri_iconst hx hb dX6_tries_9 ?_
  refine call_wS (wr := [(b 0, .inr (6, [.ref (b 1), .ref (b 2), .ref (b 3), .ref (b 4), .int (iI (B 8 0)), .ref (b 5), .int (iI (B 9 0)), .ref (b 6), .int (iI (B 10 0)), .int (iI (X 3 0)), .int (iI (X 4 0)), .ref (b 7), .int (iI (X 6 0)), .ref (b 8), .int (iI (B 11 0))])), (b 3, eI g 233 (X 1)), (b 4, eI g 932 (X 2)), (b 5, eI g 233 (B 5)), (b 6, eI g 60 (B 6)), (b 7, eI g 93 (X 5)), (b 8, eI g 3 (B 7))]) (As := [.ref (b 1), .int (iI 0), .ref (b 2), .int (iI 0)]) (rest := []) hx hb (hml.trans hl.1.symm) hown hts w lk_RX6_42 (fun sz => t_X6_lays l g (b 1) (b 2) 233 233 (B 0) (X 0) (B 0) 0 0 (by omega) (by omega) (by omega) (lay_full) sz) [1, 2] [0, 3, 4, 5, 6, 7, 8] rfl rfl rfl rfl (by decide) rfl rfl (Nat.le_of_ble_eq_true rfl) ⟨Nat.le_of_ble_eq_true rfl, Nat.le_of_ble_eq_true rfl⟩ ⟨Nat.le_of_ble_eq_true rfl, Nat.le_of_ble_eq_true rfl⟩ dX6_tries_10 (fun v w1 H locs hr w => ?_)
  obtain ⟨rfl, rfl⟩ := hr
  have w := w.perm (wc := [(b 0, .inr (6, [.ref (b 1), .ref (b 2), .ref (b 3), .ref (b 4), .int (iI (B 8 0)), .ref (b 5), .int (iI (B 9 0)), .ref (b 6), .int (iI (B 10 0)), .int (iI (X 3 0)), .int (iI (X 4 0)), .ref (b 7), .int (iI (X 6 0)), .ref (b 8), .int (iI (B 11 0))])), (b 1, eI g 233 (B 0)), (b 2, eI g 233 (B 0)), (b 3, eI g 233 (X 1)), (b 4, eI g 932 (X 2)), (b 5, eI g 233 (B 5)), (b 6, eI g 60 (B 6)), (b 7, eI g 93 (X 5)), (b 8, eI g 3 (B 7))]) [0, 7, 8, 1, 2, 3, 4, 5, 6] (by decide) rfl
  have w : Wd g A (mo_ws g b B (upT X 0 (B 0))) s H locs := w
  exact hend.1 rfl _ _ _ _ _ dX6_tries_13 w ⟨rfl, rfl⟩

set_option maxHeartbeats 4000000 in
set_option maxRecDepth 100000 in
theorem t_X6_becomes (l : Launch) (g : GG) (b : Nat → Nat) (N : Int) (B : Nat → Int → Int) (X : Nat → Int → Int) (v : Int) (hW : WB N B) (hP : PastOk B (X 2)) (sz : Nat) : Met l yX6_becomes (wm yX6_becomes cX6_becomes 2 (some .int)) (rmm 2 0 0) (pW g (mo_ws g b B X) sz [.ref (b 0), .int (iI v)]) (qW g (mo_ws g b B X) (fun vv ww => vv = some (.int (iI v)) ∧ ∃ P, ww = mo_ws g b (upT (b_rec B) 0 (X 0)) (upT X 2 P) ∧ PastOk (upT (b_rec B) 0 (X 0)) P)) 0 0 (va_A (mo_ws g b B X) sz) := by
  have hk := hW.k
  have hj := hW.j
  have htl := hW.tl
  have hrf := hW.rf
  have hTx := hW.tx
  have hrr := hW.rr
  have hW0 := hW.1
  refine met_w (by decide) (Nat.le_of_ble_eq_true rfl) ?_
  intro p e s m args below meth c Q ls A hx hb hml hown hts hl w hin hend
  obtain ⟨H, hH0⟩ : ∃ H, H = s.heap := ⟨_, rfl⟩
  obtain ⟨locs, hL0⟩ : ∃ locs : List Loc, locs = [] := ⟨_, rfl⟩
  rw [← hH0, ← hL0] at w
  rw [← hH0, ← hL0]
  have hl : lv_has ls 2 [(0, .ref (b 0)), (1, .int (iI v))] := hl
  refine lv_aload_n hx hb dX6_becomes_0 rfl (lv_at hl 0 rfl) ?_
  refine call_wV (wr := []) (As := []) (rest := []) hx hb (hml.trans hl.1.symm) hown hts w lk_RX6_46 (fun sz => t_X6_records l g b _ B X  (hW) hP  sz) [0, 1, 2, 3, 4, 5, 6, 7, 8] [] rfl rfl rfl rfl (by decide) (call_recv w (q0 := 0) rfl fX6.1) rfl rfl (Nat.le_of_ble_eq_true rfl) ⟨Nat.le_of_ble_eq_true rfl, Nat.le_of_ble_eq_true rfl⟩ ⟨Nat.le_of_ble_eq_true rfl, Nat.le_of_ble_eq_true rfl⟩ dX6_becomes_1 (fun v w1 H locs hr w => ?_)
  obtain ⟨rfl, P1, rfl, hP1⟩ := hr
  have w : Wd g A (mo_ws g b (b_rec B) (upT X 2 P1)) s H locs := w
  refine lv_aload_n hx hb dX6_becomes_4 rfl (lv_at hl 0 rfl) ?_
  refine ri_get (v := .ref (b 2)) hx hb hts hown w fX6 0 1 (W0_of k_fl_RX6_13 rfl) rfl rfl (by decide) dX6_becomes_5 ?_
  refine ri_iconst hx hb dX6_becomes_8 ?_
  refine lv_aload_n hx hb dX6_becomes_9 rfl (lv_at hl 0 rfl) ?_
  refine ri_get (v := .ref (b 1)) hx hb hts hown w fX6 0 0 (W0_of k_fl_RX6_7 rfl) rfl rfl (by decide) dX6_becomes_10 ?_
  refine ri_iconst hx hb dX6_becomes_13 ?_
  refine call_wS (wr := [(b 0, .inr (6, [.ref (b 1), .ref (b 2), .ref (b 3), .ref (b 4), .int (iI (if B 8 0 = 4 then 4 else B 8 0 + 1)), .ref (b 5), .int (iI (B 9 0)), .ref (b 6), .int (iI (B 10 0)), .int (iI (X 3 0)), .int (iI (X 4 0)), .ref (b 7), .int (iI (X 6 0)), .ref (b 8), .int (iI (B 11 0))])), (b 3, eI g 233 (X 1)), (b 4, eI g 932 P1), (b 5, eI g 233 (B 5)), (b 6, eI g 60 (B 6)), (b 7, eI g 93 (X 5)), (b 8, eI g 3 (B 7))]) (As := [.ref (b 2), .int (iI 0), .ref (b 1), .int (iI 0)]) (rest := []) hx hb (hml.trans hl.1.symm) hown hts w lk_RX6_42 (fun sz => t_X6_lays l g (b 2) (b 1) 233 233 (X 0) (B 0) (X 0) 0 0 (by omega) (by omega) (by omega) (lay_full) sz) [2, 1] [0, 3, 4, 5, 6, 7, 8] rfl rfl rfl rfl (by decide) rfl rfl (Nat.le_of_ble_eq_true rfl) ⟨Nat.le_of_ble_eq_true rfl, Nat.le_of_ble_eq_true rfl⟩ ⟨Nat.le_of_ble_eq_true rfl, Nat.le_of_ble_eq_true rfl⟩ dX6_becomes_14 (fun v w1 H locs hr w => ?_)
  obtain ⟨rfl, rfl⟩ := hr
  have w := w.perm (wc := [(b 0, .inr (6, [.ref (b 1), .ref (b 2), .ref (b 3), .ref (b 4), .int (iI (if B 8 0 = 4 then 4 else B 8 0 + 1)), .ref (b 5), .int (iI (B 9 0)), .ref (b 6), .int (iI (B 10 0)), .int (iI (X 3 0)), .int (iI (X 4 0)), .ref (b 7), .int (iI (X 6 0)), .ref (b 8), .int (iI (B 11 0))])), (b 1, eI g 233 (X 0)), (b 2, eI g 233 (X 0)), (b 3, eI g 233 (X 1)), (b 4, eI g 932 P1), (b 5, eI g 233 (B 5)), (b 6, eI g 60 (B 6)), (b 7, eI g 93 (X 5)), (b 8, eI g 3 (B 7))]) [0, 8, 7, 1, 2, 3, 4, 5, 6] (by decide) rfl
  have w : Wd g A (mo_ws g b (upT (b_rec B) 0 (X 0)) (upT X 2 P1)) s H locs := w
  refine lv_iload_n hx hb dX6_becomes_17 rfl (lv_at hl 1 rfl) ?_
  exact hend.2 _ _ _ _ ⟨_, rfl, rfl⟩ _ _ dX6_becomes_18 w ⟨rfl, _, rfl, hP1⟩

set_option maxHeartbeats 4000000 in
set_option maxRecDepth 100000 in
theorem t_X6_undo (l : Launch) (g : GG) (b : Nat → Nat) (N : Int) (B : Nat → Int → Int) (X : Nat → Int → Int) (hW : WB N B) (hP : PastOk B (X 2)) (sz : Nat) : Met l yX6_undo (wm yX6_undo cX6_undo 1 (some .int)) (rmm 1 0 0) (pW g (mo_ws g b B X) sz [.ref (b 0)]) (qW g (mo_ws g b B X) (fun vv ww => vv = some (.int (iI (c_undo B).1)) ∧ ∃ X', ww = mo_ws g b (c_undo B).2 X' ∧ PastOk (c_undo B).2 (X' 2))) 0 0 (va_A (mo_ws g b B X) sz) := by
  have hk := hW.k
  have hj := hW.j
  have htl := hW.tl
  have hrf := hW.rf
  have hTx := hW.tx
  have hrr := hW.rr
  have hW0 := hW.1
  refine met_w (by decide) (Nat.le_of_ble_eq_true rfl) ?_
  intro p e s m args below meth c Q ls A hx hb hml hown hts hl w hin hend
  obtain ⟨H, hH0⟩ : ∃ H, H = s.heap := ⟨_, rfl⟩
  obtain ⟨locs, hL0⟩ : ∃ locs : List Loc, locs = [] := ⟨_, rfl⟩
  rw [← hH0, ← hL0] at w
  rw [← hH0, ← hL0]
  have hl : lv_has ls 1 [(0, .ref (b 0))] := hl
  refine lv_aload_n hx hb dX6_undo_0 rfl (lv_at hl 0 rfl) ?_
  refine ri_get (v := .int (iI (B 8 0))) hx hb hts hown w fX6 0 4 (W0_of k_fl_RX6_38 rfl) rfl rfl (by decide) dX6_undo_1 ?_
  refine ri_if_ne (tgt := 10) hx hb dX6_undo_4 (by decide) (by omega) (fun c1 => ?_) (fun c1 => ?_)
  · refine lv_aload_n hx hb dX6_undo_10 rfl (lv_at hl 0 rfl) ?_
    refine lv_dup hx hb dX6_undo_11 rfl ?_
    refine ri_get (v := .int (iI (B 8 0))) hx hb hts hown w fX6 0 4 (W0_of k_fl_RX6_38 rfl) rfl rfl (by decide) dX6_undo_12 ?_
    refine ri_iconst hx hb dX6_undo_15 ?_
    refine ri_isub (z := B 8 0 - 1) hx hb dX6_undo_16 rfl ?_
    refine ri_put hx hb hts hown w fX6 0 4 (W0_of k_fl_RX6_38 rfl) rfl (Nat.le_of_ble_eq_true rfl) (by decide) rfl rfl rfl dX6_undo_17 (fun H locs w => ?_)
    have w : Wd g A (mo_ws g b (upT B 8 (fun _ => B 8 0 - 1)) X) s H locs := w
    refine lv_aload_n hx hb dX6_undo_20 rfl (lv_at hl 0 rfl) ?_
    refine ri_get (v := .ref (b 4)) hx hb hts hown w fX6 0 3 (W0_of k_fl_RX6_19 rfl) rfl rfl (by decide) dX6_undo_21 ?_
    refine ri_sipush hx hb dX6_undo_24 (by decide) ?_
    refine lv_aload_n hx hb dX6_undo_27 rfl (lv_at hl 0 rfl) ?_
    refine ri_get (v := .int (iI (B 8 0 - 1))) hx hb hts hown w fX6 0 4 (W0_of k_fl_RX6_38 rfl) rfl rfl (by decide) dX6_undo_28 ?_
    refine ri_imul (z := 233 * B 8 0 - 233) hx hb dX6_undo_31 (by omega) ?_
    refine lv_aload_n hx hb dX6_undo_32 rfl (lv_at hl 0 rfl) ?_
    refine ri_get (v := .ref (b 1)) hx hb hts hown w fX6 0 0 (W0_of k_fl_RX6_7 rfl) rfl rfl (by decide) dX6_undo_33 ?_
    refine ri_iconst hx hb dX6_undo_36 ?_
    refine call_wS (wr := [(b 0, .inr (6, [.ref (b 1), .ref (b 2), .ref (b 3), .ref (b 4), .int (iI (B 8 0 - 1)), .ref (b 5), .int (iI (B 9 0)), .ref (b 6), .int (iI (B 10 0)), .int (iI (X 3 0)), .int (iI (X 4 0)), .ref (b 7), .int (iI (X 6 0)), .ref (b 8), .int (iI (B 11 0))])), (b 2, eI g 233 (X 0)), (b 3, eI g 233 (X 1)), (b 5, eI g 233 (B 5)), (b 6, eI g 60 (B 6)), (b 7, eI g 93 (X 5)), (b 8, eI g 3 (B 7))]) (As := [.ref (b 4), .int (iI (233 * B 8 0 - 233)), .ref (b 1), .int (iI 0)]) (rest := []) hx hb (hml.trans hl.1.symm) hown hts w lk_RX6_42 (fun sz => t_X6_lays l g (b 4) (b 1) 932 233 (X 2) (B 0) (B 1) (233 * B 8 0 - 233) 0 (by omega) (by omega) (by omega) (past_top hP (by omega)) sz) [4, 1] [0, 2, 3, 5, 6, 7, 8] rfl rfl rfl rfl (by decide) rfl rfl (Nat.le_of_ble_eq_true rfl) ⟨Nat.le_of_ble_eq_true rfl, Nat.le_of_ble_eq_true rfl⟩ ⟨Nat.le_of_ble_eq_true rfl, Nat.le_of_ble_eq_true rfl⟩ dX6_undo_37 (fun v w1 H locs hr w => ?_)
    obtain ⟨rfl, rfl⟩ := hr
    have w := w.perm (wc := [(b 0, .inr (6, [.ref (b 1), .ref (b 2), .ref (b 3), .ref (b 4), .int (iI (B 8 0 - 1)), .ref (b 5), .int (iI (B 9 0)), .ref (b 6), .int (iI (B 10 0)), .int (iI (X 3 0)), .int (iI (X 4 0)), .ref (b 7), .int (iI (X 6 0)), .ref (b 8), .int (iI (B 11 0))])), (b 1, eI g 233 (B 1)), (b 2, eI g 233 (X 0)), (b 3, eI g 233 (X 1)), (b 4, eI g 932 (X 2)), (b 5, eI g 233 (B 5)), (b 6, eI g 60 (B 6)), (b 7, eI g 93 (X 5)), (b 8, eI g 3 (B 7))]) [0, 8, 1, 2, 7, 3, 4, 5, 6] (by decide) rfl
    have w : Wd g A (mo_ws g b (upT (upT B 8 (fun _ => B 8 0 - 1)) 0 (B 1)) X) s H locs := w
    refine lv_aload_n hx hb dX6_undo_40 rfl (lv_at hl 0 rfl) ?_
    refine ri_get (v := .int (iI (B 8 0 - 1))) hx hb hts hown w fX6 0 4 (W0_of k_fl_RX6_38 rfl) rfl rfl (by decide) dX6_undo_41 ?_
    have e8 : c_undo B = (B 8 0 - 1, b_pop B) := if_neg (by omega)
    exact hend.2 _ _ _ _ ⟨_, rfl, rfl⟩ _ _ dX6_undo_44 w (by rw [e8]; exact ⟨rfl, X, rfl, past_pop hP hk⟩)
  · refine ri_bipush hx hb dX6_undo_7 (by decide) ?_
    have e8 : c_undo B = (-5, B) := by exact if_pos (by omega)
    exact hend.2 _ _ _ _ ⟨_, rfl, rfl⟩ _ _ dX6_undo_9 w (by rw [e8]; exact ⟨rfl, X, rfl, hP⟩)

set_option maxHeartbeats 4000000 in
set_option maxRecDepth 100000 in
theorem t_X6_keep (l : Launch) (g : GG) (b : Nat → Nat) (N : Int) (B : Nat → Int → Int) (X : Nat → Int → Int) (hW : WB N B) (hP : PastOk B (X 2)) (sz : Nat) : Met l yX6_keep (wm yX6_keep cX6_keep 1 (some .int)) (rmm 1 0 0) (pW g (mo_ws g b B X) sz [.ref (b 0)]) (qW g (mo_ws g b B X) (fun vv ww => vv = some (.int (iI (c_keep B).1)) ∧ ∃ X', ww = mo_ws g b (c_keep B).2 X' ∧ PastOk (c_keep B).2 (X' 2))) 0 0 (va_A (mo_ws g b B X) sz) := by
  have hk := hW.k
  have hj := hW.j
  have htl := hW.tl
  have hrf := hW.rf
  have hTx := hW.tx
  have hrr := hW.rr
  have hW0 := hW.1
  refine met_w (by decide) (Nat.le_of_ble_eq_true rfl) ?_
  intro p e s m args below meth c Q ls A hx hb hml hown hts hl w hin hend
  obtain ⟨H, hH0⟩ : ∃ H, H = s.heap := ⟨_, rfl⟩
  obtain ⟨locs, hL0⟩ : ∃ locs : List Loc, locs = [] := ⟨_, rfl⟩
  rw [← hH0, ← hL0] at w
  rw [← hH0, ← hL0]
  have hl : lv_has ls 1 [(0, .ref (b 0))] := hl
  refine lv_aload_n hx hb dX6_keep_0 rfl (lv_at hl 0 rfl) ?_
  refine ri_get (v := .ref (b 1)) hx hb hts hown w fX6 0 0 (W0_of k_fl_RX6_7 rfl) rfl rfl (by decide) dX6_keep_1 ?_
  refine ri_iconst hx hb dX6_keep_4 ?_
  refine lv_aload_n hx hb dX6_keep_5 rfl (lv_at hl 0 rfl) ?_
  refine ri_get (v := .ref (b 5)) hx hb hts hown w fX6 0 5 (W0_of k_fl_RX6_22 rfl) rfl rfl (by decide) dX6_keep_6 ?_
  refine ri_iconst hx hb dX6_keep_9 ?_
  refine call_wS (wr := [(b 0, .inr (6, [.ref (b 1), .ref (b 2), .ref (b 3), .ref (b 4), .int (iI (B 8 0)), .ref (b 5), .int (iI (B 9 0)), .ref (b 6), .int (iI (B 10 0)), .int (iI (X 3 0)), .int (iI (X 4 0)), .ref (b 7), .int (iI (X 6 0)), .ref (b 8), .int (iI (B 11 0))])), (b 2, eI g 233 (X 0)), (b 3, eI g 233 (X 1)), (b 4, eI g 932 (X 2)), (b 6, eI g 60 (B 6)), (b 7, eI g 93 (X 5)), (b 8, eI g 3 (B 7))]) (As := [.ref (b 1), .int (iI 0), .ref (b 5), .int (iI 0)]) (rest := []) hx hb (hml.trans hl.1.symm) hown hts w lk_RX6_42 (fun sz => t_X6_lays l g (b 1) (b 5) 233 233 (B 0) (B 5) (B 0) 0 0 (by omega) (by omega) (by omega) (lay_full) sz) [1, 5] [0, 2, 3, 4, 6, 7, 8] rfl rfl rfl rfl (by decide) rfl rfl (Nat.le_of_ble_eq_true rfl) ⟨Nat.le_of_ble_eq_true rfl, Nat.le_of_ble_eq_true rfl⟩ ⟨Nat.le_of_ble_eq_true rfl, Nat.le_of_ble_eq_true rfl⟩ dX6_keep_10 (fun v w1 H locs hr w => ?_)
  obtain ⟨rfl, rfl⟩ := hr
  have w := w.perm (wc := [(b 0, .inr (6, [.ref (b 1), .ref (b 2), .ref (b 3), .ref (b 4), .int (iI (B 8 0)), .ref (b 5), .int (iI (B 9 0)), .ref (b 6), .int (iI (B 10 0)), .int (iI (X 3 0)), .int (iI (X 4 0)), .ref (b 7), .int (iI (X 6 0)), .ref (b 8), .int (iI (B 11 0))])), (b 1, eI g 233 (B 0)), (b 2, eI g 233 (X 0)), (b 3, eI g 233 (X 1)), (b 4, eI g 932 (X 2)), (b 5, eI g 233 (B 0)), (b 6, eI g 60 (B 6)), (b 7, eI g 93 (X 5)), (b 8, eI g 3 (B 7))]) [0, 7, 1, 2, 3, 8, 4, 5, 6] (by decide) rfl
  have w : Wd g A (mo_ws g b (upT B 5 (B 0)) X) s H locs := w
  refine lv_aload_n hx hb dX6_keep_13 rfl (lv_at hl 0 rfl) ?_
  refine ri_iconst hx hb dX6_keep_14 ?_
  refine ri_put hx hb hts hown w fX6 0 6 (W0_of k_fl_RX6_49 rfl) rfl (Nat.le_of_ble_eq_true rfl) (by decide) rfl (by decide) (by decide) dX6_keep_15 (fun H locs w => ?_)
  have w : Wd g A (mo_ws g b (upT (upT B 5 (B 0)) 9 (fun _ => 1)) X) s H locs := w
  refine lv_aload_n hx hb dX6_keep_18 rfl (lv_at hl 0 rfl) ?_
  refine ri_get (v := .ref (b 1)) hx hb hts hown w fX6 0 0 (W0_of k_fl_RX6_7 rfl) rfl rfl (by decide) dX6_keep_19 ?_
  refine ri_iconst hx hb dX6_keep_22 ?_
  refine ri_iald (f := B 0) (v := (B 0) 0) hx hb w 1 rfl (by omega) (rfl) dX6_keep_23 (by omega) ?_
  have r1 := hW0.bd 0
  have e8 : c_keep B = ((B 0) 0, upT (upT B 5 (B 0)) 9 (fun _ => 1)) := by rfl
  exact hend.2 _ _ _ _ ⟨_, rfl, rfl⟩ _ _ dX6_keep_24 w (by rw [e8]; exact ⟨rfl, X, rfl, hP⟩)

set_option maxHeartbeats 4000000 in
set_option maxRecDepth 100000 in
theorem t_X6_restore (l : Launch) (g : GG) (b : Nat → Nat) (N : Int) (B : Nat → Int → Int) (X : Nat → Int → Int) (hW : WB N B) (hP : PastOk B (X 2)) (sz : Nat) : Met l yX6_restore (wm yX6_restore cX6_restore 1 (some .int)) (rmm 2 0 0) (pW g (mo_ws g b B X) sz [.ref (b 0)]) (qW g (mo_ws g b B X) (fun vv ww => vv = some (.int (iI (c_restore B).1)) ∧ ∃ X', ww = mo_ws g b (c_restore B).2 X' ∧ PastOk (c_restore B).2 (X' 2))) 0 0 (va_A (mo_ws g b B X) sz) := by
  have hk := hW.k
  have hj := hW.j
  have htl := hW.tl
  have hrf := hW.rf
  have hTx := hW.tx
  have hrr := hW.rr
  have hW0 := hW.1
  refine met_w (by decide) (Nat.le_of_ble_eq_true rfl) ?_
  intro p e s m args below meth c Q ls A hx hb hml hown hts hl w hin hend
  obtain ⟨H, hH0⟩ : ∃ H, H = s.heap := ⟨_, rfl⟩
  obtain ⟨locs, hL0⟩ : ∃ locs : List Loc, locs = [] := ⟨_, rfl⟩
  rw [← hH0, ← hL0] at w
  rw [← hH0, ← hL0]
  have hl : lv_has ls 1 [(0, .ref (b 0))] := hl
  refine lv_aload_n hx hb dX6_restore_0 rfl (lv_at hl 0 rfl) ?_
  refine ri_get (v := .int (iI (B 9 0))) hx hb hts hown w fX6 0 6 (W0_of k_fl_RX6_49 rfl) rfl rfl (by decide) dX6_restore_1 ?_
  refine ri_if_ne (tgt := 10) hx hb dX6_restore_4 (by decide) (by omega) (fun c1 => ?_) (fun c1 => ?_)
  · refine lv_aload_n hx hb dX6_restore_10 rfl (lv_at hl 0 rfl) ?_
    refine call_wV (wr := []) (As := []) (rest := []) hx hb (hml.trans hl.1.symm) hown hts w lk_RX6_46 (fun sz => t_X6_records l g b _ B X  (hW) hP  sz) [0, 1, 2, 3, 4, 5, 6, 7, 8] [] rfl rfl rfl rfl (by decide) (call_recv w (q0 := 0) rfl fX6.1) rfl rfl (Nat.le_of_ble_eq_true rfl) ⟨Nat.le_of_ble_eq_true rfl, Nat.le_of_ble_eq_true rfl⟩ ⟨Nat.le_of_ble_eq_true rfl, Nat.le_of_ble_eq_true rfl⟩ dX6_restore_11 (fun v w1 H locs hr w => ?_)
    obtain ⟨rfl, P2, rfl, hP2⟩ := hr
    have w : Wd g A (mo_ws g b (b_rec B) (upT X 2 P2)) s H locs := w
    refine lv_aload_n hx hb dX6_restore_14 rfl (lv_at hl 0 rfl) ?_
    refine ri_get (v := .ref (b 5)) hx hb hts hown w fX6 0 5 (W0_of k_fl_RX6_22 rfl) rfl rfl (by decide) dX6_restore_15 ?_
    refine ri_iconst hx hb dX6_restore_18 ?_
    refine lv_aload_n hx hb dX6_restore_19 rfl (lv_at hl 0 rfl) ?_
    refine ri_get (v := .ref (b 1)) hx hb hts hown w fX6 0 0 (W0_of k_fl_RX6_7 rfl) rfl rfl (by decide) dX6_restore_20 ?_
    refine ri_iconst hx hb dX6_restore_23 ?_
    refine call_wS (wr := [(b 0, .inr (6, [.ref (b 1), .ref (b 2), .ref (b 3), .ref (b 4), .int (iI (if B 8 0 = 4 then 4 else B 8 0 + 1)), .ref (b 5), .int (iI (B 9 0)), .ref (b 6), .int (iI (B 10 0)), .int (iI (X 3 0)), .int (iI (X 4 0)), .ref (b 7), .int (iI (X 6 0)), .ref (b 8), .int (iI (B 11 0))])), (b 2, eI g 233 (X 0)), (b 3, eI g 233 (X 1)), (b 4, eI g 932 P2), (b 6, eI g 60 (B 6)), (b 7, eI g 93 (X 5)), (b 8, eI g 3 (B 7))]) (As := [.ref (b 5), .int (iI 0), .ref (b 1), .int (iI 0)]) (rest := []) hx hb (hml.trans hl.1.symm) hown hts w lk_RX6_42 (fun sz => t_X6_lays l g (b 5) (b 1) 233 233 (B 5) (B 0) (B 5) 0 0 (by omega) (by omega) (by omega) (lay_full) sz) [5, 1] [0, 2, 3, 4, 6, 7, 8] rfl rfl rfl rfl (by decide) rfl rfl (Nat.le_of_ble_eq_true rfl) ⟨Nat.le_of_ble_eq_true rfl, Nat.le_of_ble_eq_true rfl⟩ ⟨Nat.le_of_ble_eq_true rfl, Nat.le_of_ble_eq_true rfl⟩ dX6_restore_24 (fun v w1 H locs hr w => ?_)
    obtain ⟨rfl, rfl⟩ := hr
    have w := w.perm (wc := [(b 0, .inr (6, [.ref (b 1), .ref (b 2), .ref (b 3), .ref (b 4), .int (iI (if B 8 0 = 4 then 4 else B 8 0 + 1)), .ref (b 5), .int (iI (B 9 0)), .ref (b 6), .int (iI (B 10 0)), .int (iI (X 3 0)), .int (iI (X 4 0)), .ref (b 7), .int (iI (X 6 0)), .ref (b 8), .int (iI (B 11 0))])), (b 1, eI g 233 (B 5)), (b 2, eI g 233 (X 0)), (b 3, eI g 233 (X 1)), (b 4, eI g 932 P2), (b 5, eI g 233 (B 5)), (b 6, eI g 60 (B 6)), (b 7, eI g 93 (X 5)), (b 8, eI g 3 (B 7))]) [0, 8, 1, 2, 3, 7, 4, 5, 6] (by decide) rfl
    have w : Wd g A (mo_ws g b (upT (b_rec B) 0 (B 5)) (upT X 2 P2)) s H locs := w
    refine lv_aload_n hx hb dX6_restore_27 rfl (lv_at hl 0 rfl) ?_
    refine ri_get (v := .ref (b 1)) hx hb hts hown w fX6 0 0 (W0_of k_fl_RX6_7 rfl) rfl rfl (by decide) dX6_restore_28 ?_
    refine ri_iconst hx hb dX6_restore_31 ?_
    refine ri_iald (f := B 5) (v := (B 5) 0) hx hb w 1 rfl (by omega) (rfl) dX6_restore_32 (by omega) ?_
    have e8 : c_restore B = ((B 5) 0, upT (b_rec B) 0 (B 5)) := by exact if_neg (by omega)
    exact hend.2 _ _ _ _ ⟨_, rfl, rfl⟩ _ _ dX6_restore_33 w (by rw [e8]; exact ⟨rfl, (upT X 2 P2), rfl, hP2⟩)
  · refine ri_bipush hx hb dX6_restore_7 (by decide) ?_
    have e8 : c_restore B = (-5, B) := by exact if_pos (by omega)
    exact hend.2 _ _ _ _ ⟨_, rfl, rfl⟩ _ _ dX6_restore_9 w (by rw [e8]; exact ⟨rfl, X, rfl, hP⟩)

set_option maxHeartbeats 4000000 in
set_option maxRecDepth 100000 in
theorem t_X6_readsOn (l : Launch) (g : GG) (b : Nat → Nat) (N : Int) (B : Nat → Int → Int) (X : Nat → Int → Int) (v : Int) (hW : WB N B) (h1 : -2147483648 ≤ v ∧ v ≤ 2147483647) (hX0 : WF N (X 0)) (hN : N + 100 ≤ 200000000) (sz : Nat) : Met l yX6_readsOn (wm yX6_readsOn cX6_readsOn 5 (some .int)) (rmm 8 0 0) (pW g (mo_ws g b B X) sz [.ref (b 0), .ref (b 2), .int (iI v)]) (qW g (mo_ws g b B X) (fun vv ww => vv = some (.int (iI (r_read (X 0) v).1)) ∧ ∃ Y, ww = mo_ws g b B (upT (upT X 1 Y) 0 (r_read (X 0) v).2))) 0 0 (va_A (mo_ws g b B X) sz) := by
  have hk := hW.k
  have hj := hW.j
  have htl := hW.tl
  have hrf := hW.rf
  have hTx := hW.tx
  have hrr := hW.rr
  have hW0 := hW.1
  have he := hX0.he
  have hs := hX0.se
  refine met_w (by decide) (Nat.le_of_ble_eq_true rfl) ?_
  intro p e s m args below meth c Q ls A hx hb hml hown hts hl w hin hend
  obtain ⟨H, hH0⟩ : ∃ H, H = s.heap := ⟨_, rfl⟩
  obtain ⟨locs, hL0⟩ : ∃ locs : List Loc, locs = [] := ⟨_, rfl⟩
  rw [← hH0, ← hL0] at w
  rw [← hH0, ← hL0]
  have hl : lv_has ls 5 [(0, .ref (b 0)), (1, .ref (b 2)), (2, .int (iI v))] := hl
  refine lv_iload_n hx hb dX6_readsOn_0 rfl (lv_at hl 2 rfl) ?_
  refine call_rS (As := [.int (iI v)]) (rest := []) hx hb (hml.trans hl.1.symm) hown hts w lk_RX6_129 (t_X6_isPage l g v (by omega)) [] rfl rfl rfl rfl (Nat.le_of_ble_eq_true rfl) ⟨Nat.le_of_ble_eq_true rfl, Nat.le_of_ble_eq_true rfl⟩ ⟨Nat.le_of_ble_eq_true rfl, Nat.le_of_ble_eq_true rfl⟩ dX6_readsOn_1 ?_
  refine ri_ifb_eq (tgt := 17) hx hb dX6_readsOn_4 (by decide) (fun c1 => ?_) (fun c1 => ?_)
  · refine ri_iconst hx hb dX6_readsOn_17 ?_
    have e8 : r_read (X 0) v = (-1, X 0) := by unfold r_read; rw [if_pos (by omega)]
    exact hend.2 _ _ _ _ ⟨_, rfl, rfl⟩ _ _ dX6_readsOn_18 w (by rw [e8]; exact ⟨rfl, X 1, rfl⟩)
  · refine lv_aload_n hx hb dX6_readsOn_7 rfl (lv_at hl 1 rfl) ?_
    refine lv_iload_n hx hb dX6_readsOn_8 rfl (lv_at hl 2 rfl) ?_
    refine call_rS (As := [.ref (b 2), .int (iI v)]) (rest := []) hx hb (hml.trans hl.1.symm) hown hts w lk_RX6_102 (t_X6_placeOf l g (b 2) (X 0) v (hX0.b) (by omega)) [2] rfl rfl rfl rfl (Nat.le_of_ble_eq_true rfl) ⟨Nat.le_of_ble_eq_true rfl, Nat.le_of_ble_eq_true rfl⟩ ⟨Nat.le_of_ble_eq_true rfl, Nat.le_of_ble_eq_true rfl⟩ dX6_readsOn_9 ?_
    have r2 := placeOf_rg (X 0) v
    refine ri_bipush hx hb dX6_readsOn_12 (by decide) ?_
    refine ri_icmp_ne (tgt := 19) hx hb dX6_readsOn_14 (by decide) (by omega) (by omega) (fun c3 => ?_) (fun c3 => ?_)
    · refine lv_aload_n hx hb dX6_readsOn_19 rfl (lv_at hl 1 rfl) ?_
      refine lv_iload_n hx hb dX6_readsOn_20 rfl (lv_at hl 2 rfl) ?_
      refine call_rS (As := [.ref (b 2), .int (iI v)]) (rest := []) hx hb (hml.trans hl.1.symm) hown hts w lk_RX6_87 (t_X6_buffered l g (b 2) _ (X 0) v (hX0) (by omega)) [2] rfl rfl rfl rfl (Nat.le_of_ble_eq_true rfl) ⟨Nat.le_of_ble_eq_true rfl, Nat.le_of_ble_eq_true rfl⟩ ⟨Nat.le_of_ble_eq_true rfl, Nat.le_of_ble_eq_true rfl⟩ dX6_readsOn_21 ?_
      have r4 := buf_rg (X 0) v
      refine ri_bipush hx hb dX6_readsOn_24 (by decide) ?_
      refine ri_icmp_ne (tgt := 33) hx hb dX6_readsOn_26 (by decide) (by omega) (by omega) (fun c5 => ?_) (fun c5 => ?_)
      · refine ri_iconst hx hb dX6_readsOn_33 ?_
        refine lv_istore_n (lv' := [(3, .int (iI 0)), (0, .ref (b 0)), (1, .ref (b 2)), (2, .int (iI v))]) hx hb dX6_readsOn_34 rfl hl (by decide) rfl (fun ls hl => ?_)
        refine lv_iload_n hx hb dX6_readsOn_35 rfl (lv_at hl 0 rfl) ?_
        refine ri_iconst hx hb dX6_readsOn_36 ?_
        refine ri_icmp_ne (tgt := 123) hx hb dX6_readsOn_37 (by decide) (by omega) (by omega) (fun c6 => ?_) (fun c6 => ?_)
        · refine lv_iload_n hx hb dX6_readsOn_123 rfl (lv_at hl 0 rfl) ?_
          refine ri_if_le (tgt := 136) hx hb dX6_readsOn_124 (by decide) (by omega) (fun c7 => ?_) (fun c7 => ?_)
          · refine lv_aload_n hx hb dX6_readsOn_136 rfl (lv_at hl 2 rfl) ?_
            refine lv_iload_n hx hb dX6_readsOn_137 rfl (lv_at hl 3 rfl) ?_
            refine call_wS (wr := [(b 0, .inr (6, [.ref (b 1), .ref (b 2), .ref (b 3), .ref (b 4), .int (iI (B 8 0)), .ref (b 5), .int (iI (B 9 0)), .ref (b 6), .int (iI (B 10 0)), .int (iI (X 3 0)), .int (iI (X 4 0)), .ref (b 7), .int (iI (X 6 0)), .ref (b 8), .int (iI (B 11 0))])), (b 1, eI g 233 (B 0)), (b 3, eI g 233 (X 1)), (b 4, eI g 932 (X 2)), (b 5, eI g 233 (B 5)), (b 6, eI g 60 (B 6)), (b 7, eI g 93 (X 5)), (b 8, eI g 3 (B 7))]) (As := [.ref (b 2), .int (iI v)]) (rest := []) hx hb (hml.trans hl.1.symm) hown hts w lk_RX6_139 (fun sz => t_X6_fronts l g (b 2) _ (X 0) v (hX0) (by omega) sz) [2] [0, 1, 3, 4, 5, 6, 7, 8] rfl rfl rfl rfl (by decide) rfl rfl (Nat.le_of_ble_eq_true rfl) ⟨Nat.le_of_ble_eq_true rfl, Nat.le_of_ble_eq_true rfl⟩ ⟨Nat.le_of_ble_eq_true rfl, Nat.le_of_ble_eq_true rfl⟩ dX6_readsOn_138 (fun v w1 H locs hr w => ?_)
            obtain ⟨rfl, rfl⟩ := hr
            have w := w.perm (wc := (mo_ws g b B (upT X 0 (r_fronts (X 0) v)))) [0, 1, 8, 2, 3, 4, 5, 6, 7] (by decide) rfl
            have w : Wd g A (mo_ws g b B (upT X 0 (r_fronts (X 0) v))) s H locs := w
            refine lv_aload_n hx hb dX6_readsOn_141 rfl (lv_at hl 2 rfl) ?_
            refine ri_bipush hx hb dX6_readsOn_142 (by decide) ?_
            refine lv_dup2_11 hx hb dX6_readsOn_144 rfl rfl ?_
            refine ri_iald (f := r_fronts (X 0) v) (v := (r_fronts (X 0) v) 7) hx hb w 2 rfl (by omega) (rfl) dX6_readsOn_145 (by omega) ?_
            refine ri_iconst hx hb dX6_readsOn_146 ?_
            refine ri_iadd (z := (r_fronts (X 0) v) 7 + 1) hx hb dX6_readsOn_147 rfl ?_
            refine ri_iast hx hb w 2 rfl (by omega) dX6_readsOn_148 (by omega) (fun H locs w => ?_)
            have w : Wd g A (mo_ws g b B (upT X 0 (up (r_fronts (X 0) v) 7 ((r_fronts (X 0) v) 7 + 1)))) s H locs := w
            refine lv_aload_n hx hb dX6_readsOn_149 rfl (lv_at hl 2 rfl) ?_
            refine ri_bipush hx hb dX6_readsOn_150 (by decide) ?_
            refine lv_dup2_11 hx hb dX6_readsOn_152 rfl rfl ?_
            refine ri_iald (f := up (r_fronts (X 0) v) 7 ((r_fronts (X 0) v) 7 + 1)) (v := (r_fronts (X 0) v) 8) hx hb w 2 rfl (by omega) (up_ne (by omega)) dX6_readsOn_153 (by omega) ?_
            refine lv_iload_n hx hb dX6_readsOn_154 rfl (lv_at hl 0 rfl) ?_
            refine ri_if_ne (tgt := 162) hx hb dX6_readsOn_155 (by decide) (by omega) (fun c8 => ?_) (fun c8 => ?_)
            · exact absurd c8 (by omega)
            refine ri_iconst hx hb dX6_readsOn_158 ?_
            refine lv_goto (tgt := 163) hx hb dX6_readsOn_159 (by decide) ?_
            refine ri_iadd (z := (r_fronts (X 0) v) 8 + 1) hx hb dX6_readsOn_163 rfl ?_
            refine ri_iast hx hb w 2 rfl (by omega) dX6_readsOn_164 (by omega) (fun H locs w => ?_)
            have w : Wd g A (mo_ws g b B (upT X 0 (up (up (r_fronts (X 0) v) 7 ((r_fronts (X 0) v) 7 + 1)) 8 ((r_fronts (X 0) v) 8 + 1)))) s H locs := w
            refine lv_aload_n hx hb dX6_readsOn_165 rfl (lv_at hl 2 rfl) ?_
            refine ri_sipush hx hb dX6_readsOn_166 (by decide) ?_
            refine lv_iload_n hx hb dX6_readsOn_169 rfl (lv_at hl 3 rfl) ?_
            refine ri_iadd (z := v + 209) hx hb dX6_readsOn_170 (by omega) ?_
            refine lv_dup2_11 hx hb dX6_readsOn_171 rfl rfl ?_
            refine ri_iald (f := up (up (r_fronts (X 0) v) 7 ((r_fronts (X 0) v) 7 + 1)) 8 ((r_fronts (X 0) v) 8 + 1)) (v := (r_fronts (X 0) v) (v + 209)) hx hb w 2 rfl (by omega) ((up_ne (by omega)).trans (up_ne (by omega))) dX6_readsOn_172 (by omega) ?_
            refine ri_iconst hx hb dX6_readsOn_173 ?_
            refine ri_iadd (z := (r_fronts (X 0) v) (v + 209) + 1) hx hb dX6_readsOn_174 rfl ?_
            refine ri_iast hx hb w 2 rfl (by omega) dX6_readsOn_175 (by omega) (fun H locs w => ?_)
            have w : Wd g A (mo_ws g b B (upT X 0 (up (up (up (r_fronts (X 0) v) 7 ((r_fronts (X 0) v) 7 + 1)) 8 ((r_fronts (X 0) v) 8 + 1)) (v + 209) ((r_fronts (X 0) v) (v + 209) + 1)))) s H locs := w
            refine lv_iload_n hx hb dX6_readsOn_176 rfl (lv_at hl 0 rfl) ?_
            have e8 : r_read (X 0) v = (0, up (up (up (r_fronts (X 0) v) 7 ((r_fronts (X 0) v) 7 + 1)) 8 ((r_fronts (X 0) v) 8 + 1)) (v + 209) ((r_fronts (X 0) v) (v + 209) + 1)) := by unfold r_read; rw [if_neg (by omega), if_pos (by omega)] <;> first | rfl | (unfold r_read3; rw [if_pos rfl]; rfl) | (unfold r_read3; rw [if_neg (by decide), Int.add_zero])
            exact hend.2 _ _ _ _ ⟨_, rfl, rfl⟩ _ _ dX6_readsOn_177 w (by rw [e8]; exact ⟨rfl, X 1, rfl⟩)
          · exact absurd c7 (by omega)
        · exact absurd c6 (by omega)
      · refine ri_iconst hx hb dX6_readsOn_29 ?_
        refine lv_goto (tgt := 34) hx hb dX6_readsOn_30 (by decide) ?_
        refine lv_istore_n (lv' := [(3, .int (iI 1)), (0, .ref (b 0)), (1, .ref (b 2)), (2, .int (iI v))]) hx hb dX6_readsOn_34 rfl hl (by decide) rfl (fun ls hl => ?_)
        refine lv_iload_n hx hb dX6_readsOn_35 rfl (lv_at hl 0 rfl) ?_
        refine ri_iconst hx hb dX6_readsOn_36 ?_
        refine ri_icmp_ne (tgt := 123) hx hb dX6_readsOn_37 (by decide) (by omega) (by omega) (fun c9 => ?_) (fun c9 => ?_)
        · exact absurd c9 (by omega)
        have hpo := placeOf_rg (X 0) v
        refine lv_aload_n hx hb dX6_readsOn_40 rfl (lv_at hl 2 rfl) ?_
        refine lv_aload_n hx hb dX6_readsOn_41 rfl (lv_at hl 2 rfl) ?_
        refine lv_iload_n hx hb dX6_readsOn_42 rfl (lv_at hl 3 rfl) ?_
        refine call_rS (As := [.ref (b 2), .int (iI v)]) (rest := [.ref (b 2)]) hx hb (hml.trans hl.1.symm) hown hts w lk_RX6_102 (t_X6_placeOf l g (b 2) (X 0) v (hX0.b) (by omega)) [2] rfl rfl rfl rfl (Nat.le_of_ble_eq_true rfl) ⟨Nat.le_of_ble_eq_true rfl, Nat.le_of_ble_eq_true rfl⟩ ⟨Nat.le_of_ble_eq_true rfl, Nat.le_of_ble_eq_true rfl⟩ dX6_readsOn_43 ?_
        refine call_rS (As := [.ref (b 2), .int (iI (r_placeOf (X 0) v))]) (rest := []) hx hb (hml.trans hl.1.symm) hown hts w lk_RX6_111 (t_X6_readsLeft l g (b 2) _ (X 0) (r_placeOf (X 0) v) (hX0) (by omega)) [2] rfl rfl rfl rfl (Nat.le_of_ble_eq_true rfl) ⟨Nat.le_of_ble_eq_true rfl, Nat.le_of_ble_eq_true rfl⟩ ⟨Nat.le_of_ble_eq_true rfl, Nat.le_of_ble_eq_true rfl⟩ dX6_readsOn_46 ?_
        have r10 := left_rg (X 0) (r_placeOf (X 0) v)
        refine ri_if_ne (tgt := 123) hx hb dX6_readsOn_49 (by decide) (by omega) (fun c11 => ?_) (fun c11 => ?_)
        · refine lv_iload_n hx hb dX6_readsOn_123 rfl (lv_at hl 0 rfl) ?_
          refine ri_if_le (tgt := 136) hx hb dX6_readsOn_124 (by decide) (by omega) (fun c12 => ?_) (fun c12 => ?_)
          · exact absurd c12 (by omega)
          refine lv_aload_n hx hb dX6_readsOn_127 rfl (lv_at hl 2 rfl) ?_
          refine lv_aload_n hx hb dX6_readsOn_128 rfl (lv_at hl 2 rfl) ?_
          refine lv_iload_n hx hb dX6_readsOn_129 rfl (lv_at hl 3 rfl) ?_
          refine call_rS (As := [.ref (b 2), .int (iI v)]) (rest := [.ref (b 2)]) hx hb (hml.trans hl.1.symm) hown hts w lk_RX6_102 (t_X6_placeOf l g (b 2) (X 0) v (hX0.b) (by omega)) [2] rfl rfl rfl rfl (Nat.le_of_ble_eq_true rfl) ⟨Nat.le_of_ble_eq_true rfl, Nat.le_of_ble_eq_true rfl⟩ ⟨Nat.le_of_ble_eq_true rfl, Nat.le_of_ble_eq_true rfl⟩ dX6_readsOn_130 ?_
          have hWr := wf_reads hX0 (r := r_placeOf (X 0) v) (by omega) (by omega) (by omega)
          refine call_wS (wr := [(b 0, .inr (6, [.ref (b 1), .ref (b 2), .ref (b 3), .ref (b 4), .int (iI (B 8 0)), .ref (b 5), .int (iI (B 9 0)), .ref (b 6), .int (iI (B 10 0)), .int (iI (X 3 0)), .int (iI (X 4 0)), .ref (b 7), .int (iI (X 6 0)), .ref (b 8), .int (iI (B 11 0))])), (b 1, eI g 233 (B 0)), (b 3, eI g 233 (X 1)), (b 4, eI g 932 (X 2)), (b 5, eI g 233 (B 5)), (b 6, eI g 60 (B 6)), (b 7, eI g 93 (X 5)), (b 8, eI g 3 (B 7))]) (As := [.ref (b 2), .int (iI (r_placeOf (X 0) v))]) (rest := []) hx hb (hml.trans hl.1.symm) hown hts w lk_RX6_114 (fun sz => t_X6_reads l g (b 2) _ (X 0) (r_placeOf (X 0) v) (hX0) (by omega) sz) [2] [0, 1, 3, 4, 5, 6, 7, 8] rfl rfl rfl rfl (by decide) rfl rfl (Nat.le_of_ble_eq_true rfl) ⟨Nat.le_of_ble_eq_true rfl, Nat.le_of_ble_eq_true rfl⟩ ⟨Nat.le_of_ble_eq_true rfl, Nat.le_of_ble_eq_true rfl⟩ dX6_readsOn_133 (fun v w1 H locs hr w => ?_)
          obtain ⟨rfl, rfl⟩ := hr
          have w := w.perm (wc := (mo_ws g b B (upT X 0 (r_reads (X 0) (r_placeOf (X 0) v))))) [0, 1, 8, 2, 3, 4, 5, 6, 7] (by decide) rfl
          have w : Wd g A (mo_ws g b B (upT X 0 (r_reads (X 0) (r_placeOf (X 0) v)))) s H locs := w
          refine lv_aload_n hx hb dX6_readsOn_136 rfl (lv_at hl 2 rfl) ?_
          refine lv_iload_n hx hb dX6_readsOn_137 rfl (lv_at hl 3 rfl) ?_
          refine call_wS (wr := [(b 0, .inr (6, [.ref (b 1), .ref (b 2), .ref (b 3), .ref (b 4), .int (iI (B 8 0)), .ref (b 5), .int (iI (B 9 0)), .ref (b 6), .int (iI (B 10 0)), .int (iI (X 3 0)), .int (iI (X 4 0)), .ref (b 7), .int (iI (X 6 0)), .ref (b 8), .int (iI (B 11 0))])), (b 1, eI g 233 (B 0)), (b 3, eI g 233 (X 1)), (b 4, eI g 932 (X 2)), (b 5, eI g 233 (B 5)), (b 6, eI g 60 (B 6)), (b 7, eI g 93 (X 5)), (b 8, eI g 3 (B 7))]) (As := [.ref (b 2), .int (iI v)]) (rest := []) hx hb (hml.trans hl.1.symm) hown hts w lk_RX6_139 (fun sz => t_X6_fronts l g (b 2) _ (r_reads (X 0) (r_placeOf (X 0) v)) v (hWr) (by omega) sz) [2] [0, 1, 3, 4, 5, 6, 7, 8] rfl rfl rfl rfl (by decide) rfl rfl (Nat.le_of_ble_eq_true rfl) ⟨Nat.le_of_ble_eq_true rfl, Nat.le_of_ble_eq_true rfl⟩ ⟨Nat.le_of_ble_eq_true rfl, Nat.le_of_ble_eq_true rfl⟩ dX6_readsOn_138 (fun v w1 H locs hr w => ?_)
          obtain ⟨rfl, rfl⟩ := hr
          have w := w.perm (wc := (mo_ws g b B (upT X 0 (r_fronts (r_reads (X 0) (r_placeOf (X 0) v)) v)))) [0, 1, 8, 2, 3, 4, 5, 6, 7] (by decide) rfl
          have w : Wd g A (mo_ws g b B (upT X 0 (r_fronts (r_reads (X 0) (r_placeOf (X 0) v)) v))) s H locs := w
          refine lv_aload_n hx hb dX6_readsOn_141 rfl (lv_at hl 2 rfl) ?_
          refine ri_bipush hx hb dX6_readsOn_142 (by decide) ?_
          refine lv_dup2_11 hx hb dX6_readsOn_144 rfl rfl ?_
          refine ri_iald (f := r_fronts (r_reads (X 0) (r_placeOf (X 0) v)) v) (v := (r_fronts (r_reads (X 0) (r_placeOf (X 0) v)) v) 7) hx hb w 2 rfl (by omega) (rfl) dX6_readsOn_145 (by omega) ?_
          refine ri_iconst hx hb dX6_readsOn_146 ?_
          refine ri_iadd (z := (r_fronts (r_reads (X 0) (r_placeOf (X 0) v)) v) 7 + 1) hx hb dX6_readsOn_147 rfl ?_
          refine ri_iast hx hb w 2 rfl (by omega) dX6_readsOn_148 (by omega) (fun H locs w => ?_)
          have w : Wd g A (mo_ws g b B (upT X 0 (up (r_fronts (r_reads (X 0) (r_placeOf (X 0) v)) v) 7 ((r_fronts (r_reads (X 0) (r_placeOf (X 0) v)) v) 7 + 1)))) s H locs := w
          refine lv_aload_n hx hb dX6_readsOn_149 rfl (lv_at hl 2 rfl) ?_
          refine ri_bipush hx hb dX6_readsOn_150 (by decide) ?_
          refine lv_dup2_11 hx hb dX6_readsOn_152 rfl rfl ?_
          refine ri_iald (f := up (r_fronts (r_reads (X 0) (r_placeOf (X 0) v)) v) 7 ((r_fronts (r_reads (X 0) (r_placeOf (X 0) v)) v) 7 + 1)) (v := (r_fronts (r_reads (X 0) (r_placeOf (X 0) v)) v) 8) hx hb w 2 rfl (by omega) (up_ne (by omega)) dX6_readsOn_153 (by omega) ?_
          refine lv_iload_n hx hb dX6_readsOn_154 rfl (lv_at hl 0 rfl) ?_
          refine ri_if_ne (tgt := 162) hx hb dX6_readsOn_155 (by decide) (by omega) (fun c13 => ?_) (fun c13 => ?_)
          · refine ri_iconst hx hb dX6_readsOn_162 ?_
            refine ri_iadd (z := (r_fronts (r_reads (X 0) (r_placeOf (X 0) v)) v) 8) hx hb dX6_readsOn_163 (by omega) ?_
            refine ri_iast hx hb w 2 rfl (by omega) dX6_readsOn_164 (by omega) (fun H locs w => ?_)
            have w : Wd g A (mo_ws g b B (upT X 0 (up (up (r_fronts (r_reads (X 0) (r_placeOf (X 0) v)) v) 7 ((r_fronts (r_reads (X 0) (r_placeOf (X 0) v)) v) 7 + 1)) 8 ((r_fronts (r_reads (X 0) (r_placeOf (X 0) v)) v) 8)))) s H locs := w
            refine lv_aload_n hx hb dX6_readsOn_165 rfl (lv_at hl 2 rfl) ?_
            refine ri_sipush hx hb dX6_readsOn_166 (by decide) ?_
            refine lv_iload_n hx hb dX6_readsOn_169 rfl (lv_at hl 3 rfl) ?_
            refine ri_iadd (z := v + 209) hx hb dX6_readsOn_170 (by omega) ?_
            refine lv_dup2_11 hx hb dX6_readsOn_171 rfl rfl ?_
            refine ri_iald (f := up (up (r_fronts (r_reads (X 0) (r_placeOf (X 0) v)) v) 7 ((r_fronts (r_reads (X 0) (r_placeOf (X 0) v)) v) 7 + 1)) 8 ((r_fronts (r_reads (X 0) (r_placeOf (X 0) v)) v) 8)) (v := (r_fronts (r_reads (X 0) (r_placeOf (X 0) v)) v) (v + 209)) hx hb w 2 rfl (by omega) ((up_ne (by omega)).trans (up_ne (by omega))) dX6_readsOn_172 (by omega) ?_
            refine ri_iconst hx hb dX6_readsOn_173 ?_
            refine ri_iadd (z := (r_fronts (r_reads (X 0) (r_placeOf (X 0) v)) v) (v + 209) + 1) hx hb dX6_readsOn_174 rfl ?_
            refine ri_iast hx hb w 2 rfl (by omega) dX6_readsOn_175 (by omega) (fun H locs w => ?_)
            have w : Wd g A (mo_ws g b B (upT X 0 (up (up (up (r_fronts (r_reads (X 0) (r_placeOf (X 0) v)) v) 7 ((r_fronts (r_reads (X 0) (r_placeOf (X 0) v)) v) 7 + 1)) 8 ((r_fronts (r_reads (X 0) (r_placeOf (X 0) v)) v) 8)) (v + 209) ((r_fronts (r_reads (X 0) (r_placeOf (X 0) v)) v) (v + 209) + 1)))) s H locs := w
            refine lv_iload_n hx hb dX6_readsOn_176 rfl (lv_at hl 0 rfl) ?_
            have e8 : r_read (X 0) v = (1, up (up (up (r_fronts (r_reads (X 0) (r_placeOf (X 0) v)) v) 7 ((r_fronts (r_reads (X 0) (r_placeOf (X 0) v)) v) 7 + 1)) 8 ((r_fronts (r_reads (X 0) (r_placeOf (X 0) v)) v) 8)) (v + 209) ((r_fronts (r_reads (X 0) (r_placeOf (X 0) v)) v) (v + 209) + 1)) := by unfold r_read; rw [if_neg (by omega), if_neg (by omega), if_pos (by omega)] <;> first | rfl | (unfold r_read3; rw [if_pos rfl]; rfl) | (unfold r_read3; rw [if_neg (by decide), Int.add_zero])
            exact hend.2 _ _ _ _ ⟨_, rfl, rfl⟩ _ _ dX6_readsOn_177 w (by rw [e8]; exact ⟨rfl, X 1, rfl⟩)
          · exact absurd c13 (by omega)
        · refine ri_iconst hx hb dX6_readsOn_52 ?_
          refine lv_istore_n (lv' := [(3, .int (iI 2)), (0, .ref (b 0)), (1, .ref (b 2)), (2, .int (iI v))]) hx hb dX6_readsOn_53 rfl hl (by decide) rfl (fun ls hl => ?_)
          refine lv_aload_n hx hb dX6_readsOn_54 rfl (lv_at hl 2 rfl) ?_
          refine ri_iconst hx hb dX6_readsOn_55 ?_
          refine lv_aload_n hx hb dX6_readsOn_56 rfl (lv_at hl 1 rfl) ?_
          refine ri_get (v := .ref (b 3)) hx hb hts hown w fX6 0 2 (W0_of k_fl_RX6_16 rfl) rfl rfl (by decide) dX6_readsOn_57 ?_
          refine ri_iconst hx hb dX6_readsOn_60 ?_
          refine call_wS (wr := [(b 0, .inr (6, [.ref (b 1), .ref (b 2), .ref (b 3), .ref (b 4), .int (iI (B 8 0)), .ref (b 5), .int (iI (B 9 0)), .ref (b 6), .int (iI (B 10 0)), .int (iI (X 3 0)), .int (iI (X 4 0)), .ref (b 7), .int (iI (X 6 0)), .ref (b 8), .int (iI (B 11 0))])), (b 1, eI g 233 (B 0)), (b 4, eI g 932 (X 2)), (b 5, eI g 233 (B 5)), (b 6, eI g 60 (B 6)), (b 7, eI g 93 (X 5)), (b 8, eI g 3 (B 7))]) (As := [.ref (b 2), .int (iI 0), .ref (b 3), .int (iI 0)]) (rest := []) hx hb (hml.trans hl.1.symm) hown hts w lk_RX6_42 (fun sz => t_X6_lays l g (b 2) (b 3) 233 233 (X 0) (X 1) (X 0) 0 0 (by omega) (by omega) (by omega) (lay_full) sz) [2, 3] [0, 1, 4, 5, 6, 7, 8] rfl rfl rfl rfl (by decide) rfl rfl (Nat.le_of_ble_eq_true rfl) ⟨Nat.le_of_ble_eq_true rfl, Nat.le_of_ble_eq_true rfl⟩ ⟨Nat.le_of_ble_eq_true rfl, Nat.le_of_ble_eq_true rfl⟩ dX6_readsOn_61 (fun v w1 H locs hr w => ?_)
          obtain ⟨rfl, rfl⟩ := hr
          have w := w.perm (wc := [(b 0, .inr (6, [.ref (b 1), .ref (b 2), .ref (b 3), .ref (b 4), .int (iI (B 8 0)), .ref (b 5), .int (iI (B 9 0)), .ref (b 6), .int (iI (B 10 0)), .int (iI (X 3 0)), .int (iI (X 4 0)), .ref (b 7), .int (iI (X 6 0)), .ref (b 8), .int (iI (B 11 0))])), (b 1, eI g 233 (B 0)), (b 2, eI g 233 (X 0)), (b 3, eI g 233 (X 0)), (b 4, eI g 932 (X 2)), (b 5, eI g 233 (B 5)), (b 6, eI g 60 (B 6)), (b 7, eI g 93 (X 5)), (b 8, eI g 3 (B 7))]) [0, 1, 7, 8, 2, 3, 4, 5, 6] (by decide) rfl
          have w : Wd g A (mo_ws g b B (upT X 1 (X 0))) s H locs := w
          refine lv_aload_n hx hb dX6_readsOn_64 rfl (lv_at hl 2 rfl) ?_
          refine ri_iconst hx hb dX6_readsOn_65 ?_
          refine ri_iald (f := X 0) (v := (X 0) 5) hx hb w 2 rfl (by omega) (rfl) dX6_readsOn_66 (by omega) ?_
          have r14 := hX0.bd 5
          refine ri_iconst hx hb dX6_readsOn_67 ?_
          have hpo2 := placeOf_rg (X 0) v
          refine ri_icmp_ne (tgt := 102) hx hb dX6_readsOn_68 (by decide) (by omega) (by omega) (fun c15 => ?_) (fun c15 => ?_)
          · refine ri_iconst hx hb dX6_readsOn_102 ?_
            refine lv_istore (lv' := [(4, .int (iI 0)), (3, .int (iI 2)), (0, .ref (b 0)), (1, .ref (b 2)), (2, .int (iI v))]) hx hb dX6_readsOn_103 hl (by decide) rfl (fun ls hl => ?_)
            refine lv_iload hx hb dX6_readsOn_105 (lv_at hl 0 rfl) ?_
            refine ri_if_ne (tgt := 123) hx hb dX6_readsOn_107 (by decide) (by omega) (fun c16 => ?_) (fun c16 => ?_)
            · exact absurd c16 (by omega)
            refine lv_aload_n hx hb dX6_readsOn_110 rfl (lv_at hl 2 rfl) ?_
            refine ri_get (v := .ref (b 3)) hx hb hts hown w fX6 0 2 (W0_of k_fl_RX6_16 rfl) rfl rfl (by decide) dX6_readsOn_111 ?_
            refine ri_iconst hx hb dX6_readsOn_114 ?_
            refine lv_aload_n hx hb dX6_readsOn_115 rfl (lv_at hl 3 rfl) ?_
            refine ri_iconst hx hb dX6_readsOn_116 ?_
            refine call_wS (wr := [(b 0, .inr (6, [.ref (b 1), .ref (b 2), .ref (b 3), .ref (b 4), .int (iI (B 8 0)), .ref (b 5), .int (iI (B 9 0)), .ref (b 6), .int (iI (B 10 0)), .int (iI (X 3 0)), .int (iI (X 4 0)), .ref (b 7), .int (iI (X 6 0)), .ref (b 8), .int (iI (B 11 0))])), (b 1, eI g 233 (B 0)), (b 4, eI g 932 (X 2)), (b 5, eI g 233 (B 5)), (b 6, eI g 60 (B 6)), (b 7, eI g 93 (X 5)), (b 8, eI g 3 (B 7))]) (As := [.ref (b 3), .int (iI 0), .ref (b 2), .int (iI 0)]) (rest := []) hx hb (hml.trans hl.1.symm) hown hts w lk_RX6_42 (fun sz => t_X6_lays l g (b 3) (b 2) 233 233 (X 0) (X 0) (X 0) 0 0 (by omega) (by omega) (by omega) (lay_full) sz) [3, 2] [0, 1, 4, 5, 6, 7, 8] rfl rfl rfl rfl (by decide) rfl rfl (Nat.le_of_ble_eq_true rfl) ⟨Nat.le_of_ble_eq_true rfl, Nat.le_of_ble_eq_true rfl⟩ ⟨Nat.le_of_ble_eq_true rfl, Nat.le_of_ble_eq_true rfl⟩ dX6_readsOn_117 (fun v w1 H locs hr w => ?_)
            obtain ⟨rfl, rfl⟩ := hr
            have w := w.perm (wc := [(b 0, .inr (6, [.ref (b 1), .ref (b 2), .ref (b 3), .ref (b 4), .int (iI (B 8 0)), .ref (b 5), .int (iI (B 9 0)), .ref (b 6), .int (iI (B 10 0)), .int (iI (X 3 0)), .int (iI (X 4 0)), .ref (b 7), .int (iI (X 6 0)), .ref (b 8), .int (iI (B 11 0))])), (b 1, eI g 233 (B 0)), (b 2, eI g 233 (X 0)), (b 3, eI g 233 (X 0)), (b 4, eI g 932 (X 2)), (b 5, eI g 233 (B 5)), (b 6, eI g 60 (B 6)), (b 7, eI g 93 (X 5)), (b 8, eI g 3 (B 7))]) [0, 1, 8, 7, 2, 3, 4, 5, 6] (by decide) rfl
            have w : Wd g A (mo_ws g b B (upT (upT X 1 (X 0)) 0 (X 0))) s H locs := w
            refine ri_bipush hx hb dX6_readsOn_120 (by decide) ?_
            have e8 : r_read (X 0) v = (-4, X 0) := by unfold r_read; rw [if_neg (by omega), if_neg (by omega), if_neg (by omega), if_neg (by omega)]
            exact hend.2 _ _ _ _ ⟨_, rfl, rfl⟩ _ _ dX6_readsOn_122 w (by rw [e8]; exact ⟨rfl, X 0, rfl⟩)
          · refine lv_aload_n hx hb dX6_readsOn_71 rfl (lv_at hl 2 rfl) ?_
            refine lv_aload_n hx hb dX6_readsOn_72 rfl (lv_at hl 2 rfl) ?_
            refine lv_iload_n hx hb dX6_readsOn_73 rfl (lv_at hl 3 rfl) ?_
            refine call_rS (As := [.ref (b 2), .int (iI v)]) (rest := [.ref (b 2)]) hx hb (hml.trans hl.1.symm) hown hts w lk_RX6_102 (t_X6_placeOf l g (b 2) (X 0) v (hX0.b) (by omega)) [2] rfl rfl rfl rfl (Nat.le_of_ble_eq_true rfl) ⟨Nat.le_of_ble_eq_true rfl, Nat.le_of_ble_eq_true rfl⟩ ⟨Nat.le_of_ble_eq_true rfl, Nat.le_of_ble_eq_true rfl⟩ dX6_readsOn_74 ?_
            refine ri_bipush hx hb dX6_readsOn_77 (by decide) ?_
            refine ri_idiv (z := (r_placeOf (X 0) v / 8)) hx hb dX6_readsOn_79 (by omega) (by omega) rfl ?_
            refine call_wS (wr := [(b 0, .inr (6, [.ref (b 1), .ref (b 2), .ref (b 3), .ref (b 4), .int (iI (B 8 0)), .ref (b 5), .int (iI (B 9 0)), .ref (b 6), .int (iI (B 10 0)), .int (iI (X 3 0)), .int (iI (X 4 0)), .ref (b 7), .int (iI (X 6 0)), .ref (b 8), .int (iI (B 11 0))])), (b 1, eI g 233 (B 0)), (b 3, eI g 233 (X 0)), (b 4, eI g 932 (X 2)), (b 5, eI g 233 (B 5)), (b 6, eI g 60 (B 6)), (b 7, eI g 93 (X 5)), (b 8, eI g 3 (B 7))]) (As := [.ref (b 2), .int (iI (r_placeOf (X 0) v / 8))]) (rest := []) hx hb (hml.trans hl.1.symm) hown hts w lk_RX6_136 (fun sz => t_X6_movesAll l g (b 2) _ (X 0) (r_placeOf (X 0) v / 8) (hX0) (by omega) (by omega) sz) [2] [0, 1, 3, 4, 5, 6, 7, 8] rfl rfl rfl rfl (by decide) rfl rfl (Nat.le_of_ble_eq_true rfl) ⟨Nat.le_of_ble_eq_true rfl, Nat.le_of_ble_eq_true rfl⟩ ⟨Nat.le_of_ble_eq_true rfl, Nat.le_of_ble_eq_true rfl⟩ dX6_readsOn_80 (fun v w1 H locs hr w => ?_)
            obtain ⟨rfl, rfl⟩ := hr
            have w := w.perm (wc := (mo_ws g b B (upT (upT X 1 (X 0)) 0 (r_all (X 0) (r_placeOf (X 0) v / 8)).2))) [0, 1, 8, 2, 3, 4, 5, 6, 7] (by decide) rfl
            have w : Wd g A (mo_ws g b B (upT (upT X 1 (X 0)) 0 (r_all (X 0) (r_placeOf (X 0) v / 8)).2)) s H locs := w
            have r17 := all_rg hX0 (r_placeOf (X 0) v / 8)
            refine ri_if_lt (tgt := 102) hx hb dX6_readsOn_83 (by decide) (by omega) (fun c18 => ?_) (fun c18 => ?_)
            · refine ri_iconst hx hb dX6_readsOn_102 ?_
              refine lv_istore (lv' := [(4, .int (iI 0)), (3, .int (iI 2)), (0, .ref (b 0)), (1, .ref (b 2)), (2, .int (iI v))]) hx hb dX6_readsOn_103 hl (by decide) rfl (fun ls hl => ?_)
              refine lv_iload hx hb dX6_readsOn_105 (lv_at hl 0 rfl) ?_
              refine ri_if_ne (tgt := 123) hx hb dX6_readsOn_107 (by decide) (by omega) (fun c19 => ?_) (fun c19 => ?_)
              · exact absurd c19 (by omega)
              refine lv_aload_n hx hb dX6_readsOn_110 rfl (lv_at hl 2 rfl) ?_
              refine ri_get (v := .ref (b 3)) hx hb hts hown w fX6 0 2 (W0_of k_fl_RX6_16 rfl) rfl rfl (by decide) dX6_readsOn_111 ?_
              refine ri_iconst hx hb dX6_readsOn_114 ?_
              refine lv_aload_n hx hb dX6_readsOn_115 rfl (lv_at hl 3 rfl) ?_
              refine ri_iconst hx hb dX6_readsOn_116 ?_
              refine call_wS (wr := [(b 0, .inr (6, [.ref (b 1), .ref (b 2), .ref (b 3), .ref (b 4), .int (iI (B 8 0)), .ref (b 5), .int (iI (B 9 0)), .ref (b 6), .int (iI (B 10 0)), .int (iI (X 3 0)), .int (iI (X 4 0)), .ref (b 7), .int (iI (X 6 0)), .ref (b 8), .int (iI (B 11 0))])), (b 1, eI g 233 (B 0)), (b 4, eI g 932 (X 2)), (b 5, eI g 233 (B 5)), (b 6, eI g 60 (B 6)), (b 7, eI g 93 (X 5)), (b 8, eI g 3 (B 7))]) (As := [.ref (b 3), .int (iI 0), .ref (b 2), .int (iI 0)]) (rest := []) hx hb (hml.trans hl.1.symm) hown hts w lk_RX6_42 (fun sz => t_X6_lays l g (b 3) (b 2) 233 233 (X 0) (r_all (X 0) (r_placeOf (X 0) v / 8)).2 (X 0) 0 0 (by omega) (by omega) (by omega) (lay_full) sz) [3, 2] [0, 1, 4, 5, 6, 7, 8] rfl rfl rfl rfl (by decide) rfl rfl (Nat.le_of_ble_eq_true rfl) ⟨Nat.le_of_ble_eq_true rfl, Nat.le_of_ble_eq_true rfl⟩ ⟨Nat.le_of_ble_eq_true rfl, Nat.le_of_ble_eq_true rfl⟩ dX6_readsOn_117 (fun v w1 H locs hr w => ?_)
              obtain ⟨rfl, rfl⟩ := hr
              have w := w.perm (wc := [(b 0, .inr (6, [.ref (b 1), .ref (b 2), .ref (b 3), .ref (b 4), .int (iI (B 8 0)), .ref (b 5), .int (iI (B 9 0)), .ref (b 6), .int (iI (B 10 0)), .int (iI (X 3 0)), .int (iI (X 4 0)), .ref (b 7), .int (iI (X 6 0)), .ref (b 8), .int (iI (B 11 0))])), (b 1, eI g 233 (B 0)), (b 2, eI g 233 (X 0)), (b 3, eI g 233 (X 0)), (b 4, eI g 932 (X 2)), (b 5, eI g 233 (B 5)), (b 6, eI g 60 (B 6)), (b 7, eI g 93 (X 5)), (b 8, eI g 3 (B 7))]) [0, 1, 8, 7, 2, 3, 4, 5, 6] (by decide) rfl
              have w : Wd g A (mo_ws g b B (upT (upT X 1 (X 0)) 0 (X 0))) s H locs := w
              refine ri_bipush hx hb dX6_readsOn_120 (by decide) ?_
              have e8 : r_read (X 0) v = (-4, X 0) := by unfold r_read; rw [if_neg (by omega), if_neg (by omega), if_neg (by omega), if_neg (by omega)]
              exact hend.2 _ _ _ _ ⟨_, rfl, rfl⟩ _ _ dX6_readsOn_122 w (by rw [e8]; exact ⟨rfl, X 0, rfl⟩)
            · have hWa : WF (N + 20) (r_all (X 0) (r_placeOf (X 0) v / 8)).2 := wf_all hX0 (by omega) (by omega) (by omega)
              have hpa := all_place hX0 (b := r_placeOf (X 0) v / 8) (v := v) (by omega) (by omega) (by omega) (by omega)
              refine lv_aload_n hx hb dX6_readsOn_86 rfl (lv_at hl 2 rfl) ?_
              refine lv_aload_n hx hb dX6_readsOn_87 rfl (lv_at hl 2 rfl) ?_
              refine lv_iload_n hx hb dX6_readsOn_88 rfl (lv_at hl 3 rfl) ?_
              refine call_rS (As := [.ref (b 2), .int (iI v)]) (rest := [.ref (b 2)]) hx hb (hml.trans hl.1.symm) hown hts w lk_RX6_102 (t_X6_placeOf l g (b 2) (r_all (X 0) (r_placeOf (X 0) v / 8)).2 v (hWa.b) (by omega)) [2] rfl rfl rfl rfl (Nat.le_of_ble_eq_true rfl) ⟨Nat.le_of_ble_eq_true rfl, Nat.le_of_ble_eq_true rfl⟩ ⟨Nat.le_of_ble_eq_true rfl, Nat.le_of_ble_eq_true rfl⟩ dX6_readsOn_89 ?_
              have r20 := placeOf_rg (r_all (X 0) (r_placeOf (X 0) v / 8)).2 v
              refine call_rS (As := [.ref (b 2), .int (iI (r_placeOf (r_all (X 0) (r_placeOf (X 0) v / 8)).2 v))]) (rest := []) hx hb (hml.trans hl.1.symm) hown hts w lk_RX6_111 (t_X6_readsLeft l g (b 2) _ (r_all (X 0) (r_placeOf (X 0) v / 8)).2 (r_placeOf (r_all (X 0) (r_placeOf (X 0) v / 8)).2 v) (hWa) (by omega)) [2] rfl rfl rfl rfl (Nat.le_of_ble_eq_true rfl) ⟨Nat.le_of_ble_eq_true rfl, Nat.le_of_ble_eq_true rfl⟩ ⟨Nat.le_of_ble_eq_true rfl, Nat.le_of_ble_eq_true rfl⟩ dX6_readsOn_92 ?_
              have r21 := left_rg (r_all (X 0) (r_placeOf (X 0) v / 8)).2 (r_placeOf (r_all (X 0) (r_placeOf (X 0) v / 8)).2 v)
              refine ri_if_le (tgt := 102) hx hb dX6_readsOn_95 (by decide) (by omega) (fun c22 => ?_) (fun c22 => ?_)
              · refine ri_iconst hx hb dX6_readsOn_102 ?_
                refine lv_istore (lv' := [(4, .int (iI 0)), (3, .int (iI 2)), (0, .ref (b 0)), (1, .ref (b 2)), (2, .int (iI v))]) hx hb dX6_readsOn_103 hl (by decide) rfl (fun ls hl => ?_)
                refine lv_iload hx hb dX6_readsOn_105 (lv_at hl 0 rfl) ?_
                refine ri_if_ne (tgt := 123) hx hb dX6_readsOn_107 (by decide) (by omega) (fun c23 => ?_) (fun c23 => ?_)
                · exact absurd c23 (by omega)
                refine lv_aload_n hx hb dX6_readsOn_110 rfl (lv_at hl 2 rfl) ?_
                refine ri_get (v := .ref (b 3)) hx hb hts hown w fX6 0 2 (W0_of k_fl_RX6_16 rfl) rfl rfl (by decide) dX6_readsOn_111 ?_
                refine ri_iconst hx hb dX6_readsOn_114 ?_
                refine lv_aload_n hx hb dX6_readsOn_115 rfl (lv_at hl 3 rfl) ?_
                refine ri_iconst hx hb dX6_readsOn_116 ?_
                refine call_wS (wr := [(b 0, .inr (6, [.ref (b 1), .ref (b 2), .ref (b 3), .ref (b 4), .int (iI (B 8 0)), .ref (b 5), .int (iI (B 9 0)), .ref (b 6), .int (iI (B 10 0)), .int (iI (X 3 0)), .int (iI (X 4 0)), .ref (b 7), .int (iI (X 6 0)), .ref (b 8), .int (iI (B 11 0))])), (b 1, eI g 233 (B 0)), (b 4, eI g 932 (X 2)), (b 5, eI g 233 (B 5)), (b 6, eI g 60 (B 6)), (b 7, eI g 93 (X 5)), (b 8, eI g 3 (B 7))]) (As := [.ref (b 3), .int (iI 0), .ref (b 2), .int (iI 0)]) (rest := []) hx hb (hml.trans hl.1.symm) hown hts w lk_RX6_42 (fun sz => t_X6_lays l g (b 3) (b 2) 233 233 (X 0) (r_all (X 0) (r_placeOf (X 0) v / 8)).2 (X 0) 0 0 (by omega) (by omega) (by omega) (lay_full) sz) [3, 2] [0, 1, 4, 5, 6, 7, 8] rfl rfl rfl rfl (by decide) rfl rfl (Nat.le_of_ble_eq_true rfl) ⟨Nat.le_of_ble_eq_true rfl, Nat.le_of_ble_eq_true rfl⟩ ⟨Nat.le_of_ble_eq_true rfl, Nat.le_of_ble_eq_true rfl⟩ dX6_readsOn_117 (fun v w1 H locs hr w => ?_)
                obtain ⟨rfl, rfl⟩ := hr
                have w := w.perm (wc := [(b 0, .inr (6, [.ref (b 1), .ref (b 2), .ref (b 3), .ref (b 4), .int (iI (B 8 0)), .ref (b 5), .int (iI (B 9 0)), .ref (b 6), .int (iI (B 10 0)), .int (iI (X 3 0)), .int (iI (X 4 0)), .ref (b 7), .int (iI (X 6 0)), .ref (b 8), .int (iI (B 11 0))])), (b 1, eI g 233 (B 0)), (b 2, eI g 233 (X 0)), (b 3, eI g 233 (X 0)), (b 4, eI g 932 (X 2)), (b 5, eI g 233 (B 5)), (b 6, eI g 60 (B 6)), (b 7, eI g 93 (X 5)), (b 8, eI g 3 (B 7))]) [0, 1, 8, 7, 2, 3, 4, 5, 6] (by decide) rfl
                have w : Wd g A (mo_ws g b B (upT (upT X 1 (X 0)) 0 (X 0))) s H locs := w
                refine ri_bipush hx hb dX6_readsOn_120 (by decide) ?_
                have e8 : r_read (X 0) v = (-4, X 0) := by unfold r_read; rw [if_neg (by omega), if_neg (by omega), if_neg (by omega), if_neg (by omega)]
                exact hend.2 _ _ _ _ ⟨_, rfl, rfl⟩ _ _ dX6_readsOn_122 w (by rw [e8]; exact ⟨rfl, X 0, rfl⟩)
              · refine ri_iconst hx hb dX6_readsOn_98 ?_
                refine lv_goto (tgt := 103) hx hb dX6_readsOn_99 (by decide) ?_
                refine lv_istore (lv' := [(4, .int (iI 1)), (3, .int (iI 2)), (0, .ref (b 0)), (1, .ref (b 2)), (2, .int (iI v))]) hx hb dX6_readsOn_103 hl (by decide) rfl (fun ls hl => ?_)
                refine lv_iload hx hb dX6_readsOn_105 (lv_at hl 0 rfl) ?_
                refine ri_if_ne (tgt := 123) hx hb dX6_readsOn_107 (by decide) (by omega) (fun c24 => ?_) (fun c24 => ?_)
                · refine lv_iload_n hx hb dX6_readsOn_123 rfl (lv_at hl 1 rfl) ?_
                  refine ri_if_le (tgt := 136) hx hb dX6_readsOn_124 (by decide) (by omega) (fun c25 => ?_) (fun c25 => ?_)
                  · exact absurd c25 (by omega)
                  refine lv_aload_n hx hb dX6_readsOn_127 rfl (lv_at hl 3 rfl) ?_
                  refine lv_aload_n hx hb dX6_readsOn_128 rfl (lv_at hl 3 rfl) ?_
                  refine lv_iload_n hx hb dX6_readsOn_129 rfl (lv_at hl 4 rfl) ?_
                  refine call_rS (As := [.ref (b 2), .int (iI v)]) (rest := [.ref (b 2)]) hx hb (hml.trans hl.1.symm) hown hts w lk_RX6_102 (t_X6_placeOf l g (b 2) (r_all (X 0) (r_placeOf (X 0) v / 8)).2 v (hWa.b) (by omega)) [2] rfl rfl rfl rfl (Nat.le_of_ble_eq_true rfl) ⟨Nat.le_of_ble_eq_true rfl, Nat.le_of_ble_eq_true rfl⟩ ⟨Nat.le_of_ble_eq_true rfl, Nat.le_of_ble_eq_true rfl⟩ dX6_readsOn_130 ?_
                  have hWr := wf_reads hWa (r := r_placeOf (r_all (X 0) (r_placeOf (X 0) v / 8)).2 v) (by omega) (by omega) (by omega)
                  refine call_wS (wr := [(b 0, .inr (6, [.ref (b 1), .ref (b 2), .ref (b 3), .ref (b 4), .int (iI (B 8 0)), .ref (b 5), .int (iI (B 9 0)), .ref (b 6), .int (iI (B 10 0)), .int (iI (X 3 0)), .int (iI (X 4 0)), .ref (b 7), .int (iI (X 6 0)), .ref (b 8), .int (iI (B 11 0))])), (b 1, eI g 233 (B 0)), (b 3, eI g 233 (X 0)), (b 4, eI g 932 (X 2)), (b 5, eI g 233 (B 5)), (b 6, eI g 60 (B 6)), (b 7, eI g 93 (X 5)), (b 8, eI g 3 (B 7))]) (As := [.ref (b 2), .int (iI (r_placeOf (r_all (X 0) (r_placeOf (X 0) v / 8)).2 v))]) (rest := []) hx hb (hml.trans hl.1.symm) hown hts w lk_RX6_114 (fun sz => t_X6_reads l g (b 2) _ (r_all (X 0) (r_placeOf (X 0) v / 8)).2 (r_placeOf (r_all (X 0) (r_placeOf (X 0) v / 8)).2 v) (hWa) (by omega) sz) [2] [0, 1, 3, 4, 5, 6, 7, 8] rfl rfl rfl rfl (by decide) rfl rfl (Nat.le_of_ble_eq_true rfl) ⟨Nat.le_of_ble_eq_true rfl, Nat.le_of_ble_eq_true rfl⟩ ⟨Nat.le_of_ble_eq_true rfl, Nat.le_of_ble_eq_true rfl⟩ dX6_readsOn_133 (fun v w1 H locs hr w => ?_)
                  obtain ⟨rfl, rfl⟩ := hr
                  have w := w.perm (wc := (mo_ws g b B (upT (upT X 1 (X 0)) 0 (r_reads (r_all (X 0) (r_placeOf (X 0) v / 8)).2 (r_placeOf (r_all (X 0) (r_placeOf (X 0) v / 8)).2 v))))) [0, 1, 8, 2, 3, 4, 5, 6, 7] (by decide) rfl
                  have w : Wd g A (mo_ws g b B (upT (upT X 1 (X 0)) 0 (r_reads (r_all (X 0) (r_placeOf (X 0) v / 8)).2 (r_placeOf (r_all (X 0) (r_placeOf (X 0) v / 8)).2 v)))) s H locs := w
                  refine lv_aload_n hx hb dX6_readsOn_136 rfl (lv_at hl 3 rfl) ?_
                  refine lv_iload_n hx hb dX6_readsOn_137 rfl (lv_at hl 4 rfl) ?_
                  refine call_wS (wr := [(b 0, .inr (6, [.ref (b 1), .ref (b 2), .ref (b 3), .ref (b 4), .int (iI (B 8 0)), .ref (b 5), .int (iI (B 9 0)), .ref (b 6), .int (iI (B 10 0)), .int (iI (X 3 0)), .int (iI (X 4 0)), .ref (b 7), .int (iI (X 6 0)), .ref (b 8), .int (iI (B 11 0))])), (b 1, eI g 233 (B 0)), (b 3, eI g 233 (X 0)), (b 4, eI g 932 (X 2)), (b 5, eI g 233 (B 5)), (b 6, eI g 60 (B 6)), (b 7, eI g 93 (X 5)), (b 8, eI g 3 (B 7))]) (As := [.ref (b 2), .int (iI v)]) (rest := []) hx hb (hml.trans hl.1.symm) hown hts w lk_RX6_139 (fun sz => t_X6_fronts l g (b 2) _ (r_reads (r_all (X 0) (r_placeOf (X 0) v / 8)).2 (r_placeOf (r_all (X 0) (r_placeOf (X 0) v / 8)).2 v)) v (hWr) (by omega) sz) [2] [0, 1, 3, 4, 5, 6, 7, 8] rfl rfl rfl rfl (by decide) rfl rfl (Nat.le_of_ble_eq_true rfl) ⟨Nat.le_of_ble_eq_true rfl, Nat.le_of_ble_eq_true rfl⟩ ⟨Nat.le_of_ble_eq_true rfl, Nat.le_of_ble_eq_true rfl⟩ dX6_readsOn_138 (fun v w1 H locs hr w => ?_)
                  obtain ⟨rfl, rfl⟩ := hr
                  have w := w.perm (wc := (mo_ws g b B (upT (upT X 1 (X 0)) 0 (r_fronts (r_reads (r_all (X 0) (r_placeOf (X 0) v / 8)).2 (r_placeOf (r_all (X 0) (r_placeOf (X 0) v / 8)).2 v)) v)))) [0, 1, 8, 2, 3, 4, 5, 6, 7] (by decide) rfl
                  have w : Wd g A (mo_ws g b B (upT (upT X 1 (X 0)) 0 (r_fronts (r_reads (r_all (X 0) (r_placeOf (X 0) v / 8)).2 (r_placeOf (r_all (X 0) (r_placeOf (X 0) v / 8)).2 v)) v))) s H locs := w
                  refine lv_aload_n hx hb dX6_readsOn_141 rfl (lv_at hl 3 rfl) ?_
                  refine ri_bipush hx hb dX6_readsOn_142 (by decide) ?_
                  refine lv_dup2_11 hx hb dX6_readsOn_144 rfl rfl ?_
                  refine ri_iald (f := r_fronts (r_reads (r_all (X 0) (r_placeOf (X 0) v / 8)).2 (r_placeOf (r_all (X 0) (r_placeOf (X 0) v / 8)).2 v)) v) (v := (r_fronts (r_reads (r_all (X 0) (r_placeOf (X 0) v / 8)).2 (r_placeOf (r_all (X 0) (r_placeOf (X 0) v / 8)).2 v)) v) 7) hx hb w 2 rfl (by omega) (rfl) dX6_readsOn_145 (by omega) ?_
                  refine ri_iconst hx hb dX6_readsOn_146 ?_
                  refine ri_iadd (z := (r_fronts (r_reads (r_all (X 0) (r_placeOf (X 0) v / 8)).2 (r_placeOf (r_all (X 0) (r_placeOf (X 0) v / 8)).2 v)) v) 7 + 1) hx hb dX6_readsOn_147 rfl ?_
                  refine ri_iast hx hb w 2 rfl (by omega) dX6_readsOn_148 (by omega) (fun H locs w => ?_)
                  have w : Wd g A (mo_ws g b B (upT (upT X 1 (X 0)) 0 (up (r_fronts (r_reads (r_all (X 0) (r_placeOf (X 0) v / 8)).2 (r_placeOf (r_all (X 0) (r_placeOf (X 0) v / 8)).2 v)) v) 7 ((r_fronts (r_reads (r_all (X 0) (r_placeOf (X 0) v / 8)).2 (r_placeOf (r_all (X 0) (r_placeOf (X 0) v / 8)).2 v)) v) 7 + 1)))) s H locs := w
                  refine lv_aload_n hx hb dX6_readsOn_149 rfl (lv_at hl 3 rfl) ?_
                  refine ri_bipush hx hb dX6_readsOn_150 (by decide) ?_
                  refine lv_dup2_11 hx hb dX6_readsOn_152 rfl rfl ?_
                  refine ri_iald (f := up (r_fronts (r_reads (r_all (X 0) (r_placeOf (X 0) v / 8)).2 (r_placeOf (r_all (X 0) (r_placeOf (X 0) v / 8)).2 v)) v) 7 ((r_fronts (r_reads (r_all (X 0) (r_placeOf (X 0) v / 8)).2 (r_placeOf (r_all (X 0) (r_placeOf (X 0) v / 8)).2 v)) v) 7 + 1)) (v := (r_fronts (r_reads (r_all (X 0) (r_placeOf (X 0) v / 8)).2 (r_placeOf (r_all (X 0) (r_placeOf (X 0) v / 8)).2 v)) v) 8) hx hb w 2 rfl (by omega) (up_ne (by omega)) dX6_readsOn_153 (by omega) ?_
                  refine lv_iload_n hx hb dX6_readsOn_154 rfl (lv_at hl 1 rfl) ?_
                  refine ri_if_ne (tgt := 162) hx hb dX6_readsOn_155 (by decide) (by omega) (fun c26 => ?_) (fun c26 => ?_)
                  · refine ri_iconst hx hb dX6_readsOn_162 ?_
                    refine ri_iadd (z := (r_fronts (r_reads (r_all (X 0) (r_placeOf (X 0) v / 8)).2 (r_placeOf (r_all (X 0) (r_placeOf (X 0) v / 8)).2 v)) v) 8) hx hb dX6_readsOn_163 (by omega) ?_
                    refine ri_iast hx hb w 2 rfl (by omega) dX6_readsOn_164 (by omega) (fun H locs w => ?_)
                    have w : Wd g A (mo_ws g b B (upT (upT X 1 (X 0)) 0 (up (up (r_fronts (r_reads (r_all (X 0) (r_placeOf (X 0) v / 8)).2 (r_placeOf (r_all (X 0) (r_placeOf (X 0) v / 8)).2 v)) v) 7 ((r_fronts (r_reads (r_all (X 0) (r_placeOf (X 0) v / 8)).2 (r_placeOf (r_all (X 0) (r_placeOf (X 0) v / 8)).2 v)) v) 7 + 1)) 8 ((r_fronts (r_reads (r_all (X 0) (r_placeOf (X 0) v / 8)).2 (r_placeOf (r_all (X 0) (r_placeOf (X 0) v / 8)).2 v)) v) 8)))) s H locs := w
                    refine lv_aload_n hx hb dX6_readsOn_165 rfl (lv_at hl 3 rfl) ?_
                    refine ri_sipush hx hb dX6_readsOn_166 (by decide) ?_
                    refine lv_iload_n hx hb dX6_readsOn_169 rfl (lv_at hl 4 rfl) ?_
                    refine ri_iadd (z := v + 209) hx hb dX6_readsOn_170 (by omega) ?_
                    refine lv_dup2_11 hx hb dX6_readsOn_171 rfl rfl ?_
                    refine ri_iald (f := up (up (r_fronts (r_reads (r_all (X 0) (r_placeOf (X 0) v / 8)).2 (r_placeOf (r_all (X 0) (r_placeOf (X 0) v / 8)).2 v)) v) 7 ((r_fronts (r_reads (r_all (X 0) (r_placeOf (X 0) v / 8)).2 (r_placeOf (r_all (X 0) (r_placeOf (X 0) v / 8)).2 v)) v) 7 + 1)) 8 ((r_fronts (r_reads (r_all (X 0) (r_placeOf (X 0) v / 8)).2 (r_placeOf (r_all (X 0) (r_placeOf (X 0) v / 8)).2 v)) v) 8)) (v := (r_fronts (r_reads (r_all (X 0) (r_placeOf (X 0) v / 8)).2 (r_placeOf (r_all (X 0) (r_placeOf (X 0) v / 8)).2 v)) v) (v + 209)) hx hb w 2 rfl (by omega) ((up_ne (by omega)).trans (up_ne (by omega))) dX6_readsOn_172 (by omega) ?_
                    refine ri_iconst hx hb dX6_readsOn_173 ?_
                    refine ri_iadd (z := (r_fronts (r_reads (r_all (X 0) (r_placeOf (X 0) v / 8)).2 (r_placeOf (r_all (X 0) (r_placeOf (X 0) v / 8)).2 v)) v) (v + 209) + 1) hx hb dX6_readsOn_174 rfl ?_
                    refine ri_iast hx hb w 2 rfl (by omega) dX6_readsOn_175 (by omega) (fun H locs w => ?_)
                    have w : Wd g A (mo_ws g b B (upT (upT X 1 (X 0)) 0 (up (up (up (r_fronts (r_reads (r_all (X 0) (r_placeOf (X 0) v / 8)).2 (r_placeOf (r_all (X 0) (r_placeOf (X 0) v / 8)).2 v)) v) 7 ((r_fronts (r_reads (r_all (X 0) (r_placeOf (X 0) v / 8)).2 (r_placeOf (r_all (X 0) (r_placeOf (X 0) v / 8)).2 v)) v) 7 + 1)) 8 ((r_fronts (r_reads (r_all (X 0) (r_placeOf (X 0) v / 8)).2 (r_placeOf (r_all (X 0) (r_placeOf (X 0) v / 8)).2 v)) v) 8)) (v + 209) ((r_fronts (r_reads (r_all (X 0) (r_placeOf (X 0) v / 8)).2 (r_placeOf (r_all (X 0) (r_placeOf (X 0) v / 8)).2 v)) v) (v + 209) + 1)))) s H locs := w
                    refine lv_iload_n hx hb dX6_readsOn_176 rfl (lv_at hl 1 rfl) ?_
                    have e8 : r_read (X 0) v = (2, up (up (up (r_fronts (r_reads (r_all (X 0) (r_placeOf (X 0) v / 8)).2 (r_placeOf (r_all (X 0) (r_placeOf (X 0) v / 8)).2 v)) v) 7 ((r_fronts (r_reads (r_all (X 0) (r_placeOf (X 0) v / 8)).2 (r_placeOf (r_all (X 0) (r_placeOf (X 0) v / 8)).2 v)) v) 7 + 1)) 8 ((r_fronts (r_reads (r_all (X 0) (r_placeOf (X 0) v / 8)).2 (r_placeOf (r_all (X 0) (r_placeOf (X 0) v / 8)).2 v)) v) 8)) (v + 209) ((r_fronts (r_reads (r_all (X 0) (r_placeOf (X 0) v / 8)).2 (r_placeOf (r_all (X 0) (r_placeOf (X 0) v / 8)).2 v)) v) (v + 209) + 1)) := by unfold r_read; rw [if_neg (by omega), if_neg (by omega), if_neg (by omega), if_pos (by omega)] <;> first | rfl | (unfold r_read3; rw [if_pos rfl]; rfl) | (unfold r_read3; rw [if_neg (by decide), Int.add_zero])
                    exact hend.2 _ _ _ _ ⟨_, rfl, rfl⟩ _ _ dX6_readsOn_177 w (by rw [e8]; exact ⟨rfl, X 0, rfl⟩)
                  · exact absurd c26 (by omega)
                · exact absurd c24 (by omega)
    · refine ri_iconst hx hb dX6_readsOn_17 ?_
      have e8 : r_read (X 0) v = (-1, X 0) := by unfold r_read; rw [if_pos (by omega)]
      exact hend.2 _ _ _ _ ⟨_, rfl, rfl⟩ _ _ dX6_readsOn_18 w (by rw [e8]; exact ⟨rfl, X 1, rfl⟩)
