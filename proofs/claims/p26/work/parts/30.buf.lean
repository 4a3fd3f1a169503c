set_option maxHeartbeats 4000000 in
set_option maxRecDepth 100000 in
theorem t_X0_drop (l : Launch) (g : GG) (x : Nat) (y : Nat) (N : Int) (F : Int → Int) (f : Int → Int) (z : Int) (v : Int) (hW : WF N F) (hf : ∀ i, 0 ≤ i → i < 4 → f i = F (i + 12)) (hz : z = F 11) (h1 : -2147483648 ≤ v ∧ v ≤ 2147483647) (sz : Nat) : Met l yX0_drop (wm yX0_drop cX0_drop 4 none) (rmm 1 0 0) (pW g [(x, .inr (0, [.ref y, .int (iI z)])), (y, eI g 4 f)] sz [.ref x, .int (iI v)]) (qW g [(x, .inr (0, [.ref y, .int (iI z)])), (y, eI g 4 f)] (fun vv ww => vv = none ∧ ∃ (f' : Int → Int) (z' : Int), ww = [(x, .inr (0, [.ref y, .int (iI z')])), (y, eI g 4 f')] ∧ (∀ i, 0 ≤ i → i < 4 → f' i = (r_leaves F v) (i + 12)) ∧ z' = (r_leaves F v) 11)) 0 0 (va_A [(x, .inr (0, [.ref y, .int (iI z)])), (y, eI g 4 f)] sz) := by
  have he := hW.he
  have hs := hW.se
  refine met_w (by decide) (Nat.le_of_ble_eq_true rfl) ?_
  intro p e s m args below meth c Q ls A hx hb hml hown hts hl w hin hend
  obtain ⟨H, hH0⟩ : ∃ H, H = s.heap := ⟨_, rfl⟩
  obtain ⟨locs, hL0⟩ : ∃ locs : List Loc, locs = [] := ⟨_, rfl⟩
  rw [← hH0, ← hL0] at w
  rw [← hH0, ← hL0]
  have hl : lv_has ls 4 [(0, .ref x), (1, .int (iI v))] := hl
  refine lv_aload_n hx hb dX0_drop_0 rfl (lv_at hl 0 rfl) ?_
  refine lv_iload_n hx hb dX0_drop_1 rfl (lv_at hl 1 rfl) ?_
  refine call_rV (As := [.int (iI v)]) (rest := []) hx hb (hml.trans hl.1.symm) hown hts w lk_RX0_38 (t_X0_rankOf l g x y _ F f z v (hW) (hf) (hz) (by omega)) [0, 1] rfl rfl (call_recv w (q0 := 0) rfl fX0.1) rfl rfl (Nat.le_of_ble_eq_true rfl) ⟨Nat.le_of_ble_eq_true rfl, Nat.le_of_ble_eq_true rfl⟩ ⟨Nat.le_of_ble_eq_true rfl, Nat.le_of_ble_eq_true rfl⟩ dX0_drop_2 ?_
  have r1 := bufA_rg F v
  refine lv_istore_n (lv' := [(2, .int (iI (r_bufA F v))), (0, .ref x), (1, .int (iI v))]) hx hb dX0_drop_5 rfl hl (by decide) rfl (fun ls hl => ?_)
  refine lv_iload_n hx hb dX0_drop_6 rfl (lv_at hl 0 rfl) ?_
  refine ri_iconst hx hb dX0_drop_7 ?_
  refine ri_icmp_ne (tgt := 12) hx hb dX0_drop_8 (by decide) (by omega) (by omega) (fun c2 => ?_) (fun c2 => ?_)
  · refine lv_iload_n hx hb dX0_drop_12 rfl (lv_at hl 0 rfl) ?_
    refine ri_iconst hx hb dX0_drop_13 ?_
    refine ri_iadd (z := r_bufA F v + 1) hx hb dX0_drop_14 rfl ?_
    refine lv_istore_n (lv' := [(3, .int (iI (r_bufA F v + 1))), (2, .int (iI (r_bufA F v))), (0, .ref x), (1, .int (iI v))]) hx hb dX0_drop_15 rfl hl (by decide) rfl (fun ls hl => ?_)
    have L16 : ∀ (n : Nat) (xk : Int) (G : Int → Int) (fb : Int → Int), (xk + n = F 11) → (fo n (xk - 1) G s_leave = r_leaves F v) → (∀ i, 0 ≤ i → i < 4 → fb i = G (i + 12)) → (G 11 = F 11 - 1) → (1 ≤ xk) → ∀ (ls : Array Slot) (H : Heap) (locs : List Loc), lv_has ls 4 [(0, .ref x), (3, .int (iI xk))] → Wd g A [(x, .inr (0, [.ref y, .int (iI z)])), (y, eI g 4 fb)] s H locs → (∀ (fb : Int → Int) (hG : ∀ i, 0 ≤ i → i < 4 → fb i = r_leaves F v (i + 12)) (h11 : r_leaves F v 11 = F 11 - 1) (ls : Array Slot) (H : Heap) (locs : List Loc), lv_has ls 4 [(0, .ref x)] → Wd g A [(x, .inr (0, [.ref y, .int (iI z)])), (y, eI g 4 fb)] s H locs → W p l e (rmm 1 0 0) s m args below meth c H locs 0 0 Q (F0 m 49 ls [])) → W p l e (rmm 1 0 0) s m args below meth c H locs 0 0 Q (F0 m 16 ls []) := by
      intro n
      induction n with
      | zero =>
        intro xk G fb hn hX hG h11 hlo ls H locs hl w kk16
        refine lv_iload_n hx hb dX0_drop_16 rfl (lv_at hl 1 rfl) ?_
        refine lv_aload_n hx hb dX0_drop_17 rfl (lv_at hl 0 rfl) ?_
        refine ri_get (v := .int (iI z)) hx hb hts hown w fX0 0 1 (W0_of k_fl_RX0_15 rfl) rfl rfl (by decide) dX0_drop_18 ?_
        refine ri_icmp_ge (tgt := 49) hx hb dX0_drop_21 (by decide) (by omega) (by omega) (fun c3 => ?_) (fun c3 => ?_)
        · have e0 : G = r_leaves F v := hX
          exact kk16 fb (by rw [← e0]; exact hG) (by rw [← e0]; exact h11) ls H locs  (lv_sub hl [0] rfl) w
        · exact absurd c3 (by omega)
      | succ n ih16 =>
        intro xk G fb hn hX hG h11 hlo ls H locs hl w kk16
        refine lv_iload_n hx hb dX0_drop_16 rfl (lv_at hl 1 rfl) ?_
        refine lv_aload_n hx hb dX0_drop_17 rfl (lv_at hl 0 rfl) ?_
        refine ri_get (v := .int (iI z)) hx hb hts hown w fX0 0 1 (W0_of k_fl_RX0_15 rfl) rfl rfl (by decide) dX0_drop_18 ?_
        refine ri_icmp_ge (tgt := 49) hx hb dX0_drop_21 (by decide) (by omega) (by omega) (fun c4 => ?_) (fun c4 => ?_)
        · exact absurd c4 (by omega)
        refine lv_iload_n hx hb dX0_drop_24 rfl (lv_at hl 1 rfl) ?_
        refine ri_iconst hx hb dX0_drop_25 ?_
        refine ri_icmp_ge (tgt := 49) hx hb dX0_drop_26 (by decide) (by omega) (by omega) (fun c5 => ?_) (fun c5 => ?_)
        · exact absurd c5 (by omega)
        refine lv_aload_n hx hb dX0_drop_29 rfl (lv_at hl 0 rfl) ?_
        refine ri_get (v := .ref y) hx hb hts hown w fX0 0 0 (W0_of k_fl_RX0_9 rfl) rfl rfl (by decide) dX0_drop_30 ?_
        refine lv_iload_n hx hb dX0_drop_33 rfl (lv_at hl 1 rfl) ?_
        refine ri_iconst hx hb dX0_drop_34 ?_
        refine ri_isub (z := xk - 1) hx hb dX0_drop_35 rfl ?_
        refine lv_aload_n hx hb dX0_drop_36 rfl (lv_at hl 0 rfl) ?_
        refine ri_get (v := .ref y) hx hb hts hown w fX0 0 0 (W0_of k_fl_RX0_9 rfl) rfl rfl (by decide) dX0_drop_37 ?_
        refine lv_iload_n hx hb dX0_drop_40 rfl (lv_at hl 1 rfl) ?_
        refine ri_iald (f := fb) (v := fb xk) hx hb w 1 rfl (by omega) (rfl) dX0_drop_41 (by omega) ?_
        refine ri_iast hx hb w 1 rfl (by omega) dX0_drop_42 (by omega) (fun H locs w => ?_)
        have w : Wd g A [(x, .inr (0, [.ref y, .int (iI z)])), (y, eI g 4 (up fb (xk - 1) (fb xk)))] s H locs := w
        refine ri_iinc (k := 1) (z := xk + 1) (lv' := [(3, .int (iI (xk + 1))), (0, .ref x)]) hx hb dX0_drop_43 hl rfl (by omega) (by decide) rfl (fun ls hl => ?_)
        refine lv_goto (tgt := 16) hx hb dX0_drop_46 (by decide) ?_
        exact ih16 (xk + 1) (up G (xk - 1 + 12) (G (xk - 1 + 13))) ((up fb (xk - 1) (fb xk))) (by omega) (by rw [show xk + 1 - 1 = xk - 1 + 1 from by omega]; exact fo_s hX rfl) (fun i q0 q1 => by rw [hG xk (by omega) (by omega), show xk + 12 = xk - 1 + 13 from by omega]; exact up_row (by omega) (hG i q0 q1)) ((up_ne (by omega)).trans h11) (by omega) ls H locs (lv_sub hl [1, 0] rfl) w kk16
    refine L16 (F 11 - 1 - r_buf F v).toNat (r_bufA F v + 1) (up F 11 (F 11 - 1)) (f) (by omega) (by unfold r_leaves; rw [if_neg (by omega), show r_bufA F v + 1 - 1 = r_buf F v from by omega]) (fun i q0 q1 => (hf i q0 q1).trans (up_ne (by omega)).symm) (up_eq rfl) (by omega) ls H locs (lv_sub hl [2, 0] rfl) w (fun fb hG h11 ls H locs hl w => ?_)
    refine lv_aload_n hx hb dX0_drop_49 rfl (lv_at hl 0 rfl) ?_
    refine lv_dup hx hb dX0_drop_50 rfl ?_
    refine ri_get (v := .int (iI z)) hx hb hts hown w fX0 0 1 (W0_of k_fl_RX0_15 rfl) rfl rfl (by decide) dX0_drop_51 ?_
    refine ri_iconst hx hb dX0_drop_54 ?_
    refine ri_isub (z := z - 1) hx hb dX0_drop_55 rfl ?_
    refine ri_put hx hb hts hown w fX0 0 1 (W0_of k_fl_RX0_15 rfl) rfl (Nat.le_of_ble_eq_true rfl) (by decide) rfl rfl rfl dX0_drop_56 (fun H locs w => ?_)
    have w : Wd g A [(x, .inr (0, [.ref y, .int (iI (z - 1))])), (y, eI g 4 fb)] s H locs := w
    exact hend.1 rfl _ _ _ _ _ dX0_drop_59 w ⟨rfl, fb, z - 1, rfl, hG, by omega⟩
  · exact hend.1 rfl _ _ _ _ _ dX0_drop_11 w ⟨rfl, f, z, rfl, by rw [show r_leaves F v = F from if_pos (by omega)]; exact hf, by rw [show r_leaves F v = F from if_pos (by omega)]; exact hz⟩

set_option maxHeartbeats 4000000 in
set_option maxRecDepth 100000 in
theorem t_X0_shrinkTo (l : Launch) (g : GG) (x : Nat) (y : Nat) (f : Int → Int) (z : Int) (v : Int) (h1 : -300000000 ≤ z ∧ z ≤ 300000000) (h2 : -300000000 ≤ v ∧ v ≤ 300000000) (sz : Nat) : Met l yX0_shrinkTo (wm yX0_shrinkTo cX0_shrinkTo 2 none) (rmm 1 0 0) (pW g [(x, .inr (0, [.ref y, .int (iI z)])), (y, eI g 4 f)] sz [.ref x, .int (iI v)]) (qW g [(x, .inr (0, [.ref y, .int (iI z)])), (y, eI g 4 f)] (fun vv ww => vv = none ∧ ww = [(x, .inr (0, [.ref y, .int (iI (if v < z then v else z))])), (y, eI g 4 f)])) 0 0 (va_A [(x, .inr (0, [.ref y, .int (iI z)])), (y, eI g 4 f)] sz) := by
  refine met_w (by decide) (Nat.le_of_ble_eq_true rfl) ?_
  intro p e s m args below meth c Q ls A hx hb hml hown hts hl w hin hend
  obtain ⟨H, hH0⟩ : ∃ H, H = s.heap := ⟨_, rfl⟩
  obtain ⟨locs, hL0⟩ : ∃ locs : List Loc, locs = [] := ⟨_, rfl⟩
  rw [← hH0, ← hL0] at w
  rw [← hH0, ← hL0]
  have hl : lv_has ls 2 [(0, .ref x), (1, .int (iI v))] := hl
  refine lv_aload_n hx hb dX0_shrinkTo_0 rfl (lv_at hl 0 rfl) ?_
  refine lv_aload_n hx hb dX0_shrinkTo_1 rfl (lv_at hl 0 rfl) ?_
  refine ri_get (v := .int (iI z)) hx hb hts hown w fX0 0 1 (W0_of k_fl_RX0_15 rfl) rfl rfl (by decide) dX0_shrinkTo_2 ?_
  refine lv_iload_n hx hb dX0_shrinkTo_5 rfl (lv_at hl 1 rfl) ?_
  refine ri_min (z := (if v < z then v else z)) hx hb (hml.trans hl.1.symm) hown hts m_RX0_29 ⟨Nat.le_of_ble_eq_true rfl, Nat.le_of_ble_eq_true rfl, Nat.le_of_ble_eq_true rfl, Nat.le_of_ble_eq_true rfl⟩ (by omega) (by omega) rfl dX0_shrinkTo_6 ?_
  refine ri_put hx hb hts hown w fX0 0 1 (W0_of k_fl_RX0_15 rfl) rfl (Nat.le_of_ble_eq_true rfl) (by decide) rfl rfl rfl dX0_shrinkTo_9 (fun H locs w => ?_)
  have w : Wd g A [(x, .inr (0, [.ref y, .int (iI (if v < z then v else z))])), (y, eI g 4 f)] s H locs := w
  exact hend.1 rfl _ _ _ _ _ dX0_shrinkTo_12 w ⟨rfl, rfl⟩

set_option maxHeartbeats 4000000 in
set_option maxRecDepth 100000 in
theorem t_X0_putFirst (l : Launch) (g : GG) (x : Nat) (y : Nat) (N : Int) (F : Int → Int) (f : Int → Int) (z : Int) (v : Int) (u : Int) (hW : WF N F) (hf : ∀ i, 0 ≤ i → i < 4 → f i = F (i + 12)) (hz : z = F 11) (h1 : -2147483648 ≤ v ∧ v ≤ 2147483647) (h2 : u = F 4) (sz : Nat) : Met l yX0_putFirst (wm yX0_putFirst cX0_putFirst 5 none) (rmm 2 0 0) (pW g [(x, .inr (0, [.ref y, .int (iI z)])), (y, eI g 4 f)] sz [.ref x, .int (iI v), .int (iI u)]) (qW g [(x, .inr (0, [.ref y, .int (iI z)])), (y, eI g 4 f)] (fun vv ww => vv = none ∧ ∃ (f' : Int → Int) (z' : Int), ww = [(x, .inr (0, [.ref y, .int (iI z')])), (y, eI g 4 f')] ∧ (∀ i, 0 ≤ i → i < 4 → f' i = (r_fronts F v) (i + 12)) ∧ z' = (r_fronts F v) 11)) 0 0 (va_A [(x, .inr (0, [.ref y, .int (iI z)])), (y, eI g 4 f)] sz) := by
  have he := hW.he
  have hs := hW.se
  have hWl := wf_leaves hW v
  have hel := hWl.he
  have h4 := leaves_far hW v 4 (by omega)
  have hm11 : (up (r_leaves F v) 11 (if r_leaves F v 11 = r_leaves F v 4 then r_leaves F v 11 - 1 else r_leaves F v 11)) 11 = (if r_leaves F v 11 = r_leaves F v 4 then r_leaves F v 11 - 1 else r_leaves F v 11) := up_eq rfl
  refine met_w (by decide) (Nat.le_of_ble_eq_true rfl) ?_
  intro p e s m args below meth c Q ls A hx hb hml hown hts hl w hin hend
  obtain ⟨H, hH0⟩ : ∃ H, H = s.heap := ⟨_, rfl⟩
  obtain ⟨locs, hL0⟩ : ∃ locs : List Loc, locs = [] := ⟨_, rfl⟩
  rw [← hH0, ← hL0] at w
  rw [← hH0, ← hL0]
  have hl : lv_has ls 5 [(0, .ref x), (1, .int (iI v)), (2, .int (iI u))] := hl
  refine lv_aload_n hx hb dX0_putFirst_0 rfl (lv_at hl 0 rfl) ?_
  refine lv_iload_n hx hb dX0_putFirst_1 rfl (lv_at hl 1 rfl) ?_
  refine call_wV (wr := []) (As := [.int (iI v)]) (rest := []) hx hb (hml.trans hl.1.symm) hown hts w lk_RX0_25 (fun sz => t_X0_drop l g x y _ F f z v (hW) (hf) (hz) (by omega) sz) [0, 1] [] rfl rfl rfl rfl (by decide) (call_recv w (q0 := 0) rfl fX0.1) rfl rfl (Nat.le_of_ble_eq_true rfl) ⟨Nat.le_of_ble_eq_true rfl, Nat.le_of_ble_eq_true rfl⟩ ⟨Nat.le_of_ble_eq_true rfl, Nat.le_of_ble_eq_true rfl⟩ dX0_putFirst_2 (fun v w1 H locs hr w => ?_)
  obtain ⟨rfl, f1, z2, rfl, hf1, hz2⟩ := hr
  have w : Wd g A [(x, .inr (0, [.ref y, .int (iI z2)])), (y, eI g 4 f1)] s H locs := w
  refine lv_iload_n hx hb dX0_putFirst_5 rfl (lv_at hl 2 rfl) ?_
  refine ri_iconst hx hb dX0_putFirst_6 ?_
  refine ri_min (z := (if 4 < u then 4 else u)) hx hb (hml.trans hl.1.symm) hown hts m_RX0_29 ⟨Nat.le_of_ble_eq_true rfl, Nat.le_of_ble_eq_true rfl, Nat.le_of_ble_eq_true rfl, Nat.le_of_ble_eq_true rfl⟩ (by omega) (by omega) rfl dX0_putFirst_7 ?_
  refine lv_istore_n (lv' := [(3, .int (iI (if 4 < u then 4 else u))), (0, .ref x), (1, .int (iI v)), (2, .int (iI u))]) hx hb dX0_putFirst_10 rfl hl (by decide) rfl (fun ls hl => ?_)
  refine lv_iload_n hx hb dX0_putFirst_11 rfl (lv_at hl 0 rfl) ?_
  refine ri_iconst hx hb dX0_putFirst_12 ?_
  refine ri_icmp_ge (tgt := 17) hx hb dX0_putFirst_13 (by decide) (by omega) (by omega) (fun c3 => ?_) (fun c3 => ?_)
  · refine lv_aload_n hx hb dX0_putFirst_17 rfl (lv_at hl 1 rfl) ?_
    refine lv_iload_n hx hb dX0_putFirst_18 rfl (lv_at hl 0 rfl) ?_
    refine ri_iconst hx hb dX0_putFirst_19 ?_
    refine ri_isub (z := (if 4 < u then 4 else u) - 1) hx hb dX0_putFirst_20 rfl ?_
    refine call_wV (wr := []) (As := [.int (iI ((if 4 < u then 4 else u) - 1))]) (rest := []) hx hb (hml.trans hl.1.symm) hown hts w lk_RX0_35 (fun sz => t_X0_shrinkTo l g x y f1 z2 ((if 4 < u then 4 else u) - 1) (by omega) (by omega) sz) [0, 1] [] rfl rfl rfl rfl (by decide) (call_recv w (q0 := 0) rfl fX0.1) rfl rfl (Nat.le_of_ble_eq_true rfl) ⟨Nat.le_of_ble_eq_true rfl, Nat.le_of_ble_eq_true rfl⟩ ⟨Nat.le_of_ble_eq_true rfl, Nat.le_of_ble_eq_true rfl⟩ dX0_putFirst_21 (fun v w1 H locs hr w => ?_)
    obtain ⟨rfl, rfl⟩ := hr
    have w : Wd g A [(x, .inr (0, [.ref y, .int (iI (if (if 4 < u then 4 else u) - 1 < z2 then (if 4 < u then 4 else u) - 1 else z2))])), (y, eI g 4 f1)] s H locs := w
    refine lv_aload_n hx hb dX0_putFirst_24 rfl (lv_at hl 1 rfl) ?_
    refine ri_get (v := .int (iI (if (if 4 < u then 4 else u) - 1 < z2 then (if 4 < u then 4 else u) - 1 else z2))) hx hb hts hown w fX0 0 1 (W0_of k_fl_RX0_15 rfl) rfl rfl (by decide) dX0_putFirst_25 ?_
    refine lv_istore (lv' := [(4, .int (iI (if (if 4 < u then 4 else u) - 1 < z2 then (if 4 < u then 4 else u) - 1 else z2))), (3, .int (iI (if 4 < u then 4 else u))), (0, .ref x), (1, .int (iI v)), (2, .int (iI u))]) hx hb dX0_putFirst_28 hl (by decide) rfl (fun ls hl => ?_)
    have hG0 : ∀ i, 0 ≤ i → i < 4 → f1 i = (up (r_leaves F v) 11 (if r_leaves F v 11 = r_leaves F v 4 then r_leaves F v 11 - 1 else r_leaves F v 11)) (i + 12) := fun i q0 q1 => (hf1 i q0 q1).trans (up_ne (by omega)).symm
    have hB11 : (r_back ((up (r_leaves F v) 11 (if r_leaves F v 11 = r_leaves F v 4 then r_leaves F v 11 - 1 else r_leaves F v 11)) 11).toNat (up (r_leaves F v) 11 (if r_leaves F v 11 = r_leaves F v 4 then r_leaves F v 11 - 1 else r_leaves F v 11))) 11 = (up (r_leaves F v) 11 (if r_leaves F v 11 = r_leaves F v 4 then r_leaves F v 11 - 1 else r_leaves F v 11)) 11 := back_far (by omega)
    have L30 : ∀ (n : Nat) (xk : Int) (D : Int → Int) (fb : Int → Int), (xk = n) → (r_back n D = r_back ((up (r_leaves F v) 11 (if r_leaves F v 11 = r_leaves F v 4 then r_leaves F v 11 - 1 else r_leaves F v 11)) 11).toNat (up (r_leaves F v) 11 (if r_leaves F v 11 = r_leaves F v 4 then r_leaves F v 11 - 1 else r_leaves F v 11))) → (xk ≤ 3) → (∀ i, 0 ≤ i → i < 4 → fb i = D (i + 12)) → ∀ (ls : Array Slot) (H : Heap) (locs : List Loc), lv_has ls 5 [(0, .ref x), (1, .int (iI v)), (4, .int (iI xk))] → Wd g A [(x, .inr (0, [.ref y, .int (iI (if (if 4 < u then 4 else u) - 1 < z2 then (if 4 < u then 4 else u) - 1 else z2))])), (y, eI g 4 fb)] s H locs → (∀ (fb : Int → Int) (hG : ∀ i, 0 ≤ i → i < 4 → fb i = (r_back ((up (r_leaves F v) 11 (if r_leaves F v 11 = r_leaves F v 4 then r_leaves F v 11 - 1 else r_leaves F v 11)) 11).toNat (up (r_leaves F v) 11 (if r_leaves F v 11 = r_leaves F v 4 then r_leaves F v 11 - 1 else r_leaves F v 11))) (i + 12)) (ls : Array Slot) (H : Heap) (locs : List Loc), lv_has ls 5 [(0, .ref x), (1, .int (iI v))] → Wd g A [(x, .inr (0, [.ref y, .int (iI (if (if 4 < u then 4 else u) - 1 < z2 then (if 4 < u then 4 else u) - 1 else z2))])), (y, eI g 4 fb)] s H locs → W p l e (rmm 2 0 0) s m args below meth c H locs 0 0 Q (F0 m 57 ls [])) → W p l e (rmm 2 0 0) s m args below meth c H locs 0 0 Q (F0 m 30 ls []) := by
      intro n
      induction n with
      | zero =>
        intro xk D fb hn hX hlo hG ls H locs hl w kk30
        refine lv_iload hx hb dX0_putFirst_30 (lv_at hl 2 rfl) ?_
        refine ri_if_le (tgt := 57) hx hb dX0_putFirst_32 (by decide) (by omega) (fun c4 => ?_) (fun c4 => ?_)
        · have e0 : D = r_back ((up (r_leaves F v) 11 (if r_leaves F v 11 = r_leaves F v 4 then r_leaves F v 11 - 1 else r_leaves F v 11)) 11).toNat (up (r_leaves F v) 11 (if r_leaves F v 11 = r_leaves F v 4 then r_leaves F v 11 - 1 else r_leaves F v 11)) := hX
          exact kk30 fb (by rw [← e0]; exact hG) ls H locs  (lv_sub hl [0, 1] rfl) w
        · exact absurd c4 (by omega)
      | succ n ih30 =>
        intro xk D fb hn hX hlo hG ls H locs hl w kk30
        refine lv_iload hx hb dX0_putFirst_30 (lv_at hl 2 rfl) ?_
        refine ri_if_le (tgt := 57) hx hb dX0_putFirst_32 (by decide) (by omega) (fun c5 => ?_) (fun c5 => ?_)
        · exact absurd c5 (by omega)
        refine lv_aload_n hx hb dX0_putFirst_35 rfl (lv_at hl 0 rfl) ?_
        refine ri_get (v := .ref y) hx hb hts hown w fX0 0 0 (W0_of k_fl_RX0_9 rfl) rfl rfl (by decide) dX0_putFirst_36 ?_
        refine lv_iload hx hb dX0_putFirst_39 (lv_at hl 2 rfl) ?_
        refine lv_aload_n hx hb dX0_putFirst_41 rfl (lv_at hl 0 rfl) ?_
        refine ri_get (v := .ref y) hx hb hts hown w fX0 0 0 (W0_of k_fl_RX0_9 rfl) rfl rfl (by decide) dX0_putFirst_42 ?_
        refine lv_iload hx hb dX0_putFirst_45 (lv_at hl 2 rfl) ?_
        refine ri_iconst hx hb dX0_putFirst_47 ?_
        refine ri_isub (z := xk - 1) hx hb dX0_putFirst_48 rfl ?_
        refine ri_iald (f := fb) (v := fb (xk - 1)) hx hb w 1 rfl (by omega) (rfl) dX0_putFirst_49 (by omega) ?_
        refine ri_iast hx hb w 1 rfl (by omega) dX0_putFirst_50 (by omega) (fun H locs w => ?_)
        have w : Wd g A [(x, .inr (0, [.ref y, .int (iI (if (if 4 < u then 4 else u) - 1 < z2 then (if 4 < u then 4 else u) - 1 else z2))])), (y, eI g 4 (up fb xk (fb (xk - 1))))] s H locs := w
        refine ri_iinc (k := 2) (z := xk - 1) (lv' := [(4, .int (iI (xk - 1))), (0, .ref x), (1, .int (iI v))]) hx hb dX0_putFirst_51 hl rfl (by omega) (by decide) rfl (fun ls hl => ?_)
        refine lv_goto (tgt := 30) hx hb dX0_putFirst_54 (by decide) ?_
        exact ih30 (xk - 1) (up D (xk + 12) (D (xk + 11))) ((up fb xk (fb (xk - 1)))) (by omega) ((by rw [← hX, show xk = (n : Int) + 1 from by omega]; rfl)) (by omega) (fun i q0 q1 => by rw [hG (xk - 1) (by omega) (by omega), show xk - 1 + 12 = xk + 11 from by omega]; exact up_row (by omega) (hG i q0 q1)) ls H locs (lv_sub hl [1, 2, 0] rfl) w kk30
    refine L30 ((up (r_leaves F v) 11 (if r_leaves F v 11 = r_leaves F v 4 then r_leaves F v 11 - 1 else r_leaves F v 11)) 11).toNat (if (if 4 < u then 4 else u) - 1 < z2 then (if 4 < u then 4 else u) - 1 else z2) (up (r_leaves F v) 11 (if r_leaves F v 11 = r_leaves F v 4 then r_leaves F v 11 - 1 else r_leaves F v 11)) (f1) (by omega) (rfl) (by omega) (hG0) ls H locs (lv_sub hl [2, 3, 0] rfl) w (fun fb hG ls H locs hl w => ?_)
    refine lv_aload_n hx hb dX0_putFirst_57 rfl (lv_at hl 0 rfl) ?_
    refine ri_get (v := .ref y) hx hb hts hown w fX0 0 0 (W0_of k_fl_RX0_9 rfl) rfl rfl (by decide) dX0_putFirst_58 ?_
    refine ri_iconst hx hb dX0_putFirst_61 ?_
    refine lv_iload_n hx hb dX0_putFirst_62 rfl (lv_at hl 1 rfl) ?_
    refine ri_iast hx hb w 1 rfl (by omega) dX0_putFirst_63 (by omega) (fun H locs w => ?_)
    have w : Wd g A [(x, .inr (0, [.ref y, .int (iI (if (if 4 < u then 4 else u) - 1 < z2 then (if 4 < u then 4 else u) - 1 else z2))])), (y, eI g 4 (up fb 0 v))] s H locs := w
    refine lv_aload_n hx hb dX0_putFirst_64 rfl (lv_at hl 0 rfl) ?_
    refine lv_dup hx hb dX0_putFirst_65 rfl ?_
    refine ri_get (v := .int (iI (if (if 4 < u then 4 else u) - 1 < z2 then (if 4 < u then 4 else u) - 1 else z2))) hx hb hts hown w fX0 0 1 (W0_of k_fl_RX0_15 rfl) rfl rfl (by decide) dX0_putFirst_66 ?_
    refine ri_iconst hx hb dX0_putFirst_69 ?_
    refine ri_iadd (z := (if (if 4 < u then 4 else u) - 1 < z2 then (if 4 < u then 4 else u) - 1 else z2) + 1) hx hb dX0_putFirst_70 rfl ?_
    refine ri_put hx hb hts hown w fX0 0 1 (W0_of k_fl_RX0_15 rfl) rfl (Nat.le_of_ble_eq_true rfl) (by decide) rfl rfl rfl dX0_putFirst_71 (fun H locs w => ?_)
    have w : Wd g A [(x, .inr (0, [.ref y, .int (iI ((if (if 4 < u then 4 else u) - 1 < z2 then (if 4 < u then 4 else u) - 1 else z2) + 1))])), (y, eI g 4 (up fb 0 v))] s H locs := w
    exact hend.1 rfl _ _ _ _ _ dX0_putFirst_74 w ⟨rfl, (up fb 0 v), (if (if 4 < u then 4 else u) - 1 < z2 then (if 4 < u then 4 else u) - 1 else z2) + 1, rfl, fun i q0 q1 => by rw [show r_fronts F v = up (up (r_back ((up (r_leaves F v) 11 (if r_leaves F v 11 = r_leaves F v 4 then r_leaves F v 11 - 1 else r_leaves F v 11)) 11).toNat (up (r_leaves F v) 11 (if r_leaves F v 11 = r_leaves F v 4 then r_leaves F v 11 - 1 else r_leaves F v 11))) 12 v) 11 ((r_back ((up (r_leaves F v) 11 (if r_leaves F v 11 = r_leaves F v 4 then r_leaves F v 11 - 1 else r_leaves F v 11)) 11).toNat (up (r_leaves F v) 11 (if r_leaves F v 11 = r_leaves F v 4 then r_leaves F v 11 - 1 else r_leaves F v 11))) 11 + 1) from if_neg (by omega), up_ne (show i + 12 ≠ 11 from by omega)]; exact up_row (by omega) (hG i q0 q1), by rw [show r_fronts F v = up (up (r_back ((up (r_leaves F v) 11 (if r_leaves F v 11 = r_leaves F v 4 then r_leaves F v 11 - 1 else r_leaves F v 11)) 11).toNat (up (r_leaves F v) 11 (if r_leaves F v 11 = r_leaves F v 4 then r_leaves F v 11 - 1 else r_leaves F v 11))) 12 v) 11 ((r_back ((up (r_leaves F v) 11 (if r_leaves F v 11 = r_leaves F v 4 then r_leaves F v 11 - 1 else r_leaves F v 11)) 11).toNat (up (r_leaves F v) 11 (if r_leaves F v 11 = r_leaves F v 4 then r_leaves F v 11 - 1 else r_leaves F v 11))) 11 + 1) from if_neg (by omega), up_eq rfl, hB11]; omega⟩
  · exact hend.1 rfl _ _ _ _ _ dX0_putFirst_16 w ⟨rfl, f1, z2, rfl, by rw [show r_fronts F v = r_leaves F v from if_pos (by omega)]; exact hf1, by rw [show r_fronts F v = r_leaves F v from if_pos (by omega)]; exact hz2⟩

set_option maxHeartbeats 4000000 in
set_option maxRecDepth 100000 in
theorem t_X1_note (l : Launch) (g : GG) (x : Nat) (y1 : Nat) (y2 : Nat) (y3 : Nat) (f1 : Int → Int) (f2 : Int → Int) (f3 : Int → Int) (z : Int) (u : Int) (v : Int) (t : Int) (sz : Nat) : Met l yX1_note (wm yX1_note cX1_note 5 none) (rmm 0 0 0) (pW g [(x, .inr (1, [.ref y1, .ref y2, .ref y3, .int (iI z)])), (y1, eI g 8 f1), (y2, eI g 8 f2), (y3, eI g 8 f3)] sz [.ref x, .int (iI u), .int (iI v), .int (iI t)]) (qW g [(x, .inr (1, [.ref y1, .ref y2, .ref y3, .int (iI z)])), (y1, eI g 8 f1), (y2, eI g 8 f2), (y3, eI g 8 f3)] (fun vv ww => vv = none ∧ ww = [(x, .inr (1, [.ref y1, .ref y2, .ref y3, .int (iI (z + 1))])), (y1, eI g 8 (nt f1 u)), (y2, eI g 8 (nt f2 v)), (y3, eI g 8 (nt f3 t))])) 0 0 (va_A [(x, .inr (1, [.ref y1, .ref y2, .ref y3, .int (iI z)])), (y1, eI g 8 f1), (y2, eI g 8 f2), (y3, eI g 8 f3)] sz) := by
  refine met_w (by decide) (Nat.le_of_ble_eq_true rfl) ?_
  intro p e s m args below meth c Q ls A hx hb hml hown hts hl w hin hend
  obtain ⟨H, hH0⟩ : ∃ H, H = s.heap := ⟨_, rfl⟩
  obtain ⟨locs, hL0⟩ : ∃ locs : List Loc, locs = [] := ⟨_, rfl⟩
  rw [← hH0, ← hL0] at w
  rw [← hH0, ← hL0]
  have hl : lv_has ls 5 [(0, .ref x), (1, .int (iI u)), (2, .int (iI v)), (3, .int (iI t))] := hl
  refine ri_bipush hx hb dX1_note_0 (by decide) ?_
  refine lv_istore (lv' := [(4, .int (iI 7)), (0, .ref x), (1, .int (iI u)), (2, .int (iI v)), (3, .int (iI t))]) hx hb dX1_note_2 hl (by decide) rfl (fun ls hl => ?_)
  have w : Wd g A [(x, .inr (1, [.ref y1, .ref y2, .ref y3, .int (iI z)])), (y1, eI g 8 (sh8 f1 7)), (y2, eI g 8 (sh8 f2 7)), (y3, eI g 8 (sh8 f3 7))] s H locs := (w.re 1 (f' := sh8 f1 7) rfl (fun i q0 q1 => sh8_7 q1)).re 2 (f' := sh8 f2 7) rfl (fun i q0 q1 => sh8_7 q1) |>.re 3 (f' := sh8 f3 7) rfl (fun i q0 q1 => sh8_7 q1)
  have L4 : ∀ (n : Nat) (xk : Int), (xk = n) → (xk ≤ 7) → ∀ (ls : Array Slot) (H : Heap) (locs : List Loc), lv_has ls 5 [(0, .ref x), (1, .int (iI u)), (2, .int (iI v)), (3, .int (iI t)), (4, .int (iI xk))] → Wd g A [(x, .inr (1, [.ref y1, .ref y2, .ref y3, .int (iI z)])), (y1, eI g 8 (sh8 f1 xk)), (y2, eI g 8 (sh8 f2 xk)), (y3, eI g 8 (sh8 f3 xk))] s H locs → (∀ (ls : Array Slot) (H : Heap) (locs : List Loc), lv_has ls 5 [(0, .ref x), (1, .int (iI u)), (2, .int (iI v)), (3, .int (iI t))] → Wd g A [(x, .inr (1, [.ref y1, .ref y2, .ref y3, .int (iI z)])), (y1, eI g 8 (sh8 f1 0)), (y2, eI g 8 (sh8 f2 0)), (y3, eI g 8 (sh8 f3 0))] s H locs → W p l e (rmm 0 0 0) s m args below meth c H locs 0 0 Q (F0 m 63 ls [])) → W p l e (rmm 0 0 0) s m args below meth c H locs 0 0 Q (F0 m 4 ls []) := by
    intro n
    induction n with
    | zero =>
      intro xk hn hlo ls H locs hl w kk4
      refine lv_iload hx hb dX1_note_4 (lv_at hl 4 rfl) ?_
      refine ri_if_le (tgt := 63) hx hb dX1_note_6 (by decide) (by omega) (fun c1 => ?_) (fun c1 => ?_)
      · have hk0 : xk = 0 := by omega
        rw [hk0] at w
        exact kk4  ls H locs  (lv_sub hl [0, 1, 2, 3] rfl) w
      · exact absurd c1 (by omega)
    | succ n ih4 =>
      intro xk hn hlo ls H locs hl w kk4
      refine lv_iload hx hb dX1_note_4 (lv_at hl 4 rfl) ?_
      refine ri_if_le (tgt := 63) hx hb dX1_note_6 (by decide) (by omega) (fun c2 => ?_) (fun c2 => ?_)
      · exact absurd c2 (by omega)
      refine lv_aload_n hx hb dX1_note_9 rfl (lv_at hl 0 rfl) ?_
      refine ri_get (v := .ref y1) hx hb hts hown w fX1 0 0 (W0_of k_fl_RX1_9 rfl) rfl rfl (by decide) dX1_note_10 ?_
      refine lv_iload hx hb dX1_note_13 (lv_at hl 4 rfl) ?_
      refine lv_aload_n hx hb dX1_note_15 rfl (lv_at hl 0 rfl) ?_
      refine ri_get (v := .ref y1) hx hb hts hown w fX1 0 0 (W0_of k_fl_RX1_9 rfl) rfl rfl (by decide) dX1_note_16 ?_
      refine lv_iload hx hb dX1_note_19 (lv_at hl 4 rfl) ?_
      refine ri_iconst hx hb dX1_note_21 ?_
      refine ri_isub (z := xk - 1) hx hb dX1_note_22 rfl ?_
      refine ri_iald (f := (sh8 f1 xk)) (v := (sh8 f1 xk) (xk - 1)) hx hb w 1 rfl (by omega) (rfl) dX1_note_23 (by omega) ?_
      refine ri_iast hx hb w 1 rfl (by omega) dX1_note_24 (by omega) (fun H locs w => ?_)
      have w : Wd g A [(x, .inr (1, [.ref y1, .ref y2, .ref y3, .int (iI z)])), (y1, eI g 8 (up (sh8 f1 xk) xk ((sh8 f1 xk) (xk - 1)))), (y2, eI g 8 (sh8 f2 xk)), (y3, eI g 8 (sh8 f3 xk))] s H locs := w
      refine lv_aload_n hx hb dX1_note_25 rfl (lv_at hl 0 rfl) ?_
      refine ri_get (v := .ref y2) hx hb hts hown w fX1 0 1 (W0_of k_fl_RX1_15 rfl) rfl rfl (by decide) dX1_note_26 ?_
      refine lv_iload hx hb dX1_note_29 (lv_at hl 4 rfl) ?_
      refine lv_aload_n hx hb dX1_note_31 rfl (lv_at hl 0 rfl) ?_
      refine ri_get (v := .ref y2) hx hb hts hown w fX1 0 1 (W0_of k_fl_RX1_15 rfl) rfl rfl (by decide) dX1_note_32 ?_
      refine lv_iload hx hb dX1_note_35 (lv_at hl 4 rfl) ?_
      refine ri_iconst hx hb dX1_note_37 ?_
      refine ri_isub (z := xk - 1) hx hb dX1_note_38 rfl ?_
      refine ri_iald (f := (sh8 f2 xk)) (v := (sh8 f2 xk) (xk - 1)) hx hb w 2 rfl (by omega) (rfl) dX1_note_39 (by omega) ?_
      refine ri_iast hx hb w 2 rfl (by omega) dX1_note_40 (by omega) (fun H locs w => ?_)
      have w : Wd g A [(x, .inr (1, [.ref y1, .ref y2, .ref y3, .int (iI z)])), (y1, eI g 8 (up (sh8 f1 xk) xk ((sh8 f1 xk) (xk - 1)))), (y2, eI g 8 (up (sh8 f2 xk) xk ((sh8 f2 xk) (xk - 1)))), (y3, eI g 8 (sh8 f3 xk))] s H locs := w
      refine lv_aload_n hx hb dX1_note_41 rfl (lv_at hl 0 rfl) ?_
      refine ri_get (v := .ref y3) hx hb hts hown w fX1 0 2 (W0_of k_fl_RX1_18 rfl) rfl rfl (by decide) dX1_note_42 ?_
      refine lv_iload hx hb dX1_note_45 (lv_at hl 4 rfl) ?_
      refine lv_aload_n hx hb dX1_note_47 rfl (lv_at hl 0 rfl) ?_
      refine ri_get (v := .ref y3) hx hb hts hown w fX1 0 2 (W0_of k_fl_RX1_18 rfl) rfl rfl (by decide) dX1_note_48 ?_
      refine lv_iload hx hb dX1_note_51 (lv_at hl 4 rfl) ?_
      refine ri_iconst hx hb dX1_note_53 ?_
      refine ri_isub (z := xk - 1) hx hb dX1_note_54 rfl ?_
      refine ri_iald (f := (sh8 f3 xk)) (v := (sh8 f3 xk) (xk - 1)) hx hb w 3 rfl (by omega) (rfl) dX1_note_55 (by omega) ?_
      refine ri_iast hx hb w 3 rfl (by omega) dX1_note_56 (by omega) (fun H locs w => ?_)
      have w : Wd g A [(x, .inr (1, [.ref y1, .ref y2, .ref y3, .int (iI z)])), (y1, eI g 8 (up (sh8 f1 xk) xk ((sh8 f1 xk) (xk - 1)))), (y2, eI g 8 (up (sh8 f2 xk) xk ((sh8 f2 xk) (xk - 1)))), (y3, eI g 8 (up (sh8 f3 xk) xk ((sh8 f3 xk) (xk - 1))))] s H locs := w
      refine ri_iinc (k := 4) (z := xk - 1) (lv' := [(4, .int (iI (xk - 1))), (0, .ref x), (1, .int (iI u)), (2, .int (iI v)), (3, .int (iI t))]) hx hb dX1_note_57 hl rfl (by omega) (by decide) rfl (fun ls hl => ?_)
      refine lv_goto (tgt := 4) hx hb dX1_note_60 (by decide) ?_
      rw [sh8_s, sh8_s, sh8_s] at w
      exact ih4 (xk - 1)  (by omega) (by omega) ls H locs (lv_sub hl [1, 2, 3, 4, 0] rfl) w kk4
  refine L4 7 7  (rfl) (by omega) ls H locs (lv_sub hl [1, 2, 3, 4, 0] rfl) w (fun ls H locs hl w => ?_)
  refine lv_aload_n hx hb dX1_note_63 rfl (lv_at hl 0 rfl) ?_
  refine ri_get (v := .ref y1) hx hb hts hown w fX1 0 0 (W0_of k_fl_RX1_9 rfl) rfl rfl (by decide) dX1_note_64 ?_
  refine ri_iconst hx hb dX1_note_67 ?_
  refine lv_iload_n hx hb dX1_note_68 rfl (lv_at hl 1 rfl) ?_
  refine ri_iast hx hb w 1 rfl (by omega) dX1_note_69 (by omega) (fun H locs w => ?_)
  have w : Wd g A [(x, .inr (1, [.ref y1, .ref y2, .ref y3, .int (iI z)])), (y1, eI g 8 (up (sh8 f1 0) 0 u)), (y2, eI g 8 (sh8 f2 0)), (y3, eI g 8 (sh8 f3 0))] s H locs := w
  refine lv_aload_n hx hb dX1_note_70 rfl (lv_at hl 0 rfl) ?_
  refine ri_get (v := .ref y2) hx hb hts hown w fX1 0 1 (W0_of k_fl_RX1_15 rfl) rfl rfl (by decide) dX1_note_71 ?_
  refine ri_iconst hx hb dX1_note_74 ?_
  refine lv_iload_n hx hb dX1_note_75 rfl (lv_at hl 2 rfl) ?_
  refine ri_iast hx hb w 2 rfl (by omega) dX1_note_76 (by omega) (fun H locs w => ?_)
  have w : Wd g A [(x, .inr (1, [.ref y1, .ref y2, .ref y3, .int (iI z)])), (y1, eI g 8 (up (sh8 f1 0) 0 u)), (y2, eI g 8 (up (sh8 f2 0) 0 v)), (y3, eI g 8 (sh8 f3 0))] s H locs := w
  refine lv_aload_n hx hb dX1_note_77 rfl (lv_at hl 0 rfl) ?_
  refine ri_get (v := .ref y3) hx hb hts hown w fX1 0 2 (W0_of k_fl_RX1_18 rfl) rfl rfl (by decide) dX1_note_78 ?_
  refine ri_iconst hx hb dX1_note_81 ?_
  refine lv_iload_n hx hb dX1_note_82 rfl (lv_at hl 3 rfl) ?_
  refine ri_iast hx hb w 3 rfl (by omega) dX1_note_83 (by omega) (fun H locs w => ?_)
  have w : Wd g A [(x, .inr (1, [.ref y1, .ref y2, .ref y3, .int (iI z)])), (y1, eI g 8 (up (sh8 f1 0) 0 u)), (y2, eI g 8 (up (sh8 f2 0) 0 v)), (y3, eI g 8 (up (sh8 f3 0) 0 t))] s H locs := w
  refine lv_aload_n hx hb dX1_note_84 rfl (lv_at hl 0 rfl) ?_
  refine lv_dup hx hb dX1_note_85 rfl ?_
  refine ri_get (v := .int (iI z)) hx hb hts hown w fX1 0 3 (W0_of k_fl_RX1_21 rfl) rfl rfl (by decide) dX1_note_86 ?_
  refine ri_iconst hx hb dX1_note_89 ?_
  refine ri_iadd (z := z + 1) hx hb dX1_note_90 rfl ?_
  refine ri_put hx hb hts hown w fX1 0 3 (W0_of k_fl_RX1_21 rfl) rfl (Nat.le_of_ble_eq_true rfl) (by decide) rfl rfl rfl dX1_note_91 (fun H locs w => ?_)
  have w : Wd g A [(x, .inr (1, [.ref y1, .ref y2, .ref y3, .int (iI (z + 1))])), (y1, eI g 8 (up (sh8 f1 0) 0 u)), (y2, eI g 8 (up (sh8 f2 0) 0 v)), (y3, eI g 8 (up (sh8 f3 0) 0 t))] s H locs := w
  exact hend.1 rfl _ _ _ _ _ dX1_note_94 w ⟨rfl, rfl⟩
