set_option maxHeartbeats 4000000 in
set_option maxRecDepth 100000 in
theorem t_X5_perform (l : Launch) (g : GG) (c0 : Nat) (na : Nat → Nat) (be : Nat → Nat) (tr : Nat → Nat) (sn : Nat → Nat) (x : Nat → Nat) (h : Nat → Nat → Nat) (o : Nat → Nat) (T : Nat → Int → Int) (T1 : Nat → Int → Int) (T2 : Nat → Int → Int) (T3 : Nat → Int → Int) (K : Nat → Nat → Int → Int) (z : Int) (P : Nat → Int → Int) (C : Nat → Int) (N : Int) (B : Nat → Int → Int) (hW : WB N B) (hC : RelC B T T3 K z P C) (hN : N + 210000 ≤ 200000000) (sz : Nat) : Met l yX5_perform (wm yX5_perform cX5_perform 6 (some .int)) (rmm 11 0 0) (pW g (List.flatten ([[(c0, .inr (5, [.ref (na 0), .ref (be 0), .ref (tr 0), .ref (sn 0), .int (iI (C 0)), .ref (x 0), .ref (o 0), .int (iI (C 1)), .int (iI (C 2)), .int (iI (C 3)), .int (iI (C 4))]))], st_ws g na T, st_ws g be T1, st_ws g tr T2, st_ws g sn T3, hi_ws g x h K z, or_ws g o P] : List va_W)) sz [.ref c0]) (qW g (List.flatten ([[(c0, .inr (5, [.ref (na 0), .ref (be 0), .ref (tr 0), .ref (sn 0), .int (iI (C 0)), .ref (x 0), .ref (o 0), .int (iI (C 1)), .int (iI (C 2)), .int (iI (C 3)), .int (iI (C 4))]))], st_ws g na T, st_ws g be T1, st_ws g tr T2, st_ws g sn T3, hi_ws g x h K z, or_ws g o P] : List va_W)) (fun vv ww => vv = some (.int (iI (c_perform B).1)) ∧ ∃ (h' : Nat → Nat → Nat) (T' T1' T2' T3' : Nat → Int → Int) (K' : Nat → Nat → Int → Int) (z' : Int) (P' : Nat → Int → Int) (C' : Nat → Int), ww = wp_ws g c0 na be tr sn x h' o T' T1' T2' T3' K' z' P' C' ∧ RelC (c_perform B).2 T' T3' K' z' P' C')) 0 0 (va_A (List.flatten ([[(c0, .inr (5, [.ref (na 0), .ref (be 0), .ref (tr 0), .ref (sn 0), .int (iI (C 0)), .ref (x 0), .ref (o 0), .int (iI (C 1)), .int (iI (C 2)), .int (iI (C 3)), .int (iI (C 4))]))], st_ws g na T, st_ws g be T1, st_ws g tr T2, st_ws g sn T3, hi_ws g x h K z, or_ws g o P] : List va_W)) sz) := by
  have hk := hW.k
  have hj := hW.j
  have htl := hW.tl
  have hrf := hW.rf
  have hTx := hW.tx
  have hrr := hW.rr
  have hW0 := hW.1
  have hR := hC.1
  have hrz := hC.zz
  have hc0 := hC.c0
  refine met_w (by decide) (Nat.le_of_ble_eq_true rfl) ?_
  intro p e s m args below meth c Q ls A hx hb hml hown hts hl w hin hend
  obtain ⟨H, hH0⟩ : ∃ H, H = s.heap := ⟨_, rfl⟩
  obtain ⟨locs, hL0⟩ : ∃ locs : List Loc, locs = [] := ⟨_, rfl⟩
  rw [← hH0, ← hL0] at w
  rw [← hH0, ← hL0]
  have hl : lv_has ls 6 [(0, .ref c0)] := hl
  refine lv_aload_n hx hb dX5_perform_0 rfl (lv_at hl 0 rfl) ?_
  refine ri_get (v := .ref (o 0)) hx hb hts hown w fX5 0 6 (W0_of k_fl_RX5_39 rfl) rfl rfl (by decide) dX5_perform_1 ?_
  refine cb_wV (bc := [or_ws g o P]) (br := [[(c0, .inr (5, [.ref (na 0), .ref (be 0), .ref (tr 0), .ref (sn 0), .int (iI (C 0)), .ref (x 0), .ref (o 0), .int (iI (C 1)), .int (iI (C 2)), .int (iI (C 3)), .int (iI (C 4))]))], st_ws g na T, st_ws g be T1, st_ws g tr T2, st_ws g sn T3, hi_ws g x h K z]) (kb := 7) (As := []) (rest := []) hx hb (hml.trans hl.1.symm) hown hts w lk_RX5_101 (fun sz => t_X3_parse l g o P (B 6) (B 10 0)  hC.t hC.n hTx htl  sz) [6, 0, 1, 2, 3, 4, 5] (by decide) rfl rfl rfl (call_recv w (q0 := 147) rfl fX3.1) rfl rfl (Nat.le_of_ble_eq_true rfl) ⟨Nat.le_of_ble_eq_true rfl, Nat.le_of_ble_eq_true rfl⟩ ⟨Nat.le_of_ble_eq_true rfl, Nat.le_of_ble_eq_true rfl⟩ dX5_perform_4 (fun v w1 H locs hr w => ?_)
  obtain ⟨Z, rfl, zy1, zy5, ⟨rfl, ht1, hk0, hk20, zy6, hro⟩ | ⟨rfl, ht1, ha0, ha60⟩⟩ : ∃ P' : Nat → Int → Int, w1 = or_ws g o P' ∧ P' 1 = B 6 ∧ P' 5 0 = B 10 0 ∧ ((v = some (.int (iI (-1))) ∧ (t_of B).1 = 1 ∧ 0 ≤ (t_of B).2.2 ∧ (t_of B).2.2 ≤ 20 ∧ P' 6 0 = (t_of B).2.2 ∧ (∀ j : Nat, (j : Int) < (t_of B).2.2 → P' 2 j = B 6 (t_at (B 6) (B 10 0) j) ∧ P' 3 j = o_arg (B 6) (B 10 0) (t_at (B 6) (B 10 0) j) ∧ P' 4 j = o_rep (B 6) (B 10 0) (t_at (B 6) (B 10 0) j) ∧ O_ok (B 6) (B 10 0) (t_at (B 6) (B 10 0) j))) ∨ (v = some (.int (iI (t_of B).2.1)) ∧ (t_of B).1 = 0 ∧ 0 ≤ (t_of B).2.1 ∧ (t_of B).2.1 ≤ 60)) := hr
  · have w : Wd g A (List.flatten ([[(c0, .inr (5, [.ref (na 0), .ref (be 0), .ref (tr 0), .ref (sn 0), .int (iI (C 0)), .ref (x 0), .ref (o 0), .int (iI (C 1)), .int (iI (C 2)), .int (iI (C 3)), .int (iI (C 4))]))], st_ws g na T, st_ws g be T1, st_ws g tr T2, st_ws g sn T3, hi_ws g x h K z, or_ws g o Z] : List va_W)) s H locs := w
    refine lv_istore_n (lv' := [(1, .int (iI (-1))), (0, .ref c0)]) hx hb dX5_perform_7 rfl hl (by decide) rfl (fun ls hl => ?_)
    refine lv_iload_n hx hb dX5_perform_8 rfl (lv_at hl 0 rfl) ?_
    refine ri_iconst hx hb dX5_perform_9 ?_
    refine ri_icmp_eq (tgt := 18) hx hb dX5_perform_10 (by decide) (by omega) (by omega) (fun c1 => ?_) (fun c1 => ?_)
    · refine lv_aload_n hx hb dX5_perform_18 rfl (lv_at hl 1 rfl) ?_
      refine ri_get (v := .ref (be 0)) hx hb hts hown w fX5 0 1 (W0_of k_fl_RX5_16 rfl) rfl rfl (by decide) dX5_perform_19 ?_
      refine lv_aload_n hx hb dX5_perform_22 rfl (lv_at hl 1 rfl) ?_
      refine ri_get (v := .ref (na 0)) hx hb hts hown w fX5 0 0 (W0_of k_fl_RX5_10 rfl) rfl rfl (by decide) dX5_perform_23 ?_
      refine cb_wV (bc := [st_ws g be T1, st_ws g na T]) (br := [[(c0, .inr (5, [.ref (na 0), .ref (be 0), .ref (tr 0), .ref (sn 0), .int (iI (C 0)), .ref (x 0), .ref (o 0), .int (iI (C 1)), .int (iI (C 2)), .int (iI (C 3)), .int (iI (C 4))]))], st_ws g tr T2, st_ws g sn T3, hi_ws g x h K z, or_ws g o Z]) (kb := 7) (As := [.ref (na 0)]) (rest := []) hx hb (hml.trans hl.1.symm) hown hts w lk_RX5_56 (fun sz => t_X4_copyFrom l g be na T1 T (fun b h0 h1 => by have q1 := hR.ca h0 h1; have q2 := hW0.bl h0 h1; omega) sz) [2, 1, 0, 3, 4, 5, 6] (by decide) rfl rfl rfl (call_recv w (q0 := 19) rfl fX4.1) rfl rfl (Nat.le_of_ble_eq_true rfl) ⟨Nat.le_of_ble_eq_true rfl, Nat.le_of_ble_eq_true rfl⟩ ⟨Nat.le_of_ble_eq_true rfl, Nat.le_of_ble_eq_true rfl⟩ dX5_perform_26 (fun v w1 H locs hr w => ?_)
      obtain ⟨rfl, rfl⟩ := hr
      have w := w.two
      have w : Wd g A (List.flatten ([[(c0, .inr (5, [.ref (na 0), .ref (be 0), .ref (tr 0), .ref (sn 0), .int (iI (C 0)), .ref (x 0), .ref (o 0), .int (iI (C 1)), .int (iI (C 2)), .int (iI (C 3)), .int (iI (C 4))]))], st_ws g tr T2, st_ws g sn T3, hi_ws g x h K z, or_ws g o Z, st_ws g be T, st_ws g na T] : List va_W)) s H locs := w
      refine ri_iconst hx hb dX5_perform_29 ?_
      refine lv_istore_n (lv' := [(2, .int (iI 0)), (1, .int (iI (-1))), (0, .ref c0)]) hx hb dX5_perform_30 rfl hl (by decide) rfl (fun ls hl => ?_)
      have L31 : ∀ (n : Nat) (xk : Int) (G : Int → Int) (Y : Nat → Int → Int), (xk + n = (t_of B).2.2) → (e_all (B 6) (B 10 0) n xk.toNat G = p_of B) → (0 ≤ xk) → (WF (N + 10000 * xk) G) → (Rel G Y) → ∀ (ls : Array Slot) (H : Heap) (locs : List Loc), lv_has ls 6 [(0, .ref c0), (2, .int (iI xk))] → Wd g A (List.flatten ([[(c0, .inr (5, [.ref (na 0), .ref (be 0), .ref (tr 0), .ref (sn 0), .int (iI (C 0)), .ref (x 0), .ref (o 0), .int (iI (C 1)), .int (iI (C 2)), .int (iI (C 3)), .int (iI (C 4))]))], st_ws g tr T2, st_ws g sn T3, hi_ws g x h K z, or_ws g o Z, st_ws g be T, st_ws g na Y] : List va_W)) s H locs → (∀ (G : Int → Int) (Y : Nat → Int → Int) (hRG : Rel G Y) (hE : (0, (((t_of B).2.2).toNat : Int), 0, G) = p_of B) (ls : Array Slot) (H : Heap) (locs : List Loc), lv_has ls 6 [(0, .ref c0)] → Wd g A (List.flatten ([[(c0, .inr (5, [.ref (na 0), .ref (be 0), .ref (tr 0), .ref (sn 0), .int (iI (C 0)), .ref (x 0), .ref (o 0), .int (iI (C 1)), .int (iI (C 2)), .int (iI (C 3)), .int (iI (C 4))]))], st_ws g tr T2, st_ws g sn T3, hi_ws g x h K z, or_ws g o Z, st_ws g be T, st_ws g na Y] : List va_W)) s H locs → W p l e (rmm 11 0 0) s m args below meth c H locs 0 0 Q (F0 m 100 ls [])) → W p l e (rmm 11 0 0) s m args below meth c H locs 0 0 Q (F0 m 31 ls []) := by
        intro n
        induction n with
        | zero =>
          intro xk G Y hn hE hlo hWG hRG ls H locs hl w kk31
          refine lv_iload_n hx hb dX5_perform_31 rfl (lv_at hl 1 rfl) ?_
          refine lv_aload_n hx hb dX5_perform_32 rfl (lv_at hl 0 rfl) ?_
          refine ri_get (v := .ref (o 0)) hx hb hts hown w fX5 0 6 (W0_of k_fl_RX5_39 rfl) rfl rfl (by decide) dX5_perform_33 ?_
          refine ri_get (v := .int (iI (t_of B).2.2)) hx hb hts hown w fX3 111 5 (W0_of k_fl_RX5_104 rfl) rfl (congrArg (fun z => some (Value.int (iI z))) (zy6)) (by decide) dX5_perform_36 ?_
          refine ri_icmp_ge (tgt := 100) hx hb dX5_perform_39 (by decide) (by omega) (by omega) (fun c2 => ?_) (fun c2 => ?_)
          · exact kk31 G Y hRG (by rw [← hE, show xk = (t_of B).2.2 from by omega]; rfl) ls H locs  (lv_sub hl [0] rfl) w
          · exact absurd c2 (by omega)
        | succ n ih31 =>
          intro xk G Y hn hE hlo hWG hRG ls H locs hl w kk31
          refine lv_iload_n hx hb dX5_perform_31 rfl (lv_at hl 1 rfl) ?_
          refine lv_aload_n hx hb dX5_perform_32 rfl (lv_at hl 0 rfl) ?_
          refine ri_get (v := .ref (o 0)) hx hb hts hown w fX5 0 6 (W0_of k_fl_RX5_39 rfl) rfl rfl (by decide) dX5_perform_33 ?_
          refine ri_get (v := .int (iI (t_of B).2.2)) hx hb hts hown w fX3 111 5 (W0_of k_fl_RX5_104 rfl) rfl (congrArg (fun z => some (Value.int (iI z))) (zy6)) (by decide) dX5_perform_36 ?_
          refine ri_icmp_ge (tgt := 100) hx hb dX5_perform_39 (by decide) (by omega) (by omega) (fun c3 => ?_) (fun c3 => ?_)
          · exact absurd c3 (by omega)
          have hYr : Z 2 xk = (B 6 (t_at (B 6) (B 10 0) xk.toNat)) ∧ Z 3 xk = (o_arg (B 6) (B 10 0) (t_at (B 6) (B 10 0) xk.toNat)) ∧ Z 4 xk = (o_rep (B 6) (B 10 0) (t_at (B 6) (B 10 0) xk.toNat)) ∧ O_ok (B 6) (B 10 0) (t_at (B 6) (B 10 0) xk.toNat) := by have hq := hro xk.toNat (by omega); rw [Int.toNat_of_nonneg (by omega)] at hq; exact hq
          have hog := o_ok_rg hYr.2.2.2
          have hog1 : (B 6 (t_at (B 6) (B 10 0) xk.toNat)) = 114 ∨ (B 6 (t_at (B 6) (B 10 0) xk.toNat)) = 119 ∨ (B 6 (t_at (B 6) (B 10 0) xk.toNat)) = 116 := by have := hYr.2.2.2.1.2; omega
          have hogx : 0 ≤ (o_arg (B 6) (B 10 0) (t_at (B 6) (B 10 0) xk.toNat)) ∧ (o_arg (B 6) (B 10 0) (t_at (B 6) (B 10 0) xk.toNat)) ≤ 99 := by have h1 := hog.2.2.1; have h2 := hog.2.2.2.1; unfold o_lo at h1; unfold o_hi at h2; omega
          refine lv_aload_n hx hb dX5_perform_42 rfl (lv_at hl 0 rfl) ?_
          refine ri_get (v := .ref (o 0)) hx hb hts hown w fX5 0 6 (W0_of k_fl_RX5_39 rfl) rfl rfl (by decide) dX5_perform_43 ?_
          refine lv_iload_n hx hb dX5_perform_46 rfl (lv_at hl 1 rfl) ?_
          refine cb_rV (bc := [or_ws g o Z]) (br := [[(c0, .inr (5, [.ref (na 0), .ref (be 0), .ref (tr 0), .ref (sn 0), .int (iI (C 0)), .ref (x 0), .ref (o 0), .int (iI (C 1)), .int (iI (C 2)), .int (iI (C 3)), .int (iI (C 4))]))], st_ws g tr T2, st_ws g sn T3, hi_ws g x h K z, st_ws g be T, st_ws g na Y]) (kb := 7) (As := [.int (iI xk)]) (rest := []) hx hb (hml.trans hl.1.symm) hown hts w lk_RX5_107 (t_X3_timesOf l g o Z (Z 1) (Z 5 0) xk rfl rfl (by rw [zy1]; exact hTx) (by rw [zy5]; exact htl) (by omega) (by omega)) [4, 0, 1, 2, 3, 5, 6] (by decide) rfl rfl rfl (call_recv w (q0 := 111) rfl fX3.1) rfl rfl (Nat.le_of_ble_eq_true rfl) ⟨Nat.le_of_ble_eq_true rfl, Nat.le_of_ble_eq_true rfl⟩ ⟨Nat.le_of_ble_eq_true rfl, Nat.le_of_ble_eq_true rfl⟩ dX5_perform_47 ?_
          rw [show Z 4 xk = (o_rep (B 6) (B 10 0) (t_at (B 6) (B 10 0) xk.toNat)) from hYr.2.2.1]
          refine lv_istore_n (lv' := [(3, .int (iI (o_rep (B 6) (B 10 0) (t_at (B 6) (B 10 0) xk.toNat)))), (0, .ref c0), (2, .int (iI xk))]) hx hb dX5_perform_50 rfl hl (by decide) rfl (fun ls hl => ?_)
          refine ri_iconst hx hb dX5_perform_51 ?_
          refine lv_istore (lv' := [(4, .int (iI 0)), (3, .int (iI (o_rep (B 6) (B 10 0) (t_at (B 6) (B 10 0) xk.toNat)))), (0, .ref c0), (2, .int (iI xk))]) hx hb dX5_perform_52 hl (by decide) rfl (fun ls hl => ?_)
          have L54 : ∀ (n : Nat) (xd : Int) (D : Int → Int) (V : Nat → Int → Int), (xd + n = (o_rep (B 6) (B 10 0) (t_at (B 6) (B 10 0) xk.toNat))) → (e_reps (B 6 (t_at (B 6) (B 10 0) xk.toNat)) (o_arg (B 6) (B 10 0) (t_at (B 6) (B 10 0) xk.toNat)) n xd D = e_reps (B 6 (t_at (B 6) (B 10 0) xk.toNat)) (o_arg (B 6) (B 10 0) (t_at (B 6) (B 10 0) xk.toNat)) (o_rep (B 6) (B 10 0) (t_at (B 6) (B 10 0) xk.toNat)).toNat 0 G) → (0 ≤ xd) → (WF (N + 10000 * xk + e_grow (B 6 (t_at (B 6) (B 10 0) xk.toNat)) * xd) D) → (Rel D V) → ∀ (ls : Array Slot) (H : Heap) (locs : List Loc), lv_has ls 6 [(0, .ref c0), (2, .int (iI xk)), (3, .int (iI (o_rep (B 6) (B 10 0) (t_at (B 6) (B 10 0) xk.toNat)))), (4, .int (iI xd))] → Wd g A (List.flatten ([[(c0, .inr (5, [.ref (na 0), .ref (be 0), .ref (tr 0), .ref (sn 0), .int (iI (C 0)), .ref (x 0), .ref (o 0), .int (iI (C 1)), .int (iI (C 2)), .int (iI (C 3)), .int (iI (C 4))]))], st_ws g tr T2, st_ws g sn T3, hi_ws g x h K z, or_ws g o Z, st_ws g be T, st_ws g na V] : List va_W)) s H locs → (∀ (D : Int → Int) (V : Nat → Int → Int) (hRD : Rel D V) (hDG : D = (e_reps (B 6 (t_at (B 6) (B 10 0) xk.toNat)) (o_arg (B 6) (B 10 0) (t_at (B 6) (B 10 0) xk.toNat)) (o_rep (B 6) (B 10 0) (t_at (B 6) (B 10 0) xk.toNat)).toNat 0 G).2.2) (hD1 : (e_reps (B 6 (t_at (B 6) (B 10 0) xk.toNat)) (o_arg (B 6) (B 10 0) (t_at (B 6) (B 10 0) xk.toNat)) (o_rep (B 6) (B 10 0) (t_at (B 6) (B 10 0) xk.toNat)).toNat 0 G).1 = 0) (hWD : WF (N + 10000 * xk + 10000) D) (ls : Array Slot) (H : Heap) (locs : List Loc), lv_has ls 6 [(0, .ref c0), (2, .int (iI xk))] → Wd g A (List.flatten ([[(c0, .inr (5, [.ref (na 0), .ref (be 0), .ref (tr 0), .ref (sn 0), .int (iI (C 0)), .ref (x 0), .ref (o 0), .int (iI (C 1)), .int (iI (C 2)), .int (iI (C 3)), .int (iI (C 4))]))], st_ws g tr T2, st_ws g sn T3, hi_ws g x h K z, or_ws g o Z, st_ws g be T, st_ws g na V] : List va_W)) s H locs → W p l e (rmm 11 0 0) s m args below meth c H locs 0 0 Q (F0 m 94 ls [])) → W p l e (rmm 11 0 0) s m args below meth c H locs 0 0 Q (F0 m 54 ls []) := by
            intro n
            induction n with
            | zero =>
              intro xd D V hn2 hE2 hlo2 hWD hRD ls H locs hl w kk54
              refine lv_iload hx hb dX5_perform_54 (lv_at hl 3 rfl) ?_
              refine lv_iload_n hx hb dX5_perform_56 rfl (lv_at hl 2 rfl) ?_
              refine ri_icmp_ge (tgt := 94) hx hb dX5_perform_57 (by decide) (by omega) (by omega) (fun c4 => ?_) (fun c4 => ?_)
              · exact kk54 D V hRD (by rw [← hE2]; rfl) (by rw [← hE2]; rfl) (hWD.mono (by rw [show xd = (o_rep (B 6) (B 10 0) (t_at (B 6) (B 10 0) xk.toNat)) from by omega]; have := grow_99 hog.2.2.2.2.1 hog.2.2.2.2.2.1 hog.2.2.2.2.2.2; omega) (by omega)) ls H locs  (lv_sub hl [0, 1] rfl) w
              · exact absurd c4 (by omega)
            | succ n ih54 =>
              intro xd D V hn2 hE2 hlo2 hWD hRD ls H locs hl w kk54
              refine lv_iload hx hb dX5_perform_54 (lv_at hl 3 rfl) ?_
              refine lv_iload_n hx hb dX5_perform_56 rfl (lv_at hl 2 rfl) ?_
              refine ri_icmp_ge (tgt := 94) hx hb dX5_perform_57 (by decide) (by omega) (by omega) (fun c5 => ?_) (fun c5 => ?_)
              · exact absurd c5 (by omega)
              have hgr := grow_le (c := (B 6 (t_at (B 6) (B 10 0) xk.toNat))) (xd := xd) (rp := (o_rep (B 6) (B 10 0) (t_at (B 6) (B 10 0) xk.toNat))) (by omega) (by omega) (by omega) hog.2.2.2.2.2.2
              refine lv_aload_n hx hb dX5_perform_60 rfl (lv_at hl 0 rfl) ?_
              refine lv_iload_n hx hb dX5_perform_61 rfl (lv_at hl 1 rfl) ?_
              refine cb_wV (bc := [[(c0, .inr (5, [.ref (na 0), .ref (be 0), .ref (tr 0), .ref (sn 0), .int (iI (C 0)), .ref (x 0), .ref (o 0), .int (iI (C 1)), .int (iI (C 2)), .int (iI (C 3)), .int (iI (C 4))]))], st_ws g na V, or_ws g o Z]) (br := [st_ws g tr T2, st_ws g sn T3, hi_ws g x h K z, st_ws g be T]) (kb := 7) (As := [.int (iI xk)]) (rest := []) hx hb (hml.trans hl.1.symm) hown hts w lk_RX5_110 (fun sz => t_X5_performOnce l g c0 na be tr sn x o V Z C _ D xk hWD hRD (by omega) (by omega) (by rw [hYr.1]; exact hog1) (by rw [hYr.2.1]; exact hogx) (by omega) (by rw [zy1]; exact hTx) (by rw [zy5]; exact htl) sz) [0, 6, 4, 1, 2, 3, 5] (by decide) rfl rfl rfl (call_recv w (q0 := 0) rfl fX5.1) rfl rfl (Nat.le_of_ble_eq_true rfl) ⟨Nat.le_of_ble_eq_true rfl, Nat.le_of_ble_eq_true rfl⟩ ⟨Nat.le_of_ble_eq_true rfl, Nat.le_of_ble_eq_true rfl⟩ dX5_perform_62 (fun v w1 H locs hr w => ?_)
              rw [hYr.1, hYr.2.1] at hr
              obtain ⟨rfl, T6, rfl, hRT6⟩ := hr
              have w := w.three
              have w : Wd g A (List.flatten ([st_ws g tr T2, st_ws g sn T3, hi_ws g x h K z, st_ws g be T, [(c0, .inr (5, [.ref (na 0), .ref (be 0), .ref (tr 0), .ref (sn 0), .int (iI (C 0)), .ref (x 0), .ref (o 0), .int (iI (C 1)), .int (iI (C 2)), .int (iI (C 3)), .int (iI (C 4))]))], st_ws g na T6, or_ws g o Z] : List va_W)) s H locs := w
              have hor := one_rg (c := (B 6 (t_at (B 6) (B 10 0) xk.toNat))) (x := (o_arg (B 6) (B 10 0) (t_at (B 6) (B 10 0) xk.toNat))) hWD
              refine lv_istore (lv' := [(5, .int (iI (e_one D (B 6 (t_at (B 6) (B 10 0) xk.toNat)) (o_arg (B 6) (B 10 0) (t_at (B 6) (B 10 0) xk.toNat))).1)), (0, .ref c0), (2, .int (iI xk)), (3, .int (iI (o_rep (B 6) (B 10 0) (t_at (B 6) (B 10 0) xk.toNat)))), (4, .int (iI xd))]) hx hb dX5_perform_65 hl (by decide) rfl (fun ls hl => ?_)
              refine lv_iload hx hb dX5_perform_67 (lv_at hl 0 rfl) ?_
              refine ri_if_ge (tgt := 88) hx hb dX5_perform_69 (by decide) (by omega) (fun c7 => ?_) (fun c7 => ?_)
              · refine ri_iinc (k := 4) (z := xd + 1) (lv' := [(4, .int (iI (xd + 1))), (5, .int (iI (e_one D (B 6 (t_at (B 6) (B 10 0) xk.toNat)) (o_arg (B 6) (B 10 0) (t_at (B 6) (B 10 0) xk.toNat))).1)), (0, .ref c0), (2, .int (iI xk)), (3, .int (iI (o_rep (B 6) (B 10 0) (t_at (B 6) (B 10 0) xk.toNat))))]) hx hb dX5_perform_88 hl rfl (by omega) (by decide) rfl (fun ls hl => ?_)
                refine lv_goto (tgt := 54) hx hb dX5_perform_91 (by decide) ?_
                have w := w.blk (bc := [[(c0, .inr (5, [.ref (na 0), .ref (be 0), .ref (tr 0), .ref (sn 0), .int (iI (C 0)), .ref (x 0), .ref (o 0), .int (iI (C 1)), .int (iI (C 2)), .int (iI (C 3)), .int (iI (C 4))]))], st_ws g tr T2, st_ws g sn T3, hi_ws g x h K z, or_ws g o Z, st_ws g be T, st_ws g na T6]) [4, 0, 1, 2, 6, 3, 5] (k := 7) (by decide) rfl rfl
                have w : Wd g A (List.flatten ([[(c0, .inr (5, [.ref (na 0), .ref (be 0), .ref (tr 0), .ref (sn 0), .int (iI (C 0)), .ref (x 0), .ref (o 0), .int (iI (C 1)), .int (iI (C 2)), .int (iI (C 3)), .int (iI (C 4))]))], st_ws g tr T2, st_ws g sn T3, hi_ws g x h K z, or_ws g o Z, st_ws g be T, st_ws g na T6] : List va_W)) s H locs := w
                exact ih54 (xd + 1) ((e_one D (B 6 (t_at (B 6) (B 10 0) xk.toNat)) (o_arg (B 6) (B 10 0) (t_at (B 6) (B 10 0) xk.toNat))).2) (T6) (by omega) ((by rw [← hE2, e_reps_s, if_neg (by omega)])) (by omega) ((by rw [grow_1, ← Int.add_assoc]; exact wf_one hWD hog1 (by omega) (by omega))) (hRT6 (by omega)) ls H locs (lv_sub hl [2, 3, 4, 0] rfl) w kk54
              · refine lv_aload_n hx hb dX5_perform_72 rfl (lv_at hl 1 rfl) ?_
                refine lv_iload_n hx hb dX5_perform_73 rfl (lv_at hl 2 rfl) ?_
                refine lv_iload hx hb dX5_perform_74 (lv_at hl 0 rfl) ?_
                refine lv_iload hx hb dX5_perform_76 (lv_at hl 4 rfl) ?_
                refine cb_wV (bc := [[(c0, .inr (5, [.ref (na 0), .ref (be 0), .ref (tr 0), .ref (sn 0), .int (iI (C 0)), .ref (x 0), .ref (o 0), .int (iI (C 1)), .int (iI (C 2)), .int (iI (C 3)), .int (iI (C 4))]))]]) (br := [st_ws g tr T2, st_ws g sn T3, hi_ws g x h K z, st_ws g be T, st_ws g na T6, or_ws g o Z]) (kb := 7) (As := [.int (iI xk), .int (iI (e_one D (B 6 (t_at (B 6) (B 10 0) xk.toNat)) (o_arg (B 6) (B 10 0) (t_at (B 6) (B 10 0) xk.toNat))).1), .int (iI xd)]) (rest := []) hx hb (hml.trans hl.1.symm) hown hts w lk_RX5_113 (fun sz => t_X5_noteRefusal l g c0 na be tr sn x o C xk (e_one D (B 6 (t_at (B 6) (B 10 0) xk.toNat)) (o_arg (B 6) (B 10 0) (t_at (B 6) (B 10 0) xk.toNat))).1 xd sz) [4, 0, 1, 2, 3, 5, 6] (by decide) rfl rfl rfl (call_recv w (q0 := 128) rfl fX5.1) rfl rfl (Nat.le_of_ble_eq_true rfl) ⟨Nat.le_of_ble_eq_true rfl, Nat.le_of_ble_eq_true rfl⟩ ⟨Nat.le_of_ble_eq_true rfl, Nat.le_of_ble_eq_true rfl⟩ dX5_perform_78 (fun v w1 H locs hr w => ?_)
                obtain ⟨rfl, rfl⟩ := hr
                have w : Wd g A (List.flatten ([st_ws g tr T2, st_ws g sn T3, hi_ws g x h K z, st_ws g be T, st_ws g na T6, or_ws g o Z, [(c0, .inr (5, [.ref (na 0), .ref (be 0), .ref (tr 0), .ref (sn 0), .int (iI (C 0)), .ref (x 0), .ref (o 0), .int (iI 1), .int (iI xk), .int (iI (e_one D (B 6 (t_at (B 6) (B 10 0) xk.toNat)) (o_arg (B 6) (B 10 0) (t_at (B 6) (B 10 0) xk.toNat))).1), .int (iI xd)]))]] : List va_W)) s H locs := w
                refine lv_aload_n hx hb dX5_perform_81 rfl (lv_at hl 1 rfl) ?_
                refine ri_bipush hx hb dX5_perform_82 (by decide) ?_
                refine cb_wV (bc := [[(c0, .inr (5, [.ref (na 0), .ref (be 0), .ref (tr 0), .ref (sn 0), .int (iI (C 0)), .ref (x 0), .ref (o 0), .int (iI 1), .int (iI xk), .int (iI (e_one D (B 6 (t_at (B 6) (B 10 0) xk.toNat)) (o_arg (B 6) (B 10 0) (t_at (B 6) (B 10 0) xk.toNat))).1), .int (iI xd)]))], st_ws g na T6, st_ws g be T, st_ws g tr T2, st_ws g sn T3, hi_ws g x h K z, or_ws g o Z]) (br := []) (kb := 7) (As := [.int (iI (-4))]) (rest := []) hx hb (hml.trans hl.1.symm) hown hts w lk_RX5_64 (fun sz => t_X5_settle l g c0 na be tr sn x h o T6 T T2 T3 K z Z (cf (C 0) 1 xk (e_one D (B 6 (t_at (B 6) (B 10 0) xk.toNat)) (o_arg (B 6) (B 10 0) (t_at (B 6) (B 10 0) xk.toNat))).1 xd) (-4) (fun b h0 h1 => by have q1 := hR.ca h0 h1; have q2 := hW0.bl h0 h1; omega) (by omega) (by omega) sz) [6, 4, 3, 0, 1, 2, 5] (by decide) rfl rfl rfl (call_recv w (q0 := 151) rfl fX5.1) rfl rfl (Nat.le_of_ble_eq_true rfl) ⟨Nat.le_of_ble_eq_true rfl, Nat.le_of_ble_eq_true rfl⟩ ⟨Nat.le_of_ble_eq_true rfl, Nat.le_of_ble_eq_true rfl⟩ dX5_perform_84 (fun v w1 H locs hr w => ?_)
                rcases hr with ⟨rfl, ⟨hq, rfl⟩ | ⟨hq, rfl⟩⟩
                · have w : Wd g A (List.flatten ([[(c0, .inr (5, [.ref (na 0), .ref (be 0), .ref (tr 0), .ref (sn 0), .int (iI (C 0)), .ref (x 0), .ref (o 0), .int (iI 1), .int (iI xk), .int (iI (e_one D (B 6 (t_at (B 6) (B 10 0) xk.toNat)) (o_arg (B 6) (B 10 0) (t_at (B 6) (B 10 0) xk.toNat))).1), .int (iI xd)]))], st_ws g na T, st_ws g be T, st_ws g tr T2, st_ws g sn T3, hi_ws g x h K z, or_ws g o Z] : List va_W)) s H locs := w.one
                  have w : Wd g A (wp_ws g c0 na be tr sn x h o T T T2 T3 K z Z (cf (C 0) 1 xk (e_one D (B 6 (t_at (B 6) (B 10 0) xk.toNat)) (o_arg (B 6) (B 10 0) (t_at (B 6) (B 10 0) xk.toNat))).1 xd)) s H locs := w
                  have e7 : e_reps (B 6 (t_at (B 6) (B 10 0) xk.toNat)) (o_arg (B 6) (B 10 0) (t_at (B 6) (B 10 0) xk.toNat)) (o_rep (B 6) (B 10 0) (t_at (B 6) (B 10 0) xk.toNat)).toNat 0 G = ((e_one D (B 6 (t_at (B 6) (B 10 0) xk.toNat)) (o_arg (B 6) (B 10 0) (t_at (B 6) (B 10 0) xk.toNat))).1, xd, D) := by rw [← hE2, e_reps_s, if_pos (by omega)]
                  have e6 : p_of B = ((e_one D (B 6 (t_at (B 6) (B 10 0) xk.toNat)) (o_arg (B 6) (B 10 0) (t_at (B 6) (B 10 0) xk.toNat))).1, xk, xd, G) := by rw [← hE, e_all_s, e7, if_pos (by show (e_one D (B 6 (t_at (B 6) (B 10 0) xk.toNat)) (o_arg (B 6) (B 10 0) (t_at (B 6) (B 10 0) xk.toNat))).1 < 0; omega), Int.toNat_of_nonneg (by omega)]
                  have e8 : c_perform B = (-4, upT (upT B 7 (up (up (up (B 7) 0 xk) 1 (e_one D (B 6 (t_at (B 6) (B 10 0) xk.toNat)) (o_arg (B 6) (B 10 0) (t_at (B 6) (B 10 0) xk.toNat))).1) 2 xd)) 11 (fun _ => 1)) := by unfold c_perform; rw [if_neg (by omega), e6, if_pos (by show (e_one D (B 6 (t_at (B 6) (B 10 0) xk.toNat)) (o_arg (B 6) (B 10 0) (t_at (B 6) (B 10 0) xk.toNat))).1 < 0; omega)]
                  exact hend.2 _ _ _ _ ⟨_, rfl, rfl⟩ _ _ dX5_perform_87 w (by rw [e8]; exact ⟨rfl, h, T, T, T2, T3, K, z, Z, (cf (C 0) 1 xk (e_one D (B 6 (t_at (B 6) (B 10 0) xk.toNat)) (o_arg (B 6) (B 10 0) (t_at (B 6) (B 10 0) xk.toNat))).1 xd), rfl, ⟨hC.1, hC.2.1, hC.his hk rfl rfl rfl rfl, hC.zz, zy1, zy5, hc0.1, rfl, rfl, rfl, rfl⟩⟩)
                · exact absurd hq (by omega)
          refine L54 (o_rep (B 6) (B 10 0) (t_at (B 6) (B 10 0) xk.toNat)).toNat 0 (G) (Y) (by omega) (rfl) (by omega) (by rw [grow_0, Int.add_zero]; exact hWG) (hRG) ls H locs (lv_sub hl [2, 3, 1, 0] rfl) w (fun D V hRD hDG hD1 hWD ls H locs hl w => ?_)
          refine ri_iinc (k := 1) (z := xk + 1) (lv' := [(2, .int (iI (xk + 1))), (0, .ref c0)]) hx hb dX5_perform_94 hl rfl (by omega) (by decide) rfl (fun ls hl => ?_)
          refine lv_goto (tgt := 31) hx hb dX5_perform_97 (by decide) ?_
          exact ih31 (xk + 1) (D) (V) (by omega) ((by rw [show (xk + 1).toNat = xk.toNat + 1 from by omega, hDG, ← hE, e_all_s, if_neg (by omega)])) (by omega) (hWD.mono (by omega) (by omega)) (hRD) ls H locs (lv_sub hl [1, 0] rfl) w kk31
      refine L31 (t_of B).2.2.toNat 0 (B 0) (T) (by omega) (rfl) (by omega) (by rw [show N + 10000 * (0 : Int) = N from by omega]; exact hW0) (hR) ls H locs (lv_sub hl [2, 0] rfl) w (fun G Y hRG hE ls H locs hl w => ?_)
      refine lv_aload_n hx hb dX5_perform_100 rfl (lv_at hl 0 rfl) ?_
      refine lv_aload_n hx hb dX5_perform_101 rfl (lv_at hl 0 rfl) ?_
      refine ri_get (v := .ref (o 0)) hx hb hts hown w fX5 0 6 (W0_of k_fl_RX5_39 rfl) rfl rfl (by decide) dX5_perform_102 ?_
      refine ri_get (v := .int (iI (t_of B).2.2)) hx hb hts hown w fX3 111 5 (W0_of k_fl_RX5_104 rfl) rfl (congrArg (fun z => some (Value.int (iI z))) (zy6)) (by decide) dX5_perform_105 ?_
      refine cb_wV (bc := [[(c0, .inr (5, [.ref (na 0), .ref (be 0), .ref (tr 0), .ref (sn 0), .int (iI (C 0)), .ref (x 0), .ref (o 0), .int (iI (C 1)), .int (iI (C 2)), .int (iI (C 3)), .int (iI (C 4))]))], st_ws g na Y, st_ws g be T, st_ws g tr T2, st_ws g sn T3, hi_ws g x h K z, or_ws g o Z]) (br := []) (kb := 7) (As := [.int (iI (t_of B).2.2)]) (rest := []) hx hb (hml.trans hl.1.symm) hown hts w lk_RX5_64 (fun sz => t_X5_settle l g c0 na be tr sn x h o Y T T2 T3 K z Z C (t_of B).2.2 (fun b h0 h1 => by have q1 := hR.ca h0 h1; have q2 := hW0.bl h0 h1; omega) (by omega) (by omega) sz) [0, 6, 5, 1, 2, 3, 4] (by decide) rfl rfl rfl (call_recv w (q0 := 0) rfl fX5.1) rfl rfl (Nat.le_of_ble_eq_true rfl) ⟨Nat.le_of_ble_eq_true rfl, Nat.le_of_ble_eq_true rfl⟩ ⟨Nat.le_of_ble_eq_true rfl, Nat.le_of_ble_eq_true rfl⟩ dX5_perform_108 (fun v w1 H locs hr w => ?_)
      rcases hr with ⟨rfl, ⟨hq, rfl⟩ | ⟨hq, rfl⟩⟩
      · exact absurd hq (by omega)
      · have w : Wd g A (List.flatten ([[(c0, .inr (5, [.ref (na 0), .ref (be 0), .ref (tr 0), .ref (sn 0), .int (iI (C 0)), .ref (x 0), .ref (o 0), .int (iI (C 1)), .int (iI (C 2)), .int (iI (C 3)), .int (iI (C 4))]))], st_ws g na Y, st_ws g be T, st_ws g tr T2, st_ws g sn T3, hi_ws g x (rot h) (reK K T) (if 4 < z + 1 then 4 else z + 1), or_ws g o Z] : List va_W)) s H locs := w.one
        have w : Wd g A (wp_ws g c0 na be tr sn x (rot h) o Y T T2 T3 (reK K T) (if 4 < z + 1 then 4 else z + 1) Z C) s H locs := w
        have e8 : c_perform B = ((t_of B).2.2, upT (b_rec B) 0 G) := by unfold c_perform; rw [if_neg (by omega), ← hE]; exact if_neg (by show ¬ ((0 : Int) < 0); omega)
        exact hend.2 _ _ _ _ ⟨_, rfl, rfl⟩ _ _ dX5_perform_111 w (by rw [e8]; exact ⟨rfl, (rot h), Y, T, T2, T3, (reK K T), (if 4 < z + 1 then 4 else z + 1), Z, C, rfl, (show RelC B T T3 K z Z C from ⟨hC.1, hC.2.1, hC.2.2.1, hC.zz, zy1, zy5, hC.c0⟩).rec (by omega) hRG⟩)
    · exact absurd c1 (by omega)
  · have w : Wd g A (List.flatten ([[(c0, .inr (5, [.ref (na 0), .ref (be 0), .ref (tr 0), .ref (sn 0), .int (iI (C 0)), .ref (x 0), .ref (o 0), .int (iI (C 1)), .int (iI (C 2)), .int (iI (C 3)), .int (iI (C 4))]))], st_ws g na T, st_ws g be T1, st_ws g tr T2, st_ws g sn T3, hi_ws g x h K z, or_ws g o Z] : List va_W)) s H locs := w
    refine lv_istore_n (lv' := [(1, .int (iI (t_of B).2.1)), (0, .ref c0)]) hx hb dX5_perform_7 rfl hl (by decide) rfl (fun ls hl => ?_)
    refine lv_iload_n hx hb dX5_perform_8 rfl (lv_at hl 0 rfl) ?_
    refine ri_iconst hx hb dX5_perform_9 ?_
    refine ri_icmp_eq (tgt := 18) hx hb dX5_perform_10 (by decide) (by omega) (by omega) (fun c8 => ?_) (fun c8 => ?_)
    · exact absurd c8 (by omega)
    refine ri_bipush hx hb dX5_perform_13 (by decide) ?_
    refine lv_iload_n hx hb dX5_perform_15 rfl (lv_at hl 0 rfl) ?_
    refine ri_isub (z := -(t_of B).2.1 - 100) hx hb dX5_perform_16 (by omega) ?_
    have w : Wd g A (wp_ws g c0 na be tr sn x h o T T1 T2 T3 K z Z C) s H locs := w
    have e8 : c_perform B = (-100 - (t_of B).2.1, B) := if_pos ht1
    exact hend.2 _ _ _ _ ⟨_, rfl, rfl⟩ _ _ dX5_perform_17 w (by rw [e8]; exact ⟨(congrArg (fun z => some (Value.int (iI z))) (show -(t_of B).2.1 - 100 = -100 - (t_of B).2.1 from by omega)), h, T, T1, T2, T3, K, z, Z, C, rfl, ⟨hC.1, hC.2.1, hC.2.2.1, hC.zz, zy1, zy5, hC.c0⟩⟩)
