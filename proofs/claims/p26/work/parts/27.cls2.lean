set_option maxHeartbeats 4000000 in
set_option maxRecDepth 100000 in
theorem t_X4_firstMarked (l : Launch) (g : GG) (a : Nat → Nat) (N : Int) (F : Int → Int) (T : Nat → Int → Int) (hW : WF N F) (hR : Rel F T) : Met l yX4_firstMarked (wm yX4_firstMarked cX4_firstMarked 5 (some .int)) (rmm 2 0 0) (pR g (st_ws g a T) [.ref (a 0)]) (qR (some (.int (iI (r_first F))))) 0 0 (fun _ => False) := by
  have hfa := first_at hW
  refine met_r (by decide) (Nat.le_of_ble_eq_true rfl) ?_
  intro p e s m args below meth c Q ls hx hb hml hown hts hl w hend
  have hl : lv_has ls 5 [(0, .ref (a 0))] := hl
  refine ri_iconst hx hb dX4_firstMarked_0 ?_
  refine lv_istore_n (lv' := [(1, .int (iI (-1))), (0, .ref (a 0))]) hx hb dX4_firstMarked_1 rfl hl (by decide) rfl (fun ls hl => ?_)
  refine ri_iconst hx hb dX4_firstMarked_2 ?_
  refine lv_istore_n (lv' := [(2, .int (iI (-1))), (1, .int (iI (-1))), (0, .ref (a 0))]) hx hb dX4_firstMarked_3 rfl hl (by decide) rfl (fun ls hl => ?_)
  refine ri_iconst hx hb dX4_firstMarked_4 ?_
  refine lv_istore_n (lv' := [(3, .int (iI 0)), (2, .int (iI (-1))), (1, .int (iI (-1))), (0, .ref (a 0))]) hx hb dX4_firstMarked_5 rfl hl (by decide) rfl (fun ls hl => ?_)
  have L6 : ∀ (n : Nat) (xf xg xk : Int), (xk + n = 6) → (fo n xk (xf, xg) (s_first F) = r_firstA F) → (0 ≤ xk) → (-1 ≤ xg ∧ xg ≤ 40000) → ∀ (ls : Array Slot), lv_has ls 5 [(0, .ref (a 0)), (1, .int (iI xf)), (2, .int (iI xg)), (3, .int (iI xk))] → (∀ (ls : Array Slot), lv_has ls 5 [(1, .int (iI (r_first F)))] → W p l e (rmm 2 0 0) s m args below meth c s.heap [] 0 0 Q (F0 m 44 ls [])) → W p l e (rmm 2 0 0) s m args below meth c s.heap [] 0 0 Q (F0 m 6 ls []) := by
    intro n
    induction n with
    | zero =>
      intro xf xg xk hn hX hlo hg ls hl kk6
      refine lv_iload_n hx hb dX4_firstMarked_6 rfl (lv_at hl 3 rfl) ?_
      refine ri_bipush hx hb dX4_firstMarked_7 (by decide) ?_
      refine ri_icmp_ge (tgt := 44) hx hb dX4_firstMarked_9 (by decide) (by omega) (by omega) (fun c1 => ?_) (fun c1 => ?_)
      · have e0 : xf = r_first F := (congrArg Prod.fst hX).trans hfa
        rw [e0] at hl
        exact kk6  ls  (lv_sub hl [1] rfl)
      · exact absurd c1 (by omega)
    | succ n ih6 =>
      intro xf xg xk hn hX hlo hg ls hl kk6
      refine lv_iload_n hx hb dX4_firstMarked_6 rfl (lv_at hl 3 rfl) ?_
      refine ri_bipush hx hb dX4_firstMarked_7 (by decide) ?_
      refine ri_icmp_ge (tgt := 44) hx hb dX4_firstMarked_9 (by decide) (by omega) (by omega) (fun c2 => ?_) (fun c2 => ?_)
      · exact absurd c2 (by omega)
      refine lv_aload_n hx hb dX4_firstMarked_12 rfl (lv_at hl 0 rfl) ?_
      refine lv_iload_n hx hb dX4_firstMarked_13 rfl (lv_at hl 3 rfl) ?_
      refine call_rV (As := [.int (iI xk)]) (rest := []) hx hb (hml.trans hl.1.symm) hown hts w lk_RX4_130 (t_X4_isMarked l g a _ F T xk (hW) (hR) (by omega)) [0, 1, 2, 3, 4, 5, 6, 7, 8, 9, 10, 11, 12, 13, 14, 15, 16, 17] rfl rfl (call_recv w (q0 := 0) rfl fX4.1) rfl rfl (Nat.le_of_ble_eq_true rfl) ⟨Nat.le_of_ble_eq_true rfl, Nat.le_of_ble_eq_true rfl⟩ ⟨Nat.le_of_ble_eq_true rfl, Nat.le_of_ble_eq_true rfl⟩ dX4_firstMarked_14 ?_
      refine ri_ifb_eq (tgt := 38) hx hb dX4_firstMarked_17 (by decide) (fun c3 => ?_) (fun c3 => ?_)
      · refine ri_iinc (k := 3) (z := xk + 1) (lv' := [(3, .int (iI (xk + 1))), (0, .ref (a 0)), (1, .int (iI xf)), (2, .int (iI xg))]) hx hb dX4_firstMarked_38 hl rfl (by omega) (by decide) rfl (fun ls hl => ?_)
        refine lv_goto (tgt := 6) hx hb dX4_firstMarked_41 (by decide) ?_
        exact ih6 xf xg (xk + 1)  (by omega) (fo_s hX (by unfold s_first; first | (rw [if_pos ⟨by assumption, by omega⟩]; done) | (rw [if_neg (by rintro ⟨h1, h2⟩; first | omega | exact absurd h1 (by assumption))]))) (by omega) (by omega) ls (lv_sub hl [1, 2, 3, 0] rfl) kk6
      · refine lv_aload_n hx hb dX4_firstMarked_20 rfl (lv_at hl 0 rfl) ?_
        refine lv_iload_n hx hb dX4_firstMarked_21 rfl (lv_at hl 3 rfl) ?_
        refine call_rV (As := [.int (iI xk)]) (rest := []) hx hb (hml.trans hl.1.symm) hown hts w lk_RX4_118 (t_X4_hundredths l g a _ F T xk (hW) (hR) (by omega)) [0, 1, 2, 3, 4, 5, 6, 7, 8, 9, 10, 11, 12, 13, 14, 15, 16, 17] rfl rfl (call_recv w (q0 := 0) rfl fX4.1) rfl rfl (Nat.le_of_ble_eq_true rfl) ⟨Nat.le_of_ble_eq_true rfl, Nat.le_of_ble_eq_true rfl⟩ ⟨Nat.le_of_ble_eq_true rfl, Nat.le_of_ble_eq_true rfl⟩ dX4_firstMarked_22 ?_
        have r4 := hund_rg hW (b := xk) (by omega) (by omega)
        refine lv_istore (lv' := [(4, .int (iI (r_hund F xk))), (0, .ref (a 0)), (1, .int (iI xf)), (2, .int (iI xg)), (3, .int (iI xk))]) hx hb dX4_firstMarked_25 hl (by decide) rfl (fun ls hl => ?_)
        refine lv_iload hx hb dX4_firstMarked_27 (lv_at hl 0 rfl) ?_
        refine lv_iload_n hx hb dX4_firstMarked_29 rfl (lv_at hl 3 rfl) ?_
        refine ri_icmp_le (tgt := 38) hx hb dX4_firstMarked_30 (by decide) (by omega) (by omega) (fun c5 => ?_) (fun c5 => ?_)
        · refine ri_iinc (k := 4) (z := xk + 1) (lv' := [(3, .int (iI (xk + 1))), (4, .int (iI (r_hund F xk))), (0, .ref (a 0)), (1, .int (iI xf)), (2, .int (iI xg))]) hx hb dX4_firstMarked_38 hl rfl (by omega) (by decide) rfl (fun ls hl => ?_)
          refine lv_goto (tgt := 6) hx hb dX4_firstMarked_41 (by decide) ?_
          exact ih6 xf xg (xk + 1)  (by omega) (fo_s hX (by unfold s_first; first | (rw [if_pos ⟨by assumption, by omega⟩]; done) | (rw [if_neg (by rintro ⟨h1, h2⟩; first | omega | exact absurd h1 (by assumption))]))) (by omega) (by omega) ls (lv_sub hl [2, 3, 4, 0] rfl) kk6
        · refine lv_iload hx hb dX4_firstMarked_33 (lv_at hl 0 rfl) ?_
          refine lv_istore_n (lv' := [(2, .int (iI (r_hund F xk))), (4, .int (iI (r_hund F xk))), (0, .ref (a 0)), (1, .int (iI xf)), (3, .int (iI xk))]) hx hb dX4_firstMarked_35 rfl hl (by decide) rfl (fun ls hl => ?_)
          refine lv_iload_n hx hb dX4_firstMarked_36 rfl (lv_at hl 4 rfl) ?_
          refine lv_istore_n (lv' := [(1, .int (iI xk)), (2, .int (iI (r_hund F xk))), (4, .int (iI (r_hund F xk))), (0, .ref (a 0)), (3, .int (iI xk))]) hx hb dX4_firstMarked_37 rfl hl (by decide) rfl (fun ls hl => ?_)
          refine ri_iinc (k := 4) (z := xk + 1) (lv' := [(3, .int (iI (xk + 1))), (1, .int (iI xk)), (2, .int (iI (r_hund F xk))), (4, .int (iI (r_hund F xk))), (0, .ref (a 0))]) hx hb dX4_firstMarked_38 hl rfl (by omega) (by decide) rfl (fun ls hl => ?_)
          refine lv_goto (tgt := 6) hx hb dX4_firstMarked_41 (by decide) ?_
          exact ih6 xk (r_hund F xk) (xk + 1)  (by omega) (fo_s hX (by unfold s_first; first | (rw [if_pos ⟨by assumption, by omega⟩]; done) | (rw [if_neg (by rintro ⟨h1, h2⟩; first | omega | exact absurd h1 (by assumption))]))) (by omega) (by omega) ls (lv_sub hl [4, 1, 2, 0] rfl) kk6
  refine L6 6 (-1) (-1) 0  (by omega) (rfl) (by omega) (by omega) ls (lv_sub hl [3, 2, 1, 0] rfl) (fun ls hl => ?_)
  refine lv_iload_n hx hb dX4_firstMarked_44 rfl (lv_at hl 0 rfl) ?_
  have r6 := first_rg F
  exact hend.2 _ rfl ⟨_, rfl, rfl⟩ _ _ dX4_firstMarked_45

set_option maxHeartbeats 4000000 in
set_option maxRecDepth 100000 in
theorem t_X4_addedBy (l : Launch) (g : GG) (a : Nat → Nat) (F : Int → Int) (T : Nat → Int → Int) (r : Int) (k : Int) (hB : Bd F) (hR : Rel F T) (hk0 : 0 ≤ k ∧ k < 48) (h1 : 0 ≤ r ∧ r < 48) : Met l yX4_addedBy (wm yX4_addedBy cX4_addedBy 5 (some .int)) (rmm 1 0 0) (pR g (st_ws g a T) [.ref (a 0), .int (iI r), .int (iI k)]) (qR (some (.int (iI (r_weaker F k r))))) 0 0 (fun _ => False) := by
  refine met_r (by decide) (Nat.le_of_ble_eq_true rfl) ?_
  intro p e s m args below meth c Q ls hx hb hml hown hts hl w hend
  have hl : lv_has ls 5 [(0, .ref (a 0)), (1, .int (iI r)), (2, .int (iI k))] := hl
  refine lv_iload_n hx hb dX4_addedBy_0 rfl (lv_at hl 1 rfl) ?_
  refine lv_iload_n hx hb dX4_addedBy_1 rfl (lv_at hl 2 rfl) ?_
  refine ri_icmp_ne (tgt := 7) hx hb dX4_addedBy_2 (by decide) (by omega) (by omega) (fun c1 => ?_) (fun c1 => ?_)
  · refine lv_iload_n hx hb dX4_addedBy_7 rfl (lv_at hl 1 rfl) ?_
    refine lv_iload_n hx hb dX4_addedBy_8 rfl (lv_at hl 2 rfl) ?_
    refine ri_isub (z := r - k) hx hb dX4_addedBy_9 rfl ?_
    refine ri_abs (z := (if 0 ≤ r - k then r - k else 0 - (r - k))) hx hb (hml.trans hl.1.symm) hown hts m_RX4_133 ⟨Nat.le_of_ble_eq_true rfl, Nat.le_of_ble_eq_true rfl, Nat.le_of_ble_eq_true rfl, Nat.le_of_ble_eq_true rfl⟩ (by omega) rfl dX4_addedBy_10 ?_
    refine lv_istore_n (lv' := [(3, .int (iI (if 0 ≤ r - k then r - k else 0 - (r - k)))), (0, .ref (a 0)), (1, .int (iI r)), (2, .int (iI k))]) hx hb dX4_addedBy_13 rfl hl (by decide) rfl (fun ls hl => ?_)
    refine lv_iload_n hx hb dX4_addedBy_14 rfl (lv_at hl 0 rfl) ?_
    refine ri_iconst hx hb dX4_addedBy_15 ?_
    refine ri_icmp_ne (tgt := 23) hx hb dX4_addedBy_16 (by decide) (by omega) (by omega) (fun c2 => ?_) (fun c2 => ?_)
    · refine lv_iload_n hx hb dX4_addedBy_23 rfl (lv_at hl 0 rfl) ?_
      refine ri_iconst hx hb dX4_addedBy_24 ?_
      refine ri_icmp_ne (tgt := 32) hx hb dX4_addedBy_25 (by decide) (by omega) (by omega) (fun c3 => ?_) (fun c3 => ?_)
      · refine ri_iconst hx hb dX4_addedBy_32 ?_
        refine lv_istore (lv' := [(4, .int (iI 1)), (3, .int (iI (if 0 ≤ r - k then r - k else 0 - (r - k)))), (0, .ref (a 0)), (1, .int (iI r)), (2, .int (iI k))]) hx hb dX4_addedBy_33 hl (by decide) rfl (fun ls hl => ?_)
        refine lv_aload_n hx hb dX4_addedBy_35 rfl (lv_at hl 2 rfl) ?_
        refine ri_get (v := .ref (a 1)) hx hb hts hown w fX4 0 0 (W0_of k_fl_RX4_9 rfl) rfl rfl (by decide) dX4_addedBy_36 ?_
        refine lv_iload_n hx hb dX4_addedBy_39 rfl (lv_at hl 4 rfl) ?_
        refine ri_bipush hx hb dX4_addedBy_40 (by decide) ?_
        refine ri_idiv (z := (k / 8)) hx hb dX4_addedBy_42 (by omega) (by omega) rfl ?_
        refine ri_iald (f := T 1) (v := F (4 * (k / 8) + 41)) hx hb w 1 rfl (by omega) ((hR.kd (by omega) (by omega)).trans (congrArg _ (by omega))) dX4_addedBy_43 (by omega) ?_
        have r4 := hB.bd (4 * (k / 8) + 41)
        refine ri_iconst hx hb dX4_addedBy_44 ?_
        refine ri_icmp_ne (tgt := 55) hx hb dX4_addedBy_45 (by decide) (by omega) (by omega) (fun c5 => ?_) (fun c5 => ?_)
        · refine lv_iload hx hb dX4_addedBy_55 (lv_at hl 0 rfl) ?_
          exact hend.2 _ (congrArg (fun z => some (Value.int (iI z))) (show r_weaker F k r = 1 from by unfold r_weaker; unfold r_far; omega)) ⟨_, rfl, rfl⟩ _ _ dX4_addedBy_57
        · refine ri_iconst hx hb dX4_addedBy_48 ?_
          refine lv_iload hx hb dX4_addedBy_49 (lv_at hl 0 rfl) ?_
          refine ri_imul (z := 2) hx hb dX4_addedBy_51 (by omega) ?_
          refine lv_goto (tgt := 57) hx hb dX4_addedBy_52 (by decide) ?_
          exact hend.2 _ (congrArg (fun z => some (Value.int (iI z))) (show r_weaker F k r = 2 from by unfold r_weaker; unfold r_far; omega)) ⟨_, rfl, rfl⟩ _ _ dX4_addedBy_57
      · refine ri_iconst hx hb dX4_addedBy_28 ?_
        refine lv_goto (tgt := 33) hx hb dX4_addedBy_29 (by decide) ?_
        refine lv_istore (lv' := [(4, .int (iI 2)), (3, .int (iI (if 0 ≤ r - k then r - k else 0 - (r - k)))), (0, .ref (a 0)), (1, .int (iI r)), (2, .int (iI k))]) hx hb dX4_addedBy_33 hl (by decide) rfl (fun ls hl => ?_)
        refine lv_aload_n hx hb dX4_addedBy_35 rfl (lv_at hl 2 rfl) ?_
        refine ri_get (v := .ref (a 1)) hx hb hts hown w fX4 0 0 (W0_of k_fl_RX4_9 rfl) rfl rfl (by decide) dX4_addedBy_36 ?_
        refine lv_iload_n hx hb dX4_addedBy_39 rfl (lv_at hl 4 rfl) ?_
        refine ri_bipush hx hb dX4_addedBy_40 (by decide) ?_
        refine ri_idiv (z := (k / 8)) hx hb dX4_addedBy_42 (by omega) (by omega) rfl ?_
        refine ri_iald (f := T 1) (v := F (4 * (k / 8) + 41)) hx hb w 1 rfl (by omega) ((hR.kd (by omega) (by omega)).trans (congrArg _ (by omega))) dX4_addedBy_43 (by omega) ?_
        have r6 := hB.bd (4 * (k / 8) + 41)
        refine ri_iconst hx hb dX4_addedBy_44 ?_
        refine ri_icmp_ne (tgt := 55) hx hb dX4_addedBy_45 (by decide) (by omega) (by omega) (fun c7 => ?_) (fun c7 => ?_)
        · refine lv_iload hx hb dX4_addedBy_55 (lv_at hl 0 rfl) ?_
          exact hend.2 _ (congrArg (fun z => some (Value.int (iI z))) (show r_weaker F k r = 2 from by unfold r_weaker; unfold r_far; omega)) ⟨_, rfl, rfl⟩ _ _ dX4_addedBy_57
        · refine ri_iconst hx hb dX4_addedBy_48 ?_
          refine lv_iload hx hb dX4_addedBy_49 (lv_at hl 0 rfl) ?_
          refine ri_imul (z := 4) hx hb dX4_addedBy_51 (by omega) ?_
          refine lv_goto (tgt := 57) hx hb dX4_addedBy_52 (by decide) ?_
          exact hend.2 _ (congrArg (fun z => some (Value.int (iI z))) (show r_weaker F k r = 4 from by unfold r_weaker; unfold r_far; omega)) ⟨_, rfl, rfl⟩ _ _ dX4_addedBy_57
    · refine ri_iconst hx hb dX4_addedBy_19 ?_
      refine lv_goto (tgt := 33) hx hb dX4_addedBy_20 (by decide) ?_
      refine lv_istore (lv' := [(4, .int (iI 4)), (3, .int (iI (if 0 ≤ r - k then r - k else 0 - (r - k)))), (0, .ref (a 0)), (1, .int (iI r)), (2, .int (iI k))]) hx hb dX4_addedBy_33 hl (by decide) rfl (fun ls hl => ?_)
      refine lv_aload_n hx hb dX4_addedBy_35 rfl (lv_at hl 2 rfl) ?_
      refine ri_get (v := .ref (a 1)) hx hb hts hown w fX4 0 0 (W0_of k_fl_RX4_9 rfl) rfl rfl (by decide) dX4_addedBy_36 ?_
      refine lv_iload_n hx hb dX4_addedBy_39 rfl (lv_at hl 4 rfl) ?_
      refine ri_bipush hx hb dX4_addedBy_40 (by decide) ?_
      refine ri_idiv (z := (k / 8)) hx hb dX4_addedBy_42 (by omega) (by omega) rfl ?_
      refine ri_iald (f := T 1) (v := F (4 * (k / 8) + 41)) hx hb w 1 rfl (by omega) ((hR.kd (by omega) (by omega)).trans (congrArg _ (by omega))) dX4_addedBy_43 (by omega) ?_
      have r8 := hB.bd (4 * (k / 8) + 41)
      refine ri_iconst hx hb dX4_addedBy_44 ?_
      refine ri_icmp_ne (tgt := 55) hx hb dX4_addedBy_45 (by decide) (by omega) (by omega) (fun c9 => ?_) (fun c9 => ?_)
      · refine lv_iload hx hb dX4_addedBy_55 (lv_at hl 0 rfl) ?_
        exact hend.2 _ (congrArg (fun z => some (Value.int (iI z))) (show r_weaker F k r = 4 from by unfold r_weaker; unfold r_far; omega)) ⟨_, rfl, rfl⟩ _ _ dX4_addedBy_57
      · refine ri_iconst hx hb dX4_addedBy_48 ?_
        refine lv_iload hx hb dX4_addedBy_49 (lv_at hl 0 rfl) ?_
        refine ri_imul (z := 8) hx hb dX4_addedBy_51 (by omega) ?_
        refine lv_goto (tgt := 57) hx hb dX4_addedBy_52 (by decide) ?_
        exact hend.2 _ (congrArg (fun z => some (Value.int (iI z))) (show r_weaker F k r = 8 from by unfold r_weaker; unfold r_far; omega)) ⟨_, rfl, rfl⟩ _ _ dX4_addedBy_57
  · refine ri_iconst hx hb dX4_addedBy_5 ?_
    exact hend.2 _ (congrArg (fun z => some (Value.int (iI z))) (show r_weaker F k r = 1 from by unfold r_weaker; unfold r_far; omega)) ⟨_, rfl, rfl⟩ _ _ dX4_addedBy_6

set_option maxHeartbeats 4000000 in
set_option maxRecDepth 100000 in
theorem t_X4_readsLeft (l : Launch) (g : GG) (a : Nat → Nat) (N : Int) (F : Int → Int) (T : Nat → Int → Int) (r : Int) (hW : WF N F) (hR : Rel F T) (h1 : 0 ≤ r ∧ r < 48) (hpg : 0 ≤ F (3 * r + 65)) : Met l yX4_readsLeft (wm yX4_readsLeft cX4_readsLeft 7 (some .int)) (rmm 2 0 0) (pR g (st_ws g a T) [.ref (a 0), .int (iI r)]) (qR (some (.int (iI (r_left F r))))) 0 0 (fun _ => False) := by
  have hle := left2_eq hW h1 hpg
  refine met_r (by decide) (Nat.le_of_ble_eq_true rfl) ?_
  intro p e s m args below meth c Q ls hx hb hml hown hts hl w hend
  have hl : lv_has ls 7 [(0, .ref (a 0)), (1, .int (iI r))] := hl
  refine lv_iload_n hx hb dX4_readsLeft_0 rfl (lv_at hl 1 rfl) ?_
  refine lv_iload_n hx hb dX4_readsLeft_1 rfl (lv_at hl 1 rfl) ?_
  refine ri_bipush hx hb dX4_readsLeft_2 (by decide) ?_
  refine ri_irem (z := (r % 8)) hx hb dX4_readsLeft_4 (by omega) (by omega) rfl ?_
  refine ri_isub (z := 8 * (r / 8)) hx hb dX4_readsLeft_5 (by omega) ?_
  refine lv_istore_n (lv' := [(2, .int (iI (8 * (r / 8)))), (0, .ref (a 0)), (1, .int (iI r))]) hx hb dX4_readsLeft_6 rfl hl (by decide) rfl (fun ls hl => ?_)
  refine lv_aload_n hx hb dX4_readsLeft_7 rfl (lv_at hl 1 rfl) ?_
  refine lv_iload_n hx hb dX4_readsLeft_8 rfl (lv_at hl 2 rfl) ?_
  refine ri_bipush hx hb dX4_readsLeft_9 (by decide) ?_
  refine ri_idiv (z := (r / 8)) hx hb dX4_readsLeft_11 (by omega) (by omega) rfl ?_
  refine call_rV (As := [.int (iI (r / 8))]) (rest := []) hx hb (hml.trans hl.1.symm) hown hts w lk_RX4_115 (t_X4_bears l g a _ F T (r / 8) (hW) (hR) (by omega)) [0, 1, 2, 3, 4, 5, 6, 7, 8, 9, 10, 11, 12, 13, 14, 15, 16, 17] rfl rfl (call_recv w (q0 := 0) rfl fX4.1) rfl rfl (Nat.le_of_ble_eq_true rfl) ⟨Nat.le_of_ble_eq_true rfl, Nat.le_of_ble_eq_true rfl⟩ ⟨Nat.le_of_ble_eq_true rfl, Nat.le_of_ble_eq_true rfl⟩ dX4_readsLeft_12 ?_
  have r1 := bears_rg hW (b := (r / 8)) (by omega) (by omega)
  refine lv_istore_n (lv' := [(3, .int (iI (r_bears F (r / 8)))), (2, .int (iI (8 * (r / 8)))), (0, .ref (a 0)), (1, .int (iI r))]) hx hb dX4_readsLeft_15 rfl hl (by decide) rfl (fun ls hl => ?_)
  refine lv_iload_n hx hb dX4_readsLeft_16 rfl (lv_at hl 0 rfl) ?_
  refine lv_istore (lv' := [(4, .int (iI (r_bears F (r / 8)))), (3, .int (iI (r_bears F (r / 8)))), (2, .int (iI (8 * (r / 8)))), (0, .ref (a 0)), (1, .int (iI r))]) hx hb dX4_readsLeft_17 hl (by decide) rfl (fun ls hl => ?_)
  refine lv_iload_n hx hb dX4_readsLeft_19 rfl (lv_at hl 2 rfl) ?_
  refine lv_istore (lv' := [(5, .int (iI (8 * (r / 8)))), (4, .int (iI (r_bears F (r / 8)))), (3, .int (iI (r_bears F (r / 8)))), (2, .int (iI (8 * (r / 8)))), (0, .ref (a 0)), (1, .int (iI r))]) hx hb dX4_readsLeft_20 hl (by decide) rfl (fun ls hl => ?_)
  have L22 : ∀ (n : Nat) (xn xk : Int), (xk + n = 8 * (r / 8) + 8) → (fo n xk xn (s_left2 F r) = r_left F r) → (8 * (r / 8) ≤ xk) → (-200000000 ≤ xn ∧ xn ≤ 200000000) → ∀ (ls : Array Slot), lv_has ls 7 [(0, .ref (a 0)), (1, .int (iI r)), (2, .int (iI (8 * (r / 8)))), (3, .int (iI (r_bears F (r / 8)))), (4, .int (iI xn)), (5, .int (iI xk))] → (∀ (hrx79 : -200000000 ≤ r_left F r ∧ r_left F r ≤ 200000000) (ls : Array Slot), lv_has ls 7 [(4, .int (iI (r_left F r)))] → W p l e (rmm 2 0 0) s m args below meth c s.heap [] 0 0 Q (F0 m 79 ls [])) → W p l e (rmm 2 0 0) s m args below meth c s.heap [] 0 0 Q (F0 m 22 ls []) := by
    intro n
    induction n with
    | zero =>
      intro xn xk hn hX hlo hrg ls hl kk22
      refine lv_iload hx hb dX4_readsLeft_22 (lv_at hl 5 rfl) ?_
      refine lv_iload_n hx hb dX4_readsLeft_24 rfl (lv_at hl 2 rfl) ?_
      refine ri_bipush hx hb dX4_readsLeft_25 (by decide) ?_
      refine ri_iadd (z := 8 * (r / 8) + 8) hx hb dX4_readsLeft_27 rfl ?_
      refine ri_icmp_ge (tgt := 79) hx hb dX4_readsLeft_28 (by decide) (by omega) (by omega) (fun c2 => ?_) (fun c2 => ?_)
      · have e0 : xn = r_left F r := hX
        rw [e0] at hl
        exact kk22 (by have hz : xn = r_left F r := hX; rw [hz] at hrg; exact hrg) ls  (lv_sub hl [4] rfl)
      · exact absurd c2 (by omega)
    | succ n ih22 =>
      intro xn xk hn hX hlo hrg ls hl kk22
      have hp := hW.pl (k := xk) (by omega) (by omega)
      rw [show xk / 8 = r / 8 from by omega] at hp
      refine lv_iload hx hb dX4_readsLeft_22 (lv_at hl 5 rfl) ?_
      refine lv_iload_n hx hb dX4_readsLeft_24 rfl (lv_at hl 2 rfl) ?_
      refine ri_bipush hx hb dX4_readsLeft_25 (by decide) ?_
      refine ri_iadd (z := 8 * (r / 8) + 8) hx hb dX4_readsLeft_27 rfl ?_
      refine ri_icmp_ge (tgt := 79) hx hb dX4_readsLeft_28 (by decide) (by omega) (by omega) (fun c3 => ?_) (fun c3 => ?_)
      · exact absurd c3 (by omega)
      refine lv_aload_n hx hb dX4_readsLeft_31 rfl (lv_at hl 0 rfl) ?_
      refine ri_get (v := .ref (a 6)) hx hb hts hown w fX4 0 5 (W0_of k_fl_RX4_28 rfl) rfl rfl (by decide) dX4_readsLeft_32 ?_
      refine lv_iload hx hb dX4_readsLeft_35 (lv_at hl 5 rfl) ?_
      refine ri_iald (f := T 6) (v := F (3 * xk + 65)) hx hb w 6 rfl (by omega) ((hR.he (by omega) (by omega)).trans (congrArg _ (by omega))) dX4_readsLeft_37 (by omega) ?_
      have r4 := hW.bd (3 * xk + 65)
      refine ri_if_lt (tgt := 73) hx hb dX4_readsLeft_38 (by decide) (by omega) (fun c5 => ?_) (fun c5 => ?_)
      · refine ri_iinc (k := 5) (z := xk + 1) (lv' := [(5, .int (iI (xk + 1))), (0, .ref (a 0)), (1, .int (iI r)), (2, .int (iI (8 * (r / 8)))), (3, .int (iI (r_bears F (r / 8)))), (4, .int (iI xn))]) hx hb dX4_readsLeft_73 hl rfl (by omega) (by decide) rfl (fun ls hl => ?_)
        refine lv_goto (tgt := 22) hx hb dX4_readsLeft_76 (by decide) ?_
        exact ih22 xn (xk + 1)  (by omega) (fo_s hX (by unfold s_left2; first | rw [if_neg (by omega)] | (rw [if_pos (by omega)]; try rw [show (if 1 < r_weaker F xk r then r_weaker F xk r else 1) = r_weaker F xk r from by omega]))) (by omega) (by omega) ls (lv_sub hl [1, 2, 3, 4, 5, 0] rfl) kk22
      · refine ri_iconst hx hb dX4_readsLeft_41 ?_
        refine lv_aload_n hx hb dX4_readsLeft_42 rfl (lv_at hl 0 rfl) ?_
        refine lv_iload_n hx hb dX4_readsLeft_43 rfl (lv_at hl 1 rfl) ?_
        refine lv_iload hx hb dX4_readsLeft_44 (lv_at hl 5 rfl) ?_
        refine call_rV (As := [.int (iI r), .int (iI xk)]) (rest := [.int (iI 1)]) hx hb (hml.trans hl.1.symm) hown hts w lk_RX4_136 (t_X4_addedBy l g a F T r xk (hW.b) (hR) (by omega) (by omega)) [0, 1, 2, 3, 4, 5, 6, 7, 8, 9, 10, 11, 12, 13, 14, 15, 16, 17] rfl rfl (call_recv w (q0 := 0) rfl fX4.1) rfl rfl (Nat.le_of_ble_eq_true rfl) ⟨Nat.le_of_ble_eq_true rfl, Nat.le_of_ble_eq_true rfl⟩ ⟨Nat.le_of_ble_eq_true rfl, Nat.le_of_ble_eq_true rfl⟩ dX4_readsLeft_46 ?_
        have r6 := weaker_rg F xk r
        refine ri_max (z := (if 1 < r_weaker F xk r then r_weaker F xk r else 1)) hx hb (hml.trans hl.1.symm) hown hts m_RX4_121 ⟨Nat.le_of_ble_eq_true rfl, Nat.le_of_ble_eq_true rfl, Nat.le_of_ble_eq_true rfl, Nat.le_of_ble_eq_true rfl⟩ (by omega) (by omega) rfl dX4_readsLeft_49 ?_
        refine lv_istore (lv' := [(6, .int (iI (if 1 < r_weaker F xk r then r_weaker F xk r else 1))), (0, .ref (a 0)), (1, .int (iI r)), (2, .int (iI (8 * (r / 8)))), (3, .int (iI (r_bears F (r / 8)))), (4, .int (iI xn)), (5, .int (iI xk))]) hx hb dX4_readsLeft_52 hl (by decide) rfl (fun ls hl => ?_)
        refine lv_iload hx hb dX4_readsLeft_54 (lv_at hl 5 rfl) ?_
        refine lv_iload_n hx hb dX4_readsLeft_56 rfl (lv_at hl 4 rfl) ?_
        refine lv_aload_n hx hb dX4_readsLeft_57 rfl (lv_at hl 1 rfl) ?_
        refine ri_get (v := .ref (a 7)) hx hb hts hown w fX4 0 6 (W0_of k_fl_RX4_31 rfl) rfl rfl (by decide) dX4_readsLeft_58 ?_
        refine lv_iload hx hb dX4_readsLeft_61 (lv_at hl 6 rfl) ?_
        refine ri_iald (f := T 7) (v := F (3 * xk + 66)) hx hb w 7 rfl (by omega) ((hR.we (by omega) (by omega)).trans (congrArg _ (by omega))) dX4_readsLeft_63 (by omega) ?_
        have r7 := hW.bd (3 * xk + 66)
        refine ri_isub (z := r_bears F (r / 8) - F (3 * xk + 66)) hx hb dX4_readsLeft_64 rfl ?_
        refine lv_iload hx hb dX4_readsLeft_65 (lv_at hl 0 rfl) ?_
        refine ri_idiv (z := ((r_bears F (r / 8) - F (3 * xk + 66)) / (if 1 < r_weaker F xk r then r_weaker F xk r else 1))) hx hb dX4_readsLeft_67 (by omega) (by omega) rfl ?_
        have r8 := div_rg (a := r_bears F (r / 8) - F (3 * xk + 66)) (b := (if 1 < r_weaker F xk r then r_weaker F xk r else 1)) (by omega) (by omega)
        refine ri_min (z := (if ((r_bears F (r / 8) - F (3 * xk + 66)) / (if 1 < r_weaker F xk r then r_weaker F xk r else 1)) < xn then ((r_bears F (r / 8) - F (3 * xk + 66)) / (if 1 < r_weaker F xk r then r_weaker F xk r else 1)) else xn)) hx hb (hml.trans hl.1.symm) hown hts m_RX4_139 ⟨Nat.le_of_ble_eq_true rfl, Nat.le_of_ble_eq_true rfl, Nat.le_of_ble_eq_true rfl, Nat.le_of_ble_eq_true rfl⟩ (by omega) (by omega) rfl dX4_readsLeft_68 ?_
        refine lv_istore (lv' := [(4, .int (iI (if ((r_bears F (r / 8) - F (3 * xk + 66)) / (if 1 < r_weaker F xk r then r_weaker F xk r else 1)) < xn then ((r_bears F (r / 8) - F (3 * xk + 66)) / (if 1 < r_weaker F xk r then r_weaker F xk r else 1)) else xn))), (6, .int (iI (if 1 < r_weaker F xk r then r_weaker F xk r else 1))), (0, .ref (a 0)), (1, .int (iI r)), (2, .int (iI (8 * (r / 8)))), (3, .int (iI (r_bears F (r / 8)))), (5, .int (iI xk))]) hx hb dX4_readsLeft_71 hl (by decide) rfl (fun ls hl => ?_)
        refine ri_iinc (k := 6) (z := xk + 1) (lv' := [(5, .int (iI (xk + 1))), (4, .int (iI (if ((r_bears F (r / 8) - F (3 * xk + 66)) / (if 1 < r_weaker F xk r then r_weaker F xk r else 1)) < xn then ((r_bears F (r / 8) - F (3 * xk + 66)) / (if 1 < r_weaker F xk r then r_weaker F xk r else 1)) else xn))), (6, .int (iI (if 1 < r_weaker F xk r then r_weaker F xk r else 1))), (0, .ref (a 0)), (1, .int (iI r)), (2, .int (iI (8 * (r / 8)))), (3, .int (iI (r_bears F (r / 8))))]) hx hb dX4_readsLeft_73 hl rfl (by omega) (by decide) rfl (fun ls hl => ?_)
        refine lv_goto (tgt := 22) hx hb dX4_readsLeft_76 (by decide) ?_
        exact ih22 (if ((r_bears F (r / 8) - F (3 * xk + 66)) / (if 1 < r_weaker F xk r then r_weaker F xk r else 1)) < xn then ((r_bears F (r / 8) - F (3 * xk + 66)) / (if 1 < r_weaker F xk r then r_weaker F xk r else 1)) else xn) (xk + 1)  (by omega) (fo_s hX (by unfold s_left2; first | rw [if_neg (by omega)] | (rw [if_pos (by omega)]; try rw [show (if 1 < r_weaker F xk r then r_weaker F xk r else 1) = r_weaker F xk r from by omega]))) (by omega) (by omega) ls (lv_sub hl [3, 4, 5, 6, 1, 0] rfl) kk22
  refine L22 8 (r_bears F (r / 8)) (8 * (r / 8))  (by omega) (hle) (by omega) (by omega) ls (lv_sub hl [4, 5, 3, 2, 1, 0] rfl) (fun hrx79 ls hl => ?_)
  refine lv_iload hx hb dX4_readsLeft_79 (lv_at hl 0 rfl) ?_
  have r9 := left_rg F r
  exact hend.2 _ rfl ⟨_, rfl, rfl⟩ _ _ dX4_readsLeft_81

set_option maxHeartbeats 4000000 in
set_option maxRecDepth 100000 in
theorem t_X4_mayRead (l : Launch) (g : GG) (a : Nat → Nat) (N : Int) (F : Int → Int) (T : Nat → Int → Int) (r : Int) (hW : WF N F) (hR : Rel F T) (h1 : 0 ≤ r ∧ r < 48) : Met l yX4_mayRead (wm yX4_mayRead cX4_mayRead 5 (some .boolean)) (rmm 2 0 0) (pR g (st_ws g a T) [.ref (a 0), .int (iI r)]) (qR (some (.int (iI (if r_left F r ≠ 0 then 1 else 0))))) 0 0 (fun _ => False) := by
  have hno := no_iff hW h1
  refine met_r (by decide) (Nat.le_of_ble_eq_true rfl) ?_
  intro p e s m args below meth c Q ls hx hb hml hown hts hl w hend
  have hl : lv_has ls 5 [(0, .ref (a 0)), (1, .int (iI r))] := hl
  refine lv_iload_n hx hb dX4_mayRead_0 rfl (lv_at hl 1 rfl) ?_
  refine lv_iload_n hx hb dX4_mayRead_1 rfl (lv_at hl 1 rfl) ?_
  refine ri_bipush hx hb dX4_mayRead_2 (by decide) ?_
  refine ri_irem (z := (r % 8)) hx hb dX4_mayRead_4 (by omega) (by omega) rfl ?_
  refine ri_isub (z := 8 * (r / 8)) hx hb dX4_mayRead_5 (by omega) ?_
  refine lv_istore_n (lv' := [(2, .int (iI (8 * (r / 8)))), (0, .ref (a 0)), (1, .int (iI r))]) hx hb dX4_mayRead_6 rfl hl (by decide) rfl (fun ls hl => ?_)
  refine lv_aload_n hx hb dX4_mayRead_7 rfl (lv_at hl 1 rfl) ?_
  refine lv_iload_n hx hb dX4_mayRead_8 rfl (lv_at hl 2 rfl) ?_
  refine ri_bipush hx hb dX4_mayRead_9 (by decide) ?_
  refine ri_idiv (z := (r / 8)) hx hb dX4_mayRead_11 (by omega) (by omega) rfl ?_
  refine call_rV (As := [.int (iI (r / 8))]) (rest := []) hx hb (hml.trans hl.1.symm) hown hts w lk_RX4_115 (t_X4_bears l g a _ F T (r / 8) (hW) (hR) (by omega)) [0, 1, 2, 3, 4, 5, 6, 7, 8, 9, 10, 11, 12, 13, 14, 15, 16, 17] rfl rfl (call_recv w (q0 := 0) rfl fX4.1) rfl rfl (Nat.le_of_ble_eq_true rfl) ⟨Nat.le_of_ble_eq_true rfl, Nat.le_of_ble_eq_true rfl⟩ ⟨Nat.le_of_ble_eq_true rfl, Nat.le_of_ble_eq_true rfl⟩ dX4_mayRead_12 ?_
  have r1 := bears_rg hW (b := (r / 8)) (by omega) (by omega)
  refine lv_istore_n (lv' := [(3, .int (iI (r_bears F (r / 8)))), (2, .int (iI (8 * (r / 8)))), (0, .ref (a 0)), (1, .int (iI r))]) hx hb dX4_mayRead_15 rfl hl (by decide) rfl (fun ls hl => ?_)
  refine lv_iload_n hx hb dX4_mayRead_16 rfl (lv_at hl 1 rfl) ?_
  refine lv_istore (lv' := [(4, .int (iI (8 * (r / 8)))), (3, .int (iI (r_bears F (r / 8)))), (2, .int (iI (8 * (r / 8)))), (0, .ref (a 0)), (1, .int (iI r))]) hx hb dX4_mayRead_17 hl (by decide) rfl (fun ls hl => ?_)
  have L19 : ∀ (n : Nat) (xk : Int), (xk + n = 8 * (r / 8) + 8) → (an n xk (p_no F r) = r_no F r) → (8 * (r / 8) ≤ xk) → ∀ (ls : Array Slot), lv_has ls 5 [(0, .ref (a 0)), (1, .int (iI r)), (2, .int (iI (8 * (r / 8)))), (3, .int (iI (r_bears F (r / 8)))), (4, .int (iI xk))] → (∀ (hZ : ¬ r_no F r = true) (ls : Array Slot), lv_has ls 5 [] → W p l e (rmm 2 0 0) s m args below meth c s.heap [] 0 0 Q (F0 m 65 ls [])) → W p l e (rmm 2 0 0) s m args below meth c s.heap [] 0 0 Q (F0 m 19 ls []) := by
    intro n
    induction n with
    | zero =>
      intro xk hn hX hlo ls hl kk19
      refine lv_iload hx hb dX4_mayRead_19 (lv_at hl 4 rfl) ?_
      refine lv_iload_n hx hb dX4_mayRead_21 rfl (lv_at hl 2 rfl) ?_
      refine ri_bipush hx hb dX4_mayRead_22 (by decide) ?_
      refine ri_iadd (z := 8 * (r / 8) + 8) hx hb dX4_mayRead_24 rfl ?_
      refine ri_icmp_ge (tgt := 65) hx hb dX4_mayRead_25 (by decide) (by omega) (by omega) (fun c2 => ?_) (fun c2 => ?_)
      · exact kk19 (by rw [← hX]; simp [an]) ls  (lv_sub hl [] rfl)
      · exact absurd c2 (by omega)
    | succ n ih19 =>
      intro xk hn hX hlo ls hl kk19
      have hp := hW.pl (k := xk) (by omega) (by omega)
      refine lv_iload hx hb dX4_mayRead_19 (lv_at hl 4 rfl) ?_
      refine lv_iload_n hx hb dX4_mayRead_21 rfl (lv_at hl 2 rfl) ?_
      refine ri_bipush hx hb dX4_mayRead_22 (by decide) ?_
      refine ri_iadd (z := 8 * (r / 8) + 8) hx hb dX4_mayRead_24 rfl ?_
      refine ri_icmp_ge (tgt := 65) hx hb dX4_mayRead_25 (by decide) (by omega) (by omega) (fun c3 => ?_) (fun c3 => ?_)
      · exact absurd c3 (by omega)
      refine lv_aload_n hx hb dX4_mayRead_28 rfl (lv_at hl 0 rfl) ?_
      refine ri_get (v := .ref (a 6)) hx hb hts hown w fX4 0 5 (W0_of k_fl_RX4_28 rfl) rfl rfl (by decide) dX4_mayRead_29 ?_
      refine lv_iload hx hb dX4_mayRead_32 (lv_at hl 4 rfl) ?_
      refine ri_iald (f := T 6) (v := F (3 * xk + 65)) hx hb w 6 rfl (by omega) ((hR.he (by omega) (by omega)).trans (congrArg _ (by omega))) dX4_mayRead_34 (by omega) ?_
      have r4 := hW.bd (3 * xk + 65)
      refine ri_if_lt (tgt := 59) hx hb dX4_mayRead_35 (by decide) (by omega) (fun c5 => ?_) (fun c5 => ?_)
      · refine ri_iinc (k := 4) (z := xk + 1) (lv' := [(4, .int (iI (xk + 1))), (0, .ref (a 0)), (1, .int (iI r)), (2, .int (iI (8 * (r / 8)))), (3, .int (iI (r_bears F (r / 8))))]) hx hb dX4_mayRead_59 hl rfl (by omega) (by decide) rfl (fun ls hl => ?_)
        refine lv_goto (tgt := 19) hx hb dX4_mayRead_62 (by decide) ?_
        exact ih19 (xk + 1)  (by omega) (an_f hX (by simp only [p_no, decide_eq_true_eq]; omega)) (by omega) ls (lv_sub hl [1, 2, 3, 4, 0] rfl) kk19
      · refine lv_aload_n hx hb dX4_mayRead_38 rfl (lv_at hl 0 rfl) ?_
        refine ri_get (v := .ref (a 7)) hx hb hts hown w fX4 0 6 (W0_of k_fl_RX4_31 rfl) rfl rfl (by decide) dX4_mayRead_39 ?_
        refine lv_iload hx hb dX4_mayRead_42 (lv_at hl 4 rfl) ?_
        refine ri_iald (f := T 7) (v := F (3 * xk + 66)) hx hb w 7 rfl (by omega) ((hR.we (by omega) (by omega)).trans (congrArg _ (by omega))) dX4_mayRead_44 (by omega) ?_
        have r6 := hW.bd (3 * xk + 66)
        refine lv_aload_n hx hb dX4_mayRead_45 rfl (lv_at hl 0 rfl) ?_
        refine lv_iload_n hx hb dX4_mayRead_46 rfl (lv_at hl 1 rfl) ?_
        refine lv_iload hx hb dX4_mayRead_47 (lv_at hl 4 rfl) ?_
        refine call_rV (As := [.int (iI r), .int (iI xk)]) (rest := [.int (iI (F (3 * xk + 66)))]) hx hb (hml.trans hl.1.symm) hown hts w lk_RX4_136 (t_X4_addedBy l g a F T r xk (hW.b) (hR) (by omega) (by omega)) [0, 1, 2, 3, 4, 5, 6, 7, 8, 9, 10, 11, 12, 13, 14, 15, 16, 17] rfl rfl (call_recv w (q0 := 0) rfl fX4.1) rfl rfl (Nat.le_of_ble_eq_true rfl) ⟨Nat.le_of_ble_eq_true rfl, Nat.le_of_ble_eq_true rfl⟩ ⟨Nat.le_of_ble_eq_true rfl, Nat.le_of_ble_eq_true rfl⟩ dX4_mayRead_49 ?_
        have r7 := weaker_rg F xk r
        refine ri_iadd (z := F (3 * xk + 66) + r_weaker F xk r) hx hb dX4_mayRead_52 rfl ?_
        refine lv_iload_n hx hb dX4_mayRead_53 rfl (lv_at hl 3 rfl) ?_
        refine ri_icmp_le (tgt := 59) hx hb dX4_mayRead_54 (by decide) (by omega) (by omega) (fun c8 => ?_) (fun c8 => ?_)
        · refine ri_iinc (k := 4) (z := xk + 1) (lv' := [(4, .int (iI (xk + 1))), (0, .ref (a 0)), (1, .int (iI r)), (2, .int (iI (8 * (r / 8)))), (3, .int (iI (r_bears F (r / 8))))]) hx hb dX4_mayRead_59 hl rfl (by omega) (by decide) rfl (fun ls hl => ?_)
          refine lv_goto (tgt := 19) hx hb dX4_mayRead_62 (by decide) ?_
          exact ih19 (xk + 1)  (by omega) (an_f hX (by simp only [p_no, decide_eq_true_eq]; omega)) (by omega) ls (lv_sub hl [1, 2, 3, 4, 0] rfl) kk19
        · refine ri_iconst hx hb dX4_mayRead_57 ?_
          exact hend.2 _ (congrArg (fun z => some (Value.int (iI z))) (show (if r_left F r ≠ 0 then 1 else 0) = 0 from by exact if_neg (fun hq => hq (hno.mp (an_t hX (by simp only [p_no, decide_eq_true_eq]; omega)))))) ⟨_, rfl, (nz (by omega))⟩ _ _ dX4_mayRead_58
  refine L19 8 (8 * (r / 8))  (by omega) (rfl) (by omega) ls (lv_sub hl [3, 4, 2, 1, 0] rfl) (fun hZ ls hl => ?_)
  refine ri_iconst hx hb dX4_mayRead_65 ?_
  exact hend.2 _ (congrArg (fun z => some (Value.int (iI z))) (show (if r_left F r ≠ 0 then 1 else 0) = 1 from by exact if_pos (fun hq => hZ (hno.mpr hq)))) ⟨_, rfl, (nz (by omega))⟩ _ _ dX4_mayRead_66

set_option maxHeartbeats 4000000 in
set_option maxRecDepth 100000 in
theorem t_X4_blockWithRoom (l : Launch) (g : GG) (a : Nat → Nat) (N : Int) (F : Int → Int) (T : Nat → Int → Int) (hW : WF N F) (hR : Rel F T) : Met l yX4_blockWithRoom (wm yX4_blockWithRoom cX4_blockWithRoom 4 (some .int)) (rmm 1 0 0) (pR g (st_ws g a T) [.ref (a 0)]) (qR (some (.int (iI (r_target F))))) 0 0 (fun _ => False) := by
  have ho := hW.op
  have ho2 : F 6 ≠ -5 → r_cnt F (r_open F) (-1) = r_cnt F (F 6) (-1) := fun hq => by unfold r_open; rw [if_neg hq]
  refine met_r (by decide) (Nat.le_of_ble_eq_true rfl) ?_
  intro p e s m args below meth c Q ls hx hb hml hown hts hl w hend
  have hl : lv_has ls 4 [(0, .ref (a 0))] := hl
  refine lv_aload_n hx hb dX4_blockWithRoom_0 rfl (lv_at hl 0 rfl) ?_
  refine ri_get (v := .int (iI (r_open F))) hx hb hts hown w fX4 0 13 (W0_of k_fl_RX4_60 rfl) rfl (congrArg (fun z => some (Value.int (iI z))) (hR.op)) (by decide) dX4_blockWithRoom_1 ?_
  have r1 := open_rg hW
  refine call_rN (As := [.int (iI (r_open F))]) (rest := []) hx hb (hml.trans hl.1.symm) hown hts w lk_RX4_142 (t_X5_isBlock l g (r_open F) (by omega)) [] rfl rfl rfl rfl (Nat.le_of_ble_eq_true rfl) ⟨Nat.le_of_ble_eq_true rfl, Nat.le_of_ble_eq_true rfl⟩ ⟨Nat.le_of_ble_eq_true rfl, Nat.le_of_ble_eq_true rfl⟩ dX4_blockWithRoom_4 ?_
  refine ri_ifb_eq (tgt := 29) hx hb dX4_blockWithRoom_7 (by decide) (fun c2 => ?_) (fun c2 => ?_)
  · refine ri_iconst hx hb dX4_blockWithRoom_29 ?_
    refine lv_istore_n (lv' := [(1, .int (iI (-1))), (0, .ref (a 0))]) hx hb dX4_blockWithRoom_30 rfl hl (by decide) rfl (fun ls hl => ?_)
    refine ri_iconst hx hb dX4_blockWithRoom_31 ?_
    refine lv_istore_n (lv' := [(2, .int (iI 0)), (1, .int (iI (-1))), (0, .ref (a 0))]) hx hb dX4_blockWithRoom_32 rfl hl (by decide) rfl (fun ls hl => ?_)
    refine ri_iconst hx hb dX4_blockWithRoom_33 ?_
    refine lv_istore_n (lv' := [(3, .int (iI 0)), (2, .int (iI 0)), (1, .int (iI (-1))), (0, .ref (a 0))]) hx hb dX4_blockWithRoom_34 rfl hl (by decide) rfl (fun ls hl => ?_)
    have L35 : ∀ (n : Nat) (xf xe xk : Int) (mm : Int), (xk + n = 6) → (fo n xk mm (s_best F) = r_best F) → (0 ≤ xk) → (xf = if mm = -5 then -1 else mm) → (mm ≠ -5 → xe = F (4 * mm + 42)) → (mm = -5 ∨ 0 ≤ mm ∧ mm < 6) → (-200000000 ≤ xe ∧ xe ≤ 200000000) → ∀ (ls : Array Slot), lv_has ls 4 [(0, .ref (a 0)), (1, .int (iI xf)), (2, .int (iI xe)), (3, .int (iI xk))] → (∀ (ls : Array Slot), lv_has ls 4 [(1, .int (iI (if r_best F = -5 then -1 else r_best F)))] → W p l e (rmm 1 0 0) s m args below meth c s.heap [] 0 0 Q (F0 m 79 ls [])) → W p l e (rmm 1 0 0) s m args below meth c s.heap [] 0 0 Q (F0 m 35 ls []) := by
      intro n
      induction n with
      | zero =>
        intro xf xe xk mm hn hX hlo hf he hm hxe ls hl kk35
        refine lv_iload_n hx hb dX4_blockWithRoom_35 rfl (lv_at hl 3 rfl) ?_
        refine ri_bipush hx hb dX4_blockWithRoom_36 (by decide) ?_
        refine ri_icmp_ge (tgt := 79) hx hb dX4_blockWithRoom_38 (by decide) (by omega) (by omega) (fun c3 => ?_) (fun c3 => ?_)
        · have e0 : mm = r_best F := hX
          rw [hf, e0] at hl
          exact kk35  ls  (lv_sub hl [1] rfl)
        · exact absurd c3 (by omega)
      | succ n ih35 =>
        intro xf xe xk mm hn hX hlo hf he hm hxe ls hl kk35
        refine lv_iload_n hx hb dX4_blockWithRoom_35 rfl (lv_at hl 3 rfl) ?_
        refine ri_bipush hx hb dX4_blockWithRoom_36 (by decide) ?_
        refine ri_icmp_ge (tgt := 79) hx hb dX4_blockWithRoom_38 (by decide) (by omega) (by omega) (fun c4 => ?_) (fun c4 => ?_)
        · exact absurd c4 (by omega)
        refine lv_aload_n hx hb dX4_blockWithRoom_41 rfl (lv_at hl 0 rfl) ?_
        refine lv_iload_n hx hb dX4_blockWithRoom_42 rfl (lv_at hl 3 rfl) ?_
        refine call_rV (As := [.int (iI xk)]) (rest := []) hx hb (hml.trans hl.1.symm) hown hts w lk_RX4_101 (t_X4_isFree l g a _ F T xk (hW) (hR) (by omega)) [0, 1, 2, 3, 4, 5, 6, 7, 8, 9, 10, 11, 12, 13, 14, 15, 16, 17] rfl rfl (call_recv w (q0 := 0) rfl fX4.1) rfl rfl (Nat.le_of_ble_eq_true rfl) ⟨Nat.le_of_ble_eq_true rfl, Nat.le_of_ble_eq_true rfl⟩ ⟨Nat.le_of_ble_eq_true rfl, Nat.le_of_ble_eq_true rfl⟩ dX4_blockWithRoom_43 ?_
        refine ri_ifb_eq (tgt := 73) hx hb dX4_blockWithRoom_46 (by decide) (fun c5 => ?_) (fun c5 => ?_)
        · refine ri_iinc (k := 3) (z := xk + 1) (lv' := [(3, .int (iI (xk + 1))), (0, .ref (a 0)), (1, .int (iI xf)), (2, .int (iI xe))]) hx hb dX4_blockWithRoom_73 hl rfl (by omega) (by decide) rfl (fun ls hl => ?_)
          refine lv_goto (tgt := 35) hx hb dX4_blockWithRoom_76 (by decide) ?_
          exact ih35 xf xe (xk + 1) (mm) (by omega) (fo_s hX (by unfold s_best; first | (rw [if_pos ⟨by assumption, by omega⟩]) | (rw [if_neg (by rintro ⟨h1, h2⟩; first | omega | exact absurd h1 (by assumption))]))) (by omega) (by omega) (he) (by omega) (by omega) ls (lv_sub hl [1, 2, 3, 0] rfl) kk35
        · refine lv_iload_n hx hb dX4_blockWithRoom_49 rfl (lv_at hl 1 rfl) ?_
          refine ri_iconst hx hb dX4_blockWithRoom_50 ?_
          refine ri_icmp_eq (tgt := 64) hx hb dX4_blockWithRoom_51 (by decide) (by omega) (by omega) (fun c6 => ?_) (fun c6 => ?_)
          · refine lv_iload_n hx hb dX4_blockWithRoom_64 rfl (lv_at hl 3 rfl) ?_
            refine lv_istore_n (lv' := [(1, .int (iI xk)), (0, .ref (a 0)), (2, .int (iI xe)), (3, .int (iI xk))]) hx hb dX4_blockWithRoom_65 rfl hl (by decide) rfl (fun ls hl => ?_)
            refine lv_aload_n hx hb dX4_blockWithRoom_66 rfl (lv_at hl 1 rfl) ?_
            refine ri_get (v := .ref (a 2)) hx hb hts hown w fX4 0 1 (W0_of k_fl_RX4_15 rfl) rfl rfl (by decide) dX4_blockWithRoom_67 ?_
            refine lv_iload_n hx hb dX4_blockWithRoom_70 rfl (lv_at hl 3 rfl) ?_
            refine ri_iald (f := T 2) (v := F (4 * xk + 42)) hx hb w 2 rfl (by omega) ((hR.er (by omega) (by omega)).trans (congrArg _ (by omega))) dX4_blockWithRoom_71 (by omega) ?_
            have r7 := hW.bd (4 * xk + 42)
            refine lv_istore_n (lv' := [(2, .int (iI (F (4 * xk + 42)))), (1, .int (iI xk)), (0, .ref (a 0)), (3, .int (iI xk))]) hx hb dX4_blockWithRoom_72 rfl hl (by decide) rfl (fun ls hl => ?_)
            refine ri_iinc (k := 3) (z := xk + 1) (lv' := [(3, .int (iI (xk + 1))), (2, .int (iI (F (4 * xk + 42)))), (1, .int (iI xk)), (0, .ref (a 0))]) hx hb dX4_blockWithRoom_73 hl rfl (by omega) (by decide) rfl (fun ls hl => ?_)
            refine lv_goto (tgt := 35) hx hb dX4_blockWithRoom_76 (by decide) ?_
            exact ih35 xk (F (4 * xk + 42)) (xk + 1) (xk) (by omega) (fo_s hX (by unfold s_best; first | (rw [if_pos ⟨by assumption, by omega⟩]) | (rw [if_neg (by rintro ⟨h1, h2⟩; first | omega | exact absurd h1 (by assumption))]))) (by omega) (by omega) (fun _ => rfl) (by omega) (by omega) ls (lv_sub hl [3, 2, 1, 0] rfl) kk35
          · refine lv_aload_n hx hb dX4_blockWithRoom_54 rfl (lv_at hl 0 rfl) ?_
            refine ri_get (v := .ref (a 2)) hx hb hts hown w fX4 0 1 (W0_of k_fl_RX4_15 rfl) rfl rfl (by decide) dX4_blockWithRoom_55 ?_
            refine lv_iload_n hx hb dX4_blockWithRoom_58 rfl (lv_at hl 3 rfl) ?_
            refine ri_iald (f := T 2) (v := F (4 * xk + 42)) hx hb w 2 rfl (by omega) ((hR.er (by omega) (by omega)).trans (congrArg _ (by omega))) dX4_blockWithRoom_59 (by omega) ?_
            have r8 := hW.bd (4 * xk + 42)
            refine lv_iload_n hx hb dX4_blockWithRoom_60 rfl (lv_at hl 2 rfl) ?_
            refine ri_icmp_ge (tgt := 73) hx hb dX4_blockWithRoom_61 (by decide) (by omega) (by omega) (fun c9 => ?_) (fun c9 => ?_)
            · refine ri_iinc (k := 3) (z := xk + 1) (lv' := [(3, .int (iI (xk + 1))), (0, .ref (a 0)), (1, .int (iI xf)), (2, .int (iI xe))]) hx hb dX4_blockWithRoom_73 hl rfl (by omega) (by decide) rfl (fun ls hl => ?_)
              refine lv_goto (tgt := 35) hx hb dX4_blockWithRoom_76 (by decide) ?_
              exact ih35 xf xe (xk + 1) (mm) (by omega) (fo_s hX (by unfold s_best; first | (rw [if_pos ⟨by assumption, by omega⟩]) | (rw [if_neg (by rintro ⟨h1, h2⟩; first | omega | exact absurd h1 (by assumption))]))) (by omega) (by omega) (he) (by omega) (by omega) ls (lv_sub hl [1, 2, 3, 0] rfl) kk35
            · refine lv_iload_n hx hb dX4_blockWithRoom_64 rfl (lv_at hl 3 rfl) ?_
              refine lv_istore_n (lv' := [(1, .int (iI xk)), (0, .ref (a 0)), (2, .int (iI xe)), (3, .int (iI xk))]) hx hb dX4_blockWithRoom_65 rfl hl (by decide) rfl (fun ls hl => ?_)
              refine lv_aload_n hx hb dX4_blockWithRoom_66 rfl (lv_at hl 1 rfl) ?_
              refine ri_get (v := .ref (a 2)) hx hb hts hown w fX4 0 1 (W0_of k_fl_RX4_15 rfl) rfl rfl (by decide) dX4_blockWithRoom_67 ?_
              refine lv_iload_n hx hb dX4_blockWithRoom_70 rfl (lv_at hl 3 rfl) ?_
              refine ri_iald (f := T 2) (v := F (4 * xk + 42)) hx hb w 2 rfl (by omega) ((hR.er (by omega) (by omega)).trans (congrArg _ (by omega))) dX4_blockWithRoom_71 (by omega) ?_
              refine lv_istore_n (lv' := [(2, .int (iI (F (4 * xk + 42)))), (1, .int (iI xk)), (0, .ref (a 0)), (3, .int (iI xk))]) hx hb dX4_blockWithRoom_72 rfl hl (by decide) rfl (fun ls hl => ?_)
              refine ri_iinc (k := 3) (z := xk + 1) (lv' := [(3, .int (iI (xk + 1))), (2, .int (iI (F (4 * xk + 42)))), (1, .int (iI xk)), (0, .ref (a 0))]) hx hb dX4_blockWithRoom_73 hl rfl (by omega) (by decide) rfl (fun ls hl => ?_)
              refine lv_goto (tgt := 35) hx hb dX4_blockWithRoom_76 (by decide) ?_
              exact ih35 xk (F (4 * xk + 42)) (xk + 1) (xk) (by omega) (fo_s hX (by unfold s_best; first | (rw [if_pos ⟨by assumption, by omega⟩]) | (rw [if_neg (by rintro ⟨h1, h2⟩; first | omega | exact absurd h1 (by assumption))]))) (by omega) (by omega) (fun _ => rfl) (by omega) (by omega) ls (lv_sub hl [3, 2, 1, 0] rfl) kk35
    refine L35 6 (-1) 0 0 (-5) (by omega) (rfl) (by omega) (by omega) (fun hq => absurd rfl hq) (by omega) (by omega) ls (lv_sub hl [3, 2, 1, 0] rfl) (fun ls hl => ?_)
    refine lv_iload_n hx hb dX4_blockWithRoom_79 rfl (lv_at hl 0 rfl) ?_
    exact hend.2 _ (congrArg (fun z => some (Value.int (iI z))) (show r_target F = (if r_best F = -5 then -1 else r_best F) from by unfold r_target; rw [if_neg (by omega)])) ⟨_, rfl, rfl⟩ _ _ dX4_blockWithRoom_80
  · refine lv_aload_n hx hb dX4_blockWithRoom_10 rfl (lv_at hl 0 rfl) ?_
    refine ri_get (v := .ref (a 5)) hx hb hts hown w fX4 0 4 (W0_of k_fl_RX4_25 rfl) rfl rfl (by decide) dX4_blockWithRoom_11 ?_
    refine lv_aload_n hx hb dX4_blockWithRoom_14 rfl (lv_at hl 0 rfl) ?_
    refine ri_get (v := .int (iI (r_open F))) hx hb hts hown w fX4 0 13 (W0_of k_fl_RX4_60 rfl) rfl (congrArg (fun z => some (Value.int (iI z))) (hR.op)) (by decide) dX4_blockWithRoom_15 ?_
    refine ri_iald (f := T 5) (v := 8 - r_cnt F (r_open F) (-1)) hx hb w 5 rfl (by omega) (hR.us (by omega) (by omega)) dX4_blockWithRoom_18 (by omega) ?_
    have r10 := cnt_rg F (r_open F) (-1)
    refine ri_bipush hx hb dX4_blockWithRoom_19 (by decide) ?_
    refine ri_icmp_ge (tgt := 29) hx hb dX4_blockWithRoom_21 (by decide) (by omega) (by omega) (fun c11 => ?_) (fun c11 => ?_)
    · refine ri_iconst hx hb dX4_blockWithRoom_29 ?_
      refine lv_istore_n (lv' := [(1, .int (iI (-1))), (0, .ref (a 0))]) hx hb dX4_blockWithRoom_30 rfl hl (by decide) rfl (fun ls hl => ?_)
      refine ri_iconst hx hb dX4_blockWithRoom_31 ?_
      refine lv_istore_n (lv' := [(2, .int (iI 0)), (1, .int (iI (-1))), (0, .ref (a 0))]) hx hb dX4_blockWithRoom_32 rfl hl (by decide) rfl (fun ls hl => ?_)
      refine ri_iconst hx hb dX4_blockWithRoom_33 ?_
      refine lv_istore_n (lv' := [(3, .int (iI 0)), (2, .int (iI 0)), (1, .int (iI (-1))), (0, .ref (a 0))]) hx hb dX4_blockWithRoom_34 rfl hl (by decide) rfl (fun ls hl => ?_)
      have L35 : ∀ (n : Nat) (xf xe xk : Int) (mm : Int), (xk + n = 6) → (fo n xk mm (s_best F) = r_best F) → (0 ≤ xk) → (xf = if mm = -5 then -1 else mm) → (mm ≠ -5 → xe = F (4 * mm + 42)) → (mm = -5 ∨ 0 ≤ mm ∧ mm < 6) → (-200000000 ≤ xe ∧ xe ≤ 200000000) → ∀ (ls : Array Slot), lv_has ls 4 [(0, .ref (a 0)), (1, .int (iI xf)), (2, .int (iI xe)), (3, .int (iI xk))] → (∀ (ls : Array Slot), lv_has ls 4 [(1, .int (iI (if r_best F = -5 then -1 else r_best F)))] → W p l e (rmm 1 0 0) s m args below meth c s.heap [] 0 0 Q (F0 m 79 ls [])) → W p l e (rmm 1 0 0) s m args below meth c s.heap [] 0 0 Q (F0 m 35 ls []) := by
        intro n
        induction n with
        | zero =>
          intro xf xe xk mm hn hX hlo hf he hm hxe ls hl kk35
          refine lv_iload_n hx hb dX4_blockWithRoom_35 rfl (lv_at hl 3 rfl) ?_
          refine ri_bipush hx hb dX4_blockWithRoom_36 (by decide) ?_
          refine ri_icmp_ge (tgt := 79) hx hb dX4_blockWithRoom_38 (by decide) (by omega) (by omega) (fun c12 => ?_) (fun c12 => ?_)
          · have e0 : mm = r_best F := hX
            rw [hf, e0] at hl
            exact kk35  ls  (lv_sub hl [1] rfl)
          · exact absurd c12 (by omega)
        | succ n ih35 =>
          intro xf xe xk mm hn hX hlo hf he hm hxe ls hl kk35
          refine lv_iload_n hx hb dX4_blockWithRoom_35 rfl (lv_at hl 3 rfl) ?_
          refine ri_bipush hx hb dX4_blockWithRoom_36 (by decide) ?_
          refine ri_icmp_ge (tgt := 79) hx hb dX4_blockWithRoom_38 (by decide) (by omega) (by omega) (fun c13 => ?_) (fun c13 => ?_)
          · exact absurd c13 (by omega)
          refine lv_aload_n hx hb dX4_blockWithRoom_41 rfl (lv_at hl 0 rfl) ?_
          refine lv_iload_n hx hb dX4_blockWithRoom_42 rfl (lv_at hl 3 rfl) ?_
          refine call_rV (As := [.int (iI xk)]) (rest := []) hx hb (hml.trans hl.1.symm) hown hts w lk_RX4_101 (t_X4_isFree l g a _ F T xk (hW) (hR) (by omega)) [0, 1, 2, 3, 4, 5, 6, 7, 8, 9, 10, 11, 12, 13, 14, 15, 16, 17] rfl rfl (call_recv w (q0 := 0) rfl fX4.1) rfl rfl (Nat.le_of_ble_eq_true rfl) ⟨Nat.le_of_ble_eq_true rfl, Nat.le_of_ble_eq_true rfl⟩ ⟨Nat.le_of_ble_eq_true rfl, Nat.le_of_ble_eq_true rfl⟩ dX4_blockWithRoom_43 ?_
          refine ri_ifb_eq (tgt := 73) hx hb dX4_blockWithRoom_46 (by decide) (fun c14 => ?_) (fun c14 => ?_)
          · refine ri_iinc (k := 3) (z := xk + 1) (lv' := [(3, .int (iI (xk + 1))), (0, .ref (a 0)), (1, .int (iI xf)), (2, .int (iI xe))]) hx hb dX4_blockWithRoom_73 hl rfl (by omega) (by decide) rfl (fun ls hl => ?_)
            refine lv_goto (tgt := 35) hx hb dX4_blockWithRoom_76 (by decide) ?_
            exact ih35 xf xe (xk + 1) (mm) (by omega) (fo_s hX (by unfold s_best; first | (rw [if_pos ⟨by assumption, by omega⟩]) | (rw [if_neg (by rintro ⟨h1, h2⟩; first | omega | exact absurd h1 (by assumption))]))) (by omega) (by omega) (he) (by omega) (by omega) ls (lv_sub hl [1, 2, 3, 0] rfl) kk35
          · refine lv_iload_n hx hb dX4_blockWithRoom_49 rfl (lv_at hl 1 rfl) ?_
            refine ri_iconst hx hb dX4_blockWithRoom_50 ?_
            refine ri_icmp_eq (tgt := 64) hx hb dX4_blockWithRoom_51 (by decide) (by omega) (by omega) (fun c15 => ?_) (fun c15 => ?_)
            · refine lv_iload_n hx hb dX4_blockWithRoom_64 rfl (lv_at hl 3 rfl) ?_
              refine lv_istore_n (lv' := [(1, .int (iI xk)), (0, .ref (a 0)), (2, .int (iI xe)), (3, .int (iI xk))]) hx hb dX4_blockWithRoom_65 rfl hl (by decide) rfl (fun ls hl => ?_)
              refine lv_aload_n hx hb dX4_blockWithRoom_66 rfl (lv_at hl 1 rfl) ?_
              refine ri_get (v := .ref (a 2)) hx hb hts hown w fX4 0 1 (W0_of k_fl_RX4_15 rfl) rfl rfl (by decide) dX4_blockWithRoom_67 ?_
              refine lv_iload_n hx hb dX4_blockWithRoom_70 rfl (lv_at hl 3 rfl) ?_
              refine ri_iald (f := T 2) (v := F (4 * xk + 42)) hx hb w 2 rfl (by omega) ((hR.er (by omega) (by omega)).trans (congrArg _ (by omega))) dX4_blockWithRoom_71 (by omega) ?_
              have r16 := hW.bd (4 * xk + 42)
              refine lv_istore_n (lv' := [(2, .int (iI (F (4 * xk + 42)))), (1, .int (iI xk)), (0, .ref (a 0)), (3, .int (iI xk))]) hx hb dX4_blockWithRoom_72 rfl hl (by decide) rfl (fun ls hl => ?_)
              refine ri_iinc (k := 3) (z := xk + 1) (lv' := [(3, .int (iI (xk + 1))), (2, .int (iI (F (4 * xk + 42)))), (1, .int (iI xk)), (0, .ref (a 0))]) hx hb dX4_blockWithRoom_73 hl rfl (by omega) (by decide) rfl (fun ls hl => ?_)
              refine lv_goto (tgt := 35) hx hb dX4_blockWithRoom_76 (by decide) ?_
              exact ih35 xk (F (4 * xk + 42)) (xk + 1) (xk) (by omega) (fo_s hX (by unfold s_best; first | (rw [if_pos ⟨by assumption, by omega⟩]) | (rw [if_neg (by rintro ⟨h1, h2⟩; first | omega | exact absurd h1 (by assumption))]))) (by omega) (by omega) (fun _ => rfl) (by omega) (by omega) ls (lv_sub hl [3, 2, 1, 0] rfl) kk35
            · refine lv_aload_n hx hb dX4_blockWithRoom_54 rfl (lv_at hl 0 rfl) ?_
              refine ri_get (v := .ref (a 2)) hx hb hts hown w fX4 0 1 (W0_of k_fl_RX4_15 rfl) rfl rfl (by decide) dX4_blockWithRoom_55 ?_
              refine lv_iload_n hx hb dX4_blockWithRoom_58 rfl (lv_at hl 3 rfl) ?_
              refine ri_iald (f := T 2) (v := F (4 * xk + 42)) hx hb w 2 rfl (by omega) ((hR.er (by omega) (by omega)).trans (congrArg _ (by omega))) dX4_blockWithRoom_59 (by omega) ?_
              have r17 := hW.bd (4 * xk + 42)
              refine lv_iload_n hx hb dX4_blockWithRoom_60 rfl (lv_at hl 2 rfl) ?_
              refine ri_icmp_ge (tgt := 73) hx hb dX4_blockWithRoom_61 (by decide) (by omega) (by omega) (fun c18 => ?_) (fun c18 => ?_)
              · refine ri_iinc (k := 3) (z := xk + 1) (lv' := [(3, .int (iI (xk + 1))), (0, .ref (a 0)), (1, .int (iI xf)), (2, .int (iI xe))]) hx hb dX4_blockWithRoom_73 hl rfl (by omega) (by decide) rfl (fun ls hl => ?_)
                refine lv_goto (tgt := 35) hx hb dX4_blockWithRoom_76 (by decide) ?_
                exact ih35 xf xe (xk + 1) (mm) (by omega) (fo_s hX (by unfold s_best; first | (rw [if_pos ⟨by assumption, by omega⟩]) | (rw [if_neg (by rintro ⟨h1, h2⟩; first | omega | exact absurd h1 (by assumption))]))) (by omega) (by omega) (he) (by omega) (by omega) ls (lv_sub hl [1, 2, 3, 0] rfl) kk35
              · refine lv_iload_n hx hb dX4_blockWithRoom_64 rfl (lv_at hl 3 rfl) ?_
                refine lv_istore_n (lv' := [(1, .int (iI xk)), (0, .ref (a 0)), (2, .int (iI xe)), (3, .int (iI xk))]) hx hb dX4_blockWithRoom_65 rfl hl (by decide) rfl (fun ls hl => ?_)
                refine lv_aload_n hx hb dX4_blockWithRoom_66 rfl (lv_at hl 1 rfl) ?_
                refine ri_get (v := .ref (a 2)) hx hb hts hown w fX4 0 1 (W0_of k_fl_RX4_15 rfl) rfl rfl (by decide) dX4_blockWithRoom_67 ?_
                refine lv_iload_n hx hb dX4_blockWithRoom_70 rfl (lv_at hl 3 rfl) ?_
                refine ri_iald (f := T 2) (v := F (4 * xk + 42)) hx hb w 2 rfl (by omega) ((hR.er (by omega) (by omega)).trans (congrArg _ (by omega))) dX4_blockWithRoom_71 (by omega) ?_
                refine lv_istore_n (lv' := [(2, .int (iI (F (4 * xk + 42)))), (1, .int (iI xk)), (0, .ref (a 0)), (3, .int (iI xk))]) hx hb dX4_blockWithRoom_72 rfl hl (by decide) rfl (fun ls hl => ?_)
                refine ri_iinc (k := 3) (z := xk + 1) (lv' := [(3, .int (iI (xk + 1))), (2, .int (iI (F (4 * xk + 42)))), (1, .int (iI xk)), (0, .ref (a 0))]) hx hb dX4_blockWithRoom_73 hl rfl (by omega) (by decide) rfl (fun ls hl => ?_)
                refine lv_goto (tgt := 35) hx hb dX4_blockWithRoom_76 (by decide) ?_
                exact ih35 xk (F (4 * xk + 42)) (xk + 1) (xk) (by omega) (fo_s hX (by unfold s_best; first | (rw [if_pos ⟨by assumption, by omega⟩]) | (rw [if_neg (by rintro ⟨h1, h2⟩; first | omega | exact absurd h1 (by assumption))]))) (by omega) (by omega) (fun _ => rfl) (by omega) (by omega) ls (lv_sub hl [3, 2, 1, 0] rfl) kk35
      refine L35 6 (-1) 0 0 (-5) (by omega) (rfl) (by omega) (by omega) (fun hq => absurd rfl hq) (by omega) (by omega) ls (lv_sub hl [3, 2, 1, 0] rfl) (fun ls hl => ?_)
      refine lv_iload_n hx hb dX4_blockWithRoom_79 rfl (lv_at hl 0 rfl) ?_
      exact hend.2 _ (congrArg (fun z => some (Value.int (iI z))) (show r_target F = (if r_best F = -5 then -1 else r_best F) from by unfold r_target; rw [if_neg (by omega)])) ⟨_, rfl, rfl⟩ _ _ dX4_blockWithRoom_80
    · refine lv_aload_n hx hb dX4_blockWithRoom_24 rfl (lv_at hl 0 rfl) ?_
      refine ri_get (v := .int (iI (r_open F))) hx hb hts hown w fX4 0 13 (W0_of k_fl_RX4_60 rfl) rfl (congrArg (fun z => some (Value.int (iI z))) (hR.op)) (by decide) dX4_blockWithRoom_25 ?_
      exact hend.2 _ (congrArg (fun z => some (Value.int (iI z))) (show r_target F = r_open F from by unfold r_target; rw [if_pos (by omega)]; omega)) ⟨_, rfl, rfl⟩ _ _ dX4_blockWithRoom_28

set_option maxHeartbeats 4000000 in
set_option maxRecDepth 100000 in
theorem t_X4_lowestPlaceWithPage (l : Launch) (g : GG) (a : Nat → Nat) (N : Int) (F : Int → Int) (T : Nat → Int → Int) (b : Int) (hW : WF N F) (hR : Rel F T) (hb0 : 0 ≤ b ∧ b < 6) : Met l yX4_lowestPlaceWithPage (wm yX4_lowestPlaceWithPage cX4_lowestPlaceWithPage 4 (some .int)) (rmm 0 0 0) (pR g (st_ws g a T) [.ref (a 0), .int (iI b)]) (qR (some (.int (iI (r_lowA F b))))) 0 0 (fun _ => False) := by
  refine met_r (by decide) (Nat.le_of_ble_eq_true rfl) ?_
  intro p e s m args below meth c Q ls hx hb hml hown hts hl w hend
  have hl : lv_has ls 4 [(0, .ref (a 0)), (1, .int (iI b))] := hl
  refine lv_iload_n hx hb dX4_lowestPlaceWithPage_0 rfl (lv_at hl 1 rfl) ?_
  refine ri_bipush hx hb dX4_lowestPlaceWithPage_1 (by decide) ?_
  refine ri_imul (z := 8 * b) hx hb dX4_lowestPlaceWithPage_3 (by omega) ?_
  refine lv_istore_n (lv' := [(2, .int (iI (8 * b))), (0, .ref (a 0)), (1, .int (iI b))]) hx hb dX4_lowestPlaceWithPage_4 rfl hl (by decide) rfl (fun ls hl => ?_)
  refine lv_iload_n hx hb dX4_lowestPlaceWithPage_5 rfl (lv_at hl 0 rfl) ?_
  refine lv_istore_n (lv' := [(3, .int (iI (8 * b))), (2, .int (iI (8 * b))), (0, .ref (a 0)), (1, .int (iI b))]) hx hb dX4_lowestPlaceWithPage_6 rfl hl (by decide) rfl (fun ls hl => ?_)
  have L7 : ∀ (n : Nat) (xk : Int), (xk + n = 8 * b + 8) → (fi n xk (p_page F) (-5) = r_low F b) → (8 * b ≤ xk) → ∀ (ls : Array Slot), lv_has ls 4 [(0, .ref (a 0)), (2, .int (iI (8 * b))), (3, .int (iI xk))] → (∀ (hZ : r_low F b = -5) (ls : Array Slot), lv_has ls 4 [] → W p l e (rmm 0 0 0) s m args below meth c s.heap [] 0 0 Q (F0 m 32 ls [])) → W p l e (rmm 0 0 0) s m args below meth c s.heap [] 0 0 Q (F0 m 7 ls []) := by
    intro n
    induction n with
    | zero =>
      intro xk hn hV hlo ls hl kk7
      refine lv_iload_n hx hb dX4_lowestPlaceWithPage_7 rfl (lv_at hl 2 rfl) ?_
      refine lv_iload_n hx hb dX4_lowestPlaceWithPage_8 rfl (lv_at hl 1 rfl) ?_
      refine ri_bipush hx hb dX4_lowestPlaceWithPage_9 (by decide) ?_
      refine ri_iadd (z := 8 * b + 8) hx hb dX4_lowestPlaceWithPage_11 rfl ?_
      refine ri_icmp_ge (tgt := 32) hx hb dX4_lowestPlaceWithPage_12 (by decide) (by omega) (by omega) (fun c1 => ?_) (fun c1 => ?_)
      · exact kk7 hV.symm ls  (lv_sub hl [] rfl)
      · exact absurd c1 (by omega)
    | succ n ih7 =>
      intro xk hn hV hlo ls hl kk7
      refine lv_iload_n hx hb dX4_lowestPlaceWithPage_7 rfl (lv_at hl 2 rfl) ?_
      refine lv_iload_n hx hb dX4_lowestPlaceWithPage_8 rfl (lv_at hl 1 rfl) ?_
      refine ri_bipush hx hb dX4_lowestPlaceWithPage_9 (by decide) ?_
      refine ri_iadd (z := 8 * b + 8) hx hb dX4_lowestPlaceWithPage_11 rfl ?_
      refine ri_icmp_ge (tgt := 32) hx hb dX4_lowestPlaceWithPage_12 (by decide) (by omega) (by omega) (fun c2 => ?_) (fun c2 => ?_)
      · exact absurd c2 (by omega)
      refine lv_aload_n hx hb dX4_lowestPlaceWithPage_15 rfl (lv_at hl 0 rfl) ?_
      refine ri_get (v := .ref (a 6)) hx hb hts hown w fX4 0 5 (W0_of k_fl_RX4_28 rfl) rfl rfl (by decide) dX4_lowestPlaceWithPage_16 ?_
      refine lv_iload_n hx hb dX4_lowestPlaceWithPage_19 rfl (lv_at hl 2 rfl) ?_
      refine ri_iald (f := T 6) (v := F (3 * xk + 65)) hx hb w 6 rfl (by omega) ((hR.he (by omega) (by omega)).trans (congrArg _ (by omega))) dX4_lowestPlaceWithPage_20 (by omega) ?_
      have r3 := hW.bd (3 * xk + 65)
      refine ri_if_lt (tgt := 26) hx hb dX4_lowestPlaceWithPage_21 (by decide) (by omega) (fun c4 => ?_) (fun c4 => ?_)
      · refine ri_iinc (k := 2) (z := xk + 1) (lv' := [(3, .int (iI (xk + 1))), (0, .ref (a 0)), (2, .int (iI (8 * b)))]) hx hb dX4_lowestPlaceWithPage_26 hl rfl (by omega) (by decide) rfl (fun ls hl => ?_)
        refine lv_goto (tgt := 7) hx hb dX4_lowestPlaceWithPage_29 (by decide) ?_
        exact ih7 (xk + 1)  (by omega) (fi_f hV (by simp only [p_page, decide_eq_true_eq]; first | omega | (intro hh; exact absurd hh.1 (by assumption)) | (intro hh; exact absurd hh.2 (by assumption)))) (by omega) ls (lv_sub hl [1, 2, 0] rfl) kk7
      · refine lv_iload_n hx hb dX4_lowestPlaceWithPage_24 rfl (lv_at hl 2 rfl) ?_
        exact hend.2 _ (congrArg (fun z => some (Value.int (iI z))) (show r_lowA F b = xk from by have e9 := fi_t hV (by simp only [p_page, decide_eq_true_eq]; omega); unfold r_lowA; rw [e9]; omega)) ⟨_, rfl, rfl⟩ _ _ dX4_lowestPlaceWithPage_25
  refine L7 8 (8 * b)  (by omega) (rfl) (by omega) ls (lv_sub hl [2, 1, 0] rfl) (fun hZ ls hl => ?_)
  refine ri_iconst hx hb dX4_lowestPlaceWithPage_32 ?_
  exact hend.2 _ (congrArg (fun z => some (Value.int (iI z))) (show r_lowA F b = -1 from by unfold r_lowA; rw [hZ]; rfl)) ⟨_, rfl, rfl⟩ _ _ dX4_lowestPlaceWithPage_33

set_option maxHeartbeats 4000000 in
set_option maxRecDepth 100000 in
theorem t_X0_rankOf (l : Launch) (g : GG) (x : Nat) (y : Nat) (N : Int) (F : Int → Int) (f : Int → Int) (z : Int) (v : Int) (hW : WF N F) (hf : ∀ i, 0 ≤ i → i < 4 → f i = F (i + 12)) (hz : z = F 11) (h1 : -2147483648 ≤ v ∧ v ≤ 2147483647) : Met l yX0_rankOf (wm yX0_rankOf cX0_rankOf 3 (some .int)) (rmm 0 0 0) (pR g [(x, .inr (0, [.ref y, .int (iI z)])), (y, eI g 4 f)] [.ref x, .int (iI v)]) (qR (some (.int (iI (r_bufA F v))))) 0 0 (fun _ => False) := by
  have he := hW.he
  have hs := hW.se
  refine met_r (by decide) (Nat.le_of_ble_eq_true rfl) ?_
  intro p e s m args below meth c Q ls hx hb hml hown hts hl w hend
  have hl : lv_has ls 3 [(0, .ref x), (1, .int (iI v))] := hl
  refine ri_iconst hx hb dX0_rankOf_0 ?_
  refine lv_istore_n (lv' := [(2, .int (iI 0)), (0, .ref x), (1, .int (iI v))]) hx hb dX0_rankOf_1 rfl hl (by decide) rfl (fun ls hl => ?_)
  have L2 : ∀ (n : Nat) (xk : Int), (xk + n = F 11) → (fi n xk (p_buf F v) (-5) = r_buf F v) → (0 ≤ xk) → ∀ (ls : Array Slot), lv_has ls 3 [(0, .ref x), (1, .int (iI v)), (2, .int (iI xk))] → (∀ (hZ : r_buf F v = -5) (ls : Array Slot), lv_has ls 3 [] → W p l e (rmm 0 0 0) s m args below meth c s.heap [] 0 0 Q (F0 m 33 ls [])) → W p l e (rmm 0 0 0) s m args below meth c s.heap [] 0 0 Q (F0 m 2 ls []) := by
    intro n
    induction n with
    | zero =>
      intro xk hn hV hlo ls hl kk2
      refine lv_iload_n hx hb dX0_rankOf_2 rfl (lv_at hl 2 rfl) ?_
      refine lv_aload_n hx hb dX0_rankOf_3 rfl (lv_at hl 0 rfl) ?_
      refine ri_get (v := .int (iI z)) hx hb hts hown w fX0 0 1 (W0_of k_fl_RX0_15 rfl) rfl rfl (by decide) dX0_rankOf_4 ?_
      refine ri_icmp_ge (tgt := 33) hx hb dX0_rankOf_7 (by decide) (by omega) (by omega) (fun c1 => ?_) (fun c1 => ?_)
      · exact kk2 hV.symm ls  (lv_sub hl [] rfl)
      · exact absurd c1 (by omega)
    | succ n ih2 =>
      intro xk hn hV hlo ls hl kk2
      refine lv_iload_n hx hb dX0_rankOf_2 rfl (lv_at hl 2 rfl) ?_
      refine lv_aload_n hx hb dX0_rankOf_3 rfl (lv_at hl 0 rfl) ?_
      refine ri_get (v := .int (iI z)) hx hb hts hown w fX0 0 1 (W0_of k_fl_RX0_15 rfl) rfl rfl (by decide) dX0_rankOf_4 ?_
      refine ri_icmp_ge (tgt := 33) hx hb dX0_rankOf_7 (by decide) (by omega) (by omega) (fun c2 => ?_) (fun c2 => ?_)
      · exact absurd c2 (by omega)
      refine lv_iload_n hx hb dX0_rankOf_10 rfl (lv_at hl 2 rfl) ?_
      refine ri_iconst hx hb dX0_rankOf_11 ?_
      refine ri_icmp_ge (tgt := 33) hx hb dX0_rankOf_12 (by decide) (by omega) (by omega) (fun c3 => ?_) (fun c3 => ?_)
      · exact kk2 (by exfalso; omega) ls  (lv_sub hl [] rfl)
      · refine lv_aload_n hx hb dX0_rankOf_15 rfl (lv_at hl 0 rfl) ?_
        refine ri_get (v := .ref y) hx hb hts hown w fX0 0 0 (W0_of k_fl_RX0_9 rfl) rfl rfl (by decide) dX0_rankOf_16 ?_
        refine lv_iload_n hx hb dX0_rankOf_19 rfl (lv_at hl 2 rfl) ?_
        refine ri_iald (f := f) (v := F (xk + 12)) hx hb w 1 rfl (by omega) ((hf _ (by omega) (by omega)).trans (congrArg F (by omega))) dX0_rankOf_20 (by omega) ?_
        have r4 := hW.bd (xk + 12)
        refine lv_iload_n hx hb dX0_rankOf_21 rfl (lv_at hl 1 rfl) ?_
        refine ri_icmp_ne (tgt := 27) hx hb dX0_rankOf_22 (by decide) (by omega) (by omega) (fun c5 => ?_) (fun c5 => ?_)
        · refine ri_iinc (k := 2) (z := xk + 1) (lv' := [(2, .int (iI (xk + 1))), (0, .ref x), (1, .int (iI v))]) hx hb dX0_rankOf_27 hl rfl (by omega) (by decide) rfl (fun ls hl => ?_)
          refine lv_goto (tgt := 2) hx hb dX0_rankOf_30 (by decide) ?_
          exact ih2 (xk + 1)  (by omega) (fi_f hV (by simp only [p_buf, decide_eq_true_eq]; omega)) (by omega) ls (lv_sub hl [1, 2, 0] rfl) kk2
        · refine lv_iload_n hx hb dX0_rankOf_25 rfl (lv_at hl 2 rfl) ?_
          exact hend.2 _ (congrArg (fun z => some (Value.int (iI z))) (show r_bufA F v = xk from by have e9 := fi_t hV (by simp only [p_buf, decide_eq_true_eq]; omega); unfold r_bufA; rw [e9]; omega)) ⟨_, rfl, rfl⟩ _ _ dX0_rankOf_26
  refine L2 (F 11).toNat 0  (by omega) (rfl) (by omega) ls (lv_sub hl [1, 2, 0] rfl) (fun hZ ls hl => ?_)
  refine ri_iconst hx hb dX0_rankOf_33 ?_
  exact hend.2 _ (congrArg (fun z => some (Value.int (iI z))) (show r_bufA F v = -1 from by unfold r_bufA; rw [hZ]; rfl)) ⟨_, rfl, rfl⟩ _ _ dX0_rankOf_34
