set_option maxHeartbeats 4000000 in
set_option maxRecDepth 100000 in
theorem t_X6_ticksOn (l : Launch) (g : GG) (s0 : Nat) (N : Int) (F : Int → Int) (hW : WF N F) (hN : N + 100 ≤ 200000000) (sz : Nat) : Met l yX6_ticksOn (wm yX6_ticksOn cX6_ticksOn 4 (some .int)) (rmm 6 0 0) (pW g [(s0, eI g 233 F)] sz [.ref s0]) (qW g [(s0, eI g 233 F)] (fun vv ww => vv = some (.int (iI ((r_tick F).1))) ∧ ww = [(s0, eI g 233 ((r_tick F).2))])) 0 0 (va_A [(s0, eI g 233 F)] sz) := by
  have hW1 := wf_tick0 hW (by omega)
  have hs := hW.se
  have hcc := calls_rg hW1
  have e3 : up F 0 (F 0 + 1) 3 = F 3 := up_ne (by omega)
  refine met_w (by decide) (Nat.le_of_ble_eq_true rfl) ?_
  intro p e s m args below meth c Q ls A hx hb hml hown hts hl w hin hend
  obtain ⟨H, hH0⟩ : ∃ H, H = s.heap := ⟨_, rfl⟩
  obtain ⟨locs, hL0⟩ : ∃ locs : List Loc, locs = [] := ⟨_, rfl⟩
  rw [← hH0, ← hL0] at w
  rw [← hH0, ← hL0]
  have hl : lv_has ls 4 [(0, .ref s0)] := hl
  refine lv_aload_n hx hb dX6_ticksOn_0 rfl (lv_at hl 0 rfl) ?_
  refine ri_iconst hx hb dX6_ticksOn_1 ?_
  refine lv_dup2_11 hx hb dX6_ticksOn_2 rfl rfl ?_
  refine ri_iald (v := F 0) hx hb w 0 rfl (by omega) (rfl) dX6_ticksOn_3 (by decide) ?_
  have r1 := hW.bd 0
  refine ri_iconst hx hb dX6_ticksOn_4 ?_
  refine ri_iadd (z := F 0 + 1) hx hb dX6_ticksOn_5 rfl ?_
  refine ri_iast hx hb w 0 rfl (by omega) dX6_ticksOn_6 (by decide) (fun H locs w => ?_)
  have w : Wd g A [(s0, eI g 233 (up F 0 (F 0 + 1)))] s H locs := w
  refine lv_aload_n hx hb dX6_ticksOn_7 rfl (lv_at hl 0 rfl) ?_
  refine ri_iconst hx hb dX6_ticksOn_8 ?_
  refine ri_iald (v := F 3) hx hb w 0 rfl (by omega) (up_ne (by omega)) dX6_ticksOn_9 (by decide) ?_
  have r2 := hW.bd 3
  refine lv_istore_n (lv' := [(1, .int (iI (F 3))), (0, .ref s0)]) hx hb dX6_ticksOn_10 rfl hl (by decide) rfl (fun ls hl => ?_)
  refine ri_iconst hx hb dX6_ticksOn_11 ?_
  refine lv_istore_n (lv' := [(2, .int (iI 0)), (1, .int (iI (F 3))), (0, .ref s0)]) hx hb dX6_ticksOn_12 rfl hl (by decide) rfl (fun ls hl => ?_)
  have L13 : ∀ (n : Nat) (xl xn : Int) (G : Int → Int), (r_tickL n G xn = r_tickL 32 (up F 0 (F 0 + 1)) 0) → (xl = G 3 - xn) → (WF (N + 1 + 3 * (32 - n)) G) → ((if xl < 0 then 0 else xl) + r_calls G < n) → (0 ≤ xn ∧ xn ≤ 32 - n) → ∀ (ls : Array Slot) (H : Heap) (locs : List Loc), lv_has ls 4 [(0, .ref s0), (1, .int (iI xl)), (2, .int (iI xn))] → Wd g A [(s0, eI g 233 G)] s H locs → (∀ (ls : Array Slot) (H : Heap) (locs : List Loc), lv_has ls 4 [(2, .int (iI ((r_tickL 32 (up F 0 (F 0 + 1)) 0).1)))] → Wd g A [(s0, eI g 233 ((r_tickL 32 (up F 0 (F 0 + 1)) 0).2))] s H locs → W p l e (rmm 6 0 0) s m args below meth c H locs 0 0 Q (F0 m 75 ls [])) → W p l e (rmm 6 0 0) s m args below meth c H locs 0 0 Q (F0 m 13 ls []) := by
    intro n
    induction n with
    | zero =>
      intro xl xn G hX hxl hWG hc hn ls H locs hl w kk13
      exact absurd hc (by have := calls_rg hWG; omega)
    | succ n ih13 =>
      intro xl xn G hX hxl hWG hc hn ls H locs hl w kk13
      have hsG := hWG.se
      refine lv_iload_n hx hb dX6_ticksOn_13 rfl (lv_at hl 1 rfl) ?_
      refine ri_if_le (tgt := 75) hx hb dX6_ticksOn_14 (by decide) (by omega) (fun c3 => ?_) (fun c3 => ?_)
      · have e0 : (xn, G) = r_tickL 32 (up F 0 (F 0 + 1)) 0 := by rw [← hX, tickL_s]; rw [if_pos (Or.inl (by omega))]
        have e1 : xn = (r_tickL 32 (up F 0 (F 0 + 1)) 0).1 := congrArg Prod.fst e0
        have e2 : G = (r_tickL 32 (up F 0 (F 0 + 1)) 0).2 := congrArg Prod.snd e0
        rw [e1] at hl
        rw [e2] at w
        exact kk13  ls H locs  (lv_sub hl [2] rfl) w
      · refine lv_aload_n hx hb dX6_ticksOn_17 rfl (lv_at hl 0 rfl) ?_
        refine ri_iconst hx hb dX6_ticksOn_18 ?_
        refine call_rS (As := [.ref s0, .int (iI 0)]) (rest := []) hx hb (hml.trans hl.1.symm) hown hts w lk_RX6_126 (t_X6_markedAt l g s0 _ G 0 (hWG) (by omega)) [0] rfl rfl rfl rfl (Nat.le_of_ble_eq_true rfl) ⟨Nat.le_of_ble_eq_true rfl, Nat.le_of_ble_eq_true rfl⟩ ⟨Nat.le_of_ble_eq_true rfl, Nat.le_of_ble_eq_true rfl⟩ dX6_ticksOn_19 ?_
        have r4 := at_rg G 0
        refine lv_istore_n (lv' := [(3, .int (iI (r_markedAt G 0))), (0, .ref s0), (1, .int (iI xl)), (2, .int (iI xn))]) hx hb dX6_ticksOn_22 rfl hl (by decide) rfl (fun ls hl => ?_)
        refine lv_iload_n hx hb dX6_ticksOn_23 rfl (lv_at hl 0 rfl) ?_
        refine ri_bipush hx hb dX6_ticksOn_24 (by decide) ?_
        refine ri_icmp_ne (tgt := 31) hx hb dX6_ticksOn_26 (by decide) (by omega) (by omega) (fun c5 => ?_) (fun c5 => ?_)
        · have hat := at_ok (F := G) (r := 0) (by assumption)
          have hmk := at_mk (F := G) (r := 0) (by assumption)
          refine lv_aload_n hx hb dX6_ticksOn_31 rfl (lv_at hl 1 rfl) ?_
          refine lv_iload_n hx hb dX6_ticksOn_32 rfl (lv_at hl 0 rfl) ?_
          refine call_rS (As := [.ref s0, .int (iI (r_markedAt G 0))]) (rest := []) hx hb (hml.trans hl.1.symm) hown hts w lk_RX6_108 (t_X6_lowestPage l g s0 G (r_markedAt G 0) (hWG.b) (by omega)) [0] rfl rfl rfl rfl (Nat.le_of_ble_eq_true rfl) ⟨Nat.le_of_ble_eq_true rfl, Nat.le_of_ble_eq_true rfl⟩ ⟨Nat.le_of_ble_eq_true rfl, Nat.le_of_ble_eq_true rfl⟩ dX6_ticksOn_33 ?_
          have r6 := low_rg G (r_markedAt G 0)
          refine ri_bipush hx hb dX6_ticksOn_36 (by decide) ?_
          refine ri_icmp_eq (tgt := 57) hx hb dX6_ticksOn_38 (by decide) (by omega) (by omega) (fun c7 => ?_) (fun c7 => ?_)
          · refine lv_aload_n hx hb dX6_ticksOn_57 rfl (lv_at hl 1 rfl) ?_
            refine lv_iload_n hx hb dX6_ticksOn_58 rfl (lv_at hl 0 rfl) ?_
            refine call_rS (As := [.ref s0, .int (iI (r_markedAt G 0))]) (rest := []) hx hb (hml.trans hl.1.symm) hown hts w lk_RX6_108 (t_X6_lowestPage l g s0 G (r_markedAt G 0) (hWG.b) (by omega)) [0] rfl rfl rfl rfl (Nat.le_of_ble_eq_true rfl) ⟨Nat.le_of_ble_eq_true rfl, Nat.le_of_ble_eq_true rfl⟩ ⟨Nat.le_of_ble_eq_true rfl, Nat.le_of_ble_eq_true rfl⟩ dX6_ticksOn_59 ?_
            refine ri_bipush hx hb dX6_ticksOn_62 (by decide) ?_
            refine ri_icmp_ne (tgt := 72) hx hb dX6_ticksOn_64 (by decide) (by omega) (by omega) (fun c8 => ?_) (fun c8 => ?_)
            · exact absurd c8 (by omega)
            refine lv_aload_n hx hb dX6_ticksOn_67 rfl (lv_at hl 1 rfl) ?_
            refine lv_iload_n hx hb dX6_ticksOn_68 rfl (lv_at hl 0 rfl) ?_
            refine call_wS (wr := []) (As := [.ref s0, .int (iI (r_markedAt G 0))]) (rest := []) hx hb (hml.trans hl.1.symm) hown hts w lk_RX6_123 (fun sz => t_X6_erases l g s0 _ G (r_markedAt G 0) (hWG) (by omega) sz) [0] [] rfl rfl rfl rfl (by decide) rfl rfl (Nat.le_of_ble_eq_true rfl) ⟨Nat.le_of_ble_eq_true rfl, Nat.le_of_ble_eq_true rfl⟩ ⟨Nat.le_of_ble_eq_true rfl, Nat.le_of_ble_eq_true rfl⟩ dX6_ticksOn_69 (fun v w1 H locs hr w => ?_)
            obtain ⟨rfl, rfl⟩ := hr
            have w : Wd g A [(s0, eI g 233 (r_erases G (r_markedAt G 0)))] s H locs := w
            refine lv_goto (tgt := 13) hx hb dX6_ticksOn_72 (by decide) ?_
            exact ih13 xl xn (r_erases G (r_markedAt G 0)) ((by rw [← hX, tickL_s]; rw [if_neg (by rintro (hh | hh); omega; exact absurd hh (by assumption))]; rw [if_pos (by assumption)])) (by rw [set_erases hat]; omega) ((wf_erases hWG hat (by assumption) (by omega)).mono (by omega) (by omega)) (by have := calls_erases hWG hat (by assumption) hmk; omega) (by omega) ls H locs (lv_sub hl [1, 2, 3] rfl) w kk13
          · refine lv_aload_n hx hb dX6_ticksOn_41 rfl (lv_at hl 1 rfl) ?_
            refine lv_iload_n hx hb dX6_ticksOn_42 rfl (lv_at hl 0 rfl) ?_
            refine call_wS (wr := []) (As := [.ref s0, .int (iI (r_markedAt G 0))]) (rest := []) hx hb (hml.trans hl.1.symm) hown hts w lk_RX6_120 (fun sz => t_X6_moves l g s0 _ G (r_markedAt G 0) (hWG) (by omega) (by assumption) (by omega) sz) [0] [] rfl rfl rfl rfl (by decide) rfl rfl (Nat.le_of_ble_eq_true rfl) ⟨Nat.le_of_ble_eq_true rfl, Nat.le_of_ble_eq_true rfl⟩ ⟨Nat.le_of_ble_eq_true rfl, Nat.le_of_ble_eq_true rfl⟩ dX6_ticksOn_43 (fun v w1 H locs hr w => ?_)
            obtain ⟨rfl, rfl⟩ := hr
            have w : Wd g A [(s0, eI g 233 (r_moves G (r_markedAt G 0)))] s H locs := w
            refine ri_ifb_ne (tgt := 51) hx hb dX6_ticksOn_46 (by decide) (fun c9 => ?_) (fun c9 => ?_)
            · have hWm := wf_moves hWG hat (by assumption) (by assumption) (by omega)
              refine ri_iinc (k := 2) (z := xl - 1) (lv' := [(1, .int (iI (xl - 1))), (3, .int (iI (r_markedAt G 0))), (0, .ref s0), (2, .int (iI xn))]) hx hb dX6_ticksOn_51 hl rfl (by omega) (by decide) rfl (fun ls hl => ?_)
              refine ri_iinc (k := 3) (z := xn + 1) (lv' := [(2, .int (iI (xn + 1))), (1, .int (iI (xl - 1))), (3, .int (iI (r_markedAt G 0))), (0, .ref s0)]) hx hb dX6_ticksOn_54 hl rfl (by omega) (by decide) rfl (fun ls hl => ?_)
              refine lv_aload_n hx hb dX6_ticksOn_57 rfl (lv_at hl 3 rfl) ?_
              refine lv_iload_n hx hb dX6_ticksOn_58 rfl (lv_at hl 2 rfl) ?_
              refine call_rS (As := [.ref s0, .int (iI (r_markedAt G 0))]) (rest := []) hx hb (hml.trans hl.1.symm) hown hts w lk_RX6_108 (t_X6_lowestPage l g s0 (r_moves G (r_markedAt G 0)) (r_markedAt G 0) (hWm.b) (by omega)) [0] rfl rfl rfl rfl (Nat.le_of_ble_eq_true rfl) ⟨Nat.le_of_ble_eq_true rfl, Nat.le_of_ble_eq_true rfl⟩ ⟨Nat.le_of_ble_eq_true rfl, Nat.le_of_ble_eq_true rfl⟩ dX6_ticksOn_59 ?_
              have r10 := low_rg (r_moves G (r_markedAt G 0)) (r_markedAt G 0)
              refine ri_bipush hx hb dX6_ticksOn_62 (by decide) ?_
              refine ri_icmp_ne (tgt := 72) hx hb dX6_ticksOn_64 (by decide) (by omega) (by omega) (fun c11 => ?_) (fun c11 => ?_)
              · refine lv_goto (tgt := 13) hx hb dX6_ticksOn_72 (by decide) ?_
                exact ih13 (xl - 1) (xn + 1) (r_moves G (r_markedAt G 0)) ((by rw [← hX, tickL_s]; rw [if_neg (by rintro (hh | hh); omega; exact absurd hh (by assumption))]; rw [if_neg (by assumption), if_pos (by assumption), if_neg (by assumption)])) (by rw [set_moves hWG (by assumption) hat (by omega)]; omega) (hWm.mono (by omega) (by omega)) (by rw [calls_moves hWG (by assumption) hat (by omega)]; omega) (by omega) ls H locs (lv_sub hl [3, 1, 0] rfl) w kk13
              · refine lv_aload_n hx hb dX6_ticksOn_67 rfl (lv_at hl 3 rfl) ?_
                refine lv_iload_n hx hb dX6_ticksOn_68 rfl (lv_at hl 2 rfl) ?_
                refine call_wS (wr := []) (As := [.ref s0, .int (iI (r_markedAt G 0))]) (rest := []) hx hb (hml.trans hl.1.symm) hown hts w lk_RX6_123 (fun sz => t_X6_erases l g s0 _ (r_moves G (r_markedAt G 0)) (r_markedAt G 0) (hWm) (by omega) sz) [0] [] rfl rfl rfl rfl (by decide) rfl rfl (Nat.le_of_ble_eq_true rfl) ⟨Nat.le_of_ble_eq_true rfl, Nat.le_of_ble_eq_true rfl⟩ ⟨Nat.le_of_ble_eq_true rfl, Nat.le_of_ble_eq_true rfl⟩ dX6_ticksOn_69 (fun v w1 H locs hr w => ?_)
                obtain ⟨rfl, rfl⟩ := hr
                have w : Wd g A [(s0, eI g 233 (r_erases (r_moves G (r_markedAt G 0)) (r_markedAt G 0)))] s H locs := w
                refine lv_goto (tgt := 13) hx hb dX6_ticksOn_72 (by decide) ?_
                exact ih13 (xl - 1) (xn + 1) (r_erases (r_moves G (r_markedAt G 0)) (r_markedAt G 0)) ((by rw [← hX, tickL_s]; rw [if_neg (by rintro (hh | hh); omega; exact absurd hh (by assumption))]; rw [if_neg (by assumption), if_pos (by assumption), if_pos (by assumption)])) (by rw [set_erases hat, set_moves hWG (by assumption) hat (by omega)]; omega) ((wf_erases hWm hat (by assumption) (by omega)).mono (by omega) (by omega)) (by have := calls_erases1 hWm hat; rw [calls_moves hWG (by assumption) hat (by omega)] at this; omega) (by omega) ls H locs (lv_sub hl [3, 1, 0] rfl) w kk13
            · have e9 : (xn, r_moves G (r_markedAt G 0)) = r_tick F := by show _ = r_tickL 32 (up F 0 (F 0 + 1)) 0; rw [← hX, tickL_s]; rw [if_neg (by rintro (hh | hh); omega; exact absurd hh (by assumption)), if_neg (by assumption), if_neg (by assumption)]
              refine lv_iload_n hx hb dX6_ticksOn_49 rfl (lv_at hl 3 rfl) ?_
              exact hend.2 _ _ _ _ ⟨_, rfl, rfl⟩ _ _ dX6_ticksOn_50 w ⟨(congrArg (fun z => some (Value.int (iI z))) (show xn = (r_tick F).1 from by exact congrArg Prod.fst e9)), (congrArg (fun z => [(s0, eI g 233 z)]) (show (r_moves G (r_markedAt G 0)) = ((r_tick F).2) from by exact congrArg Prod.snd e9))⟩
        · have e9 : (xn, G) = r_tick F := by show _ = r_tickL 32 (up F 0 (F 0 + 1)) 0; rw [← hX, tickL_s]; rw [if_pos (Or.inr (by assumption))]
          refine lv_iload_n hx hb dX6_ticksOn_29 rfl (lv_at hl 3 rfl) ?_
          exact hend.2 _ _ _ _ ⟨_, rfl, rfl⟩ _ _ dX6_ticksOn_30 w ⟨(congrArg (fun z => some (Value.int (iI z))) (show xn = (r_tick F).1 from by exact congrArg Prod.fst e9)), (congrArg (fun z => [(s0, eI g 233 z)]) (show G = ((r_tick F).2) from by exact congrArg Prod.snd e9))⟩
  refine L13 32 (F 3) 0 (up F 0 (F 0 + 1)) (rfl) (by omega) (by rw [show N + 1 + 3 * (32 - ((32 : Nat) : Int)) = N + 1 from by omega]; exact hW1) (by omega) (by omega) ls H locs (lv_sub hl [2, 1, 0] rfl) w (fun ls H locs hl w => ?_)
  refine lv_iload_n hx hb dX6_ticksOn_75 rfl (lv_at hl 0 rfl) ?_
  exact hend.2 _ _ _ _ ⟨_, rfl, rfl⟩ _ _ dX6_ticksOn_76 w ⟨(congrArg (fun z => some (Value.int (iI z))) (show (r_tickL 32 (up F 0 (F 0 + 1)) 0).1 = (r_tick F).1 from by rfl)), rfl⟩

set_option maxHeartbeats 4000000 in
set_option maxRecDepth 100000 in
theorem t_X6_writesOn (l : Launch) (g : GG) (s0 : Nat) (N : Int) (F : Int → Int) (v : Int) (hW : WF N F) (h1 : -2147483648 ≤ v ∧ v ≤ 2147483647) (sz : Nat) : Met l yX6_writesOn (wm yX6_writesOn cX6_writesOn 2 (some .int)) (rmm 5 0 0) (pW g [(s0, eI g 233 F)] sz [.ref s0, .int (iI v)]) (qW g [(s0, eI g 233 F)] (fun vv ww => vv = some (.int (iI ((r_write F v).1))) ∧ ww = [(s0, eI g 233 ((r_write F v).2))])) 0 0 (va_A [(s0, eI g 233 F)] sz) := by
  have ho := hW.op
  refine met_w (by decide) (Nat.le_of_ble_eq_true rfl) ?_
  intro p e s m args below meth c Q ls A hx hb hml hown hts hl w hin hend
  obtain ⟨H, hH0⟩ : ∃ H, H = s.heap := ⟨_, rfl⟩
  obtain ⟨locs, hL0⟩ : ∃ locs : List Loc, locs = [] := ⟨_, rfl⟩
  rw [← hH0, ← hL0] at w
  rw [← hH0, ← hL0]
  have hl : lv_has ls 2 [(0, .ref s0), (1, .int (iI v))] := hl
  refine lv_iload_n hx hb dX6_writesOn_0 rfl (lv_at hl 1 rfl) ?_
  refine call_rS (As := [.int (iI v)]) (rest := []) hx hb (hml.trans hl.1.symm) hown hts w lk_RX6_129 (t_X6_isPage l g v (by omega)) [] rfl rfl rfl rfl (Nat.le_of_ble_eq_true rfl) ⟨Nat.le_of_ble_eq_true rfl, Nat.le_of_ble_eq_true rfl⟩ ⟨Nat.le_of_ble_eq_true rfl, Nat.le_of_ble_eq_true rfl⟩ dX6_writesOn_1 ?_
  refine ri_ifb_ne (tgt := 9) hx hb dX6_writesOn_4 (by decide) (fun c1 => ?_) (fun c1 => ?_)
  · refine lv_aload_n hx hb dX6_writesOn_9 rfl (lv_at hl 0 rfl) ?_
    refine call_rS (As := [.ref s0]) (rest := []) hx hb (hml.trans hl.1.symm) hown hts w lk_RX6_133 (t_X6_free l g s0 F  (hW.b) ) [0] rfl rfl rfl rfl (Nat.le_of_ble_eq_true rfl) ⟨Nat.le_of_ble_eq_true rfl, Nat.le_of_ble_eq_true rfl⟩ ⟨Nat.le_of_ble_eq_true rfl, Nat.le_of_ble_eq_true rfl⟩ dX6_writesOn_10 ?_
    have r2 := frees_rg F
    have J25 : ∀ (ls : Array Slot) (H : Heap) (locs : List Loc), lv_has ls 2 [(0, .ref s0), (1, .int (iI v))] → Wd g A [(s0, eI g 233 F)] s H locs → W p l e (rmm 5 0 0) s m args below meth c H locs 0 0 Q (F0 m 25 ls [.int (iI (if P_full F then 2 else 1)), .int (iI (r_frees F))]) := by
      intro ls H locs hl w
      refine ri_icmp_ge (tgt := 31) hx hb dX6_writesOn_25 (by decide) (by omega) (by omega) (fun c3 => ?_) (fun c3 => ?_)
      · have hW1 := wf_leaves hW v
        have hroom := room_leaves hW v (room_frees hW (by omega))
        refine lv_aload_n hx hb dX6_writesOn_31 rfl (lv_at hl 0 rfl) ?_
        refine lv_iload_n hx hb dX6_writesOn_32 rfl (lv_at hl 1 rfl) ?_
        refine call_wS (wr := []) (As := [.ref s0, .int (iI v)]) (rest := []) hx hb (hml.trans hl.1.symm) hown hts w lk_RX6_90 (fun sz => t_X6_leaves l g s0 _ F v (hW) (by omega) sz) [0] [] rfl rfl rfl rfl (by decide) rfl rfl (Nat.le_of_ble_eq_true rfl) ⟨Nat.le_of_ble_eq_true rfl, Nat.le_of_ble_eq_true rfl⟩ ⟨Nat.le_of_ble_eq_true rfl, Nat.le_of_ble_eq_true rfl⟩ dX6_writesOn_33 (fun v w1 H locs hr w => ?_)
        obtain ⟨rfl, rfl⟩ := hr
        have w : Wd g A [(s0, eI g 233 (r_leaves F v))] s H locs := w
        refine lv_aload_n hx hb dX6_writesOn_36 rfl (lv_at hl 0 rfl) ?_
        refine lv_iload_n hx hb dX6_writesOn_37 rfl (lv_at hl 1 rfl) ?_
        refine call_wS (wr := []) (As := [.ref s0, .int (iI v)]) (rest := []) hx hb (hml.trans hl.1.symm) hown hts w lk_RX6_117 (fun sz => t_X6_gives l g s0 _ (r_leaves F v) v (hW1) (by omega) hroom sz) [0] [] rfl rfl rfl rfl (by decide) rfl rfl (Nat.le_of_ble_eq_true rfl) ⟨Nat.le_of_ble_eq_true rfl, Nat.le_of_ble_eq_true rfl⟩ ⟨Nat.le_of_ble_eq_true rfl, Nat.le_of_ble_eq_true rfl⟩ dX6_writesOn_38 (fun v w1 H locs hr w => ?_)
        obtain ⟨rfl, rfl⟩ := hr
        have w : Wd g A [(s0, eI g 233 (r_gives (r_leaves F v) v))] s H locs := w
        exact hend.2 _ _ _ _ ⟨_, rfl, rfl⟩ _ _ dX6_writesOn_41 w ⟨(congrArg (fun z => some (Value.int (iI z))) (show r_givesK (r_leaves F v) v = (r_write F v).1 from by unfold r_write; first | rw [if_pos (by omega)] | (rw [if_neg (by omega), if_pos (by omega)]) | (rw [if_neg (by omega), if_neg (by omega)]))), (congrArg (fun z => [(s0, eI g 233 z)]) (show (r_gives (r_leaves F v) v) = ((r_write F v).2) from by unfold r_write; first | rw [if_pos (by omega)] | (rw [if_neg (by omega), if_pos (by omega)]) | (rw [if_neg (by omega), if_neg (by omega)])))⟩
      · refine ri_bipush hx hb dX6_writesOn_28 (by decide) ?_
        exact hend.2 _ _ _ _ ⟨_, rfl, rfl⟩ _ _ dX6_writesOn_30 w ⟨(congrArg (fun z => some (Value.int (iI z))) (show -3 = (r_write F v).1 from by unfold r_write; first | rw [if_pos (by omega)] | (rw [if_neg (by omega), if_pos (by omega)]) | (rw [if_neg (by omega), if_neg (by omega)]))), (congrArg (fun z => [(s0, eI g 233 z)]) (show F = ((r_write F v).2) from by unfold r_write; first | rw [if_pos (by omega)] | (rw [if_neg (by omega), if_pos (by omega)]) | (rw [if_neg (by omega), if_neg (by omega)])))⟩
    refine lv_aload_n hx hb dX6_writesOn_13 rfl (lv_at hl 0 rfl) ?_
    refine call_rS (As := [.ref s0]) (rest := [.int (iI (r_frees F))]) hx hb (hml.trans hl.1.symm) hown hts w lk_RX6_94 (t_X6_isOpenFull l g s0 _ F  (hW) ) [0] rfl rfl rfl rfl (Nat.le_of_ble_eq_true rfl) ⟨Nat.le_of_ble_eq_true rfl, Nat.le_of_ble_eq_true rfl⟩ ⟨Nat.le_of_ble_eq_true rfl, Nat.le_of_ble_eq_true rfl⟩ dX6_writesOn_14 ?_
    refine ri_ifb_eq (tgt := 24) hx hb dX6_writesOn_17 (by decide) (fun c4 => ?_) (fun c4 => ?_)
    · refine ri_iconst hx hb dX6_writesOn_24 ?_
      rw [show (if P_full F then (2 : Int) else 1) = 1 from if_neg (by assumption)] at J25
      exact J25 ls H locs (lv_sub hl [0, 1] rfl) w
    · refine ri_iconst hx hb dX6_writesOn_20 ?_
      refine lv_goto (tgt := 25) hx hb dX6_writesOn_21 (by decide) ?_
      rw [show (if P_full F then (2 : Int) else 1) = 2 from if_pos (by assumption)] at J25
      exact J25 ls H locs (lv_sub hl [0, 1] rfl) w
  · refine ri_iconst hx hb dX6_writesOn_7 ?_
    exact hend.2 _ _ _ _ ⟨_, rfl, rfl⟩ _ _ dX6_writesOn_8 w ⟨(congrArg (fun z => some (Value.int (iI z))) (show -1 = (r_write F v).1 from by unfold r_write; first | rw [if_pos (by omega)] | (rw [if_neg (by omega), if_pos (by omega)]) | (rw [if_neg (by omega), if_neg (by omega)]))), (congrArg (fun z => [(s0, eI g 233 z)]) (show F = ((r_write F v).2) from by unfold r_write; first | rw [if_pos (by omega)] | (rw [if_neg (by omega), if_pos (by omega)]) | (rw [if_neg (by omega), if_neg (by omega)])))⟩

set_option maxHeartbeats 4000000 in
set_option maxRecDepth 100000 in
theorem t_X6_passesOn (l : Launch) (g : GG) (s0 : Nat) (N : Int) (F : Int → Int) (v : Int) (hW : WF N F) (h1 : -2147483648 ≤ v ∧ v ≤ 2147483647) (hN : N + 10000 ≤ 200000000) (sz : Nat) : Met l yX6_passesOn (wm yX6_passesOn cX6_passesOn 4 (some .int)) (rmm 7 0 0) (pW g [(s0, eI g 233 F)] sz [.ref s0, .int (iI v)]) (qW g [(s0, eI g 233 F)] (fun vv ww => vv = some (.int (iI ((r_pass F v).1))) ∧ ww = [(s0, eI g 233 ((r_pass F v).2))])) 0 0 (va_A [(s0, eI g 233 F)] sz) := by
  refine met_w (by decide) (Nat.le_of_ble_eq_true rfl) ?_
  intro p e s m args below meth c Q ls A hx hb hml hown hts hl w hin hend
  obtain ⟨H, hH0⟩ : ∃ H, H = s.heap := ⟨_, rfl⟩
  obtain ⟨locs, hL0⟩ : ∃ locs : List Loc, locs = [] := ⟨_, rfl⟩
  rw [← hH0, ← hL0] at w
  rw [← hH0, ← hL0]
  have hl : lv_has ls 4 [(0, .ref s0), (1, .int (iI v))] := hl
  refine lv_iload_n hx hb dX6_passesOn_0 rfl (lv_at hl 1 rfl) ?_
  refine ri_iconst hx hb dX6_passesOn_1 ?_
  refine ri_bipush hx hb dX6_passesOn_2 (by decide) ?_
  refine call_rS (As := [.int (iI v), .int (iI 1), .int (iI 99)]) (rest := []) hx hb (hml.trans hl.1.symm) hown hts w lk_RX6_34 (t_X6_in l g v 1 99 (by omega) (by omega) (by omega)) [] rfl rfl rfl rfl (Nat.le_of_ble_eq_true rfl) ⟨Nat.le_of_ble_eq_true rfl, Nat.le_of_ble_eq_true rfl⟩ ⟨Nat.le_of_ble_eq_true rfl, Nat.le_of_ble_eq_true rfl⟩ dX6_passesOn_4 ?_
  refine ri_ifb_ne (tgt := 13) hx hb dX6_passesOn_7 (by decide) (fun c1 => ?_) (fun c1 => ?_)
  · refine lv_aload_n hx hb dX6_passesOn_13 rfl (lv_at hl 0 rfl) ?_
    refine ri_iconst hx hb dX6_passesOn_14 ?_
    refine ri_iald (v := F 0) hx hb w 0 rfl (by omega) (rfl) dX6_passesOn_15 (by decide) ?_
    have r2 := hW.bd 0
    refine lv_iload_n hx hb dX6_passesOn_16 rfl (lv_at hl 1 rfl) ?_
    refine ri_iadd (z := F 0 + v) hx hb dX6_passesOn_17 rfl ?_
    refine ri_ldc (n := 99999) hx hb hown hts (W0_of k_const_RX6_68 rfl) dX6_passesOn_18 (by decide) ?_
    refine ri_icmp_le (tgt := 26) hx hb dX6_passesOn_20 (by decide) (by omega) (by omega) (fun c3 => ?_) (fun c3 => ?_)
    · refine ri_iconst hx hb dX6_passesOn_26 ?_
      refine lv_istore_n (lv' := [(2, .int (iI 0)), (0, .ref s0), (1, .int (iI v))]) hx hb dX6_passesOn_27 rfl hl (by decide) rfl (fun ls hl => ?_)
      refine ri_iconst hx hb dX6_passesOn_28 ?_
      refine lv_istore_n (lv' := [(3, .int (iI 0)), (2, .int (iI 0)), (0, .ref s0), (1, .int (iI v))]) hx hb dX6_passesOn_29 rfl hl (by decide) rfl (fun ls hl => ?_)
      have L30 : ∀ (n : Nat) (xn xk : Int) (G : Int → Int), (xk + n = v) → (r_passL n G xn = r_passL v.toNat F 0) → (0 ≤ xk) → (WF (N + 100 * xk) G) → (0 ≤ xn ∧ xn ≤ 32 * xk) → ∀ (ls : Array Slot) (H : Heap) (locs : List Loc), lv_has ls 4 [(0, .ref s0), (1, .int (iI v)), (2, .int (iI xn)), (3, .int (iI xk))] → Wd g A [(s0, eI g 233 G)] s H locs → (∀ (ls : Array Slot) (H : Heap) (locs : List Loc), lv_has ls 4 [(2, .int (iI ((r_passL v.toNat F 0).1)))] → Wd g A [(s0, eI g 233 ((r_passL v.toNat F 0).2))] s H locs → W p l e (rmm 7 0 0) s m args below meth c H locs 0 0 Q (F0 m 48 ls [])) → W p l e (rmm 7 0 0) s m args below meth c H locs 0 0 Q (F0 m 30 ls []) := by
        intro n
        induction n with
        | zero =>
          intro xn xk G hn hX hlo hWG hxr ls H locs hl w kk30
          refine lv_iload_n hx hb dX6_passesOn_30 rfl (lv_at hl 3 rfl) ?_
          refine lv_iload_n hx hb dX6_passesOn_31 rfl (lv_at hl 1 rfl) ?_
          refine ri_icmp_ge (tgt := 48) hx hb dX6_passesOn_32 (by decide) (by omega) (by omega) (fun c4 => ?_) (fun c4 => ?_)
          · have e0 : (xn, G) = r_passL v.toNat F 0 := hX
            have e1 : xn = (r_passL v.toNat F 0).1 := congrArg Prod.fst e0
            have e2 : G = (r_passL v.toNat F 0).2 := congrArg Prod.snd e0
            rw [e1] at hl
            rw [e2] at w
            exact kk30  ls H locs  (lv_sub hl [2] rfl) w
          · exact absurd c4 (by omega)
        | succ n ih30 =>
          intro xn xk G hn hX hlo hWG hxr ls H locs hl w kk30
          refine lv_iload_n hx hb dX6_passesOn_30 rfl (lv_at hl 3 rfl) ?_
          refine lv_iload_n hx hb dX6_passesOn_31 rfl (lv_at hl 1 rfl) ?_
          refine ri_icmp_ge (tgt := 48) hx hb dX6_passesOn_32 (by decide) (by omega) (by omega) (fun c5 => ?_) (fun c5 => ?_)
          · exact absurd c5 (by omega)
          refine lv_iload_n hx hb dX6_passesOn_35 rfl (lv_at hl 2 rfl) ?_
          refine lv_aload_n hx hb dX6_passesOn_36 rfl (lv_at hl 0 rfl) ?_
          refine call_wS (wr := []) (As := [.ref s0]) (rest := [.int (iI xn)]) hx hb (hml.trans hl.1.symm) hown hts w lk_RX6_142 (fun sz => t_X6_ticksOn l g s0 _ G  (hWG) (by omega) sz) [0] [] rfl rfl rfl rfl (by decide) rfl rfl (Nat.le_of_ble_eq_true rfl) ⟨Nat.le_of_ble_eq_true rfl, Nat.le_of_ble_eq_true rfl⟩ ⟨Nat.le_of_ble_eq_true rfl, Nat.le_of_ble_eq_true rfl⟩ dX6_passesOn_37 (fun v w1 H locs hr w => ?_)
          obtain ⟨rfl, rfl⟩ := hr
          have w : Wd g A [(s0, eI g 233 ((r_tick G).2))] s H locs := w
          refine ri_iadd (z := (r_tick G).1 + xn) hx hb dX6_passesOn_40 (by omega) ?_
          refine lv_istore_n (lv' := [(2, .int (iI ((r_tick G).1 + xn))), (0, .ref s0), (1, .int (iI v)), (3, .int (iI xk))]) hx hb dX6_passesOn_41 rfl hl (by decide) rfl (fun ls hl => ?_)
          refine ri_iinc (k := 3) (z := xk + 1) (lv' := [(3, .int (iI (xk + 1))), (2, .int (iI ((r_tick G).1 + xn))), (0, .ref s0), (1, .int (iI v))]) hx hb dX6_passesOn_42 hl rfl (by omega) (by decide) rfl (fun ls hl => ?_)
          refine lv_goto (tgt := 30) hx hb dX6_passesOn_45 (by decide) ?_
          exact ih30 ((r_tick G).1 + xn) (xk + 1) ((r_tick G).2) (by omega) ((by rw [← hX, Int.add_comm]; rfl)) (by omega) ((wf_tick hWG (by omega)).cast (by omega)) ((by have := tick_rg hWG; omega)) ls H locs (lv_sub hl [2, 3, 1, 0] rfl) w kk30
      refine L30 v.toNat 0 0 (F) (by omega) (rfl) (by omega) (by rw [show N + 100 * (0 : Int) = N from by omega]; exact hW) (by omega) ls H locs (lv_sub hl [2, 3, 1, 0] rfl) w (fun ls H locs hl w => ?_)
      refine lv_iload_n hx hb dX6_passesOn_48 rfl (lv_at hl 0 rfl) ?_
      exact hend.2 _ _ _ _ ⟨_, rfl, rfl⟩ _ _ dX6_passesOn_49 w ⟨(congrArg (fun z => some (Value.int (iI z))) (show (r_passL v.toNat F 0).1 = (r_pass F v).1 from by unfold r_pass; first | rw [if_pos (by omega)] | (rw [if_neg (by omega), if_pos (by omega)]) | (rw [if_neg (by omega), if_neg (by omega)]))), (congrArg (fun z => [(s0, eI g 233 z)]) (show ((r_passL v.toNat F 0).2) = ((r_pass F v).2) from by unfold r_pass; first | rw [if_pos (by omega)] | (rw [if_neg (by omega), if_pos (by omega)]) | (rw [if_neg (by omega), if_neg (by omega)])))⟩
    · refine ri_bipush hx hb dX6_passesOn_23 (by decide) ?_
      exact hend.2 _ _ _ _ ⟨_, rfl, rfl⟩ _ _ dX6_passesOn_25 w ⟨(congrArg (fun z => some (Value.int (iI z))) (show -4 = (r_pass F v).1 from by unfold r_pass; first | rw [if_pos (by omega)] | (rw [if_neg (by omega), if_pos (by omega)]) | (rw [if_neg (by omega), if_neg (by omega)]))), (congrArg (fun z => [(s0, eI g 233 z)]) (show F = ((r_pass F v).2) from by unfold r_pass; first | rw [if_pos (by omega)] | (rw [if_neg (by omega), if_pos (by omega)]) | (rw [if_neg (by omega), if_neg (by omega)])))⟩
  · refine ri_bipush hx hb dX6_passesOn_10 (by decide) ?_
    exact hend.2 _ _ _ _ ⟨_, rfl, rfl⟩ _ _ dX6_passesOn_12 w ⟨(congrArg (fun z => some (Value.int (iI z))) (show -2 = (r_pass F v).1 from by unfold r_pass; first | rw [if_pos (by omega)] | (rw [if_neg (by omega), if_pos (by omega)]) | (rw [if_neg (by omega), if_neg (by omega)]))), (congrArg (fun z => [(s0, eI g 233 z)]) (show F = ((r_pass F v).2) from by unfold r_pass; first | rw [if_pos (by omega)] | (rw [if_neg (by omega), if_pos (by omega)]) | (rw [if_neg (by omega), if_neg (by omega)])))⟩
