set_option maxHeartbeats 4000000 in
set_option maxRecDepth 100000 in
theorem t_X6_moves (l : Launch) (g : GG) (s0 : Nat) (N : Int) (F : Int → Int) (b : Int) (hW : WF N F) (hb0 : 0 ≤ b ∧ b < 6) (hlow : r_low F b ≠ -5) (hN : N + 2 ≤ 200000000) (sz : Nat) : Met l yX6_moves (wm yX6_moves cX6_moves 3 (some .boolean)) (rmm 5 0 0) (pW g [(s0, eI g 233 F)] sz [.ref s0, .int (iI b)]) (qW g [(s0, eI g 233 F)] (fun vv ww => vv = some (.int (iI (if P_moves (r_shut F b) b then 1 else 0))) ∧ ww = [(s0, eI g 233 (r_moves F b))])) 0 0 (va_A [(s0, eI g 233 F)] sz) := by
  have hW1 := wf_shut hW b
  have hlo1 : r_low (r_shut F b) b ≠ -5 := by rw [low_shut]; exact hlow
  have hlo2 := low_rg (r_shut F b) b
  refine met_w (by decide) (Nat.le_of_ble_eq_true rfl) ?_
  intro p e s m args below meth c Q ls A hx hb hml hown hts hl w hin hend
  obtain ⟨H, hH0⟩ : ∃ H, H = s.heap := ⟨_, rfl⟩
  obtain ⟨locs, hL0⟩ : ∃ locs : List Loc, locs = [] := ⟨_, rfl⟩
  rw [← hH0, ← hL0] at w
  rw [← hH0, ← hL0]
  have hl : lv_has ls 3 [(0, .ref s0), (1, .int (iI b))] := hl
  refine lv_aload_n hx hb dX6_moves_0 rfl (lv_at hl 0 rfl) ?_
  refine lv_iload_n hx hb dX6_moves_1 rfl (lv_at hl 1 rfl) ?_
  refine call_wS (wr := []) (As := [.ref s0, .int (iI b)]) (rest := []) hx hb (hml.trans hl.1.symm) hown hts w lk_RX6_105 (fun sz => t_X6_shuts l g s0 F b (hW.b) (by omega) sz) [0] [] rfl rfl rfl rfl (by decide) rfl rfl (Nat.le_of_ble_eq_true rfl) ⟨Nat.le_of_ble_eq_true rfl, Nat.le_of_ble_eq_true rfl⟩ ⟨Nat.le_of_ble_eq_true rfl, Nat.le_of_ble_eq_true rfl⟩ dX6_moves_2 (fun v w1 H locs hr w => ?_)
  obtain ⟨rfl, rfl⟩ := hr
  have w : Wd g A [(s0, eI g 233 (r_shut F b))] s H locs := w
  refine lv_aload_n hx hb dX6_moves_5 rfl (lv_at hl 0 rfl) ?_
  refine lv_iload_n hx hb dX6_moves_6 rfl (lv_at hl 1 rfl) ?_
  refine call_rS (As := [.ref s0, .int (iI b)]) (rest := []) hx hb (hml.trans hl.1.symm) hown hts w lk_RX6_108 (t_X6_lowestPage l g s0 (r_shut F b) b (hW1.b) (by omega)) [0] rfl rfl rfl rfl (Nat.le_of_ble_eq_true rfl) ⟨Nat.le_of_ble_eq_true rfl, Nat.le_of_ble_eq_true rfl⟩ ⟨Nat.le_of_ble_eq_true rfl, Nat.le_of_ble_eq_true rfl⟩ dX6_moves_7 ?_
  have r1 := low_rg (r_shut F b) b
  refine lv_istore_n (lv' := [(2, .int (iI (r_low (r_shut F b) b))), (0, .ref s0), (1, .int (iI b))]) hx hb dX6_moves_10 rfl hl (by decide) rfl (fun ls hl => ?_)
  refine lv_aload_n hx hb dX6_moves_11 rfl (lv_at hl 1 rfl) ?_
  refine lv_iload_n hx hb dX6_moves_12 rfl (lv_at hl 0 rfl) ?_
  refine call_rS (As := [.ref s0, .int (iI (r_low (r_shut F b) b))]) (rest := []) hx hb (hml.trans hl.1.symm) hown hts w lk_RX6_111 (t_X6_readsLeft l g s0 _ (r_shut F b) (r_low (r_shut F b) b) (hW1) (by omega)) [0] rfl rfl rfl rfl (Nat.le_of_ble_eq_true rfl) ⟨Nat.le_of_ble_eq_true rfl, Nat.le_of_ble_eq_true rfl⟩ ⟨Nat.le_of_ble_eq_true rfl, Nat.le_of_ble_eq_true rfl⟩ dX6_moves_13 ?_
  have r2 := left_rg (r_shut F b) (r_low (r_shut F b) b)
  refine ri_if_eq (tgt := 35) hx hb dX6_moves_16 (by decide) (by omega) (fun c3 => ?_) (fun c3 => ?_)
  · refine ri_iconst hx hb dX6_moves_35 ?_
    exact hend.2 _ _ _ _ ⟨_, rfl, (nz (by omega))⟩ _ _ dX6_moves_36 w ⟨(congrArg (fun z => some (Value.int (iI z))) (show 0 = (if P_moves (r_shut F b) b then 1 else 0) from by exact (if_neg (by first | exact fun hh => hh (Or.inl (by assumption)) | exact fun hh => hh (Or.inr ⟨by assumption, by assumption⟩))).symm)), (congrArg (fun z => [(s0, eI g 233 z)]) (show (r_shut F b) = (r_moves F b) from by unfold r_moves; first | rw [if_pos (by assumption)]; rfl | rw [if_neg (by first | exact fun hh => hh (Or.inl (by assumption)) | exact fun hh => hh (Or.inr ⟨by assumption, by assumption⟩))]))⟩
  · refine lv_aload_n hx hb dX6_moves_19 rfl (lv_at hl 1 rfl) ?_
    refine call_rS (As := [.ref s0]) (rest := []) hx hb (hml.trans hl.1.symm) hown hts w lk_RX6_94 (t_X6_isOpenFull l g s0 _ (r_shut F b)  (hW1) ) [0] rfl rfl rfl rfl (Nat.le_of_ble_eq_true rfl) ⟨Nat.le_of_ble_eq_true rfl, Nat.le_of_ble_eq_true rfl⟩ ⟨Nat.le_of_ble_eq_true rfl, Nat.le_of_ble_eq_true rfl⟩ dX6_moves_20 ?_
    refine ri_ifb_eq (tgt := 37) hx hb dX6_moves_23 (by decide) (fun c4 => ?_) (fun c4 => ?_)
    · have hm : P_moves (r_shut F b) b := fun hh => hh.elim (fun q => absurd q (by assumption)) (fun q => by first | exact absurd q.1 (by assumption) | exact absurd q.2 (by assumption))
      have hW2 := wf_reads hW1 (r := (r_low (r_shut F b) b)) (by omega) (by assumption) (by omega)
      have hpl := hW1.pl (k := (r_low (r_shut F b) b)) (by omega) (by omega)
      have hrh := reads_hold (r_shut F b) (r_low (r_shut F b) b) (r_low (r_shut F b) b) (by omega) (by omega)
      have hroom := room_reads hW1 (fun hh => hm (Or.inr hh)) (r_low (r_shut F b) b) (by omega)
      refine lv_aload_n hx hb dX6_moves_37 rfl (lv_at hl 1 rfl) ?_
      refine lv_iload_n hx hb dX6_moves_38 rfl (lv_at hl 0 rfl) ?_
      refine call_wS (wr := []) (As := [.ref s0, .int (iI (r_low (r_shut F b) b))]) (rest := []) hx hb (hml.trans hl.1.symm) hown hts w lk_RX6_114 (fun sz => t_X6_reads l g s0 _ (r_shut F b) (r_low (r_shut F b) b) (hW1) (by omega) sz) [0] [] rfl rfl rfl rfl (by decide) rfl rfl (Nat.le_of_ble_eq_true rfl) ⟨Nat.le_of_ble_eq_true rfl, Nat.le_of_ble_eq_true rfl⟩ ⟨Nat.le_of_ble_eq_true rfl, Nat.le_of_ble_eq_true rfl⟩ dX6_moves_39 (fun v w1 H locs hr w => ?_)
      obtain ⟨rfl, rfl⟩ := hr
      have w : Wd g A [(s0, eI g 233 (r_reads (r_shut F b) (r_low (r_shut F b) b)))] s H locs := w
      refine lv_aload_n hx hb dX6_moves_42 rfl (lv_at hl 1 rfl) ?_
      refine lv_aload_n hx hb dX6_moves_43 rfl (lv_at hl 1 rfl) ?_
      refine lv_iload_n hx hb dX6_moves_44 rfl (lv_at hl 0 rfl) ?_
      refine call_rS (As := [.ref s0, .int (iI (r_low (r_shut F b) b))]) (rest := [.ref s0]) hx hb (hml.trans hl.1.symm) hown hts w lk_RX6_53 (t_X6_holds l g s0 (r_reads (r_shut F b) (r_low (r_shut F b) b)) (r_low (r_shut F b) b) (3 * r_low (r_shut F b) b + 65) (by omega) (by omega)) [0] rfl rfl rfl rfl (Nat.le_of_ble_eq_true rfl) ⟨Nat.le_of_ble_eq_true rfl, Nat.le_of_ble_eq_true rfl⟩ ⟨Nat.le_of_ble_eq_true rfl, Nat.le_of_ble_eq_true rfl⟩ dX6_moves_45 ?_
      have r5 := hW2.bd (3 * r_low (r_shut F b) b + 65)
      refine call_wS (wr := []) (As := [.ref s0, .int (iI ((r_reads (r_shut F b) (r_low (r_shut F b) b)) (3 * r_low (r_shut F b) b + 65)))]) (rest := []) hx hb (hml.trans hl.1.symm) hown hts w lk_RX6_117 (fun sz => t_X6_gives l g s0 _ (r_reads (r_shut F b) (r_low (r_shut F b) b)) ((r_reads (r_shut F b) (r_low (r_shut F b) b)) (3 * r_low (r_shut F b) b + 65)) (hW2) (by omega) hroom sz) [0] [] rfl rfl rfl rfl (by decide) rfl rfl (Nat.le_of_ble_eq_true rfl) ⟨Nat.le_of_ble_eq_true rfl, Nat.le_of_ble_eq_true rfl⟩ ⟨Nat.le_of_ble_eq_true rfl, Nat.le_of_ble_eq_true rfl⟩ dX6_moves_48 (fun v w1 H locs hr w => ?_)
      obtain ⟨rfl, rfl⟩ := hr
      have w : Wd g A [(s0, eI g 233 (r_gives (r_reads (r_shut F b) (r_low (r_shut F b) b)) ((r_reads (r_shut F b) (r_low (r_shut F b) b)) (3 * r_low (r_shut F b) b + 65))))] s H locs := w
      refine lv_pop hx hb dX6_moves_51 rfl ?_
      refine lv_aload_n hx hb dX6_moves_52 rfl (lv_at hl 1 rfl) ?_
      refine ri_bipush hx hb dX6_moves_53 (by decide) ?_
      refine lv_dup2_11 hx hb dX6_moves_55 rfl rfl ?_
      refine ri_iald (v := (r_gives (r_reads (r_shut F b) (r_low (r_shut F b) b)) ((r_reads (r_shut F b) (r_low (r_shut F b) b)) (3 * r_low (r_shut F b) b + 65))) 9) hx hb w 0 rfl (by omega) (rfl) dX6_moves_56 (by decide) ?_
      refine ri_iconst hx hb dX6_moves_57 ?_
      refine ri_iadd (z := (r_gives (r_reads (r_shut F b) (r_low (r_shut F b) b)) ((r_reads (r_shut F b) (r_low (r_shut F b) b)) (3 * r_low (r_shut F b) b + 65))) 9 + 1) hx hb dX6_moves_58 rfl ?_
      refine ri_iast hx hb w 0 rfl (by omega) dX6_moves_59 (by decide) (fun H locs w => ?_)
      have w : Wd g A [(s0, eI g 233 (up (r_gives (r_reads (r_shut F b) (r_low (r_shut F b) b)) ((r_reads (r_shut F b) (r_low (r_shut F b) b)) (3 * r_low (r_shut F b) b + 65))) 9 ((r_gives (r_reads (r_shut F b) (r_low (r_shut F b) b)) ((r_reads (r_shut F b) (r_low (r_shut F b) b)) (3 * r_low (r_shut F b) b + 65))) 9 + 1)))] s H locs := w
      refine ri_iconst hx hb dX6_moves_60 ?_
      exact hend.2 _ _ _ _ ⟨_, rfl, (nz (by omega))⟩ _ _ dX6_moves_61 w ⟨(congrArg (fun z => some (Value.int (iI z))) (show 1 = (if P_moves (r_shut F b) b then 1 else 0) from by first | exact (if_pos (by assumption)).symm)), (congrArg (fun z => [(s0, eI g 233 z)]) (show (up (r_gives (r_reads (r_shut F b) (r_low (r_shut F b) b)) ((r_reads (r_shut F b) (r_low (r_shut F b) b)) (3 * r_low (r_shut F b) b + 65))) 9 ((r_gives (r_reads (r_shut F b) (r_low (r_shut F b) b)) ((r_reads (r_shut F b) (r_low (r_shut F b) b)) (3 * r_low (r_shut F b) b + 65))) 9 + 1)) = (r_moves F b) from by unfold r_moves; first | rw [if_pos (by assumption)]; rfl | rw [if_neg (by first | exact fun hh => hh (Or.inl (by assumption)) | exact fun hh => hh (Or.inr ⟨by assumption, by assumption⟩))]))⟩
    · refine lv_aload_n hx hb dX6_moves_26 rfl (lv_at hl 1 rfl) ?_
      refine call_rS (As := [.ref s0]) (rest := []) hx hb (hml.trans hl.1.symm) hown hts w lk_RX6_98 (t_X6_bestFree l g s0 (r_shut F b)  (hW1.b) ) [0] rfl rfl rfl rfl (Nat.le_of_ble_eq_true rfl) ⟨Nat.le_of_ble_eq_true rfl, Nat.le_of_ble_eq_true rfl⟩ ⟨Nat.le_of_ble_eq_true rfl, Nat.le_of_ble_eq_true rfl⟩ dX6_moves_27 ?_
      have r6 := best_rg (r_shut F b)
      refine ri_bipush hx hb dX6_moves_30 (by decide) ?_
      refine ri_icmp_ne (tgt := 37) hx hb dX6_moves_32 (by decide) (by omega) (by omega) (fun c7 => ?_) (fun c7 => ?_)
      · have hm : P_moves (r_shut F b) b := fun hh => hh.elim (fun q => absurd q (by assumption)) (fun q => by first | exact absurd q.1 (by assumption) | exact absurd q.2 (by assumption))
        have hW2 := wf_reads hW1 (r := (r_low (r_shut F b) b)) (by omega) (by assumption) (by omega)
        have hpl := hW1.pl (k := (r_low (r_shut F b) b)) (by omega) (by omega)
        have hrh := reads_hold (r_shut F b) (r_low (r_shut F b) b) (r_low (r_shut F b) b) (by omega) (by omega)
        have hroom := room_reads hW1 (fun hh => hm (Or.inr hh)) (r_low (r_shut F b) b) (by omega)
        refine lv_aload_n hx hb dX6_moves_37 rfl (lv_at hl 1 rfl) ?_
        refine lv_iload_n hx hb dX6_moves_38 rfl (lv_at hl 0 rfl) ?_
        refine call_wS (wr := []) (As := [.ref s0, .int (iI (r_low (r_shut F b) b))]) (rest := []) hx hb (hml.trans hl.1.symm) hown hts w lk_RX6_114 (fun sz => t_X6_reads l g s0 _ (r_shut F b) (r_low (r_shut F b) b) (hW1) (by omega) sz) [0] [] rfl rfl rfl rfl (by decide) rfl rfl (Nat.le_of_ble_eq_true rfl) ⟨Nat.le_of_ble_eq_true rfl, Nat.le_of_ble_eq_true rfl⟩ ⟨Nat.le_of_ble_eq_true rfl, Nat.le_of_ble_eq_true rfl⟩ dX6_moves_39 (fun v w1 H locs hr w => ?_)
        obtain ⟨rfl, rfl⟩ := hr
        have w : Wd g A [(s0, eI g 233 (r_reads (r_shut F b) (r_low (r_shut F b) b)))] s H locs := w
        refine lv_aload_n hx hb dX6_moves_42 rfl (lv_at hl 1 rfl) ?_
        refine lv_aload_n hx hb dX6_moves_43 rfl (lv_at hl 1 rfl) ?_
        refine lv_iload_n hx hb dX6_moves_44 rfl (lv_at hl 0 rfl) ?_
        refine call_rS (As := [.ref s0, .int (iI (r_low (r_shut F b) b))]) (rest := [.ref s0]) hx hb (hml.trans hl.1.symm) hown hts w lk_RX6_53 (t_X6_holds l g s0 (r_reads (r_shut F b) (r_low (r_shut F b) b)) (r_low (r_shut F b) b) (3 * r_low (r_shut F b) b + 65) (by omega) (by omega)) [0] rfl rfl rfl rfl (Nat.le_of_ble_eq_true rfl) ⟨Nat.le_of_ble_eq_true rfl, Nat.le_of_ble_eq_true rfl⟩ ⟨Nat.le_of_ble_eq_true rfl, Nat.le_of_ble_eq_true rfl⟩ dX6_moves_45 ?_
        have r8 := hW2.bd (3 * r_low (r_shut F b) b + 65)
        refine call_wS (wr := []) (As := [.ref s0, .int (iI ((r_reads (r_shut F b) (r_low (r_shut F b) b)) (3 * r_low (r_shut F b) b + 65)))]) (rest := []) hx hb (hml.trans hl.1.symm) hown hts w lk_RX6_117 (fun sz => t_X6_gives l g s0 _ (r_reads (r_shut F b) (r_low (r_shut F b) b)) ((r_reads (r_shut F b) (r_low (r_shut F b) b)) (3 * r_low (r_shut F b) b + 65)) (hW2) (by omega) hroom sz) [0] [] rfl rfl rfl rfl (by decide) rfl rfl (Nat.le_of_ble_eq_true rfl) ⟨Nat.le_of_ble_eq_true rfl, Nat.le_of_ble_eq_true rfl⟩ ⟨Nat.le_of_ble_eq_true rfl, Nat.le_of_ble_eq_true rfl⟩ dX6_moves_48 (fun v w1 H locs hr w => ?_)
        obtain ⟨rfl, rfl⟩ := hr
        have w : Wd g A [(s0, eI g 233 (r_gives (r_reads (r_shut F b) (r_low (r_shut F b) b)) ((r_reads (r_shut F b) (r_low (r_shut F b) b)) (3 * r_low (r_shut F b) b + 65))))] s H locs := w
        refine lv_pop hx hb dX6_moves_51 rfl ?_
        refine lv_aload_n hx hb dX6_moves_52 rfl (lv_at hl 1 rfl) ?_
        refine ri_bipush hx hb dX6_moves_53 (by decide) ?_
        refine lv_dup2_11 hx hb dX6_moves_55 rfl rfl ?_
        refine ri_iald (v := (r_gives (r_reads (r_shut F b) (r_low (r_shut F b) b)) ((r_reads (r_shut F b) (r_low (r_shut F b) b)) (3 * r_low (r_shut F b) b + 65))) 9) hx hb w 0 rfl (by omega) (rfl) dX6_moves_56 (by decide) ?_
        refine ri_iconst hx hb dX6_moves_57 ?_
        refine ri_iadd (z := (r_gives (r_reads (r_shut F b) (r_low (r_shut F b) b)) ((r_reads (r_shut F b) (r_low (r_shut F b) b)) (3 * r_low (r_shut F b) b + 65))) 9 + 1) hx hb dX6_moves_58 rfl ?_
        refine ri_iast hx hb w 0 rfl (by omega) dX6_moves_59 (by decide) (fun H locs w => ?_)
        have w : Wd g A [(s0, eI g 233 (up (r_gives (r_reads (r_shut F b) (r_low (r_shut F b) b)) ((r_reads (r_shut F b) (r_low (r_shut F b) b)) (3 * r_low (r_shut F b) b + 65))) 9 ((r_gives (r_reads (r_shut F b) (r_low (r_shut F b) b)) ((r_reads (r_shut F b) (r_low (r_shut F b) b)) (3 * r_low (r_shut F b) b + 65))) 9 + 1)))] s H locs := w
        refine ri_iconst hx hb dX6_moves_60 ?_
        exact hend.2 _ _ _ _ ⟨_, rfl, (nz (by omega))⟩ _ _ dX6_moves_61 w ⟨(congrArg (fun z => some (Value.int (iI z))) (show 1 = (if P_moves (r_shut F b) b then 1 else 0) from by first | exact (if_pos (by assumption)).symm)), (congrArg (fun z => [(s0, eI g 233 z)]) (show (up (r_gives (r_reads (r_shut F b) (r_low (r_shut F b) b)) ((r_reads (r_shut F b) (r_low (r_shut F b) b)) (3 * r_low (r_shut F b) b + 65))) 9 ((r_gives (r_reads (r_shut F b) (r_low (r_shut F b) b)) ((r_reads (r_shut F b) (r_low (r_shut F b) b)) (3 * r_low (r_shut F b) b + 65))) 9 + 1)) = (r_moves F b) from by unfold r_moves; first | rw [if_pos (by assumption)]; rfl | rw [if_neg (by first | exact fun hh => hh (Or.inl (by assumption)) | exact fun hh => hh (Or.inr ⟨by assumption, by assumption⟩))]))⟩
      · refine ri_iconst hx hb dX6_moves_35 ?_
        exact hend.2 _ _ _ _ ⟨_, rfl, (nz (by omega))⟩ _ _ dX6_moves_36 w ⟨(congrArg (fun z => some (Value.int (iI z))) (show 0 = (if P_moves (r_shut F b) b then 1 else 0) from by exact (if_neg (by first | exact fun hh => hh (Or.inl (by assumption)) | exact fun hh => hh (Or.inr ⟨by assumption, by assumption⟩))).symm)), (congrArg (fun z => [(s0, eI g 233 z)]) (show (r_shut F b) = (r_moves F b) from by unfold r_moves; first | rw [if_pos (by assumption)]; rfl | rw [if_neg (by first | exact fun hh => hh (Or.inl (by assumption)) | exact fun hh => hh (Or.inr ⟨by assumption, by assumption⟩))]))⟩

set_option maxHeartbeats 4000000 in
set_option maxRecDepth 100000 in
theorem t_X6_erases (l : Launch) (g : GG) (s0 : Nat) (N : Int) (F : Int → Int) (b : Int) (hW : WF N F) (hb0 : 0 ≤ b ∧ b < 6) (sz : Nat) : Met l yX6_erases (wm yX6_erases cX6_erases 4 none) (rmm 1 0 0) (pW g [(s0, eI g 233 F)] sz [.ref s0, .int (iI b)]) (qW g [(s0, eI g 233 F)] (fun vv ww => vv = none ∧ ww = [(s0, eI g 233 (r_erases F b))])) 0 0 (va_A [(s0, eI g 233 F)] sz) := by
  have hB1 := (wf_shut hW b).b
  refine met_w (by decide) (Nat.le_of_ble_eq_true rfl) ?_
  intro p e s m args below meth c Q ls A hx hb hml hown hts hl w hin hend
  obtain ⟨H, hH0⟩ : ∃ H, H = s.heap := ⟨_, rfl⟩
  obtain ⟨locs, hL0⟩ : ∃ locs : List Loc, locs = [] := ⟨_, rfl⟩
  rw [← hH0, ← hL0] at w
  rw [← hH0, ← hL0]
  have hl : lv_has ls 4 [(0, .ref s0), (1, .int (iI b))] := hl
  refine lv_aload_n hx hb dX6_erases_0 rfl (lv_at hl 0 rfl) ?_
  refine lv_iload_n hx hb dX6_erases_1 rfl (lv_at hl 1 rfl) ?_
  refine call_wS (wr := []) (As := [.ref s0, .int (iI b)]) (rest := []) hx hb (hml.trans hl.1.symm) hown hts w lk_RX6_105 (fun sz => t_X6_shuts l g s0 F b (hW.b) (by omega) sz) [0] [] rfl rfl rfl rfl (by decide) rfl rfl (Nat.le_of_ble_eq_true rfl) ⟨Nat.le_of_ble_eq_true rfl, Nat.le_of_ble_eq_true rfl⟩ ⟨Nat.le_of_ble_eq_true rfl, Nat.le_of_ble_eq_true rfl⟩ dX6_erases_2 (fun v w1 H locs hr w => ?_)
  obtain ⟨rfl, rfl⟩ := hr
  have w : Wd g A [(s0, eI g 233 (r_shut F b))] s H locs := w
  refine ri_iconst hx hb dX6_erases_5 ?_
  refine lv_istore_n (lv' := [(2, .int (iI 0)), (0, .ref s0), (1, .int (iI b))]) hx hb dX6_erases_6 rfl hl (by decide) rfl (fun ls hl => ?_)
  refine ri_bipush hx hb dX6_erases_7 (by decide) ?_
  refine lv_iload_n hx hb dX6_erases_9 rfl (lv_at hl 2 rfl) ?_
  refine ri_imul (z := 8 * b) hx hb dX6_erases_10 rfl ?_
  refine lv_istore_n (lv' := [(3, .int (iI (8 * b))), (2, .int (iI 0)), (0, .ref s0), (1, .int (iI b))]) hx hb dX6_erases_11 rfl hl (by decide) rfl (fun ls hl => ?_)
  have L12 : ∀ (n : Nat) (xm xk : Int) (G : Int → Int), (xk + n = 8 * b + 8) → (fo n xk (xm, G) s_er = r_erA (r_shut F b) b) → (8 * b ≤ xk) → (0 ≤ xm ∧ xm ≤ 300000000) → (Bd G) → ∀ (ls : Array Slot) (H : Heap) (locs : List Loc), lv_has ls 4 [(0, .ref s0), (1, .int (iI b)), (2, .int (iI xm)), (3, .int (iI xk))] → Wd g A [(s0, eI g 233 G)] s H locs → (∀ (hB2 : Bd (r_erA (r_shut F b) b).2) (ls : Array Slot) (H : Heap) (locs : List Loc), lv_has ls 4 [(0, .ref s0), (1, .int (iI b)), (2, .int (iI ((r_erA (r_shut F b) b).1)))] → Wd g A [(s0, eI g 233 ((r_erA (r_shut F b) b).2))] s H locs → W p l e (rmm 1 0 0) s m args below meth c H locs 0 0 Q (F0 m 68 ls [])) → W p l e (rmm 1 0 0) s m args below meth c H locs 0 0 Q (F0 m 12 ls []) := by
    intro n
    induction n with
    | zero =>
      intro xm xk G hn hX hlo hm hB ls H locs hl w kk12
      refine lv_iload_n hx hb dX6_erases_12 rfl (lv_at hl 3 rfl) ?_
      refine ri_bipush hx hb dX6_erases_13 (by decide) ?_
      refine lv_iload_n hx hb dX6_erases_15 rfl (lv_at hl 1 rfl) ?_
      refine ri_imul (z := 8 * b) hx hb dX6_erases_16 rfl ?_
      refine ri_bipush hx hb dX6_erases_17 (by decide) ?_
      refine ri_iadd (z := 8 * b + 8) hx hb dX6_erases_19 rfl ?_
      refine ri_icmp_ge (tgt := 68) hx hb dX6_erases_20 (by decide) (by omega) (by omega) (fun c1 => ?_) (fun c1 => ?_)
      · have e1 : xm = (r_erA (r_shut F b) b).1 := congrArg Prod.fst hX
        have e2 : G = (r_erA (r_shut F b) b).2 := congrArg Prod.snd hX
        rw [e1] at hl
        rw [e2] at w
        exact kk12 (by rw [← e2]; exact hB) ls H locs  (lv_sub hl [0, 1, 2] rfl) w
      · exact absurd c1 (by omega)
    | succ n ih12 =>
      intro xm xk G hn hX hlo hm hB ls H locs hl w kk12
      refine lv_iload_n hx hb dX6_erases_12 rfl (lv_at hl 3 rfl) ?_
      refine ri_bipush hx hb dX6_erases_13 (by decide) ?_
      refine lv_iload_n hx hb dX6_erases_15 rfl (lv_at hl 1 rfl) ?_
      refine ri_imul (z := 8 * b) hx hb dX6_erases_16 rfl ?_
      refine ri_bipush hx hb dX6_erases_17 (by decide) ?_
      refine ri_iadd (z := 8 * b + 8) hx hb dX6_erases_19 rfl ?_
      refine ri_icmp_ge (tgt := 68) hx hb dX6_erases_20 (by decide) (by omega) (by omega) (fun c2 => ?_) (fun c2 => ?_)
      · exact absurd c2 (by omega)
      refine lv_aload_n hx hb dX6_erases_23 rfl (lv_at hl 0 rfl) ?_
      refine lv_iload_n hx hb dX6_erases_24 rfl (lv_at hl 3 rfl) ?_
      refine call_rS (As := [.ref s0, .int (iI xk)]) (rest := []) hx hb (hml.trans hl.1.symm) hown hts w lk_RX6_72 (t_X6_weak l g s0 G xk (3 * xk + 66) (by omega) (by omega)) [0] rfl rfl rfl rfl (Nat.le_of_ble_eq_true rfl) ⟨Nat.le_of_ble_eq_true rfl, Nat.le_of_ble_eq_true rfl⟩ ⟨Nat.le_of_ble_eq_true rfl, Nat.le_of_ble_eq_true rfl⟩ dX6_erases_25 ?_
      have r3 := hB.bd (3 * xk + 66)
      refine lv_iload_n hx hb dX6_erases_28 rfl (lv_at hl 2 rfl) ?_
      refine ri_icmp_le (tgt := 40) hx hb dX6_erases_29 (by decide) (by omega) (by omega) (fun c4 => ?_) (fun c4 => ?_)
      · refine lv_iload_n hx hb dX6_erases_40 rfl (lv_at hl 2 rfl) ?_
        refine lv_istore_n (lv' := [(2, .int (iI xm)), (0, .ref s0), (1, .int (iI b)), (3, .int (iI xk))]) hx hb dX6_erases_41 rfl hl (by decide) rfl (fun ls hl => ?_)
        refine lv_aload_n hx hb dX6_erases_42 rfl (lv_at hl 1 rfl) ?_
        refine ri_bipush hx hb dX6_erases_43 (by decide) ?_
        refine ri_iconst hx hb dX6_erases_45 ?_
        refine lv_iload_n hx hb dX6_erases_46 rfl (lv_at hl 3 rfl) ?_
        refine ri_imul (z := 3 * xk) hx hb dX6_erases_47 rfl ?_
        refine ri_iadd (z := 3 * xk + 65) hx hb dX6_erases_48 (by omega) ?_
        refine ri_iconst hx hb dX6_erases_49 ?_
        refine ri_iast hx hb w 0 rfl (by omega) dX6_erases_50 (by decide) (fun H locs w => ?_)
        have w : Wd g A [(s0, eI g 233 (up G (3 * xk + 65) (-1)))] s H locs := w
        refine lv_aload_n hx hb dX6_erases_51 rfl (lv_at hl 1 rfl) ?_
        refine ri_bipush hx hb dX6_erases_52 (by decide) ?_
        refine ri_iconst hx hb dX6_erases_54 ?_
        refine lv_iload_n hx hb dX6_erases_55 rfl (lv_at hl 3 rfl) ?_
        refine ri_imul (z := 3 * xk) hx hb dX6_erases_56 rfl ?_
        refine ri_iadd (z := 3 * xk + 65) hx hb dX6_erases_57 (by omega) ?_
        refine ri_iconst hx hb dX6_erases_58 ?_
        refine ri_iadd (z := 3 * xk + 66) hx hb dX6_erases_59 (by omega) ?_
        refine ri_iconst hx hb dX6_erases_60 ?_
        refine ri_iast hx hb w 0 rfl (by omega) dX6_erases_61 (by decide) (fun H locs w => ?_)
        have w : Wd g A [(s0, eI g 233 (up (up G (3 * xk + 65) (-1)) (3 * xk + 66) 0))] s H locs := w
        refine ri_iinc (k := 3) (z := xk + 1) (lv' := [(3, .int (iI (xk + 1))), (2, .int (iI xm)), (0, .ref s0), (1, .int (iI b))]) hx hb dX6_erases_62 hl rfl (by omega) (by decide) rfl (fun ls hl => ?_)
        refine lv_goto (tgt := 12) hx hb dX6_erases_65 (by decide) ?_
        exact ih12 xm (xk + 1) ((up (up G (3 * xk + 65) (-1)) (3 * xk + 66) 0)) (by omega) (fo_s hX (by simp only [s_er]; first | rw [if_pos (by omega)] | rw [if_neg (by omega)])) (by omega) (by omega) ((hB.up (by omega)).up (by omega)) ls H locs (lv_sub hl [2, 3, 1, 0] rfl) w kk12
      · refine lv_aload_n hx hb dX6_erases_32 rfl (lv_at hl 0 rfl) ?_
        refine lv_iload_n hx hb dX6_erases_33 rfl (lv_at hl 3 rfl) ?_
        refine call_rS (As := [.ref s0, .int (iI xk)]) (rest := []) hx hb (hml.trans hl.1.symm) hown hts w lk_RX6_72 (t_X6_weak l g s0 G xk (3 * xk + 66) (by omega) (by omega)) [0] rfl rfl rfl rfl (Nat.le_of_ble_eq_true rfl) ⟨Nat.le_of_ble_eq_true rfl, Nat.le_of_ble_eq_true rfl⟩ ⟨Nat.le_of_ble_eq_true rfl, Nat.le_of_ble_eq_true rfl⟩ dX6_erases_34 ?_
        refine lv_goto (tgt := 41) hx hb dX6_erases_37 (by decide) ?_
        refine lv_istore_n (lv' := [(2, .int (iI (G (3 * xk + 66)))), (0, .ref s0), (1, .int (iI b)), (3, .int (iI xk))]) hx hb dX6_erases_41 rfl hl (by decide) rfl (fun ls hl => ?_)
        refine lv_aload_n hx hb dX6_erases_42 rfl (lv_at hl 1 rfl) ?_
        refine ri_bipush hx hb dX6_erases_43 (by decide) ?_
        refine ri_iconst hx hb dX6_erases_45 ?_
        refine lv_iload_n hx hb dX6_erases_46 rfl (lv_at hl 3 rfl) ?_
        refine ri_imul (z := 3 * xk) hx hb dX6_erases_47 rfl ?_
        refine ri_iadd (z := 3 * xk + 65) hx hb dX6_erases_48 (by omega) ?_
        refine ri_iconst hx hb dX6_erases_49 ?_
        refine ri_iast hx hb w 0 rfl (by omega) dX6_erases_50 (by decide) (fun H locs w => ?_)
        have w : Wd g A [(s0, eI g 233 (up G (3 * xk + 65) (-1)))] s H locs := w
        refine lv_aload_n hx hb dX6_erases_51 rfl (lv_at hl 1 rfl) ?_
        refine ri_bipush hx hb dX6_erases_52 (by decide) ?_
        refine ri_iconst hx hb dX6_erases_54 ?_
        refine lv_iload_n hx hb dX6_erases_55 rfl (lv_at hl 3 rfl) ?_
        refine ri_imul (z := 3 * xk) hx hb dX6_erases_56 rfl ?_
        refine ri_iadd (z := 3 * xk + 65) hx hb dX6_erases_57 (by omega) ?_
        refine ri_iconst hx hb dX6_erases_58 ?_
        refine ri_iadd (z := 3 * xk + 66) hx hb dX6_erases_59 (by omega) ?_
        refine ri_iconst hx hb dX6_erases_60 ?_
        refine ri_iast hx hb w 0 rfl (by omega) dX6_erases_61 (by decide) (fun H locs w => ?_)
        have w : Wd g A [(s0, eI g 233 (up (up G (3 * xk + 65) (-1)) (3 * xk + 66) 0))] s H locs := w
        refine ri_iinc (k := 3) (z := xk + 1) (lv' := [(3, .int (iI (xk + 1))), (2, .int (iI (G (3 * xk + 66)))), (0, .ref s0), (1, .int (iI b))]) hx hb dX6_erases_62 hl rfl (by omega) (by decide) rfl (fun ls hl => ?_)
        refine lv_goto (tgt := 12) hx hb dX6_erases_65 (by decide) ?_
        exact ih12 (G (3 * xk + 66)) (xk + 1) ((up (up G (3 * xk + 65) (-1)) (3 * xk + 66) 0)) (by omega) (fo_s hX (by simp only [s_er]; first | rw [if_pos (by omega)] | rw [if_neg (by omega)])) (by omega) (by omega) ((hB.up (by omega)).up (by omega)) ls H locs (lv_sub hl [2, 3, 1, 0] rfl) w kk12
  refine L12 8 0 (8 * b) (r_shut F b) (by omega) (rfl) (by omega) (by omega) (hB1) ls H locs (lv_sub hl [2, 3, 1, 0] rfl) w (fun hB2 ls H locs hl w => ?_)
  refine lv_aload_n hx hb dX6_erases_68 rfl (lv_at hl 0 rfl) ?_
  refine ri_bipush hx hb dX6_erases_69 (by decide) ?_
  refine ri_iconst hx hb dX6_erases_71 ?_
  refine lv_iload_n hx hb dX6_erases_72 rfl (lv_at hl 1 rfl) ?_
  refine ri_imul (z := 4 * b) hx hb dX6_erases_73 rfl ?_
  refine ri_iadd (z := 4 * b + 41) hx hb dX6_erases_74 (by omega) ?_
  refine ri_iconst hx hb dX6_erases_75 ?_
  refine ri_iadd (z := 4 * b + 42) hx hb dX6_erases_76 (by omega) ?_
  refine lv_dup2_11 hx hb dX6_erases_77 rfl rfl ?_
  refine ri_iald (v := ((r_erA (r_shut F b) b).2) (4 * b + 42)) hx hb w 0 rfl (by omega) (rfl) dX6_erases_78 (by decide) ?_
  have r5 := hB2.bd (4 * b + 42)
  refine ri_iconst hx hb dX6_erases_79 ?_
  refine ri_iadd (z := ((r_erA (r_shut F b) b).2) (4 * b + 42) + 1) hx hb dX6_erases_80 rfl ?_
  refine ri_iast hx hb w 0 rfl (by omega) dX6_erases_81 (by decide) (fun H locs w => ?_)
  have w : Wd g A [(s0, eI g 233 (up ((r_erA (r_shut F b) b).2) (4 * b + 42) (((r_erA (r_shut F b) b).2) (4 * b + 42) + 1)))] s H locs := w
  refine lv_aload_n hx hb dX6_erases_82 rfl (lv_at hl 0 rfl) ?_
  refine ri_bipush hx hb dX6_erases_83 (by decide) ?_
  refine ri_iconst hx hb dX6_erases_85 ?_
  refine lv_iload_n hx hb dX6_erases_86 rfl (lv_at hl 1 rfl) ?_
  refine ri_imul (z := 4 * b) hx hb dX6_erases_87 rfl ?_
  refine ri_iadd (z := 4 * b + 41) hx hb dX6_erases_88 (by omega) ?_
  refine ri_iconst hx hb dX6_erases_89 ?_
  refine ri_iadd (z := 4 * b + 43) hx hb dX6_erases_90 (by omega) ?_
  refine ri_iconst hx hb dX6_erases_91 ?_
  refine ri_iast hx hb w 0 rfl (by omega) dX6_erases_92 (by decide) (fun H locs w => ?_)
  have w : Wd g A [(s0, eI g 233 (up (up ((r_erA (r_shut F b) b).2) (4 * b + 42) (((r_erA (r_shut F b) b).2) (4 * b + 42) + 1)) (4 * b + 43) 0))] s H locs := w
  refine lv_aload_n hx hb dX6_erases_93 rfl (lv_at hl 0 rfl) ?_
  refine ri_bipush hx hb dX6_erases_94 (by decide) ?_
  refine lv_dup2_11 hx hb dX6_erases_96 rfl rfl ?_
  refine ri_iald (v := ((r_erA (r_shut F b) b).2) 10) hx hb w 0 rfl (by omega) ((up_ne (by omega)).trans (up_ne (by omega))) dX6_erases_97 (by decide) ?_
  have r6 := hB2.bd 10
  refine ri_iconst hx hb dX6_erases_98 ?_
  refine ri_iadd (z := ((r_erA (r_shut F b) b).2) 10 + 1) hx hb dX6_erases_99 rfl ?_
  refine ri_iast hx hb w 0 rfl (by omega) dX6_erases_100 (by decide) (fun H locs w => ?_)
  have w : Wd g A [(s0, eI g 233 (up (up (up ((r_erA (r_shut F b) b).2) (4 * b + 42) (((r_erA (r_shut F b) b).2) (4 * b + 42) + 1)) (4 * b + 43) 0) 10 (((r_erA (r_shut F b) b).2) 10 + 1)))] s H locs := w
  refine ri_bipush hx hb dX6_erases_101 (by decide) ?_
  refine lv_istore_n (lv' := [(3, .int (iI 40)), (0, .ref s0), (1, .int (iI b)), (2, .int (iI ((r_erA (r_shut F b) b).1)))]) hx hb dX6_erases_103 rfl hl (by decide) rfl (fun ls hl => ?_)
  have L104 : ∀ (n : Nat) (xk : Int) (D : Int → Int), (xk = n + 19) → (r_logs n D = r_logs 21 (r_erB (r_erA (r_shut F b) b).2 b)) → (xk ≤ 40) → ∀ (ls : Array Slot) (H : Heap) (locs : List Loc), lv_has ls 4 [(0, .ref s0), (1, .int (iI b)), (2, .int (iI ((r_erA (r_shut F b) b).1))), (3, .int (iI xk))] → Wd g A [(s0, eI g 233 D)] s H locs → (∀ (ls : Array Slot) (H : Heap) (locs : List Loc), lv_has ls 4 [(0, .ref s0), (1, .int (iI b)), (2, .int (iI ((r_erA (r_shut F b) b).1)))] → Wd g A [(s0, eI g 233 (r_logs 21 (r_erB (r_erA (r_shut F b) b).2 b)))] s H locs → W p l e (rmm 1 0 0) s m args below meth c H locs 0 0 Q (F0 m 124 ls [])) → W p l e (rmm 1 0 0) s m args below meth c H locs 0 0 Q (F0 m 104 ls []) := by
    intro n
    induction n with
    | zero =>
      intro xk D hn hX hhi ls H locs hl w kk104
      refine lv_iload_n hx hb dX6_erases_104 rfl (lv_at hl 3 rfl) ?_
      refine ri_bipush hx hb dX6_erases_105 (by decide) ?_
      refine ri_icmp_lt (tgt := 124) hx hb dX6_erases_107 (by decide) (by omega) (by omega) (fun c7 => ?_) (fun c7 => ?_)
      · have e0 : D = r_logs 21 (r_erB (r_erA (r_shut F b) b).2 b) := hX
        rw [e0] at w
        exact kk104  ls H locs  (lv_sub hl [0, 1, 2] rfl) w
      · exact absurd c7 (by omega)
    | succ n ih104 =>
      intro xk D hn hX hhi ls H locs hl w kk104
      refine lv_iload_n hx hb dX6_erases_104 rfl (lv_at hl 3 rfl) ?_
      refine ri_bipush hx hb dX6_erases_105 (by decide) ?_
      refine ri_icmp_lt (tgt := 124) hx hb dX6_erases_107 (by decide) (by omega) (by omega) (fun c8 => ?_) (fun c8 => ?_)
      · exact absurd c8 (by omega)
      refine lv_aload_n hx hb dX6_erases_110 rfl (lv_at hl 0 rfl) ?_
      refine lv_iload_n hx hb dX6_erases_111 rfl (lv_at hl 3 rfl) ?_
      refine lv_aload_n hx hb dX6_erases_112 rfl (lv_at hl 0 rfl) ?_
      refine lv_iload_n hx hb dX6_erases_113 rfl (lv_at hl 3 rfl) ?_
      refine ri_iconst hx hb dX6_erases_114 ?_
      refine ri_isub (z := xk - 3) hx hb dX6_erases_115 rfl ?_
      refine ri_iald (v := D (xk - 3)) hx hb w 0 rfl (by omega) (rfl) dX6_erases_116 (by decide) ?_
      refine ri_iast hx hb w 0 rfl (by omega) dX6_erases_117 (by decide) (fun H locs w => ?_)
      have w : Wd g A [(s0, eI g 233 (up D xk (D (xk - 3))))] s H locs := w
      refine ri_iinc (k := 3) (z := xk - 1) (lv' := [(3, .int (iI (xk - 1))), (0, .ref s0), (1, .int (iI b)), (2, .int (iI ((r_erA (r_shut F b) b).1)))]) hx hb dX6_erases_118 hl rfl (by omega) (by decide) rfl (fun ls hl => ?_)
      refine lv_goto (tgt := 104) hx hb dX6_erases_121 (by decide) ?_
      exact ih104 (xk - 1) ((up D xk (D (xk - 3)))) (by omega) ((by rw [← hX, show xk = (n : Int) + 1 + 19 from by omega]; rfl)) (by omega) ls H locs (lv_sub hl [1, 2, 3, 0] rfl) w kk104
  refine L104 21 40 (up (up (up (r_erA (r_shut F b) b).2 (4 * b + 42) ((r_erA (r_shut F b) b).2 (4 * b + 42) + 1)) (4 * b + 43) 0) 10 ((r_erA (r_shut F b) b).2 10 + 1)) (by omega) (rfl) (by omega) ls H locs (lv_sub hl [1, 2, 3, 0] rfl) w (fun ls H locs hl w => ?_)
  have hB3 : Bd (r_logs 21 (r_erB (r_erA (r_shut F b) b).2 b)) := bd_logs (bd_erB hW hb0)
  refine lv_aload_n hx hb dX6_erases_124 rfl (lv_at hl 0 rfl) ?_
  refine ri_bipush hx hb dX6_erases_125 (by decide) ?_
  refine lv_iload_n hx hb dX6_erases_127 rfl (lv_at hl 1 rfl) ?_
  refine ri_iast hx hb w 0 rfl (by omega) dX6_erases_128 (by decide) (fun H locs w => ?_)
  have w : Wd g A [(s0, eI g 233 (up (r_logs 21 (r_erB (r_erA (r_shut F b) b).2 b)) 17 b))] s H locs := w
  refine lv_aload_n hx hb dX6_erases_129 rfl (lv_at hl 0 rfl) ?_
  refine ri_bipush hx hb dX6_erases_130 (by decide) ?_
  refine lv_aload_n hx hb dX6_erases_132 rfl (lv_at hl 0 rfl) ?_
  refine ri_iconst hx hb dX6_erases_133 ?_
  refine ri_iald (v := (r_logs 21 (r_erB (r_erA (r_shut F b) b).2 b)) 0) hx hb w 0 rfl (by omega) (up_ne (by omega)) dX6_erases_134 (by decide) ?_
  have r9 := hB3.bd 0
  refine ri_iast hx hb w 0 rfl (by omega) dX6_erases_135 (by decide) (fun H locs w => ?_)
  have w : Wd g A [(s0, eI g 233 (up (up (r_logs 21 (r_erB (r_erA (r_shut F b) b).2 b)) 17 b) 18 ((r_logs 21 (r_erB (r_erA (r_shut F b) b).2 b)) 0)))] s H locs := w
  refine lv_aload_n hx hb dX6_erases_136 rfl (lv_at hl 0 rfl) ?_
  refine ri_bipush hx hb dX6_erases_137 (by decide) ?_
  refine lv_iload_n hx hb dX6_erases_139 rfl (lv_at hl 2 rfl) ?_
  refine ri_iast hx hb w 0 rfl (by omega) dX6_erases_140 (by decide) (fun H locs w => ?_)
  have w : Wd g A [(s0, eI g 233 (up (up (up (r_logs 21 (r_erB (r_erA (r_shut F b) b).2 b)) 17 b) 18 ((r_logs 21 (r_erB (r_erA (r_shut F b) b).2 b)) 0)) 19 ((r_erA (r_shut F b) b).1)))] s H locs := w
  refine lv_aload_n hx hb dX6_erases_141 rfl (lv_at hl 0 rfl) ?_
  refine ri_bipush hx hb dX6_erases_142 (by decide) ?_
  refine lv_dup2_11 hx hb dX6_erases_144 rfl rfl ?_
  refine ri_iald (v := (r_logs 21 (r_erB (r_erA (r_shut F b) b).2 b)) 16) hx hb w 0 rfl (by omega) ((up_ne (by omega)).trans ((up_ne (by omega)).trans (up_ne (by omega)))) dX6_erases_145 (by decide) ?_
  have r10 := hB3.bd 16
  refine lv_aload_n hx hb dX6_erases_146 rfl (lv_at hl 0 rfl) ?_
  refine ri_bipush hx hb dX6_erases_147 (by decide) ?_
  refine ri_iald (v := (r_logs 21 (r_erB (r_erA (r_shut F b) b).2 b)) 16) hx hb w 0 rfl (by omega) ((up_ne (by omega)).trans ((up_ne (by omega)).trans (up_ne (by omega)))) dX6_erases_149 (by decide) ?_
  refine ri_bipush hx hb dX6_erases_150 (by decide) ?_
  refine ri_icmp_ge (tgt := 159) hx hb dX6_erases_152 (by decide) (by omega) (by omega) (fun c11 => ?_) (fun c11 => ?_)
  · refine ri_iconst hx hb dX6_erases_159 ?_
    refine ri_iadd (z := (r_logs 21 (r_erB (r_erA (r_shut F b) b).2 b)) 16) hx hb dX6_erases_160 (by omega) ?_
    refine ri_iast hx hb w 0 rfl (by omega) dX6_erases_161 (by decide) (fun H locs w => ?_)
    have w : Wd g A [(s0, eI g 233 (up (up (up (up (r_logs 21 (r_erB (r_erA (r_shut F b) b).2 b)) 17 b) 18 ((r_logs 21 (r_erB (r_erA (r_shut F b) b).2 b)) 0)) 19 ((r_erA (r_shut F b) b).1)) 16 ((r_logs 21 (r_erB (r_erA (r_shut F b) b).2 b)) 16)))] s H locs := w
    exact hend.1 rfl _ _ _ _ _ dX6_erases_162 w ⟨rfl, (congrArg (fun z => [(s0, eI g 233 z)]) (show (up (up (up (up (r_logs 21 (r_erB (r_erA (r_shut F b) b).2 b)) 17 b) 18 ((r_logs 21 (r_erB (r_erA (r_shut F b) b).2 b)) 0)) 19 ((r_erA (r_shut F b) b).1)) 16 ((r_logs 21 (r_erB (r_erA (r_shut F b) b).2 b)) 16)) = (r_erases F b) from by unfold r_erases r_erC; first | rw [if_pos (by omega)] | rw [if_neg (by omega), Int.add_zero]))⟩
  · refine ri_iconst hx hb dX6_erases_155 ?_
    refine lv_goto (tgt := 160) hx hb dX6_erases_156 (by decide) ?_
    refine ri_iadd (z := (r_logs 21 (r_erB (r_erA (r_shut F b) b).2 b)) 16 + 1) hx hb dX6_erases_160 rfl ?_
    refine ri_iast hx hb w 0 rfl (by omega) dX6_erases_161 (by decide) (fun H locs w => ?_)
    have w : Wd g A [(s0, eI g 233 (up (up (up (up (r_logs 21 (r_erB (r_erA (r_shut F b) b).2 b)) 17 b) 18 ((r_logs 21 (r_erB (r_erA (r_shut F b) b).2 b)) 0)) 19 ((r_erA (r_shut F b) b).1)) 16 ((r_logs 21 (r_erB (r_erA (r_shut F b) b).2 b)) 16 + 1)))] s H locs := w
    exact hend.1 rfl _ _ _ _ _ dX6_erases_162 w ⟨rfl, (congrArg (fun z => [(s0, eI g 233 z)]) (show (up (up (up (up (r_logs 21 (r_erB (r_erA (r_shut F b) b).2 b)) 17 b) 18 ((r_logs 21 (r_erB (r_erA (r_shut F b) b).2 b)) 0)) 19 ((r_erA (r_shut F b) b).1)) 16 ((r_logs 21 (r_erB (r_erA (r_shut F b) b).2 b)) 16 + 1)) = (r_erases F b) from by unfold r_erases r_erC; first | rw [if_pos (by omega)] | rw [if_neg (by omega), Int.add_zero]))⟩

set_option maxHeartbeats 4000000 in
set_option maxRecDepth 100000 in
theorem t_X6_movesAll (l : Launch) (g : GG) (s0 : Nat) (N : Int) (F : Int → Int) (b : Int) (hW : WF N F) (hb0 : 0 ≤ b ∧ b < 6) (hN : N + 18 ≤ 200000000) (sz : Nat) : Met l yX6_movesAll (wm yX6_movesAll cX6_movesAll 3 (some .int)) (rmm 6 0 0) (pW g [(s0, eI g 233 F)] sz [.ref s0, .int (iI b)]) (qW g [(s0, eI g 233 F)] (fun vv ww => vv = some (.int (iI ((r_all F b).1))) ∧ ww = [(s0, eI g 233 ((r_all F b).2))])) 0 0 (va_A [(s0, eI g 233 F)] sz) := by
  have hW1 := wf_shut hW b
  have hc := cnt_rg (r_shut F b) b 0
  refine met_w (by decide) (Nat.le_of_ble_eq_true rfl) ?_
  intro p e s m args below meth c Q ls A hx hb hml hown hts hl w hin hend
  obtain ⟨H, hH0⟩ : ∃ H, H = s.heap := ⟨_, rfl⟩
  obtain ⟨locs, hL0⟩ : ∃ locs : List Loc, locs = [] := ⟨_, rfl⟩
  rw [← hH0, ← hL0] at w
  rw [← hH0, ← hL0]
  have hl : lv_has ls 3 [(0, .ref s0), (1, .int (iI b))] := hl
  refine lv_aload_n hx hb dX6_movesAll_0 rfl (lv_at hl 0 rfl) ?_
  refine lv_iload_n hx hb dX6_movesAll_1 rfl (lv_at hl 1 rfl) ?_
  refine call_wS (wr := []) (As := [.ref s0, .int (iI b)]) (rest := []) hx hb (hml.trans hl.1.symm) hown hts w lk_RX6_105 (fun sz => t_X6_shuts l g s0 F b (hW.b) (by omega) sz) [0] [] rfl rfl rfl rfl (by decide) rfl rfl (Nat.le_of_ble_eq_true rfl) ⟨Nat.le_of_ble_eq_true rfl, Nat.le_of_ble_eq_true rfl⟩ ⟨Nat.le_of_ble_eq_true rfl, Nat.le_of_ble_eq_true rfl⟩ dX6_movesAll_2 (fun v w1 H locs hr w => ?_)
  obtain ⟨rfl, rfl⟩ := hr
  have w : Wd g A [(s0, eI g 233 (r_shut F b))] s H locs := w
  refine ri_iconst hx hb dX6_movesAll_5 ?_
  refine lv_istore_n (lv' := [(2, .int (iI 0)), (0, .ref s0), (1, .int (iI b))]) hx hb dX6_movesAll_6 rfl hl (by decide) rfl (fun ls hl => ?_)
  have L7 : ∀ (n : Nat) (xn : Int) (G : Int → Int), (r_allL n G b xn = r_allL 9 (r_shut F b) b 0) → (WF (N + 2 * (9 - n)) G) → (r_cnt G b 0 < n) → (0 ≤ xn ∧ xn + n ≤ 9) → ∀ (ls : Array Slot) (H : Heap) (locs : List Loc), lv_has ls 3 [(0, .ref s0), (1, .int (iI b)), (2, .int (iI xn))] → Wd g A [(s0, eI g 233 G)] s H locs → (∀ (hWX : WF (N + 16) (r_allL 9 (r_shut F b) b 0).2) (hx0 : 0 ≤ (r_allL 9 (r_shut F b) b 0).1) (hxl : r_low (r_allL 9 (r_shut F b) b 0).2 b = -5) (ls : Array Slot) (H : Heap) (locs : List Loc), lv_has ls 3 [(0, .ref s0), (1, .int (iI b)), (2, .int (iI ((r_allL 9 (r_shut F b) b 0).1)))] → Wd g A [(s0, eI g 233 ((r_allL 9 (r_shut F b) b 0).2))] s H locs → W p l e (rmm 6 0 0) s m args below meth c H locs 0 0 Q (F0 m 34 ls [])) → W p l e (rmm 6 0 0) s m args below meth c H locs 0 0 Q (F0 m 7 ls []) := by
    intro n
    induction n with
    | zero =>
      intro xn G hX hWG hc hn ls H locs hl w kk7
      exact absurd hc (by have := cnt_rg G b 0; omega)
    | succ n ih7 =>
      intro xn G hX hWG hc hn ls H locs hl w kk7
      refine lv_aload_n hx hb dX6_movesAll_7 rfl (lv_at hl 0 rfl) ?_
      refine lv_iload_n hx hb dX6_movesAll_8 rfl (lv_at hl 1 rfl) ?_
      refine call_rS (As := [.ref s0, .int (iI b)]) (rest := []) hx hb (hml.trans hl.1.symm) hown hts w lk_RX6_108 (t_X6_lowestPage l g s0 G b (hWG.b) (by omega)) [0] rfl rfl rfl rfl (Nat.le_of_ble_eq_true rfl) ⟨Nat.le_of_ble_eq_true rfl, Nat.le_of_ble_eq_true rfl⟩ ⟨Nat.le_of_ble_eq_true rfl, Nat.le_of_ble_eq_true rfl⟩ dX6_movesAll_9 ?_
      have r1 := low_rg G b
      refine ri_bipush hx hb dX6_movesAll_12 (by decide) ?_
      refine ri_icmp_eq (tgt := 34) hx hb dX6_movesAll_14 (by decide) (by omega) (by omega) (fun c2 => ?_) (fun c2 => ?_)
      · have e0 : (xn, G) = r_allL 9 (r_shut F b) b 0 := by rw [← hX, allL_s, if_pos (by assumption)]
        have e1 : xn = (r_allL 9 (r_shut F b) b 0).1 := congrArg Prod.fst e0
        have e2 : G = (r_allL 9 (r_shut F b) b 0).2 := congrArg Prod.snd e0
        rw [e1] at hl
        rw [e2] at w
        exact kk7 (by rw [← e0]; exact hWG.mono (by omega) (by omega)) (by rw [← e0]; exact hn.1) (by rw [← e0]; assumption) ls H locs  (lv_sub hl [0, 1, 2] rfl) w
      · refine lv_aload_n hx hb dX6_movesAll_17 rfl (lv_at hl 0 rfl) ?_
        refine lv_iload_n hx hb dX6_movesAll_18 rfl (lv_at hl 1 rfl) ?_
        refine call_wS (wr := []) (As := [.ref s0, .int (iI b)]) (rest := []) hx hb (hml.trans hl.1.symm) hown hts w lk_RX6_120 (fun sz => t_X6_moves l g s0 _ G b (hWG) (by omega) (by assumption) (by omega) sz) [0] [] rfl rfl rfl rfl (by decide) rfl rfl (Nat.le_of_ble_eq_true rfl) ⟨Nat.le_of_ble_eq_true rfl, Nat.le_of_ble_eq_true rfl⟩ ⟨Nat.le_of_ble_eq_true rfl, Nat.le_of_ble_eq_true rfl⟩ dX6_movesAll_19 (fun v w1 H locs hr w => ?_)
        obtain ⟨rfl, rfl⟩ := hr
        have w : Wd g A [(s0, eI g 233 (r_moves G b))] s H locs := w
        refine ri_ifb_ne (tgt := 28) hx hb dX6_movesAll_22 (by decide) (fun c3 => ?_) (fun c3 => ?_)
        · refine ri_iinc (k := 2) (z := xn + 1) (lv' := [(2, .int (iI (xn + 1))), (0, .ref s0), (1, .int (iI b))]) hx hb dX6_movesAll_28 hl rfl (by omega) (by decide) rfl (fun ls hl => ?_)
          refine lv_goto (tgt := 7) hx hb dX6_movesAll_31 (by decide) ?_
          exact ih7 (xn + 1) (r_moves G b) ((by rw [← hX, allL_s, if_neg (by assumption), if_pos (by assumption)])) ((wf_moves hWG hb0 (by assumption) (by assumption) (by omega)).cast (by omega)) ((by have := cnt_moves hWG hb0 (by assumption) (by assumption); omega)) (by omega) ls H locs (lv_sub hl [1, 2, 0] rfl) w kk7
        · have e9 : (-4, r_moves G b) = r_allL 9 (r_shut F b) b 0 := by rw [← hX, allL_s, if_neg (by assumption), if_neg (by assumption)]
          have e8 : r_all F b = (-4, r_moves G b) := by unfold r_all; rw [← e9]; exact if_pos (by show (-4 : Int) < 0; omega)
          refine ri_bipush hx hb dX6_movesAll_25 (by decide) ?_
          exact hend.2 _ _ _ _ ⟨_, rfl, rfl⟩ _ _ dX6_movesAll_27 w ⟨(congrArg (fun z => some (Value.int (iI z))) (show -4 = (r_all F b).1 from by rw [e8])), (congrArg (fun z => [(s0, eI g 233 z)]) (show (r_moves G b) = ((r_all F b).2) from by rw [e8]))⟩
  refine L7 9 0 (r_shut F b) (rfl) (by rw [show N + 2 * (9 - ((9 : Nat) : Int)) = N from by omega]; exact hW1) (by omega) (by omega) ls H locs (lv_sub hl [1, 2, 0] rfl) w (fun hWX hx0 hxl ls H locs hl w => ?_)
  have e8 : r_all F b = ((r_allL 9 (r_shut F b) b 0).1, r_erases (r_allL 9 (r_shut F b) b 0).2 b) := if_neg (by omega)
  refine lv_aload_n hx hb dX6_movesAll_34 rfl (lv_at hl 0 rfl) ?_
  refine lv_iload_n hx hb dX6_movesAll_35 rfl (lv_at hl 1 rfl) ?_
  refine call_wS (wr := []) (As := [.ref s0, .int (iI b)]) (rest := []) hx hb (hml.trans hl.1.symm) hown hts w lk_RX6_123 (fun sz => t_X6_erases l g s0 _ ((r_allL 9 (r_shut F b) b 0).2) b (hWX) (by omega) sz) [0] [] rfl rfl rfl rfl (by decide) rfl rfl (Nat.le_of_ble_eq_true rfl) ⟨Nat.le_of_ble_eq_true rfl, Nat.le_of_ble_eq_true rfl⟩ ⟨Nat.le_of_ble_eq_true rfl, Nat.le_of_ble_eq_true rfl⟩ dX6_movesAll_36 (fun v w1 H locs hr w => ?_)
  obtain ⟨rfl, rfl⟩ := hr
  have w : Wd g A [(s0, eI g 233 (r_erases ((r_allL 9 (r_shut F b) b 0).2) b))] s H locs := w
  refine lv_iload_n hx hb dX6_movesAll_39 rfl (lv_at hl 2 rfl) ?_
  exact hend.2 _ _ _ _ ⟨_, rfl, rfl⟩ _ _ dX6_movesAll_40 w ⟨(congrArg (fun z => some (Value.int (iI z))) (show (r_allL 9 (r_shut F b) b 0).1 = (r_all F b).1 from by rw [e8])), (congrArg (fun z => [(s0, eI g 233 z)]) (show (r_erases ((r_allL 9 (r_shut F b) b 0).2) b) = ((r_all F b).2) from by rw [e8]))⟩
