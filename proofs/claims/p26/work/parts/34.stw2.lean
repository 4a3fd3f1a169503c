set_option maxHeartbeats 4000000 in
set_option maxRecDepth 100000 in
theorem t_X4_moveLowestPage (l : Launch) (g : GG) (a : Nat → Nat) (N : Int) (F : Int → Int) (T : Nat → Int → Int) (b : Int) (hW : WF N F) (hR : Rel F T) (hb0 : 0 ≤ b ∧ b < 6) (hlow : r_low F b ≠ -5) (hN : N + 2 ≤ 200000000) (sz : Nat) : Met l yX4_moveLowestPage (wm yX4_moveLowestPage cX4_moveLowestPage 4 (some .boolean)) (rmm 5 0 0) (pW g (st_ws g a T) sz [.ref (a 0), .int (iI b)]) (qW g (st_ws g a T) (fun vv ww => vv = some (.int (iI (if P_moves (r_shut F b) b then 1 else 0))) ∧ ∃ T' : Nat → Int → Int, ww = st_ws g a T' ∧ (Rel (r_moves F b) T'))) 0 0 (va_A (st_ws g a T) sz) := by
  have hWs := wf_shut hW b
  have hlo1 : r_low (r_shut F b) b ≠ -5 := by rw [low_shut]; exact hlow
  have hlo2 := low_rg (r_shut F b) b
  have hla := lowA_rg (r_shut F b) b
  have elo : r_lowA (r_shut F b) b = r_low (r_shut F b) b := by omega
  have htg := target_rg hWs
  have ho := hW.op
  have hpm : P_moves (r_shut F b) b ↔ ¬ (r_left (r_shut F b) (r_low (r_shut F b) b) = 0 ∨ P_full (r_shut F b) ∧ r_best (r_shut F b) = -5) := Iff.rfl
  refine met_w (by decide) (Nat.le_of_ble_eq_true rfl) ?_
  intro p e s m args below meth c Q ls A hx hb hml hown hts hl w hin hend
  obtain ⟨H, hH0⟩ : ∃ H, H = s.heap := ⟨_, rfl⟩
  obtain ⟨locs, hL0⟩ : ∃ locs : List Loc, locs = [] := ⟨_, rfl⟩
  rw [← hH0, ← hL0] at w
  rw [← hH0, ← hL0]
  have hl : lv_has ls 4 [(0, .ref (a 0)), (1, .int (iI b))] := hl
  refine lv_aload_n hx hb dX4_moveLowestPage_0 rfl (lv_at hl 0 rfl) ?_
  refine ri_get (v := .int (iI (r_open F))) hx hb hts hown w fX4 0 13 (W0_of k_fl_RX4_60 rfl) rfl (congrArg (fun z => some (Value.int (iI z))) (hR.op)) (by decide) dX4_moveLowestPage_1 ?_
  have r1 := open_rg hW
  refine lv_iload_n hx hb dX4_moveLowestPage_4 rfl (lv_at hl 1 rfl) ?_
  refine ri_icmp_ne (tgt := 13) hx hb dX4_moveLowestPage_5 (by decide) (by omega) (by omega) (fun c2 => ?_) (fun c2 => ?_)
  · have hRs : Rel (r_shut F b) T := Rel.to_eq hR (show F = r_shut F b from by unfold r_shut; rw [if_neg (by omega), up_self])
    refine lv_aload_n hx hb dX4_moveLowestPage_13 rfl (lv_at hl 0 rfl) ?_
    refine call_rV (As := []) (rest := []) hx hb (hml.trans hl.1.symm) hown hts w lk_RX4_149 (t_X4_blockWithRoom l g a _ (r_shut F b) T  (hWs) (hRs) ) [0, 1, 2, 3, 4, 5, 6, 7, 8, 9, 10, 11, 12, 13, 14, 15, 16, 17] rfl rfl (call_recv w (q0 := 0) rfl fX4.1) rfl rfl (Nat.le_of_ble_eq_true rfl) ⟨Nat.le_of_ble_eq_true rfl, Nat.le_of_ble_eq_true rfl⟩ ⟨Nat.le_of_ble_eq_true rfl, Nat.le_of_ble_eq_true rfl⟩ dX4_moveLowestPage_14 ?_
    have r3 := target_rg hWs
    refine lv_istore_n (lv' := [(2, .int (iI (r_target (r_shut F b)))), (0, .ref (a 0)), (1, .int (iI b))]) hx hb dX4_moveLowestPage_17 rfl hl (by decide) rfl (fun ls hl => ?_)
    refine lv_aload_n hx hb dX4_moveLowestPage_18 rfl (lv_at hl 1 rfl) ?_
    refine lv_iload_n hx hb dX4_moveLowestPage_19 rfl (lv_at hl 2 rfl) ?_
    refine call_rV (As := [.int (iI b)]) (rest := []) hx hb (hml.trans hl.1.symm) hown hts w lk_RX4_153 (t_X4_lowestPlaceWithPage l g a _ (r_shut F b) T b (hWs) (hRs) (by omega)) [0, 1, 2, 3, 4, 5, 6, 7, 8, 9, 10, 11, 12, 13, 14, 15, 16, 17] rfl rfl (call_recv w (q0 := 0) rfl fX4.1) rfl rfl (Nat.le_of_ble_eq_true rfl) ⟨Nat.le_of_ble_eq_true rfl, Nat.le_of_ble_eq_true rfl⟩ ⟨Nat.le_of_ble_eq_true rfl, Nat.le_of_ble_eq_true rfl⟩ dX4_moveLowestPage_20 ?_
    have r4 := lowA_rg (r_shut F b) b
    refine lv_istore_n (lv' := [(3, .int (iI (r_lowA (r_shut F b) b))), (2, .int (iI (r_target (r_shut F b)))), (0, .ref (a 0)), (1, .int (iI b))]) hx hb dX4_moveLowestPage_23 rfl hl (by decide) rfl (fun ls hl => ?_)
    rw [elo] at hl
    refine lv_iload_n hx hb dX4_moveLowestPage_24 rfl (lv_at hl 1 rfl) ?_
    refine ri_iconst hx hb dX4_moveLowestPage_25 ?_
    refine ri_icmp_eq (tgt := 42) hx hb dX4_moveLowestPage_26 (by decide) (by omega) (by omega) (fun c5 => ?_) (fun c5 => ?_)
    · refine ri_iconst hx hb dX4_moveLowestPage_42 ?_
      exact hend.2 _ _ _ _ ⟨_, rfl, (nz (by omega))⟩ _ _ dX4_moveLowestPage_43 w ⟨(congrArg (fun z => some (Value.int (iI z))) (show 0 = (if P_moves (r_shut F b) b then 1 else 0) from by exact (if_neg (fun hh => hpm.mp hh (by first | exact Or.inl (by omega) | exact Or.inr (by rcases htg with hz | hz; exact ⟨hz.1, hz.2.1⟩; omega)))).symm)), T, rfl, hRs.to_eq (by unfold r_moves; rw [if_neg (fun hh => hpm.mp hh (by first | exact Or.inl (by omega) | exact Or.inr (by rcases htg with hz | hz; exact ⟨hz.1, hz.2.1⟩; omega)))])⟩
    · refine lv_iload_n hx hb dX4_moveLowestPage_29 rfl (lv_at hl 0 rfl) ?_
      refine ri_iconst hx hb dX4_moveLowestPage_30 ?_
      have r6 := low_rg (r_shut F b) b
      refine ri_icmp_eq (tgt := 42) hx hb dX4_moveLowestPage_31 (by decide) (by omega) (by omega) (fun c7 => ?_) (fun c7 => ?_)
      · exact absurd c7 (by omega)
      refine lv_aload_n hx hb dX4_moveLowestPage_34 rfl (lv_at hl 2 rfl) ?_
      refine lv_iload_n hx hb dX4_moveLowestPage_35 rfl (lv_at hl 0 rfl) ?_
      refine call_rV (As := [.int (iI (r_low (r_shut F b) b))]) (rest := []) hx hb (hml.trans hl.1.symm) hown hts w lk_RX4_156 (t_X4_mayRead l g a _ (r_shut F b) T (r_low (r_shut F b) b) (hWs) (hRs) (by omega)) [0, 1, 2, 3, 4, 5, 6, 7, 8, 9, 10, 11, 12, 13, 14, 15, 16, 17] rfl rfl (call_recv w (q0 := 0) rfl fX4.1) rfl rfl (Nat.le_of_ble_eq_true rfl) ⟨Nat.le_of_ble_eq_true rfl, Nat.le_of_ble_eq_true rfl⟩ ⟨Nat.le_of_ble_eq_true rfl, Nat.le_of_ble_eq_true rfl⟩ dX4_moveLowestPage_36 ?_
      refine ri_ifb_ne (tgt := 44) hx hb dX4_moveLowestPage_39 (by decide) (fun c8 => ?_) (fun c8 => ?_)
      · have hmv : r_left (r_shut F b) (r_low (r_shut F b) b) ≠ 0 := by first | assumption | omega
        have hWr := wf_reads hWs (r := r_low (r_shut F b) b) (by omega) hmv (by omega)
        have hpl := hWs.pl (k := r_low (r_shut F b) b) (by omega) (by omega)
        have hrh := reads_hold (r_shut F b) (r_low (r_shut F b) b) (r_low (r_shut F b) b) (by omega) (by omega)
        have htr := target_reads hWs (r_low (r_shut F b) b) (by omega)
        refine lv_aload_n hx hb dX4_moveLowestPage_44 rfl (lv_at hl 2 rfl) ?_
        refine lv_iload_n hx hb dX4_moveLowestPage_45 rfl (lv_at hl 0 rfl) ?_
        refine call_wV (wr := []) (As := [.int (iI (r_low (r_shut F b) b))]) (rest := []) hx hb (hml.trans hl.1.symm) hown hts w lk_RX4_159 (fun sz => t_X4_readPlace l g a _ (r_shut F b) T (r_low (r_shut F b) b) (hWs) (hRs) (by omega) sz) [0, 1, 2, 3, 4, 5, 6, 7, 8, 9, 10, 11, 12, 13, 14, 15, 16, 17] [] rfl rfl rfl rfl (by decide) (call_recv w (q0 := 0) rfl fX4.1) rfl rfl (Nat.le_of_ble_eq_true rfl) ⟨Nat.le_of_ble_eq_true rfl, Nat.le_of_ble_eq_true rfl⟩ ⟨Nat.le_of_ble_eq_true rfl, Nat.le_of_ble_eq_true rfl⟩ dX4_moveLowestPage_46 (fun v w1 H locs hr w => ?_)
        obtain ⟨rfl, T9, rfl, hRT9⟩ := hr
        have w : Wd g A (st_ws g a T9) s H locs := w
        refine lv_aload_n hx hb dX4_moveLowestPage_49 rfl (lv_at hl 2 rfl) ?_
        refine lv_iload_n hx hb dX4_moveLowestPage_50 rfl (lv_at hl 1 rfl) ?_
        refine lv_aload_n hx hb dX4_moveLowestPage_51 rfl (lv_at hl 2 rfl) ?_
        refine ri_get (v := .ref (a 6)) hx hb hts hown w fX4 0 5 (W0_of k_fl_RX4_28 rfl) rfl rfl (by decide) dX4_moveLowestPage_52 ?_
        refine lv_iload_n hx hb dX4_moveLowestPage_55 rfl (lv_at hl 0 rfl) ?_
        refine ri_iald (f := T9 6) (v := (r_reads (r_shut F b) (r_low (r_shut F b) b)) (3 * r_low (r_shut F b) b + 65)) hx hb w 6 rfl (by omega) ((hRT9.he (by omega) (by omega)).trans (congrArg _ (by omega))) dX4_moveLowestPage_56 (by omega) ?_
        have r10 := hWr.bd (3 * r_low (r_shut F b) b + 65)
        refine call_wV (wr := []) (As := [.int (iI (r_target (r_shut F b))), .int (iI ((r_reads (r_shut F b) (r_low (r_shut F b) b)) (3 * r_low (r_shut F b) b + 65)))]) (rest := []) hx hb (hml.trans hl.1.symm) hown hts w lk_RX4_162 (fun sz => t_X4_putInto l g a _ (r_reads (r_shut F b) (r_low (r_shut F b) b)) T9 (r_target (r_shut F b)) ((r_reads (r_shut F b) (r_low (r_shut F b) b)) (3 * r_low (r_shut F b) b + 65)) (hWr) (hRT9) htr.symm (by omega) (by omega) sz) [0, 1, 2, 3, 4, 5, 6, 7, 8, 9, 10, 11, 12, 13, 14, 15, 16, 17] [] rfl rfl rfl rfl (by decide) (call_recv w (q0 := 0) rfl fX4.1) rfl rfl (Nat.le_of_ble_eq_true rfl) ⟨Nat.le_of_ble_eq_true rfl, Nat.le_of_ble_eq_true rfl⟩ ⟨Nat.le_of_ble_eq_true rfl, Nat.le_of_ble_eq_true rfl⟩ dX4_moveLowestPage_57 (fun v w1 H locs hr w => ?_)
        obtain ⟨rfl, T11, rfl, hRT11⟩ := hr
        have w : Wd g A (st_ws g a T11) s H locs := w
        refine lv_aload_n hx hb dX4_moveLowestPage_60 rfl (lv_at hl 2 rfl) ?_
        refine lv_dup hx hb dX4_moveLowestPage_61 rfl ?_
        refine ri_get (v := .int (iI ((r_gives (r_reads (r_shut F b) (r_low (r_shut F b) b)) ((r_reads (r_shut F b) (r_low (r_shut F b) b)) (3 * r_low (r_shut F b) b + 65))) 9))) hx hb hts hown w fX4 0 17 (W0_of k_fl_RX4_73 rfl) rfl (congrArg (fun z => some (Value.int (iI z))) (hRT11.mo)) (by decide) dX4_moveLowestPage_62 ?_
        refine ri_iconst hx hb dX4_moveLowestPage_65 ?_
        refine ri_iadd (z := (r_gives (r_reads (r_shut F b) (r_low (r_shut F b) b)) ((r_reads (r_shut F b) (r_low (r_shut F b) b)) (3 * r_low (r_shut F b) b + 65))) 9 + 1) hx hb dX4_moveLowestPage_66 rfl ?_
        refine ri_put hx hb hts hown w fX4 0 17 (W0_of k_fl_RX4_73 rfl) rfl (Nat.le_of_ble_eq_true rfl) (by decide) rfl rfl rfl dX4_moveLowestPage_67 (fun H locs w => ?_)
        have w : Wd g A (st_ws g a (upT T11 22 (fun _ => (r_gives (r_reads (r_shut F b) (r_low (r_shut F b) b)) ((r_reads (r_shut F b) (r_low (r_shut F b) b)) (3 * r_low (r_shut F b) b + 65))) 9 + 1))) s H locs := w
        have hR12 : Rel (up (r_gives (r_reads (r_shut F b) (r_low (r_shut F b) b)) ((r_reads (r_shut F b) (r_low (r_shut F b) b)) (3 * r_low (r_shut F b) b + 65))) 9 ((r_gives (r_reads (r_shut F b) (r_low (r_shut F b) b)) ((r_reads (r_shut F b) (r_low (r_shut F b) b)) (3 * r_low (r_shut F b) b + 65))) 9 + 1)) (upT T11 22 (fun _ => (r_gives (r_reads (r_shut F b) (r_low (r_shut F b) b)) ((r_reads (r_shut F b) (r_low (r_shut F b) b)) (3 * r_low (r_shut F b) b + 65))) 9 + 1)) := hRT11.u22 (v := (r_gives (r_reads (r_shut F b) (r_low (r_shut F b) b)) ((r_reads (r_shut F b) (r_low (r_shut F b) b)) (3 * r_low (r_shut F b) b + 65))) 9 + 1)
        refine ri_iconst hx hb dX4_moveLowestPage_70 ?_
        exact hend.2 _ _ _ _ ⟨_, rfl, (nz (by omega))⟩ _ _ dX4_moveLowestPage_71 w ⟨(congrArg (fun z => some (Value.int (iI z))) (show 1 = (if P_moves (r_shut F b) b then 1 else 0) from by exact (if_pos (hpm.mpr (fun hh => hh.elim (fun q => hmv q) (fun q => by rcases htg with hz | hz; omega; exact hz.1 q)))).symm)), (upT T11 22 (fun _ => (r_gives (r_reads (r_shut F b) (r_low (r_shut F b) b)) ((r_reads (r_shut F b) (r_low (r_shut F b) b)) (3 * r_low (r_shut F b) b + 65))) 9 + 1)), rfl, hR12.to_eq (by unfold r_moves; rw [if_pos (hpm.mpr (fun hh => hh.elim (fun q => hmv q) (fun q => by rcases htg with hz | hz; omega; exact hz.1 q)))]; rfl)⟩
      · refine ri_iconst hx hb dX4_moveLowestPage_42 ?_
        exact hend.2 _ _ _ _ ⟨_, rfl, (nz (by omega))⟩ _ _ dX4_moveLowestPage_43 w ⟨(congrArg (fun z => some (Value.int (iI z))) (show 0 = (if P_moves (r_shut F b) b then 1 else 0) from by exact (if_neg (fun hh => hpm.mp hh (by first | exact Or.inl (by omega) | exact Or.inr (by rcases htg with hz | hz; exact ⟨hz.1, hz.2.1⟩; omega)))).symm)), T, rfl, hRs.to_eq (by unfold r_moves; rw [if_neg (fun hh => hpm.mp hh (by first | exact Or.inl (by omega) | exact Or.inr (by rcases htg with hz | hz; exact ⟨hz.1, hz.2.1⟩; omega)))])⟩
  · refine lv_aload_n hx hb dX4_moveLowestPage_8 rfl (lv_at hl 0 rfl) ?_
    refine ri_iconst hx hb dX4_moveLowestPage_9 ?_
    refine ri_put hx hb hts hown w fX4 0 13 (W0_of k_fl_RX4_60 rfl) rfl (Nat.le_of_ble_eq_true rfl) (by decide) rfl rfl rfl dX4_moveLowestPage_10 (fun H locs w => ?_)
    have w : Wd g A (st_ws g a (upT T 18 (fun _ => -1))) s H locs := w
    have hR13 : Rel (up F 6 (-5)) (upT T 18 (fun _ => -1)) := hR.u18 (v := -5) (u := -1) rfl
    have hRs : Rel (r_shut F b) (upT T 18 (fun _ => -1)) := Rel.to_eq hR13 (show up F 6 (-5) = r_shut F b from by unfold r_shut; rw [if_pos (by omega)])
    refine lv_aload_n hx hb dX4_moveLowestPage_13 rfl (lv_at hl 0 rfl) ?_
    refine call_rV (As := []) (rest := []) hx hb (hml.trans hl.1.symm) hown hts w lk_RX4_149 (t_X4_blockWithRoom l g a _ (r_shut F b) (upT T 18 (fun _ => -1))  (hWs) (hRs) ) [0, 1, 2, 3, 4, 5, 6, 7, 8, 9, 10, 11, 12, 13, 14, 15, 16, 17] rfl rfl (call_recv w (q0 := 0) rfl fX4.1) rfl rfl (Nat.le_of_ble_eq_true rfl) ⟨Nat.le_of_ble_eq_true rfl, Nat.le_of_ble_eq_true rfl⟩ ⟨Nat.le_of_ble_eq_true rfl, Nat.le_of_ble_eq_true rfl⟩ dX4_moveLowestPage_14 ?_
    have r14 := target_rg hWs
    refine lv_istore_n (lv' := [(2, .int (iI (r_target (r_shut F b)))), (0, .ref (a 0)), (1, .int (iI b))]) hx hb dX4_moveLowestPage_17 rfl hl (by decide) rfl (fun ls hl => ?_)
    refine lv_aload_n hx hb dX4_moveLowestPage_18 rfl (lv_at hl 1 rfl) ?_
    refine lv_iload_n hx hb dX4_moveLowestPage_19 rfl (lv_at hl 2 rfl) ?_
    refine call_rV (As := [.int (iI b)]) (rest := []) hx hb (hml.trans hl.1.symm) hown hts w lk_RX4_153 (t_X4_lowestPlaceWithPage l g a _ (r_shut F b) (upT T 18 (fun _ => -1)) b (hWs) (hRs) (by omega)) [0, 1, 2, 3, 4, 5, 6, 7, 8, 9, 10, 11, 12, 13, 14, 15, 16, 17] rfl rfl (call_recv w (q0 := 0) rfl fX4.1) rfl rfl (Nat.le_of_ble_eq_true rfl) ⟨Nat.le_of_ble_eq_true rfl, Nat.le_of_ble_eq_true rfl⟩ ⟨Nat.le_of_ble_eq_true rfl, Nat.le_of_ble_eq_true rfl⟩ dX4_moveLowestPage_20 ?_
    have r15 := lowA_rg (r_shut F b) b
    refine lv_istore_n (lv' := [(3, .int (iI (r_lowA (r_shut F b) b))), (2, .int (iI (r_target (r_shut F b)))), (0, .ref (a 0)), (1, .int (iI b))]) hx hb dX4_moveLowestPage_23 rfl hl (by decide) rfl (fun ls hl => ?_)
    rw [elo] at hl
    refine lv_iload_n hx hb dX4_moveLowestPage_24 rfl (lv_at hl 1 rfl) ?_
    refine ri_iconst hx hb dX4_moveLowestPage_25 ?_
    refine ri_icmp_eq (tgt := 42) hx hb dX4_moveLowestPage_26 (by decide) (by omega) (by omega) (fun c16 => ?_) (fun c16 => ?_)
    · refine ri_iconst hx hb dX4_moveLowestPage_42 ?_
      exact hend.2 _ _ _ _ ⟨_, rfl, (nz (by omega))⟩ _ _ dX4_moveLowestPage_43 w ⟨(congrArg (fun z => some (Value.int (iI z))) (show 0 = (if P_moves (r_shut F b) b then 1 else 0) from by exact (if_neg (fun hh => hpm.mp hh (by first | exact Or.inl (by omega) | exact Or.inr (by rcases htg with hz | hz; exact ⟨hz.1, hz.2.1⟩; omega)))).symm)), (upT T 18 (fun _ => -1)), rfl, hRs.to_eq (by unfold r_moves; rw [if_neg (fun hh => hpm.mp hh (by first | exact Or.inl (by omega) | exact Or.inr (by rcases htg with hz | hz; exact ⟨hz.1, hz.2.1⟩; omega)))])⟩
    · refine lv_iload_n hx hb dX4_moveLowestPage_29 rfl (lv_at hl 0 rfl) ?_
      refine ri_iconst hx hb dX4_moveLowestPage_30 ?_
      have r17 := low_rg (r_shut F b) b
      refine ri_icmp_eq (tgt := 42) hx hb dX4_moveLowestPage_31 (by decide) (by omega) (by omega) (fun c18 => ?_) (fun c18 => ?_)
      · exact absurd c18 (by omega)
      refine lv_aload_n hx hb dX4_moveLowestPage_34 rfl (lv_at hl 2 rfl) ?_
      refine lv_iload_n hx hb dX4_moveLowestPage_35 rfl (lv_at hl 0 rfl) ?_
      refine call_rV (As := [.int (iI (r_low (r_shut F b) b))]) (rest := []) hx hb (hml.trans hl.1.symm) hown hts w lk_RX4_156 (t_X4_mayRead l g a _ (r_shut F b) (upT T 18 (fun _ => -1)) (r_low (r_shut F b) b) (hWs) (hRs) (by omega)) [0, 1, 2, 3, 4, 5, 6, 7, 8, 9, 10, 11, 12, 13, 14, 15, 16, 17] rfl rfl (call_recv w (q0 := 0) rfl fX4.1) rfl rfl (Nat.le_of_ble_eq_true rfl) ⟨Nat.le_of_ble_eq_true rfl, Nat.le_of_ble_eq_true rfl⟩ ⟨Nat.le_of_ble_eq_true rfl, Nat.le_of_ble_eq_true rfl⟩ dX4_moveLowestPage_36 ?_
      refine ri_ifb_ne (tgt := 44) hx hb dX4_moveLowestPage_39 (by decide) (fun c19 => ?_) (fun c19 => ?_)
      · have hmv : r_left (r_shut F b) (r_low (r_shut F b) b) ≠ 0 := by first | assumption | omega
        have hWr := wf_reads hWs (r := r_low (r_shut F b) b) (by omega) hmv (by omega)
        have hpl := hWs.pl (k := r_low (r_shut F b) b) (by omega) (by omega)
        have hrh := reads_hold (r_shut F b) (r_low (r_shut F b) b) (r_low (r_shut F b) b) (by omega) (by omega)
        have htr := target_reads hWs (r_low (r_shut F b) b) (by omega)
        refine lv_aload_n hx hb dX4_moveLowestPage_44 rfl (lv_at hl 2 rfl) ?_
        refine lv_iload_n hx hb dX4_moveLowestPage_45 rfl (lv_at hl 0 rfl) ?_
        refine call_wV (wr := []) (As := [.int (iI (r_low (r_shut F b) b))]) (rest := []) hx hb (hml.trans hl.1.symm) hown hts w lk_RX4_159 (fun sz => t_X4_readPlace l g a _ (r_shut F b) (upT T 18 (fun _ => -1)) (r_low (r_shut F b) b) (hWs) (hRs) (by omega) sz) [0, 1, 2, 3, 4, 5, 6, 7, 8, 9, 10, 11, 12, 13, 14, 15, 16, 17] [] rfl rfl rfl rfl (by decide) (call_recv w (q0 := 0) rfl fX4.1) rfl rfl (Nat.le_of_ble_eq_true rfl) ⟨Nat.le_of_ble_eq_true rfl, Nat.le_of_ble_eq_true rfl⟩ ⟨Nat.le_of_ble_eq_true rfl, Nat.le_of_ble_eq_true rfl⟩ dX4_moveLowestPage_46 (fun v w1 H locs hr w => ?_)
        obtain ⟨rfl, T20, rfl, hRT20⟩ := hr
        have w : Wd g A (st_ws g a T20) s H locs := w
        refine lv_aload_n hx hb dX4_moveLowestPage_49 rfl (lv_at hl 2 rfl) ?_
        refine lv_iload_n hx hb dX4_moveLowestPage_50 rfl (lv_at hl 1 rfl) ?_
        refine lv_aload_n hx hb dX4_moveLowestPage_51 rfl (lv_at hl 2 rfl) ?_
        refine ri_get (v := .ref (a 6)) hx hb hts hown w fX4 0 5 (W0_of k_fl_RX4_28 rfl) rfl rfl (by decide) dX4_moveLowestPage_52 ?_
        refine lv_iload_n hx hb dX4_moveLowestPage_55 rfl (lv_at hl 0 rfl) ?_
        refine ri_iald (f := T20 6) (v := (r_reads (r_shut F b) (r_low (r_shut F b) b)) (3 * r_low (r_shut F b) b + 65)) hx hb w 6 rfl (by omega) ((hRT20.he (by omega) (by omega)).trans (congrArg _ (by omega))) dX4_moveLowestPage_56 (by omega) ?_
        have r21 := hWr.bd (3 * r_low (r_shut F b) b + 65)
        refine call_wV (wr := []) (As := [.int (iI (r_target (r_shut F b))), .int (iI ((r_reads (r_shut F b) (r_low (r_shut F b) b)) (3 * r_low (r_shut F b) b + 65)))]) (rest := []) hx hb (hml.trans hl.1.symm) hown hts w lk_RX4_162 (fun sz => t_X4_putInto l g a _ (r_reads (r_shut F b) (r_low (r_shut F b) b)) T20 (r_target (r_shut F b)) ((r_reads (r_shut F b) (r_low (r_shut F b) b)) (3 * r_low (r_shut F b) b + 65)) (hWr) (hRT20) htr.symm (by omega) (by omega) sz) [0, 1, 2, 3, 4, 5, 6, 7, 8, 9, 10, 11, 12, 13, 14, 15, 16, 17] [] rfl rfl rfl rfl (by decide) (call_recv w (q0 := 0) rfl fX4.1) rfl rfl (Nat.le_of_ble_eq_true rfl) ⟨Nat.le_of_ble_eq_true rfl, Nat.le_of_ble_eq_true rfl⟩ ⟨Nat.le_of_ble_eq_true rfl, Nat.le_of_ble_eq_true rfl⟩ dX4_moveLowestPage_57 (fun v w1 H locs hr w => ?_)
        obtain ⟨rfl, T22, rfl, hRT22⟩ := hr
        have w : Wd g A (st_ws g a T22) s H locs := w
        refine lv_aload_n hx hb dX4_moveLowestPage_60 rfl (lv_at hl 2 rfl) ?_
        refine lv_dup hx hb dX4_moveLowestPage_61 rfl ?_
        refine ri_get (v := .int (iI ((r_gives (r_reads (r_shut F b) (r_low (r_shut F b) b)) ((r_reads (r_shut F b) (r_low (r_shut F b) b)) (3 * r_low (r_shut F b) b + 65))) 9))) hx hb hts hown w fX4 0 17 (W0_of k_fl_RX4_73 rfl) rfl (congrArg (fun z => some (Value.int (iI z))) (hRT22.mo)) (by decide) dX4_moveLowestPage_62 ?_
        refine ri_iconst hx hb dX4_moveLowestPage_65 ?_
        refine ri_iadd (z := (r_gives (r_reads (r_shut F b) (r_low (r_shut F b) b)) ((r_reads (r_shut F b) (r_low (r_shut F b) b)) (3 * r_low (r_shut F b) b + 65))) 9 + 1) hx hb dX4_moveLowestPage_66 rfl ?_
        refine ri_put hx hb hts hown w fX4 0 17 (W0_of k_fl_RX4_73 rfl) rfl (Nat.le_of_ble_eq_true rfl) (by decide) rfl rfl rfl dX4_moveLowestPage_67 (fun H locs w => ?_)
        have w : Wd g A (st_ws g a (upT T22 22 (fun _ => (r_gives (r_reads (r_shut F b) (r_low (r_shut F b) b)) ((r_reads (r_shut F b) (r_low (r_shut F b) b)) (3 * r_low (r_shut F b) b + 65))) 9 + 1))) s H locs := w
        have hR23 : Rel (up (r_gives (r_reads (r_shut F b) (r_low (r_shut F b) b)) ((r_reads (r_shut F b) (r_low (r_shut F b) b)) (3 * r_low (r_shut F b) b + 65))) 9 ((r_gives (r_reads (r_shut F b) (r_low (r_shut F b) b)) ((r_reads (r_shut F b) (r_low (r_shut F b) b)) (3 * r_low (r_shut F b) b + 65))) 9 + 1)) (upT T22 22 (fun _ => (r_gives (r_reads (r_shut F b) (r_low (r_shut F b) b)) ((r_reads (r_shut F b) (r_low (r_shut F b) b)) (3 * r_low (r_shut F b) b + 65))) 9 + 1)) := hRT22.u22 (v := (r_gives (r_reads (r_shut F b) (r_low (r_shut F b) b)) ((r_reads (r_shut F b) (r_low (r_shut F b) b)) (3 * r_low (r_shut F b) b + 65))) 9 + 1)
        refine ri_iconst hx hb dX4_moveLowestPage_70 ?_
        exact hend.2 _ _ _ _ ⟨_, rfl, (nz (by omega))⟩ _ _ dX4_moveLowestPage_71 w ⟨(congrArg (fun z => some (Value.int (iI z))) (show 1 = (if P_moves (r_shut F b) b then 1 else 0) from by exact (if_pos (hpm.mpr (fun hh => hh.elim (fun q => hmv q) (fun q => by rcases htg with hz | hz; omega; exact hz.1 q)))).symm)), (upT T22 22 (fun _ => (r_gives (r_reads (r_shut F b) (r_low (r_shut F b) b)) ((r_reads (r_shut F b) (r_low (r_shut F b) b)) (3 * r_low (r_shut F b) b + 65))) 9 + 1)), rfl, hR23.to_eq (by unfold r_moves; rw [if_pos (hpm.mpr (fun hh => hh.elim (fun q => hmv q) (fun q => by rcases htg with hz | hz; omega; exact hz.1 q)))]; rfl)⟩
      · refine ri_iconst hx hb dX4_moveLowestPage_42 ?_
        exact hend.2 _ _ _ _ ⟨_, rfl, (nz (by omega))⟩ _ _ dX4_moveLowestPage_43 w ⟨(congrArg (fun z => some (Value.int (iI z))) (show 0 = (if P_moves (r_shut F b) b then 1 else 0) from by exact (if_neg (fun hh => hpm.mp hh (by first | exact Or.inl (by omega) | exact Or.inr (by rcases htg with hz | hz; exact ⟨hz.1, hz.2.1⟩; omega)))).symm)), (upT T 18 (fun _ => -1)), rfl, hRs.to_eq (by unfold r_moves; rw [if_neg (fun hh => hpm.mp hh (by first | exact Or.inl (by omega) | exact Or.inr (by rcases htg with hz | hz; exact ⟨hz.1, hz.2.1⟩; omega)))])⟩

set_option maxHeartbeats 4000000 in
set_option maxRecDepth 100000 in
theorem t_X4_erase (l : Launch) (g : GG) (a : Nat → Nat) (N : Int) (F : Int → Int) (T : Nat → Int → Int) (b : Int) (hW : WF N F) (hR : Rel F T) (hb0 : 0 ≤ b ∧ b < 6) (hlow : r_low F b = -5) (sz : Nat) : Met l yX4_erase (wm yX4_erase cX4_erase 5 none) (rmm 1 0 0) (pW g (st_ws g a T) sz [.ref (a 0), .int (iI b)]) (qW g (st_ws g a T) (fun vv ww => vv = none ∧ ∃ T' : Nat → Int → Int, ww = st_ws g a T' ∧ (Rel (r_erases F b) T'))) 0 0 (va_A (st_ws g a T) sz) := by
  have hWs := wf_shut hW b
  have ho := hW.op
  refine met_w (by decide) (Nat.le_of_ble_eq_true rfl) ?_
  intro p e s m args below meth c Q ls A hx hb hml hown hts hl w hin hend
  obtain ⟨H, hH0⟩ : ∃ H, H = s.heap := ⟨_, rfl⟩
  obtain ⟨locs, hL0⟩ : ∃ locs : List Loc, locs = [] := ⟨_, rfl⟩
  rw [← hH0, ← hL0] at w
  rw [← hH0, ← hL0]
  have hl : lv_has ls 5 [(0, .ref (a 0)), (1, .int (iI b))] := hl
  refine ri_iconst hx hb dX4_erase_0 ?_
  refine lv_istore_n (lv' := [(2, .int (iI 0)), (0, .ref (a 0)), (1, .int (iI b))]) hx hb dX4_erase_1 rfl hl (by decide) rfl (fun ls hl => ?_)
  refine lv_iload_n hx hb dX4_erase_2 rfl (lv_at hl 2 rfl) ?_
  refine ri_bipush hx hb dX4_erase_3 (by decide) ?_
  refine ri_imul (z := 8 * b) hx hb dX4_erase_5 (by omega) ?_
  refine lv_istore_n (lv' := [(3, .int (iI (8 * b))), (2, .int (iI 0)), (0, .ref (a 0)), (1, .int (iI b))]) hx hb dX4_erase_6 rfl hl (by decide) rfl (fun ls hl => ?_)
  refine lv_iload_n hx hb dX4_erase_7 rfl (lv_at hl 0 rfl) ?_
  refine lv_istore (lv' := [(4, .int (iI (8 * b))), (3, .int (iI (8 * b))), (2, .int (iI 0)), (0, .ref (a 0)), (1, .int (iI b))]) hx hb dX4_erase_8 hl (by decide) rfl (fun ls hl => ?_)
  have w : Wd g A (st_ws g a (upT (upT T 6 (T 6)) 7 (T 7))) s H locs := w
  have L10 : ∀ (n : Nat) (xm xk : Int) (G : Int → Int) (f6 : Int → Int) (f7 : Int → Int), (xk + n = 8 * b + 8) → (fo n xk (xm, G) s_er = r_erA (r_shut F b) b) → (8 * b ≤ xk) → (0 ≤ xm ∧ xm ≤ 300000000) → (Bd G) → (∀ k, 0 ≤ k → k < 48 → f6 k = G (3 * k + 65)) → (∀ k, 0 ≤ k → k < 48 → f7 k = G (3 * k + 66)) → ∀ (ls : Array Slot) (H : Heap) (locs : List Loc), lv_has ls 5 [(0, .ref (a 0)), (1, .int (iI b)), (2, .int (iI xm)), (3, .int (iI (8 * b))), (4, .int (iI xk))] → Wd g A (st_ws g a (upT (upT T 6 f6) 7 f7)) s H locs → (∀ (f6 f7 : Int → Int) (h6 : ∀ k, 0 ≤ k → k < 48 → f6 k = (r_erA (r_shut F b) b).2 (3 * k + 65)) (h7 : ∀ k, 0 ≤ k → k < 48 → f7 k = (r_erA (r_shut F b) b).2 (3 * k + 66)) (ls : Array Slot) (H : Heap) (locs : List Loc), lv_has ls 5 [(0, .ref (a 0)), (1, .int (iI b)), (2, .int (iI (r_erA (r_shut F b) b).1))] → Wd g A (st_ws g a (upT (upT T 6 f6) 7 f7)) s H locs → W p l e (rmm 1 0 0) s m args below meth c H locs 0 0 Q (F0 m 53 ls [])) → W p l e (rmm 1 0 0) s m args below meth c H locs 0 0 Q (F0 m 10 ls []) := by
    intro n
    induction n with
    | zero =>
      intro xm xk G f6 f7 hn hX hlo hm hBG h6 h7 ls H locs hl w kk10
      refine lv_iload hx hb dX4_erase_10 (lv_at hl 4 rfl) ?_
      refine lv_iload_n hx hb dX4_erase_12 rfl (lv_at hl 3 rfl) ?_
      refine ri_bipush hx hb dX4_erase_13 (by decide) ?_
      refine ri_iadd (z := 8 * b + 8) hx hb dX4_erase_15 rfl ?_
      refine ri_icmp_ge (tgt := 53) hx hb dX4_erase_16 (by decide) (by omega) (by omega) (fun c1 => ?_) (fun c1 => ?_)
      · have e1 : xm = (r_erA (r_shut F b) b).1 := congrArg Prod.fst hX
        have e2 : G = (r_erA (r_shut F b) b).2 := congrArg Prod.snd hX
        rw [e1] at hl
        exact kk10 f6 f7 (by rw [← e2]; exact h6) (by rw [← e2]; exact h7) ls H locs  (lv_sub hl [0, 1, 2] rfl) w
      · exact absurd c1 (by omega)
    | succ n ih10 =>
      intro xm xk G f6 f7 hn hX hlo hm hBG h6 h7 ls H locs hl w kk10
      refine lv_iload hx hb dX4_erase_10 (lv_at hl 4 rfl) ?_
      refine lv_iload_n hx hb dX4_erase_12 rfl (lv_at hl 3 rfl) ?_
      refine ri_bipush hx hb dX4_erase_13 (by decide) ?_
      refine ri_iadd (z := 8 * b + 8) hx hb dX4_erase_15 rfl ?_
      refine ri_icmp_ge (tgt := 53) hx hb dX4_erase_16 (by decide) (by omega) (by omega) (fun c2 => ?_) (fun c2 => ?_)
      · exact absurd c2 (by omega)
      refine lv_iload_n hx hb dX4_erase_19 rfl (lv_at hl 2 rfl) ?_
      refine lv_aload_n hx hb dX4_erase_20 rfl (lv_at hl 0 rfl) ?_
      refine ri_get (v := .ref (a 7)) hx hb hts hown w fX4 0 6 (W0_of k_fl_RX4_31 rfl) rfl rfl (by decide) dX4_erase_21 ?_
      refine lv_iload hx hb dX4_erase_24 (lv_at hl 4 rfl) ?_
      refine ri_iald (f := f7) (v := G (3 * xk + 66)) hx hb w 7 rfl (by omega) (h7 _ (by omega) (by omega)) dX4_erase_26 (by omega) ?_
      have r3 := hBG.bd (3 * xk + 66)
      refine ri_max (z := (if xm < G (3 * xk + 66) then G (3 * xk + 66) else xm)) hx hb (hml.trans hl.1.symm) hown hts m_RX4_121 ⟨Nat.le_of_ble_eq_true rfl, Nat.le_of_ble_eq_true rfl, Nat.le_of_ble_eq_true rfl, Nat.le_of_ble_eq_true rfl⟩ (by omega) (by omega) rfl dX4_erase_27 ?_
      refine lv_istore_n (lv' := [(2, .int (iI (if xm < G (3 * xk + 66) then G (3 * xk + 66) else xm))), (0, .ref (a 0)), (1, .int (iI b)), (3, .int (iI (8 * b))), (4, .int (iI xk))]) hx hb dX4_erase_30 rfl hl (by decide) rfl (fun ls hl => ?_)
      refine lv_aload_n hx hb dX4_erase_31 rfl (lv_at hl 1 rfl) ?_
      refine ri_get (v := .ref (a 6)) hx hb hts hown w fX4 0 5 (W0_of k_fl_RX4_28 rfl) rfl rfl (by decide) dX4_erase_32 ?_
      refine lv_iload hx hb dX4_erase_35 (lv_at hl 4 rfl) ?_
      refine ri_iconst hx hb dX4_erase_37 ?_
      refine ri_iast hx hb w 6 rfl (by omega) dX4_erase_38 (by omega) (fun H locs w => ?_)
      have w : Wd g A (st_ws g a (upT (upT T 7 f7) 6 (up f6 xk (-1)))) s H locs := w
      refine lv_aload_n hx hb dX4_erase_39 rfl (lv_at hl 1 rfl) ?_
      refine ri_get (v := .ref (a 7)) hx hb hts hown w fX4 0 6 (W0_of k_fl_RX4_31 rfl) rfl rfl (by decide) dX4_erase_40 ?_
      refine lv_iload hx hb dX4_erase_43 (lv_at hl 4 rfl) ?_
      refine ri_iconst hx hb dX4_erase_45 ?_
      refine ri_iast hx hb w 7 rfl (by omega) dX4_erase_46 (by omega) (fun H locs w => ?_)
      have w : Wd g A (st_ws g a (upT (upT T 6 (up f6 xk (-1))) 7 (up f7 xk 0))) s H locs := w
      refine ri_iinc (k := 4) (z := xk + 1) (lv' := [(4, .int (iI (xk + 1))), (2, .int (iI (if xm < G (3 * xk + 66) then G (3 * xk + 66) else xm))), (0, .ref (a 0)), (1, .int (iI b)), (3, .int (iI (8 * b)))]) hx hb dX4_erase_47 hl rfl (by omega) (by decide) rfl (fun ls hl => ?_)
      refine lv_goto (tgt := 10) hx hb dX4_erase_50 (by decide) ?_
      exact ih10 (if xm < G (3 * xk + 66) then G (3 * xk + 66) else xm) (xk + 1) (up (up G (3 * xk + 65) (-1)) (3 * xk + 66) 0) (up f6 xk (-1)) (up f7 xk 0) (by omega) (fo_s hX rfl) (by omega) (by omega) ((hBG.up (by omega)).up (by omega)) (fun k q0 q1 => (up_row (i1 := 3 * k + 65) (i0 := 3 * xk + 65) (by omega) (h6 k q0 q1)).trans (up_ne (by omega)).symm) (fun k q0 q1 => up_row (by omega) ((h7 k q0 q1).trans (up_ne (by omega)).symm)) ls H locs (lv_sub hl [2, 3, 1, 4, 0] rfl) w kk10
  refine L10 8 0 (8 * b) (r_shut F b) (T 6) (T 7) (by omega) (rfl) (by omega) (by omega) (hWs.b) (fun k q0 q1 => (hR.he q0 q1).trans (up_ne (by omega)).symm) (fun k q0 q1 => (hR.we q0 q1).trans (up_ne (by omega)).symm) ls H locs (lv_sub hl [3, 4, 2, 1, 0] rfl) w (fun f6 f7 h6 h7 ls H locs hl w => ?_)
  refine lv_aload_n hx hb dX4_erase_53 rfl (lv_at hl 0 rfl) ?_
  refine ri_get (v := .ref (a 5)) hx hb hts hown w fX4 0 4 (W0_of k_fl_RX4_25 rfl) rfl rfl (by decide) dX4_erase_54 ?_
  refine lv_iload_n hx hb dX4_erase_57 rfl (lv_at hl 1 rfl) ?_
  refine ri_iconst hx hb dX4_erase_58 ?_
  refine ri_iast hx hb w 5 rfl (by omega) dX4_erase_59 (by omega) (fun H locs w => ?_)
  have w : Wd g A (st_ws g a (upT (upT (upT T 6 f6) 7 f7) 5 (up (T 5) b 0))) s H locs := w
  refine lv_aload_n hx hb dX4_erase_60 rfl (lv_at hl 0 rfl) ?_
  refine ri_get (v := .ref (a 2)) hx hb hts hown w fX4 0 1 (W0_of k_fl_RX4_15 rfl) rfl rfl (by decide) dX4_erase_61 ?_
  refine lv_iload_n hx hb dX4_erase_64 rfl (lv_at hl 1 rfl) ?_
  refine lv_dup2_11 hx hb dX4_erase_65 rfl rfl ?_
  refine ri_iald (f := T 2) (v := F (4 * b + 42)) hx hb w 2 rfl (by omega) ((hR.er (by omega) (by omega)).trans (congrArg _ (by omega))) dX4_erase_66 (by omega) ?_
  have r4 := hW.bd (4 * b + 42)
  refine ri_iconst hx hb dX4_erase_67 ?_
  refine ri_iadd (z := F (4 * b + 42) + 1) hx hb dX4_erase_68 rfl ?_
  refine ri_iast hx hb w 2 rfl (by omega) dX4_erase_69 (by omega) (fun H locs w => ?_)
  have w : Wd g A (st_ws g a (upT (upT (upT (upT T 6 f6) 7 f7) 5 (up (T 5) b 0)) 2 (up (T 2) b (F (4 * b + 42) + 1)))) s H locs := w
  refine lv_aload_n hx hb dX4_erase_70 rfl (lv_at hl 0 rfl) ?_
  refine ri_get (v := .ref (a 3)) hx hb hts hown w fX4 0 2 (W0_of k_fl_RX4_18 rfl) rfl rfl (by decide) dX4_erase_71 ?_
  refine lv_iload_n hx hb dX4_erase_74 rfl (lv_at hl 1 rfl) ?_
  refine ri_iconst hx hb dX4_erase_75 ?_
  refine ri_zast hx hb w 3 rfl (by omega) (by omega) dX4_erase_76 (by omega) (fun H locs w => ?_)
  have w : Wd g A (st_ws g a (upT (upT (upT (upT (upT T 6 f6) 7 f7) 5 (up (T 5) b 0)) 2 (up (T 2) b (F (4 * b + 42) + 1))) 3 (up (T 3) b 0))) s H locs := w
  refine lv_aload_n hx hb dX4_erase_77 rfl (lv_at hl 0 rfl) ?_
  refine ri_get (v := .int (iI (r_open F))) hx hb hts hown w fX4 0 13 (W0_of k_fl_RX4_60 rfl) rfl (congrArg (fun z => some (Value.int (iI z))) (hR.op)) (by decide) dX4_erase_78 ?_
  have r5 := open_rg hW
  refine lv_iload_n hx hb dX4_erase_81 rfl (lv_at hl 1 rfl) ?_
  refine ri_icmp_ne (tgt := 90) hx hb dX4_erase_82 (by decide) (by omega) (by omega) (fun c6 => ?_) (fun c6 => ?_)
  · refine lv_aload_n hx hb dX4_erase_90 rfl (lv_at hl 0 rfl) ?_
    refine ri_get (v := .ref (a 13)) hx hb hts hown w fX4 0 12 (W0_of k_fl_RX4_56 rfl) rfl rfl (by decide) dX4_erase_91 ?_
    refine lv_iload_n hx hb dX4_erase_94 rfl (lv_at hl 1 rfl) ?_
    refine lv_aload_n hx hb dX4_erase_95 rfl (lv_at hl 0 rfl) ?_
    refine ri_get (v := .int (iI (F 0))) hx hb hts hown w fX4 0 14 (W0_of k_fl_RX4_64 rfl) rfl (congrArg (fun z => some (Value.int (iI z))) (hR.ti)) (by decide) dX4_erase_96 ?_
    have r7 := hW.bd 0
    refine lv_iload_n hx hb dX4_erase_99 rfl (lv_at hl 2 rfl) ?_
    refine call_wV (wr := [(a 0, .inr (4, [.ref (a 1), .ref (a 2), .ref (a 3), .ref (a 4), .ref (a 5), .ref (a 6), .ref (a 7), .ref (a 8), .ref (a 9), .ref (a 10), .ref (a 11), .ref (a 12), .ref (a 13), .int (iI (T 18 0)), .int (iI (T 19 0)), .int (iI (T 20 0)), .int (iI (T 21 0)), .int (iI (T 22 0))])), (a 1, eI g 6 (T 1)), (a 2, eI g 6 (up (T 2) b (F (4 * b + 42) + 1))), (a 3, eZ g 6 (up (T 3) b 0)), (a 4, eI g 6 (T 4)), (a 5, eI g 6 (up (T 5) b 0)), (a 6, eI g 48 f6), (a 7, eI g 48 f7), (a 8, eI g 48 (T 8)), (a 9, eI g 24 (T 9)), (a 10, eI g 24 (T 10)), (a 11, eI g 5 (T 11)), (a 12, .inr (0, [.ref (a 14), .int (iI (T 23 0))])), (a 14, eI g 4 (T 14))]) (As := [.int (iI b), .int (iI (F 0)), .int (iI (r_erA (r_shut F b) b).1)]) (rest := []) hx hb (hml.trans hl.1.symm) hown hts w lk_RX4_166 (fun sz => t_X1_note l g (a 13) (a 15) (a 16) (a 17) (T 15) (T 16) (T 17) (T 24 0) b (F 0) (r_erA (r_shut F b) b).1 sz) [13, 15, 16, 17] [0, 1, 2, 3, 4, 5, 6, 7, 8, 9, 10, 11, 12, 14] rfl rfl rfl rfl (by decide) (call_recv w (q0 := 13) rfl fX1.1) rfl rfl (Nat.le_of_ble_eq_true rfl) ⟨Nat.le_of_ble_eq_true rfl, Nat.le_of_ble_eq_true rfl⟩ ⟨Nat.le_of_ble_eq_true rfl, Nat.le_of_ble_eq_true rfl⟩ dX4_erase_100 (fun v w1 H locs hr w => ?_)
    obtain ⟨rfl, rfl⟩ := hr
    have w := w.perm (wc := [(a 0, .inr (4, [.ref (a 1), .ref (a 2), .ref (a 3), .ref (a 4), .ref (a 5), .ref (a 6), .ref (a 7), .ref (a 8), .ref (a 9), .ref (a 10), .ref (a 11), .ref (a 12), .ref (a 13), .int (iI (T 18 0)), .int (iI (T 19 0)), .int (iI (T 20 0)), .int (iI (T 21 0)), .int (iI (T 22 0))])), (a 1, eI g 6 (T 1)), (a 2, eI g 6 (up (T 2) b (F (4 * b + 42) + 1))), (a 3, eZ g 6 (up (T 3) b 0)), (a 4, eI g 6 (T 4)), (a 5, eI g 6 (up (T 5) b 0)), (a 6, eI g 48 f6), (a 7, eI g 48 f7), (a 8, eI g 48 (T 8)), (a 9, eI g 24 (T 9)), (a 10, eI g 24 (T 10)), (a 11, eI g 5 (T 11)), (a 12, .inr (0, [.ref (a 14), .int (iI (T 23 0))])), (a 13, .inr (1, [.ref (a 15), .ref (a 16), .ref (a 17), .int (iI (T 24 0 + 1))])), (a 14, eI g 4 (T 14)), (a 15, eI g 8 (nt (T 15) b)), (a 16, eI g 8 (nt (T 16) (F 0))), (a 17, eI g 8 (nt (T 17) (r_erA (r_shut F b) b).1))]) [0, 1, 2, 3, 4, 5, 6, 7, 8, 9, 10, 11, 12, 14, 13, 15, 16, 17] (by decide) rfl
    have w : Wd g A (st_ws g a (upT (upT (upT (upT (upT (upT (upT (upT (upT T 6 f6) 7 f7) 5 (up (T 5) b 0)) 2 (up (T 2) b (F (4 * b + 42) + 1))) 3 (up (T 3) b 0)) 15 (nt (T 15) b)) 16 (nt (T 16) (F 0))) 17 (nt (T 17) (r_erA (r_shut F b) b).1)) 24 (fun _ => T 24 0 + 1))) s H locs := w
    exact hend.1 rfl _ _ _ _ _ dX4_erase_103 w ⟨rfl, (upT (upT (upT (upT (upT (upT (upT (upT (upT T 6 f6) 7 f7) 5 (up (T 5) b 0)) 2 (up (T 2) b (F (4 * b + 42) + 1))) 3 (up (T 3) b 0)) 15 (nt (T 15) b)) 16 (nt (T 16) (F 0))) 17 (nt (T 17) (r_erA (r_shut F b) b).1)) 24 (fun _ => T 24 0 + 1)), rfl, rel_erases1 hW hR hb0 hlow h6 h7 (by omega)⟩
  · refine lv_aload_n hx hb dX4_erase_85 rfl (lv_at hl 0 rfl) ?_
    refine ri_iconst hx hb dX4_erase_86 ?_
    refine ri_put hx hb hts hown w fX4 0 13 (W0_of k_fl_RX4_60 rfl) rfl (Nat.le_of_ble_eq_true rfl) (by decide) rfl rfl rfl dX4_erase_87 (fun H locs w => ?_)
    have w : Wd g A (st_ws g a (upT (upT (upT (upT (upT (upT T 6 f6) 7 f7) 5 (up (T 5) b 0)) 2 (up (T 2) b (F (4 * b + 42) + 1))) 3 (up (T 3) b 0)) 18 (fun _ => -1))) s H locs := w
    refine lv_aload_n hx hb dX4_erase_90 rfl (lv_at hl 0 rfl) ?_
    refine ri_get (v := .ref (a 13)) hx hb hts hown w fX4 0 12 (W0_of k_fl_RX4_56 rfl) rfl rfl (by decide) dX4_erase_91 ?_
    refine lv_iload_n hx hb dX4_erase_94 rfl (lv_at hl 1 rfl) ?_
    refine lv_aload_n hx hb dX4_erase_95 rfl (lv_at hl 0 rfl) ?_
    refine ri_get (v := .int (iI (F 0))) hx hb hts hown w fX4 0 14 (W0_of k_fl_RX4_64 rfl) rfl (congrArg (fun z => some (Value.int (iI z))) (hR.ti)) (by decide) dX4_erase_96 ?_
    have r8 := hW.bd 0
    refine lv_iload_n hx hb dX4_erase_99 rfl (lv_at hl 2 rfl) ?_
    refine call_wV (wr := [(a 0, .inr (4, [.ref (a 1), .ref (a 2), .ref (a 3), .ref (a 4), .ref (a 5), .ref (a 6), .ref (a 7), .ref (a 8), .ref (a 9), .ref (a 10), .ref (a 11), .ref (a 12), .ref (a 13), .int (iI (-1)), .int (iI (T 19 0)), .int (iI (T 20 0)), .int (iI (T 21 0)), .int (iI (T 22 0))])), (a 1, eI g 6 (T 1)), (a 2, eI g 6 (up (T 2) b (F (4 * b + 42) + 1))), (a 3, eZ g 6 (up (T 3) b 0)), (a 4, eI g 6 (T 4)), (a 5, eI g 6 (up (T 5) b 0)), (a 6, eI g 48 f6), (a 7, eI g 48 f7), (a 8, eI g 48 (T 8)), (a 9, eI g 24 (T 9)), (a 10, eI g 24 (T 10)), (a 11, eI g 5 (T 11)), (a 12, .inr (0, [.ref (a 14), .int (iI (T 23 0))])), (a 14, eI g 4 (T 14))]) (As := [.int (iI b), .int (iI (F 0)), .int (iI (r_erA (r_shut F b) b).1)]) (rest := []) hx hb (hml.trans hl.1.symm) hown hts w lk_RX4_166 (fun sz => t_X1_note l g (a 13) (a 15) (a 16) (a 17) (T 15) (T 16) (T 17) (T 24 0) b (F 0) (r_erA (r_shut F b) b).1 sz) [13, 15, 16, 17] [0, 1, 2, 3, 4, 5, 6, 7, 8, 9, 10, 11, 12, 14] rfl rfl rfl rfl (by decide) (call_recv w (q0 := 13) rfl fX1.1) rfl rfl (Nat.le_of_ble_eq_true rfl) ⟨Nat.le_of_ble_eq_true rfl, Nat.le_of_ble_eq_true rfl⟩ ⟨Nat.le_of_ble_eq_true rfl, Nat.le_of_ble_eq_true rfl⟩ dX4_erase_100 (fun v w1 H locs hr w => ?_)
    obtain ⟨rfl, rfl⟩ := hr
    have w := w.perm (wc := [(a 0, .inr (4, [.ref (a 1), .ref (a 2), .ref (a 3), .ref (a 4), .ref (a 5), .ref (a 6), .ref (a 7), .ref (a 8), .ref (a 9), .ref (a 10), .ref (a 11), .ref (a 12), .ref (a 13), .int (iI (-1)), .int (iI (T 19 0)), .int (iI (T 20 0)), .int (iI (T 21 0)), .int (iI (T 22 0))])), (a 1, eI g 6 (T 1)), (a 2, eI g 6 (up (T 2) b (F (4 * b + 42) + 1))), (a 3, eZ g 6 (up (T 3) b 0)), (a 4, eI g 6 (T 4)), (a 5, eI g 6 (up (T 5) b 0)), (a 6, eI g 48 f6), (a 7, eI g 48 f7), (a 8, eI g 48 (T 8)), (a 9, eI g 24 (T 9)), (a 10, eI g 24 (T 10)), (a 11, eI g 5 (T 11)), (a 12, .inr (0, [.ref (a 14), .int (iI (T 23 0))])), (a 13, .inr (1, [.ref (a 15), .ref (a 16), .ref (a 17), .int (iI (T 24 0 + 1))])), (a 14, eI g 4 (T 14)), (a 15, eI g 8 (nt (T 15) b)), (a 16, eI g 8 (nt (T 16) (F 0))), (a 17, eI g 8 (nt (T 17) (r_erA (r_shut F b) b).1))]) [0, 1, 2, 3, 4, 5, 6, 7, 8, 9, 10, 11, 12, 14, 13, 15, 16, 17] (by decide) rfl
    have w : Wd g A (st_ws g a (upT (upT (upT (upT (upT (upT (upT (upT (upT (upT T 6 f6) 7 f7) 5 (up (T 5) b 0)) 2 (up (T 2) b (F (4 * b + 42) + 1))) 3 (up (T 3) b 0)) 18 (fun _ => -1)) 15 (nt (T 15) b)) 16 (nt (T 16) (F 0))) 17 (nt (T 17) (r_erA (r_shut F b) b).1)) 24 (fun _ => T 24 0 + 1))) s H locs := w
    exact hend.1 rfl _ _ _ _ _ dX4_erase_103 w ⟨rfl, (upT (upT (upT (upT (upT (upT (upT (upT (upT (upT T 6 f6) 7 f7) 5 (up (T 5) b 0)) 2 (up (T 2) b (F (4 * b + 42) + 1))) 3 (up (T 3) b 0)) 18 (fun _ => -1)) 15 (nt (T 15) b)) 16 (nt (T 16) (F 0))) 17 (nt (T 17) (r_erA (r_shut F b) b).1)) 24 (fun _ => T 24 0 + 1)), rfl, rel_erases0 hW hR hb0 hlow h6 h7 (by omega)⟩
