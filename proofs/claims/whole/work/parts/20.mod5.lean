set_option maxHeartbeats 4000000 in
set_option maxRecDepth 100000 in
theorem t_X6_isText (l : Launch) (g : GG) (b : Nat → Nat) (N : Int) (B : Nat → Int → Int) (X : Nat → Int → Int) (hW : WB N B) (hP : PastOk B (X 2)) (sz : Nat) : Met l yX6_isText (wm yX6_isText cX6_isText 2 (some .boolean)) (rmm 4 0 0) (pW g (mo_ws g b B X) sz [.ref (b 0)]) (qW g (mo_ws g b B X) (fun vv ww => ∃ X', ww = mo_ws g b B X' ∧ X' 2 = X 2 ∧ ((vv = some (.int (iI 1)) ∧ (t_of B).1 = 1 ∧ 0 ≤ (t_of B).2.2 ∧ (t_of B).2.2 ≤ 20 ∧ X' 6 0 = (t_of B).2.2 ∧ (∀ j : Nat, (j : Int) < (t_of B).2.2 → X' 5 (3 * j) = B 6 (t_at (B 6) (B 10 0) j) ∧ X' 5 (3 * j + 1) = o_arg (B 6) (B 10 0) (t_at (B 6) (B 10 0) j) ∧ X' 5 (3 * j + 2) = o_rep (B 6) (B 10 0) (t_at (B 6) (B 10 0) j) ∧ O_ok (B 6) (B 10 0) (t_at (B 6) (B 10 0) j))) ∨ (vv = some (.int (iI 0)) ∧ (t_of B).1 = 0 ∧ 0 ≤ (t_of B).2.1 ∧ (t_of B).2.1 ≤ 60 ∧ X' 3 0 = (t_of B).2.1)))) 0 0 (va_A (mo_ws g b B X) sz) := by
  have hk := hW.k
  have hj := hW.j
  have htl := hW.tl
  have hrf := hW.rf
  have hTx := hW.tx
  have hrr := hW.rr
  have hW0 := hW.1
  refine met_w (by decide) (Nat.le_of_ble_eq_true rfl) ?_
  intro p e s m args below meth c Q ls A hx hb hml hown hts hl w hin hend
  obtain ⟨H, hH0⟩ : ∃ H, H = s.heap := ⟨_, rfl⟩
  obtain ⟨locs, hL0⟩ : ∃ locs : List Loc, locs = [] := ⟨_, rfl⟩
  rw [← hH0, ← hL0] at w
  rw [← hH0, ← hL0]
  have hl : lv_has ls 2 [(0, .ref (b 0))] := hl
  refine lv_aload_n hx hb dX6_isText_0 rfl (lv_at hl 0 rfl) ?_
  refine ri_iconst hx hb dX6_isText_1 ?_
  refine ri_put hx hb hts hown w fX6 0 9 (W0_of k_fl_RX6_177 rfl) rfl (Nat.le_of_ble_eq_true rfl) (by decide) rfl rfl rfl dX6_isText_2 (fun H locs w => ?_)
  have w : Wd g A (mo_ws g b B (upT X 3 (fun _ => 0))) s H locs := w
  refine lv_aload_n hx hb dX6_isText_5 rfl (lv_at hl 0 rfl) ?_
  refine ri_iconst hx hb dX6_isText_6 ?_
  refine ri_put hx hb hts hown w fX6 0 12 (W0_of k_fl_RX6_189 rfl) rfl (Nat.le_of_ble_eq_true rfl) (by decide) rfl rfl rfl dX6_isText_7 (fun H locs w => ?_)
  have w : Wd g A (mo_ws g b B (upT (upT X 3 (fun _ => 0)) 6 (fun _ => 0))) s H locs := w
  refine ri_iconst hx hb dX6_isText_10 ?_
  refine lv_istore_n (lv' := [(1, .int (iI 1)), (0, .ref (b 0))]) hx hb dX6_isText_11 rfl hl (by decide) rfl (fun ls hl => ?_)
  have L12 : ∀ (n : Nat) (xm : Int) (Y : Nat → Int → Int) (a : Int) (mm : Int), (Y 2 = X 2) → (Y 3 0 = a) → (Y 6 0 = mm) → (0 ≤ a ∧ a ≤ B 10 0 ∧ 3 * mm ≤ a + 1) → (0 ≤ mm ∧ mm + n = 22) → ((xm = 1 ∧ t_run (B 6) (B 10 0) (n - 1) a mm = t_of B ∧ t_at (B 6) (B 10 0) mm.toNat = a ∧ 0 < n - 1) ∨ (xm = 0 ∧ t_of B = ((if a = B 10 0 then 1 else 0), a, mm))) → ((∀ j : Nat, (j : Int) < mm → Y 5 (3 * j) = B 6 (t_at (B 6) (B 10 0) j) ∧ Y 5 (3 * j + 1) = o_arg (B 6) (B 10 0) (t_at (B 6) (B 10 0) j) ∧ Y 5 (3 * j + 2) = o_rep (B 6) (B 10 0) (t_at (B 6) (B 10 0) j) ∧ O_ok (B 6) (B 10 0) (t_at (B 6) (B 10 0) j))) → (xm = 1 → 3 * mm ≤ a) → ∀ (ls : Array Slot) (H : Heap) (locs : List Loc), lv_has ls 2 [(0, .ref (b 0)), (1, .int (iI xm))] → Wd g A (mo_ws g b B Y) s H locs → (∀ (Y : Nat → Int → Int) (a mm : Int) (hx2 : Y 2 = X 2) (ha3 : Y 3 0 = a) (ha : 0 ≤ a ∧ a ≤ B 10 0) (ha6 : Y 6 0 = mm) (hmm : 0 ≤ mm ∧ mm ≤ 20) (hE : t_of B = ((if a = B 10 0 then 1 else 0), a, mm)) (hro : (∀ j : Nat, (j : Int) < mm → Y 5 (3 * j) = B 6 (t_at (B 6) (B 10 0) j) ∧ Y 5 (3 * j + 1) = o_arg (B 6) (B 10 0) (t_at (B 6) (B 10 0) j) ∧ Y 5 (3 * j + 2) = o_rep (B 6) (B 10 0) (t_at (B 6) (B 10 0) j) ∧ O_ok (B 6) (B 10 0) (t_at (B 6) (B 10 0) j))) (ls : Array Slot) (H : Heap) (locs : List Loc), lv_has ls 2 [(0, .ref (b 0))] → Wd g A (mo_ws g b B Y) s H locs → W p l e (rmm 4 0 0) s m args below meth c H locs 0 0 Q (F0 m 45 ls [])) → W p l e (rmm 4 0 0) s m args below meth c H locs 0 0 Q (F0 m 12 ls []) := by
    intro n
    induction n with
    | zero =>
      intro xm Y a mm hx2 ha3 ha6 ha hmm hI hro hlast ls H locs hl w kk12
      exact absurd hmm (by omega)
    | succ n ih12 =>
      intro xm Y a mm hx2 ha3 ha6 ha hmm hI hro hlast ls H locs hl w kk12
      refine lv_iload_n hx hb dX6_isText_12 rfl (lv_at hl 1 rfl) ?_
      refine ri_if_eq (tgt := 45) hx hb dX6_isText_13 (by decide) (by omega) (fun c1 => ?_) (fun c1 => ?_)
      · exact kk12 Y a mm hx2 ha3 (by omega) ha6 (by omega) (by rcases hI with hq | hq; exact absurd hq.1 (by omega); exact hq.2) hro ls H locs  (lv_sub hl [0] rfl) w
      · obtain ⟨hrun, hat, hn1⟩ : t_run (B 6) (B 10 0) n a mm = t_of B ∧ t_at (B 6) (B 10 0) mm.toNat = a ∧ 0 < n := by rcases hI with hq | hq; exact hq.2; exact absurd hq.1 (by omega)
        refine lv_aload_n hx hb dX6_isText_16 rfl (lv_at hl 0 rfl) ?_
        refine call_wV (wr := []) (As := []) (rest := []) hx hb (hml.trans hl.1.symm) hown hts w lk_RX6_195 (fun sz => t_X6_isOrder l g b _ B Y  a mm hW (ha3) (ha6) (by omega) (by omega) sz) [0, 1, 2, 3, 4, 5, 6, 7, 8] [] rfl rfl rfl rfl (by decide) (call_recv w (q0 := 0) rfl fX6.1) rfl rfl (Nat.le_of_ble_eq_true rfl) ⟨Nat.le_of_ble_eq_true rfl, Nat.le_of_ble_eq_true rfl⟩ ⟨Nat.le_of_ble_eq_true rfl, Nat.le_of_ble_eq_true rfl⟩ dX6_isText_17 (fun v w1 H locs hr w => ?_)
        rcases hr with ⟨rfl, c2, Z3, rfl, z2c2, z3c2, z6c2, z5c2⟩ | ⟨rfl, c2, Z3, rfl, z2c2, z3c2, z6c2⟩
        · have w : Wd g A (mo_ws g b B Z3) s H locs := w
          refine ri_if_ne (tgt := 25) hx hb dX6_isText_20 (by decide) (by omega) (fun c4 => ?_) (fun c4 => ?_)
          · have hok := c2
            have hog := o_ok_rg hok
            refine lv_aload_n hx hb dX6_isText_25 rfl (lv_at hl 0 rfl) ?_
            refine lv_dup hx hb dX6_isText_26 rfl ?_
            refine ri_get (v := .int (iI mm)) hx hb hts hown w fX6 0 12 (W0_of k_fl_RX6_189 rfl) rfl (congrArg (fun z => some (Value.int (iI z))) (z6c2)) (by decide) dX6_isText_27 ?_
            refine ri_iconst hx hb dX6_isText_30 ?_
            refine ri_iadd (z := mm + 1) hx hb dX6_isText_31 rfl ?_
            refine ri_put hx hb hts hown w fX6 0 12 (W0_of k_fl_RX6_189 rfl) rfl (Nat.le_of_ble_eq_true rfl) (by decide) rfl rfl rfl dX6_isText_32 (fun H locs w => ?_)
            have w : Wd g A (mo_ws g b B (upT Z3 6 (fun _ => mm + 1))) s H locs := w
            refine lv_aload_n hx hb dX6_isText_35 rfl (lv_at hl 0 rfl) ?_
            refine ri_bipush hx hb dX6_isText_36 (by decide) ?_
            refine call_wV (wr := []) (As := [.int (iI 44)]) (rest := []) hx hb (hml.trans hl.1.symm) hown hts w lk_RX6_192 (fun sz => t_X6_isSign l g b _ B (upT Z3 6 (fun _ => mm + 1)) 44 (o_end (B 6) (B 10 0) a) hW (z3c2) (by omega) (by omega) sz) [0, 1, 2, 3, 4, 5, 6, 7, 8] [] rfl rfl rfl rfl (by decide) (call_recv w (q0 := 0) rfl fX6.1) rfl rfl (Nat.le_of_ble_eq_true rfl) ⟨Nat.le_of_ble_eq_true rfl, Nat.le_of_ble_eq_true rfl⟩ ⟨Nat.le_of_ble_eq_true rfl, Nat.le_of_ble_eq_true rfl⟩ dX6_isText_38 (fun v w1 H locs hr w => ?_)
            rcases hr with ⟨rfl, c5, rfl⟩ | ⟨rfl, c5, rfl⟩
            · have w : Wd g A (mo_ws g b B (upT (upT Z3 6 (fun _ => mm + 1)) 3 (fun _ => o_end (B 6) (B 10 0) a + 1))) s H locs := w
              refine lv_istore_n (lv' := [(1, .int (iI 1)), (0, .ref (b 0))]) hx hb dX6_isText_41 rfl hl (by decide) rfl (fun ls hl => ?_)
              refine lv_goto (tgt := 12) hx hb dX6_isText_42 (by decide) ?_
              exact ih12 1 ((upT (upT Z3 6 (fun _ => mm + 1)) 3 (fun _ => o_end (B 6) (B 10 0) a + 1))) (o_end (B 6) (B 10 0) a + 1) (mm + 1) ((z2c2.trans hx2)) (rfl) (rfl) (by omega) (by omega) (Or.inl ⟨rfl, by rw [← hrun, t_run_2 hn1 hok (by assumption)], by rw [show (mm + 1).toNat = mm.toNat + 1 from by omega]; show o_end _ _ (t_at _ _ mm.toNat) + 1 = _; rw [hat], by omega⟩) ((txt_rows hro z5c2 hat hok hmm.1)) (by omega) ls H locs (lv_sub hl [1, 0] rfl) w kk12
            · have w : Wd g A (mo_ws g b B (upT Z3 6 (fun _ => mm + 1))) s H locs := w
              refine lv_istore_n (lv' := [(1, .int (iI 0)), (0, .ref (b 0))]) hx hb dX6_isText_41 rfl hl (by decide) rfl (fun ls hl => ?_)
              refine lv_goto (tgt := 12) hx hb dX6_isText_42 (by decide) ?_
              exact ih12 0 ((upT Z3 6 (fun _ => mm + 1))) (o_end (B 6) (B 10 0) a) (mm + 1) ((z2c2.trans hx2)) (z3c2) (rfl) (by omega) (by omega) (Or.inr ⟨rfl, by rw [← hrun, t_run_3 hn1 hok (by assumption)]⟩) ((txt_rows hro z5c2 hat hok hmm.1)) (by omega) ls H locs (lv_sub hl [1, 0] rfl) w kk12
          · exact absurd c4 (by omega)
        · have w : Wd g A (mo_ws g b B Z3) s H locs := w
          refine ri_if_ne (tgt := 25) hx hb dX6_isText_20 (by decide) (by omega) (fun c6 => ?_) (fun c6 => ?_)
          · exact absurd c6 (by omega)
          refine ri_iconst hx hb dX6_isText_23 ?_
          have e9 : t_of B = (0, o_end (B 6) (B 10 0) a, mm) := by rw [← hrun, t_run_1 hn1 c2]
          have eg := o_end_rg0 (t := B 6) (n := B 10 0) (a := a) (by omega)
          exact hend.2 _ _ _ _ ⟨_, rfl, (nz (by omega))⟩ _ _ dX6_isText_24 w ⟨_, rfl, z2c2.trans hx2, Or.inr ⟨rfl, by rw [e9], by rw [e9]; show 0 ≤ o_end _ _ a; omega, by rw [e9]; show o_end _ _ a ≤ 60; omega, by rw [e9]; exact z3c2⟩⟩
  refine L12 22 1 (upT (upT X 3 (fun _ => 0)) 6 (fun _ => 0)) (0) (0) (rfl) (rfl) (rfl) (by omega) (by omega) (Or.inl ⟨rfl, rfl, rfl, by omega⟩) (fun j hj => absurd hj (by omega)) (by omega) ls H locs (lv_sub hl [1, 0] rfl) w (fun Y a mm hx2 ha3 ha ha6 hmm hE hro ls H locs hl w => ?_)
  refine lv_aload_n hx hb dX6_isText_45 rfl (lv_at hl 0 rfl) ?_
  refine ri_get (v := .int (iI a)) hx hb hts hown w fX6 0 9 (W0_of k_fl_RX6_177 rfl) rfl (congrArg (fun z => some (Value.int (iI z))) (ha3)) (by decide) dX6_isText_46 ?_
  refine lv_aload_n hx hb dX6_isText_49 rfl (lv_at hl 0 rfl) ?_
  refine ri_get (v := .int (iI (B 10 0))) hx hb hts hown w fX6 0 8 (W0_of k_fl_RX6_174 rfl) rfl rfl (by decide) dX6_isText_50 ?_
  refine ri_icmp_ne (tgt := 60) hx hb dX6_isText_53 (by decide) (by omega) (by omega) (fun c7 => ?_) (fun c7 => ?_)
  · refine ri_iconst hx hb dX6_isText_60 ?_
    have e9 : t_of B = (0, a, mm) := by rw [hE, if_neg (by omega)]
    exact hend.2 _ _ _ _ ⟨_, rfl, (nz (by omega))⟩ _ _ dX6_isText_61 w ⟨_, rfl, hx2, Or.inr ⟨rfl, by rw [e9], by rw [e9]; exact ha.1, by rw [e9]; show a ≤ 60; omega, by rw [e9]; exact ha3⟩⟩
  · refine ri_iconst hx hb dX6_isText_56 ?_
    refine lv_goto (tgt := 61) hx hb dX6_isText_57 (by decide) ?_
    have e9 : t_of B = (1, a, mm) := by rw [hE, if_pos (by omega)]
    exact hend.2 _ _ _ _ ⟨_, rfl, (nz (by omega))⟩ _ _ dX6_isText_61 w ⟨_, rfl, hx2, Or.inl ⟨rfl, by rw [e9], by rw [e9]; exact hmm.1, by rw [e9]; exact hmm.2, by rw [e9]; exact ha6, by rw [e9]; exact hro⟩⟩
