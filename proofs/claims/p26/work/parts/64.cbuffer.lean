set_option maxHeartbeats 4000000 in
set_option maxRecDepth 100000 in
theorem t_L_buffer (l : Launch) (g : GG) (c0 : Nat) (na be tr sn x : Nat → Nat) (h : Nat → Nat → Nat) (o : Nat → Nat) (T T1 T2 T3 : Nat → Int → Int) (K : Nat → Nat → Int → Int) (z : Int) (P : Nat → Int → Int) (C : Nat → Int) (N : Int) (B : Nat → Int → Int) (hW : WB N B) (hC : RelC B T T3 K z P C) (hB : BI (B 0)) : Met l yL_buffer (wm yL_buffer cL_buffer 7 (some .boolean)) (rmm 5 0 0) (pR g (wp_ws g c0 na be tr sn x h o T T1 T2 T3 K z P C) [.ref c0]) (qR (some (.int (iI 1)))) 0 0 (fun _ => False) := by
  refine met_r (by decide) (Nat.le_of_ble_eq_true rfl) ?_
  intro p e s m args below meth c Q ls hx hb hml hown hts hl w hend
  have hl : lv_has ls 7 [(0, .ref c0)] := hl
  have hrv : ∃ cell : Cell, s.heap[c0]? = some cell ∧ cell.vm.isStatics = false ∧ s.vm.findClass yX5_count.cls = some cell.cls := call_recv w (q0 := 0) rfl fX5.1
  have hW0 := hW.1
  have ho := hW0.op
  have hs := hW0.se
  have he := hW0.he
  have hj := hB.2.2.2
  have h4 := hW0.h4
  have b7 := hW0.bd 7
  have b8 := hW0.bd 8
  have L30 : ∀ (n : Nat) (pg re : Int), pg + n = 24 → 0 ≤ pg → re + sm n (pg + 209) (B 0) = B 0 7 → ∀ ls : Array Slot, lv_has ls 7 [(0, .ref c0), (1, .int (iI (bm (B 0) pg))), (2, .int (iI re)), (3, .int (iI (bt (B 0) pg))), (4, .int (iI 1)), (5, .int (iI pg))] → W p l e (rmm 5 0 0) s m args below meth c s.heap [] 0 0 Q (F0 m 30 ls []) := by
    intro n
    induction n with
    | zero =>
      intro pg re hn hp hr ls hl
      have q0 : pg = 24 := by omega
      have q1 : re = B 0 7 := by have q : re + 0 = B 0 7 := hr; omega
      have q2 := bm_all (F := B 0) (by omega) hj
      rw [q0, q1, q2] at hl
      have hle := hB.2.1
      refine lv_iload hx hb dL_buffer_30 (lv_at hl 5 rfl) ?_
      refine ri_bipush hx hb dL_buffer_32 (by decide) ?_
      refine ri_icmp_ge (tgt := 150) hx hb dL_buffer_34 (by decide) (by omega) (by omega) (fun c1 => ?_) (fun c1 => ?_)
      · refine lv_iload hx hb dL_buffer_150 (lv_at hl 4 rfl) ?_
        refine ri_if_eq (tgt := 192) hx hb dL_buffer_152 (by decide) (by omega) (fun c2 => ?_) (fun c2 => ?_)
        · exact absurd c2 (by omega)
        refine lv_iload_n hx hb dL_buffer_155 rfl (lv_at hl 1 rfl) ?_
        refine lv_aload_n hx hb dL_buffer_156 rfl (lv_at hl 0 rfl) ?_
        refine ri_bipush hx hb dL_buffer_157 (by decide) ?_
        refine co_r (As := [.int (iI 9)]) (rest := [.int (iI (B 0 11))]) hx hb (hml.trans hl.1.symm) hown hts w lk_RL_57 (t_X5_count l g c0 na be tr sn x h o T T1 T2 T3 K z P C N B 9 hW hC (by omega)) hrv rfl rfl (Nat.le_of_ble_eq_true rfl) ⟨Nat.le_of_ble_eq_true rfl, Nat.le_of_ble_eq_true rfl⟩ ⟨Nat.le_of_ble_eq_true rfl, Nat.le_of_ble_eq_true rfl⟩ dL_buffer_159 ?_
        rw [cc_9]
        refine ri_icmp_ne (tgt := 192) hx hb dL_buffer_162 (by decide) (by omega) (by omega) (fun c3 => ?_) (fun c3 => ?_)
        · exact absurd c3 (by omega)
        refine lv_iload_n hx hb dL_buffer_165 rfl (lv_at hl 2 rfl) ?_
        refine lv_aload_n hx hb dL_buffer_166 rfl (lv_at hl 0 rfl) ?_
        refine ri_iconst hx hb dL_buffer_167 ?_
        refine co_r (As := [.int (iI 5)]) (rest := [.int (iI (B 0 7))]) hx hb (hml.trans hl.1.symm) hown hts w lk_RL_57 (t_X5_count l g c0 na be tr sn x h o T T1 T2 T3 K z P C N B 5 hW hC (by omega)) hrv rfl rfl (Nat.le_of_ble_eq_true rfl) ⟨Nat.le_of_ble_eq_true rfl, Nat.le_of_ble_eq_true rfl⟩ ⟨Nat.le_of_ble_eq_true rfl, Nat.le_of_ble_eq_true rfl⟩ dL_buffer_168 ?_
        rw [cc_5]
        refine ri_icmp_ne (tgt := 192) hx hb dL_buffer_171 (by decide) (by omega) (by omega) (fun c4 => ?_) (fun c4 => ?_)
        · exact absurd c4 (by omega)
        refine lv_aload_n hx hb dL_buffer_174 rfl (lv_at hl 0 rfl) ?_
        refine ri_bipush hx hb dL_buffer_175 (by decide) ?_
        refine co_r (As := [.int (iI 6)]) (rest := []) hx hb (hml.trans hl.1.symm) hown hts w lk_RL_57 (t_X5_count l g c0 na be tr sn x h o T T1 T2 T3 K z P C N B 6 hW hC (by omega)) hrv rfl rfl (Nat.le_of_ble_eq_true rfl) ⟨Nat.le_of_ble_eq_true rfl, Nat.le_of_ble_eq_true rfl⟩ ⟨Nat.le_of_ble_eq_true rfl, Nat.le_of_ble_eq_true rfl⟩ dL_buffer_177 ?_
        rw [cc_6]
        refine lv_aload_n hx hb dL_buffer_180 rfl (lv_at hl 0 rfl) ?_
        refine ri_iconst hx hb dL_buffer_181 ?_
        refine co_r (As := [.int (iI 5)]) (rest := [.int (iI (B 0 8))]) hx hb (hml.trans hl.1.symm) hown hts w lk_RL_57 (t_X5_count l g c0 na be tr sn x h o T T1 T2 T3 K z P C N B 5 hW hC (by omega)) hrv rfl rfl (Nat.le_of_ble_eq_true rfl) ⟨Nat.le_of_ble_eq_true rfl, Nat.le_of_ble_eq_true rfl⟩ ⟨Nat.le_of_ble_eq_true rfl, Nat.le_of_ble_eq_true rfl⟩ dL_buffer_182 ?_
        rw [cc_5]
        refine ri_icmp_gt (tgt := 192) hx hb dL_buffer_185 (by decide) (by omega) (by omega) (fun c5 => ?_) (fun c5 => ?_)
        · exact absurd c5 (by omega)
        refine ri_iconst hx hb dL_buffer_188 ?_
        refine lv_goto (tgt := 193) hx hb dL_buffer_189 (by decide) ?_
        exact hend.2 _ rfl ⟨_, rfl, rfl⟩ _ _ dL_buffer_193
      · exact absurd c1 (by omega)
    | succ n ih =>
      intro pg re hn hp hr ls hl
      have hbr := buf_rg (B 0) pg
      have htr := bt_rg (B 0) pg
      have hsm : re + B 0 (pg + 209) + sm n (pg + 1 + 209) (B 0) = B 0 7 := by rw [sm_s] at hr; rw [show pg + 1 + 209 = pg + 209 + 1 from by omega]; omega
      by_cases hq : r_buf (B 0) pg = -5
      · have hb2 := bt_no hq
        have hb1 := bits0 htr
        have hbit : (iI (iI (bt (B 0) pg) >>> (iI 30 &&& 31)).toInt &&& iI 1).toInt = 0 ∧ (iI (bt (B 0) pg) ||| iI 0).toInt = bt (B 0) (pg + 1) ∧ bm (B 0) (pg + 1) = bm (B 0) pg := ⟨hb1.1, hb1.2.trans hb2.1.symm, hb2.2⟩
        have hbm := hbit.2.2
        refine lv_iload hx hb dL_buffer_30 (lv_at hl 5 rfl) ?_
        refine ri_bipush hx hb dL_buffer_32 (by decide) ?_
        refine ri_icmp_ge (tgt := 150) hx hb dL_buffer_34 (by decide) (by omega) (by omega) (fun c6 => ?_) (fun c6 => ?_)
        · exact absurd c6 (by omega)
        refine lv_aload_n hx hb dL_buffer_37 rfl (lv_at hl 0 rfl) ?_
        refine lv_iload hx hb dL_buffer_38 (lv_at hl 5 rfl) ?_
        refine ri_iconst hx hb dL_buffer_40 ?_
        refine co_r (As := [.int (iI pg), .int (iI 4)]) (rest := []) hx hb (hml.trans hl.1.symm) hown hts w lk_RL_64 (t_X5_page l g c0 na be tr sn x h o T T1 T2 T3 K z P C N B pg 4 hW hC (by omega) (by omega)) hrv rfl rfl (Nat.le_of_ble_eq_true rfl) ⟨Nat.le_of_ble_eq_true rfl, Nat.le_of_ble_eq_true rfl⟩ ⟨Nat.le_of_ble_eq_true rfl, Nat.le_of_ble_eq_true rfl⟩ dL_buffer_41 ?_
        rw [page_4 (by omega)]
        refine lv_istore (lv' := [(6, .int (iI (r_buf (B 0) pg))), (0, .ref c0), (1, .int (iI (bm (B 0) pg))), (2, .int (iI re)), (3, .int (iI (bt (B 0) pg))), (4, .int (iI 1)), (5, .int (iI pg))]) hx hb dL_buffer_44 hl (by decide) rfl (fun ls hl => ?_)
        refine lv_iload hx hb dL_buffer_46 (lv_at hl 5 rfl) ?_
        refine ri_if_eq (tgt := 102) hx hb dL_buffer_48 (by decide) (by omega) (fun c7 => ?_) (fun c7 => ?_)
        · exact absurd c7 (by omega)
        refine lv_iload hx hb dL_buffer_51 (lv_at hl 0 rfl) ?_
        refine ri_bipush hx hb dL_buffer_53 (by decide) ?_
        refine ri_icmp_eq (tgt := 79) hx hb dL_buffer_55 (by decide) (by omega) (by omega) (fun c8 => ?_) (fun c8 => ?_)
        · refine lv_iload_n hx hb dL_buffer_79 rfl (lv_at hl 4 rfl) ?_
          refine lv_iload hx hb dL_buffer_80 (lv_at hl 0 rfl) ?_
          refine ri_if_ge (tgt := 90) hx hb dL_buffer_82 (by decide) (by omega) (fun c9 => ?_) (fun c9 => ?_)
          · exact absurd c9 (by omega)
          refine ri_bipush hx hb dL_buffer_85 (by decide) ?_
          refine lv_goto (tgt := 92) hx hb dL_buffer_87 (by decide) ?_
          refine ri_ishr (t := (iI (bt (B 0) pg) >>> (iI 30 &&& 31)).toInt) hx hb rfl dL_buffer_92 ?_
          refine ri_iconst hx hb dL_buffer_93 ?_
          refine ri_iand (t := 0) hx hb hbit.1 dL_buffer_94 ?_
          refine ri_if_ne (tgt := 102) hx hb dL_buffer_95 (by decide) (by omega) (fun c10 => ?_) (fun c10 => ?_)
          · exact absurd c10 (by omega)
          refine ri_iconst hx hb dL_buffer_98 ?_
          refine lv_goto (tgt := 103) hx hb dL_buffer_99 (by decide) ?_
          refine lv_istore (lv' := [(4, .int (iI 1)), (6, .int (iI (r_buf (B 0) pg))), (0, .ref c0), (1, .int (iI (bm (B 0) pg))), (2, .int (iI re)), (3, .int (iI (bt (B 0) pg))), (5, .int (iI pg))]) hx hb dL_buffer_103 hl (by decide) rfl (fun ls hl => ?_)
          refine lv_iload_n hx hb dL_buffer_105 rfl (lv_at hl 5 rfl) ?_
          refine lv_iload hx hb dL_buffer_106 (lv_at hl 1 rfl) ?_
          refine ri_if_ge (tgt := 115) hx hb dL_buffer_108 (by decide) (by omega) (fun c11 => ?_) (fun c11 => ?_)
          · exact absurd c11 (by omega)
          refine ri_iconst hx hb dL_buffer_111 ?_
          refine lv_goto (tgt := 119) hx hb dL_buffer_112 (by decide) ?_
          refine ri_ior (t := bt (B 0) (pg + 1)) hx hb hbit.2.1 dL_buffer_119 ?_
          refine lv_istore_n (lv' := [(3, .int (iI (bt (B 0) (pg + 1)))), (4, .int (iI 1)), (6, .int (iI (r_buf (B 0) pg))), (0, .ref c0), (1, .int (iI (bm (B 0) pg))), (2, .int (iI re)), (5, .int (iI pg))]) hx hb dL_buffer_120 rfl hl (by decide) rfl (fun ls hl => ?_)
          refine lv_iload_n hx hb dL_buffer_121 rfl (lv_at hl 4 rfl) ?_
          refine lv_iload hx hb dL_buffer_122 (lv_at hl 2 rfl) ?_
          refine ri_if_ge (tgt := 131) hx hb dL_buffer_124 (by decide) (by omega) (fun c12 => ?_) (fun c12 => ?_)
          · exact absurd c12 (by omega)
          refine ri_iconst hx hb dL_buffer_127 ?_
          refine lv_goto (tgt := 132) hx hb dL_buffer_128 (by decide) ?_
          refine ri_iadd (z := bm (B 0) pg) hx hb dL_buffer_132 (by omega) ?_
          rw [show bm (B 0) pg = bm (B 0) (pg + 1) from by omega]
          refine lv_istore_n (lv' := [(1, .int (iI (bm (B 0) (pg + 1)))), (3, .int (iI (bt (B 0) (pg + 1)))), (4, .int (iI 1)), (6, .int (iI (r_buf (B 0) pg))), (0, .ref c0), (2, .int (iI re)), (5, .int (iI pg))]) hx hb dL_buffer_133 rfl hl (by decide) rfl (fun ls hl => ?_)
          refine lv_iload_n hx hb dL_buffer_134 rfl (lv_at hl 5 rfl) ?_
          refine lv_aload_n hx hb dL_buffer_135 rfl (lv_at hl 4 rfl) ?_
          refine lv_iload hx hb dL_buffer_136 (lv_at hl 6 rfl) ?_
          refine ri_iconst hx hb dL_buffer_138 ?_
          refine co_r (As := [.int (iI pg), .int (iI 5)]) (rest := [.int (iI re)]) hx hb (hml.trans hl.1.symm) hown hts w lk_RL_64 (t_X5_page l g c0 na be tr sn x h o T T1 T2 T3 K z P C N B pg 5 hW hC (by omega) (by omega)) hrv rfl rfl (Nat.le_of_ble_eq_true rfl) ⟨Nat.le_of_ble_eq_true rfl, Nat.le_of_ble_eq_true rfl⟩ ⟨Nat.le_of_ble_eq_true rfl, Nat.le_of_ble_eq_true rfl⟩ dL_buffer_139 ?_
          rw [page_5 (by omega)]
          refine ri_iadd (z := B 0 (pg + 209) + re) hx hb dL_buffer_142 (by omega) ?_
          refine lv_istore_n (lv' := [(2, .int (iI (B 0 (pg + 209) + re))), (1, .int (iI (bm (B 0) (pg + 1)))), (3, .int (iI (bt (B 0) (pg + 1)))), (4, .int (iI 1)), (6, .int (iI (r_buf (B 0) pg))), (0, .ref c0), (5, .int (iI pg))]) hx hb dL_buffer_143 rfl hl (by decide) rfl (fun ls hl => ?_)
          refine ri_iinc (k := 6) (z := pg + 1) (lv' := [(5, .int (iI (pg + 1))), (2, .int (iI (B 0 (pg + 209) + re))), (1, .int (iI (bm (B 0) (pg + 1)))), (3, .int (iI (bt (B 0) (pg + 1)))), (4, .int (iI 1)), (6, .int (iI (r_buf (B 0) pg))), (0, .ref c0)]) hx hb dL_buffer_144 hl rfl (by omega) (by decide) rfl (fun ls hl => ?_)
          refine lv_goto (tgt := 30) hx hb dL_buffer_147 (by decide) ?_
          exact ih (pg + 1) (B 0 (pg + 209) + re) (by omega) (by omega) (by omega) ls (lv_sub hl [6, 2, 1, 3, 4, 0] rfl)
        · exact absurd c8 (by omega)
      · have hbit := bt_at h4 hj hq
        have hbm := hbit.2.2
        have hlp : r_placeOf (B 0) pg ≠ -5 := by have q := hj.1 (r_buf (B 0) pg) (by omega) (by omega); rw [show B 0 (r_buf (B 0) pg + 12) = pg from by omega] at q; exact q.2.2
        have hpr := placeOf_rg (B 0) pg
        refine lv_iload hx hb dL_buffer_30 (lv_at hl 5 rfl) ?_
        refine ri_bipush hx hb dL_buffer_32 (by decide) ?_
        refine ri_icmp_ge (tgt := 150) hx hb dL_buffer_34 (by decide) (by omega) (by omega) (fun c13 => ?_) (fun c13 => ?_)
        · exact absurd c13 (by omega)
        refine lv_aload_n hx hb dL_buffer_37 rfl (lv_at hl 0 rfl) ?_
        refine lv_iload hx hb dL_buffer_38 (lv_at hl 5 rfl) ?_
        refine ri_iconst hx hb dL_buffer_40 ?_
        refine co_r (As := [.int (iI pg), .int (iI 4)]) (rest := []) hx hb (hml.trans hl.1.symm) hown hts w lk_RL_64 (t_X5_page l g c0 na be tr sn x h o T T1 T2 T3 K z P C N B pg 4 hW hC (by omega) (by omega)) hrv rfl rfl (Nat.le_of_ble_eq_true rfl) ⟨Nat.le_of_ble_eq_true rfl, Nat.le_of_ble_eq_true rfl⟩ ⟨Nat.le_of_ble_eq_true rfl, Nat.le_of_ble_eq_true rfl⟩ dL_buffer_41 ?_
        rw [page_4 (by omega)]
        refine lv_istore (lv' := [(6, .int (iI (r_buf (B 0) pg))), (0, .ref c0), (1, .int (iI (bm (B 0) pg))), (2, .int (iI re)), (3, .int (iI (bt (B 0) pg))), (4, .int (iI 1)), (5, .int (iI pg))]) hx hb dL_buffer_44 hl (by decide) rfl (fun ls hl => ?_)
        refine lv_iload hx hb dL_buffer_46 (lv_at hl 5 rfl) ?_
        refine ri_if_eq (tgt := 102) hx hb dL_buffer_48 (by decide) (by omega) (fun c14 => ?_) (fun c14 => ?_)
        · exact absurd c14 (by omega)
        refine lv_iload hx hb dL_buffer_51 (lv_at hl 0 rfl) ?_
        refine ri_bipush hx hb dL_buffer_53 (by decide) ?_
        refine ri_icmp_eq (tgt := 79) hx hb dL_buffer_55 (by decide) (by omega) (by omega) (fun c15 => ?_) (fun c15 => ?_)
        · exact absurd c15 (by omega)
        refine lv_iload hx hb dL_buffer_58 (lv_at hl 0 rfl) ?_
        refine lv_aload_n hx hb dL_buffer_60 rfl (lv_at hl 1 rfl) ?_
        refine ri_bipush hx hb dL_buffer_61 (by decide) ?_
        refine co_r (As := [.int (iI 9)]) (rest := [.int (iI (r_buf (B 0) pg))]) hx hb (hml.trans hl.1.symm) hown hts w lk_RL_57 (t_X5_count l g c0 na be tr sn x h o T T1 T2 T3 K z P C N B 9 hW hC (by omega)) hrv rfl rfl (Nat.le_of_ble_eq_true rfl) ⟨Nat.le_of_ble_eq_true rfl, Nat.le_of_ble_eq_true rfl⟩ ⟨Nat.le_of_ble_eq_true rfl, Nat.le_of_ble_eq_true rfl⟩ dL_buffer_63 ?_
        rw [cc_9]
        refine ri_icmp_ge (tgt := 102) hx hb dL_buffer_66 (by decide) (by omega) (by omega) (fun c16 => ?_) (fun c16 => ?_)
        · exact absurd c16 (by omega)
        refine lv_aload_n hx hb dL_buffer_69 rfl (lv_at hl 1 rfl) ?_
        refine lv_iload hx hb dL_buffer_70 (lv_at hl 6 rfl) ?_
        refine ri_iconst hx hb dL_buffer_72 ?_
        refine co_r (As := [.int (iI pg), .int (iI 0)]) (rest := []) hx hb (hml.trans hl.1.symm) hown hts w lk_RL_64 (t_X5_page l g c0 na be tr sn x h o T T1 T2 T3 K z P C N B pg 0 hW hC (by omega) (by omega)) hrv rfl rfl (Nat.le_of_ble_eq_true rfl) ⟨Nat.le_of_ble_eq_true rfl, Nat.le_of_ble_eq_true rfl⟩ ⟨Nat.le_of_ble_eq_true rfl, Nat.le_of_ble_eq_true rfl⟩ dL_buffer_73 ?_
        rw [page_0 (by omega) hlp]
        refine ri_if_lt (tgt := 102) hx hb dL_buffer_76 (by decide) (by omega) (fun c17 => ?_) (fun c17 => ?_)
        · exact absurd c17 (by omega)
        refine lv_iload_n hx hb dL_buffer_79 rfl (lv_at hl 4 rfl) ?_
        refine lv_iload hx hb dL_buffer_80 (lv_at hl 0 rfl) ?_
        refine ri_if_ge (tgt := 90) hx hb dL_buffer_82 (by decide) (by omega) (fun c18 => ?_) (fun c18 => ?_)
        · refine lv_iload hx hb dL_buffer_90 (lv_at hl 0 rfl) ?_
          refine ri_ishr (t := (iI (bt (B 0) pg) >>> (iI (r_buf (B 0) pg) &&& 31)).toInt) hx hb rfl dL_buffer_92 ?_
          refine ri_iconst hx hb dL_buffer_93 ?_
          refine ri_iand (t := 0) hx hb hbit.1 dL_buffer_94 ?_
          refine ri_if_ne (tgt := 102) hx hb dL_buffer_95 (by decide) (by omega) (fun c19 => ?_) (fun c19 => ?_)
          · exact absurd c19 (by omega)
          refine ri_iconst hx hb dL_buffer_98 ?_
          refine lv_goto (tgt := 103) hx hb dL_buffer_99 (by decide) ?_
          refine lv_istore (lv' := [(4, .int (iI 1)), (6, .int (iI (r_buf (B 0) pg))), (0, .ref c0), (1, .int (iI (bm (B 0) pg))), (2, .int (iI re)), (3, .int (iI (bt (B 0) pg))), (5, .int (iI pg))]) hx hb dL_buffer_103 hl (by decide) rfl (fun ls hl => ?_)
          refine lv_iload_n hx hb dL_buffer_105 rfl (lv_at hl 5 rfl) ?_
          refine lv_iload hx hb dL_buffer_106 (lv_at hl 1 rfl) ?_
          refine ri_if_ge (tgt := 115) hx hb dL_buffer_108 (by decide) (by omega) (fun c20 => ?_) (fun c20 => ?_)
          · refine ri_iconst hx hb dL_buffer_115 ?_
            refine lv_iload hx hb dL_buffer_116 (lv_at hl 1 rfl) ?_
            refine ri_ishl (t := (iI 1 <<< (iI (r_buf (B 0) pg) &&& 31)).toInt) hx hb rfl dL_buffer_118 ?_
            refine ri_ior (t := bt (B 0) (pg + 1)) hx hb hbit.2.1 dL_buffer_119 ?_
            refine lv_istore_n (lv' := [(3, .int (iI (bt (B 0) (pg + 1)))), (4, .int (iI 1)), (6, .int (iI (r_buf (B 0) pg))), (0, .ref c0), (1, .int (iI (bm (B 0) pg))), (2, .int (iI re)), (5, .int (iI pg))]) hx hb dL_buffer_120 rfl hl (by decide) rfl (fun ls hl => ?_)
            refine lv_iload_n hx hb dL_buffer_121 rfl (lv_at hl 4 rfl) ?_
            refine lv_iload hx hb dL_buffer_122 (lv_at hl 2 rfl) ?_
            refine ri_if_ge (tgt := 131) hx hb dL_buffer_124 (by decide) (by omega) (fun c21 => ?_) (fun c21 => ?_)
            · refine ri_iconst hx hb dL_buffer_131 ?_
              refine ri_iadd (z := bm (B 0) pg + 1) hx hb dL_buffer_132 (by omega) ?_
              rw [show bm (B 0) pg + 1 = bm (B 0) (pg + 1) from by omega]
              refine lv_istore_n (lv' := [(1, .int (iI (bm (B 0) (pg + 1)))), (3, .int (iI (bt (B 0) (pg + 1)))), (4, .int (iI 1)), (6, .int (iI (r_buf (B 0) pg))), (0, .ref c0), (2, .int (iI re)), (5, .int (iI pg))]) hx hb dL_buffer_133 rfl hl (by decide) rfl (fun ls hl => ?_)
              refine lv_iload_n hx hb dL_buffer_134 rfl (lv_at hl 5 rfl) ?_
              refine lv_aload_n hx hb dL_buffer_135 rfl (lv_at hl 4 rfl) ?_
              refine lv_iload hx hb dL_buffer_136 (lv_at hl 6 rfl) ?_
              refine ri_iconst hx hb dL_buffer_138 ?_
              refine co_r (As := [.int (iI pg), .int (iI 5)]) (rest := [.int (iI re)]) hx hb (hml.trans hl.1.symm) hown hts w lk_RL_64 (t_X5_page l g c0 na be tr sn x h o T T1 T2 T3 K z P C N B pg 5 hW hC (by omega) (by omega)) hrv rfl rfl (Nat.le_of_ble_eq_true rfl) ⟨Nat.le_of_ble_eq_true rfl, Nat.le_of_ble_eq_true rfl⟩ ⟨Nat.le_of_ble_eq_true rfl, Nat.le_of_ble_eq_true rfl⟩ dL_buffer_139 ?_
              rw [page_5 (by omega)]
              refine ri_iadd (z := B 0 (pg + 209) + re) hx hb dL_buffer_142 (by omega) ?_
              refine lv_istore_n (lv' := [(2, .int (iI (B 0 (pg + 209) + re))), (1, .int (iI (bm (B 0) (pg + 1)))), (3, .int (iI (bt (B 0) (pg + 1)))), (4, .int (iI 1)), (6, .int (iI (r_buf (B 0) pg))), (0, .ref c0), (5, .int (iI pg))]) hx hb dL_buffer_143 rfl hl (by decide) rfl (fun ls hl => ?_)
              refine ri_iinc (k := 6) (z := pg + 1) (lv' := [(5, .int (iI (pg + 1))), (2, .int (iI (B 0 (pg + 209) + re))), (1, .int (iI (bm (B 0) (pg + 1)))), (3, .int (iI (bt (B 0) (pg + 1)))), (4, .int (iI 1)), (6, .int (iI (r_buf (B 0) pg))), (0, .ref c0)]) hx hb dL_buffer_144 hl rfl (by omega) (by decide) rfl (fun ls hl => ?_)
              refine lv_goto (tgt := 30) hx hb dL_buffer_147 (by decide) ?_
              exact ih (pg + 1) (B 0 (pg + 209) + re) (by omega) (by omega) (by omega) ls (lv_sub hl [6, 2, 1, 3, 4, 0] rfl)
            · exact absurd c21 (by omega)
          · exact absurd c20 (by omega)
        · exact absurd c18 (by omega)
  refine ri_iconst hx hb dL_buffer_0 ?_
  refine lv_istore_n (lv' := [(1, .int (iI 0)), (0, .ref c0)]) hx hb dL_buffer_1 rfl hl (by decide) rfl (fun ls hl => ?_)
  refine ri_iconst hx hb dL_buffer_2 ?_
  refine lv_istore_n (lv' := [(2, .int (iI 0)), (1, .int (iI 0)), (0, .ref c0)]) hx hb dL_buffer_3 rfl hl (by decide) rfl (fun ls hl => ?_)
  refine ri_iconst hx hb dL_buffer_4 ?_
  refine lv_istore_n (lv' := [(3, .int (iI 0)), (2, .int (iI 0)), (1, .int (iI 0)), (0, .ref c0)]) hx hb dL_buffer_5 rfl hl (by decide) rfl (fun ls hl => ?_)
  refine lv_aload_n hx hb dL_buffer_6 rfl (lv_at hl 3 rfl) ?_
  refine ri_bipush hx hb dL_buffer_7 (by decide) ?_
  refine co_r (As := [.int (iI 9)]) (rest := []) hx hb (hml.trans hl.1.symm) hown hts w lk_RL_57 (t_X5_count l g c0 na be tr sn x h o T T1 T2 T3 K z P C N B 9 hW hC (by omega)) hrv rfl rfl (Nat.le_of_ble_eq_true rfl) ⟨Nat.le_of_ble_eq_true rfl, Nat.le_of_ble_eq_true rfl⟩ ⟨Nat.le_of_ble_eq_true rfl, Nat.le_of_ble_eq_true rfl⟩ dL_buffer_9 ?_
  rw [cc_9]
  refine lv_aload_n hx hb dL_buffer_12 rfl (lv_at hl 3 rfl) ?_
  refine ri_iconst hx hb dL_buffer_13 ?_
  refine co_r (As := [.int (iI 3)]) (rest := [.int (iI (B 0 11))]) hx hb (hml.trans hl.1.symm) hown hts w lk_RL_70 (t_X5_setting l g c0 na be tr sn x h o T T1 T2 T3 K z P C N B 3 hW hC (by omega)) hrv rfl rfl (Nat.le_of_ble_eq_true rfl) ⟨Nat.le_of_ble_eq_true rfl, Nat.le_of_ble_eq_true rfl⟩ ⟨Nat.le_of_ble_eq_true rfl, Nat.le_of_ble_eq_true rfl⟩ dL_buffer_14 ?_
  rw [cs_3]
  refine ri_icmp_gt (tgt := 24) hx hb dL_buffer_17 (by decide) (by omega) (by omega) (fun c22 => ?_) (fun c22 => ?_)
  · exact absurd c22 (by omega)
  refine ri_iconst hx hb dL_buffer_20 ?_
  refine lv_goto (tgt := 25) hx hb dL_buffer_21 (by decide) ?_
  refine lv_istore (lv' := [(4, .int (iI 1)), (3, .int (iI 0)), (2, .int (iI 0)), (1, .int (iI 0)), (0, .ref c0)]) hx hb dL_buffer_25 hl (by decide) rfl (fun ls hl => ?_)
  refine ri_iconst hx hb dL_buffer_27 ?_
  refine lv_istore (lv' := [(5, .int (iI 0)), (4, .int (iI 1)), (3, .int (iI 0)), (2, .int (iI 0)), (1, .int (iI 0)), (0, .ref c0)]) hx hb dL_buffer_28 hl (by decide) rfl (fun ls hl => ?_)
  have z0 := bt_0 hj
  exact L30 24 0 0 (by omega) (by omega) (by rw [show (0 : Int) + 209 = 209 from rfl]; have q := hB.2.2.1; omega) ls (by rw [z0.1, z0.2]; exact (lv_sub hl [5, 4, 3, 2, 1, 0] rfl))
