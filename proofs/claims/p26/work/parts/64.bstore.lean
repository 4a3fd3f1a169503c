set_option maxHeartbeats 4000000 in
set_option maxRecDepth 100000 in
theorem t_L_store (l : Launch) (g : GG) (c0 : Nat) (na be tr sn x : Nat → Nat) (h : Nat → Nat → Nat) (o : Nat → Nat) (T T1 T2 T3 : Nat → Int → Int) (K : Nat → Nat → Int → Int) (z : Int) (P : Nat → Int → Int) (C : Nat → Int) (N : Int) (B : Nat → Int → Int) (hW : WB N B) (hC : RelC B T T3 K z P C) : Met l yL_store (wm yL_store cL_store 13 (some .boolean)) (rmm 5 0 0) (pR g (wp_ws g c0 na be tr sn x h o T T1 T2 T3 K z P C) [.ref c0]) (qR (some (.int (iI 1)))) 0 0 (fun _ => False) := by
  refine met_r (by decide) (Nat.le_of_ble_eq_true rfl) ?_
  intro p e s m args below meth c Q ls hx hb hml hown hts hl w hend
  have hl : lv_has ls 13 [(0, .ref c0)] := hl
  have hrv : ∃ cell : Cell, s.heap[c0]? = some cell ∧ cell.vm.isStatics = false ∧ s.vm.findClass yX5_count.cls = some cell.cls := call_recv w (q0 := 0) rfl fX5.1
  have hW0 := hW.1
  have ho := hW0.op
  have hs := hW0.se
  have he := hW0.he
  have L43 : ∀ (b pl fr mo : Int), 0 ≤ b ∧ b < 6 → (∀ ls : Array Slot, lv_has ls 13 [(0, .ref c0), (1, .int (iI pl)), (2, .int (iI fr)), (3, .int (iI mo)), (4, .int (iI (B 0 6))), (5, .int (iI 1)), (6, .int (iI b)), (7, .int (iI (r_cnt (B 0) b 0))), (8, .int (iI (r_cnt (B 0) b (-2)))), (9, .int (iI (r_great (B 0) b)))] → W p l e (rmm 5 0 0) s m args below meth c s.heap [] 0 0 Q (F0 m 241 ls [])) → ∀ (n : Nat) (k pa sa we : Int), k + n = 8 → 0 ≤ k → fo n (8 * b + k) pa (s_cnt (B 0) 0) = r_cnt (B 0) b 0 → fo n (8 * b + k) sa (s_cnt (B 0) (-2)) = r_cnt (B 0) b (-2) → fo n (8 * b + k) we (s_great (B 0)) = r_great (B 0) b → 0 ≤ we ∧ we ≤ 400 → ∀ ls : Array Slot, lv_has ls 13 [(0, .ref c0), (1, .int (iI pl)), (2, .int (iI fr)), (3, .int (iI mo)), (4, .int (iI (B 0 6))), (5, .int (iI 1)), (6, .int (iI b)), (7, .int (iI pa)), (8, .int (iI sa)), (9, .int (iI we)), (10, .int (iI k))] → W p l e (rmm 5 0 0) s m args below meth c s.heap [] 0 0 Q (F0 m 43 ls []) := by
    intro b pl fr mo hb0 kk n
    induction n with
    | zero =>
      intro k pa sa we hn hk hp1 hp2 hp3 hwe ls hl
      refine lv_iload hx hb dL_store_43 (lv_at hl 10 rfl) ?_
      refine ri_bipush hx hb dL_store_45 (by decide) ?_
      refine ri_icmp_ge (tgt := 241) hx hb dL_store_47 (by decide) (by omega) (by omega) (fun c1 => ?_) (fun c1 => ?_)
      · have q1 : pa = r_cnt (B 0) b 0 := hp1
        have q2 : sa = r_cnt (B 0) b (-2) := hp2
        have q3 : we = r_great (B 0) b := hp3
        rw [q1, q2, q3] at hl
        exact kk ls (lv_sub hl [0, 1, 2, 3, 4, 5, 6, 7, 8, 9] rfl)
      · exact absurd c1 (by omega)
    | succ n ih =>
      intro k pa sa we hn hk hp1 hp2 hp3 hwe ls hl
      have hk8 : 0 ≤ k ∧ k < 8 := by omega
      have hpl := hW0.pl (k := 8 * b + k) (by omega) (by omega)
      rw [show (8 * b + k) / 8 = b from by omega] at hpl
      have hbr := bears_rg hW0 hb0.1 hb0.2
      have a0 := cp_0 (F := B 0) hb0 hk8
      have a1 := cp_1 (F := B 0) hb0 hk8
      have e2 := cp_2 (F := B 0) hb0 hk8
      have a3 := hold_at hW0 hb0 hk8
      obtain ⟨wv, hwv⟩ : ∃ v, v = B 0 (3 * (8 * b + k) + 66) := ⟨_, rfl⟩
      rw [← hwv] at hpl e2
      have st : ∀ (cp cs ww : Int), s_cnt (B 0) 0 (8 * b + k) pa = cp → s_cnt (B 0) (-2) (8 * b + k) sa = cs → s_great (B 0) (8 * b + k) we = ww → fo n (8 * b + (k + 1)) cp (s_cnt (B 0) 0) = r_cnt (B 0) b 0 ∧ fo n (8 * b + (k + 1)) cs (s_cnt (B 0) (-2)) = r_cnt (B 0) b (-2) ∧ fo n (8 * b + (k + 1)) ww (s_great (B 0)) = r_great (B 0) b := fun cp cs ww z1 z2 z3 => by
        rw [← Int.add_assoc]
        exact ⟨fo_s hp1 z1, fo_s hp2 z2, fo_s hp3 z3⟩
      have sg : ∀ v, s_great (B 0) (8 * b + k) v = if 0 ≤ B 0 (3 * (8 * b + k) + 65) ∧ v < wv then wv else v := fun v => by unfold s_great; rw [← hwv]
      by_cases hh : 0 ≤ B 0 (3 * (8 * b + k) + 65)
      · have e1 := a1.trans ((if_neg (by omega)).trans (if_neg (by omega)))
        have e0 := a0.trans (if_neg (by omega))
        have a3 := a3 hh
        obtain ⟨hv, hhv⟩ : ∃ v, v = B 0 (3 * (8 * b + k) + 65) := ⟨_, rfl⟩
        rw [← hhv] at e0 a3
        have hlp : r_placeOf (B 0) hv ≠ -5 := by omega
        have e3 : c_page (B 0) hv 0 = 8 * b + k := (page_0 (by omega) hlp).trans a3
        have e4 : c_page (B 0) hv 1 = wv := (page_1 (by omega) hlp).trans (by rw [a3]; exact hwv.symm)
        refine lv_iload hx hb dL_store_43 (lv_at hl 10 rfl) ?_
        refine ri_bipush hx hb dL_store_45 (by decide) ?_
        refine ri_icmp_ge (tgt := 241) hx hb dL_store_47 (by decide) (by omega) (by omega) (fun c2 => ?_) (fun c2 => ?_)
        · exact absurd c2 (by omega)
        refine lv_iload hx hb dL_store_50 (lv_at hl 5 rfl) ?_
        refine ri_if_eq (tgt := 241) hx hb dL_store_52 (by decide) (by omega) (fun c3 => ?_) (fun c3 => ?_)
        · exact absurd c3 (by omega)
        refine lv_aload_n hx hb dL_store_55 rfl (lv_at hl 0 rfl) ?_
        refine lv_iload hx hb dL_store_56 (lv_at hl 6 rfl) ?_
        refine lv_iload hx hb dL_store_58 (lv_at hl 10 rfl) ?_
        refine ri_iconst hx hb dL_store_60 ?_
        refine co_r (As := [.int (iI b), .int (iI k), .int (iI 1)]) (rest := []) hx hb (hml.trans hl.1.symm) hown hts w lk_RL_60 (t_X5_place l g c0 na be tr sn x h o T T1 T2 T3 K z P C N B b k 1 hW hC (by omega) (by omega) (by omega)) hrv rfl rfl (Nat.le_of_ble_eq_true rfl) ⟨Nat.le_of_ble_eq_true rfl, Nat.le_of_ble_eq_true rfl⟩ ⟨Nat.le_of_ble_eq_true rfl, Nat.le_of_ble_eq_true rfl⟩ dL_store_61 ?_
        rw [e1]
        refine lv_istore (lv' := [(11, .int (iI 1)), (0, .ref c0), (1, .int (iI pl)), (2, .int (iI fr)), (3, .int (iI mo)), (4, .int (iI (B 0 6))), (5, .int (iI 1)), (6, .int (iI b)), (7, .int (iI pa)), (8, .int (iI sa)), (9, .int (iI we)), (10, .int (iI k))]) hx hb dL_store_64 hl (by decide) rfl (fun ls hl => ?_)
        refine lv_aload_n hx hb dL_store_66 rfl (lv_at hl 1 rfl) ?_
        refine lv_iload hx hb dL_store_67 (lv_at hl 7 rfl) ?_
        refine lv_iload hx hb dL_store_69 (lv_at hl 11 rfl) ?_
        refine ri_iconst hx hb dL_store_71 ?_
        refine co_r (As := [.int (iI b), .int (iI k), .int (iI 0)]) (rest := []) hx hb (hml.trans hl.1.symm) hown hts w lk_RL_60 (t_X5_place l g c0 na be tr sn x h o T T1 T2 T3 K z P C N B b k 0 hW hC (by omega) (by omega) (by omega)) hrv rfl rfl (Nat.le_of_ble_eq_true rfl) ⟨Nat.le_of_ble_eq_true rfl, Nat.le_of_ble_eq_true rfl⟩ ⟨Nat.le_of_ble_eq_true rfl, Nat.le_of_ble_eq_true rfl⟩ dL_store_72 ?_
        rw [e0]
        refine lv_istore (lv' := [(12, .int (iI hv)), (11, .int (iI 1)), (0, .ref c0), (1, .int (iI pl)), (2, .int (iI fr)), (3, .int (iI mo)), (4, .int (iI (B 0 6))), (5, .int (iI 1)), (6, .int (iI b)), (7, .int (iI pa)), (8, .int (iI sa)), (9, .int (iI we)), (10, .int (iI k))]) hx hb dL_store_75 hl (by decide) rfl (fun ls hl => ?_)
        refine lv_iload hx hb dL_store_77 (lv_at hl 1 rfl) ?_
        refine ri_iconst hx hb dL_store_79 ?_
        refine ri_icmp_ne (tgt := 87) hx hb dL_store_80 (by decide) (by omega) (by omega) (fun c4 => ?_) (fun c4 => ?_)
        · exact absurd c4 (by omega)
        refine ri_iconst hx hb dL_store_83 ?_
        refine lv_goto (tgt := 88) hx hb dL_store_84 (by decide) ?_
        refine lv_iload hx hb dL_store_88 (lv_at hl 0 rfl) ?_
        refine ri_if_lt (tgt := 97) hx hb dL_store_90 (by decide) (by omega) (fun c5 => ?_) (fun c5 => ?_)
        · exact absurd c5 (by omega)
        refine ri_iconst hx hb dL_store_93 ?_
        refine lv_goto (tgt := 98) hx hb dL_store_94 (by decide) ?_
        refine ri_icmp_ne (tgt := 164) hx hb dL_store_98 (by decide) (by omega) (by omega) (fun c6 => ?_) (fun c6 => ?_)
        · exact absurd c6 (by omega)
        refine lv_iload hx hb dL_store_101 (lv_at hl 0 rfl) ?_
        refine ri_if_lt (tgt := 143) hx hb dL_store_103 (by decide) (by omega) (fun c7 => ?_) (fun c7 => ?_)
        · exact absurd c7 (by omega)
        refine lv_aload_n hx hb dL_store_106 rfl (lv_at hl 2 rfl) ?_
        refine lv_iload hx hb dL_store_107 (lv_at hl 0 rfl) ?_
        refine ri_iconst hx hb dL_store_109 ?_
        refine co_r (As := [.int (iI hv), .int (iI 0)]) (rest := []) hx hb (hml.trans hl.1.symm) hown hts w lk_RL_64 (t_X5_page l g c0 na be tr sn x h o T T1 T2 T3 K z P C N B hv 0 hW hC (by omega) (by omega)) hrv rfl rfl (Nat.le_of_ble_eq_true rfl) ⟨Nat.le_of_ble_eq_true rfl, Nat.le_of_ble_eq_true rfl⟩ ⟨Nat.le_of_ble_eq_true rfl, Nat.le_of_ble_eq_true rfl⟩ dL_store_110 ?_
        rw [e3]
        refine ri_bipush hx hb dL_store_113 (by decide) ?_
        refine lv_iload hx hb dL_store_115 (lv_at hl 8 rfl) ?_
        refine ri_imul (z := 8 * b) hx hb dL_store_117 (by omega) ?_
        refine lv_iload hx hb dL_store_118 (lv_at hl 12 rfl) ?_
        refine ri_iadd (z := 8 * b + k) hx hb dL_store_120 (by omega) ?_
        refine ri_icmp_ne (tgt := 164) hx hb dL_store_121 (by decide) (by omega) (by omega) (fun c8 => ?_) (fun c8 => ?_)
        · exact absurd c8 (by omega)
        refine lv_aload_n hx hb dL_store_124 rfl (lv_at hl 2 rfl) ?_
        refine lv_iload hx hb dL_store_125 (lv_at hl 0 rfl) ?_
        refine ri_iconst hx hb dL_store_127 ?_
        refine co_r (As := [.int (iI hv), .int (iI 1)]) (rest := []) hx hb (hml.trans hl.1.symm) hown hts w lk_RL_64 (t_X5_page l g c0 na be tr sn x h o T T1 T2 T3 K z P C N B hv 1 hW hC (by omega) (by omega)) hrv rfl rfl (Nat.le_of_ble_eq_true rfl) ⟨Nat.le_of_ble_eq_true rfl, Nat.le_of_ble_eq_true rfl⟩ ⟨Nat.le_of_ble_eq_true rfl, Nat.le_of_ble_eq_true rfl⟩ dL_store_128 ?_
        rw [e4]
        refine lv_aload_n hx hb dL_store_131 rfl (lv_at hl 2 rfl) ?_
        refine lv_iload hx hb dL_store_132 (lv_at hl 8 rfl) ?_
        refine lv_iload hx hb dL_store_134 (lv_at hl 12 rfl) ?_
        refine ri_iconst hx hb dL_store_136 ?_
        refine co_r (As := [.int (iI b), .int (iI k), .int (iI 2)]) (rest := [.int (iI wv)]) hx hb (hml.trans hl.1.symm) hown hts w lk_RL_60 (t_X5_place l g c0 na be tr sn x h o T T1 T2 T3 K z P C N B b k 2 hW hC (by omega) (by omega) (by omega)) hrv rfl rfl (Nat.le_of_ble_eq_true rfl) ⟨Nat.le_of_ble_eq_true rfl, Nat.le_of_ble_eq_true rfl⟩ ⟨Nat.le_of_ble_eq_true rfl, Nat.le_of_ble_eq_true rfl⟩ dL_store_137 ?_
        rw [e2]
        refine ri_icmp_ne (tgt := 164) hx hb dL_store_140 (by decide) (by omega) (by omega) (fun c9 => ?_) (fun c9 => ?_)
        · exact absurd c9 (by omega)
        refine lv_iload hx hb dL_store_143 (lv_at hl 1 rfl) ?_
        refine ri_if_gt (tgt := 160) hx hb dL_store_145 (by decide) (by omega) (fun c10 => ?_) (fun c10 => ?_)
        · refine ri_iconst hx hb dL_store_160 ?_
          refine lv_goto (tgt := 165) hx hb dL_store_161 (by decide) ?_
          refine lv_istore (lv' := [(5, .int (iI 1)), (12, .int (iI hv)), (11, .int (iI 1)), (0, .ref c0), (1, .int (iI pl)), (2, .int (iI fr)), (3, .int (iI mo)), (4, .int (iI (B 0 6))), (6, .int (iI b)), (7, .int (iI pa)), (8, .int (iI sa)), (9, .int (iI we)), (10, .int (iI k))]) hx hb dL_store_165 hl (by decide) rfl (fun ls hl => ?_)
          refine lv_iload hx hb dL_store_167 (lv_at hl 9 rfl) ?_
          refine lv_iload hx hb dL_store_169 (lv_at hl 2 rfl) ?_
          refine ri_iconst hx hb dL_store_171 ?_
          refine ri_icmp_ne (tgt := 179) hx hb dL_store_172 (by decide) (by omega) (by omega) (fun c11 => ?_) (fun c11 => ?_)
          · exact absurd c11 (by omega)
          refine ri_iconst hx hb dL_store_175 ?_
          refine lv_goto (tgt := 180) hx hb dL_store_176 (by decide) ?_
          refine ri_iadd (z := pa + 1) hx hb dL_store_180 (by omega) ?_
          refine lv_istore (lv' := [(7, .int (iI (pa + 1))), (5, .int (iI 1)), (12, .int (iI hv)), (11, .int (iI 1)), (0, .ref c0), (1, .int (iI pl)), (2, .int (iI fr)), (3, .int (iI mo)), (4, .int (iI (B 0 6))), (6, .int (iI b)), (8, .int (iI sa)), (9, .int (iI we)), (10, .int (iI k))]) hx hb dL_store_181 hl (by decide) rfl (fun ls hl => ?_)
          refine lv_iload hx hb dL_store_183 (lv_at hl 10 rfl) ?_
          refine lv_iload hx hb dL_store_185 (lv_at hl 3 rfl) ?_
          refine ri_iconst hx hb dL_store_187 ?_
          refine ri_icmp_ne (tgt := 195) hx hb dL_store_188 (by decide) (by omega) (by omega) (fun c12 => ?_) (fun c12 => ?_)
          · refine ri_iconst hx hb dL_store_195 ?_
            refine ri_iadd (z := sa) hx hb dL_store_196 (by omega) ?_
            refine lv_istore (lv' := [(8, .int (iI sa)), (7, .int (iI (pa + 1))), (5, .int (iI 1)), (12, .int (iI hv)), (11, .int (iI 1)), (0, .ref c0), (1, .int (iI pl)), (2, .int (iI fr)), (3, .int (iI mo)), (4, .int (iI (B 0 6))), (6, .int (iI b)), (9, .int (iI we)), (10, .int (iI k))]) hx hb dL_store_197 hl (by decide) rfl (fun ls hl => ?_)
            refine lv_iload hx hb dL_store_199 (lv_at hl 4 rfl) ?_
            refine ri_iconst hx hb dL_store_201 ?_
            refine ri_icmp_ne (tgt := 231) hx hb dL_store_202 (by decide) (by omega) (by omega) (fun c13 => ?_) (fun c13 => ?_)
            · exact absurd c13 (by omega)
            refine lv_aload_n hx hb dL_store_205 rfl (lv_at hl 5 rfl) ?_
            refine lv_iload hx hb dL_store_206 (lv_at hl 10 rfl) ?_
            refine lv_iload hx hb dL_store_208 (lv_at hl 12 rfl) ?_
            refine ri_iconst hx hb dL_store_210 ?_
            refine co_r (As := [.int (iI b), .int (iI k), .int (iI 2)]) (rest := []) hx hb (hml.trans hl.1.symm) hown hts w lk_RL_60 (t_X5_place l g c0 na be tr sn x h o T T1 T2 T3 K z P C N B b k 2 hW hC (by omega) (by omega) (by omega)) hrv rfl rfl (Nat.le_of_ble_eq_true rfl) ⟨Nat.le_of_ble_eq_true rfl, Nat.le_of_ble_eq_true rfl⟩ ⟨Nat.le_of_ble_eq_true rfl, Nat.le_of_ble_eq_true rfl⟩ dL_store_211 ?_
            rw [e2]
            refine lv_iload hx hb dL_store_214 (lv_at hl 11 rfl) ?_
            refine ri_icmp_le (tgt := 231) hx hb dL_store_216 (by decide) (by omega) (by omega) (fun c14 => ?_) (fun c14 => ?_)
            · refine lv_iload hx hb dL_store_231 (lv_at hl 11 rfl) ?_
              refine lv_istore (lv' := [(9, .int (iI we)), (8, .int (iI sa)), (7, .int (iI (pa + 1))), (5, .int (iI 1)), (12, .int (iI hv)), (11, .int (iI 1)), (0, .ref c0), (1, .int (iI pl)), (2, .int (iI fr)), (3, .int (iI mo)), (4, .int (iI (B 0 6))), (6, .int (iI b)), (10, .int (iI k))]) hx hb dL_store_233 hl (by decide) rfl (fun ls hl => ?_)
              refine ri_iinc (k := 12) (z := k + 1) (lv' := [(10, .int (iI (k + 1))), (9, .int (iI we)), (8, .int (iI sa)), (7, .int (iI (pa + 1))), (5, .int (iI 1)), (12, .int (iI hv)), (11, .int (iI 1)), (0, .ref c0), (1, .int (iI pl)), (2, .int (iI fr)), (3, .int (iI mo)), (4, .int (iI (B 0 6))), (6, .int (iI b))]) hx hb dL_store_235 hl rfl (by omega) (by decide) rfl (fun ls hl => ?_)
              refine lv_goto (tgt := 43) hx hb dL_store_238 (by decide) ?_
              obtain ⟨z1, z2, z3⟩ := st (pa + 1) sa we (by unfold s_cnt; omega) (by unfold s_cnt; omega) (by rw [sg]; exact if_neg (by omega))
              exact ih (k + 1) (pa + 1) sa we (by omega) (by omega) z1 z2 z3 (by omega) ls (lv_sub hl [7, 8, 9, 10, 11, 4, 12, 3, 2, 1, 0] rfl)
            · refine lv_aload_n hx hb dL_store_219 rfl (lv_at hl 5 rfl) ?_
              refine lv_iload hx hb dL_store_220 (lv_at hl 10 rfl) ?_
              refine lv_iload hx hb dL_store_222 (lv_at hl 12 rfl) ?_
              refine ri_iconst hx hb dL_store_224 ?_
              refine co_r (As := [.int (iI b), .int (iI k), .int (iI 2)]) (rest := []) hx hb (hml.trans hl.1.symm) hown hts w lk_RL_60 (t_X5_place l g c0 na be tr sn x h o T T1 T2 T3 K z P C N B b k 2 hW hC (by omega) (by omega) (by omega)) hrv rfl rfl (Nat.le_of_ble_eq_true rfl) ⟨Nat.le_of_ble_eq_true rfl, Nat.le_of_ble_eq_true rfl⟩ ⟨Nat.le_of_ble_eq_true rfl, Nat.le_of_ble_eq_true rfl⟩ dL_store_225 ?_
              rw [e2]
              refine lv_goto (tgt := 233) hx hb dL_store_228 (by decide) ?_
              refine lv_istore (lv' := [(9, .int (iI wv)), (8, .int (iI sa)), (7, .int (iI (pa + 1))), (5, .int (iI 1)), (12, .int (iI hv)), (11, .int (iI 1)), (0, .ref c0), (1, .int (iI pl)), (2, .int (iI fr)), (3, .int (iI mo)), (4, .int (iI (B 0 6))), (6, .int (iI b)), (10, .int (iI k))]) hx hb dL_store_233 hl (by decide) rfl (fun ls hl => ?_)
              refine ri_iinc (k := 12) (z := k + 1) (lv' := [(10, .int (iI (k + 1))), (9, .int (iI wv)), (8, .int (iI sa)), (7, .int (iI (pa + 1))), (5, .int (iI 1)), (12, .int (iI hv)), (11, .int (iI 1)), (0, .ref c0), (1, .int (iI pl)), (2, .int (iI fr)), (3, .int (iI mo)), (4, .int (iI (B 0 6))), (6, .int (iI b))]) hx hb dL_store_235 hl rfl (by omega) (by decide) rfl (fun ls hl => ?_)
              refine lv_goto (tgt := 43) hx hb dL_store_238 (by decide) ?_
              obtain ⟨z1, z2, z3⟩ := st (pa + 1) sa wv (by unfold s_cnt; omega) (by unfold s_cnt; omega) (by rw [sg]; exact if_pos (by omega))
              exact ih (k + 1) (pa + 1) sa wv (by omega) (by omega) z1 z2 z3 (by omega) ls (lv_sub hl [7, 8, 9, 10, 11, 4, 12, 3, 2, 1, 0] rfl)
          · exact absurd c12 (by omega)
        · exact absurd c10 (by omega)
      · by_cases hm : B 0 (3 * (8 * b + k) + 65) = -1
        · have e1 := a1.trans (if_pos hm)
          have e0 := a0.trans (if_pos (by omega))
          refine lv_iload hx hb dL_store_43 (lv_at hl 10 rfl) ?_
          refine ri_bipush hx hb dL_store_45 (by decide) ?_
          refine ri_icmp_ge (tgt := 241) hx hb dL_store_47 (by decide) (by omega) (by omega) (fun c15 => ?_) (fun c15 => ?_)
          · exact absurd c15 (by omega)
          refine lv_iload hx hb dL_store_50 (lv_at hl 5 rfl) ?_
          refine ri_if_eq (tgt := 241) hx hb dL_store_52 (by decide) (by omega) (fun c16 => ?_) (fun c16 => ?_)
          · exact absurd c16 (by omega)
          refine lv_aload_n hx hb dL_store_55 rfl (lv_at hl 0 rfl) ?_
          refine lv_iload hx hb dL_store_56 (lv_at hl 6 rfl) ?_
          refine lv_iload hx hb dL_store_58 (lv_at hl 10 rfl) ?_
          refine ri_iconst hx hb dL_store_60 ?_
          refine co_r (As := [.int (iI b), .int (iI k), .int (iI 1)]) (rest := []) hx hb (hml.trans hl.1.symm) hown hts w lk_RL_60 (t_X5_place l g c0 na be tr sn x h o T T1 T2 T3 K z P C N B b k 1 hW hC (by omega) (by omega) (by omega)) hrv rfl rfl (Nat.le_of_ble_eq_true rfl) ⟨Nat.le_of_ble_eq_true rfl, Nat.le_of_ble_eq_true rfl⟩ ⟨Nat.le_of_ble_eq_true rfl, Nat.le_of_ble_eq_true rfl⟩ dL_store_61 ?_
          rw [e1]
          refine lv_istore (lv' := [(11, .int (iI 0)), (0, .ref c0), (1, .int (iI pl)), (2, .int (iI fr)), (3, .int (iI mo)), (4, .int (iI (B 0 6))), (5, .int (iI 1)), (6, .int (iI b)), (7, .int (iI pa)), (8, .int (iI sa)), (9, .int (iI we)), (10, .int (iI k))]) hx hb dL_store_64 hl (by decide) rfl (fun ls hl => ?_)
          refine lv_aload_n hx hb dL_store_66 rfl (lv_at hl 1 rfl) ?_
          refine lv_iload hx hb dL_store_67 (lv_at hl 7 rfl) ?_
          refine lv_iload hx hb dL_store_69 (lv_at hl 11 rfl) ?_
          refine ri_iconst hx hb dL_store_71 ?_
          refine co_r (As := [.int (iI b), .int (iI k), .int (iI 0)]) (rest := []) hx hb (hml.trans hl.1.symm) hown hts w lk_RL_60 (t_X5_place l g c0 na be tr sn x h o T T1 T2 T3 K z P C N B b k 0 hW hC (by omega) (by omega) (by omega)) hrv rfl rfl (Nat.le_of_ble_eq_true rfl) ⟨Nat.le_of_ble_eq_true rfl, Nat.le_of_ble_eq_true rfl⟩ ⟨Nat.le_of_ble_eq_true rfl, Nat.le_of_ble_eq_true rfl⟩ dL_store_72 ?_
          rw [e0]
          refine lv_istore (lv' := [(12, .int (iI (-5))), (11, .int (iI 0)), (0, .ref c0), (1, .int (iI pl)), (2, .int (iI fr)), (3, .int (iI mo)), (4, .int (iI (B 0 6))), (5, .int (iI 1)), (6, .int (iI b)), (7, .int (iI pa)), (8, .int (iI sa)), (9, .int (iI we)), (10, .int (iI k))]) hx hb dL_store_75 hl (by decide) rfl (fun ls hl => ?_)
          refine lv_iload hx hb dL_store_77 (lv_at hl 1 rfl) ?_
          refine ri_iconst hx hb dL_store_79 ?_
          refine ri_icmp_ne (tgt := 87) hx hb dL_store_80 (by decide) (by omega) (by omega) (fun c17 => ?_) (fun c17 => ?_)
          · refine ri_iconst hx hb dL_store_87 ?_
            refine lv_iload hx hb dL_store_88 (lv_at hl 0 rfl) ?_
            refine ri_if_lt (tgt := 97) hx hb dL_store_90 (by decide) (by omega) (fun c18 => ?_) (fun c18 => ?_)
            · refine ri_iconst hx hb dL_store_97 ?_
              refine ri_icmp_ne (tgt := 164) hx hb dL_store_98 (by decide) (by omega) (by omega) (fun c19 => ?_) (fun c19 => ?_)
              · exact absurd c19 (by omega)
              refine lv_iload hx hb dL_store_101 (lv_at hl 0 rfl) ?_
              refine ri_if_lt (tgt := 143) hx hb dL_store_103 (by decide) (by omega) (fun c20 => ?_) (fun c20 => ?_)
              · refine lv_iload hx hb dL_store_143 (lv_at hl 1 rfl) ?_
                refine ri_if_gt (tgt := 160) hx hb dL_store_145 (by decide) (by omega) (fun c21 => ?_) (fun c21 => ?_)
                · exact absurd c21 (by omega)
                refine lv_aload_n hx hb dL_store_148 rfl (lv_at hl 2 rfl) ?_
                refine lv_iload hx hb dL_store_149 (lv_at hl 8 rfl) ?_
                refine lv_iload hx hb dL_store_151 (lv_at hl 12 rfl) ?_
                refine ri_iconst hx hb dL_store_153 ?_
                refine co_r (As := [.int (iI b), .int (iI k), .int (iI 2)]) (rest := []) hx hb (hml.trans hl.1.symm) hown hts w lk_RL_60 (t_X5_place l g c0 na be tr sn x h o T T1 T2 T3 K z P C N B b k 2 hW hC (by omega) (by omega) (by omega)) hrv rfl rfl (Nat.le_of_ble_eq_true rfl) ⟨Nat.le_of_ble_eq_true rfl, Nat.le_of_ble_eq_true rfl⟩ ⟨Nat.le_of_ble_eq_true rfl, Nat.le_of_ble_eq_true rfl⟩ dL_store_154 ?_
                rw [e2]
                refine ri_if_ne (tgt := 164) hx hb dL_store_157 (by decide) (by omega) (fun c22 => ?_) (fun c22 => ?_)
                · exact absurd c22 (by omega)
                refine ri_iconst hx hb dL_store_160 ?_
                refine lv_goto (tgt := 165) hx hb dL_store_161 (by decide) ?_
                refine lv_istore (lv' := [(5, .int (iI 1)), (12, .int (iI (-5))), (11, .int (iI 0)), (0, .ref c0), (1, .int (iI pl)), (2, .int (iI fr)), (3, .int (iI mo)), (4, .int (iI (B 0 6))), (6, .int (iI b)), (7, .int (iI pa)), (8, .int (iI sa)), (9, .int (iI we)), (10, .int (iI k))]) hx hb dL_store_165 hl (by decide) rfl (fun ls hl => ?_)
                refine lv_iload hx hb dL_store_167 (lv_at hl 9 rfl) ?_
                refine lv_iload hx hb dL_store_169 (lv_at hl 2 rfl) ?_
                refine ri_iconst hx hb dL_store_171 ?_
                refine ri_icmp_ne (tgt := 179) hx hb dL_store_172 (by decide) (by omega) (by omega) (fun c23 => ?_) (fun c23 => ?_)
                · refine ri_iconst hx hb dL_store_179 ?_
                  refine ri_iadd (z := pa) hx hb dL_store_180 (by omega) ?_
                  refine lv_istore (lv' := [(7, .int (iI pa)), (5, .int (iI 1)), (12, .int (iI (-5))), (11, .int (iI 0)), (0, .ref c0), (1, .int (iI pl)), (2, .int (iI fr)), (3, .int (iI mo)), (4, .int (iI (B 0 6))), (6, .int (iI b)), (8, .int (iI sa)), (9, .int (iI we)), (10, .int (iI k))]) hx hb dL_store_181 hl (by decide) rfl (fun ls hl => ?_)
                  refine lv_iload hx hb dL_store_183 (lv_at hl 10 rfl) ?_
                  refine lv_iload hx hb dL_store_185 (lv_at hl 3 rfl) ?_
                  refine ri_iconst hx hb dL_store_187 ?_
                  refine ri_icmp_ne (tgt := 195) hx hb dL_store_188 (by decide) (by omega) (by omega) (fun c24 => ?_) (fun c24 => ?_)
                  · refine ri_iconst hx hb dL_store_195 ?_
                    refine ri_iadd (z := sa) hx hb dL_store_196 (by omega) ?_
                    refine lv_istore (lv' := [(8, .int (iI sa)), (7, .int (iI pa)), (5, .int (iI 1)), (12, .int (iI (-5))), (11, .int (iI 0)), (0, .ref c0), (1, .int (iI pl)), (2, .int (iI fr)), (3, .int (iI mo)), (4, .int (iI (B 0 6))), (6, .int (iI b)), (9, .int (iI we)), (10, .int (iI k))]) hx hb dL_store_197 hl (by decide) rfl (fun ls hl => ?_)
                    refine lv_iload hx hb dL_store_199 (lv_at hl 4 rfl) ?_
                    refine ri_iconst hx hb dL_store_201 ?_
                    refine ri_icmp_ne (tgt := 231) hx hb dL_store_202 (by decide) (by omega) (by omega) (fun c25 => ?_) (fun c25 => ?_)
                    · refine lv_iload hx hb dL_store_231 (lv_at hl 11 rfl) ?_
                      refine lv_istore (lv' := [(9, .int (iI we)), (8, .int (iI sa)), (7, .int (iI pa)), (5, .int (iI 1)), (12, .int (iI (-5))), (11, .int (iI 0)), (0, .ref c0), (1, .int (iI pl)), (2, .int (iI fr)), (3, .int (iI mo)), (4, .int (iI (B 0 6))), (6, .int (iI b)), (10, .int (iI k))]) hx hb dL_store_233 hl (by decide) rfl (fun ls hl => ?_)
                      refine ri_iinc (k := 12) (z := k + 1) (lv' := [(10, .int (iI (k + 1))), (9, .int (iI we)), (8, .int (iI sa)), (7, .int (iI pa)), (5, .int (iI 1)), (12, .int (iI (-5))), (11, .int (iI 0)), (0, .ref c0), (1, .int (iI pl)), (2, .int (iI fr)), (3, .int (iI mo)), (4, .int (iI (B 0 6))), (6, .int (iI b))]) hx hb dL_store_235 hl rfl (by omega) (by decide) rfl (fun ls hl => ?_)
                      refine lv_goto (tgt := 43) hx hb dL_store_238 (by decide) ?_
                      obtain ⟨z1, z2, z3⟩ := st pa sa we (by unfold s_cnt; omega) (by unfold s_cnt; omega) (by rw [sg]; exact if_neg (by omega))
                      exact ih (k + 1) pa sa we (by omega) (by omega) z1 z2 z3 (by omega) ls (lv_sub hl [7, 8, 9, 10, 11, 4, 12, 3, 2, 1, 0] rfl)
                    · exact absurd c25 (by omega)
                  · exact absurd c24 (by omega)
                · exact absurd c23 (by omega)
              · exact absurd c20 (by omega)
            · exact absurd c18 (by omega)
          · exact absurd c17 (by omega)
        · have e1 := a1.trans ((if_neg hm).trans (if_pos (by omega)))
          have e0 := a0.trans (if_pos (by omega))
          refine lv_iload hx hb dL_store_43 (lv_at hl 10 rfl) ?_
          refine ri_bipush hx hb dL_store_45 (by decide) ?_
          refine ri_icmp_ge (tgt := 241) hx hb dL_store_47 (by decide) (by omega) (by omega) (fun c26 => ?_) (fun c26 => ?_)
          · exact absurd c26 (by omega)
          refine lv_iload hx hb dL_store_50 (lv_at hl 5 rfl) ?_
          refine ri_if_eq (tgt := 241) hx hb dL_store_52 (by decide) (by omega) (fun c27 => ?_) (fun c27 => ?_)
          · exact absurd c27 (by omega)
          refine lv_aload_n hx hb dL_store_55 rfl (lv_at hl 0 rfl) ?_
          refine lv_iload hx hb dL_store_56 (lv_at hl 6 rfl) ?_
          refine lv_iload hx hb dL_store_58 (lv_at hl 10 rfl) ?_
          refine ri_iconst hx hb dL_store_60 ?_
          refine co_r (As := [.int (iI b), .int (iI k), .int (iI 1)]) (rest := []) hx hb (hml.trans hl.1.symm) hown hts w lk_RL_60 (t_X5_place l g c0 na be tr sn x h o T T1 T2 T3 K z P C N B b k 1 hW hC (by omega) (by omega) (by omega)) hrv rfl rfl (Nat.le_of_ble_eq_true rfl) ⟨Nat.le_of_ble_eq_true rfl, Nat.le_of_ble_eq_true rfl⟩ ⟨Nat.le_of_ble_eq_true rfl, Nat.le_of_ble_eq_true rfl⟩ dL_store_61 ?_
          rw [e1]
          refine lv_istore (lv' := [(11, .int (iI 2)), (0, .ref c0), (1, .int (iI pl)), (2, .int (iI fr)), (3, .int (iI mo)), (4, .int (iI (B 0 6))), (5, .int (iI 1)), (6, .int (iI b)), (7, .int (iI pa)), (8, .int (iI sa)), (9, .int (iI we)), (10, .int (iI k))]) hx hb dL_store_64 hl (by decide) rfl (fun ls hl => ?_)
          refine lv_aload_n hx hb dL_store_66 rfl (lv_at hl 1 rfl) ?_
          refine lv_iload hx hb dL_store_67 (lv_at hl 7 rfl) ?_
          refine lv_iload hx hb dL_store_69 (lv_at hl 11 rfl) ?_
          refine ri_iconst hx hb dL_store_71 ?_
          refine co_r (As := [.int (iI b), .int (iI k), .int (iI 0)]) (rest := []) hx hb (hml.trans hl.1.symm) hown hts w lk_RL_60 (t_X5_place l g c0 na be tr sn x h o T T1 T2 T3 K z P C N B b k 0 hW hC (by omega) (by omega) (by omega)) hrv rfl rfl (Nat.le_of_ble_eq_true rfl) ⟨Nat.le_of_ble_eq_true rfl, Nat.le_of_ble_eq_true rfl⟩ ⟨Nat.le_of_ble_eq_true rfl, Nat.le_of_ble_eq_true rfl⟩ dL_store_72 ?_
          rw [e0]
          refine lv_istore (lv' := [(12, .int (iI (-5))), (11, .int (iI 2)), (0, .ref c0), (1, .int (iI pl)), (2, .int (iI fr)), (3, .int (iI mo)), (4, .int (iI (B 0 6))), (5, .int (iI 1)), (6, .int (iI b)), (7, .int (iI pa)), (8, .int (iI sa)), (9, .int (iI we)), (10, .int (iI k))]) hx hb dL_store_75 hl (by decide) rfl (fun ls hl => ?_)
          refine lv_iload hx hb dL_store_77 (lv_at hl 1 rfl) ?_
          refine ri_iconst hx hb dL_store_79 ?_
          refine ri_icmp_ne (tgt := 87) hx hb dL_store_80 (by decide) (by omega) (by omega) (fun c28 => ?_) (fun c28 => ?_)
          · refine ri_iconst hx hb dL_store_87 ?_
            refine lv_iload hx hb dL_store_88 (lv_at hl 0 rfl) ?_
            refine ri_if_lt (tgt := 97) hx hb dL_store_90 (by decide) (by omega) (fun c29 => ?_) (fun c29 => ?_)
            · refine ri_iconst hx hb dL_store_97 ?_
              refine ri_icmp_ne (tgt := 164) hx hb dL_store_98 (by decide) (by omega) (by omega) (fun c30 => ?_) (fun c30 => ?_)
              · exact absurd c30 (by omega)
              refine lv_iload hx hb dL_store_101 (lv_at hl 0 rfl) ?_
              refine ri_if_lt (tgt := 143) hx hb dL_store_103 (by decide) (by omega) (fun c31 => ?_) (fun c31 => ?_)
              · refine lv_iload hx hb dL_store_143 (lv_at hl 1 rfl) ?_
                refine ri_if_gt (tgt := 160) hx hb dL_store_145 (by decide) (by omega) (fun c32 => ?_) (fun c32 => ?_)
                · refine ri_iconst hx hb dL_store_160 ?_
                  refine lv_goto (tgt := 165) hx hb dL_store_161 (by decide) ?_
                  refine lv_istore (lv' := [(5, .int (iI 1)), (12, .int (iI (-5))), (11, .int (iI 2)), (0, .ref c0), (1, .int (iI pl)), (2, .int (iI fr)), (3, .int (iI mo)), (4, .int (iI (B 0 6))), (6, .int (iI b)), (7, .int (iI pa)), (8, .int (iI sa)), (9, .int (iI we)), (10, .int (iI k))]) hx hb dL_store_165 hl (by decide) rfl (fun ls hl => ?_)
                  refine lv_iload hx hb dL_store_167 (lv_at hl 9 rfl) ?_
                  refine lv_iload hx hb dL_store_169 (lv_at hl 2 rfl) ?_
                  refine ri_iconst hx hb dL_store_171 ?_
                  refine ri_icmp_ne (tgt := 179) hx hb dL_store_172 (by decide) (by omega) (by omega) (fun c33 => ?_) (fun c33 => ?_)
                  · refine ri_iconst hx hb dL_store_179 ?_
                    refine ri_iadd (z := pa) hx hb dL_store_180 (by omega) ?_
                    refine lv_istore (lv' := [(7, .int (iI pa)), (5, .int (iI 1)), (12, .int (iI (-5))), (11, .int (iI 2)), (0, .ref c0), (1, .int (iI pl)), (2, .int (iI fr)), (3, .int (iI mo)), (4, .int (iI (B 0 6))), (6, .int (iI b)), (8, .int (iI sa)), (9, .int (iI we)), (10, .int (iI k))]) hx hb dL_store_181 hl (by decide) rfl (fun ls hl => ?_)
                    refine lv_iload hx hb dL_store_183 (lv_at hl 10 rfl) ?_
                    refine lv_iload hx hb dL_store_185 (lv_at hl 3 rfl) ?_
                    refine ri_iconst hx hb dL_store_187 ?_
                    refine ri_icmp_ne (tgt := 195) hx hb dL_store_188 (by decide) (by omega) (by omega) (fun c34 => ?_) (fun c34 => ?_)
                    · exact absurd c34 (by omega)
                    refine ri_iconst hx hb dL_store_191 ?_
                    refine lv_goto (tgt := 196) hx hb dL_store_192 (by decide) ?_
                    refine ri_iadd (z := sa + 1) hx hb dL_store_196 (by omega) ?_
                    refine lv_istore (lv' := [(8, .int (iI (sa + 1))), (7, .int (iI pa)), (5, .int (iI 1)), (12, .int (iI (-5))), (11, .int (iI 2)), (0, .ref c0), (1, .int (iI pl)), (2, .int (iI fr)), (3, .int (iI mo)), (4, .int (iI (B 0 6))), (6, .int (iI b)), (9, .int (iI we)), (10, .int (iI k))]) hx hb dL_store_197 hl (by decide) rfl (fun ls hl => ?_)
                    refine lv_iload hx hb dL_store_199 (lv_at hl 4 rfl) ?_
                    refine ri_iconst hx hb dL_store_201 ?_
                    refine ri_icmp_ne (tgt := 231) hx hb dL_store_202 (by decide) (by omega) (by omega) (fun c35 => ?_) (fun c35 => ?_)
                    · refine lv_iload hx hb dL_store_231 (lv_at hl 11 rfl) ?_
                      refine lv_istore (lv' := [(9, .int (iI we)), (8, .int (iI (sa + 1))), (7, .int (iI pa)), (5, .int (iI 1)), (12, .int (iI (-5))), (11, .int (iI 2)), (0, .ref c0), (1, .int (iI pl)), (2, .int (iI fr)), (3, .int (iI mo)), (4, .int (iI (B 0 6))), (6, .int (iI b)), (10, .int (iI k))]) hx hb dL_store_233 hl (by decide) rfl (fun ls hl => ?_)
                      refine ri_iinc (k := 12) (z := k + 1) (lv' := [(10, .int (iI (k + 1))), (9, .int (iI we)), (8, .int (iI (sa + 1))), (7, .int (iI pa)), (5, .int (iI 1)), (12, .int (iI (-5))), (11, .int (iI 2)), (0, .ref c0), (1, .int (iI pl)), (2, .int (iI fr)), (3, .int (iI mo)), (4, .int (iI (B 0 6))), (6, .int (iI b))]) hx hb dL_store_235 hl rfl (by omega) (by decide) rfl (fun ls hl => ?_)
                      refine lv_goto (tgt := 43) hx hb dL_store_238 (by decide) ?_
                      obtain ⟨z1, z2, z3⟩ := st pa (sa + 1) we (by unfold s_cnt; omega) (by unfold s_cnt; omega) (by rw [sg]; exact if_neg (by omega))
                      exact ih (k + 1) pa (sa + 1) we (by omega) (by omega) z1 z2 z3 (by omega) ls (lv_sub hl [7, 8, 9, 10, 11, 4, 12, 3, 2, 1, 0] rfl)
                    · exact absurd c35 (by omega)
                  · exact absurd c33 (by omega)
                · exact absurd c32 (by omega)
              · exact absurd c31 (by omega)
            · exact absurd c29 (by omega)
          · exact absurd c28 (by omega)
  have L19 : ∀ (n : Nat) (b pl fr mo : Int), b + n = 6 → 0 ≤ b → fo n b pl (s_placed (B 0)) = r_placed (B 0) → fo n b fr (s_frees (B 0)) = r_frees (B 0) → fo n b mo (s_weak (B 0)) = r_weakest (B 0) → 0 ≤ mo ∧ mo ≤ 40000 → ∀ ls : Array Slot, lv_has ls 13 [(0, .ref c0), (1, .int (iI pl)), (2, .int (iI fr)), (3, .int (iI mo)), (4, .int (iI (B 0 6))), (5, .int (iI 1)), (6, .int (iI b))] → W p l e (rmm 5 0 0) s m args below meth c s.heap [] 0 0 Q (F0 m 19 ls []) := by
    intro n
    induction n with
    | zero =>
      intro b pl fr mo hn hbb hp1 hp2 hp3 hmo ls hl
      have q1 : pl = r_placed (B 0) := hp1
      have q2 : fr = r_frees (B 0) := hp2
      have q3 : mo = r_weakest (B 0) := hp3
      have hpr := placed_rg (B 0)
      have hfr := frees_rg (B 0)
      rw [q1, q2, q3] at hl
      have hmo : 0 ≤ r_weakest (B 0) ∧ r_weakest (B 0) ≤ 40000 := by rw [← q3]; exact hmo
      refine lv_iload hx hb dL_store_19 (lv_at hl 6 rfl) ?_
      refine ri_bipush hx hb dL_store_21 (by decide) ?_
      refine ri_icmp_ge (tgt := 483) hx hb dL_store_23 (by decide) (by omega) (by omega) (fun c36 => ?_) (fun c36 => ?_)
      · refine lv_iload hx hb dL_store_483 (lv_at hl 5 rfl) ?_
        refine ri_if_eq (tgt := 538) hx hb dL_store_485 (by decide) (by omega) (fun c37 => ?_) (fun c37 => ?_)
        · exact absurd c37 (by omega)
        refine lv_aload_n hx hb dL_store_488 rfl (lv_at hl 0 rfl) ?_
        refine ri_iconst hx hb dL_store_489 ?_
        refine co_r (As := [.int (iI 1)]) (rest := []) hx hb (hml.trans hl.1.symm) hown hts w lk_RL_57 (t_X5_count l g c0 na be tr sn x h o T T1 T2 T3 K z P C N B 1 hW hC (by omega)) hrv rfl rfl (Nat.le_of_ble_eq_true rfl) ⟨Nat.le_of_ble_eq_true rfl, Nat.le_of_ble_eq_true rfl⟩ ⟨Nat.le_of_ble_eq_true rfl, Nat.le_of_ble_eq_true rfl⟩ dL_store_490 ?_
        rw [cc_1]
        refine lv_iload_n hx hb dL_store_493 rfl (lv_at hl 1 rfl) ?_
        refine ri_icmp_ne (tgt := 538) hx hb dL_store_494 (by decide) (by omega) (by omega) (fun c38 => ?_) (fun c38 => ?_)
        · exact absurd c38 (by omega)
        refine lv_aload_n hx hb dL_store_497 rfl (lv_at hl 0 rfl) ?_
        refine ri_iconst hx hb dL_store_498 ?_
        refine co_r (As := [.int (iI 2)]) (rest := []) hx hb (hml.trans hl.1.symm) hown hts w lk_RL_57 (t_X5_count l g c0 na be tr sn x h o T T1 T2 T3 K z P C N B 2 hW hC (by omega)) hrv rfl rfl (Nat.le_of_ble_eq_true rfl) ⟨Nat.le_of_ble_eq_true rfl, Nat.le_of_ble_eq_true rfl⟩ ⟨Nat.le_of_ble_eq_true rfl, Nat.le_of_ble_eq_true rfl⟩ dL_store_499 ?_
        rw [cc_2]
        refine lv_iload_n hx hb dL_store_502 rfl (lv_at hl 2 rfl) ?_
        refine ri_icmp_ne (tgt := 538) hx hb dL_store_503 (by decide) (by omega) (by omega) (fun c39 => ?_) (fun c39 => ?_)
        · exact absurd c39 (by omega)
        refine lv_aload_n hx hb dL_store_506 rfl (lv_at hl 0 rfl) ?_
        refine ri_bipush hx hb dL_store_507 (by decide) ?_
        refine co_r (As := [.int (iI 10)]) (rest := []) hx hb (hml.trans hl.1.symm) hown hts w lk_RL_57 (t_X5_count l g c0 na be tr sn x h o T T1 T2 T3 K z P C N B 10 hW hC (by omega)) hrv rfl rfl (Nat.le_of_ble_eq_true rfl) ⟨Nat.le_of_ble_eq_true rfl, Nat.le_of_ble_eq_true rfl⟩ ⟨Nat.le_of_ble_eq_true rfl, Nat.le_of_ble_eq_true rfl⟩ dL_store_509 ?_
        rw [cc_10]
        refine lv_iload_n hx hb dL_store_512 rfl (lv_at hl 3 rfl) ?_
        refine ri_icmp_ne (tgt := 538) hx hb dL_store_513 (by decide) (by omega) (by omega) (fun c40 => ?_) (fun c40 => ?_)
        · exact absurd c40 (by omega)
        refine lv_iload hx hb dL_store_516 (lv_at hl 4 rfl) ?_
        refine ri_bipush hx hb dL_store_518 (by decide) ?_
        refine ri_icmp_eq (tgt := 534) hx hb dL_store_520 (by decide) (by omega) (by omega) (fun c41 => ?_) (fun c41 => ?_)
        · refine ri_iconst hx hb dL_store_534 ?_
          refine lv_goto (tgt := 539) hx hb dL_store_535 (by decide) ?_
          exact hend.2 _ rfl ⟨_, rfl, rfl⟩ _ _ dL_store_539
        · refine lv_aload_n hx hb dL_store_523 rfl (lv_at hl 0 rfl) ?_
          refine lv_iload hx hb dL_store_524 (lv_at hl 4 rfl) ?_
          refine ri_bipush hx hb dL_store_526 (by decide) ?_
          refine co_r (As := [.int (iI (B 0 6)), .int (iI 7)]) (rest := []) hx hb (hml.trans hl.1.symm) hown hts w lk_RL_67 (t_X5_block l g c0 na be tr sn x h o T T1 T2 T3 K z P C N B (B 0 6) 7 hW hC (by omega) (by omega)) hrv rfl rfl (Nat.le_of_ble_eq_true rfl) ⟨Nat.le_of_ble_eq_true rfl, Nat.le_of_ble_eq_true rfl⟩ ⟨Nat.le_of_ble_eq_true rfl, Nat.le_of_ble_eq_true rfl⟩ dL_store_528 ?_
          rw [cb_7 (by omega), if_neg (fun q => q.1 rfl)]
          refine ri_if_ne (tgt := 538) hx hb dL_store_531 (by decide) (by omega) (fun c42 => ?_) (fun c42 => ?_)
          · exact absurd c42 (by omega)
          refine ri_iconst hx hb dL_store_534 ?_
          refine lv_goto (tgt := 539) hx hb dL_store_535 (by decide) ?_
          exact hend.2 _ rfl ⟨_, rfl, rfl⟩ _ _ dL_store_539
      · exact absurd c36 (by omega)
    | succ n ih =>
      intro b pl fr mo hn hbb hp1 hp2 hp3 hmo ls hl
      have hb0 : 0 ≤ b ∧ b < 6 := by omega
      have hbl := hW0.bl hb0.1 hb0.2
      have her := hW0.bd (4 * b + 42)
      have hbr := bears_rg hW0 hb0.1 hb0.2
      have hgr := great_rg hW0 hb0.1 hb0.2
      have hgl := great_le hW0 hb0
      have hfi := free_iff hW0 hb0
      have hc0 := cnt_rg (B 0) b 0
      have hc2 := cnt_rg (B 0) b (-2)
      have hhu := hund_rg hW0 hb0.1 hb0.2
      have J344 : ∀ ls : Array Slot, lv_has ls 13 [(0, .ref c0), (1, .int (iI pl)), (2, .int (iI fr)), (3, .int (iI mo)), (4, .int (iI (B 0 6))), (5, .int (iI 1)), (6, .int (iI b)), (7, .int (iI (r_cnt (B 0) b 0))), (8, .int (iI (r_cnt (B 0) b (-2)))), (9, .int (iI (r_great (B 0) b))), (11, .int (iI (r_bears (B 0) b)))] → W p l e (rmm 5 0 0) s m args below meth c s.heap [] 0 0 Q (F0 m 344 ls [.int (iI (if P_free (B 0) b then 1 else 0))]) := by
        intro ls hl
        have hun : r_hund (B 0) b = 100 * r_great (B 0) b / r_bears (B 0) b := rfl
        rw [hun] at hhu
        by_cases hf : P_free (B 0) b
        · rw [if_pos hf]
          refine lv_istore (lv' := [(12, .int (iI 1)), (0, .ref c0), (1, .int (iI pl)), (2, .int (iI fr)), (3, .int (iI mo)), (4, .int (iI (B 0 6))), (5, .int (iI 1)), (6, .int (iI b)), (7, .int (iI (r_cnt (B 0) b 0))), (8, .int (iI (r_cnt (B 0) b (-2)))), (9, .int (iI (r_great (B 0) b))), (11, .int (iI (r_bears (B 0) b)))]) hx hb dL_store_344 hl (by decide) rfl (fun ls hl => ?_)
          refine lv_iload hx hb dL_store_346 (lv_at hl 6 rfl) ?_
          refine ri_if_eq (tgt := 431) hx hb dL_store_348 (by decide) (by omega) (fun c43 => ?_) (fun c43 => ?_)
          · exact absurd c43 (by omega)
          refine lv_aload_n hx hb dL_store_351 rfl (lv_at hl 1 rfl) ?_
          refine lv_iload hx hb dL_store_352 (lv_at hl 7 rfl) ?_
          refine ri_iconst hx hb dL_store_354 ?_
          refine co_r (As := [.int (iI b), .int (iI 2)]) (rest := []) hx hb (hml.trans hl.1.symm) hown hts w lk_RL_67 (t_X5_block l g c0 na be tr sn x h o T T1 T2 T3 K z P C N B b 2 hW hC (by omega) (by omega)) hrv rfl rfl (Nat.le_of_ble_eq_true rfl) ⟨Nat.le_of_ble_eq_true rfl, Nat.le_of_ble_eq_true rfl⟩ ⟨Nat.le_of_ble_eq_true rfl, Nat.le_of_ble_eq_true rfl⟩ dL_store_355 ?_
          rw [cb_2 (by omega)]
          refine lv_iload hx hb dL_store_358 (lv_at hl 11 rfl) ?_
          refine ri_icmp_ne (tgt := 431) hx hb dL_store_360 (by decide) (by omega) (by omega) (fun c44 => ?_) (fun c44 => ?_)
          · exact absurd c44 (by omega)
          refine lv_aload_n hx hb dL_store_363 rfl (lv_at hl 1 rfl) ?_
          refine lv_iload hx hb dL_store_364 (lv_at hl 7 rfl) ?_
          refine ri_iconst hx hb dL_store_366 ?_
          refine co_r (As := [.int (iI b), .int (iI 3)]) (rest := []) hx hb (hml.trans hl.1.symm) hown hts w lk_RL_67 (t_X5_block l g c0 na be tr sn x h o T T1 T2 T3 K z P C N B b 3 hW hC (by omega) (by omega)) hrv rfl rfl (Nat.le_of_ble_eq_true rfl) ⟨Nat.le_of_ble_eq_true rfl, Nat.le_of_ble_eq_true rfl⟩ ⟨Nat.le_of_ble_eq_true rfl, Nat.le_of_ble_eq_true rfl⟩ dL_store_367 ?_
          rw [cb_3 (by omega)]
          refine lv_iload hx hb dL_store_370 (lv_at hl 8 rfl) ?_
          refine ri_icmp_ne (tgt := 431) hx hb dL_store_372 (by decide) (by omega) (by omega) (fun c45 => ?_) (fun c45 => ?_)
          · exact absurd c45 (by omega)
          refine lv_aload_n hx hb dL_store_375 rfl (lv_at hl 1 rfl) ?_
          refine lv_iload hx hb dL_store_376 (lv_at hl 7 rfl) ?_
          refine ri_iconst hx hb dL_store_378 ?_
          refine co_r (As := [.int (iI b), .int (iI 4)]) (rest := []) hx hb (hml.trans hl.1.symm) hown hts w lk_RL_67 (t_X5_block l g c0 na be tr sn x h o T T1 T2 T3 K z P C N B b 4 hW hC (by omega) (by omega)) hrv rfl rfl (Nat.le_of_ble_eq_true rfl) ⟨Nat.le_of_ble_eq_true rfl, Nat.le_of_ble_eq_true rfl⟩ ⟨Nat.le_of_ble_eq_true rfl, Nat.le_of_ble_eq_true rfl⟩ dL_store_379 ?_
          rw [cb_4 (by omega)]
          refine lv_iload hx hb dL_store_382 (lv_at hl 9 rfl) ?_
          refine ri_icmp_ne (tgt := 431) hx hb dL_store_384 (by decide) (by omega) (by omega) (fun c46 => ?_) (fun c46 => ?_)
          · exact absurd c46 (by omega)
          refine lv_aload_n hx hb dL_store_387 rfl (lv_at hl 1 rfl) ?_
          refine lv_iload hx hb dL_store_388 (lv_at hl 7 rfl) ?_
          refine ri_iconst hx hb dL_store_390 ?_
          refine co_r (As := [.int (iI b), .int (iI 5)]) (rest := []) hx hb (hml.trans hl.1.symm) hown hts w lk_RL_67 (t_X5_block l g c0 na be tr sn x h o T T1 T2 T3 K z P C N B b 5 hW hC (by omega) (by omega)) hrv rfl rfl (Nat.le_of_ble_eq_true rfl) ⟨Nat.le_of_ble_eq_true rfl, Nat.le_of_ble_eq_true rfl⟩ ⟨Nat.le_of_ble_eq_true rfl, Nat.le_of_ble_eq_true rfl⟩ dL_store_391 ?_
          rw [cb_5 (by omega)]
          refine lv_iload hx hb dL_store_394 (lv_at hl 10 rfl) ?_
          refine ri_icmp_ne (tgt := 431) hx hb dL_store_396 (by decide) (by omega) (by omega) (fun c47 => ?_) (fun c47 => ?_)
          · exact absurd c47 (by omega)
          refine lv_iload hx hb dL_store_399 (lv_at hl 10 rfl) ?_
          refine lv_iload hx hb dL_store_401 (lv_at hl 11 rfl) ?_
          refine ri_icmp_gt (tgt := 431) hx hb dL_store_403 (by decide) (by omega) (by omega) (fun c48 => ?_) (fun c48 => ?_)
          · exact absurd c48 (by omega)
          refine lv_aload_n hx hb dL_store_406 rfl (lv_at hl 1 rfl) ?_
          refine lv_iload hx hb dL_store_407 (lv_at hl 7 rfl) ?_
          refine ri_bipush hx hb dL_store_409 (by decide) ?_
          refine co_r (As := [.int (iI b), .int (iI 7)]) (rest := []) hx hb (hml.trans hl.1.symm) hown hts w lk_RL_67 (t_X5_block l g c0 na be tr sn x h o T T1 T2 T3 K z P C N B b 7 hW hC (by omega) (by omega)) hrv rfl rfl (Nat.le_of_ble_eq_true rfl) ⟨Nat.le_of_ble_eq_true rfl, Nat.le_of_ble_eq_true rfl⟩ ⟨Nat.le_of_ble_eq_true rfl, Nat.le_of_ble_eq_true rfl⟩ dL_store_411 ?_
          rw [cb_7 (by omega), if_pos hf]
          refine lv_iload hx hb dL_store_414 (lv_at hl 0 rfl) ?_
          refine ri_if_eq (tgt := 423) hx hb dL_store_416 (by decide) (by omega) (fun c49 => ?_) (fun c49 => ?_)
          · exact absurd c49 (by omega)
          refine ri_iconst hx hb dL_store_419 ?_
          refine lv_goto (tgt := 424) hx hb dL_store_420 (by decide) ?_
          refine ri_icmp_ne (tgt := 431) hx hb dL_store_424 (by decide) (by omega) (by omega) (fun c50 => ?_) (fun c50 => ?_)
          · exact absurd c50 (by omega)
          refine ri_iconst hx hb dL_store_427 ?_
          refine lv_goto (tgt := 432) hx hb dL_store_428 (by decide) ?_
          refine lv_istore (lv' := [(5, .int (iI 1)), (12, .int (iI 1)), (0, .ref c0), (1, .int (iI pl)), (2, .int (iI fr)), (3, .int (iI mo)), (4, .int (iI (B 0 6))), (6, .int (iI b)), (7, .int (iI (r_cnt (B 0) b 0))), (8, .int (iI (r_cnt (B 0) b (-2)))), (9, .int (iI (r_great (B 0) b))), (11, .int (iI (r_bears (B 0) b)))]) hx hb dL_store_432 hl (by decide) rfl (fun ls hl => ?_)
          refine lv_iload_n hx hb dL_store_434 rfl (lv_at hl 3 rfl) ?_
          refine lv_iload hx hb dL_store_435 (lv_at hl 8 rfl) ?_
          refine ri_iadd (z := pl + r_cnt (B 0) b 0) hx hb dL_store_437 (by omega) ?_
          refine lv_istore_n (lv' := [(1, .int (iI (pl + r_cnt (B 0) b 0))), (5, .int (iI 1)), (12, .int (iI 1)), (0, .ref c0), (2, .int (iI fr)), (3, .int (iI mo)), (4, .int (iI (B 0 6))), (6, .int (iI b)), (7, .int (iI (r_cnt (B 0) b 0))), (8, .int (iI (r_cnt (B 0) b (-2)))), (9, .int (iI (r_great (B 0) b))), (11, .int (iI (r_bears (B 0) b)))]) hx hb dL_store_438 rfl hl (by decide) rfl (fun ls hl => ?_)
          refine lv_iload_n hx hb dL_store_439 rfl (lv_at hl 4 rfl) ?_
          refine lv_iload hx hb dL_store_440 (lv_at hl 2 rfl) ?_
          refine ri_if_eq (tgt := 449) hx hb dL_store_442 (by decide) (by omega) (fun c51 => ?_) (fun c51 => ?_)
          · exact absurd c51 (by omega)
          refine ri_iconst hx hb dL_store_445 ?_
          refine lv_goto (tgt := 450) hx hb dL_store_446 (by decide) ?_
          refine ri_iadd (z := fr + 1) hx hb dL_store_450 (by omega) ?_
          refine lv_istore_n (lv' := [(2, .int (iI (fr + 1))), (1, .int (iI (pl + r_cnt (B 0) b 0))), (5, .int (iI 1)), (12, .int (iI 1)), (0, .ref c0), (3, .int (iI mo)), (4, .int (iI (B 0 6))), (6, .int (iI b)), (7, .int (iI (r_cnt (B 0) b 0))), (8, .int (iI (r_cnt (B 0) b (-2)))), (9, .int (iI (r_great (B 0) b))), (11, .int (iI (r_bears (B 0) b)))]) hx hb dL_store_451 rfl hl (by decide) rfl (fun ls hl => ?_)
          refine ri_bipush hx hb dL_store_452 (by decide) ?_
          refine lv_iload hx hb dL_store_454 (lv_at hl 10 rfl) ?_
          refine ri_imul (z := 100 * r_great (B 0) b) hx hb dL_store_456 (by omega) ?_
          refine lv_iload hx hb dL_store_457 (lv_at hl 11 rfl) ?_
          refine ri_idiv (z := ((100 * r_great (B 0) b) / (r_bears (B 0) b))) hx hb dL_store_459 (by omega) (by omega) rfl ?_
          refine lv_iload_n hx hb dL_store_460 rfl (lv_at hl 5 rfl) ?_
          refine ri_icmp_le (tgt := 475) hx hb dL_store_461 (by decide) (by omega) (by omega) (fun c52 => ?_) (fun c52 => ?_)
          · refine lv_iload_n hx hb dL_store_475 rfl (lv_at hl 5 rfl) ?_
            refine lv_istore_n (lv' := [(3, .int (iI mo)), (2, .int (iI (fr + 1))), (1, .int (iI (pl + r_cnt (B 0) b 0))), (5, .int (iI 1)), (12, .int (iI 1)), (0, .ref c0), (4, .int (iI (B 0 6))), (6, .int (iI b)), (7, .int (iI (r_cnt (B 0) b 0))), (8, .int (iI (r_cnt (B 0) b (-2)))), (9, .int (iI (r_great (B 0) b))), (11, .int (iI (r_bears (B 0) b)))]) hx hb dL_store_476 rfl hl (by decide) rfl (fun ls hl => ?_)
            refine ri_iinc (k := 7) (z := b + 1) (lv' := [(6, .int (iI (b + 1))), (3, .int (iI mo)), (2, .int (iI (fr + 1))), (1, .int (iI (pl + r_cnt (B 0) b 0))), (5, .int (iI 1)), (12, .int (iI 1)), (0, .ref c0), (4, .int (iI (B 0 6))), (7, .int (iI (r_cnt (B 0) b 0))), (8, .int (iI (r_cnt (B 0) b (-2)))), (9, .int (iI (r_great (B 0) b))), (11, .int (iI (r_bears (B 0) b)))]) hx hb dL_store_477 hl rfl (by omega) (by decide) rfl (fun ls hl => ?_)
            refine lv_goto (tgt := 19) hx hb dL_store_480 (by decide) ?_
            have y1 : s_placed (B 0) b pl = pl + r_cnt (B 0) b 0 := rfl
            have y2 : s_frees (B 0) b fr = fr + 1 := by unfold s_frees; rw [if_pos hf]
            have y3 : s_weak (B 0) b mo = mo := by unfold s_weak r_hund; exact if_neg (by omega)
            exact ih (b + 1) (pl + r_cnt (B 0) b 0) (fr + 1) mo (by omega) (by omega) (fo_s hp1 y1) (fo_s hp2 y2) (fo_s hp3 y3) (by omega) ls (lv_sub hl [6, 3, 2, 1, 7, 4, 0] rfl)
          · refine ri_bipush hx hb dL_store_464 (by decide) ?_
            refine lv_iload hx hb dL_store_466 (lv_at hl 10 rfl) ?_
            refine ri_imul (z := 100 * r_great (B 0) b) hx hb dL_store_468 (by omega) ?_
            refine lv_iload hx hb dL_store_469 (lv_at hl 11 rfl) ?_
            refine ri_idiv (z := ((100 * r_great (B 0) b) / (r_bears (B 0) b))) hx hb dL_store_471 (by omega) (by omega) rfl ?_
            refine lv_goto (tgt := 476) hx hb dL_store_472 (by decide) ?_
            refine lv_istore_n (lv' := [(3, .int (iI ((100 * r_great (B 0) b) / (r_bears (B 0) b)))), (2, .int (iI (fr + 1))), (1, .int (iI (pl + r_cnt (B 0) b 0))), (5, .int (iI 1)), (12, .int (iI 1)), (0, .ref c0), (4, .int (iI (B 0 6))), (6, .int (iI b)), (7, .int (iI (r_cnt (B 0) b 0))), (8, .int (iI (r_cnt (B 0) b (-2)))), (9, .int (iI (r_great (B 0) b))), (11, .int (iI (r_bears (B 0) b)))]) hx hb dL_store_476 rfl hl (by decide) rfl (fun ls hl => ?_)
            refine ri_iinc (k := 7) (z := b + 1) (lv' := [(6, .int (iI (b + 1))), (3, .int (iI ((100 * r_great (B 0) b) / (r_bears (B 0) b)))), (2, .int (iI (fr + 1))), (1, .int (iI (pl + r_cnt (B 0) b 0))), (5, .int (iI 1)), (12, .int (iI 1)), (0, .ref c0), (4, .int (iI (B 0 6))), (7, .int (iI (r_cnt (B 0) b 0))), (8, .int (iI (r_cnt (B 0) b (-2)))), (9, .int (iI (r_great (B 0) b))), (11, .int (iI (r_bears (B 0) b)))]) hx hb dL_store_477 hl rfl (by omega) (by decide) rfl (fun ls hl => ?_)
            refine lv_goto (tgt := 19) hx hb dL_store_480 (by decide) ?_
            have y1 : s_placed (B 0) b pl = pl + r_cnt (B 0) b 0 := rfl
            have y2 : s_frees (B 0) b fr = fr + 1 := by unfold s_frees; rw [if_pos hf]
            have y3 : s_weak (B 0) b mo = ((100 * r_great (B 0) b) / (r_bears (B 0) b)) := by unfold s_weak r_hund; exact if_pos (by omega)
            exact ih (b + 1) (pl + r_cnt (B 0) b 0) (fr + 1) ((100 * r_great (B 0) b) / (r_bears (B 0) b)) (by omega) (by omega) (fo_s hp1 y1) (fo_s hp2 y2) (fo_s hp3 y3) (by omega) ls (lv_sub hl [6, 3, 2, 1, 7, 4, 0] rfl)
        · rw [if_neg hf]
          refine lv_istore (lv' := [(12, .int (iI 0)), (0, .ref c0), (1, .int (iI pl)), (2, .int (iI fr)), (3, .int (iI mo)), (4, .int (iI (B 0 6))), (5, .int (iI 1)), (6, .int (iI b)), (7, .int (iI (r_cnt (B 0) b 0))), (8, .int (iI (r_cnt (B 0) b (-2)))), (9, .int (iI (r_great (B 0) b))), (11, .int (iI (r_bears (B 0) b)))]) hx hb dL_store_344 hl (by decide) rfl (fun ls hl => ?_)
          refine lv_iload hx hb dL_store_346 (lv_at hl 6 rfl) ?_
          refine ri_if_eq (tgt := 431) hx hb dL_store_348 (by decide) (by omega) (fun c53 => ?_) (fun c53 => ?_)
          · exact absurd c53 (by omega)
          refine lv_aload_n hx hb dL_store_351 rfl (lv_at hl 1 rfl) ?_
          refine lv_iload hx hb dL_store_352 (lv_at hl 7 rfl) ?_
          refine ri_iconst hx hb dL_store_354 ?_
          refine co_r (As := [.int (iI b), .int (iI 2)]) (rest := []) hx hb (hml.trans hl.1.symm) hown hts w lk_RL_67 (t_X5_block l g c0 na be tr sn x h o T T1 T2 T3 K z P C N B b 2 hW hC (by omega) (by omega)) hrv rfl rfl (Nat.le_of_ble_eq_true rfl) ⟨Nat.le_of_ble_eq_true rfl, Nat.le_of_ble_eq_true rfl⟩ ⟨Nat.le_of_ble_eq_true rfl, Nat.le_of_ble_eq_true rfl⟩ dL_store_355 ?_
          rw [cb_2 (by omega)]
          refine lv_iload hx hb dL_store_358 (lv_at hl 11 rfl) ?_
          refine ri_icmp_ne (tgt := 431) hx hb dL_store_360 (by decide) (by omega) (by omega) (fun c54 => ?_) (fun c54 => ?_)
          · exact absurd c54 (by omega)
          refine lv_aload_n hx hb dL_store_363 rfl (lv_at hl 1 rfl) ?_
          refine lv_iload hx hb dL_store_364 (lv_at hl 7 rfl) ?_
          refine ri_iconst hx hb dL_store_366 ?_
          refine co_r (As := [.int (iI b), .int (iI 3)]) (rest := []) hx hb (hml.trans hl.1.symm) hown hts w lk_RL_67 (t_X5_block l g c0 na be tr sn x h o T T1 T2 T3 K z P C N B b 3 hW hC (by omega) (by omega)) hrv rfl rfl (Nat.le_of_ble_eq_true rfl) ⟨Nat.le_of_ble_eq_true rfl, Nat.le_of_ble_eq_true rfl⟩ ⟨Nat.le_of_ble_eq_true rfl, Nat.le_of_ble_eq_true rfl⟩ dL_store_367 ?_
          rw [cb_3 (by omega)]
          refine lv_iload hx hb dL_store_370 (lv_at hl 8 rfl) ?_
          refine ri_icmp_ne (tgt := 431) hx hb dL_store_372 (by decide) (by omega) (by omega) (fun c55 => ?_) (fun c55 => ?_)
          · exact absurd c55 (by omega)
          refine lv_aload_n hx hb dL_store_375 rfl (lv_at hl 1 rfl) ?_
          refine lv_iload hx hb dL_store_376 (lv_at hl 7 rfl) ?_
          refine ri_iconst hx hb dL_store_378 ?_
          refine co_r (As := [.int (iI b), .int (iI 4)]) (rest := []) hx hb (hml.trans hl.1.symm) hown hts w lk_RL_67 (t_X5_block l g c0 na be tr sn x h o T T1 T2 T3 K z P C N B b 4 hW hC (by omega) (by omega)) hrv rfl rfl (Nat.le_of_ble_eq_true rfl) ⟨Nat.le_of_ble_eq_true rfl, Nat.le_of_ble_eq_true rfl⟩ ⟨Nat.le_of_ble_eq_true rfl, Nat.le_of_ble_eq_true rfl⟩ dL_store_379 ?_
          rw [cb_4 (by omega)]
          refine lv_iload hx hb dL_store_382 (lv_at hl 9 rfl) ?_
          refine ri_icmp_ne (tgt := 431) hx hb dL_store_384 (by decide) (by omega) (by omega) (fun c56 => ?_) (fun c56 => ?_)
          · exact absurd c56 (by omega)
          refine lv_aload_n hx hb dL_store_387 rfl (lv_at hl 1 rfl) ?_
          refine lv_iload hx hb dL_store_388 (lv_at hl 7 rfl) ?_
          refine ri_iconst hx hb dL_store_390 ?_
          refine co_r (As := [.int (iI b), .int (iI 5)]) (rest := []) hx hb (hml.trans hl.1.symm) hown hts w lk_RL_67 (t_X5_block l g c0 na be tr sn x h o T T1 T2 T3 K z P C N B b 5 hW hC (by omega) (by omega)) hrv rfl rfl (Nat.le_of_ble_eq_true rfl) ⟨Nat.le_of_ble_eq_true rfl, Nat.le_of_ble_eq_true rfl⟩ ⟨Nat.le_of_ble_eq_true rfl, Nat.le_of_ble_eq_true rfl⟩ dL_store_391 ?_
          rw [cb_5 (by omega)]
          refine lv_iload hx hb dL_store_394 (lv_at hl 10 rfl) ?_
          refine ri_icmp_ne (tgt := 431) hx hb dL_store_396 (by decide) (by omega) (by omega) (fun c57 => ?_) (fun c57 => ?_)
          · exact absurd c57 (by omega)
          refine lv_iload hx hb dL_store_399 (lv_at hl 10 rfl) ?_
          refine lv_iload hx hb dL_store_401 (lv_at hl 11 rfl) ?_
          refine ri_icmp_gt (tgt := 431) hx hb dL_store_403 (by decide) (by omega) (by omega) (fun c58 => ?_) (fun c58 => ?_)
          · exact absurd c58 (by omega)
          refine lv_aload_n hx hb dL_store_406 rfl (lv_at hl 1 rfl) ?_
          refine lv_iload hx hb dL_store_407 (lv_at hl 7 rfl) ?_
          refine ri_bipush hx hb dL_store_409 (by decide) ?_
          refine co_r (As := [.int (iI b), .int (iI 7)]) (rest := []) hx hb (hml.trans hl.1.symm) hown hts w lk_RL_67 (t_X5_block l g c0 na be tr sn x h o T T1 T2 T3 K z P C N B b 7 hW hC (by omega) (by omega)) hrv rfl rfl (Nat.le_of_ble_eq_true rfl) ⟨Nat.le_of_ble_eq_true rfl, Nat.le_of_ble_eq_true rfl⟩ ⟨Nat.le_of_ble_eq_true rfl, Nat.le_of_ble_eq_true rfl⟩ dL_store_411 ?_
          rw [cb_7 (by omega), if_neg hf]
          refine lv_iload hx hb dL_store_414 (lv_at hl 0 rfl) ?_
          refine ri_if_eq (tgt := 423) hx hb dL_store_416 (by decide) (by omega) (fun c59 => ?_) (fun c59 => ?_)
          · refine ri_iconst hx hb dL_store_423 ?_
            refine ri_icmp_ne (tgt := 431) hx hb dL_store_424 (by decide) (by omega) (by omega) (fun c60 => ?_) (fun c60 => ?_)
            · exact absurd c60 (by omega)
            refine ri_iconst hx hb dL_store_427 ?_
            refine lv_goto (tgt := 432) hx hb dL_store_428 (by decide) ?_
            refine lv_istore (lv' := [(5, .int (iI 1)), (12, .int (iI 0)), (0, .ref c0), (1, .int (iI pl)), (2, .int (iI fr)), (3, .int (iI mo)), (4, .int (iI (B 0 6))), (6, .int (iI b)), (7, .int (iI (r_cnt (B 0) b 0))), (8, .int (iI (r_cnt (B 0) b (-2)))), (9, .int (iI (r_great (B 0) b))), (11, .int (iI (r_bears (B 0) b)))]) hx hb dL_store_432 hl (by decide) rfl (fun ls hl => ?_)
            refine lv_iload_n hx hb dL_store_434 rfl (lv_at hl 3 rfl) ?_
            refine lv_iload hx hb dL_store_435 (lv_at hl 8 rfl) ?_
            refine ri_iadd (z := pl + r_cnt (B 0) b 0) hx hb dL_store_437 (by omega) ?_
            refine lv_istore_n (lv' := [(1, .int (iI (pl + r_cnt (B 0) b 0))), (5, .int (iI 1)), (12, .int (iI 0)), (0, .ref c0), (2, .int (iI fr)), (3, .int (iI mo)), (4, .int (iI (B 0 6))), (6, .int (iI b)), (7, .int (iI (r_cnt (B 0) b 0))), (8, .int (iI (r_cnt (B 0) b (-2)))), (9, .int (iI (r_great (B 0) b))), (11, .int (iI (r_bears (B 0) b)))]) hx hb dL_store_438 rfl hl (by decide) rfl (fun ls hl => ?_)
            refine lv_iload_n hx hb dL_store_439 rfl (lv_at hl 4 rfl) ?_
            refine lv_iload hx hb dL_store_440 (lv_at hl 2 rfl) ?_
            refine ri_if_eq (tgt := 449) hx hb dL_store_442 (by decide) (by omega) (fun c61 => ?_) (fun c61 => ?_)
            · refine ri_iconst hx hb dL_store_449 ?_
              refine ri_iadd (z := fr) hx hb dL_store_450 (by omega) ?_
              refine lv_istore_n (lv' := [(2, .int (iI fr)), (1, .int (iI (pl + r_cnt (B 0) b 0))), (5, .int (iI 1)), (12, .int (iI 0)), (0, .ref c0), (3, .int (iI mo)), (4, .int (iI (B 0 6))), (6, .int (iI b)), (7, .int (iI (r_cnt (B 0) b 0))), (8, .int (iI (r_cnt (B 0) b (-2)))), (9, .int (iI (r_great (B 0) b))), (11, .int (iI (r_bears (B 0) b)))]) hx hb dL_store_451 rfl hl (by decide) rfl (fun ls hl => ?_)
              refine ri_bipush hx hb dL_store_452 (by decide) ?_
              refine lv_iload hx hb dL_store_454 (lv_at hl 10 rfl) ?_
              refine ri_imul (z := 100 * r_great (B 0) b) hx hb dL_store_456 (by omega) ?_
              refine lv_iload hx hb dL_store_457 (lv_at hl 11 rfl) ?_
              refine ri_idiv (z := ((100 * r_great (B 0) b) / (r_bears (B 0) b))) hx hb dL_store_459 (by omega) (by omega) rfl ?_
              refine lv_iload_n hx hb dL_store_460 rfl (lv_at hl 5 rfl) ?_
              refine ri_icmp_le (tgt := 475) hx hb dL_store_461 (by decide) (by omega) (by omega) (fun c62 => ?_) (fun c62 => ?_)
              · refine lv_iload_n hx hb dL_store_475 rfl (lv_at hl 5 rfl) ?_
                refine lv_istore_n (lv' := [(3, .int (iI mo)), (2, .int (iI fr)), (1, .int (iI (pl + r_cnt (B 0) b 0))), (5, .int (iI 1)), (12, .int (iI 0)), (0, .ref c0), (4, .int (iI (B 0 6))), (6, .int (iI b)), (7, .int (iI (r_cnt (B 0) b 0))), (8, .int (iI (r_cnt (B 0) b (-2)))), (9, .int (iI (r_great (B 0) b))), (11, .int (iI (r_bears (B 0) b)))]) hx hb dL_store_476 rfl hl (by decide) rfl (fun ls hl => ?_)
                refine ri_iinc (k := 7) (z := b + 1) (lv' := [(6, .int (iI (b + 1))), (3, .int (iI mo)), (2, .int (iI fr)), (1, .int (iI (pl + r_cnt (B 0) b 0))), (5, .int (iI 1)), (12, .int (iI 0)), (0, .ref c0), (4, .int (iI (B 0 6))), (7, .int (iI (r_cnt (B 0) b 0))), (8, .int (iI (r_cnt (B 0) b (-2)))), (9, .int (iI (r_great (B 0) b))), (11, .int (iI (r_bears (B 0) b)))]) hx hb dL_store_477 hl rfl (by omega) (by decide) rfl (fun ls hl => ?_)
                refine lv_goto (tgt := 19) hx hb dL_store_480 (by decide) ?_
                have y1 : s_placed (B 0) b pl = pl + r_cnt (B 0) b 0 := rfl
                have y2 : s_frees (B 0) b fr = fr := by unfold s_frees; rw [if_neg hf]; omega
                have y3 : s_weak (B 0) b mo = mo := by unfold s_weak r_hund; exact if_neg (by omega)
                exact ih (b + 1) (pl + r_cnt (B 0) b 0) fr mo (by omega) (by omega) (fo_s hp1 y1) (fo_s hp2 y2) (fo_s hp3 y3) (by omega) ls (lv_sub hl [6, 3, 2, 1, 7, 4, 0] rfl)
              · refine ri_bipush hx hb dL_store_464 (by decide) ?_
                refine lv_iload hx hb dL_store_466 (lv_at hl 10 rfl) ?_
                refine ri_imul (z := 100 * r_great (B 0) b) hx hb dL_store_468 (by omega) ?_
                refine lv_iload hx hb dL_store_469 (lv_at hl 11 rfl) ?_
                refine ri_idiv (z := ((100 * r_great (B 0) b) / (r_bears (B 0) b))) hx hb dL_store_471 (by omega) (by omega) rfl ?_
                refine lv_goto (tgt := 476) hx hb dL_store_472 (by decide) ?_
                refine lv_istore_n (lv' := [(3, .int (iI ((100 * r_great (B 0) b) / (r_bears (B 0) b)))), (2, .int (iI fr)), (1, .int (iI (pl + r_cnt (B 0) b 0))), (5, .int (iI 1)), (12, .int (iI 0)), (0, .ref c0), (4, .int (iI (B 0 6))), (6, .int (iI b)), (7, .int (iI (r_cnt (B 0) b 0))), (8, .int (iI (r_cnt (B 0) b (-2)))), (9, .int (iI (r_great (B 0) b))), (11, .int (iI (r_bears (B 0) b)))]) hx hb dL_store_476 rfl hl (by decide) rfl (fun ls hl => ?_)
                refine ri_iinc (k := 7) (z := b + 1) (lv' := [(6, .int (iI (b + 1))), (3, .int (iI ((100 * r_great (B 0) b) / (r_bears (B 0) b)))), (2, .int (iI fr)), (1, .int (iI (pl + r_cnt (B 0) b 0))), (5, .int (iI 1)), (12, .int (iI 0)), (0, .ref c0), (4, .int (iI (B 0 6))), (7, .int (iI (r_cnt (B 0) b 0))), (8, .int (iI (r_cnt (B 0) b (-2)))), (9, .int (iI (r_great (B 0) b))), (11, .int (iI (r_bears (B 0) b)))]) hx hb dL_store_477 hl rfl (by omega) (by decide) rfl (fun ls hl => ?_)
                refine lv_goto (tgt := 19) hx hb dL_store_480 (by decide) ?_
                have y1 : s_placed (B 0) b pl = pl + r_cnt (B 0) b 0 := rfl
                have y2 : s_frees (B 0) b fr = fr := by unfold s_frees; rw [if_neg hf]; omega
                have y3 : s_weak (B 0) b mo = ((100 * r_great (B 0) b) / (r_bears (B 0) b)) := by unfold s_weak r_hund; exact if_pos (by omega)
                exact ih (b + 1) (pl + r_cnt (B 0) b 0) fr ((100 * r_great (B 0) b) / (r_bears (B 0) b)) (by omega) (by omega) (fo_s hp1 y1) (fo_s hp2 y2) (fo_s hp3 y3) (by omega) ls (lv_sub hl [6, 3, 2, 1, 7, 4, 0] rfl)
            · exact absurd c61 (by omega)
          · exact absurd c59 (by omega)
      have J322 : ∀ ls : Array Slot, lv_has ls 13 [(0, .ref c0), (1, .int (iI pl)), (2, .int (iI fr)), (3, .int (iI mo)), (4, .int (iI (B 0 6))), (5, .int (iI 1)), (6, .int (iI b)), (7, .int (iI (r_cnt (B 0) b 0))), (8, .int (iI (r_cnt (B 0) b (-2)))), (9, .int (iI (r_great (B 0) b)))] → W p l e (rmm 5 0 0) s m args below meth c s.heap [] 0 0 Q (F0 m 322 ls [.int (iI (r_bears (B 0) b))]) := by
        intro ls hl
        refine lv_istore (lv' := [(11, .int (iI (r_bears (B 0) b))), (0, .ref c0), (1, .int (iI pl)), (2, .int (iI fr)), (3, .int (iI mo)), (4, .int (iI (B 0 6))), (5, .int (iI 1)), (6, .int (iI b)), (7, .int (iI (r_cnt (B 0) b 0))), (8, .int (iI (r_cnt (B 0) b (-2)))), (9, .int (iI (r_great (B 0) b)))]) hx hb dL_store_322 hl (by decide) rfl (fun ls hl => ?_)
        refine lv_iload hx hb dL_store_324 (lv_at hl 8 rfl) ?_
        refine lv_iload hx hb dL_store_326 (lv_at hl 9 rfl) ?_
        refine ri_iadd (z := r_cnt (B 0) b (-2) + r_cnt (B 0) b 0) hx hb dL_store_328 (by omega) ?_
        refine ri_if_ne (tgt := 343) hx hb dL_store_329 (by decide) (by omega) (fun c63 => ?_) (fun c63 => ?_)
        · refine ri_iconst hx hb dL_store_343 ?_
          rw [show (0 : Int) = if P_free (B 0) b then 1 else 0 from (if_neg (fun q => by have q2 := hfi.mp q; omega)).symm]
          exact J344 ls (lv_sub hl [1, 2, 3, 4, 5, 6, 7, 8, 9, 10, 0] rfl)
        · refine lv_iload hx hb dL_store_332 (lv_at hl 7 rfl) ?_
          refine lv_iload hx hb dL_store_334 (lv_at hl 5 rfl) ?_
          refine ri_icmp_eq (tgt := 343) hx hb dL_store_336 (by decide) (by omega) (by omega) (fun c64 => ?_) (fun c64 => ?_)
          · refine ri_iconst hx hb dL_store_343 ?_
            rw [show (0 : Int) = if P_free (B 0) b then 1 else 0 from (if_neg (fun q => by have q2 := hfi.mp q; omega)).symm]
            exact J344 ls (lv_sub hl [1, 2, 3, 4, 5, 6, 7, 8, 9, 10, 0] rfl)
          · refine ri_iconst hx hb dL_store_339 ?_
            refine lv_goto (tgt := 344) hx hb dL_store_340 (by decide) ?_
            rw [show (1 : Int) = if P_free (B 0) b then 1 else 0 from (if_pos (hfi.mpr ⟨by omega, by omega⟩)).symm]
            exact J344 ls (lv_sub hl [1, 2, 3, 4, 5, 6, 7, 8, 9, 10, 0] rfl)
      refine lv_iload hx hb dL_store_19 (lv_at hl 6 rfl) ?_
      refine ri_bipush hx hb dL_store_21 (by decide) ?_
      refine ri_icmp_ge (tgt := 483) hx hb dL_store_23 (by decide) (by omega) (by omega) (fun c73 => ?_) (fun c73 => ?_)
      · exact absurd c73 (by omega)
      refine lv_iload hx hb dL_store_26 (lv_at hl 5 rfl) ?_
      refine ri_if_eq (tgt := 483) hx hb dL_store_28 (by decide) (by omega) (fun c74 => ?_) (fun c74 => ?_)
      · exact absurd c74 (by omega)
      refine ri_iconst hx hb dL_store_31 ?_
      refine lv_istore (lv' := [(7, .int (iI 0)), (0, .ref c0), (1, .int (iI pl)), (2, .int (iI fr)), (3, .int (iI mo)), (4, .int (iI (B 0 6))), (5, .int (iI 1)), (6, .int (iI b))]) hx hb dL_store_32 hl (by decide) rfl (fun ls hl => ?_)
      refine ri_iconst hx hb dL_store_34 ?_
      refine lv_istore (lv' := [(8, .int (iI 0)), (7, .int (iI 0)), (0, .ref c0), (1, .int (iI pl)), (2, .int (iI fr)), (3, .int (iI mo)), (4, .int (iI (B 0 6))), (5, .int (iI 1)), (6, .int (iI b))]) hx hb dL_store_35 hl (by decide) rfl (fun ls hl => ?_)
      refine ri_iconst hx hb dL_store_37 ?_
      refine lv_istore (lv' := [(9, .int (iI 0)), (8, .int (iI 0)), (7, .int (iI 0)), (0, .ref c0), (1, .int (iI pl)), (2, .int (iI fr)), (3, .int (iI mo)), (4, .int (iI (B 0 6))), (5, .int (iI 1)), (6, .int (iI b))]) hx hb dL_store_38 hl (by decide) rfl (fun ls hl => ?_)
      refine ri_iconst hx hb dL_store_40 ?_
      refine lv_istore (lv' := [(10, .int (iI 0)), (9, .int (iI 0)), (8, .int (iI 0)), (7, .int (iI 0)), (0, .ref c0), (1, .int (iI pl)), (2, .int (iI fr)), (3, .int (iI mo)), (4, .int (iI (B 0 6))), (5, .int (iI 1)), (6, .int (iI b))]) hx hb dL_store_41 hl (by decide) rfl (fun ls hl => ?_)
      refine L43 b pl fr mo hb0 (fun ls hl => ?_) 8 0 0 0 0 (by omega) (by omega) (by rw [Int.add_zero]; rfl) (by rw [Int.add_zero]; rfl) (by rw [Int.add_zero]; rfl) (by omega) ls (lv_sub hl [4, 5, 6, 7, 8, 9, 10, 3, 2, 1, 0] rfl)
      by_cases h0 : B 0 (4 * b + 41) = 0
      · have hkd := h0
        refine lv_aload_n hx hb dL_store_241 rfl (lv_at hl 0 rfl) ?_
        refine lv_iload hx hb dL_store_242 (lv_at hl 6 rfl) ?_
        refine ri_iconst hx hb dL_store_244 ?_
        refine co_r (As := [.int (iI b), .int (iI 0)]) (rest := []) hx hb (hml.trans hl.1.symm) hown hts w lk_RL_67 (t_X5_block l g c0 na be tr sn x h o T T1 T2 T3 K z P C N B b 0 hW hC (by omega) (by omega)) hrv rfl rfl (Nat.le_of_ble_eq_true rfl) ⟨Nat.le_of_ble_eq_true rfl, Nat.le_of_ble_eq_true rfl⟩ ⟨Nat.le_of_ble_eq_true rfl, Nat.le_of_ble_eq_true rfl⟩ dL_store_245 ?_
        rw [cb_0 (by omega), hkd]
        refine lv_istore (lv' := [(10, .int (iI 0)), (0, .ref c0), (1, .int (iI pl)), (2, .int (iI fr)), (3, .int (iI mo)), (4, .int (iI (B 0 6))), (5, .int (iI 1)), (6, .int (iI b)), (7, .int (iI (r_cnt (B 0) b 0))), (8, .int (iI (r_cnt (B 0) b (-2)))), (9, .int (iI (r_great (B 0) b)))]) hx hb dL_store_248 hl (by decide) rfl (fun ls hl => ?_)
        refine lv_iload hx hb dL_store_250 (lv_at hl 0 rfl) ?_
        refine ri_if_ne (tgt := 271) hx hb dL_store_252 (by decide) (by omega) (fun c65 => ?_) (fun c65 => ?_)
        · exact absurd c65 (by omega)
        refine ri_sipush hx hb dL_store_255 (by decide) ?_
        refine ri_iconst hx hb dL_store_258 ?_
        refine lv_aload_n hx hb dL_store_259 rfl (lv_at hl 1 rfl) ?_
        refine lv_iload hx hb dL_store_260 (lv_at hl 7 rfl) ?_
        refine ri_iconst hx hb dL_store_262 ?_
        refine co_r (As := [.int (iI b), .int (iI 1)]) (rest := [.int (iI 4), .int (iI 400)]) hx hb (hml.trans hl.1.symm) hown hts w lk_RL_67 (t_X5_block l g c0 na be tr sn x h o T T1 T2 T3 K z P C N B b 1 hW hC (by omega) (by omega)) hrv rfl rfl (Nat.le_of_ble_eq_true rfl) ⟨Nat.le_of_ble_eq_true rfl, Nat.le_of_ble_eq_true rfl⟩ ⟨Nat.le_of_ble_eq_true rfl, Nat.le_of_ble_eq_true rfl⟩ dL_store_263 ?_
        rw [cb_1 (by omega)]
        refine ri_imul (z := 4 * B 0 (4 * b + 42)) hx hb dL_store_266 (by omega) ?_
        refine ri_isub (z := 400 - 4 * B 0 (4 * b + 42)) hx hb dL_store_267 (by omega) ?_
        refine lv_goto (tgt := 306) hx hb dL_store_268 (by decide) ?_
        refine lv_istore (lv' := [(11, .int (iI (400 - 4 * B 0 (4 * b + 42)))), (10, .int (iI 0)), (0, .ref c0), (1, .int (iI pl)), (2, .int (iI fr)), (3, .int (iI mo)), (4, .int (iI (B 0 6))), (5, .int (iI 1)), (6, .int (iI b)), (7, .int (iI (r_cnt (B 0) b 0))), (8, .int (iI (r_cnt (B 0) b (-2)))), (9, .int (iI (r_great (B 0) b)))]) hx hb dL_store_306 hl (by decide) rfl (fun ls hl => ?_)
        refine lv_iload hx hb dL_store_308 (lv_at hl 0 rfl) ?_
        refine ri_bipush hx hb dL_store_310 (by decide) ?_
        refine ri_icmp_ge (tgt := 320) hx hb dL_store_312 (by decide) (by omega) (by omega) (fun c66 => ?_) (fun c66 => ?_)
        · refine lv_iload hx hb dL_store_320 (lv_at hl 0 rfl) ?_
          rw [show 400 - 4 * B 0 (4 * b + 42) = r_bears (B 0) b from by unfold r_bears r_cut; omega]
          exact J322 ls (lv_sub hl [2, 3, 4, 5, 6, 7, 8, 9, 10, 11] rfl)
        · refine ri_bipush hx hb dL_store_315 (by decide) ?_
          refine lv_goto (tgt := 322) hx hb dL_store_317 (by decide) ?_
          rw [show 20 = r_bears (B 0) b from by unfold r_bears r_cut; omega]
          exact J322 ls (lv_sub hl [2, 3, 4, 5, 6, 7, 8, 9, 10, 11] rfl)
      · by_cases h1 : B 0 (4 * b + 41) = 1
        · have hkd := h1
          refine lv_aload_n hx hb dL_store_241 rfl (lv_at hl 0 rfl) ?_
          refine lv_iload hx hb dL_store_242 (lv_at hl 6 rfl) ?_
          refine ri_iconst hx hb dL_store_244 ?_
          refine co_r (As := [.int (iI b), .int (iI 0)]) (rest := []) hx hb (hml.trans hl.1.symm) hown hts w lk_RL_67 (t_X5_block l g c0 na be tr sn x h o T T1 T2 T3 K z P C N B b 0 hW hC (by omega) (by omega)) hrv rfl rfl (Nat.le_of_ble_eq_true rfl) ⟨Nat.le_of_ble_eq_true rfl, Nat.le_of_ble_eq_true rfl⟩ ⟨Nat.le_of_ble_eq_true rfl, Nat.le_of_ble_eq_true rfl⟩ dL_store_245 ?_
          rw [cb_0 (by omega), hkd]
          refine lv_istore (lv' := [(10, .int (iI 1)), (0, .ref c0), (1, .int (iI pl)), (2, .int (iI fr)), (3, .int (iI mo)), (4, .int (iI (B 0 6))), (5, .int (iI 1)), (6, .int (iI b)), (7, .int (iI (r_cnt (B 0) b 0))), (8, .int (iI (r_cnt (B 0) b (-2)))), (9, .int (iI (r_great (B 0) b)))]) hx hb dL_store_248 hl (by decide) rfl (fun ls hl => ?_)
          refine lv_iload hx hb dL_store_250 (lv_at hl 0 rfl) ?_
          refine ri_if_ne (tgt := 271) hx hb dL_store_252 (by decide) (by omega) (fun c67 => ?_) (fun c67 => ?_)
          · refine lv_iload hx hb dL_store_271 (lv_at hl 0 rfl) ?_
            refine ri_iconst hx hb dL_store_273 ?_
            refine ri_icmp_ne (tgt := 293) hx hb dL_store_274 (by decide) (by omega) (by omega) (fun c68 => ?_) (fun c68 => ?_)
            · exact absurd c68 (by omega)
            refine ri_sipush hx hb dL_store_277 (by decide) ?_
            refine ri_iconst hx hb dL_store_280 ?_
            refine lv_aload_n hx hb dL_store_281 rfl (lv_at hl 1 rfl) ?_
            refine lv_iload hx hb dL_store_282 (lv_at hl 7 rfl) ?_
            refine ri_iconst hx hb dL_store_284 ?_
            refine co_r (As := [.int (iI b), .int (iI 1)]) (rest := [.int (iI 5), .int (iI 200)]) hx hb (hml.trans hl.1.symm) hown hts w lk_RL_67 (t_X5_block l g c0 na be tr sn x h o T T1 T2 T3 K z P C N B b 1 hW hC (by omega) (by omega)) hrv rfl rfl (Nat.le_of_ble_eq_true rfl) ⟨Nat.le_of_ble_eq_true rfl, Nat.le_of_ble_eq_true rfl⟩ ⟨Nat.le_of_ble_eq_true rfl, Nat.le_of_ble_eq_true rfl⟩ dL_store_285 ?_
            rw [cb_1 (by omega)]
            refine ri_imul (z := 5 * B 0 (4 * b + 42)) hx hb dL_store_288 (by omega) ?_
            refine ri_isub (z := 200 - 5 * B 0 (4 * b + 42)) hx hb dL_store_289 (by omega) ?_
            refine lv_goto (tgt := 306) hx hb dL_store_290 (by decide) ?_
            refine lv_istore (lv' := [(11, .int (iI (200 - 5 * B 0 (4 * b + 42)))), (10, .int (iI 1)), (0, .ref c0), (1, .int (iI pl)), (2, .int (iI fr)), (3, .int (iI mo)), (4, .int (iI (B 0 6))), (5, .int (iI 1)), (6, .int (iI b)), (7, .int (iI (r_cnt (B 0) b 0))), (8, .int (iI (r_cnt (B 0) b (-2)))), (9, .int (iI (r_great (B 0) b)))]) hx hb dL_store_306 hl (by decide) rfl (fun ls hl => ?_)
            refine lv_iload hx hb dL_store_308 (lv_at hl 0 rfl) ?_
            refine ri_bipush hx hb dL_store_310 (by decide) ?_
            refine ri_icmp_ge (tgt := 320) hx hb dL_store_312 (by decide) (by omega) (by omega) (fun c69 => ?_) (fun c69 => ?_)
            · refine lv_iload hx hb dL_store_320 (lv_at hl 0 rfl) ?_
              rw [show 200 - 5 * B 0 (4 * b + 42) = r_bears (B 0) b from by unfold r_bears r_cut; omega]
              exact J322 ls (lv_sub hl [2, 3, 4, 5, 6, 7, 8, 9, 10, 11] rfl)
            · refine ri_bipush hx hb dL_store_315 (by decide) ?_
              refine lv_goto (tgt := 322) hx hb dL_store_317 (by decide) ?_
              rw [show 20 = r_bears (B 0) b from by unfold r_bears r_cut; omega]
              exact J322 ls (lv_sub hl [2, 3, 4, 5, 6, 7, 8, 9, 10, 11] rfl)
          · exact absurd c67 (by omega)
        · have hkd : B 0 (4 * b + 41) = 2 := by omega
          refine lv_aload_n hx hb dL_store_241 rfl (lv_at hl 0 rfl) ?_
          refine lv_iload hx hb dL_store_242 (lv_at hl 6 rfl) ?_
          refine ri_iconst hx hb dL_store_244 ?_
          refine co_r (As := [.int (iI b), .int (iI 0)]) (rest := []) hx hb (hml.trans hl.1.symm) hown hts w lk_RL_67 (t_X5_block l g c0 na be tr sn x h o T T1 T2 T3 K z P C N B b 0 hW hC (by omega) (by omega)) hrv rfl rfl (Nat.le_of_ble_eq_true rfl) ⟨Nat.le_of_ble_eq_true rfl, Nat.le_of_ble_eq_true rfl⟩ ⟨Nat.le_of_ble_eq_true rfl, Nat.le_of_ble_eq_true rfl⟩ dL_store_245 ?_
          rw [cb_0 (by omega), hkd]
          refine lv_istore (lv' := [(10, .int (iI 2)), (0, .ref c0), (1, .int (iI pl)), (2, .int (iI fr)), (3, .int (iI mo)), (4, .int (iI (B 0 6))), (5, .int (iI 1)), (6, .int (iI b)), (7, .int (iI (r_cnt (B 0) b 0))), (8, .int (iI (r_cnt (B 0) b (-2)))), (9, .int (iI (r_great (B 0) b)))]) hx hb dL_store_248 hl (by decide) rfl (fun ls hl => ?_)
          refine lv_iload hx hb dL_store_250 (lv_at hl 0 rfl) ?_
          refine ri_if_ne (tgt := 271) hx hb dL_store_252 (by decide) (by omega) (fun c70 => ?_) (fun c70 => ?_)
          · refine lv_iload hx hb dL_store_271 (lv_at hl 0 rfl) ?_
            refine ri_iconst hx hb dL_store_273 ?_
            refine ri_icmp_ne (tgt := 293) hx hb dL_store_274 (by decide) (by omega) (by omega) (fun c71 => ?_) (fun c71 => ?_)
            · refine ri_bipush hx hb dL_store_293 (by decide) ?_
              refine ri_bipush hx hb dL_store_295 (by decide) ?_
              refine lv_aload_n hx hb dL_store_297 rfl (lv_at hl 1 rfl) ?_
              refine lv_iload hx hb dL_store_298 (lv_at hl 7 rfl) ?_
              refine ri_iconst hx hb dL_store_300 ?_
              refine co_r (As := [.int (iI b), .int (iI 1)]) (rest := [.int (iI 10), .int (iI 100)]) hx hb (hml.trans hl.1.symm) hown hts w lk_RL_67 (t_X5_block l g c0 na be tr sn x h o T T1 T2 T3 K z P C N B b 1 hW hC (by omega) (by omega)) hrv rfl rfl (Nat.le_of_ble_eq_true rfl) ⟨Nat.le_of_ble_eq_true rfl, Nat.le_of_ble_eq_true rfl⟩ ⟨Nat.le_of_ble_eq_true rfl, Nat.le_of_ble_eq_true rfl⟩ dL_store_301 ?_
              rw [cb_1 (by omega)]
              refine ri_imul (z := 10 * B 0 (4 * b + 42)) hx hb dL_store_304 (by omega) ?_
              refine ri_isub (z := 100 - 10 * B 0 (4 * b + 42)) hx hb dL_store_305 (by omega) ?_
              refine lv_istore (lv' := [(11, .int (iI (100 - 10 * B 0 (4 * b + 42)))), (10, .int (iI 2)), (0, .ref c0), (1, .int (iI pl)), (2, .int (iI fr)), (3, .int (iI mo)), (4, .int (iI (B 0 6))), (5, .int (iI 1)), (6, .int (iI b)), (7, .int (iI (r_cnt (B 0) b 0))), (8, .int (iI (r_cnt (B 0) b (-2)))), (9, .int (iI (r_great (B 0) b)))]) hx hb dL_store_306 hl (by decide) rfl (fun ls hl => ?_)
              refine lv_iload hx hb dL_store_308 (lv_at hl 0 rfl) ?_
              refine ri_bipush hx hb dL_store_310 (by decide) ?_
              refine ri_icmp_ge (tgt := 320) hx hb dL_store_312 (by decide) (by omega) (by omega) (fun c72 => ?_) (fun c72 => ?_)
              · refine lv_iload hx hb dL_store_320 (lv_at hl 0 rfl) ?_
                rw [show 100 - 10 * B 0 (4 * b + 42) = r_bears (B 0) b from by unfold r_bears r_cut; omega]
                exact J322 ls (lv_sub hl [2, 3, 4, 5, 6, 7, 8, 9, 10, 11] rfl)
              · refine ri_bipush hx hb dL_store_315 (by decide) ?_
                refine lv_goto (tgt := 322) hx hb dL_store_317 (by decide) ?_
                rw [show 20 = r_bears (B 0) b from by unfold r_bears r_cut; omega]
                exact J322 ls (lv_sub hl [2, 3, 4, 5, 6, 7, 8, 9, 10, 11] rfl)
            · exact absurd c71 (by omega)
          · exact absurd c70 (by omega)
  refine ri_iconst hx hb dL_store_0 ?_
  refine lv_istore_n (lv' := [(1, .int (iI 0)), (0, .ref c0)]) hx hb dL_store_1 rfl hl (by decide) rfl (fun ls hl => ?_)
  refine ri_iconst hx hb dL_store_2 ?_
  refine lv_istore_n (lv' := [(2, .int (iI 0)), (1, .int (iI 0)), (0, .ref c0)]) hx hb dL_store_3 rfl hl (by decide) rfl (fun ls hl => ?_)
  refine ri_iconst hx hb dL_store_4 ?_
  refine lv_istore_n (lv' := [(3, .int (iI 0)), (2, .int (iI 0)), (1, .int (iI 0)), (0, .ref c0)]) hx hb dL_store_5 rfl hl (by decide) rfl (fun ls hl => ?_)
  refine lv_aload_n hx hb dL_store_6 rfl (lv_at hl 3 rfl) ?_
  refine ri_iconst hx hb dL_store_7 ?_
  refine co_r (As := [.int (iI 3)]) (rest := []) hx hb (hml.trans hl.1.symm) hown hts w lk_RL_57 (t_X5_count l g c0 na be tr sn x h o T T1 T2 T3 K z P C N B 3 hW hC (by omega)) hrv rfl rfl (Nat.le_of_ble_eq_true rfl) ⟨Nat.le_of_ble_eq_true rfl, Nat.le_of_ble_eq_true rfl⟩ ⟨Nat.le_of_ble_eq_true rfl, Nat.le_of_ble_eq_true rfl⟩ dL_store_8 ?_
  rw [cc_3]
  refine lv_istore (lv' := [(4, .int (iI (B 0 6))), (3, .int (iI 0)), (2, .int (iI 0)), (1, .int (iI 0)), (0, .ref c0)]) hx hb dL_store_11 hl (by decide) rfl (fun ls hl => ?_)
  refine ri_iconst hx hb dL_store_13 ?_
  refine lv_istore (lv' := [(5, .int (iI 1)), (4, .int (iI (B 0 6))), (3, .int (iI 0)), (2, .int (iI 0)), (1, .int (iI 0)), (0, .ref c0)]) hx hb dL_store_14 hl (by decide) rfl (fun ls hl => ?_)
  refine ri_iconst hx hb dL_store_16 ?_
  refine lv_istore (lv' := [(6, .int (iI 0)), (5, .int (iI 1)), (4, .int (iI (B 0 6))), (3, .int (iI 0)), (2, .int (iI 0)), (1, .int (iI 0)), (0, .ref c0)]) hx hb dL_store_17 hl (by decide) rfl (fun ls hl => ?_)
  exact L19 6 0 0 0 0 (by omega) (by omega) rfl rfl rfl (by omega) ls (lv_sub hl [6, 5, 4, 3, 2, 1, 0] rfl)
