set_option maxHeartbeats 4000000 in
set_option maxRecDepth 100000 in
theorem t_L_act (l : Launch) (g : GG) (c0 : Nat) (na be tr sn x : Nat → Nat) (h : Nat → Nat → Nat) (o : Nat → Nat) (T T1 T2 T3 : Nat → Int → Int) (K : Nat → Nat → Int → Int) (z : Int) (P : Nat → Int → Int) (C : Nat → Int) (N : Int) (B : Nat → Int → Int) (sb L : Nat) (xs : Nat → Int32) (k : Int) (hW : WB N B) (hC : RelC B T T3 K z P C) (hN : N + 210000 ≤ 200000000) (hk : 0 ≤ k ∧ k ≤ 5000) (hL : L ≤ 2048) (sz : Nat) : Met l yL_act (wm yL_act cL_act 5 (some .int)) (rmm 9 0 0) (pA g (wp_ws g c0 na be tr sn x h o T T1 T2 T3 K z P C) sz sb L xs [.ref c0, .ref sb, .int (iI k)]) (qW g (wp_ws g c0 na be tr sn x h o T T1 T2 T3 K z P C) (fun vv ww => vv = some (.int (iI (a_act B (x_low (x_cell L xs k) 16) (x_cell L xs (k + 1)) (x_cell L xs (k + 2))).1)) ∧ ∃ (h' : Nat → Nat → Nat) (T' T1' T2' T3' : Nat → Int → Int) (K' : Nat → Nat → Int → Int) (z' : Int) (P' : Nat → Int → Int) (C' : Nat → Int), ww = wp_ws g c0 na be tr sn x h' o T' T1' T2' T3' K' z' P' C' ∧ RelC (a_act B (x_low (x_cell L xs k) 16) (x_cell L xs (k + 1)) (x_cell L xs (k + 2))).2 T' T3' K' z' P' C')) 0 0 (va_A (wp_ws g c0 na be tr sn x h o T T1 T2 T3 K z P C) sz) := by
  refine met_a (by decide) (Nat.le_of_ble_eq_true rfl) ?_
  intro p e s m args below meth c Q ls A hx hb hml hown hts hl w hX hbl hbA hend
  have hl : lv_has ls 5 [(0, .ref c0), (1, .ref sb), (2, .int (iI k))] := hl
  have hrv : ∃ cell : Cell, s.heap[c0]? = some cell ∧ cell.vm.isStatics = false ∧ s.vm.findClass yX5_count.cls = some cell.cls := call_recv w (q0 := 0) rfl fX5.1
  have hra := cell_rg L xs (k + 1)
  have hrb := cell_rg L xs (k + 2)
  have hrt := cell_rg L xs k
  obtain ⟨a, ha⟩ : ∃ v, v = x_cell L xs (k + 1) := ⟨_, rfl⟩
  obtain ⟨b, hbb⟩ : ∃ v, v = x_cell L xs (k + 2) := ⟨_, rfl⟩
  obtain ⟨t, ht⟩ : ∃ v, v = x_low (x_cell L xs k) 16 := ⟨_, rfl⟩
  have htr : 0 ≤ t ∧ t < 16 := by rw [ht]; exact low_lt _ (by omega)
  have a14 := low_lt a (n := 14) (by omega)
  have a6 := low_lt a (n := 6) (by omega)
  have a5 := low_lt a (n := 5) (by omega)
  have b30 := low_lt b (n := 30) (by omega)
  have b91 := low_lt b (n := 91) (by omega)
  have b60 := low_lt b (n := 60) (by omega)
  have b2 := low_lt b (n := 2) (by omega)
  have b3 := low_lt b (n := 3) (by omega)
  rw [← ha, ← hbb, ← ht] at hend
  have J100 : t < 4 → ∀ ls : Array Slot, lv_has ls 5 [(3, .int (iI a)), (4, .int (iI b)), (0, .ref c0)] → W p l e (rmm 9 0 0) s m args below meth c s.heap [] 0 0 Q (F0 m 100 ls []) := by
    intro ht0 ls hl
    refine lv_aload_n hx hb dL_act_100 rfl (lv_at hl 2 rfl) ?_
    refine lv_iload_n hx hb dL_act_101 rfl (lv_at hl 0 rfl) ?_
    refine ri_bipush hx hb dL_act_102 (by decide) ?_
    refine cn_r (As := [.int (iI a), .int (iI 14)]) (rest := [.ref c0]) hx hb (hml.trans hl.1.symm) hown hts w lk_RL_15 (t_L_low l g a 14 (by omega)) rfl rfl (Nat.le_of_ble_eq_true rfl) ⟨Nat.le_of_ble_eq_true rfl, Nat.le_of_ble_eq_true rfl⟩ ⟨Nat.le_of_ble_eq_true rfl, Nat.le_of_ble_eq_true rfl⟩ dL_act_104 ?_
    refine co_w (As := [.int (iI (x_low a 14))]) (rest := []) hx hb (hml.trans hl.1.symm) hown hts w lk_RL_19 (fun sz => t_X5_write l g c0 na be tr sn x h o T T1 T2 T3 K z P C N B (x_low a 14) hW hC (by omega) sz) hrv rfl rfl (Nat.le_of_ble_eq_true rfl) ⟨Nat.le_of_ble_eq_true rfl, Nat.le_of_ble_eq_true rfl⟩ ⟨Nat.le_of_ble_eq_true rfl, Nat.le_of_ble_eq_true rfl⟩ dL_act_107 (fun vv w1 H locs hr w => ?_)
    obtain ⟨rfl, hr2⟩ := hr
    have e8 : a_act B t a b = c_write B (x_low a 14) := by unfold a_act; rw [if_pos (by omega)]
    exact hend _ _ _ _ ⟨_, rfl, rfl⟩ _ _ dL_act_110 w (by rw [e8]; exact ⟨rfl, hr2⟩)
  have J111 : 4 ≤ t ∧ t < 8 → ∀ ls : Array Slot, lv_has ls 5 [(3, .int (iI a)), (4, .int (iI b)), (0, .ref c0)] → W p l e (rmm 9 0 0) s m args below meth c s.heap [] 0 0 Q (F0 m 111 ls []) := by
    intro ht0 ls hl
    refine lv_aload_n hx hb dL_act_111 rfl (lv_at hl 2 rfl) ?_
    refine lv_iload_n hx hb dL_act_112 rfl (lv_at hl 0 rfl) ?_
    refine ri_bipush hx hb dL_act_113 (by decide) ?_
    refine cn_r (As := [.int (iI a), .int (iI 14)]) (rest := [.ref c0]) hx hb (hml.trans hl.1.symm) hown hts w lk_RL_15 (t_L_low l g a 14 (by omega)) rfl rfl (Nat.le_of_ble_eq_true rfl) ⟨Nat.le_of_ble_eq_true rfl, Nat.le_of_ble_eq_true rfl⟩ ⟨Nat.le_of_ble_eq_true rfl, Nat.le_of_ble_eq_true rfl⟩ dL_act_115 ?_
    refine co_w (As := [.int (iI (x_low a 14))]) (rest := []) hx hb (hml.trans hl.1.symm) hown hts w lk_RL_25 (fun sz => t_X5_read l g c0 na be tr sn x h o T T1 T2 T3 K z P C N B (x_low a 14) hW hC (by omega) (by omega) sz) hrv rfl rfl (Nat.le_of_ble_eq_true rfl) ⟨Nat.le_of_ble_eq_true rfl, Nat.le_of_ble_eq_true rfl⟩ ⟨Nat.le_of_ble_eq_true rfl, Nat.le_of_ble_eq_true rfl⟩ dL_act_118 (fun vv w1 H locs hr w => ?_)
    obtain ⟨rfl, hr2⟩ := hr
    have e8 : a_act B t a b = c_read B (x_low a 14) := by unfold a_act; rw [if_neg (by omega), if_pos (by omega)]
    exact hend _ _ _ _ ⟨_, rfl, rfl⟩ _ _ dL_act_121 w (by rw [e8]; exact ⟨rfl, hr2⟩)
  have J122 : t = 8 → ∀ ls : Array Slot, lv_has ls 5 [(3, .int (iI a)), (4, .int (iI b)), (0, .ref c0)] → W p l e (rmm 9 0 0) s m args below meth c s.heap [] 0 0 Q (F0 m 122 ls []) := by
    intro ht0 ls hl
    refine lv_aload_n hx hb dL_act_122 rfl (lv_at hl 2 rfl) ?_
    refine lv_iload_n hx hb dL_act_123 rfl (lv_at hl 0 rfl) ?_
    refine ri_bipush hx hb dL_act_124 (by decide) ?_
    refine cn_r (As := [.int (iI a), .int (iI 14)]) (rest := [.ref c0]) hx hb (hml.trans hl.1.symm) hown hts w lk_RL_15 (t_L_low l g a 14 (by omega)) rfl rfl (Nat.le_of_ble_eq_true rfl) ⟨Nat.le_of_ble_eq_true rfl, Nat.le_of_ble_eq_true rfl⟩ ⟨Nat.le_of_ble_eq_true rfl, Nat.le_of_ble_eq_true rfl⟩ dL_act_126 ?_
    refine co_w (As := [.int (iI (x_low a 14))]) (rest := []) hx hb (hml.trans hl.1.symm) hown hts w lk_RL_28 (fun sz => t_X5_forget l g c0 na be tr sn x h o T T1 T2 T3 K z P C N B (x_low a 14) hW hC (by omega) sz) hrv rfl rfl (Nat.le_of_ble_eq_true rfl) ⟨Nat.le_of_ble_eq_true rfl, Nat.le_of_ble_eq_true rfl⟩ ⟨Nat.le_of_ble_eq_true rfl, Nat.le_of_ble_eq_true rfl⟩ dL_act_129 (fun vv w1 H locs hr w => ?_)
    obtain ⟨rfl, hr2⟩ := hr
    have e8 : a_act B t a b = c_forget B (x_low a 14) := by unfold a_act; rw [if_neg (by omega), if_neg (by omega), if_pos (by omega)]
    exact hend _ _ _ _ ⟨_, rfl, rfl⟩ _ _ dL_act_132 w (by rw [e8]; exact ⟨rfl, hr2⟩)
  have J133 : t = 9 → ∀ ls : Array Slot, lv_has ls 5 [(3, .int (iI a)), (4, .int (iI b)), (0, .ref c0)] → W p l e (rmm 9 0 0) s m args below meth c s.heap [] 0 0 Q (F0 m 133 ls []) := by
    intro ht0 ls hl
    refine lv_aload_n hx hb dL_act_133 rfl (lv_at hl 2 rfl) ?_
    refine lv_iload_n hx hb dL_act_134 rfl (lv_at hl 0 rfl) ?_
    refine ri_bipush hx hb dL_act_135 (by decide) ?_
    refine cn_r (As := [.int (iI a), .int (iI 6)]) (rest := [.ref c0]) hx hb (hml.trans hl.1.symm) hown hts w lk_RL_15 (t_L_low l g a 6 (by omega)) rfl rfl (Nat.le_of_ble_eq_true rfl) ⟨Nat.le_of_ble_eq_true rfl, Nat.le_of_ble_eq_true rfl⟩ ⟨Nat.le_of_ble_eq_true rfl, Nat.le_of_ble_eq_true rfl⟩ dL_act_137 ?_
    refine co_w (As := [.int (iI (x_low a 6))]) (rest := []) hx hb (hml.trans hl.1.symm) hown hts w lk_RL_31 (fun sz => t_X5_moveBlock l g c0 na be tr sn x h o T T1 T2 T3 K z P C N B (x_low a 6) hW hC (by omega) (by omega) sz) hrv rfl rfl (Nat.le_of_ble_eq_true rfl) ⟨Nat.le_of_ble_eq_true rfl, Nat.le_of_ble_eq_true rfl⟩ ⟨Nat.le_of_ble_eq_true rfl, Nat.le_of_ble_eq_true rfl⟩ dL_act_140 (fun vv w1 H locs hr w => ?_)
    obtain ⟨rfl, hr2⟩ := hr
    have e8 : a_act B t a b = c_moveBlock B (x_low a 6) := by unfold a_act; rw [if_neg (by omega), if_neg (by omega), if_neg (by omega), if_pos (by omega)]
    exact hend _ _ _ _ ⟨_, rfl, rfl⟩ _ _ dL_act_143 w (by rw [e8]; exact ⟨rfl, hr2⟩)
  have J144 : t = 10 ∨ t = 11 → ∀ ls : Array Slot, lv_has ls 5 [(3, .int (iI a)), (4, .int (iI b)), (0, .ref c0)] → W p l e (rmm 9 0 0) s m args below meth c s.heap [] 0 0 Q (F0 m 144 ls []) := by
    intro ht0 ls hl
    refine lv_aload_n hx hb dL_act_144 rfl (lv_at hl 2 rfl) ?_
    refine ri_iconst hx hb dL_act_145 ?_
    refine lv_iload hx hb dL_act_146 (lv_at hl 1 rfl) ?_
    refine ri_bipush hx hb dL_act_148 (by decide) ?_
    refine cn_r (As := [.int (iI b), .int (iI 30)]) (rest := [.int (iI 1), .ref c0]) hx hb (hml.trans hl.1.symm) hown hts w lk_RL_15 (t_L_low l g b 30 (by omega)) rfl rfl (Nat.le_of_ble_eq_true rfl) ⟨Nat.le_of_ble_eq_true rfl, Nat.le_of_ble_eq_true rfl⟩ ⟨Nat.le_of_ble_eq_true rfl, Nat.le_of_ble_eq_true rfl⟩ dL_act_150 ?_
    refine ri_iadd (z := x_low b 30 + 1) hx hb dL_act_153 (by omega) ?_
    refine co_w (As := [.int (iI (x_low b 30 + 1))]) (rest := []) hx hb (hml.trans hl.1.symm) hown hts w lk_RL_34 (fun sz => t_X5_pass l g c0 na be tr sn x h o T T1 T2 T3 K z P C N B (x_low b 30 + 1) hW hC (by omega) (by omega) sz) hrv rfl rfl (Nat.le_of_ble_eq_true rfl) ⟨Nat.le_of_ble_eq_true rfl, Nat.le_of_ble_eq_true rfl⟩ ⟨Nat.le_of_ble_eq_true rfl, Nat.le_of_ble_eq_true rfl⟩ dL_act_154 (fun vv w1 H locs hr w => ?_)
    obtain ⟨rfl, hr2⟩ := hr
    have e8 : a_act B t a b = c_pass B (x_low b 30 + 1) := by unfold a_act; rw [if_neg (by omega), if_neg (by omega), if_neg (by omega), if_neg (by omega), if_pos (by omega), show 1 + x_low b 30 = x_low b 30 + 1 from by omega]
    exact hend _ _ _ _ ⟨_, rfl, rfl⟩ _ _ dL_act_157 w (by rw [e8]; exact ⟨rfl, hr2⟩)
  have J158 : t = 12 → ∀ ls : Array Slot, lv_has ls 5 [(3, .int (iI a)), (4, .int (iI b)), (0, .ref c0)] → W p l e (rmm 9 0 0) s m args below meth c s.heap [] 0 0 Q (F0 m 158 ls []) := by
    intro ht0 ls hl
    refine lv_aload_n hx hb dL_act_158 rfl (lv_at hl 2 rfl) ?_
    refine lv_iload_n hx hb dL_act_159 rfl (lv_at hl 0 rfl) ?_
    refine ri_bipush hx hb dL_act_160 (by decide) ?_
    refine cn_r (As := [.int (iI a), .int (iI 6)]) (rest := [.ref c0]) hx hb (hml.trans hl.1.symm) hown hts w lk_RL_15 (t_L_low l g a 6 (by omega)) rfl rfl (Nat.le_of_ble_eq_true rfl) ⟨Nat.le_of_ble_eq_true rfl, Nat.le_of_ble_eq_true rfl⟩ ⟨Nat.le_of_ble_eq_true rfl, Nat.le_of_ble_eq_true rfl⟩ dL_act_162 ?_
    refine lv_iload hx hb dL_act_165 (lv_at hl 1 rfl) ?_
    refine ri_iconst hx hb dL_act_167 ?_
    refine cn_r (As := [.int (iI b), .int (iI 2)]) (rest := [.int (iI (x_low a 6)), .ref c0]) hx hb (hml.trans hl.1.symm) hown hts w lk_RL_15 (t_L_low l g b 2 (by omega)) rfl rfl (Nat.le_of_ble_eq_true rfl) ⟨Nat.le_of_ble_eq_true rfl, Nat.le_of_ble_eq_true rfl⟩ ⟨Nat.le_of_ble_eq_true rfl, Nat.le_of_ble_eq_true rfl⟩ dL_act_168 ?_
    refine ri_if_ne (tgt := 178) hx hb dL_act_171 (by decide) (by omega) (fun c1 => ?_) (fun c1 => ?_)
    · refine ri_iconst hx hb dL_act_178 ?_
      refine co_w (As := [.int (iI (x_low a 6)), .int (iI 0)]) (rest := []) hx hb (hml.trans hl.1.symm) hown hts w lk_RL_37 (fun sz => t_X5_mark l g c0 na be tr sn x h o T T1 T2 T3 K z P C N B (x_low a 6) 0 hW hC (by omega) (by omega) sz) hrv rfl rfl (Nat.le_of_ble_eq_true rfl) ⟨Nat.le_of_ble_eq_true rfl, Nat.le_of_ble_eq_true rfl⟩ ⟨Nat.le_of_ble_eq_true rfl, Nat.le_of_ble_eq_true rfl⟩ dL_act_179 (fun vv w1 H locs hr w => ?_)
      obtain ⟨rfl, hr2⟩ := hr
      have e7 : (if x_low b 2 = 0 then (1 : Int) else 0) = 0 := by omega
      have e8 : a_act B t a b = c_mark B (x_low a 6) 0 := by unfold a_act; rw [if_neg (by omega), if_neg (by omega), if_neg (by omega), if_neg (by omega), if_neg (by omega), if_pos (by omega), e7]
      exact hend _ _ _ _ ⟨_, rfl, rfl⟩ _ _ dL_act_182 w (by rw [e8]; exact ⟨rfl, hr2⟩)
    · refine ri_iconst hx hb dL_act_174 ?_
      refine lv_goto (tgt := 179) hx hb dL_act_175 (by decide) ?_
      refine co_w (As := [.int (iI (x_low a 6)), .int (iI 1)]) (rest := []) hx hb (hml.trans hl.1.symm) hown hts w lk_RL_37 (fun sz => t_X5_mark l g c0 na be tr sn x h o T T1 T2 T3 K z P C N B (x_low a 6) 1 hW hC (by omega) (by omega) sz) hrv rfl rfl (Nat.le_of_ble_eq_true rfl) ⟨Nat.le_of_ble_eq_true rfl, Nat.le_of_ble_eq_true rfl⟩ ⟨Nat.le_of_ble_eq_true rfl, Nat.le_of_ble_eq_true rfl⟩ dL_act_179 (fun vv w1 H locs hr w => ?_)
      obtain ⟨rfl, hr2⟩ := hr
      have e7 : (if x_low b 2 = 0 then (1 : Int) else 0) = 1 := by omega
      have e8 : a_act B t a b = c_mark B (x_low a 6) 1 := by unfold a_act; rw [if_neg (by omega), if_neg (by omega), if_neg (by omega), if_neg (by omega), if_neg (by omega), if_pos (by omega), e7]
      exact hend _ _ _ _ ⟨_, rfl, rfl⟩ _ _ dL_act_182 w (by rw [e8]; exact ⟨rfl, hr2⟩)
  have J183 : t = 13 → ∀ ls : Array Slot, lv_has ls 5 [(3, .int (iI a)), (4, .int (iI b)), (0, .ref c0)] → W p l e (rmm 9 0 0) s m args below meth c s.heap [] 0 0 Q (F0 m 183 ls []) := by
    intro ht0 ls hl
    refine lv_aload_n hx hb dL_act_183 rfl (lv_at hl 2 rfl) ?_
    refine lv_iload_n hx hb dL_act_184 rfl (lv_at hl 0 rfl) ?_
    refine ri_iconst hx hb dL_act_185 ?_
    refine cn_r (As := [.int (iI a), .int (iI 5)]) (rest := [.ref c0]) hx hb (hml.trans hl.1.symm) hown hts w lk_RL_15 (t_L_low l g a 5 (by omega)) rfl rfl (Nat.le_of_ble_eq_true rfl) ⟨Nat.le_of_ble_eq_true rfl, Nat.le_of_ble_eq_true rfl⟩ ⟨Nat.le_of_ble_eq_true rfl, Nat.le_of_ble_eq_true rfl⟩ dL_act_186 ?_
    refine lv_iload_n hx hb dL_act_189 rfl (lv_at hl 0 rfl) ?_
    refine ri_iconst hx hb dL_act_190 ?_
    refine cn_r (As := [.int (iI a), .int (iI 5)]) (rest := [.int (iI (x_low a 5)), .ref c0]) hx hb (hml.trans hl.1.symm) hown hts w lk_RL_15 (t_L_low l g a 5 (by omega)) rfl rfl (Nat.le_of_ble_eq_true rfl) ⟨Nat.le_of_ble_eq_true rfl, Nat.le_of_ble_eq_true rfl⟩ ⟨Nat.le_of_ble_eq_true rfl, Nat.le_of_ble_eq_true rfl⟩ dL_act_191 ?_
    refine ri_if_ne (tgt := 210) hx hb dL_act_194 (by decide) (by omega) (fun c2 => ?_) (fun c2 => ?_)
    · refine lv_iload_n hx hb dL_act_210 rfl (lv_at hl 0 rfl) ?_
      refine ri_iconst hx hb dL_act_211 ?_
      refine cn_r (As := [.int (iI a), .int (iI 5)]) (rest := [.int (iI (x_low a 5)), .ref c0]) hx hb (hml.trans hl.1.symm) hown hts w lk_RL_15 (t_L_low l g a 5 (by omega)) rfl rfl (Nat.le_of_ble_eq_true rfl) ⟨Nat.le_of_ble_eq_true rfl, Nat.le_of_ble_eq_true rfl⟩ ⟨Nat.le_of_ble_eq_true rfl, Nat.le_of_ble_eq_true rfl⟩ dL_act_212 ?_
      refine ri_iconst hx hb dL_act_215 ?_
      refine ri_icmp_ne (tgt := 231) hx hb dL_act_216 (by decide) (by omega) (by omega) (fun c3 => ?_) (fun c3 => ?_)
      · refine lv_iload hx hb dL_act_231 (lv_at hl 1 rfl) ?_
        refine ri_iconst hx hb dL_act_233 ?_
        refine cn_r (As := [.int (iI b), .int (iI 2)]) (rest := [.int (iI (x_low a 5)), .ref c0]) hx hb (hml.trans hl.1.symm) hown hts w lk_RL_15 (t_L_low l g b 2 (by omega)) rfl rfl (Nat.le_of_ble_eq_true rfl) ⟨Nat.le_of_ble_eq_true rfl, Nat.le_of_ble_eq_true rfl⟩ ⟨Nat.le_of_ble_eq_true rfl, Nat.le_of_ble_eq_true rfl⟩ dL_act_234 ?_
        refine co_w (As := [.int (iI (x_low a 5)), .int (iI (x_low b 2))]) (rest := []) hx hb (hml.trans hl.1.symm) hown hts w lk_RL_41 (fun sz => t_X5_set l g c0 na be tr sn x h o T T1 T2 T3 K z P C N B (x_low a 5) (x_low b 2) hW hC (by omega) (by omega) sz) hrv rfl rfl (Nat.le_of_ble_eq_true rfl) ⟨Nat.le_of_ble_eq_true rfl, Nat.le_of_ble_eq_true rfl⟩ ⟨Nat.le_of_ble_eq_true rfl, Nat.le_of_ble_eq_true rfl⟩ dL_act_237 (fun vv w1 H locs hr w => ?_)
        obtain ⟨rfl, hr2⟩ := hr
        have e7 : a_val a b = x_low b 2 := by unfold a_val; omega
        have e8 : a_act B t a b = c_set B (x_low a 5) (x_low b 2) := by unfold a_act; rw [if_neg (by omega), if_neg (by omega), if_neg (by omega), if_neg (by omega), if_neg (by omega), if_neg (by omega), if_pos (by omega), e7]
        exact hend _ _ _ _ ⟨_, rfl, rfl⟩ _ _ dL_act_240 w (by rw [e8]; exact ⟨rfl, hr2⟩)
      · refine ri_iconst hx hb dL_act_219 ?_
        refine lv_iload hx hb dL_act_220 (lv_at hl 1 rfl) ?_
        refine ri_bipush hx hb dL_act_222 (by decide) ?_
        refine cn_r (As := [.int (iI b), .int (iI 60)]) (rest := [.int (iI 1), .int (iI (x_low a 5)), .ref c0]) hx hb (hml.trans hl.1.symm) hown hts w lk_RL_15 (t_L_low l g b 60 (by omega)) rfl rfl (Nat.le_of_ble_eq_true rfl) ⟨Nat.le_of_ble_eq_true rfl, Nat.le_of_ble_eq_true rfl⟩ ⟨Nat.le_of_ble_eq_true rfl, Nat.le_of_ble_eq_true rfl⟩ dL_act_224 ?_
        refine ri_iadd (z := x_low b 60 + 1) hx hb dL_act_227 (by omega) ?_
        refine lv_goto (tgt := 237) hx hb dL_act_228 (by decide) ?_
        refine co_w (As := [.int (iI (x_low a 5)), .int (iI (x_low b 60 + 1))]) (rest := []) hx hb (hml.trans hl.1.symm) hown hts w lk_RL_41 (fun sz => t_X5_set l g c0 na be tr sn x h o T T1 T2 T3 K z P C N B (x_low a 5) (x_low b 60 + 1) hW hC (by omega) (by omega) sz) hrv rfl rfl (Nat.le_of_ble_eq_true rfl) ⟨Nat.le_of_ble_eq_true rfl, Nat.le_of_ble_eq_true rfl⟩ ⟨Nat.le_of_ble_eq_true rfl, Nat.le_of_ble_eq_true rfl⟩ dL_act_237 (fun vv w1 H locs hr w => ?_)
        obtain ⟨rfl, hr2⟩ := hr
        have e7 : a_val a b = x_low b 60 + 1 := by unfold a_val; omega
        have e8 : a_act B t a b = c_set B (x_low a 5) (x_low b 60 + 1) := by unfold a_act; rw [if_neg (by omega), if_neg (by omega), if_neg (by omega), if_neg (by omega), if_neg (by omega), if_neg (by omega), if_pos (by omega), e7]
        exact hend _ _ _ _ ⟨_, rfl, rfl⟩ _ _ dL_act_240 w (by rw [e8]; exact ⟨rfl, hr2⟩)
    · refine ri_bipush hx hb dL_act_197 (by decide) ?_
      refine lv_iload hx hb dL_act_199 (lv_at hl 1 rfl) ?_
      refine ri_bipush hx hb dL_act_201 (by decide) ?_
      refine cn_r (As := [.int (iI b), .int (iI 91)]) (rest := [.int (iI 10), .int (iI (x_low a 5)), .ref c0]) hx hb (hml.trans hl.1.symm) hown hts w lk_RL_15 (t_L_low l g b 91 (by omega)) rfl rfl (Nat.le_of_ble_eq_true rfl) ⟨Nat.le_of_ble_eq_true rfl, Nat.le_of_ble_eq_true rfl⟩ ⟨Nat.le_of_ble_eq_true rfl, Nat.le_of_ble_eq_true rfl⟩ dL_act_203 ?_
      refine ri_iadd (z := x_low b 91 + 10) hx hb dL_act_206 (by omega) ?_
      refine lv_goto (tgt := 237) hx hb dL_act_207 (by decide) ?_
      refine co_w (As := [.int (iI (x_low a 5)), .int (iI (x_low b 91 + 10))]) (rest := []) hx hb (hml.trans hl.1.symm) hown hts w lk_RL_41 (fun sz => t_X5_set l g c0 na be tr sn x h o T T1 T2 T3 K z P C N B (x_low a 5) (x_low b 91 + 10) hW hC (by omega) (by omega) sz) hrv rfl rfl (Nat.le_of_ble_eq_true rfl) ⟨Nat.le_of_ble_eq_true rfl, Nat.le_of_ble_eq_true rfl⟩ ⟨Nat.le_of_ble_eq_true rfl, Nat.le_of_ble_eq_true rfl⟩ dL_act_237 (fun vv w1 H locs hr w => ?_)
      obtain ⟨rfl, hr2⟩ := hr
      have e7 : a_val a b = x_low b 91 + 10 := by unfold a_val; omega
      have e8 : a_act B t a b = c_set B (x_low a 5) (x_low b 91 + 10) := by unfold a_act; rw [if_neg (by omega), if_neg (by omega), if_neg (by omega), if_neg (by omega), if_neg (by omega), if_neg (by omega), if_pos (by omega), e7]
      exact hend _ _ _ _ ⟨_, rfl, rfl⟩ _ _ dL_act_240 w (by rw [e8]; exact ⟨rfl, hr2⟩)
  have J241 : t = 14 → ∀ ls : Array Slot, lv_has ls 5 [(3, .int (iI a)), (4, .int (iI b)), (0, .ref c0)] → W p l e (rmm 9 0 0) s m args below meth c s.heap [] 0 0 Q (F0 m 241 ls []) := by
    intro ht0 ls hl
    refine lv_aload_n hx hb dL_act_241 rfl (lv_at hl 2 rfl) ?_
    refine lv_iload_n hx hb dL_act_242 rfl (lv_at hl 0 rfl) ?_
    refine ri_bipush hx hb dL_act_243 (by decide) ?_
    refine cn_r (As := [.int (iI a), .int (iI 6)]) (rest := [.ref c0]) hx hb (hml.trans hl.1.symm) hown hts w lk_RL_15 (t_L_low l g a 6 (by omega)) rfl rfl (Nat.le_of_ble_eq_true rfl) ⟨Nat.le_of_ble_eq_true rfl, Nat.le_of_ble_eq_true rfl⟩ ⟨Nat.le_of_ble_eq_true rfl, Nat.le_of_ble_eq_true rfl⟩ dL_act_245 ?_
    refine lv_iload hx hb dL_act_248 (lv_at hl 1 rfl) ?_
    refine ri_iconst hx hb dL_act_250 ?_
    refine cn_r (As := [.int (iI b), .int (iI 3)]) (rest := [.int (iI (x_low a 6)), .ref c0]) hx hb (hml.trans hl.1.symm) hown hts w lk_RL_15 (t_L_low l g b 3 (by omega)) rfl rfl (Nat.le_of_ble_eq_true rfl) ⟨Nat.le_of_ble_eq_true rfl, Nat.le_of_ble_eq_true rfl⟩ ⟨Nat.le_of_ble_eq_true rfl, Nat.le_of_ble_eq_true rfl⟩ dL_act_251 ?_
    refine co_w (As := [.int (iI (x_low a 6)), .int (iI (x_low b 3))]) (rest := []) hx hb (hml.trans hl.1.symm) hown hts w lk_RL_44 (fun sz => t_X5_setKind l g c0 na be tr sn x h o T T1 T2 T3 K z P C N B (x_low a 6) (x_low b 3) hW hC (by omega) (by omega) sz) hrv rfl rfl (Nat.le_of_ble_eq_true rfl) ⟨Nat.le_of_ble_eq_true rfl, Nat.le_of_ble_eq_true rfl⟩ ⟨Nat.le_of_ble_eq_true rfl, Nat.le_of_ble_eq_true rfl⟩ dL_act_254 (fun vv w1 H locs hr w => ?_)
    obtain ⟨rfl, hr2⟩ := hr
    have e8 : a_act B t a b = c_setKind B (x_low a 6) (x_low b 3) := by unfold a_act; rw [if_neg (by omega), if_neg (by omega), if_neg (by omega), if_neg (by omega), if_neg (by omega), if_neg (by omega), if_neg (by omega), if_pos (by omega)]
    exact hend _ _ _ _ ⟨_, rfl, rfl⟩ _ _ dL_act_257 w (by rw [e8]; exact ⟨rfl, hr2⟩)
  have J258 : t = 15 → ∀ ls : Array Slot, lv_has ls 5 [(3, .int (iI a)), (4, .int (iI b)), (0, .ref c0)] → W p l e (rmm 9 0 0) s m args below meth c s.heap [] 0 0 Q (F0 m 258 ls []) := by
    intro ht0 ls hl
    refine lv_iload hx hb dL_act_258 (lv_at hl 1 rfl) ?_
    refine ri_iconst hx hb dL_act_260 ?_
    refine cn_r (As := [.int (iI b), .int (iI 3)]) (rest := []) hx hb (hml.trans hl.1.symm) hown hts w lk_RL_15 (t_L_low l g b 3 (by omega)) rfl rfl (Nat.le_of_ble_eq_true rfl) ⟨Nat.le_of_ble_eq_true rfl, Nat.le_of_ble_eq_true rfl⟩ ⟨Nat.le_of_ble_eq_true rfl, Nat.le_of_ble_eq_true rfl⟩ dL_act_261 ?_
    refine ri_if_ne (tgt := 274) hx hb dL_act_264 (by decide) (by omega) (fun c4 => ?_) (fun c4 => ?_)
    · refine lv_iload hx hb dL_act_274 (lv_at hl 1 rfl) ?_
      refine ri_iconst hx hb dL_act_276 ?_
      refine cn_r (As := [.int (iI b), .int (iI 3)]) (rest := []) hx hb (hml.trans hl.1.symm) hown hts w lk_RL_15 (t_L_low l g b 3 (by omega)) rfl rfl (Nat.le_of_ble_eq_true rfl) ⟨Nat.le_of_ble_eq_true rfl, Nat.le_of_ble_eq_true rfl⟩ ⟨Nat.le_of_ble_eq_true rfl, Nat.le_of_ble_eq_true rfl⟩ dL_act_277 ?_
      refine ri_iconst hx hb dL_act_280 ?_
      refine ri_icmp_ne (tgt := 291) hx hb dL_act_281 (by decide) (by omega) (by omega) (fun c5 => ?_) (fun c5 => ?_)
      · refine lv_aload_n hx hb dL_act_291 rfl (lv_at hl 2 rfl) ?_
        refine co_w (As := []) (rest := []) hx hb (hml.trans hl.1.symm) hown hts w lk_RL_54 (fun sz => t_X5_restore l g c0 na be tr sn x h o T T1 T2 T3 K z P C N B hW hC sz) hrv rfl rfl (Nat.le_of_ble_eq_true rfl) ⟨Nat.le_of_ble_eq_true rfl, Nat.le_of_ble_eq_true rfl⟩ ⟨Nat.le_of_ble_eq_true rfl, Nat.le_of_ble_eq_true rfl⟩ dL_act_292 (fun vv w1 H locs hr w => ?_)
        obtain ⟨rfl, hr2⟩ := hr
        have e8 : a_act B t a b = c_restore B  := by unfold a_act; rw [if_neg (by omega), if_neg (by omega), if_neg (by omega), if_neg (by omega), if_neg (by omega), if_neg (by omega), if_neg (by omega), if_neg (by omega), if_neg (by omega), if_neg (by omega)]
        exact hend _ _ _ _ ⟨_, rfl, rfl⟩ _ _ dL_act_295 w (by rw [e8]; exact ⟨rfl, hr2⟩)
      · refine lv_aload_n hx hb dL_act_284 rfl (lv_at hl 2 rfl) ?_
        refine co_w (As := []) (rest := []) hx hb (hml.trans hl.1.symm) hown hts w lk_RL_51 (fun sz => t_X5_keep l g c0 na be tr sn x h o T T1 T2 T3 K z P C N B hW hC sz) hrv rfl rfl (Nat.le_of_ble_eq_true rfl) ⟨Nat.le_of_ble_eq_true rfl, Nat.le_of_ble_eq_true rfl⟩ ⟨Nat.le_of_ble_eq_true rfl, Nat.le_of_ble_eq_true rfl⟩ dL_act_285 (fun vv w1 H locs hr w => ?_)
        obtain ⟨rfl, hr2⟩ := hr
        have e8 : a_act B t a b = c_keep B  := by unfold a_act; rw [if_neg (by omega), if_neg (by omega), if_neg (by omega), if_neg (by omega), if_neg (by omega), if_neg (by omega), if_neg (by omega), if_neg (by omega), if_neg (by omega), if_pos (by omega)]
        refine lv_goto (tgt := 295) hx hb dL_act_288 (by decide) ?_
        exact hend _ _ _ _ ⟨_, rfl, rfl⟩ _ _ dL_act_295 w (by rw [e8]; exact ⟨rfl, hr2⟩)
    · refine lv_aload_n hx hb dL_act_267 rfl (lv_at hl 2 rfl) ?_
      refine co_w (As := []) (rest := []) hx hb (hml.trans hl.1.symm) hown hts w lk_RL_47 (fun sz => t_X5_undo l g c0 na be tr sn x h o T T1 T2 T3 K z P C N B hW hC sz) hrv rfl rfl (Nat.le_of_ble_eq_true rfl) ⟨Nat.le_of_ble_eq_true rfl, Nat.le_of_ble_eq_true rfl⟩ ⟨Nat.le_of_ble_eq_true rfl, Nat.le_of_ble_eq_true rfl⟩ dL_act_268 (fun vv w1 H locs hr w => ?_)
      obtain ⟨rfl, hr2⟩ := hr
      have e8 : a_act B t a b = c_undo B  := by unfold a_act; rw [if_neg (by omega), if_neg (by omega), if_neg (by omega), if_neg (by omega), if_neg (by omega), if_neg (by omega), if_neg (by omega), if_neg (by omega), if_pos (by omega)]
      refine lv_goto (tgt := 295) hx hb dL_act_271 (by decide) ?_
      exact hend _ _ _ _ ⟨_, rfl, rfl⟩ _ _ dL_act_295 w (by rw [e8]; exact ⟨rfl, hr2⟩)
  refine lv_aload_n hx hb dL_act_0 rfl (lv_at hl 1 rfl) ?_
  refine lv_iload_n hx hb dL_act_1 rfl (lv_at hl 2 rfl) ?_
  refine ri_iconst hx hb dL_act_2 ?_
  refine ri_iadd (z := k + 1) hx hb dL_act_3 (by omega) ?_
  refine call_sS (As := [.ref sb, .int (iI (k + 1))]) (rest := []) hx hb (hml.trans hl.1.symm) hown hts w hX hbl hbA lk_RL_9 (t_L_cell l sb L xs (k + 1) (by omega) hL) rfl rfl (Nat.le_of_ble_eq_true rfl) ⟨Nat.le_of_ble_eq_true rfl, Nat.le_of_ble_eq_true rfl⟩ ⟨Nat.le_of_ble_eq_true rfl, Nat.le_of_ble_eq_true rfl⟩ dL_act_4 ?_
  rw [← ha]
  refine lv_istore_n (lv' := [(3, .int (iI a)), (0, .ref c0), (1, .ref sb), (2, .int (iI k))]) hx hb dL_act_7 rfl hl (by decide) rfl (fun ls hl => ?_)
  refine lv_aload_n hx hb dL_act_8 rfl (lv_at hl 2 rfl) ?_
  refine lv_iload_n hx hb dL_act_9 rfl (lv_at hl 3 rfl) ?_
  refine ri_iconst hx hb dL_act_10 ?_
  refine ri_iadd (z := k + 2) hx hb dL_act_11 (by omega) ?_
  refine call_sS (As := [.ref sb, .int (iI (k + 2))]) (rest := []) hx hb (hml.trans hl.1.symm) hown hts w hX hbl hbA lk_RL_9 (t_L_cell l sb L xs (k + 2) (by omega) hL) rfl rfl (Nat.le_of_ble_eq_true rfl) ⟨Nat.le_of_ble_eq_true rfl, Nat.le_of_ble_eq_true rfl⟩ ⟨Nat.le_of_ble_eq_true rfl, Nat.le_of_ble_eq_true rfl⟩ dL_act_12 ?_
  rw [← hbb]
  refine lv_istore (lv' := [(4, .int (iI b)), (3, .int (iI a)), (0, .ref c0), (1, .ref sb), (2, .int (iI k))]) hx hb dL_act_15 hl (by decide) rfl (fun ls hl => ?_)
  refine lv_aload_n hx hb dL_act_17 rfl (lv_at hl 3 rfl) ?_
  refine lv_iload_n hx hb dL_act_18 rfl (lv_at hl 4 rfl) ?_
  refine call_sS (As := [.ref sb, .int (iI k)]) (rest := []) hx hb (hml.trans hl.1.symm) hown hts w hX hbl hbA lk_RL_9 (t_L_cell l sb L xs k (by omega) hL) rfl rfl (Nat.le_of_ble_eq_true rfl) ⟨Nat.le_of_ble_eq_true rfl, Nat.le_of_ble_eq_true rfl⟩ ⟨Nat.le_of_ble_eq_true rfl, Nat.le_of_ble_eq_true rfl⟩ dL_act_19 ?_
  refine ri_bipush hx hb dL_act_22 (by decide) ?_
  refine cn_r (As := [.int (iI (x_cell L xs k)), .int (iI 16)]) (rest := []) hx hb (hml.trans hl.1.symm) hown hts w lk_RL_15 (t_L_low l g (x_cell L xs k) 16 (by omega)) rfl rfl (Nat.le_of_ble_eq_true rfl) ⟨Nat.le_of_ble_eq_true rfl, Nat.le_of_ble_eq_true rfl⟩ ⟨Nat.le_of_ble_eq_true rfl, Nat.le_of_ble_eq_true rfl⟩ dL_act_24 ?_
  rw [← ht]
  by_cases h0 : t = 0
  · refine ri_tabIn (v := 0) (tgt := 100) hx hb dL_act_27 h0 (by omega) (by decide) (by decide) rfl (by decide) ?_
    exact J100 (by omega) ls (lv_sub hl [1, 0, 2] rfl)
  by_cases h1 : t = 1
  · refine ri_tabIn (v := 1) (tgt := 100) hx hb dL_act_27 h1 (by omega) (by decide) (by decide) rfl (by decide) ?_
    exact J100 (by omega) ls (lv_sub hl [1, 0, 2] rfl)
  by_cases h2 : t = 2
  · refine ri_tabIn (v := 2) (tgt := 100) hx hb dL_act_27 h2 (by omega) (by decide) (by decide) rfl (by decide) ?_
    exact J100 (by omega) ls (lv_sub hl [1, 0, 2] rfl)
  by_cases h3 : t = 3
  · refine ri_tabIn (v := 3) (tgt := 100) hx hb dL_act_27 h3 (by omega) (by decide) (by decide) rfl (by decide) ?_
    exact J100 (by omega) ls (lv_sub hl [1, 0, 2] rfl)
  by_cases h4 : t = 4
  · refine ri_tabIn (v := 4) (tgt := 111) hx hb dL_act_27 h4 (by omega) (by decide) (by decide) rfl (by decide) ?_
    exact J111 (by omega) ls (lv_sub hl [1, 0, 2] rfl)
  by_cases h5 : t = 5
  · refine ri_tabIn (v := 5) (tgt := 111) hx hb dL_act_27 h5 (by omega) (by decide) (by decide) rfl (by decide) ?_
    exact J111 (by omega) ls (lv_sub hl [1, 0, 2] rfl)
  by_cases h6 : t = 6
  · refine ri_tabIn (v := 6) (tgt := 111) hx hb dL_act_27 h6 (by omega) (by decide) (by decide) rfl (by decide) ?_
    exact J111 (by omega) ls (lv_sub hl [1, 0, 2] rfl)
  by_cases h7 : t = 7
  · refine ri_tabIn (v := 7) (tgt := 111) hx hb dL_act_27 h7 (by omega) (by decide) (by decide) rfl (by decide) ?_
    exact J111 (by omega) ls (lv_sub hl [1, 0, 2] rfl)
  by_cases h8 : t = 8
  · refine ri_tabIn (v := 8) (tgt := 122) hx hb dL_act_27 h8 (by omega) (by decide) (by decide) rfl (by decide) ?_
    exact J122 (by omega) ls (lv_sub hl [1, 0, 2] rfl)
  by_cases h9 : t = 9
  · refine ri_tabIn (v := 9) (tgt := 133) hx hb dL_act_27 h9 (by omega) (by decide) (by decide) rfl (by decide) ?_
    exact J133 (by omega) ls (lv_sub hl [1, 0, 2] rfl)
  by_cases h10 : t = 10
  · refine ri_tabIn (v := 10) (tgt := 144) hx hb dL_act_27 h10 (by omega) (by decide) (by decide) rfl (by decide) ?_
    exact J144 (by omega) ls (lv_sub hl [1, 0, 2] rfl)
  by_cases h11 : t = 11
  · refine ri_tabIn (v := 11) (tgt := 144) hx hb dL_act_27 h11 (by omega) (by decide) (by decide) rfl (by decide) ?_
    exact J144 (by omega) ls (lv_sub hl [1, 0, 2] rfl)
  by_cases h12 : t = 12
  · refine ri_tabIn (v := 12) (tgt := 158) hx hb dL_act_27 h12 (by omega) (by decide) (by decide) rfl (by decide) ?_
    exact J158 (by omega) ls (lv_sub hl [1, 0, 2] rfl)
  by_cases h13 : t = 13
  · refine ri_tabIn (v := 13) (tgt := 183) hx hb dL_act_27 h13 (by omega) (by decide) (by decide) rfl (by decide) ?_
    exact J183 (by omega) ls (lv_sub hl [1, 0, 2] rfl)
  by_cases h14 : t = 14
  · refine ri_tabIn (v := 14) (tgt := 241) hx hb dL_act_27 h14 (by omega) (by decide) (by decide) rfl (by decide) ?_
    exact J241 (by omega) ls (lv_sub hl [1, 0, 2] rfl)
  refine ri_tabOut (a := t) (tgt := 258) hx hb dL_act_27 (by omega) (by omega) (by decide) ?_
  exact J258 (by omega) ls (lv_sub hl [1, 0, 2] rfl)
