set_option maxHeartbeats 4000000 in
set_option maxRecDepth 100000 in
theorem law_set {p : Program} {l : Launch} {e : Env} {s : State} {m : MethodId} {below : List Frame} {meth : Method} {c : Code} {Q : State → Prop} {b L : Nat} {xs : Nat → Int32} {g : GG} {c0 : Nat} {na be tr sn x o mb : Nat → Nat} {i N : Int} (C0 : LawCtx p s m c b L xs) (hi : 0 ≤ i ∧ i + 4 ≤ L) (hN : N + 250000 ≤ 200000000) {H : Heap} {locs : List Loc} {ls : Array Slot} (S0 : LawSt g s b c0 na be tr sn x o mb i N H locs ls) (kk : ∀ (H : Heap) (locs : List Loc) (ls : Array Slot), LawSt g s b c0 na be tr sn x o mb i (N + 210000) H locs ls → W p l e room_1 s m #[Value.ref b] below meth c H locs 600000 7302250 Q (F0 m 707 ls [])) : W p l e room_1 s m #[Value.ref b] below meth c H locs 600000 7302250 Q (F0 m 140 ls []) := by
  obtain ⟨hx, hb, hml, hown, hts, hX, hbl, hL⟩ := C0
  obtain ⟨h, T, T1, T2, T3, K, z, P, C, B, X, hW, hC, hP, w, hl⟩ := S0
  have hWm := hW.mono (show N ≤ N + 210000 from by omega) (by omega)
  obtain ⟨v1, hv1⟩ : ∃ v : Int, v = (xs (i + 1).toNat).toInt := ⟨_, rfl⟩
  have hr1 : -2147483648 ≤ v1 ∧ v1 ≤ 2147483647 := by rw [hv1]; exact x_rg _
  obtain ⟨v2, hv2⟩ : ∃ v : Int, v = (xs (i + 2).toNat).toInt := ⟨_, rfl⟩
  have hr2 : -2147483648 ≤ v2 ∧ v2 ≤ 2147483647 := by rw [hv2]; exact x_rg _
  obtain ⟨v3, hv3⟩ : ∃ v : Int, v = (xs (i + 3).toNat).toInt := ⟨_, rfl⟩
  have hr3 : -2147483648 ≤ v3 ∧ v3 ≤ 2147483647 := by rw [hv3]; exact x_rg _
  refine lv_aload_n hx hb dL_law_140 rfl (lv_at hl 1 rfl) ?_
  refine lv_aload_n hx hb dL_law_141 rfl (lv_at hl 0 rfl) ?_
  refine lv_iload_n hx hb dL_law_142 rfl (lv_at hl 3 rfl) ?_
  refine ri_iconst hx hb dL_law_143 ?_
  refine ri_iadd (z := i + 1) hx hb dL_law_144 rfl ?_
  refine ri_sld (v := v1) hx hb hX hbl hL w (j := i + 1) (by omega) hv1 dL_law_145 ?_
  refine lv_aload_n hx hb dL_law_146 rfl (lv_at hl 0 rfl) ?_
  refine lv_iload_n hx hb dL_law_147 rfl (lv_at hl 3 rfl) ?_
  refine ri_iconst hx hb dL_law_148 ?_
  refine ri_iadd (z := i + 2) hx hb dL_law_149 rfl ?_
  refine ri_sld (v := v2) hx hb hX hbl hL w (j := i + 2) (by omega) hv2 dL_law_150 ?_
  refine cb_wV (bc := [wp_ws g c0 na be tr sn x h o T T1 T2 T3 K z P C]) (br := [mo_ws g mb B X]) (kb := 2) (As := [.int (iI v1), .int (iI v2)]) (rest := []) hx hb (hml.trans hl.1.symm) hown hts w lk_RL_13 (fun sz => t_X5_set l g c0 na be tr sn x h o T T1 T2 T3 K z P C N B v1 v2 hW hC (by omega) (by omega) sz) [0, 1] (by decide) rfl rfl (fl1 _) (call_recv w (q0 := 0) rfl fX5.1) rfl rfl (Nat.le_of_ble_eq_true rfl) ⟨Nat.le_of_ble_eq_true rfl, Nat.le_of_ble_eq_true rfl⟩ ⟨Nat.le_of_ble_eq_true rfl, Nat.le_of_ble_eq_true rfl⟩ dL_law_151 (fun vv w1 H locs hr w => ?_)
  obtain ⟨rfl, h', T', T1', T2', T3', K', z', P', C', rfl, hC'⟩ := hr
  have w : Wd g (LA s) ([mo_ws g mb B X, wp_ws g c0 na be tr sn x h' o T' T1' T2' T3' K' z' P' C'] : List va_W).flatten s H locs := w
  refine lv_aload_n hx hb dL_law_154 rfl (lv_at hl 2 rfl) ?_
  refine lv_aload_n hx hb dL_law_155 rfl (lv_at hl 0 rfl) ?_
  refine lv_iload_n hx hb dL_law_156 rfl (lv_at hl 3 rfl) ?_
  refine ri_iconst hx hb dL_law_157 ?_
  refine ri_iadd (z := i + 1) hx hb dL_law_158 rfl ?_
  refine ri_sld (v := v1) hx hb hX hbl hL w (j := i + 1) (by omega) hv1 dL_law_159 ?_
  refine lv_aload_n hx hb dL_law_160 rfl (lv_at hl 0 rfl) ?_
  refine lv_iload_n hx hb dL_law_161 rfl (lv_at hl 3 rfl) ?_
  refine ri_iconst hx hb dL_law_162 ?_
  refine ri_iadd (z := i + 2) hx hb dL_law_163 rfl ?_
  refine ri_sld (v := v2) hx hb hX hbl hL w (j := i + 2) (by omega) hv2 dL_law_164 ?_
  refine cb_wV (bc := [mo_ws g mb B X]) (br := [wp_ws g c0 na be tr sn x h' o T' T1' T2' T3' K' z' P' C']) (kb := 2) (As := [.int (iI v1), .int (iI v2)]) (rest := [.int (iI ((c_set B v1 v2).1))]) hx hb (hml.trans hl.1.symm) hown hts w lk_RL_17 (fun sz => t_X6_set l g mb N B X v1 v2 hW hP (by omega) (by omega) sz) [0, 1] (by decide) rfl rfl (fl1 _) (call_recv w (q0 := 0) rfl fX6.1) rfl rfl (Nat.le_of_ble_eq_true rfl) ⟨Nat.le_of_ble_eq_true rfl, Nat.le_of_ble_eq_true rfl⟩ ⟨Nat.le_of_ble_eq_true rfl, Nat.le_of_ble_eq_true rfl⟩ dL_law_165 (fun vv w1 H locs hr w => ?_)
  obtain ⟨rfl, X', rfl, hP'⟩ := hr
  have w : Wd g (LA s) ([wp_ws g c0 na be tr sn x h' o T' T1' T2' T3' K' z' P' C', mo_ws g mb (c_set B v1 v2).2 X'] : List va_W).flatten s H locs := w
  refine lv_icmp_eq (tgt := 707) hx hb dL_law_168 (by decide) (fun _ => ?_) (fun q => absurd rfl q)
  exact kk H locs ls ⟨h', T', T1', T2', T3', K', z', P', C', _, X', wb_set hW (by omega), hC', hP', w, hl⟩

set_option maxHeartbeats 4000000 in
set_option maxRecDepth 100000 in
theorem law_setKind {p : Program} {l : Launch} {e : Env} {s : State} {m : MethodId} {below : List Frame} {meth : Method} {c : Code} {Q : State → Prop} {b L : Nat} {xs : Nat → Int32} {g : GG} {c0 : Nat} {na be tr sn x o mb : Nat → Nat} {i N : Int} (C0 : LawCtx p s m c b L xs) (hi : 0 ≤ i ∧ i + 4 ≤ L) (hN : N + 250000 ≤ 200000000) {H : Heap} {locs : List Loc} {ls : Array Slot} (S0 : LawSt g s b c0 na be tr sn x o mb i N H locs ls) (kk : ∀ (H : Heap) (locs : List Loc) (ls : Array Slot), LawSt g s b c0 na be tr sn x o mb i (N + 210000) H locs ls → W p l e room_1 s m #[Value.ref b] below meth c H locs 600000 7302250 Q (F0 m 707 ls [])) : W p l e room_1 s m #[Value.ref b] below meth c H locs 600000 7302250 Q (F0 m 173 ls []) := by
  obtain ⟨hx, hb, hml, hown, hts, hX, hbl, hL⟩ := C0
  obtain ⟨h, T, T1, T2, T3, K, z, P, C, B, X, hW, hC, hP, w, hl⟩ := S0
  have hWm := hW.mono (show N ≤ N + 210000 from by omega) (by omega)
  obtain ⟨v1, hv1⟩ : ∃ v : Int, v = (xs (i + 1).toNat).toInt := ⟨_, rfl⟩
  have hr1 : -2147483648 ≤ v1 ∧ v1 ≤ 2147483647 := by rw [hv1]; exact x_rg _
  obtain ⟨v2, hv2⟩ : ∃ v : Int, v = (xs (i + 2).toNat).toInt := ⟨_, rfl⟩
  have hr2 : -2147483648 ≤ v2 ∧ v2 ≤ 2147483647 := by rw [hv2]; exact x_rg _
  obtain ⟨v3, hv3⟩ : ∃ v : Int, v = (xs (i + 3).toNat).toInt := ⟨_, rfl⟩
  have hr3 : -2147483648 ≤ v3 ∧ v3 ≤ 2147483647 := by rw [hv3]; exact x_rg _
  refine lv_aload_n hx hb dL_law_173 rfl (lv_at hl 1 rfl) ?_
  refine lv_aload_n hx hb dL_law_174 rfl (lv_at hl 0 rfl) ?_
  refine lv_iload_n hx hb dL_law_175 rfl (lv_at hl 3 rfl) ?_
  refine ri_iconst hx hb dL_law_176 ?_
  refine ri_iadd (z := i + 1) hx hb dL_law_177 rfl ?_
  refine ri_sld (v := v1) hx hb hX hbl hL w (j := i + 1) (by omega) hv1 dL_law_178 ?_
  refine lv_aload_n hx hb dL_law_179 rfl (lv_at hl 0 rfl) ?_
  refine lv_iload_n hx hb dL_law_180 rfl (lv_at hl 3 rfl) ?_
  refine ri_iconst hx hb dL_law_181 ?_
  refine ri_iadd (z := i + 2) hx hb dL_law_182 rfl ?_
  refine ri_sld (v := v2) hx hb hX hbl hL w (j := i + 2) (by omega) hv2 dL_law_183 ?_
  refine cb_wV (bc := [wp_ws g c0 na be tr sn x h o T T1 T2 T3 K z P C]) (br := [mo_ws g mb B X]) (kb := 2) (As := [.int (iI v1), .int (iI v2)]) (rest := []) hx hb (hml.trans hl.1.symm) hown hts w lk_RL_18 (fun sz => t_X5_setKind l g c0 na be tr sn x h o T T1 T2 T3 K z P C N B v1 v2 hW hC (by omega) (by omega) sz) [0, 1] (by decide) rfl rfl (fl1 _) (call_recv w (q0 := 0) rfl fX5.1) rfl rfl (Nat.le_of_ble_eq_true rfl) ⟨Nat.le_of_ble_eq_true rfl, Nat.le_of_ble_eq_true rfl⟩ ⟨Nat.le_of_ble_eq_true rfl, Nat.le_of_ble_eq_true rfl⟩ dL_law_184 (fun vv w1 H locs hr w => ?_)
  obtain ⟨rfl, h', T', T1', T2', T3', K', z', P', C', rfl, hC'⟩ := hr
  have w : Wd g (LA s) ([mo_ws g mb B X, wp_ws g c0 na be tr sn x h' o T' T1' T2' T3' K' z' P' C'] : List va_W).flatten s H locs := w
  refine lv_aload_n hx hb dL_law_187 rfl (lv_at hl 2 rfl) ?_
  refine lv_aload_n hx hb dL_law_188 rfl (lv_at hl 0 rfl) ?_
  refine lv_iload_n hx hb dL_law_189 rfl (lv_at hl 3 rfl) ?_
  refine ri_iconst hx hb dL_law_190 ?_
  refine ri_iadd (z := i + 1) hx hb dL_law_191 rfl ?_
  refine ri_sld (v := v1) hx hb hX hbl hL w (j := i + 1) (by omega) hv1 dL_law_192 ?_
  refine lv_aload_n hx hb dL_law_193 rfl (lv_at hl 0 rfl) ?_
  refine lv_iload_n hx hb dL_law_194 rfl (lv_at hl 3 rfl) ?_
  refine ri_iconst hx hb dL_law_195 ?_
  refine ri_iadd (z := i + 2) hx hb dL_law_196 rfl ?_
  refine ri_sld (v := v2) hx hb hX hbl hL w (j := i + 2) (by omega) hv2 dL_law_197 ?_
  refine cb_wV (bc := [mo_ws g mb B X]) (br := [wp_ws g c0 na be tr sn x h' o T' T1' T2' T3' K' z' P' C']) (kb := 2) (As := [.int (iI v1), .int (iI v2)]) (rest := [.int (iI ((c_setKind B v1 v2).1))]) hx hb (hml.trans hl.1.symm) hown hts w lk_RL_21 (fun sz => t_X6_setKind l g mb N B X v1 v2 hW hP (by omega) (by omega) sz) [0, 1] (by decide) rfl rfl (fl1 _) (call_recv w (q0 := 0) rfl fX6.1) rfl rfl (Nat.le_of_ble_eq_true rfl) ⟨Nat.le_of_ble_eq_true rfl, Nat.le_of_ble_eq_true rfl⟩ ⟨Nat.le_of_ble_eq_true rfl, Nat.le_of_ble_eq_true rfl⟩ dL_law_198 (fun vv w1 H locs hr w => ?_)
  obtain ⟨rfl, X', rfl, hP'⟩ := hr
  have w : Wd g (LA s) ([wp_ws g c0 na be tr sn x h' o T' T1' T2' T3' K' z' P' C', mo_ws g mb (c_setKind B v1 v2).2 X'] : List va_W).flatten s H locs := w
  refine lv_icmp_eq (tgt := 707) hx hb dL_law_201 (by decide) (fun _ => ?_) (fun q => absurd rfl q)
  exact kk H locs ls ⟨h', T', T1', T2', T3', K', z', P', C', _, X', wb_setKind hW (by omega), hC', hP', w, hl⟩

set_option maxHeartbeats 4000000 in
set_option maxRecDepth 100000 in
theorem law_mark {p : Program} {l : Launch} {e : Env} {s : State} {m : MethodId} {below : List Frame} {meth : Method} {c : Code} {Q : State → Prop} {b L : Nat} {xs : Nat → Int32} {g : GG} {c0 : Nat} {na be tr sn x o mb : Nat → Nat} {i N : Int} (C0 : LawCtx p s m c b L xs) (hi : 0 ≤ i ∧ i + 4 ≤ L) (hN : N + 250000 ≤ 200000000) {H : Heap} {locs : List Loc} {ls : Array Slot} (S0 : LawSt g s b c0 na be tr sn x o mb i N H locs ls) (kk : ∀ (H : Heap) (locs : List Loc) (ls : Array Slot), LawSt g s b c0 na be tr sn x o mb i (N + 210000) H locs ls → W p l e room_1 s m #[Value.ref b] below meth c H locs 600000 7302250 Q (F0 m 707 ls [])) : W p l e room_1 s m #[Value.ref b] below meth c H locs 600000 7302250 Q (F0 m 206 ls []) := by
  obtain ⟨hx, hb, hml, hown, hts, hX, hbl, hL⟩ := C0
  obtain ⟨h, T, T1, T2, T3, K, z, P, C, B, X, hW, hC, hP, w, hl⟩ := S0
  have hWm := hW.mono (show N ≤ N + 210000 from by omega) (by omega)
  obtain ⟨v1, hv1⟩ : ∃ v : Int, v = (xs (i + 1).toNat).toInt := ⟨_, rfl⟩
  have hr1 : -2147483648 ≤ v1 ∧ v1 ≤ 2147483647 := by rw [hv1]; exact x_rg _
  obtain ⟨v2, hv2⟩ : ∃ v : Int, v = (xs (i + 2).toNat).toInt := ⟨_, rfl⟩
  have hr2 : -2147483648 ≤ v2 ∧ v2 ≤ 2147483647 := by rw [hv2]; exact x_rg _
  obtain ⟨v3, hv3⟩ : ∃ v : Int, v = (xs (i + 3).toNat).toInt := ⟨_, rfl⟩
  have hr3 : -2147483648 ≤ v3 ∧ v3 ≤ 2147483647 := by rw [hv3]; exact x_rg _
  refine lv_aload_n hx hb dL_law_206 rfl (lv_at hl 1 rfl) ?_
  refine lv_aload_n hx hb dL_law_207 rfl (lv_at hl 0 rfl) ?_
  refine lv_iload_n hx hb dL_law_208 rfl (lv_at hl 3 rfl) ?_
  refine ri_iconst hx hb dL_law_209 ?_
  refine ri_iadd (z := i + 1) hx hb dL_law_210 rfl ?_
  refine ri_sld (v := v1) hx hb hX hbl hL w (j := i + 1) (by omega) hv1 dL_law_211 ?_
  refine lv_aload_n hx hb dL_law_212 rfl (lv_at hl 0 rfl) ?_
  refine lv_iload_n hx hb dL_law_213 rfl (lv_at hl 3 rfl) ?_
  refine ri_iconst hx hb dL_law_214 ?_
  refine ri_iadd (z := i + 2) hx hb dL_law_215 rfl ?_
  refine ri_sld (v := v2) hx hb hX hbl hL w (j := i + 2) (by omega) hv2 dL_law_216 ?_
  by_cases hu : v2 = 0
  · refine ri_if_eq (tgt := 224) hx hb dL_law_217 (by decide) (by omega) (fun _ => ?_) (fun q => absurd hu q)
    refine ri_iconst hx hb dL_law_224 ?_
    refine cb_wV (bc := [wp_ws g c0 na be tr sn x h o T T1 T2 T3 K z P C]) (br := [mo_ws g mb B X]) (kb := 2) (As := [.int (iI v1), .int (iI 0)]) (rest := []) hx hb (hml.trans hl.1.symm) hown hts w lk_RL_22 (fun sz => t_X5_mark l g c0 na be tr sn x h o T T1 T2 T3 K z P C N B v1 0 hW hC (by omega) (by omega) sz) [0, 1] (by decide) rfl rfl (fl1 _) (call_recv w (q0 := 0) rfl fX5.1) rfl rfl (Nat.le_of_ble_eq_true rfl) ⟨Nat.le_of_ble_eq_true rfl, Nat.le_of_ble_eq_true rfl⟩ ⟨Nat.le_of_ble_eq_true rfl, Nat.le_of_ble_eq_true rfl⟩ dL_law_225 (fun vv w1 H locs hr w => ?_)
    obtain ⟨rfl, h', T', T1', T2', T3', K', z', P', C', rfl, hC'⟩ := hr
    have w : Wd g (LA s) ([mo_ws g mb B X, wp_ws g c0 na be tr sn x h' o T' T1' T2' T3' K' z' P' C'] : List va_W).flatten s H locs := w
    refine lv_aload_n hx hb dL_law_228 rfl (lv_at hl 2 rfl) ?_
    refine lv_aload_n hx hb dL_law_229 rfl (lv_at hl 0 rfl) ?_
    refine lv_iload_n hx hb dL_law_230 rfl (lv_at hl 3 rfl) ?_
    refine ri_iconst hx hb dL_law_231 ?_
    refine ri_iadd (z := i + 1) hx hb dL_law_232 rfl ?_
    refine ri_sld (v := v1) hx hb hX hbl hL w (j := i + 1) (by omega) hv1 dL_law_233 ?_
    refine lv_aload_n hx hb dL_law_234 rfl (lv_at hl 0 rfl) ?_
    refine lv_iload_n hx hb dL_law_235 rfl (lv_at hl 3 rfl) ?_
    refine ri_iconst hx hb dL_law_236 ?_
    refine ri_iadd (z := i + 2) hx hb dL_law_237 rfl ?_
    refine ri_sld (v := v2) hx hb hX hbl hL w (j := i + 2) (by omega) hv2 dL_law_238 ?_
    refine ri_if_eq (tgt := 246) hx hb dL_law_239 (by decide) (by omega) (fun _ => ?_) (fun q => absurd hu q)
    refine ri_iconst hx hb dL_law_246 ?_
    refine cb_wV (bc := [mo_ws g mb B X]) (br := [wp_ws g c0 na be tr sn x h' o T' T1' T2' T3' K' z' P' C']) (kb := 2) (As := [.int (iI v1), .int (iI 0)]) (rest := [.int (iI ((c_mark B v1 0).1))]) hx hb (hml.trans hl.1.symm) hown hts w lk_RL_26 (fun sz => t_X6_mark l g mb N B X v1 0 hW hP (by omega) (by omega) sz) [0, 1] (by decide) rfl rfl (fl1 _) (call_recv w (q0 := 0) rfl fX6.1) rfl rfl (Nat.le_of_ble_eq_true rfl) ⟨Nat.le_of_ble_eq_true rfl, Nat.le_of_ble_eq_true rfl⟩ ⟨Nat.le_of_ble_eq_true rfl, Nat.le_of_ble_eq_true rfl⟩ dL_law_247 (fun vv w1 H locs hr w => ?_)
    obtain ⟨rfl, X', rfl, hP'⟩ := hr
    have w : Wd g (LA s) ([wp_ws g c0 na be tr sn x h' o T' T1' T2' T3' K' z' P' C', mo_ws g mb (c_mark B v1 0).2 X'] : List va_W).flatten s H locs := w
    refine lv_icmp_eq (tgt := 707) hx hb dL_law_250 (by decide) (fun _ => ?_) (fun q => absurd rfl q)
    exact kk H locs ls ⟨h', T', T1', T2', T3', K', z', P', C', _, X', wb_mark hW (by omega) (by omega), hC', hP', w, hl⟩
  · refine ri_if_eq (tgt := 224) hx hb dL_law_217 (by decide) (by omega) (fun q => absurd q hu) (fun _ => ?_)
    refine ri_iconst hx hb dL_law_220 ?_
    refine lv_goto (tgt := 225) hx hb dL_law_221 (by decide) ?_
    refine cb_wV (bc := [wp_ws g c0 na be tr sn x h o T T1 T2 T3 K z P C]) (br := [mo_ws g mb B X]) (kb := 2) (As := [.int (iI v1), .int (iI 1)]) (rest := []) hx hb (hml.trans hl.1.symm) hown hts w lk_RL_22 (fun sz => t_X5_mark l g c0 na be tr sn x h o T T1 T2 T3 K z P C N B v1 1 hW hC (by omega) (by omega) sz) [0, 1] (by decide) rfl rfl (fl1 _) (call_recv w (q0 := 0) rfl fX5.1) rfl rfl (Nat.le_of_ble_eq_true rfl) ⟨Nat.le_of_ble_eq_true rfl, Nat.le_of_ble_eq_true rfl⟩ ⟨Nat.le_of_ble_eq_true rfl, Nat.le_of_ble_eq_true rfl⟩ dL_law_225 (fun vv w1 H locs hr w => ?_)
    obtain ⟨rfl, h', T', T1', T2', T3', K', z', P', C', rfl, hC'⟩ := hr
    have w : Wd g (LA s) ([mo_ws g mb B X, wp_ws g c0 na be tr sn x h' o T' T1' T2' T3' K' z' P' C'] : List va_W).flatten s H locs := w
    refine lv_aload_n hx hb dL_law_228 rfl (lv_at hl 2 rfl) ?_
    refine lv_aload_n hx hb dL_law_229 rfl (lv_at hl 0 rfl) ?_
    refine lv_iload_n hx hb dL_law_230 rfl (lv_at hl 3 rfl) ?_
    refine ri_iconst hx hb dL_law_231 ?_
    refine ri_iadd (z := i + 1) hx hb dL_law_232 rfl ?_
    refine ri_sld (v := v1) hx hb hX hbl hL w (j := i + 1) (by omega) hv1 dL_law_233 ?_
    refine lv_aload_n hx hb dL_law_234 rfl (lv_at hl 0 rfl) ?_
    refine lv_iload_n hx hb dL_law_235 rfl (lv_at hl 3 rfl) ?_
    refine ri_iconst hx hb dL_law_236 ?_
    refine ri_iadd (z := i + 2) hx hb dL_law_237 rfl ?_
    refine ri_sld (v := v2) hx hb hX hbl hL w (j := i + 2) (by omega) hv2 dL_law_238 ?_
    refine ri_if_eq (tgt := 246) hx hb dL_law_239 (by decide) (by omega) (fun q => absurd q hu) (fun _ => ?_)
    refine ri_iconst hx hb dL_law_242 ?_
    refine lv_goto (tgt := 247) hx hb dL_law_243 (by decide) ?_
    refine cb_wV (bc := [mo_ws g mb B X]) (br := [wp_ws g c0 na be tr sn x h' o T' T1' T2' T3' K' z' P' C']) (kb := 2) (As := [.int (iI v1), .int (iI 1)]) (rest := [.int (iI ((c_mark B v1 1).1))]) hx hb (hml.trans hl.1.symm) hown hts w lk_RL_26 (fun sz => t_X6_mark l g mb N B X v1 1 hW hP (by omega) (by omega) sz) [0, 1] (by decide) rfl rfl (fl1 _) (call_recv w (q0 := 0) rfl fX6.1) rfl rfl (Nat.le_of_ble_eq_true rfl) ⟨Nat.le_of_ble_eq_true rfl, Nat.le_of_ble_eq_true rfl⟩ ⟨Nat.le_of_ble_eq_true rfl, Nat.le_of_ble_eq_true rfl⟩ dL_law_247 (fun vv w1 H locs hr w => ?_)
    obtain ⟨rfl, X', rfl, hP'⟩ := hr
    have w : Wd g (LA s) ([wp_ws g c0 na be tr sn x h' o T' T1' T2' T3' K' z' P' C', mo_ws g mb (c_mark B v1 1).2 X'] : List va_W).flatten s H locs := w
    refine lv_icmp_eq (tgt := 707) hx hb dL_law_250 (by decide) (fun _ => ?_) (fun q => absurd rfl q)
    exact kk H locs ls ⟨h', T', T1', T2', T3', K', z', P', C', _, X', wb_mark hW (by omega) (by omega), hC', hP', w, hl⟩

set_option maxHeartbeats 4000000 in
set_option maxRecDepth 100000 in
theorem law_write {p : Program} {l : Launch} {e : Env} {s : State} {m : MethodId} {below : List Frame} {meth : Method} {c : Code} {Q : State → Prop} {b L : Nat} {xs : Nat → Int32} {g : GG} {c0 : Nat} {na be tr sn x o mb : Nat → Nat} {i N : Int} (C0 : LawCtx p s m c b L xs) (hi : 0 ≤ i ∧ i + 4 ≤ L) (hN : N + 250000 ≤ 200000000) {H : Heap} {locs : List Loc} {ls : Array Slot} (S0 : LawSt g s b c0 na be tr sn x o mb i N H locs ls) (kk : ∀ (H : Heap) (locs : List Loc) (ls : Array Slot), LawSt g s b c0 na be tr sn x o mb i (N + 210000) H locs ls → W p l e room_1 s m #[Value.ref b] below meth c H locs 600000 7302250 Q (F0 m 707 ls [])) : W p l e room_1 s m #[Value.ref b] below meth c H locs 600000 7302250 Q (F0 m 255 ls []) := by
  obtain ⟨hx, hb, hml, hown, hts, hX, hbl, hL⟩ := C0
  obtain ⟨h, T, T1, T2, T3, K, z, P, C, B, X, hW, hC, hP, w, hl⟩ := S0
  have hWm := hW.mono (show N ≤ N + 210000 from by omega) (by omega)
  obtain ⟨v1, hv1⟩ : ∃ v : Int, v = (xs (i + 1).toNat).toInt := ⟨_, rfl⟩
  have hr1 : -2147483648 ≤ v1 ∧ v1 ≤ 2147483647 := by rw [hv1]; exact x_rg _
  obtain ⟨v2, hv2⟩ : ∃ v : Int, v = (xs (i + 2).toNat).toInt := ⟨_, rfl⟩
  have hr2 : -2147483648 ≤ v2 ∧ v2 ≤ 2147483647 := by rw [hv2]; exact x_rg _
  obtain ⟨v3, hv3⟩ : ∃ v : Int, v = (xs (i + 3).toNat).toInt := ⟨_, rfl⟩
  have hr3 : -2147483648 ≤ v3 ∧ v3 ≤ 2147483647 := by rw [hv3]; exact x_rg _
  refine lv_aload_n hx hb dL_law_255 rfl (lv_at hl 1 rfl) ?_
  refine lv_aload_n hx hb dL_law_256 rfl (lv_at hl 0 rfl) ?_
  refine lv_iload_n hx hb dL_law_257 rfl (lv_at hl 3 rfl) ?_
  refine ri_iconst hx hb dL_law_258 ?_
  refine ri_iadd (z := i + 1) hx hb dL_law_259 rfl ?_
  refine ri_sld (v := v1) hx hb hX hbl hL w (j := i + 1) (by omega) hv1 dL_law_260 ?_
  refine cb_wV (bc := [wp_ws g c0 na be tr sn x h o T T1 T2 T3 K z P C]) (br := [mo_ws g mb B X]) (kb := 2) (As := [.int (iI v1)]) (rest := []) hx hb (hml.trans hl.1.symm) hown hts w lk_RL_27 (fun sz => t_X5_write l g c0 na be tr sn x h o T T1 T2 T3 K z P C N B v1 hW hC (by omega) sz) [0, 1] (by decide) rfl rfl (fl1 _) (call_recv w (q0 := 0) rfl fX5.1) rfl rfl (Nat.le_of_ble_eq_true rfl) ⟨Nat.le_of_ble_eq_true rfl, Nat.le_of_ble_eq_true rfl⟩ ⟨Nat.le_of_ble_eq_true rfl, Nat.le_of_ble_eq_true rfl⟩ dL_law_261 (fun vv w1 H locs hr w => ?_)
  obtain ⟨rfl, h', T', T1', T2', T3', K', z', P', C', rfl, hC'⟩ := hr
  have w : Wd g (LA s) ([mo_ws g mb B X, wp_ws g c0 na be tr sn x h' o T' T1' T2' T3' K' z' P' C'] : List va_W).flatten s H locs := w
  refine lv_aload_n hx hb dL_law_264 rfl (lv_at hl 2 rfl) ?_
  refine lv_aload_n hx hb dL_law_265 rfl (lv_at hl 0 rfl) ?_
  refine lv_iload_n hx hb dL_law_266 rfl (lv_at hl 3 rfl) ?_
  refine ri_iconst hx hb dL_law_267 ?_
  refine ri_iadd (z := i + 1) hx hb dL_law_268 rfl ?_
  refine ri_sld (v := v1) hx hb hX hbl hL w (j := i + 1) (by omega) hv1 dL_law_269 ?_
  refine cb_wV (bc := [mo_ws g mb B X]) (br := [wp_ws g c0 na be tr sn x h' o T' T1' T2' T3' K' z' P' C']) (kb := 2) (As := [.int (iI v1)]) (rest := [.int (iI ((c_write B v1).1))]) hx hb (hml.trans hl.1.symm) hown hts w lk_RL_31 (fun sz => t_X6_write l g mb N B X v1 hW hP (by omega) sz) [0, 1] (by decide) rfl rfl (fl1 _) (call_recv w (q0 := 0) rfl fX6.1) rfl rfl (Nat.le_of_ble_eq_true rfl) ⟨Nat.le_of_ble_eq_true rfl, Nat.le_of_ble_eq_true rfl⟩ ⟨Nat.le_of_ble_eq_true rfl, Nat.le_of_ble_eq_true rfl⟩ dL_law_270 (fun vv w1 H locs hr w => ?_)
  obtain ⟨rfl, X', rfl, hP'⟩ := hr
  have w : Wd g (LA s) ([wp_ws g c0 na be tr sn x h' o T' T1' T2' T3' K' z' P' C', mo_ws g mb (c_write B v1).2 X'] : List va_W).flatten s H locs := w
  refine lv_icmp_eq (tgt := 707) hx hb dL_law_273 (by decide) (fun _ => ?_) (fun q => absurd rfl q)
  exact kk H locs ls ⟨h', T', T1', T2', T3', K', z', P', C', _, X', wb_write hW (by omega), hC', hP', w, hl⟩

set_option maxHeartbeats 4000000 in
set_option maxRecDepth 100000 in
theorem law_read {p : Program} {l : Launch} {e : Env} {s : State} {m : MethodId} {below : List Frame} {meth : Method} {c : Code} {Q : State → Prop} {b L : Nat} {xs : Nat → Int32} {g : GG} {c0 : Nat} {na be tr sn x o mb : Nat → Nat} {i N : Int} (C0 : LawCtx p s m c b L xs) (hi : 0 ≤ i ∧ i + 4 ≤ L) (hN : N + 250000 ≤ 200000000) {H : Heap} {locs : List Loc} {ls : Array Slot} (S0 : LawSt g s b c0 na be tr sn x o mb i N H locs ls) (kk : ∀ (H : Heap) (locs : List Loc) (ls : Array Slot), LawSt g s b c0 na be tr sn x o mb i (N + 210000) H locs ls → W p l e room_1 s m #[Value.ref b] below meth c H locs 600000 7302250 Q (F0 m 707 ls [])) : W p l e room_1 s m #[Value.ref b] below meth c H locs 600000 7302250 Q (F0 m 278 ls []) := by
  obtain ⟨hx, hb, hml, hown, hts, hX, hbl, hL⟩ := C0
  obtain ⟨h, T, T1, T2, T3, K, z, P, C, B, X, hW, hC, hP, w, hl⟩ := S0
  have hWm := hW.mono (show N ≤ N + 210000 from by omega) (by omega)
  obtain ⟨v1, hv1⟩ : ∃ v : Int, v = (xs (i + 1).toNat).toInt := ⟨_, rfl⟩
  have hr1 : -2147483648 ≤ v1 ∧ v1 ≤ 2147483647 := by rw [hv1]; exact x_rg _
  obtain ⟨v2, hv2⟩ : ∃ v : Int, v = (xs (i + 2).toNat).toInt := ⟨_, rfl⟩
  have hr2 : -2147483648 ≤ v2 ∧ v2 ≤ 2147483647 := by rw [hv2]; exact x_rg _
  obtain ⟨v3, hv3⟩ : ∃ v : Int, v = (xs (i + 3).toNat).toInt := ⟨_, rfl⟩
  have hr3 : -2147483648 ≤ v3 ∧ v3 ≤ 2147483647 := by rw [hv3]; exact x_rg _
  refine lv_aload_n hx hb dL_law_278 rfl (lv_at hl 1 rfl) ?_
  refine lv_aload_n hx hb dL_law_279 rfl (lv_at hl 0 rfl) ?_
  refine lv_iload_n hx hb dL_law_280 rfl (lv_at hl 3 rfl) ?_
  refine ri_iconst hx hb dL_law_281 ?_
  refine ri_iadd (z := i + 1) hx hb dL_law_282 rfl ?_
  refine ri_sld (v := v1) hx hb hX hbl hL w (j := i + 1) (by omega) hv1 dL_law_283 ?_
  refine cb_wV (bc := [wp_ws g c0 na be tr sn x h o T T1 T2 T3 K z P C]) (br := [mo_ws g mb B X]) (kb := 2) (As := [.int (iI v1)]) (rest := []) hx hb (hml.trans hl.1.symm) hown hts w lk_RL_32 (fun sz => t_X5_read l g c0 na be tr sn x h o T T1 T2 T3 K z P C N B v1 hW hC (by omega) (by omega) sz) [0, 1] (by decide) rfl rfl (fl1 _) (call_recv w (q0 := 0) rfl fX5.1) rfl rfl (Nat.le_of_ble_eq_true rfl) ⟨Nat.le_of_ble_eq_true rfl, Nat.le_of_ble_eq_true rfl⟩ ⟨Nat.le_of_ble_eq_true rfl, Nat.le_of_ble_eq_true rfl⟩ dL_law_284 (fun vv w1 H locs hr w => ?_)
  obtain ⟨rfl, h', T', T1', T2', T3', K', z', P', C', rfl, hC'⟩ := hr
  have w : Wd g (LA s) ([mo_ws g mb B X, wp_ws g c0 na be tr sn x h' o T' T1' T2' T3' K' z' P' C'] : List va_W).flatten s H locs := w
  refine lv_aload_n hx hb dL_law_287 rfl (lv_at hl 2 rfl) ?_
  refine lv_aload_n hx hb dL_law_288 rfl (lv_at hl 0 rfl) ?_
  refine lv_iload_n hx hb dL_law_289 rfl (lv_at hl 3 rfl) ?_
  refine ri_iconst hx hb dL_law_290 ?_
  refine ri_iadd (z := i + 1) hx hb dL_law_291 rfl ?_
  refine ri_sld (v := v1) hx hb hX hbl hL w (j := i + 1) (by omega) hv1 dL_law_292 ?_
  refine cb_wV (bc := [mo_ws g mb B X]) (br := [wp_ws g c0 na be tr sn x h' o T' T1' T2' T3' K' z' P' C']) (kb := 2) (As := [.int (iI v1)]) (rest := [.int (iI ((c_read B v1).1))]) hx hb (hml.trans hl.1.symm) hown hts w lk_RL_35 (fun sz => t_X6_read l g mb N B X v1 hW hP (by omega) (by omega) sz) [0, 1] (by decide) rfl rfl (fl1 _) (call_recv w (q0 := 0) rfl fX6.1) rfl rfl (Nat.le_of_ble_eq_true rfl) ⟨Nat.le_of_ble_eq_true rfl, Nat.le_of_ble_eq_true rfl⟩ ⟨Nat.le_of_ble_eq_true rfl, Nat.le_of_ble_eq_true rfl⟩ dL_law_293 (fun vv w1 H locs hr w => ?_)
  obtain ⟨rfl, X', rfl, hP'⟩ := hr
  have w : Wd g (LA s) ([wp_ws g c0 na be tr sn x h' o T' T1' T2' T3' K' z' P' C', mo_ws g mb (c_read B v1).2 X'] : List va_W).flatten s H locs := w
  refine lv_icmp_eq (tgt := 707) hx hb dL_law_296 (by decide) (fun _ => ?_) (fun q => absurd rfl q)
  exact kk H locs ls ⟨h', T', T1', T2', T3', K', z', P', C', _, X', wb_read hW (by omega), hC', hP', w, hl⟩

set_option maxHeartbeats 4000000 in
set_option maxRecDepth 100000 in
theorem law_forget {p : Program} {l : Launch} {e : Env} {s : State} {m : MethodId} {below : List Frame} {meth : Method} {c : Code} {Q : State → Prop} {b L : Nat} {xs : Nat → Int32} {g : GG} {c0 : Nat} {na be tr sn x o mb : Nat → Nat} {i N : Int} (C0 : LawCtx p s m c b L xs) (hi : 0 ≤ i ∧ i + 4 ≤ L) (hN : N + 250000 ≤ 200000000) {H : Heap} {locs : List Loc} {ls : Array Slot} (S0 : LawSt g s b c0 na be tr sn x o mb i N H locs ls) (kk : ∀ (H : Heap) (locs : List Loc) (ls : Array Slot), LawSt g s b c0 na be tr sn x o mb i (N + 210000) H locs ls → W p l e room_1 s m #[Value.ref b] below meth c H locs 600000 7302250 Q (F0 m 707 ls [])) : W p l e room_1 s m #[Value.ref b] below meth c H locs 600000 7302250 Q (F0 m 301 ls []) := by
  obtain ⟨hx, hb, hml, hown, hts, hX, hbl, hL⟩ := C0
  obtain ⟨h, T, T1, T2, T3, K, z, P, C, B, X, hW, hC, hP, w, hl⟩ := S0
  have hWm := hW.mono (show N ≤ N + 210000 from by omega) (by omega)
  obtain ⟨v1, hv1⟩ : ∃ v : Int, v = (xs (i + 1).toNat).toInt := ⟨_, rfl⟩
  have hr1 : -2147483648 ≤ v1 ∧ v1 ≤ 2147483647 := by rw [hv1]; exact x_rg _
  obtain ⟨v2, hv2⟩ : ∃ v : Int, v = (xs (i + 2).toNat).toInt := ⟨_, rfl⟩
  have hr2 : -2147483648 ≤ v2 ∧ v2 ≤ 2147483647 := by rw [hv2]; exact x_rg _
  obtain ⟨v3, hv3⟩ : ∃ v : Int, v = (xs (i + 3).toNat).toInt := ⟨_, rfl⟩
  have hr3 : -2147483648 ≤ v3 ∧ v3 ≤ 2147483647 := by rw [hv3]; exact x_rg _
  refine lv_aload_n hx hb dL_law_301 rfl (lv_at hl 1 rfl) ?_
  refine lv_aload_n hx hb dL_law_302 rfl (lv_at hl 0 rfl) ?_
  refine lv_iload_n hx hb dL_law_303 rfl (lv_at hl 3 rfl) ?_
  refine ri_iconst hx hb dL_law_304 ?_
  refine ri_iadd (z := i + 1) hx hb dL_law_305 rfl ?_
  refine ri_sld (v := v1) hx hb hX hbl hL w (j := i + 1) (by omega) hv1 dL_law_306 ?_
  refine cb_wV (bc := [wp_ws g c0 na be tr sn x h o T T1 T2 T3 K z P C]) (br := [mo_ws g mb B X]) (kb := 2) (As := [.int (iI v1)]) (rest := []) hx hb (hml.trans hl.1.symm) hown hts w lk_RL_36 (fun sz => t_X5_forget l g c0 na be tr sn x h o T T1 T2 T3 K z P C N B v1 hW hC (by omega) sz) [0, 1] (by decide) rfl rfl (fl1 _) (call_recv w (q0 := 0) rfl fX5.1) rfl rfl (Nat.le_of_ble_eq_true rfl) ⟨Nat.le_of_ble_eq_true rfl, Nat.le_of_ble_eq_true rfl⟩ ⟨Nat.le_of_ble_eq_true rfl, Nat.le_of_ble_eq_true rfl⟩ dL_law_307 (fun vv w1 H locs hr w => ?_)
  obtain ⟨rfl, h', T', T1', T2', T3', K', z', P', C', rfl, hC'⟩ := hr
  have w : Wd g (LA s) ([mo_ws g mb B X, wp_ws g c0 na be tr sn x h' o T' T1' T2' T3' K' z' P' C'] : List va_W).flatten s H locs := w
  refine lv_aload_n hx hb dL_law_310 rfl (lv_at hl 2 rfl) ?_
  refine lv_aload_n hx hb dL_law_311 rfl (lv_at hl 0 rfl) ?_
  refine lv_iload_n hx hb dL_law_312 rfl (lv_at hl 3 rfl) ?_
  refine ri_iconst hx hb dL_law_313 ?_
  refine ri_iadd (z := i + 1) hx hb dL_law_314 rfl ?_
  refine ri_sld (v := v1) hx hb hX hbl hL w (j := i + 1) (by omega) hv1 dL_law_315 ?_
  refine cb_wV (bc := [mo_ws g mb B X]) (br := [wp_ws g c0 na be tr sn x h' o T' T1' T2' T3' K' z' P' C']) (kb := 2) (As := [.int (iI v1)]) (rest := [.int (iI ((c_forget B v1).1))]) hx hb (hml.trans hl.1.symm) hown hts w lk_RL_39 (fun sz => t_X6_forget l g mb N B X v1 hW hP (by omega) sz) [0, 1] (by decide) rfl rfl (fl1 _) (call_recv w (q0 := 0) rfl fX6.1) rfl rfl (Nat.le_of_ble_eq_true rfl) ⟨Nat.le_of_ble_eq_true rfl, Nat.le_of_ble_eq_true rfl⟩ ⟨Nat.le_of_ble_eq_true rfl, Nat.le_of_ble_eq_true rfl⟩ dL_law_316 (fun vv w1 H locs hr w => ?_)
  obtain ⟨rfl, X', rfl, hP'⟩ := hr
  have w : Wd g (LA s) ([wp_ws g c0 na be tr sn x h' o T' T1' T2' T3' K' z' P' C', mo_ws g mb (c_forget B v1).2 X'] : List va_W).flatten s H locs := w
  refine lv_icmp_eq (tgt := 707) hx hb dL_law_319 (by decide) (fun _ => ?_) (fun q => absurd rfl q)
  exact kk H locs ls ⟨h', T', T1', T2', T3', K', z', P', C', _, X', wb_forget hW (by omega), hC', hP', w, hl⟩

set_option maxHeartbeats 4000000 in
set_option maxRecDepth 100000 in
theorem law_moveBlock {p : Program} {l : Launch} {e : Env} {s : State} {m : MethodId} {below : List Frame} {meth : Method} {c : Code} {Q : State → Prop} {b L : Nat} {xs : Nat → Int32} {g : GG} {c0 : Nat} {na be tr sn x o mb : Nat → Nat} {i N : Int} (C0 : LawCtx p s m c b L xs) (hi : 0 ≤ i ∧ i + 4 ≤ L) (hN : N + 250000 ≤ 200000000) {H : Heap} {locs : List Loc} {ls : Array Slot} (S0 : LawSt g s b c0 na be tr sn x o mb i N H locs ls) (kk : ∀ (H : Heap) (locs : List Loc) (ls : Array Slot), LawSt g s b c0 na be tr sn x o mb i (N + 210000) H locs ls → W p l e room_1 s m #[Value.ref b] below meth c H locs 600000 7302250 Q (F0 m 707 ls [])) : W p l e room_1 s m #[Value.ref b] below meth c H locs 600000 7302250 Q (F0 m 324 ls []) := by
  obtain ⟨hx, hb, hml, hown, hts, hX, hbl, hL⟩ := C0
  obtain ⟨h, T, T1, T2, T3, K, z, P, C, B, X, hW, hC, hP, w, hl⟩ := S0
  have hWm := hW.mono (show N ≤ N + 210000 from by omega) (by omega)
  obtain ⟨v1, hv1⟩ : ∃ v : Int, v = (xs (i + 1).toNat).toInt := ⟨_, rfl⟩
  have hr1 : -2147483648 ≤ v1 ∧ v1 ≤ 2147483647 := by rw [hv1]; exact x_rg _
  obtain ⟨v2, hv2⟩ : ∃ v : Int, v = (xs (i + 2).toNat).toInt := ⟨_, rfl⟩
  have hr2 : -2147483648 ≤ v2 ∧ v2 ≤ 2147483647 := by rw [hv2]; exact x_rg _
  obtain ⟨v3, hv3⟩ : ∃ v : Int, v = (xs (i + 3).toNat).toInt := ⟨_, rfl⟩
  have hr3 : -2147483648 ≤ v3 ∧ v3 ≤ 2147483647 := by rw [hv3]; exact x_rg _
  refine lv_aload_n hx hb dL_law_324 rfl (lv_at hl 1 rfl) ?_
  refine lv_aload_n hx hb dL_law_325 rfl (lv_at hl 0 rfl) ?_
  refine lv_iload_n hx hb dL_law_326 rfl (lv_at hl 3 rfl) ?_
  refine ri_iconst hx hb dL_law_327 ?_
  refine ri_iadd (z := i + 1) hx hb dL_law_328 rfl ?_
  refine ri_sld (v := v1) hx hb hX hbl hL w (j := i + 1) (by omega) hv1 dL_law_329 ?_
  refine cb_wV (bc := [wp_ws g c0 na be tr sn x h o T T1 T2 T3 K z P C]) (br := [mo_ws g mb B X]) (kb := 2) (As := [.int (iI v1)]) (rest := []) hx hb (hml.trans hl.1.symm) hown hts w lk_RL_40 (fun sz => t_X5_moveBlock l g c0 na be tr sn x h o T T1 T2 T3 K z P C N B v1 hW hC (by omega) (by omega) sz) [0, 1] (by decide) rfl rfl (fl1 _) (call_recv w (q0 := 0) rfl fX5.1) rfl rfl (Nat.le_of_ble_eq_true rfl) ⟨Nat.le_of_ble_eq_true rfl, Nat.le_of_ble_eq_true rfl⟩ ⟨Nat.le_of_ble_eq_true rfl, Nat.le_of_ble_eq_true rfl⟩ dL_law_330 (fun vv w1 H locs hr w => ?_)
  obtain ⟨rfl, h', T', T1', T2', T3', K', z', P', C', rfl, hC'⟩ := hr
  have w : Wd g (LA s) ([mo_ws g mb B X, wp_ws g c0 na be tr sn x h' o T' T1' T2' T3' K' z' P' C'] : List va_W).flatten s H locs := w
  refine lv_aload_n hx hb dL_law_333 rfl (lv_at hl 2 rfl) ?_
  refine lv_aload_n hx hb dL_law_334 rfl (lv_at hl 0 rfl) ?_
  refine lv_iload_n hx hb dL_law_335 rfl (lv_at hl 3 rfl) ?_
  refine ri_iconst hx hb dL_law_336 ?_
  refine ri_iadd (z := i + 1) hx hb dL_law_337 rfl ?_
  refine ri_sld (v := v1) hx hb hX hbl hL w (j := i + 1) (by omega) hv1 dL_law_338 ?_
  refine cb_wV (bc := [mo_ws g mb B X]) (br := [wp_ws g c0 na be tr sn x h' o T' T1' T2' T3' K' z' P' C']) (kb := 2) (As := [.int (iI v1)]) (rest := [.int (iI ((c_moveBlock B v1).1))]) hx hb (hml.trans hl.1.symm) hown hts w lk_RL_43 (fun sz => t_X6_moveBlock l g mb N B X v1 hW hP (by omega) (by omega) sz) [0, 1] (by decide) rfl rfl (fl1 _) (call_recv w (q0 := 0) rfl fX6.1) rfl rfl (Nat.le_of_ble_eq_true rfl) ⟨Nat.le_of_ble_eq_true rfl, Nat.le_of_ble_eq_true rfl⟩ ⟨Nat.le_of_ble_eq_true rfl, Nat.le_of_ble_eq_true rfl⟩ dL_law_339 (fun vv w1 H locs hr w => ?_)
  obtain ⟨rfl, X', rfl, hP'⟩ := hr
  have w : Wd g (LA s) ([wp_ws g c0 na be tr sn x h' o T' T1' T2' T3' K' z' P' C', mo_ws g mb (c_moveBlock B v1).2 X'] : List va_W).flatten s H locs := w
  refine lv_icmp_eq (tgt := 707) hx hb dL_law_342 (by decide) (fun _ => ?_) (fun q => absurd rfl q)
  exact kk H locs ls ⟨h', T', T1', T2', T3', K', z', P', C', _, X', wb_moveBlock hW (by omega), hC', hP', w, hl⟩

set_option maxHeartbeats 4000000 in
set_option maxRecDepth 100000 in
theorem law_pass {p : Program} {l : Launch} {e : Env} {s : State} {m : MethodId} {below : List Frame} {meth : Method} {c : Code} {Q : State → Prop} {b L : Nat} {xs : Nat → Int32} {g : GG} {c0 : Nat} {na be tr sn x o mb : Nat → Nat} {i N : Int} (C0 : LawCtx p s m c b L xs) (hi : 0 ≤ i ∧ i + 4 ≤ L) (hN : N + 250000 ≤ 200000000) {H : Heap} {locs : List Loc} {ls : Array Slot} (S0 : LawSt g s b c0 na be tr sn x o mb i N H locs ls) (kk : ∀ (H : Heap) (locs : List Loc) (ls : Array Slot), LawSt g s b c0 na be tr sn x o mb i (N + 210000) H locs ls → W p l e room_1 s m #[Value.ref b] below meth c H locs 600000 7302250 Q (F0 m 707 ls [])) : W p l e room_1 s m #[Value.ref b] below meth c H locs 600000 7302250 Q (F0 m 347 ls []) := by
  obtain ⟨hx, hb, hml, hown, hts, hX, hbl, hL⟩ := C0
  obtain ⟨h, T, T1, T2, T3, K, z, P, C, B, X, hW, hC, hP, w, hl⟩ := S0
  have hWm := hW.mono (show N ≤ N + 210000 from by omega) (by omega)
  obtain ⟨v1, hv1⟩ : ∃ v : Int, v = (xs (i + 1).toNat).toInt := ⟨_, rfl⟩
  have hr1 : -2147483648 ≤ v1 ∧ v1 ≤ 2147483647 := by rw [hv1]; exact x_rg _
  obtain ⟨v2, hv2⟩ : ∃ v : Int, v = (xs (i + 2).toNat).toInt := ⟨_, rfl⟩
  have hr2 : -2147483648 ≤ v2 ∧ v2 ≤ 2147483647 := by rw [hv2]; exact x_rg _
  obtain ⟨v3, hv3⟩ : ∃ v : Int, v = (xs (i + 3).toNat).toInt := ⟨_, rfl⟩
  have hr3 : -2147483648 ≤ v3 ∧ v3 ≤ 2147483647 := by rw [hv3]; exact x_rg _
  refine lv_aload_n hx hb dL_law_347 rfl (lv_at hl 1 rfl) ?_
  refine lv_aload_n hx hb dL_law_348 rfl (lv_at hl 0 rfl) ?_
  refine lv_iload_n hx hb dL_law_349 rfl (lv_at hl 3 rfl) ?_
  refine ri_iconst hx hb dL_law_350 ?_
  refine ri_iadd (z := i + 1) hx hb dL_law_351 rfl ?_
  refine ri_sld (v := v1) hx hb hX hbl hL w (j := i + 1) (by omega) hv1 dL_law_352 ?_
  refine cb_wV (bc := [wp_ws g c0 na be tr sn x h o T T1 T2 T3 K z P C]) (br := [mo_ws g mb B X]) (kb := 2) (As := [.int (iI v1)]) (rest := []) hx hb (hml.trans hl.1.symm) hown hts w lk_RL_44 (fun sz => t_X5_pass l g c0 na be tr sn x h o T T1 T2 T3 K z P C N B v1 hW hC (by omega) (by omega) sz) [0, 1] (by decide) rfl rfl (fl1 _) (call_recv w (q0 := 0) rfl fX5.1) rfl rfl (Nat.le_of_ble_eq_true rfl) ⟨Nat.le_of_ble_eq_true rfl, Nat.le_of_ble_eq_true rfl⟩ ⟨Nat.le_of_ble_eq_true rfl, Nat.le_of_ble_eq_true rfl⟩ dL_law_353 (fun vv w1 H locs hr w => ?_)
  obtain ⟨rfl, h', T', T1', T2', T3', K', z', P', C', rfl, hC'⟩ := hr
  have w : Wd g (LA s) ([mo_ws g mb B X, wp_ws g c0 na be tr sn x h' o T' T1' T2' T3' K' z' P' C'] : List va_W).flatten s H locs := w
  refine lv_aload_n hx hb dL_law_356 rfl (lv_at hl 2 rfl) ?_
  refine lv_aload_n hx hb dL_law_357 rfl (lv_at hl 0 rfl) ?_
  refine lv_iload_n hx hb dL_law_358 rfl (lv_at hl 3 rfl) ?_
  refine ri_iconst hx hb dL_law_359 ?_
  refine ri_iadd (z := i + 1) hx hb dL_law_360 rfl ?_
  refine ri_sld (v := v1) hx hb hX hbl hL w (j := i + 1) (by omega) hv1 dL_law_361 ?_
  refine cb_wV (bc := [mo_ws g mb B X]) (br := [wp_ws g c0 na be tr sn x h' o T' T1' T2' T3' K' z' P' C']) (kb := 2) (As := [.int (iI v1)]) (rest := [.int (iI ((c_pass B v1).1))]) hx hb (hml.trans hl.1.symm) hown hts w lk_RL_47 (fun sz => t_X6_pass l g mb N B X v1 hW hP (by omega) (by omega) sz) [0, 1] (by decide) rfl rfl (fl1 _) (call_recv w (q0 := 0) rfl fX6.1) rfl rfl (Nat.le_of_ble_eq_true rfl) ⟨Nat.le_of_ble_eq_true rfl, Nat.le_of_ble_eq_true rfl⟩ ⟨Nat.le_of_ble_eq_true rfl, Nat.le_of_ble_eq_true rfl⟩ dL_law_362 (fun vv w1 H locs hr w => ?_)
  obtain ⟨rfl, X', rfl, hP'⟩ := hr
  have w : Wd g (LA s) ([wp_ws g c0 na be tr sn x h' o T' T1' T2' T3' K' z' P' C', mo_ws g mb (c_pass B v1).2 X'] : List va_W).flatten s H locs := w
  refine lv_icmp_eq (tgt := 707) hx hb dL_law_365 (by decide) (fun _ => ?_) (fun q => absurd rfl q)
  exact kk H locs ls ⟨h', T', T1', T2', T3', K', z', P', C', _, X', wb_pass hW (by omega), hC', hP', w, hl⟩

set_option maxHeartbeats 4000000 in
set_option maxRecDepth 100000 in
theorem law_type {p : Program} {l : Launch} {e : Env} {s : State} {m : MethodId} {below : List Frame} {meth : Method} {c : Code} {Q : State → Prop} {b L : Nat} {xs : Nat → Int32} {g : GG} {c0 : Nat} {na be tr sn x o mb : Nat → Nat} {i N : Int} (C0 : LawCtx p s m c b L xs) (hi : 0 ≤ i ∧ i + 4 ≤ L) (hN : N + 250000 ≤ 200000000) {H : Heap} {locs : List Loc} {ls : Array Slot} (S0 : LawSt g s b c0 na be tr sn x o mb i N H locs ls) (kk : ∀ (H : Heap) (locs : List Loc) (ls : Array Slot), LawSt g s b c0 na be tr sn x o mb i (N + 210000) H locs ls → W p l e room_1 s m #[Value.ref b] below meth c H locs 600000 7302250 Q (F0 m 707 ls [])) : W p l e room_1 s m #[Value.ref b] below meth c H locs 600000 7302250 Q (F0 m 370 ls []) := by
  obtain ⟨hx, hb, hml, hown, hts, hX, hbl, hL⟩ := C0
  obtain ⟨h, T, T1, T2, T3, K, z, P, C, B, X, hW, hC, hP, w, hl⟩ := S0
  have hWm := hW.mono (show N ≤ N + 210000 from by omega) (by omega)
  obtain ⟨v1, hv1⟩ : ∃ v : Int, v = (xs (i + 1).toNat).toInt := ⟨_, rfl⟩
  have hr1 : -2147483648 ≤ v1 ∧ v1 ≤ 2147483647 := by rw [hv1]; exact x_rg _
  obtain ⟨v2, hv2⟩ : ∃ v : Int, v = (xs (i + 2).toNat).toInt := ⟨_, rfl⟩
  have hr2 : -2147483648 ≤ v2 ∧ v2 ≤ 2147483647 := by rw [hv2]; exact x_rg _
  obtain ⟨v3, hv3⟩ : ∃ v : Int, v = (xs (i + 3).toNat).toInt := ⟨_, rfl⟩
  have hr3 : -2147483648 ≤ v3 ∧ v3 ≤ 2147483647 := by rw [hv3]; exact x_rg _
  obtain ⟨zc, hzc⟩ : ∃ z : Int, z = ((iI v1).toUInt32 % 65536).toInt32.toInt := ⟨_, rfl⟩
  have hrc : 0 ≤ zc ∧ zc ≤ 65535 := by rw [hzc]; exact chr_rg _
  refine lv_aload_n hx hb dL_law_370 rfl (lv_at hl 1 rfl) ?_
  refine lv_aload_n hx hb dL_law_371 rfl (lv_at hl 0 rfl) ?_
  refine lv_iload_n hx hb dL_law_372 rfl (lv_at hl 3 rfl) ?_
  refine ri_iconst hx hb dL_law_373 ?_
  refine ri_iadd (z := i + 1) hx hb dL_law_374 rfl ?_
  refine ri_sld (v := v1) hx hb hX hbl hL w (j := i + 1) (by omega) hv1 dL_law_375 ?_
  refine ri_chr (z := zc) hx hb hzc dL_law_376 ?_
  refine cb_wV (bc := [wp_ws g c0 na be tr sn x h o T T1 T2 T3 K z P C]) (br := [mo_ws g mb B X]) (kb := 2) (As := [.int (iI zc)]) (rest := []) hx hb (hml.trans hl.1.symm) hown hts w lk_RL_48 (fun sz => t_X5_type l g c0 na be tr sn x h o T T1 T2 T3 K z P C N B zc hW hC (by omega) sz) [0, 1] (by decide) rfl rfl (fl1 _) (call_recv w (q0 := 0) rfl fX5.1) rfl rfl (Nat.le_of_ble_eq_true rfl) ⟨Nat.le_of_ble_eq_true rfl, Nat.le_of_ble_eq_true rfl⟩ ⟨Nat.le_of_ble_eq_true rfl, Nat.le_of_ble_eq_true rfl⟩ dL_law_377 (fun vv w1 H locs hr w => ?_)
  obtain ⟨rfl, h', T', T1', T2', T3', K', z', P', C', rfl, hC'⟩ := hr
  have w : Wd g (LA s) ([mo_ws g mb B X, wp_ws g c0 na be tr sn x h' o T' T1' T2' T3' K' z' P' C'] : List va_W).flatten s H locs := w
  refine lv_aload_n hx hb dL_law_380 rfl (lv_at hl 2 rfl) ?_
  refine lv_aload_n hx hb dL_law_381 rfl (lv_at hl 0 rfl) ?_
  refine lv_iload_n hx hb dL_law_382 rfl (lv_at hl 3 rfl) ?_
  refine ri_iconst hx hb dL_law_383 ?_
  refine ri_iadd (z := i + 1) hx hb dL_law_384 rfl ?_
  refine ri_sld (v := v1) hx hb hX hbl hL w (j := i + 1) (by omega) hv1 dL_law_385 ?_
  refine ri_chr (z := zc) hx hb hzc dL_law_386 ?_
  refine cb_wV (bc := [mo_ws g mb B X]) (br := [wp_ws g c0 na be tr sn x h' o T' T1' T2' T3' K' z' P' C']) (kb := 2) (As := [.int (iI zc)]) (rest := [.int (iI ((c_type B zc).1))]) hx hb (hml.trans hl.1.symm) hown hts w lk_RL_52 (fun sz => t_X6_type l g mb N B X zc hW hP (by omega) sz) [0, 1] (by decide) rfl rfl (fl1 _) (call_recv w (q0 := 0) rfl fX6.1) rfl rfl (Nat.le_of_ble_eq_true rfl) ⟨Nat.le_of_ble_eq_true rfl, Nat.le_of_ble_eq_true rfl⟩ ⟨Nat.le_of_ble_eq_true rfl, Nat.le_of_ble_eq_true rfl⟩ dL_law_387 (fun vv w1 H locs hr w => ?_)
  obtain ⟨rfl, X', rfl, hP'⟩ := hr
  have w : Wd g (LA s) ([wp_ws g c0 na be tr sn x h' o T' T1' T2' T3' K' z' P' C', mo_ws g mb (c_type B zc).2 X'] : List va_W).flatten s H locs := w
  refine lv_icmp_eq (tgt := 707) hx hb dL_law_390 (by decide) (fun _ => ?_) (fun q => absurd rfl q)
  exact kk H locs ls ⟨h', T', T1', T2', T3', K', z', P', C', _, X', wb_type hW hrc (by omega), hC', hP', w, hl⟩

set_option maxHeartbeats 4000000 in
set_option maxRecDepth 100000 in
theorem law_clearText {p : Program} {l : Launch} {e : Env} {s : State} {m : MethodId} {below : List Frame} {meth : Method} {c : Code} {Q : State → Prop} {b L : Nat} {xs : Nat → Int32} {g : GG} {c0 : Nat} {na be tr sn x o mb : Nat → Nat} {i N : Int} (C0 : LawCtx p s m c b L xs) (hi : 0 ≤ i ∧ i + 4 ≤ L) (hN : N + 250000 ≤ 200000000) {H : Heap} {locs : List Loc} {ls : Array Slot} (S0 : LawSt g s b c0 na be tr sn x o mb i N H locs ls) (kk : ∀ (H : Heap) (locs : List Loc) (ls : Array Slot), LawSt g s b c0 na be tr sn x o mb i (N + 210000) H locs ls → W p l e room_1 s m #[Value.ref b] below meth c H locs 600000 7302250 Q (F0 m 707 ls [])) : W p l e room_1 s m #[Value.ref b] below meth c H locs 600000 7302250 Q (F0 m 395 ls []) := by
  obtain ⟨hx, hb, hml, hown, hts, hX, hbl, hL⟩ := C0
  obtain ⟨h, T, T1, T2, T3, K, z, P, C, B, X, hW, hC, hP, w, hl⟩ := S0
  have hWm := hW.mono (show N ≤ N + 210000 from by omega) (by omega)
  obtain ⟨v1, hv1⟩ : ∃ v : Int, v = (xs (i + 1).toNat).toInt := ⟨_, rfl⟩
  have hr1 : -2147483648 ≤ v1 ∧ v1 ≤ 2147483647 := by rw [hv1]; exact x_rg _
  obtain ⟨v2, hv2⟩ : ∃ v : Int, v = (xs (i + 2).toNat).toInt := ⟨_, rfl⟩
  have hr2 : -2147483648 ≤ v2 ∧ v2 ≤ 2147483647 := by rw [hv2]; exact x_rg _
  obtain ⟨v3, hv3⟩ : ∃ v : Int, v = (xs (i + 3).toNat).toInt := ⟨_, rfl⟩
  have hr3 : -2147483648 ≤ v3 ∧ v3 ≤ 2147483647 := by rw [hv3]; exact x_rg _
  refine lv_aload_n hx hb dL_law_395 rfl (lv_at hl 1 rfl) ?_
  refine cb_wV (bc := [wp_ws g c0 na be tr sn x h o T T1 T2 T3 K z P C]) (br := [mo_ws g mb B X]) (kb := 2) (As := []) (rest := []) hx hb (hml.trans hl.1.symm) hown hts w lk_RL_53 (fun sz => t_X5_clearText l g c0 na be tr sn x h o T T1 T2 T3 K z P C N B hW hC sz) [0, 1] (by decide) rfl rfl (fl1 _) (call_recv w (q0 := 0) rfl fX5.1) rfl rfl (Nat.le_of_ble_eq_true rfl) ⟨Nat.le_of_ble_eq_true rfl, Nat.le_of_ble_eq_true rfl⟩ ⟨Nat.le_of_ble_eq_true rfl, Nat.le_of_ble_eq_true rfl⟩ dL_law_396 (fun vv w1 H locs hr w => ?_)
  obtain ⟨rfl, h', T', T1', T2', T3', K', z', P', C', rfl, hC'⟩ := hr
  have w : Wd g (LA s) ([mo_ws g mb B X, wp_ws g c0 na be tr sn x h' o T' T1' T2' T3' K' z' P' C'] : List va_W).flatten s H locs := w
  refine lv_aload_n hx hb dL_law_399 rfl (lv_at hl 2 rfl) ?_
  refine cb_wV (bc := [mo_ws g mb B X]) (br := [wp_ws g c0 na be tr sn x h' o T' T1' T2' T3' K' z' P' C']) (kb := 2) (As := []) (rest := [.int (iI ((c_clear B).1))]) hx hb (hml.trans hl.1.symm) hown hts w lk_RL_57 (fun sz => t_X6_clearText l g mb N B X hW hP sz) [0, 1] (by decide) rfl rfl (fl1 _) (call_recv w (q0 := 0) rfl fX6.1) rfl rfl (Nat.le_of_ble_eq_true rfl) ⟨Nat.le_of_ble_eq_true rfl, Nat.le_of_ble_eq_true rfl⟩ ⟨Nat.le_of_ble_eq_true rfl, Nat.le_of_ble_eq_true rfl⟩ dL_law_400 (fun vv w1 H locs hr w => ?_)
  obtain ⟨rfl, X', rfl, hP'⟩ := hr
  have w : Wd g (LA s) ([wp_ws g c0 na be tr sn x h' o T' T1' T2' T3' K' z' P' C', mo_ws g mb (c_clear B).2 X'] : List va_W).flatten s H locs := w
  refine lv_icmp_eq (tgt := 707) hx hb dL_law_403 (by decide) (fun _ => ?_) (fun q => absurd rfl q)
  exact kk H locs ls ⟨h', T', T1', T2', T3', K', z', P', C', _, X', wb_clear hW (by omega), hC', hP', w, hl⟩

set_option maxHeartbeats 4000000 in
set_option maxRecDepth 100000 in
theorem law_perform {p : Program} {l : Launch} {e : Env} {s : State} {m : MethodId} {below : List Frame} {meth : Method} {c : Code} {Q : State → Prop} {b L : Nat} {xs : Nat → Int32} {g : GG} {c0 : Nat} {na be tr sn x o mb : Nat → Nat} {i N : Int} (C0 : LawCtx p s m c b L xs) (hi : 0 ≤ i ∧ i + 4 ≤ L) (hN : N + 250000 ≤ 200000000) {H : Heap} {locs : List Loc} {ls : Array Slot} (S0 : LawSt g s b c0 na be tr sn x o mb i N H locs ls) (kk : ∀ (H : Heap) (locs : List Loc) (ls : Array Slot), LawSt g s b c0 na be tr sn x o mb i (N + 210000) H locs ls → W p l e room_1 s m #[Value.ref b] below meth c H locs 600000 7302250 Q (F0 m 707 ls [])) : W p l e room_1 s m #[Value.ref b] below meth c H locs 600000 7302250 Q (F0 m 408 ls []) := by
  obtain ⟨hx, hb, hml, hown, hts, hX, hbl, hL⟩ := C0
  obtain ⟨h, T, T1, T2, T3, K, z, P, C, B, X, hW, hC, hP, w, hl⟩ := S0
  have hWm := hW.mono (show N ≤ N + 210000 from by omega) (by omega)
  obtain ⟨v1, hv1⟩ : ∃ v : Int, v = (xs (i + 1).toNat).toInt := ⟨_, rfl⟩
  have hr1 : -2147483648 ≤ v1 ∧ v1 ≤ 2147483647 := by rw [hv1]; exact x_rg _
  obtain ⟨v2, hv2⟩ : ∃ v : Int, v = (xs (i + 2).toNat).toInt := ⟨_, rfl⟩
  have hr2 : -2147483648 ≤ v2 ∧ v2 ≤ 2147483647 := by rw [hv2]; exact x_rg _
  obtain ⟨v3, hv3⟩ : ∃ v : Int, v = (xs (i + 3).toNat).toInt := ⟨_, rfl⟩
  have hr3 : -2147483648 ≤ v3 ∧ v3 ≤ 2147483647 := by rw [hv3]; exact x_rg _
  refine lv_aload_n hx hb dL_law_408 rfl (lv_at hl 1 rfl) ?_
  refine cb_wV (bc := [wp_ws g c0 na be tr sn x h o T T1 T2 T3 K z P C]) (br := [mo_ws g mb B X]) (kb := 2) (As := []) (rest := []) hx hb (hml.trans hl.1.symm) hown hts w lk_RL_58 (fun sz => t_X5_perform l g c0 na be tr sn x h o T T1 T2 T3 K z P C N B hW hC (by omega) sz) [0, 1] (by decide) rfl rfl (fl1 _) (call_recv w (q0 := 0) rfl fX5.1) rfl rfl (Nat.le_of_ble_eq_true rfl) ⟨Nat.le_of_ble_eq_true rfl, Nat.le_of_ble_eq_true rfl⟩ ⟨Nat.le_of_ble_eq_true rfl, Nat.le_of_ble_eq_true rfl⟩ dL_law_409 (fun vv w1 H locs hr w => ?_)
  obtain ⟨rfl, h', T', T1', T2', T3', K', z', P', C', rfl, hC'⟩ := hr
  have w : Wd g (LA s) ([mo_ws g mb B X, wp_ws g c0 na be tr sn x h' o T' T1' T2' T3' K' z' P' C'] : List va_W).flatten s H locs := w
  refine lv_aload_n hx hb dL_law_412 rfl (lv_at hl 2 rfl) ?_
  refine cb_wV (bc := [mo_ws g mb B X]) (br := [wp_ws g c0 na be tr sn x h' o T' T1' T2' T3' K' z' P' C']) (kb := 2) (As := []) (rest := [.int (iI ((c_perform B).1))]) hx hb (hml.trans hl.1.symm) hown hts w lk_RL_61 (fun sz => t_X6_perform l g mb N B X hW hP (by omega) sz) [0, 1] (by decide) rfl rfl (fl1 _) (call_recv w (q0 := 0) rfl fX6.1) rfl rfl (Nat.le_of_ble_eq_true rfl) ⟨Nat.le_of_ble_eq_true rfl, Nat.le_of_ble_eq_true rfl⟩ ⟨Nat.le_of_ble_eq_true rfl, Nat.le_of_ble_eq_true rfl⟩ dL_law_413 (fun vv w1 H locs hr w => ?_)
  obtain ⟨rfl, X', rfl, hP'⟩ := hr
  have w : Wd g (LA s) ([wp_ws g c0 na be tr sn x h' o T' T1' T2' T3' K' z' P' C', mo_ws g mb (c_perform B).2 X'] : List va_W).flatten s H locs := w
  refine lv_icmp_eq (tgt := 707) hx hb dL_law_416 (by decide) (fun _ => ?_) (fun q => absurd rfl q)
  exact kk H locs ls ⟨h', T', T1', T2', T3', K', z', P', C', _, X', wb_perform hW (by omega), hC', hP', w, hl⟩

set_option maxHeartbeats 4000000 in
set_option maxRecDepth 100000 in
theorem law_refusal {p : Program} {l : Launch} {e : Env} {s : State} {m : MethodId} {below : List Frame} {meth : Method} {c : Code} {Q : State → Prop} {b L : Nat} {xs : Nat → Int32} {g : GG} {c0 : Nat} {na be tr sn x o mb : Nat → Nat} {i N : Int} (C0 : LawCtx p s m c b L xs) (hi : 0 ≤ i ∧ i + 4 ≤ L) (hN : N + 250000 ≤ 200000000) {H : Heap} {locs : List Loc} {ls : Array Slot} (S0 : LawSt g s b c0 na be tr sn x o mb i N H locs ls) (kk : ∀ (H : Heap) (locs : List Loc) (ls : Array Slot), LawSt g s b c0 na be tr sn x o mb i (N + 210000) H locs ls → W p l e room_1 s m #[Value.ref b] below meth c H locs 600000 7302250 Q (F0 m 707 ls [])) : W p l e room_1 s m #[Value.ref b] below meth c H locs 600000 7302250 Q (F0 m 421 ls []) := by
  obtain ⟨hx, hb, hml, hown, hts, hX, hbl, hL⟩ := C0
  obtain ⟨h, T, T1, T2, T3, K, z, P, C, B, X, hW, hC, hP, w, hl⟩ := S0
  have hWm := hW.mono (show N ≤ N + 210000 from by omega) (by omega)
  obtain ⟨v1, hv1⟩ : ∃ v : Int, v = (xs (i + 1).toNat).toInt := ⟨_, rfl⟩
  have hr1 : -2147483648 ≤ v1 ∧ v1 ≤ 2147483647 := by rw [hv1]; exact x_rg _
  obtain ⟨v2, hv2⟩ : ∃ v : Int, v = (xs (i + 2).toNat).toInt := ⟨_, rfl⟩
  have hr2 : -2147483648 ≤ v2 ∧ v2 ≤ 2147483647 := by rw [hv2]; exact x_rg _
  obtain ⟨v3, hv3⟩ : ∃ v : Int, v = (xs (i + 3).toNat).toInt := ⟨_, rfl⟩
  have hr3 : -2147483648 ≤ v3 ∧ v3 ≤ 2147483647 := by rw [hv3]; exact x_rg _
  refine lv_aload_n hx hb dL_law_421 rfl (lv_at hl 1 rfl) ?_
  refine lv_aload_n hx hb dL_law_422 rfl (lv_at hl 0 rfl) ?_
  refine lv_iload_n hx hb dL_law_423 rfl (lv_at hl 3 rfl) ?_
  refine ri_iconst hx hb dL_law_424 ?_
  refine ri_iadd (z := i + 1) hx hb dL_law_425 rfl ?_
  refine ri_sld (v := v1) hx hb hX hbl hL w (j := i + 1) (by omega) hv1 dL_law_426 ?_
  refine cb_rV (bc := [wp_ws g c0 na be tr sn x h o T T1 T2 T3 K z P C]) (br := [mo_ws g mb B X]) (kb := 2) (As := [.int (iI v1)]) (rest := []) hx hb (hml.trans hl.1.symm) hown hts w lk_RL_62 (t_X5_refusal l g c0 na be tr sn x h o T T1 T2 T3 K z P C N B v1 hW hC (by omega)) [0, 1] (by decide) rfl rfl (fl1 _) (call_recv w (q0 := 0) rfl fX5.1) rfl rfl (Nat.le_of_ble_eq_true rfl) ⟨Nat.le_of_ble_eq_true rfl, Nat.le_of_ble_eq_true rfl⟩ ⟨Nat.le_of_ble_eq_true rfl, Nat.le_of_ble_eq_true rfl⟩ dL_law_427 ?_
  refine lv_aload_n hx hb dL_law_430 rfl (lv_at hl 2 rfl) ?_
  refine lv_aload_n hx hb dL_law_431 rfl (lv_at hl 0 rfl) ?_
  refine lv_iload_n hx hb dL_law_432 rfl (lv_at hl 3 rfl) ?_
  refine ri_iconst hx hb dL_law_433 ?_
  refine ri_iadd (z := i + 1) hx hb dL_law_434 rfl ?_
  refine ri_sld (v := v1) hx hb hX hbl hL w (j := i + 1) (by omega) hv1 dL_law_435 ?_
  refine cb_rV (bc := [mo_ws g mb B X]) (br := [wp_ws g c0 na be tr sn x h o T T1 T2 T3 K z P C]) (kb := 2) (As := [.int (iI v1)]) (rest := [.int (iI (c_refusal B v1))]) hx hb (hml.trans hl.1.symm) hown hts w lk_RL_65 (t_X6_refusal l g mb N B X v1 hW (by omega)) [1, 0] (by decide) rfl rfl (fl1 _) (call_recv (w.blk (bc := [mo_ws g mb B X, wp_ws g c0 na be tr sn x h o T T1 T2 T3 K z P C]) (k := 2) [1, 0] (by decide) rfl rfl) (q0 := 0) rfl fX6.1) rfl rfl (Nat.le_of_ble_eq_true rfl) ⟨Nat.le_of_ble_eq_true rfl, Nat.le_of_ble_eq_true rfl⟩ ⟨Nat.le_of_ble_eq_true rfl, Nat.le_of_ble_eq_true rfl⟩ dL_law_436 ?_
  refine lv_icmp_eq (tgt := 707) hx hb dL_law_439 (by decide) (fun _ => ?_) (fun q => absurd rfl q)
  exact kk H locs ls ⟨h, T, T1, T2, T3, K, z, P, C, B, X, hWm, hC, hP, w, hl⟩
