/-! the law's loop -/
def LawCtx (p : Program) (s : State) (m : MethodId) (c : Code) (sb L : Nat) (xs : Nat → Int32) : Prop := p.tables.exec = Jvm.exec ∧ c.code = cL_law ∧ c.maxLocals = 13 ∧ s.vm.findClass RL = some m.cls ∧ (∀ w ∈ W0, w.before #[Value.ref sb] s = true) ∧ va_X sb L xs s s.heap ∧ sb < s.heap.size ∧ L ≤ 260
/-- the object and one book of it, at the head of the loop -/
def LawSt (g : GG) (s : State) (sb c0 : Nat) (na be tr sn x o : Nat → Nat) (tn i N : Int) (H : Heap) (locs : List Loc) (ls : Array Slot) : Prop := ∃ (h : Nat → Nat → Nat) (T T1 T2 T3 : Nat → Int → Int) (K : Nat → Nat → Int → Int) (z : Int) (P : Nat → Int → Int) (C : Nat → Int) (B : Nat → Int → Int), WB N B ∧ BB B ∧ RelC B T T3 K z P C ∧ Wd g (LA s) (wp_ws g c0 na be tr sn x h o T T1 T2 T3 K z P C) s H locs ∧ lv_has ls 13 [(0, .ref sb), (1, .ref c0), (2, .int (iI 1)), (3, .int (iI tn)), (4, .int (iI i))]
theorem page1_rg {N : Int} {F : Int → Int} (h : WF N F) (p : Int) : -300000000 ≤ c_page F p 1 ∧ c_page F p 1 ≤ 300000000 := by
  have hb := h.bd (3 * r_placeOf F p + 66)
  unfold c_page
  split
  · omega
  · split
    · omega
    · split
      · omega
      · split
        · omega
        · split
          · omega
          · split
            · omega
            · split
              · omega
              · omega
set_option maxHeartbeats 4000000 in
set_option maxRecDepth 100000 in
theorem law_tail {p : Program} {l : Launch} {e : Env} {s : State} {m : MethodId} {below : List Frame} {meth : Method} {c : Code} {Q : State → Prop} {sb L : Nat} {xs : Nat → Int32} {g : GG} {c0 : Nat} {na be tr sn x o : Nat → Nat} {tn i N : Int} (C0 : LawCtx p s m c sb L xs) (hi : 0 ≤ i ∧ i ≤ 1000) (kk : ∀ (H : Heap) (locs : List Loc) (ls : Array Slot), LawSt g s sb c0 na be tr sn x o tn (i + 1) (N + 210000) H locs ls → W p l e room_1 s m #[Value.ref sb] below meth c H locs 600000 7302250 Q (F0 m 32 ls [])) {H : Heap} {locs : List Loc} {ls : Array Slot} (S0 : LawSt g s sb c0 na be tr sn x o tn i (N + 210000) H locs ls) : W p l e room_1 s m #[Value.ref sb] below meth c H locs 600000 7302250 Q (F0 m 331 ls []) := by
  obtain ⟨hx, hb, hml, hown, hts, hX, hbl, hL⟩ := C0
  obtain ⟨h', T', T1', T2', T3', K', z', P', C', B', hW', hB', hC', w, hl⟩ := S0
  refine lv_iload_n hx hb dL_law_331 rfl (lv_at hl 2 rfl) ?_
  refine ri_if_eq (tgt := 353) hx hb dL_law_332 (by decide) (by omega) (fun c1 => ?_) (fun c1 => ?_)
  · exact absurd c1 (by omega)
  refine lv_aload_n hx hb dL_law_335 rfl (lv_at hl 1 rfl) ?_
  refine cs_r (As := [.ref c0]) (rest := []) hx hb (hml.trans hl.1.symm) hown hts w lk_RL_78 (t_L_store l g c0 na be tr sn x h' o T' T1' T2' T3' K' z' P' C' (N + 210000) B' hW' hC') rfl rfl (Nat.le_of_ble_eq_true rfl) ⟨Nat.le_of_ble_eq_true rfl, Nat.le_of_ble_eq_true rfl⟩ ⟨Nat.le_of_ble_eq_true rfl, Nat.le_of_ble_eq_true rfl⟩ dL_law_336 ?_
  refine ri_if_eq (tgt := 353) hx hb dL_law_339 (by decide) (by omega) (fun c2 => ?_) (fun c2 => ?_)
  · exact absurd c2 (by omega)
  refine lv_aload_n hx hb dL_law_342 rfl (lv_at hl 1 rfl) ?_
  refine cs_r (As := [.ref c0]) (rest := []) hx hb (hml.trans hl.1.symm) hown hts w lk_RL_82 (t_L_buffer l g c0 na be tr sn x h' o T' T1' T2' T3' K' z' P' C' (N + 210000) B' hW' hC' hB'.1) rfl rfl (Nat.le_of_ble_eq_true rfl) ⟨Nat.le_of_ble_eq_true rfl, Nat.le_of_ble_eq_true rfl⟩ ⟨Nat.le_of_ble_eq_true rfl, Nat.le_of_ble_eq_true rfl⟩ dL_law_343 ?_
  refine ri_if_eq (tgt := 353) hx hb dL_law_346 (by decide) (by omega) (fun c3 => ?_) (fun c3 => ?_)
  · exact absurd c3 (by omega)
  refine ri_iconst hx hb dL_law_349 ?_
  refine lv_goto (tgt := 354) hx hb dL_law_350 (by decide) ?_
  refine lv_istore_n (lv' := [(2, .int (iI 1)), (0, .ref sb), (1, .ref c0), (3, .int (iI tn)), (4, .int (iI i))]) hx hb dL_law_354 rfl hl (by decide) rfl (fun ls hl => ?_)
  refine ri_iinc (k := 4) (z := i + 1) (lv' := [(4, .int (iI (i + 1))), (2, .int (iI 1)), (0, .ref sb), (1, .ref c0), (3, .int (iI tn))]) hx hb dL_law_355 hl rfl (by omega) (by decide) rfl (fun ls hl => ?_)
  refine lv_goto (tgt := 32) hx hb dL_law_358 (by decide) ?_
  exact kk H locs ls ⟨h', T', T1', T2', T3', K', z', P', C', B', hW', hB', hC', w, (lv_sub hl [2, 3, 1, 4, 0] rfl)⟩
set_option maxHeartbeats 4000000 in
set_option maxRecDepth 100000 in
theorem law_body {p : Program} {l : Launch} {e : Env} {s : State} {m : MethodId} {below : List Frame} {meth : Method} {c : Code} {Q : State → Prop} {sb L : Nat} {xs : Nat → Int32} {g : GG} {c0 : Nat} {na be tr sn x o : Nat → Nat} {tn i N : Int} (C0 : LawCtx p s m c sb L xs) (hi : 0 ≤ i ∧ i ≤ 1000) (htn : i < tn ∧ tn ≤ 1000) (hN : N + 250000 ≤ 200000000) (kk : ∀ (H : Heap) (locs : List Loc) (ls : Array Slot), LawSt g s sb c0 na be tr sn x o tn (i + 1) (N + 210000) H locs ls → W p l e room_1 s m #[Value.ref sb] below meth c H locs 600000 7302250 Q (F0 m 32 ls [])) {H : Heap} {locs : List Loc} {ls : Array Slot} (S0 : LawSt g s sb c0 na be tr sn x o tn i N H locs ls) : W p l e room_1 s m #[Value.ref sb] below meth c H locs 600000 7302250 Q (F0 m 32 ls []) := by
  have kt := fun (H : Heap) (locs : List Loc) (ls : Array Slot) (S1 : LawSt g s sb c0 na be tr sn x o tn i (N + 210000) H locs ls) => law_tail C0 hi kk S1
  obtain ⟨hx, hb, hml, hown, hts, hX, hbl, hL⟩ := C0
  have hbA : ¬ LA s sb := Nat.not_le.mpr hbl
  obtain ⟨h, T, T1, T2, T3, K, z, P, C, B, hW, hB, hC, w, hl⟩ := S0
  obtain ⟨t, ht⟩ : ∃ v, v = x_low (x_cell L xs (3 * i)) 16 := ⟨_, rfl⟩
  obtain ⟨a, ha⟩ : ∃ v, v = x_cell L xs (3 * i + 1) := ⟨_, rfl⟩
  obtain ⟨bv, hbv⟩ : ∃ v, v = x_cell L xs (3 * i + 2) := ⟨_, rfl⟩
  have htr : 0 ≤ t ∧ t < 16 := by rw [ht]; exact low_lt _ (by omega)
  obtain ⟨u, B', hab⟩ : ∃ u B', a_act B t a bv = (u, B') := ⟨_, _, rfl⟩
  have hW' : WB (N + 210000) B' := by have q := a_wb (t := t) (a := a) (b := bv) hW (by omega); rw [hab] at q; exact q
  have hB' : BB B' := by have q := a_bb (t := t) (a := a) (b := bv) hW hB (by omega); rw [hab] at q; exact q
  have hE : (u < 0 → B' = B) ∧ -300000000 ≤ u ∧ u ≤ 300000000 := by have q := a_err (t := t) (a := a) (b := bv) hW hB; rw [hab] at q; exact q
  have hk := hW.k
  have hk' := hW'.k
  have d0 := hW.1.bd 0
  have d9 := hW.1.bd 9
  have d10 := hW.1.bd 10
  have d0' := hW'.1.bd 0
  have d9' := hW'.1.bd 9
  have d10' := hW'.1.bd 10
  have hs' := hW'.1.se
  have eq8 : u < 0 → B' 8 0 = B 8 0 := fun q => by rw [hE.1 q]
  have eq0 : u < 0 → B' 0 0 = B 0 0 := fun q => by rw [hE.1 q]
  have eq9 : u < 0 → B' 0 9 = B 0 9 := fun q => by rw [hE.1 q]
  have eq10 : u < 0 → B' 0 10 = B 0 10 := fun q => by rw [hE.1 q]
  have J127 : ¬ (4 ≤ t ∧ t < 8) → ∀ ls : Array Slot, lv_has ls 13 [(8, .int (iI (B 0 10))), (7, .int (iI (B 0 9))), (6, .int (iI (B 0 0))), (5, .int (iI (B 8 0))), (0, .ref sb), (1, .ref c0), (2, .int (iI 1)), (3, .int (iI tn)), (4, .int (iI i))] → W p l e room_1 s m #[Value.ref sb] below meth c H locs 600000 7302250 Q (F0 m 127 ls [.int (iI (-1))]) := by
    intro hnr ls hl
    refine lv_istore (lv' := [(9, .int (iI (-1))), (8, .int (iI (B 0 10))), (7, .int (iI (B 0 9))), (6, .int (iI (B 0 0))), (5, .int (iI (B 8 0))), (0, .ref sb), (1, .ref c0), (2, .int (iI 1)), (3, .int (iI tn)), (4, .int (iI i))]) hx hb dL_law_127 hl (by decide) rfl (fun ls hl => ?_)
    refine lv_iload hx hb dL_law_129 (lv_at hl 0 rfl) ?_
    refine ri_if_lt (tgt := 148) hx hb dL_law_131 (by decide) (by omega) (fun c4 => ?_) (fun c4 => ?_)
    · refine ri_iconst hx hb dL_law_148 ?_
      refine lv_istore (lv' := [(10, .int (iI 0)), (9, .int (iI (-1))), (8, .int (iI (B 0 10))), (7, .int (iI (B 0 9))), (6, .int (iI (B 0 0))), (5, .int (iI (B 8 0))), (0, .ref sb), (1, .ref c0), (2, .int (iI 1)), (3, .int (iI tn)), (4, .int (iI i))]) hx hb dL_law_149 hl (by decide) rfl (fun ls hl => ?_)
      refine lv_iload hx hb dL_law_151 (lv_at hl 1 rfl) ?_
      refine ri_if_lt (tgt := 166) hx hb dL_law_153 (by decide) (by omega) (fun c5 => ?_) (fun c5 => ?_)
      · refine ri_iconst hx hb dL_law_166 ?_
        refine lv_istore (lv' := [(11, .int (iI 0)), (10, .int (iI 0)), (9, .int (iI (-1))), (8, .int (iI (B 0 10))), (7, .int (iI (B 0 9))), (6, .int (iI (B 0 0))), (5, .int (iI (B 8 0))), (0, .ref sb), (1, .ref c0), (2, .int (iI 1)), (3, .int (iI tn)), (4, .int (iI i))]) hx hb dL_law_167 hl (by decide) rfl (fun ls hl => ?_)
        refine lv_aload_n hx hb dL_law_169 rfl (lv_at hl 8 rfl) ?_
        refine lv_aload_n hx hb dL_law_170 rfl (lv_at hl 7 rfl) ?_
        refine ri_iconst hx hb dL_law_171 ?_
        refine lv_iload hx hb dL_law_172 (lv_at hl 11 rfl) ?_
        refine ri_imul (z := 3 * i) hx hb dL_law_174 (by omega) ?_
        refine call_aS (As := [.ref c0, .ref sb, .int (iI (3 * i))]) (rest := []) hx hb (hml.trans hl.1.symm) hown hts w hX hbl hbA lk_RL_74 (fun sz => t_L_act l g c0 na be tr sn x h o T T1 T2 T3 K z P C N B sb L xs (3 * i) hW hC (by omega) (by omega) (by omega) sz) rfl rfl (Nat.le_of_ble_eq_true rfl) ⟨Nat.le_of_ble_eq_true rfl, Nat.le_of_ble_eq_true rfl⟩ ⟨Nat.le_of_ble_eq_true rfl, Nat.le_of_ble_eq_true rfl⟩ dL_law_175 (fun vv w1 H locs hr w => ?_)
        rw [← ht, ← ha, ← hbv, hab] at hr
        obtain ⟨rfl, h', T', T1', T2', T3', K', z', P', C', rfl, hC'⟩ := hr
        refine lv_istore (lv' := [(12, .int (iI u)), (11, .int (iI 0)), (10, .int (iI 0)), (9, .int (iI (-1))), (8, .int (iI (B 0 10))), (7, .int (iI (B 0 9))), (6, .int (iI (B 0 0))), (5, .int (iI (B 8 0))), (0, .ref sb), (1, .ref c0), (2, .int (iI 1)), (3, .int (iI tn)), (4, .int (iI i))]) hx hb dL_law_178 hl (by decide) rfl (fun ls hl => ?_)
        refine lv_iload hx hb dL_law_180 (lv_at hl 0 rfl) ?_
        refine ri_if_ge (tgt := 228) hx hb dL_law_182 (by decide) (by omega) (fun c6 => ?_) (fun c6 => ?_)
        · refine ri_iconst hx hb dL_law_228 ?_
          refine lv_goto (tgt := 233) hx hb dL_law_229 (by decide) ?_
          refine lv_istore_n (lv' := [(2, .int (iI 1)), (12, .int (iI u)), (11, .int (iI 0)), (10, .int (iI 0)), (9, .int (iI (-1))), (8, .int (iI (B 0 10))), (7, .int (iI (B 0 9))), (6, .int (iI (B 0 0))), (5, .int (iI (B 8 0))), (0, .ref sb), (1, .ref c0), (3, .int (iI tn)), (4, .int (iI i))]) hx hb dL_law_233 rfl hl (by decide) rfl (fun ls hl => ?_)
          refine lv_iload hx hb dL_law_234 (lv_at hl 4 rfl) ?_
          refine ri_if_lt (tgt := 331) hx hb dL_law_236 (by decide) (by omega) (fun c7 => ?_) (fun c7 => ?_)
          · exact kt H locs ls ⟨h', T', T1', T2', T3', K', z', P', C', B', hW', hB', hC', w, (lv_sub hl [9, 10, 0, 11, 12] rfl)⟩
          · exact absurd c7 (by omega)
        · refine lv_aload_n hx hb dL_law_185 rfl (lv_at hl 9 rfl) ?_
          refine ri_bipush hx hb dL_law_186 (by decide) ?_
          refine co_r (As := [.int (iI 11)]) (rest := []) hx hb (hml.trans hl.1.symm) hown hts w lk_RL_57 (t_X5_count l g c0 na be tr sn x h' o T' T1' T2' T3' K' z' P' C' (N + 210000) B' 11 hW' hC' (by omega)) (call_recv w (q0 := 0) rfl fX5.1) rfl rfl (Nat.le_of_ble_eq_true rfl) ⟨Nat.le_of_ble_eq_true rfl, Nat.le_of_ble_eq_true rfl⟩ ⟨Nat.le_of_ble_eq_true rfl, Nat.le_of_ble_eq_true rfl⟩ dL_law_188 ?_
          rw [cc_11]
          refine lv_iload hx hb dL_law_191 (lv_at hl 7 rfl) ?_
          refine ri_icmp_ne (tgt := 232) hx hb dL_law_193 (by decide) (by omega) (by omega) (fun c8 => ?_) (fun c8 => ?_)
          · exact absurd c8 (by omega)
          refine lv_aload_n hx hb dL_law_196 rfl (lv_at hl 9 rfl) ?_
          refine ri_iconst hx hb dL_law_197 ?_
          refine co_r (As := [.int (iI 0)]) (rest := []) hx hb (hml.trans hl.1.symm) hown hts w lk_RL_57 (t_X5_count l g c0 na be tr sn x h' o T' T1' T2' T3' K' z' P' C' (N + 210000) B' 0 hW' hC' (by omega)) (call_recv w (q0 := 0) rfl fX5.1) rfl rfl (Nat.le_of_ble_eq_true rfl) ⟨Nat.le_of_ble_eq_true rfl, Nat.le_of_ble_eq_true rfl⟩ ⟨Nat.le_of_ble_eq_true rfl, Nat.le_of_ble_eq_true rfl⟩ dL_law_198 ?_
          rw [cc_0]
          refine lv_iload hx hb dL_law_201 (lv_at hl 6 rfl) ?_
          refine ri_icmp_ne (tgt := 232) hx hb dL_law_203 (by decide) (by omega) (by omega) (fun c9 => ?_) (fun c9 => ?_)
          · exact absurd c9 (by omega)
          refine lv_aload_n hx hb dL_law_206 rfl (lv_at hl 9 rfl) ?_
          refine ri_bipush hx hb dL_law_207 (by decide) ?_
          refine co_r (As := [.int (iI 7)]) (rest := []) hx hb (hml.trans hl.1.symm) hown hts w lk_RL_57 (t_X5_count l g c0 na be tr sn x h' o T' T1' T2' T3' K' z' P' C' (N + 210000) B' 7 hW' hC' (by omega)) (call_recv w (q0 := 0) rfl fX5.1) rfl rfl (Nat.le_of_ble_eq_true rfl) ⟨Nat.le_of_ble_eq_true rfl, Nat.le_of_ble_eq_true rfl⟩ ⟨Nat.le_of_ble_eq_true rfl, Nat.le_of_ble_eq_true rfl⟩ dL_law_209 ?_
          rw [cc_7]
          refine lv_iload hx hb dL_law_212 (lv_at hl 5 rfl) ?_
          refine ri_icmp_ne (tgt := 232) hx hb dL_law_214 (by decide) (by omega) (by omega) (fun c10 => ?_) (fun c10 => ?_)
          · exact absurd c10 (by omega)
          refine lv_aload_n hx hb dL_law_217 rfl (lv_at hl 9 rfl) ?_
          refine ri_bipush hx hb dL_law_218 (by decide) ?_
          refine co_r (As := [.int (iI 8)]) (rest := []) hx hb (hml.trans hl.1.symm) hown hts w lk_RL_57 (t_X5_count l g c0 na be tr sn x h' o T' T1' T2' T3' K' z' P' C' (N + 210000) B' 8 hW' hC' (by omega)) (call_recv w (q0 := 0) rfl fX5.1) rfl rfl (Nat.le_of_ble_eq_true rfl) ⟨Nat.le_of_ble_eq_true rfl, Nat.le_of_ble_eq_true rfl⟩ ⟨Nat.le_of_ble_eq_true rfl, Nat.le_of_ble_eq_true rfl⟩ dL_law_220 ?_
          rw [cc_8]
          refine lv_iload hx hb dL_law_223 (lv_at hl 4 rfl) ?_
          refine ri_icmp_ne (tgt := 232) hx hb dL_law_225 (by decide) (by omega) (by omega) (fun c11 => ?_) (fun c11 => ?_)
          · exact absurd c11 (by omega)
          refine ri_iconst hx hb dL_law_228 ?_
          refine lv_goto (tgt := 233) hx hb dL_law_229 (by decide) ?_
          refine lv_istore_n (lv' := [(2, .int (iI 1)), (12, .int (iI u)), (11, .int (iI 0)), (10, .int (iI 0)), (9, .int (iI (-1))), (8, .int (iI (B 0 10))), (7, .int (iI (B 0 9))), (6, .int (iI (B 0 0))), (5, .int (iI (B 8 0))), (0, .ref sb), (1, .ref c0), (3, .int (iI tn)), (4, .int (iI i))]) hx hb dL_law_233 rfl hl (by decide) rfl (fun ls hl => ?_)
          refine lv_iload hx hb dL_law_234 (lv_at hl 4 rfl) ?_
          refine ri_if_lt (tgt := 331) hx hb dL_law_236 (by decide) (by omega) (fun c12 => ?_) (fun c12 => ?_)
          · exact kt H locs ls ⟨h', T', T1', T2', T3', K', z', P', C', B', hW', hB', hC', w, (lv_sub hl [9, 10, 0, 11, 12] rfl)⟩
          · exact absurd c12 (by omega)
      · exact absurd c5 (by omega)
    · exact absurd c4 (by omega)
  by_cases hr4 : 4 ≤ t ∧ t < 8
  · obtain ⟨pg, hp⟩ : ∃ v, v = x_low (x_cell L xs (3 * i + 1)) 14 := ⟨_, rfl⟩
    have hpr : 0 ≤ pg ∧ pg < 14 := by rw [hp]; exact low_lt _ (by omega)
    obtain ⟨q4, hq4⟩ : ∃ v, v = c_page (B 0) pg 4 := ⟨_, rfl⟩
    obtain ⟨q1, hq1⟩ : ∃ v, v = c_page (B 0) pg 1 := ⟨_, rfl⟩
    obtain ⟨n4, hn4⟩ : ∃ v, v = c_page (B' 0) pg 4 := ⟨_, rfl⟩
    obtain ⟨n1, hn1⟩ : ∃ v, v = c_page (B' 0) pg 1 := ⟨_, rfl⟩
    have r1 : -300000000 ≤ q1 ∧ q1 ≤ 300000000 := by rw [hq1]; exact page1_rg hW.1 pg
    have r2 : -300000000 ≤ n1 ∧ n1 ≤ 300000000 := by rw [hn1]; exact page1_rg hW'.1 pg
    have r3 : -5 ≤ q4 ∧ q4 ≤ 4 := by rw [hq4, page_4 (by omega)]; have q := buf_rg (B 0) pg; have q2 := hW.1.h4; omega
    have r4 : -5 ≤ n4 ∧ n4 ≤ 4 := by rw [hn4, page_4 (by omega)]; have q := buf_rg (B' 0) pg; have q2 := hW'.1.h4; omega
    have hrd : 0 ≤ u → ((u = 0 ∧ 0 ≤ q4 ∧ n1 = q1) ∨ (u = 1 ∧ q4 < 0 ∧ n1 = q1 + 1) ∨ (u = 2 ∧ q4 < 0 ∧ n1 = 1)) ∧ (B' 0 4 = 0 ∨ n4 = 0) := fun hu => by
      have q := a_read (t := t) (a := a) (b := bv) hW (by omega) ⟨by omega, by omega⟩ (p := pg) (by rw [hp, ha]) (by rw [hab]; exact hu)
      rw [hab, cs_3, ← hq4, ← hq1, ← hn4, ← hn1] at q
      exact q
    by_cases hu : u < 0
    · by_cases hqk : 0 ≤ q4
      · refine lv_iload hx hb dL_law_32 (lv_at hl 4 rfl) ?_
        refine lv_iload_n hx hb dL_law_34 rfl (lv_at hl 3 rfl) ?_
        refine ri_icmp_ge (tgt := 361) hx hb dL_law_35 (by decide) (by omega) (by omega) (fun c13 => ?_) (fun c13 => ?_)
        · exact absurd c13 (by omega)
        refine lv_iload_n hx hb dL_law_38 rfl (lv_at hl 2 rfl) ?_
        refine ri_if_eq (tgt := 361) hx hb dL_law_39 (by decide) (by omega) (fun c14 => ?_) (fun c14 => ?_)
        · exact absurd c14 (by omega)
        refine lv_aload_n hx hb dL_law_42 rfl (lv_at hl 1 rfl) ?_
        refine ri_bipush hx hb dL_law_43 (by decide) ?_
        refine co_r (As := [.int (iI 11)]) (rest := []) hx hb (hml.trans hl.1.symm) hown hts w lk_RL_57 (t_X5_count l g c0 na be tr sn x h o T T1 T2 T3 K z P C N B 11 hW hC (by omega)) (call_recv w (q0 := 0) rfl fX5.1) rfl rfl (Nat.le_of_ble_eq_true rfl) ⟨Nat.le_of_ble_eq_true rfl, Nat.le_of_ble_eq_true rfl⟩ ⟨Nat.le_of_ble_eq_true rfl, Nat.le_of_ble_eq_true rfl⟩ dL_law_45 ?_
        rw [cc_11]
        refine lv_istore (lv' := [(5, .int (iI (B 8 0))), (0, .ref sb), (1, .ref c0), (2, .int (iI 1)), (3, .int (iI tn)), (4, .int (iI i))]) hx hb dL_law_48 hl (by decide) rfl (fun ls hl => ?_)
        refine lv_aload_n hx hb dL_law_50 rfl (lv_at hl 2 rfl) ?_
        refine ri_iconst hx hb dL_law_51 ?_
        refine co_r (As := [.int (iI 0)]) (rest := []) hx hb (hml.trans hl.1.symm) hown hts w lk_RL_57 (t_X5_count l g c0 na be tr sn x h o T T1 T2 T3 K z P C N B 0 hW hC (by omega)) (call_recv w (q0 := 0) rfl fX5.1) rfl rfl (Nat.le_of_ble_eq_true rfl) ⟨Nat.le_of_ble_eq_true rfl, Nat.le_of_ble_eq_true rfl⟩ ⟨Nat.le_of_ble_eq_true rfl, Nat.le_of_ble_eq_true rfl⟩ dL_law_52 ?_
        rw [cc_0]
        refine lv_istore (lv' := [(6, .int (iI (B 0 0))), (5, .int (iI (B 8 0))), (0, .ref sb), (1, .ref c0), (2, .int (iI 1)), (3, .int (iI tn)), (4, .int (iI i))]) hx hb dL_law_55 hl (by decide) rfl (fun ls hl => ?_)
        refine lv_aload_n hx hb dL_law_57 rfl (lv_at hl 3 rfl) ?_
        refine ri_bipush hx hb dL_law_58 (by decide) ?_
        refine co_r (As := [.int (iI 7)]) (rest := []) hx hb (hml.trans hl.1.symm) hown hts w lk_RL_57 (t_X5_count l g c0 na be tr sn x h o T T1 T2 T3 K z P C N B 7 hW hC (by omega)) (call_recv w (q0 := 0) rfl fX5.1) rfl rfl (Nat.le_of_ble_eq_true rfl) ⟨Nat.le_of_ble_eq_true rfl, Nat.le_of_ble_eq_true rfl⟩ ⟨Nat.le_of_ble_eq_true rfl, Nat.le_of_ble_eq_true rfl⟩ dL_law_60 ?_
        rw [cc_7]
        refine lv_istore (lv' := [(7, .int (iI (B 0 9))), (6, .int (iI (B 0 0))), (5, .int (iI (B 8 0))), (0, .ref sb), (1, .ref c0), (2, .int (iI 1)), (3, .int (iI tn)), (4, .int (iI i))]) hx hb dL_law_63 hl (by decide) rfl (fun ls hl => ?_)
        refine lv_aload_n hx hb dL_law_65 rfl (lv_at hl 4 rfl) ?_
        refine ri_bipush hx hb dL_law_66 (by decide) ?_
        refine co_r (As := [.int (iI 8)]) (rest := []) hx hb (hml.trans hl.1.symm) hown hts w lk_RL_57 (t_X5_count l g c0 na be tr sn x h o T T1 T2 T3 K z P C N B 8 hW hC (by omega)) (call_recv w (q0 := 0) rfl fX5.1) rfl rfl (Nat.le_of_ble_eq_true rfl) ⟨Nat.le_of_ble_eq_true rfl, Nat.le_of_ble_eq_true rfl⟩ ⟨Nat.le_of_ble_eq_true rfl, Nat.le_of_ble_eq_true rfl⟩ dL_law_68 ?_
        rw [cc_8]
        refine lv_istore (lv' := [(8, .int (iI (B 0 10))), (7, .int (iI (B 0 9))), (6, .int (iI (B 0 0))), (5, .int (iI (B 8 0))), (0, .ref sb), (1, .ref c0), (2, .int (iI 1)), (3, .int (iI tn)), (4, .int (iI i))]) hx hb dL_law_71 hl (by decide) rfl (fun ls hl => ?_)
        refine lv_aload_n hx hb dL_law_73 rfl (lv_at hl 4 rfl) ?_
        refine ri_iconst hx hb dL_law_74 ?_
        refine lv_iload hx hb dL_law_75 (lv_at hl 8 rfl) ?_
        refine ri_imul (z := 3 * i) hx hb dL_law_77 (by omega) ?_
        refine call_sS (As := [.ref sb, .int (iI (3 * i))]) (rest := []) hx hb (hml.trans hl.1.symm) hown hts w hX hbl hbA lk_RL_9 (t_L_cell l sb L xs (3 * i) (by omega) (by omega)) rfl rfl (Nat.le_of_ble_eq_true rfl) ⟨Nat.le_of_ble_eq_true rfl, Nat.le_of_ble_eq_true rfl⟩ ⟨Nat.le_of_ble_eq_true rfl, Nat.le_of_ble_eq_true rfl⟩ dL_law_78 ?_
        refine ri_bipush hx hb dL_law_81 (by decide) ?_
        refine cn_r (As := [.int (iI (x_cell L xs (3 * i))), .int (iI 16)]) (rest := []) hx hb (hml.trans hl.1.symm) hown hts w lk_RL_15 (t_L_low l g (x_cell L xs (3 * i)) 16 (by omega)) rfl rfl (Nat.le_of_ble_eq_true rfl) ⟨Nat.le_of_ble_eq_true rfl, Nat.le_of_ble_eq_true rfl⟩ ⟨Nat.le_of_ble_eq_true rfl, Nat.le_of_ble_eq_true rfl⟩ dL_law_83 ?_
        rw [← ht]
        refine ri_iconst hx hb dL_law_86 ?_
        refine ri_icmp_le (tgt := 126) hx hb dL_law_87 (by decide) (by omega) (by omega) (fun c15 => ?_) (fun c15 => ?_)
        · exact absurd c15 (by omega)
        refine lv_aload_n hx hb dL_law_90 rfl (lv_at hl 4 rfl) ?_
        refine ri_iconst hx hb dL_law_91 ?_
        refine lv_iload hx hb dL_law_92 (lv_at hl 8 rfl) ?_
        refine ri_imul (z := 3 * i) hx hb dL_law_94 (by omega) ?_
        refine call_sS (As := [.ref sb, .int (iI (3 * i))]) (rest := []) hx hb (hml.trans hl.1.symm) hown hts w hX hbl hbA lk_RL_9 (t_L_cell l sb L xs (3 * i) (by omega) (by omega)) rfl rfl (Nat.le_of_ble_eq_true rfl) ⟨Nat.le_of_ble_eq_true rfl, Nat.le_of_ble_eq_true rfl⟩ ⟨Nat.le_of_ble_eq_true rfl, Nat.le_of_ble_eq_true rfl⟩ dL_law_95 ?_
        refine ri_bipush hx hb dL_law_98 (by decide) ?_
        refine cn_r (As := [.int (iI (x_cell L xs (3 * i))), .int (iI 16)]) (rest := []) hx hb (hml.trans hl.1.symm) hown hts w lk_RL_15 (t_L_low l g (x_cell L xs (3 * i)) 16 (by omega)) rfl rfl (Nat.le_of_ble_eq_true rfl) ⟨Nat.le_of_ble_eq_true rfl, Nat.le_of_ble_eq_true rfl⟩ ⟨Nat.le_of_ble_eq_true rfl, Nat.le_of_ble_eq_true rfl⟩ dL_law_100 ?_
        rw [← ht]
        refine ri_bipush hx hb dL_law_103 (by decide) ?_
        refine ri_icmp_ge (tgt := 126) hx hb dL_law_105 (by decide) (by omega) (by omega) (fun c16 => ?_) (fun c16 => ?_)
        · exact absurd c16 (by omega)
        refine lv_aload_n hx hb dL_law_108 rfl (lv_at hl 4 rfl) ?_
        refine ri_iconst hx hb dL_law_109 ?_
        refine lv_iload hx hb dL_law_110 (lv_at hl 8 rfl) ?_
        refine ri_imul (z := 3 * i) hx hb dL_law_112 (by omega) ?_
        refine ri_iconst hx hb dL_law_113 ?_
        refine ri_iadd (z := 3 * i + 1) hx hb dL_law_114 (by omega) ?_
        refine call_sS (As := [.ref sb, .int (iI (3 * i + 1))]) (rest := []) hx hb (hml.trans hl.1.symm) hown hts w hX hbl hbA lk_RL_9 (t_L_cell l sb L xs (3 * i + 1) (by omega) (by omega)) rfl rfl (Nat.le_of_ble_eq_true rfl) ⟨Nat.le_of_ble_eq_true rfl, Nat.le_of_ble_eq_true rfl⟩ ⟨Nat.le_of_ble_eq_true rfl, Nat.le_of_ble_eq_true rfl⟩ dL_law_115 ?_
        refine ri_bipush hx hb dL_law_118 (by decide) ?_
        refine cn_r (As := [.int (iI (x_cell L xs (3 * i + 1))), .int (iI 14)]) (rest := []) hx hb (hml.trans hl.1.symm) hown hts w lk_RL_15 (t_L_low l g (x_cell L xs (3 * i + 1)) 14 (by omega)) rfl rfl (Nat.le_of_ble_eq_true rfl) ⟨Nat.le_of_ble_eq_true rfl, Nat.le_of_ble_eq_true rfl⟩ ⟨Nat.le_of_ble_eq_true rfl, Nat.le_of_ble_eq_true rfl⟩ dL_law_120 ?_
        rw [← hp]
        refine lv_goto (tgt := 127) hx hb dL_law_123 (by decide) ?_
        refine lv_istore (lv' := [(9, .int (iI pg)), (8, .int (iI (B 0 10))), (7, .int (iI (B 0 9))), (6, .int (iI (B 0 0))), (5, .int (iI (B 8 0))), (0, .ref sb), (1, .ref c0), (2, .int (iI 1)), (3, .int (iI tn)), (4, .int (iI i))]) hx hb dL_law_127 hl (by decide) rfl (fun ls hl => ?_)
        refine lv_iload hx hb dL_law_129 (lv_at hl 0 rfl) ?_
        refine ri_if_lt (tgt := 148) hx hb dL_law_131 (by decide) (by omega) (fun c17 => ?_) (fun c17 => ?_)
        · exact absurd c17 (by omega)
        refine lv_aload_n hx hb dL_law_134 rfl (lv_at hl 6 rfl) ?_
        refine lv_iload hx hb dL_law_135 (lv_at hl 0 rfl) ?_
        refine ri_iconst hx hb dL_law_137 ?_
        refine co_r (As := [.int (iI pg), .int (iI 4)]) (rest := []) hx hb (hml.trans hl.1.symm) hown hts w lk_RL_64 (t_X5_page l g c0 na be tr sn x h o T T1 T2 T3 K z P C N B pg 4 hW hC (by omega) (by omega)) (call_recv w (q0 := 0) rfl fX5.1) rfl rfl (Nat.le_of_ble_eq_true rfl) ⟨Nat.le_of_ble_eq_true rfl, Nat.le_of_ble_eq_true rfl⟩ ⟨Nat.le_of_ble_eq_true rfl, Nat.le_of_ble_eq_true rfl⟩ dL_law_138 ?_
        rw [← hq4]
        refine ri_if_lt (tgt := 148) hx hb dL_law_141 (by decide) (by omega) (fun c18 => ?_) (fun c18 => ?_)
        · exact absurd c18 (by omega)
        refine ri_iconst hx hb dL_law_144 ?_
        refine lv_goto (tgt := 149) hx hb dL_law_145 (by decide) ?_
        refine lv_istore (lv' := [(10, .int (iI 1)), (9, .int (iI pg)), (8, .int (iI (B 0 10))), (7, .int (iI (B 0 9))), (6, .int (iI (B 0 0))), (5, .int (iI (B 8 0))), (0, .ref sb), (1, .ref c0), (2, .int (iI 1)), (3, .int (iI tn)), (4, .int (iI i))]) hx hb dL_law_149 hl (by decide) rfl (fun ls hl => ?_)
        refine lv_iload hx hb dL_law_151 (lv_at hl 1 rfl) ?_
        refine ri_if_lt (tgt := 166) hx hb dL_law_153 (by decide) (by omega) (fun c19 => ?_) (fun c19 => ?_)
        · exact absurd c19 (by omega)
        refine lv_aload_n hx hb dL_law_156 rfl (lv_at hl 7 rfl) ?_
        refine lv_iload hx hb dL_law_157 (lv_at hl 1 rfl) ?_
        refine ri_iconst hx hb dL_law_159 ?_
        refine co_r (As := [.int (iI pg), .int (iI 1)]) (rest := []) hx hb (hml.trans hl.1.symm) hown hts w lk_RL_64 (t_X5_page l g c0 na be tr sn x h o T T1 T2 T3 K z P C N B pg 1 hW hC (by omega) (by omega)) (call_recv w (q0 := 0) rfl fX5.1) rfl rfl (Nat.le_of_ble_eq_true rfl) ⟨Nat.le_of_ble_eq_true rfl, Nat.le_of_ble_eq_true rfl⟩ ⟨Nat.le_of_ble_eq_true rfl, Nat.le_of_ble_eq_true rfl⟩ dL_law_160 ?_
        rw [← hq1]
        refine lv_goto (tgt := 167) hx hb dL_law_163 (by decide) ?_
        refine lv_istore (lv' := [(11, .int (iI q1)), (10, .int (iI 1)), (9, .int (iI pg)), (8, .int (iI (B 0 10))), (7, .int (iI (B 0 9))), (6, .int (iI (B 0 0))), (5, .int (iI (B 8 0))), (0, .ref sb), (1, .ref c0), (2, .int (iI 1)), (3, .int (iI tn)), (4, .int (iI i))]) hx hb dL_law_167 hl (by decide) rfl (fun ls hl => ?_)
        refine lv_aload_n hx hb dL_law_169 rfl (lv_at hl 8 rfl) ?_
        refine lv_aload_n hx hb dL_law_170 rfl (lv_at hl 7 rfl) ?_
        refine ri_iconst hx hb dL_law_171 ?_
        refine lv_iload hx hb dL_law_172 (lv_at hl 11 rfl) ?_
        refine ri_imul (z := 3 * i) hx hb dL_law_174 (by omega) ?_
        refine call_aS (As := [.ref c0, .ref sb, .int (iI (3 * i))]) (rest := []) hx hb (hml.trans hl.1.symm) hown hts w hX hbl hbA lk_RL_74 (fun sz => t_L_act l g c0 na be tr sn x h o T T1 T2 T3 K z P C N B sb L xs (3 * i) hW hC (by omega) (by omega) (by omega) sz) rfl rfl (Nat.le_of_ble_eq_true rfl) ⟨Nat.le_of_ble_eq_true rfl, Nat.le_of_ble_eq_true rfl⟩ ⟨Nat.le_of_ble_eq_true rfl, Nat.le_of_ble_eq_true rfl⟩ dL_law_175 (fun vv w1 H locs hr w => ?_)
        rw [← ht, ← ha, ← hbv, hab] at hr
        obtain ⟨rfl, h', T', T1', T2', T3', K', z', P', C', rfl, hC'⟩ := hr
        refine lv_istore (lv' := [(12, .int (iI u)), (11, .int (iI q1)), (10, .int (iI 1)), (9, .int (iI pg)), (8, .int (iI (B 0 10))), (7, .int (iI (B 0 9))), (6, .int (iI (B 0 0))), (5, .int (iI (B 8 0))), (0, .ref sb), (1, .ref c0), (2, .int (iI 1)), (3, .int (iI tn)), (4, .int (iI i))]) hx hb dL_law_178 hl (by decide) rfl (fun ls hl => ?_)
        refine lv_iload hx hb dL_law_180 (lv_at hl 0 rfl) ?_
        refine ri_if_ge (tgt := 228) hx hb dL_law_182 (by decide) (by omega) (fun c20 => ?_) (fun c20 => ?_)
        · exact absurd c20 (by omega)
        refine lv_aload_n hx hb dL_law_185 rfl (lv_at hl 9 rfl) ?_
        refine ri_bipush hx hb dL_law_186 (by decide) ?_
        refine co_r (As := [.int (iI 11)]) (rest := []) hx hb (hml.trans hl.1.symm) hown hts w lk_RL_57 (t_X5_count l g c0 na be tr sn x h' o T' T1' T2' T3' K' z' P' C' (N + 210000) B' 11 hW' hC' (by omega)) (call_recv w (q0 := 0) rfl fX5.1) rfl rfl (Nat.le_of_ble_eq_true rfl) ⟨Nat.le_of_ble_eq_true rfl, Nat.le_of_ble_eq_true rfl⟩ ⟨Nat.le_of_ble_eq_true rfl, Nat.le_of_ble_eq_true rfl⟩ dL_law_188 ?_
        rw [cc_11]
        refine lv_iload hx hb dL_law_191 (lv_at hl 7 rfl) ?_
        refine ri_icmp_ne (tgt := 232) hx hb dL_law_193 (by decide) (by omega) (by omega) (fun c21 => ?_) (fun c21 => ?_)
        · exact absurd c21 (by omega)
        refine lv_aload_n hx hb dL_law_196 rfl (lv_at hl 9 rfl) ?_
        refine ri_iconst hx hb dL_law_197 ?_
        refine co_r (As := [.int (iI 0)]) (rest := []) hx hb (hml.trans hl.1.symm) hown hts w lk_RL_57 (t_X5_count l g c0 na be tr sn x h' o T' T1' T2' T3' K' z' P' C' (N + 210000) B' 0 hW' hC' (by omega)) (call_recv w (q0 := 0) rfl fX5.1) rfl rfl (Nat.le_of_ble_eq_true rfl) ⟨Nat.le_of_ble_eq_true rfl, Nat.le_of_ble_eq_true rfl⟩ ⟨Nat.le_of_ble_eq_true rfl, Nat.le_of_ble_eq_true rfl⟩ dL_law_198 ?_
        rw [cc_0]
        refine lv_iload hx hb dL_law_201 (lv_at hl 6 rfl) ?_
        refine ri_icmp_ne (tgt := 232) hx hb dL_law_203 (by decide) (by omega) (by omega) (fun c22 => ?_) (fun c22 => ?_)
        · exact absurd c22 (by omega)
        refine lv_aload_n hx hb dL_law_206 rfl (lv_at hl 9 rfl) ?_
        refine ri_bipush hx hb dL_law_207 (by decide) ?_
        refine co_r (As := [.int (iI 7)]) (rest := []) hx hb (hml.trans hl.1.symm) hown hts w lk_RL_57 (t_X5_count l g c0 na be tr sn x h' o T' T1' T2' T3' K' z' P' C' (N + 210000) B' 7 hW' hC' (by omega)) (call_recv w (q0 := 0) rfl fX5.1) rfl rfl (Nat.le_of_ble_eq_true rfl) ⟨Nat.le_of_ble_eq_true rfl, Nat.le_of_ble_eq_true rfl⟩ ⟨Nat.le_of_ble_eq_true rfl, Nat.le_of_ble_eq_true rfl⟩ dL_law_209 ?_
        rw [cc_7]
        refine lv_iload hx hb dL_law_212 (lv_at hl 5 rfl) ?_
        refine ri_icmp_ne (tgt := 232) hx hb dL_law_214 (by decide) (by omega) (by omega) (fun c23 => ?_) (fun c23 => ?_)
        · exact absurd c23 (by omega)
        refine lv_aload_n hx hb dL_law_217 rfl (lv_at hl 9 rfl) ?_
        refine ri_bipush hx hb dL_law_218 (by decide) ?_
        refine co_r (As := [.int (iI 8)]) (rest := []) hx hb (hml.trans hl.1.symm) hown hts w lk_RL_57 (t_X5_count l g c0 na be tr sn x h' o T' T1' T2' T3' K' z' P' C' (N + 210000) B' 8 hW' hC' (by omega)) (call_recv w (q0 := 0) rfl fX5.1) rfl rfl (Nat.le_of_ble_eq_true rfl) ⟨Nat.le_of_ble_eq_true rfl, Nat.le_of_ble_eq_true rfl⟩ ⟨Nat.le_of_ble_eq_true rfl, Nat.le_of_ble_eq_true rfl⟩ dL_law_220 ?_
        rw [cc_8]
        refine lv_iload hx hb dL_law_223 (lv_at hl 4 rfl) ?_
        refine ri_icmp_ne (tgt := 232) hx hb dL_law_225 (by decide) (by omega) (by omega) (fun c24 => ?_) (fun c24 => ?_)
        · exact absurd c24 (by omega)
        refine ri_iconst hx hb dL_law_228 ?_
        refine lv_goto (tgt := 233) hx hb dL_law_229 (by decide) ?_
        refine lv_istore_n (lv' := [(2, .int (iI 1)), (12, .int (iI u)), (11, .int (iI q1)), (10, .int (iI 1)), (9, .int (iI pg)), (8, .int (iI (B 0 10))), (7, .int (iI (B 0 9))), (6, .int (iI (B 0 0))), (5, .int (iI (B 8 0))), (0, .ref sb), (1, .ref c0), (3, .int (iI tn)), (4, .int (iI i))]) hx hb dL_law_233 rfl hl (by decide) rfl (fun ls hl => ?_)
        refine lv_iload hx hb dL_law_234 (lv_at hl 4 rfl) ?_
        refine ri_if_lt (tgt := 331) hx hb dL_law_236 (by decide) (by omega) (fun c25 => ?_) (fun c25 => ?_)
        · exact absurd c25 (by omega)
        refine lv_iload hx hb dL_law_239 (lv_at hl 1 rfl) ?_
        refine ri_if_lt (tgt := 331) hx hb dL_law_241 (by decide) (by omega) (fun c26 => ?_) (fun c26 => ?_)
        · exact kt H locs ls ⟨h', T', T1', T2', T3', K', z', P', C', B', hW', hB', hC', w, (lv_sub hl [9, 10, 0, 11, 12] rfl)⟩
        · exact absurd c26 (by omega)
      · refine lv_iload hx hb dL_law_32 (lv_at hl 4 rfl) ?_
        refine lv_iload_n hx hb dL_law_34 rfl (lv_at hl 3 rfl) ?_
        refine ri_icmp_ge (tgt := 361) hx hb dL_law_35 (by decide) (by omega) (by omega) (fun c27 => ?_) (fun c27 => ?_)
        · exact absurd c27 (by omega)
        refine lv_iload_n hx hb dL_law_38 rfl (lv_at hl 2 rfl) ?_
        refine ri_if_eq (tgt := 361) hx hb dL_law_39 (by decide) (by omega) (fun c28 => ?_) (fun c28 => ?_)
        · exact absurd c28 (by omega)
        refine lv_aload_n hx hb dL_law_42 rfl (lv_at hl 1 rfl) ?_
        refine ri_bipush hx hb dL_law_43 (by decide) ?_
        refine co_r (As := [.int (iI 11)]) (rest := []) hx hb (hml.trans hl.1.symm) hown hts w lk_RL_57 (t_X5_count l g c0 na be tr sn x h o T T1 T2 T3 K z P C N B 11 hW hC (by omega)) (call_recv w (q0 := 0) rfl fX5.1) rfl rfl (Nat.le_of_ble_eq_true rfl) ⟨Nat.le_of_ble_eq_true rfl, Nat.le_of_ble_eq_true rfl⟩ ⟨Nat.le_of_ble_eq_true rfl, Nat.le_of_ble_eq_true rfl⟩ dL_law_45 ?_
        rw [cc_11]
        refine lv_istore (lv' := [(5, .int (iI (B 8 0))), (0, .ref sb), (1, .ref c0), (2, .int (iI 1)), (3, .int (iI tn)), (4, .int (iI i))]) hx hb dL_law_48 hl (by decide) rfl (fun ls hl => ?_)
        refine lv_aload_n hx hb dL_law_50 rfl (lv_at hl 2 rfl) ?_
        refine ri_iconst hx hb dL_law_51 ?_
        refine co_r (As := [.int (iI 0)]) (rest := []) hx hb (hml.trans hl.1.symm) hown hts w lk_RL_57 (t_X5_count l g c0 na be tr sn x h o T T1 T2 T3 K z P C N B 0 hW hC (by omega)) (call_recv w (q0 := 0) rfl fX5.1) rfl rfl (Nat.le_of_ble_eq_true rfl) ⟨Nat.le_of_ble_eq_true rfl, Nat.le_of_ble_eq_true rfl⟩ ⟨Nat.le_of_ble_eq_true rfl, Nat.le_of_ble_eq_true rfl⟩ dL_law_52 ?_
        rw [cc_0]
        refine lv_istore (lv' := [(6, .int (iI (B 0 0))), (5, .int (iI (B 8 0))), (0, .ref sb), (1, .ref c0), (2, .int (iI 1)), (3, .int (iI tn)), (4, .int (iI i))]) hx hb dL_law_55 hl (by decide) rfl (fun ls hl => ?_)
        refine lv_aload_n hx hb dL_law_57 rfl (lv_at hl 3 rfl) ?_
        refine ri_bipush hx hb dL_law_58 (by decide) ?_
        refine co_r (As := [.int (iI 7)]) (rest := []) hx hb (hml.trans hl.1.symm) hown hts w lk_RL_57 (t_X5_count l g c0 na be tr sn x h o T T1 T2 T3 K z P C N B 7 hW hC (by omega)) (call_recv w (q0 := 0) rfl fX5.1) rfl rfl (Nat.le_of_ble_eq_true rfl) ⟨Nat.le_of_ble_eq_true rfl, Nat.le_of_ble_eq_true rfl⟩ ⟨Nat.le_of_ble_eq_true rfl, Nat.le_of_ble_eq_true rfl⟩ dL_law_60 ?_
        rw [cc_7]
        refine lv_istore (lv' := [(7, .int (iI (B 0 9))), (6, .int (iI (B 0 0))), (5, .int (iI (B 8 0))), (0, .ref sb), (1, .ref c0), (2, .int (iI 1)), (3, .int (iI tn)), (4, .int (iI i))]) hx hb dL_law_63 hl (by decide) rfl (fun ls hl => ?_)
        refine lv_aload_n hx hb dL_law_65 rfl (lv_at hl 4 rfl) ?_
        refine ri_bipush hx hb dL_law_66 (by decide) ?_
        refine co_r (As := [.int (iI 8)]) (rest := []) hx hb (hml.trans hl.1.symm) hown hts w lk_RL_57 (t_X5_count l g c0 na be tr sn x h o T T1 T2 T3 K z P C N B 8 hW hC (by omega)) (call_recv w (q0 := 0) rfl fX5.1) rfl rfl (Nat.le_of_ble_eq_true rfl) ⟨Nat.le_of_ble_eq_true rfl, Nat.le_of_ble_eq_true rfl⟩ ⟨Nat.le_of_ble_eq_true rfl, Nat.le_of_ble_eq_true rfl⟩ dL_law_68 ?_
        rw [cc_8]
        refine lv_istore (lv' := [(8, .int (iI (B 0 10))), (7, .int (iI (B 0 9))), (6, .int (iI (B 0 0))), (5, .int (iI (B 8 0))), (0, .ref sb), (1, .ref c0), (2, .int (iI 1)), (3, .int (iI tn)), (4, .int (iI i))]) hx hb dL_law_71 hl (by decide) rfl (fun ls hl => ?_)
        refine lv_aload_n hx hb dL_law_73 rfl (lv_at hl 4 rfl) ?_
        refine ri_iconst hx hb dL_law_74 ?_
        refine lv_iload hx hb dL_law_75 (lv_at hl 8 rfl) ?_
        refine ri_imul (z := 3 * i) hx hb dL_law_77 (by omega) ?_
        refine call_sS (As := [.ref sb, .int (iI (3 * i))]) (rest := []) hx hb (hml.trans hl.1.symm) hown hts w hX hbl hbA lk_RL_9 (t_L_cell l sb L xs (3 * i) (by omega) (by omega)) rfl rfl (Nat.le_of_ble_eq_true rfl) ⟨Nat.le_of_ble_eq_true rfl, Nat.le_of_ble_eq_true rfl⟩ ⟨Nat.le_of_ble_eq_true rfl, Nat.le_of_ble_eq_true rfl⟩ dL_law_78 ?_
        refine ri_bipush hx hb dL_law_81 (by decide) ?_
        refine cn_r (As := [.int (iI (x_cell L xs (3 * i))), .int (iI 16)]) (rest := []) hx hb (hml.trans hl.1.symm) hown hts w lk_RL_15 (t_L_low l g (x_cell L xs (3 * i)) 16 (by omega)) rfl rfl (Nat.le_of_ble_eq_true rfl) ⟨Nat.le_of_ble_eq_true rfl, Nat.le_of_ble_eq_true rfl⟩ ⟨Nat.le_of_ble_eq_true rfl, Nat.le_of_ble_eq_true rfl⟩ dL_law_83 ?_
        rw [← ht]
        refine ri_iconst hx hb dL_law_86 ?_
        refine ri_icmp_le (tgt := 126) hx hb dL_law_87 (by decide) (by omega) (by omega) (fun c29 => ?_) (fun c29 => ?_)
        · exact absurd c29 (by omega)
        refine lv_aload_n hx hb dL_law_90 rfl (lv_at hl 4 rfl) ?_
        refine ri_iconst hx hb dL_law_91 ?_
        refine lv_iload hx hb dL_law_92 (lv_at hl 8 rfl) ?_
        refine ri_imul (z := 3 * i) hx hb dL_law_94 (by omega) ?_
        refine call_sS (As := [.ref sb, .int (iI (3 * i))]) (rest := []) hx hb (hml.trans hl.1.symm) hown hts w hX hbl hbA lk_RL_9 (t_L_cell l sb L xs (3 * i) (by omega) (by omega)) rfl rfl (Nat.le_of_ble_eq_true rfl) ⟨Nat.le_of_ble_eq_true rfl, Nat.le_of_ble_eq_true rfl⟩ ⟨Nat.le_of_ble_eq_true rfl, Nat.le_of_ble_eq_true rfl⟩ dL_law_95 ?_
        refine ri_bipush hx hb dL_law_98 (by decide) ?_
        refine cn_r (As := [.int (iI (x_cell L xs (3 * i))), .int (iI 16)]) (rest := []) hx hb (hml.trans hl.1.symm) hown hts w lk_RL_15 (t_L_low l g (x_cell L xs (3 * i)) 16 (by omega)) rfl rfl (Nat.le_of_ble_eq_true rfl) ⟨Nat.le_of_ble_eq_true rfl, Nat.le_of_ble_eq_true rfl⟩ ⟨Nat.le_of_ble_eq_true rfl, Nat.le_of_ble_eq_true rfl⟩ dL_law_100 ?_
        rw [← ht]
        refine ri_bipush hx hb dL_law_103 (by decide) ?_
        refine ri_icmp_ge (tgt := 126) hx hb dL_law_105 (by decide) (by omega) (by omega) (fun c30 => ?_) (fun c30 => ?_)
        · exact absurd c30 (by omega)
        refine lv_aload_n hx hb dL_law_108 rfl (lv_at hl 4 rfl) ?_
        refine ri_iconst hx hb dL_law_109 ?_
        refine lv_iload hx hb dL_law_110 (lv_at hl 8 rfl) ?_
        refine ri_imul (z := 3 * i) hx hb dL_law_112 (by omega) ?_
        refine ri_iconst hx hb dL_law_113 ?_
        refine ri_iadd (z := 3 * i + 1) hx hb dL_law_114 (by omega) ?_
        refine call_sS (As := [.ref sb, .int (iI (3 * i + 1))]) (rest := []) hx hb (hml.trans hl.1.symm) hown hts w hX hbl hbA lk_RL_9 (t_L_cell l sb L xs (3 * i + 1) (by omega) (by omega)) rfl rfl (Nat.le_of_ble_eq_true rfl) ⟨Nat.le_of_ble_eq_true rfl, Nat.le_of_ble_eq_true rfl⟩ ⟨Nat.le_of_ble_eq_true rfl, Nat.le_of_ble_eq_true rfl⟩ dL_law_115 ?_
        refine ri_bipush hx hb dL_law_118 (by decide) ?_
        refine cn_r (As := [.int (iI (x_cell L xs (3 * i + 1))), .int (iI 14)]) (rest := []) hx hb (hml.trans hl.1.symm) hown hts w lk_RL_15 (t_L_low l g (x_cell L xs (3 * i + 1)) 14 (by omega)) rfl rfl (Nat.le_of_ble_eq_true rfl) ⟨Nat.le_of_ble_eq_true rfl, Nat.le_of_ble_eq_true rfl⟩ ⟨Nat.le_of_ble_eq_true rfl, Nat.le_of_ble_eq_true rfl⟩ dL_law_120 ?_
        rw [← hp]
        refine lv_goto (tgt := 127) hx hb dL_law_123 (by decide) ?_
        refine lv_istore (lv' := [(9, .int (iI pg)), (8, .int (iI (B 0 10))), (7, .int (iI (B 0 9))), (6, .int (iI (B 0 0))), (5, .int (iI (B 8 0))), (0, .ref sb), (1, .ref c0), (2, .int (iI 1)), (3, .int (iI tn)), (4, .int (iI i))]) hx hb dL_law_127 hl (by decide) rfl (fun ls hl => ?_)
        refine lv_iload hx hb dL_law_129 (lv_at hl 0 rfl) ?_
        refine ri_if_lt (tgt := 148) hx hb dL_law_131 (by decide) (by omega) (fun c31 => ?_) (fun c31 => ?_)
        · exact absurd c31 (by omega)
        refine lv_aload_n hx hb dL_law_134 rfl (lv_at hl 6 rfl) ?_
        refine lv_iload hx hb dL_law_135 (lv_at hl 0 rfl) ?_
        refine ri_iconst hx hb dL_law_137 ?_
        refine co_r (As := [.int (iI pg), .int (iI 4)]) (rest := []) hx hb (hml.trans hl.1.symm) hown hts w lk_RL_64 (t_X5_page l g c0 na be tr sn x h o T T1 T2 T3 K z P C N B pg 4 hW hC (by omega) (by omega)) (call_recv w (q0 := 0) rfl fX5.1) rfl rfl (Nat.le_of_ble_eq_true rfl) ⟨Nat.le_of_ble_eq_true rfl, Nat.le_of_ble_eq_true rfl⟩ ⟨Nat.le_of_ble_eq_true rfl, Nat.le_of_ble_eq_true rfl⟩ dL_law_138 ?_
        rw [← hq4]
        refine ri_if_lt (tgt := 148) hx hb dL_law_141 (by decide) (by omega) (fun c32 => ?_) (fun c32 => ?_)
        · refine ri_iconst hx hb dL_law_148 ?_
          refine lv_istore (lv' := [(10, .int (iI 0)), (9, .int (iI pg)), (8, .int (iI (B 0 10))), (7, .int (iI (B 0 9))), (6, .int (iI (B 0 0))), (5, .int (iI (B 8 0))), (0, .ref sb), (1, .ref c0), (2, .int (iI 1)), (3, .int (iI tn)), (4, .int (iI i))]) hx hb dL_law_149 hl (by decide) rfl (fun ls hl => ?_)
          refine lv_iload hx hb dL_law_151 (lv_at hl 1 rfl) ?_
          refine ri_if_lt (tgt := 166) hx hb dL_law_153 (by decide) (by omega) (fun c33 => ?_) (fun c33 => ?_)
          · exact absurd c33 (by omega)
          refine lv_aload_n hx hb dL_law_156 rfl (lv_at hl 7 rfl) ?_
          refine lv_iload hx hb dL_law_157 (lv_at hl 1 rfl) ?_
          refine ri_iconst hx hb dL_law_159 ?_
          refine co_r (As := [.int (iI pg), .int (iI 1)]) (rest := []) hx hb (hml.trans hl.1.symm) hown hts w lk_RL_64 (t_X5_page l g c0 na be tr sn x h o T T1 T2 T3 K z P C N B pg 1 hW hC (by omega) (by omega)) (call_recv w (q0 := 0) rfl fX5.1) rfl rfl (Nat.le_of_ble_eq_true rfl) ⟨Nat.le_of_ble_eq_true rfl, Nat.le_of_ble_eq_true rfl⟩ ⟨Nat.le_of_ble_eq_true rfl, Nat.le_of_ble_eq_true rfl⟩ dL_law_160 ?_
          rw [← hq1]
          refine lv_goto (tgt := 167) hx hb dL_law_163 (by decide) ?_
          refine lv_istore (lv' := [(11, .int (iI q1)), (10, .int (iI 0)), (9, .int (iI pg)), (8, .int (iI (B 0 10))), (7, .int (iI (B 0 9))), (6, .int (iI (B 0 0))), (5, .int (iI (B 8 0))), (0, .ref sb), (1, .ref c0), (2, .int (iI 1)), (3, .int (iI tn)), (4, .int (iI i))]) hx hb dL_law_167 hl (by decide) rfl (fun ls hl => ?_)
          refine lv_aload_n hx hb dL_law_169 rfl (lv_at hl 8 rfl) ?_
          refine lv_aload_n hx hb dL_law_170 rfl (lv_at hl 7 rfl) ?_
          refine ri_iconst hx hb dL_law_171 ?_
          refine lv_iload hx hb dL_law_172 (lv_at hl 11 rfl) ?_
          refine ri_imul (z := 3 * i) hx hb dL_law_174 (by omega) ?_
          refine call_aS (As := [.ref c0, .ref sb, .int (iI (3 * i))]) (rest := []) hx hb (hml.trans hl.1.symm) hown hts w hX hbl hbA lk_RL_74 (fun sz => t_L_act l g c0 na be tr sn x h o T T1 T2 T3 K z P C N B sb L xs (3 * i) hW hC (by omega) (by omega) (by omega) sz) rfl rfl (Nat.le_of_ble_eq_true rfl) ⟨Nat.le_of_ble_eq_true rfl, Nat.le_of_ble_eq_true rfl⟩ ⟨Nat.le_of_ble_eq_true rfl, Nat.le_of_ble_eq_true rfl⟩ dL_law_175 (fun vv w1 H locs hr w => ?_)
          rw [← ht, ← ha, ← hbv, hab] at hr
          obtain ⟨rfl, h', T', T1', T2', T3', K', z', P', C', rfl, hC'⟩ := hr
          refine lv_istore (lv' := [(12, .int (iI u)), (11, .int (iI q1)), (10, .int (iI 0)), (9, .int (iI pg)), (8, .int (iI (B 0 10))), (7, .int (iI (B 0 9))), (6, .int (iI (B 0 0))), (5, .int (iI (B 8 0))), (0, .ref sb), (1, .ref c0), (2, .int (iI 1)), (3, .int (iI tn)), (4, .int (iI i))]) hx hb dL_law_178 hl (by decide) rfl (fun ls hl => ?_)
          refine lv_iload hx hb dL_law_180 (lv_at hl 0 rfl) ?_
          refine ri_if_ge (tgt := 228) hx hb dL_law_182 (by decide) (by omega) (fun c34 => ?_) (fun c34 => ?_)
          · exact absurd c34 (by omega)
          refine lv_aload_n hx hb dL_law_185 rfl (lv_at hl 9 rfl) ?_
          refine ri_bipush hx hb dL_law_186 (by decide) ?_
          refine co_r (As := [.int (iI 11)]) (rest := []) hx hb (hml.trans hl.1.symm) hown hts w lk_RL_57 (t_X5_count l g c0 na be tr sn x h' o T' T1' T2' T3' K' z' P' C' (N + 210000) B' 11 hW' hC' (by omega)) (call_recv w (q0 := 0) rfl fX5.1) rfl rfl (Nat.le_of_ble_eq_true rfl) ⟨Nat.le_of_ble_eq_true rfl, Nat.le_of_ble_eq_true rfl⟩ ⟨Nat.le_of_ble_eq_true rfl, Nat.le_of_ble_eq_true rfl⟩ dL_law_188 ?_
          rw [cc_11]
          refine lv_iload hx hb dL_law_191 (lv_at hl 7 rfl) ?_
          refine ri_icmp_ne (tgt := 232) hx hb dL_law_193 (by decide) (by omega) (by omega) (fun c35 => ?_) (fun c35 => ?_)
          · exact absurd c35 (by omega)
          refine lv_aload_n hx hb dL_law_196 rfl (lv_at hl 9 rfl) ?_
          refine ri_iconst hx hb dL_law_197 ?_
          refine co_r (As := [.int (iI 0)]) (rest := []) hx hb (hml.trans hl.1.symm) hown hts w lk_RL_57 (t_X5_count l g c0 na be tr sn x h' o T' T1' T2' T3' K' z' P' C' (N + 210000) B' 0 hW' hC' (by omega)) (call_recv w (q0 := 0) rfl fX5.1) rfl rfl (Nat.le_of_ble_eq_true rfl) ⟨Nat.le_of_ble_eq_true rfl, Nat.le_of_ble_eq_true rfl⟩ ⟨Nat.le_of_ble_eq_true rfl, Nat.le_of_ble_eq_true rfl⟩ dL_law_198 ?_
          rw [cc_0]
          refine lv_iload hx hb dL_law_201 (lv_at hl 6 rfl) ?_
          refine ri_icmp_ne (tgt := 232) hx hb dL_law_203 (by decide) (by omega) (by omega) (fun c36 => ?_) (fun c36 => ?_)
          · exact absurd c36 (by omega)
          refine lv_aload_n hx hb dL_law_206 rfl (lv_at hl 9 rfl) ?_
          refine ri_bipush hx hb dL_law_207 (by decide) ?_
          refine co_r (As := [.int (iI 7)]) (rest := []) hx hb (hml.trans hl.1.symm) hown hts w lk_RL_57 (t_X5_count l g c0 na be tr sn x h' o T' T1' T2' T3' K' z' P' C' (N + 210000) B' 7 hW' hC' (by omega)) (call_recv w (q0 := 0) rfl fX5.1) rfl rfl (Nat.le_of_ble_eq_true rfl) ⟨Nat.le_of_ble_eq_true rfl, Nat.le_of_ble_eq_true rfl⟩ ⟨Nat.le_of_ble_eq_true rfl, Nat.le_of_ble_eq_true rfl⟩ dL_law_209 ?_
          rw [cc_7]
          refine lv_iload hx hb dL_law_212 (lv_at hl 5 rfl) ?_
          refine ri_icmp_ne (tgt := 232) hx hb dL_law_214 (by decide) (by omega) (by omega) (fun c37 => ?_) (fun c37 => ?_)
          · exact absurd c37 (by omega)
          refine lv_aload_n hx hb dL_law_217 rfl (lv_at hl 9 rfl) ?_
          refine ri_bipush hx hb dL_law_218 (by decide) ?_
          refine co_r (As := [.int (iI 8)]) (rest := []) hx hb (hml.trans hl.1.symm) hown hts w lk_RL_57 (t_X5_count l g c0 na be tr sn x h' o T' T1' T2' T3' K' z' P' C' (N + 210000) B' 8 hW' hC' (by omega)) (call_recv w (q0 := 0) rfl fX5.1) rfl rfl (Nat.le_of_ble_eq_true rfl) ⟨Nat.le_of_ble_eq_true rfl, Nat.le_of_ble_eq_true rfl⟩ ⟨Nat.le_of_ble_eq_true rfl, Nat.le_of_ble_eq_true rfl⟩ dL_law_220 ?_
          rw [cc_8]
          refine lv_iload hx hb dL_law_223 (lv_at hl 4 rfl) ?_
          refine ri_icmp_ne (tgt := 232) hx hb dL_law_225 (by decide) (by omega) (by omega) (fun c38 => ?_) (fun c38 => ?_)
          · exact absurd c38 (by omega)
          refine ri_iconst hx hb dL_law_228 ?_
          refine lv_goto (tgt := 233) hx hb dL_law_229 (by decide) ?_
          refine lv_istore_n (lv' := [(2, .int (iI 1)), (12, .int (iI u)), (11, .int (iI q1)), (10, .int (iI 0)), (9, .int (iI pg)), (8, .int (iI (B 0 10))), (7, .int (iI (B 0 9))), (6, .int (iI (B 0 0))), (5, .int (iI (B 8 0))), (0, .ref sb), (1, .ref c0), (3, .int (iI tn)), (4, .int (iI i))]) hx hb dL_law_233 rfl hl (by decide) rfl (fun ls hl => ?_)
          refine lv_iload hx hb dL_law_234 (lv_at hl 4 rfl) ?_
          refine ri_if_lt (tgt := 331) hx hb dL_law_236 (by decide) (by omega) (fun c39 => ?_) (fun c39 => ?_)
          · exact absurd c39 (by omega)
          refine lv_iload hx hb dL_law_239 (lv_at hl 1 rfl) ?_
          refine ri_if_lt (tgt := 331) hx hb dL_law_241 (by decide) (by omega) (fun c40 => ?_) (fun c40 => ?_)
          · exact kt H locs ls ⟨h', T', T1', T2', T3', K', z', P', C', B', hW', hB', hC', w, (lv_sub hl [9, 10, 0, 11, 12] rfl)⟩
          · exact absurd c40 (by omega)
        · exact absurd c32 (by omega)
    · obtain ⟨hr3, hrf⟩ := hrd (by omega)
      rcases hr3 with ⟨hu0, hqk, hn⟩ | ⟨hu0, hqk, hn⟩ | ⟨hu0, hqk, hn⟩
      · refine lv_iload hx hb dL_law_32 (lv_at hl 4 rfl) ?_
        refine lv_iload_n hx hb dL_law_34 rfl (lv_at hl 3 rfl) ?_
        refine ri_icmp_ge (tgt := 361) hx hb dL_law_35 (by decide) (by omega) (by omega) (fun c41 => ?_) (fun c41 => ?_)
        · exact absurd c41 (by omega)
        refine lv_iload_n hx hb dL_law_38 rfl (lv_at hl 2 rfl) ?_
        refine ri_if_eq (tgt := 361) hx hb dL_law_39 (by decide) (by omega) (fun c42 => ?_) (fun c42 => ?_)
        · exact absurd c42 (by omega)
        refine lv_aload_n hx hb dL_law_42 rfl (lv_at hl 1 rfl) ?_
        refine ri_bipush hx hb dL_law_43 (by decide) ?_
        refine co_r (As := [.int (iI 11)]) (rest := []) hx hb (hml.trans hl.1.symm) hown hts w lk_RL_57 (t_X5_count l g c0 na be tr sn x h o T T1 T2 T3 K z P C N B 11 hW hC (by omega)) (call_recv w (q0 := 0) rfl fX5.1) rfl rfl (Nat.le_of_ble_eq_true rfl) ⟨Nat.le_of_ble_eq_true rfl, Nat.le_of_ble_eq_true rfl⟩ ⟨Nat.le_of_ble_eq_true rfl, Nat.le_of_ble_eq_true rfl⟩ dL_law_45 ?_
        rw [cc_11]
        refine lv_istore (lv' := [(5, .int (iI (B 8 0))), (0, .ref sb), (1, .ref c0), (2, .int (iI 1)), (3, .int (iI tn)), (4, .int (iI i))]) hx hb dL_law_48 hl (by decide) rfl (fun ls hl => ?_)
        refine lv_aload_n hx hb dL_law_50 rfl (lv_at hl 2 rfl) ?_
        refine ri_iconst hx hb dL_law_51 ?_
        refine co_r (As := [.int (iI 0)]) (rest := []) hx hb (hml.trans hl.1.symm) hown hts w lk_RL_57 (t_X5_count l g c0 na be tr sn x h o T T1 T2 T3 K z P C N B 0 hW hC (by omega)) (call_recv w (q0 := 0) rfl fX5.1) rfl rfl (Nat.le_of_ble_eq_true rfl) ⟨Nat.le_of_ble_eq_true rfl, Nat.le_of_ble_eq_true rfl⟩ ⟨Nat.le_of_ble_eq_true rfl, Nat.le_of_ble_eq_true rfl⟩ dL_law_52 ?_
        rw [cc_0]
        refine lv_istore (lv' := [(6, .int (iI (B 0 0))), (5, .int (iI (B 8 0))), (0, .ref sb), (1, .ref c0), (2, .int (iI 1)), (3, .int (iI tn)), (4, .int (iI i))]) hx hb dL_law_55 hl (by decide) rfl (fun ls hl => ?_)
        refine lv_aload_n hx hb dL_law_57 rfl (lv_at hl 3 rfl) ?_
        refine ri_bipush hx hb dL_law_58 (by decide) ?_
        refine co_r (As := [.int (iI 7)]) (rest := []) hx hb (hml.trans hl.1.symm) hown hts w lk_RL_57 (t_X5_count l g c0 na be tr sn x h o T T1 T2 T3 K z P C N B 7 hW hC (by omega)) (call_recv w (q0 := 0) rfl fX5.1) rfl rfl (Nat.le_of_ble_eq_true rfl) ⟨Nat.le_of_ble_eq_true rfl, Nat.le_of_ble_eq_true rfl⟩ ⟨Nat.le_of_ble_eq_true rfl, Nat.le_of_ble_eq_true rfl⟩ dL_law_60 ?_
        rw [cc_7]
        refine lv_istore (lv' := [(7, .int (iI (B 0 9))), (6, .int (iI (B 0 0))), (5, .int (iI (B 8 0))), (0, .ref sb), (1, .ref c0), (2, .int (iI 1)), (3, .int (iI tn)), (4, .int (iI i))]) hx hb dL_law_63 hl (by decide) rfl (fun ls hl => ?_)
        refine lv_aload_n hx hb dL_law_65 rfl (lv_at hl 4 rfl) ?_
        refine ri_bipush hx hb dL_law_66 (by decide) ?_
        refine co_r (As := [.int (iI 8)]) (rest := []) hx hb (hml.trans hl.1.symm) hown hts w lk_RL_57 (t_X5_count l g c0 na be tr sn x h o T T1 T2 T3 K z P C N B 8 hW hC (by omega)) (call_recv w (q0 := 0) rfl fX5.1) rfl rfl (Nat.le_of_ble_eq_true rfl) ⟨Nat.le_of_ble_eq_true rfl, Nat.le_of_ble_eq_true rfl⟩ ⟨Nat.le_of_ble_eq_true rfl, Nat.le_of_ble_eq_true rfl⟩ dL_law_68 ?_
        rw [cc_8]
        refine lv_istore (lv' := [(8, .int (iI (B 0 10))), (7, .int (iI (B 0 9))), (6, .int (iI (B 0 0))), (5, .int (iI (B 8 0))), (0, .ref sb), (1, .ref c0), (2, .int (iI 1)), (3, .int (iI tn)), (4, .int (iI i))]) hx hb dL_law_71 hl (by decide) rfl (fun ls hl => ?_)
        refine lv_aload_n hx hb dL_law_73 rfl (lv_at hl 4 rfl) ?_
        refine ri_iconst hx hb dL_law_74 ?_
        refine lv_iload hx hb dL_law_75 (lv_at hl 8 rfl) ?_
        refine ri_imul (z := 3 * i) hx hb dL_law_77 (by omega) ?_
        refine call_sS (As := [.ref sb, .int (iI (3 * i))]) (rest := []) hx hb (hml.trans hl.1.symm) hown hts w hX hbl hbA lk_RL_9 (t_L_cell l sb L xs (3 * i) (by omega) (by omega)) rfl rfl (Nat.le_of_ble_eq_true rfl) ⟨Nat.le_of_ble_eq_true rfl, Nat.le_of_ble_eq_true rfl⟩ ⟨Nat.le_of_ble_eq_true rfl, Nat.le_of_ble_eq_true rfl⟩ dL_law_78 ?_
        refine ri_bipush hx hb dL_law_81 (by decide) ?_
        refine cn_r (As := [.int (iI (x_cell L xs (3 * i))), .int (iI 16)]) (rest := []) hx hb (hml.trans hl.1.symm) hown hts w lk_RL_15 (t_L_low l g (x_cell L xs (3 * i)) 16 (by omega)) rfl rfl (Nat.le_of_ble_eq_true rfl) ⟨Nat.le_of_ble_eq_true rfl, Nat.le_of_ble_eq_true rfl⟩ ⟨Nat.le_of_ble_eq_true rfl, Nat.le_of_ble_eq_true rfl⟩ dL_law_83 ?_
        rw [← ht]
        refine ri_iconst hx hb dL_law_86 ?_
        refine ri_icmp_le (tgt := 126) hx hb dL_law_87 (by decide) (by omega) (by omega) (fun c43 => ?_) (fun c43 => ?_)
        · exact absurd c43 (by omega)
        refine lv_aload_n hx hb dL_law_90 rfl (lv_at hl 4 rfl) ?_
        refine ri_iconst hx hb dL_law_91 ?_
        refine lv_iload hx hb dL_law_92 (lv_at hl 8 rfl) ?_
        refine ri_imul (z := 3 * i) hx hb dL_law_94 (by omega) ?_
        refine call_sS (As := [.ref sb, .int (iI (3 * i))]) (rest := []) hx hb (hml.trans hl.1.symm) hown hts w hX hbl hbA lk_RL_9 (t_L_cell l sb L xs (3 * i) (by omega) (by omega)) rfl rfl (Nat.le_of_ble_eq_true rfl) ⟨Nat.le_of_ble_eq_true rfl, Nat.le_of_ble_eq_true rfl⟩ ⟨Nat.le_of_ble_eq_true rfl, Nat.le_of_ble_eq_true rfl⟩ dL_law_95 ?_
        refine ri_bipush hx hb dL_law_98 (by decide) ?_
        refine cn_r (As := [.int (iI (x_cell L xs (3 * i))), .int (iI 16)]) (rest := []) hx hb (hml.trans hl.1.symm) hown hts w lk_RL_15 (t_L_low l g (x_cell L xs (3 * i)) 16 (by omega)) rfl rfl (Nat.le_of_ble_eq_true rfl) ⟨Nat.le_of_ble_eq_true rfl, Nat.le_of_ble_eq_true rfl⟩ ⟨Nat.le_of_ble_eq_true rfl, Nat.le_of_ble_eq_true rfl⟩ dL_law_100 ?_
        rw [← ht]
        refine ri_bipush hx hb dL_law_103 (by decide) ?_
        refine ri_icmp_ge (tgt := 126) hx hb dL_law_105 (by decide) (by omega) (by omega) (fun c44 => ?_) (fun c44 => ?_)
        · exact absurd c44 (by omega)
        refine lv_aload_n hx hb dL_law_108 rfl (lv_at hl 4 rfl) ?_
        refine ri_iconst hx hb dL_law_109 ?_
        refine lv_iload hx hb dL_law_110 (lv_at hl 8 rfl) ?_
        refine ri_imul (z := 3 * i) hx hb dL_law_112 (by omega) ?_
        refine ri_iconst hx hb dL_law_113 ?_
        refine ri_iadd (z := 3 * i + 1) hx hb dL_law_114 (by omega) ?_
        refine call_sS (As := [.ref sb, .int (iI (3 * i + 1))]) (rest := []) hx hb (hml.trans hl.1.symm) hown hts w hX hbl hbA lk_RL_9 (t_L_cell l sb L xs (3 * i + 1) (by omega) (by omega)) rfl rfl (Nat.le_of_ble_eq_true rfl) ⟨Nat.le_of_ble_eq_true rfl, Nat.le_of_ble_eq_true rfl⟩ ⟨Nat.le_of_ble_eq_true rfl, Nat.le_of_ble_eq_true rfl⟩ dL_law_115 ?_
        refine ri_bipush hx hb dL_law_118 (by decide) ?_
        refine cn_r (As := [.int (iI (x_cell L xs (3 * i + 1))), .int (iI 14)]) (rest := []) hx hb (hml.trans hl.1.symm) hown hts w lk_RL_15 (t_L_low l g (x_cell L xs (3 * i + 1)) 14 (by omega)) rfl rfl (Nat.le_of_ble_eq_true rfl) ⟨Nat.le_of_ble_eq_true rfl, Nat.le_of_ble_eq_true rfl⟩ ⟨Nat.le_of_ble_eq_true rfl, Nat.le_of_ble_eq_true rfl⟩ dL_law_120 ?_
        rw [← hp]
        refine lv_goto (tgt := 127) hx hb dL_law_123 (by decide) ?_
        refine lv_istore (lv' := [(9, .int (iI pg)), (8, .int (iI (B 0 10))), (7, .int (iI (B 0 9))), (6, .int (iI (B 0 0))), (5, .int (iI (B 8 0))), (0, .ref sb), (1, .ref c0), (2, .int (iI 1)), (3, .int (iI tn)), (4, .int (iI i))]) hx hb dL_law_127 hl (by decide) rfl (fun ls hl => ?_)
        refine lv_iload hx hb dL_law_129 (lv_at hl 0 rfl) ?_
        refine ri_if_lt (tgt := 148) hx hb dL_law_131 (by decide) (by omega) (fun c45 => ?_) (fun c45 => ?_)
        · exact absurd c45 (by omega)
        refine lv_aload_n hx hb dL_law_134 rfl (lv_at hl 6 rfl) ?_
        refine lv_iload hx hb dL_law_135 (lv_at hl 0 rfl) ?_
        refine ri_iconst hx hb dL_law_137 ?_
        refine co_r (As := [.int (iI pg), .int (iI 4)]) (rest := []) hx hb (hml.trans hl.1.symm) hown hts w lk_RL_64 (t_X5_page l g c0 na be tr sn x h o T T1 T2 T3 K z P C N B pg 4 hW hC (by omega) (by omega)) (call_recv w (q0 := 0) rfl fX5.1) rfl rfl (Nat.le_of_ble_eq_true rfl) ⟨Nat.le_of_ble_eq_true rfl, Nat.le_of_ble_eq_true rfl⟩ ⟨Nat.le_of_ble_eq_true rfl, Nat.le_of_ble_eq_true rfl⟩ dL_law_138 ?_
        rw [← hq4]
        refine ri_if_lt (tgt := 148) hx hb dL_law_141 (by decide) (by omega) (fun c46 => ?_) (fun c46 => ?_)
        · exact absurd c46 (by omega)
        refine ri_iconst hx hb dL_law_144 ?_
        refine lv_goto (tgt := 149) hx hb dL_law_145 (by decide) ?_
        refine lv_istore (lv' := [(10, .int (iI 1)), (9, .int (iI pg)), (8, .int (iI (B 0 10))), (7, .int (iI (B 0 9))), (6, .int (iI (B 0 0))), (5, .int (iI (B 8 0))), (0, .ref sb), (1, .ref c0), (2, .int (iI 1)), (3, .int (iI tn)), (4, .int (iI i))]) hx hb dL_law_149 hl (by decide) rfl (fun ls hl => ?_)
        refine lv_iload hx hb dL_law_151 (lv_at hl 1 rfl) ?_
        refine ri_if_lt (tgt := 166) hx hb dL_law_153 (by decide) (by omega) (fun c47 => ?_) (fun c47 => ?_)
        · exact absurd c47 (by omega)
        refine lv_aload_n hx hb dL_law_156 rfl (lv_at hl 7 rfl) ?_
        refine lv_iload hx hb dL_law_157 (lv_at hl 1 rfl) ?_
        refine ri_iconst hx hb dL_law_159 ?_
        refine co_r (As := [.int (iI pg), .int (iI 1)]) (rest := []) hx hb (hml.trans hl.1.symm) hown hts w lk_RL_64 (t_X5_page l g c0 na be tr sn x h o T T1 T2 T3 K z P C N B pg 1 hW hC (by omega) (by omega)) (call_recv w (q0 := 0) rfl fX5.1) rfl rfl (Nat.le_of_ble_eq_true rfl) ⟨Nat.le_of_ble_eq_true rfl, Nat.le_of_ble_eq_true rfl⟩ ⟨Nat.le_of_ble_eq_true rfl, Nat.le_of_ble_eq_true rfl⟩ dL_law_160 ?_
        rw [← hq1]
        refine lv_goto (tgt := 167) hx hb dL_law_163 (by decide) ?_
        refine lv_istore (lv' := [(11, .int (iI q1)), (10, .int (iI 1)), (9, .int (iI pg)), (8, .int (iI (B 0 10))), (7, .int (iI (B 0 9))), (6, .int (iI (B 0 0))), (5, .int (iI (B 8 0))), (0, .ref sb), (1, .ref c0), (2, .int (iI 1)), (3, .int (iI tn)), (4, .int (iI i))]) hx hb dL_law_167 hl (by decide) rfl (fun ls hl => ?_)
        refine lv_aload_n hx hb dL_law_169 rfl (lv_at hl 8 rfl) ?_
        refine lv_aload_n hx hb dL_law_170 rfl (lv_at hl 7 rfl) ?_
        refine ri_iconst hx hb dL_law_171 ?_
        refine lv_iload hx hb dL_law_172 (lv_at hl 11 rfl) ?_
        refine ri_imul (z := 3 * i) hx hb dL_law_174 (by omega) ?_
        refine call_aS (As := [.ref c0, .ref sb, .int (iI (3 * i))]) (rest := []) hx hb (hml.trans hl.1.symm) hown hts w hX hbl hbA lk_RL_74 (fun sz => t_L_act l g c0 na be tr sn x h o T T1 T2 T3 K z P C N B sb L xs (3 * i) hW hC (by omega) (by omega) (by omega) sz) rfl rfl (Nat.le_of_ble_eq_true rfl) ⟨Nat.le_of_ble_eq_true rfl, Nat.le_of_ble_eq_true rfl⟩ ⟨Nat.le_of_ble_eq_true rfl, Nat.le_of_ble_eq_true rfl⟩ dL_law_175 (fun vv w1 H locs hr w => ?_)
        rw [← ht, ← ha, ← hbv, hab] at hr
        obtain ⟨rfl, h', T', T1', T2', T3', K', z', P', C', rfl, hC'⟩ := hr
        refine lv_istore (lv' := [(12, .int (iI u)), (11, .int (iI q1)), (10, .int (iI 1)), (9, .int (iI pg)), (8, .int (iI (B 0 10))), (7, .int (iI (B 0 9))), (6, .int (iI (B 0 0))), (5, .int (iI (B 8 0))), (0, .ref sb), (1, .ref c0), (2, .int (iI 1)), (3, .int (iI tn)), (4, .int (iI i))]) hx hb dL_law_178 hl (by decide) rfl (fun ls hl => ?_)
        refine lv_iload hx hb dL_law_180 (lv_at hl 0 rfl) ?_
        refine ri_if_ge (tgt := 228) hx hb dL_law_182 (by decide) (by omega) (fun c48 => ?_) (fun c48 => ?_)
        · refine ri_iconst hx hb dL_law_228 ?_
          refine lv_goto (tgt := 233) hx hb dL_law_229 (by decide) ?_
          refine lv_istore_n (lv' := [(2, .int (iI 1)), (12, .int (iI u)), (11, .int (iI q1)), (10, .int (iI 1)), (9, .int (iI pg)), (8, .int (iI (B 0 10))), (7, .int (iI (B 0 9))), (6, .int (iI (B 0 0))), (5, .int (iI (B 8 0))), (0, .ref sb), (1, .ref c0), (3, .int (iI tn)), (4, .int (iI i))]) hx hb dL_law_233 rfl hl (by decide) rfl (fun ls hl => ?_)
          refine lv_iload hx hb dL_law_234 (lv_at hl 4 rfl) ?_
          refine ri_if_lt (tgt := 331) hx hb dL_law_236 (by decide) (by omega) (fun c49 => ?_) (fun c49 => ?_)
          · exact absurd c49 (by omega)
          refine lv_iload hx hb dL_law_239 (lv_at hl 1 rfl) ?_
          refine ri_if_lt (tgt := 331) hx hb dL_law_241 (by decide) (by omega) (fun c50 => ?_) (fun c50 => ?_)
          · exact absurd c50 (by omega)
          refine lv_iload_n hx hb dL_law_244 rfl (lv_at hl 0 rfl) ?_
          refine ri_if_eq (tgt := 329) hx hb dL_law_245 (by decide) (by omega) (fun c51 => ?_) (fun c51 => ?_)
          · exact absurd c51 (by omega)
          refine lv_iload hx hb dL_law_248 (lv_at hl 1 rfl) ?_
          refine ri_if_ne (tgt := 257) hx hb dL_law_250 (by decide) (by omega) (fun c52 => ?_) (fun c52 => ?_)
          · exact absurd c52 (by omega)
          refine ri_iconst hx hb dL_law_253 ?_
          refine lv_goto (tgt := 258) hx hb dL_law_254 (by decide) ?_
          refine lv_iload hx hb dL_law_258 (lv_at hl 3 rfl) ?_
          refine ri_icmp_ne (tgt := 329) hx hb dL_law_260 (by decide) (by omega) (by omega) (fun c53 => ?_) (fun c53 => ?_)
          · exact absurd c53 (by omega)
          refine lv_iload hx hb dL_law_263 (lv_at hl 1 rfl) ?_
          refine ri_if_ne (tgt := 283) hx hb dL_law_265 (by decide) (by omega) (fun c54 => ?_) (fun c54 => ?_)
          · exact absurd c54 (by omega)
          refine lv_aload_n hx hb dL_law_268 rfl (lv_at hl 10 rfl) ?_
          refine lv_iload hx hb dL_law_269 (lv_at hl 4 rfl) ?_
          refine ri_iconst hx hb dL_law_271 ?_
          refine co_r (As := [.int (iI pg), .int (iI 1)]) (rest := []) hx hb (hml.trans hl.1.symm) hown hts w lk_RL_64 (t_X5_page l g c0 na be tr sn x h' o T' T1' T2' T3' K' z' P' C' (N + 210000) B' pg 1 hW' hC' (by omega) (by omega)) (call_recv w (q0 := 0) rfl fX5.1) rfl rfl (Nat.le_of_ble_eq_true rfl) ⟨Nat.le_of_ble_eq_true rfl, Nat.le_of_ble_eq_true rfl⟩ ⟨Nat.le_of_ble_eq_true rfl, Nat.le_of_ble_eq_true rfl⟩ dL_law_272 ?_
          rw [← hn1]
          refine lv_iload hx hb dL_law_275 (lv_at hl 2 rfl) ?_
          refine ri_icmp_ne (tgt := 329) hx hb dL_law_277 (by decide) (by omega) (by omega) (fun c55 => ?_) (fun c55 => ?_)
          · exact absurd c55 (by omega)
          refine lv_goto (tgt := 307) hx hb dL_law_280 (by decide) ?_
          refine lv_aload_n hx hb dL_law_307 rfl (lv_at hl 10 rfl) ?_
          refine ri_iconst hx hb dL_law_308 ?_
          refine co_r (As := [.int (iI 3)]) (rest := []) hx hb (hml.trans hl.1.symm) hown hts w lk_RL_70 (t_X5_setting l g c0 na be tr sn x h' o T' T1' T2' T3' K' z' P' C' (N + 210000) B' 3 hW' hC' (by omega)) (call_recv w (q0 := 0) rfl fX5.1) rfl rfl (Nat.le_of_ble_eq_true rfl) ⟨Nat.le_of_ble_eq_true rfl, Nat.le_of_ble_eq_true rfl⟩ ⟨Nat.le_of_ble_eq_true rfl, Nat.le_of_ble_eq_true rfl⟩ dL_law_309 ?_
          rw [cs_3]
          refine ri_if_eq (tgt := 325) hx hb dL_law_312 (by decide) (by omega) (fun c56 => ?_) (fun c56 => ?_)
          · refine ri_iconst hx hb dL_law_325 ?_
            refine lv_goto (tgt := 330) hx hb dL_law_326 (by decide) ?_
            refine lv_istore_n (lv' := [(2, .int (iI 1)), (12, .int (iI u)), (11, .int (iI q1)), (10, .int (iI 1)), (9, .int (iI pg)), (8, .int (iI (B 0 10))), (7, .int (iI (B 0 9))), (6, .int (iI (B 0 0))), (5, .int (iI (B 8 0))), (0, .ref sb), (1, .ref c0), (3, .int (iI tn)), (4, .int (iI i))]) hx hb dL_law_330 rfl hl (by decide) rfl (fun ls hl => ?_)
            exact kt H locs ls ⟨h', T', T1', T2', T3', K', z', P', C', B', hW', hB', hC', w, (lv_sub hl [9, 10, 0, 11, 12] rfl)⟩
          · refine lv_aload_n hx hb dL_law_315 rfl (lv_at hl 10 rfl) ?_
            refine lv_iload hx hb dL_law_316 (lv_at hl 4 rfl) ?_
            refine ri_iconst hx hb dL_law_318 ?_
            refine co_r (As := [.int (iI pg), .int (iI 4)]) (rest := []) hx hb (hml.trans hl.1.symm) hown hts w lk_RL_64 (t_X5_page l g c0 na be tr sn x h' o T' T1' T2' T3' K' z' P' C' (N + 210000) B' pg 4 hW' hC' (by omega) (by omega)) (call_recv w (q0 := 0) rfl fX5.1) rfl rfl (Nat.le_of_ble_eq_true rfl) ⟨Nat.le_of_ble_eq_true rfl, Nat.le_of_ble_eq_true rfl⟩ ⟨Nat.le_of_ble_eq_true rfl, Nat.le_of_ble_eq_true rfl⟩ dL_law_319 ?_
            rw [← hn4]
            refine ri_if_ne (tgt := 329) hx hb dL_law_322 (by decide) (by omega) (fun c57 => ?_) (fun c57 => ?_)
            · exact absurd c57 (by omega)
            refine ri_iconst hx hb dL_law_325 ?_
            refine lv_goto (tgt := 330) hx hb dL_law_326 (by decide) ?_
            refine lv_istore_n (lv' := [(2, .int (iI 1)), (12, .int (iI u)), (11, .int (iI q1)), (10, .int (iI 1)), (9, .int (iI pg)), (8, .int (iI (B 0 10))), (7, .int (iI (B 0 9))), (6, .int (iI (B 0 0))), (5, .int (iI (B 8 0))), (0, .ref sb), (1, .ref c0), (3, .int (iI tn)), (4, .int (iI i))]) hx hb dL_law_330 rfl hl (by decide) rfl (fun ls hl => ?_)
            exact kt H locs ls ⟨h', T', T1', T2', T3', K', z', P', C', B', hW', hB', hC', w, (lv_sub hl [9, 10, 0, 11, 12] rfl)⟩
        · exact absurd c48 (by omega)
      · refine lv_iload hx hb dL_law_32 (lv_at hl 4 rfl) ?_
        refine lv_iload_n hx hb dL_law_34 rfl (lv_at hl 3 rfl) ?_
        refine ri_icmp_ge (tgt := 361) hx hb dL_law_35 (by decide) (by omega) (by omega) (fun c58 => ?_) (fun c58 => ?_)
        · exact absurd c58 (by omega)
        refine lv_iload_n hx hb dL_law_38 rfl (lv_at hl 2 rfl) ?_
        refine ri_if_eq (tgt := 361) hx hb dL_law_39 (by decide) (by omega) (fun c59 => ?_) (fun c59 => ?_)
        · exact absurd c59 (by omega)
        refine lv_aload_n hx hb dL_law_42 rfl (lv_at hl 1 rfl) ?_
        refine ri_bipush hx hb dL_law_43 (by decide) ?_
        refine co_r (As := [.int (iI 11)]) (rest := []) hx hb (hml.trans hl.1.symm) hown hts w lk_RL_57 (t_X5_count l g c0 na be tr sn x h o T T1 T2 T3 K z P C N B 11 hW hC (by omega)) (call_recv w (q0 := 0) rfl fX5.1) rfl rfl (Nat.le_of_ble_eq_true rfl) ⟨Nat.le_of_ble_eq_true rfl, Nat.le_of_ble_eq_true rfl⟩ ⟨Nat.le_of_ble_eq_true rfl, Nat.le_of_ble_eq_true rfl⟩ dL_law_45 ?_
        rw [cc_11]
        refine lv_istore (lv' := [(5, .int (iI (B 8 0))), (0, .ref sb), (1, .ref c0), (2, .int (iI 1)), (3, .int (iI tn)), (4, .int (iI i))]) hx hb dL_law_48 hl (by decide) rfl (fun ls hl => ?_)
        refine lv_aload_n hx hb dL_law_50 rfl (lv_at hl 2 rfl) ?_
        refine ri_iconst hx hb dL_law_51 ?_
        refine co_r (As := [.int (iI 0)]) (rest := []) hx hb (hml.trans hl.1.symm) hown hts w lk_RL_57 (t_X5_count l g c0 na be tr sn x h o T T1 T2 T3 K z P C N B 0 hW hC (by omega)) (call_recv w (q0 := 0) rfl fX5.1) rfl rfl (Nat.le_of_ble_eq_true rfl) ⟨Nat.le_of_ble_eq_true rfl, Nat.le_of_ble_eq_true rfl⟩ ⟨Nat.le_of_ble_eq_true rfl, Nat.le_of_ble_eq_true rfl⟩ dL_law_52 ?_
        rw [cc_0]
        refine lv_istore (lv' := [(6, .int (iI (B 0 0))), (5, .int (iI (B 8 0))), (0, .ref sb), (1, .ref c0), (2, .int (iI 1)), (3, .int (iI tn)), (4, .int (iI i))]) hx hb dL_law_55 hl (by decide) rfl (fun ls hl => ?_)
        refine lv_aload_n hx hb dL_law_57 rfl (lv_at hl 3 rfl) ?_
        refine ri_bipush hx hb dL_law_58 (by decide) ?_
        refine co_r (As := [.int (iI 7)]) (rest := []) hx hb (hml.trans hl.1.symm) hown hts w lk_RL_57 (t_X5_count l g c0 na be tr sn x h o T T1 T2 T3 K z P C N B 7 hW hC (by omega)) (call_recv w (q0 := 0) rfl fX5.1) rfl rfl (Nat.le_of_ble_eq_true rfl) ⟨Nat.le_of_ble_eq_true rfl, Nat.le_of_ble_eq_true rfl⟩ ⟨Nat.le_of_ble_eq_true rfl, Nat.le_of_ble_eq_true rfl⟩ dL_law_60 ?_
        rw [cc_7]
        refine lv_istore (lv' := [(7, .int (iI (B 0 9))), (6, .int (iI (B 0 0))), (5, .int (iI (B 8 0))), (0, .ref sb), (1, .ref c0), (2, .int (iI 1)), (3, .int (iI tn)), (4, .int (iI i))]) hx hb dL_law_63 hl (by decide) rfl (fun ls hl => ?_)
        refine lv_aload_n hx hb dL_law_65 rfl (lv_at hl 4 rfl) ?_
        refine ri_bipush hx hb dL_law_66 (by decide) ?_
        refine co_r (As := [.int (iI 8)]) (rest := []) hx hb (hml.trans hl.1.symm) hown hts w lk_RL_57 (t_X5_count l g c0 na be tr sn x h o T T1 T2 T3 K z P C N B 8 hW hC (by omega)) (call_recv w (q0 := 0) rfl fX5.1) rfl rfl (Nat.le_of_ble_eq_true rfl) ⟨Nat.le_of_ble_eq_true rfl, Nat.le_of_ble_eq_true rfl⟩ ⟨Nat.le_of_ble_eq_true rfl, Nat.le_of_ble_eq_true rfl⟩ dL_law_68 ?_
        rw [cc_8]
        refine lv_istore (lv' := [(8, .int (iI (B 0 10))), (7, .int (iI (B 0 9))), (6, .int (iI (B 0 0))), (5, .int (iI (B 8 0))), (0, .ref sb), (1, .ref c0), (2, .int (iI 1)), (3, .int (iI tn)), (4, .int (iI i))]) hx hb dL_law_71 hl (by decide) rfl (fun ls hl => ?_)
        refine lv_aload_n hx hb dL_law_73 rfl (lv_at hl 4 rfl) ?_
        refine ri_iconst hx hb dL_law_74 ?_
        refine lv_iload hx hb dL_law_75 (lv_at hl 8 rfl) ?_
        refine ri_imul (z := 3 * i) hx hb dL_law_77 (by omega) ?_
        refine call_sS (As := [.ref sb, .int (iI (3 * i))]) (rest := []) hx hb (hml.trans hl.1.symm) hown hts w hX hbl hbA lk_RL_9 (t_L_cell l sb L xs (3 * i) (by omega) (by omega)) rfl rfl (Nat.le_of_ble_eq_true rfl) ⟨Nat.le_of_ble_eq_true rfl, Nat.le_of_ble_eq_true rfl⟩ ⟨Nat.le_of_ble_eq_true rfl, Nat.le_of_ble_eq_true rfl⟩ dL_law_78 ?_
        refine ri_bipush hx hb dL_law_81 (by decide) ?_
        refine cn_r (As := [.int (iI (x_cell L xs (3 * i))), .int (iI 16)]) (rest := []) hx hb (hml.trans hl.1.symm) hown hts w lk_RL_15 (t_L_low l g (x_cell L xs (3 * i)) 16 (by omega)) rfl rfl (Nat.le_of_ble_eq_true rfl) ⟨Nat.le_of_ble_eq_true rfl, Nat.le_of_ble_eq_true rfl⟩ ⟨Nat.le_of_ble_eq_true rfl, Nat.le_of_ble_eq_true rfl⟩ dL_law_83 ?_
        rw [← ht]
        refine ri_iconst hx hb dL_law_86 ?_
        refine ri_icmp_le (tgt := 126) hx hb dL_law_87 (by decide) (by omega) (by omega) (fun c60 => ?_) (fun c60 => ?_)
        · exact absurd c60 (by omega)
        refine lv_aload_n hx hb dL_law_90 rfl (lv_at hl 4 rfl) ?_
        refine ri_iconst hx hb dL_law_91 ?_
        refine lv_iload hx hb dL_law_92 (lv_at hl 8 rfl) ?_
        refine ri_imul (z := 3 * i) hx hb dL_law_94 (by omega) ?_
        refine call_sS (As := [.ref sb, .int (iI (3 * i))]) (rest := []) hx hb (hml.trans hl.1.symm) hown hts w hX hbl hbA lk_RL_9 (t_L_cell l sb L xs (3 * i) (by omega) (by omega)) rfl rfl (Nat.le_of_ble_eq_true rfl) ⟨Nat.le_of_ble_eq_true rfl, Nat.le_of_ble_eq_true rfl⟩ ⟨Nat.le_of_ble_eq_true rfl, Nat.le_of_ble_eq_true rfl⟩ dL_law_95 ?_
        refine ri_bipush hx hb dL_law_98 (by decide) ?_
        refine cn_r (As := [.int (iI (x_cell L xs (3 * i))), .int (iI 16)]) (rest := []) hx hb (hml.trans hl.1.symm) hown hts w lk_RL_15 (t_L_low l g (x_cell L xs (3 * i)) 16 (by omega)) rfl rfl (Nat.le_of_ble_eq_true rfl) ⟨Nat.le_of_ble_eq_true rfl, Nat.le_of_ble_eq_true rfl⟩ ⟨Nat.le_of_ble_eq_true rfl, Nat.le_of_ble_eq_true rfl⟩ dL_law_100 ?_
        rw [← ht]
        refine ri_bipush hx hb dL_law_103 (by decide) ?_
        refine ri_icmp_ge (tgt := 126) hx hb dL_law_105 (by decide) (by omega) (by omega) (fun c61 => ?_) (fun c61 => ?_)
        · exact absurd c61 (by omega)
        refine lv_aload_n hx hb dL_law_108 rfl (lv_at hl 4 rfl) ?_
        refine ri_iconst hx hb dL_law_109 ?_
        refine lv_iload hx hb dL_law_110 (lv_at hl 8 rfl) ?_
        refine ri_imul (z := 3 * i) hx hb dL_law_112 (by omega) ?_
        refine ri_iconst hx hb dL_law_113 ?_
        refine ri_iadd (z := 3 * i + 1) hx hb dL_law_114 (by omega) ?_
        refine call_sS (As := [.ref sb, .int (iI (3 * i + 1))]) (rest := []) hx hb (hml.trans hl.1.symm) hown hts w hX hbl hbA lk_RL_9 (t_L_cell l sb L xs (3 * i + 1) (by omega) (by omega)) rfl rfl (Nat.le_of_ble_eq_true rfl) ⟨Nat.le_of_ble_eq_true rfl, Nat.le_of_ble_eq_true rfl⟩ ⟨Nat.le_of_ble_eq_true rfl, Nat.le_of_ble_eq_true rfl⟩ dL_law_115 ?_
        refine ri_bipush hx hb dL_law_118 (by decide) ?_
        refine cn_r (As := [.int (iI (x_cell L xs (3 * i + 1))), .int (iI 14)]) (rest := []) hx hb (hml.trans hl.1.symm) hown hts w lk_RL_15 (t_L_low l g (x_cell L xs (3 * i + 1)) 14 (by omega)) rfl rfl (Nat.le_of_ble_eq_true rfl) ⟨Nat.le_of_ble_eq_true rfl, Nat.le_of_ble_eq_true rfl⟩ ⟨Nat.le_of_ble_eq_true rfl, Nat.le_of_ble_eq_true rfl⟩ dL_law_120 ?_
        rw [← hp]
        refine lv_goto (tgt := 127) hx hb dL_law_123 (by decide) ?_
        refine lv_istore (lv' := [(9, .int (iI pg)), (8, .int (iI (B 0 10))), (7, .int (iI (B 0 9))), (6, .int (iI (B 0 0))), (5, .int (iI (B 8 0))), (0, .ref sb), (1, .ref c0), (2, .int (iI 1)), (3, .int (iI tn)), (4, .int (iI i))]) hx hb dL_law_127 hl (by decide) rfl (fun ls hl => ?_)
        refine lv_iload hx hb dL_law_129 (lv_at hl 0 rfl) ?_
        refine ri_if_lt (tgt := 148) hx hb dL_law_131 (by decide) (by omega) (fun c62 => ?_) (fun c62 => ?_)
        · exact absurd c62 (by omega)
        refine lv_aload_n hx hb dL_law_134 rfl (lv_at hl 6 rfl) ?_
        refine lv_iload hx hb dL_law_135 (lv_at hl 0 rfl) ?_
        refine ri_iconst hx hb dL_law_137 ?_
        refine co_r (As := [.int (iI pg), .int (iI 4)]) (rest := []) hx hb (hml.trans hl.1.symm) hown hts w lk_RL_64 (t_X5_page l g c0 na be tr sn x h o T T1 T2 T3 K z P C N B pg 4 hW hC (by omega) (by omega)) (call_recv w (q0 := 0) rfl fX5.1) rfl rfl (Nat.le_of_ble_eq_true rfl) ⟨Nat.le_of_ble_eq_true rfl, Nat.le_of_ble_eq_true rfl⟩ ⟨Nat.le_of_ble_eq_true rfl, Nat.le_of_ble_eq_true rfl⟩ dL_law_138 ?_
        rw [← hq4]
        refine ri_if_lt (tgt := 148) hx hb dL_law_141 (by decide) (by omega) (fun c63 => ?_) (fun c63 => ?_)
        · refine ri_iconst hx hb dL_law_148 ?_
          refine lv_istore (lv' := [(10, .int (iI 0)), (9, .int (iI pg)), (8, .int (iI (B 0 10))), (7, .int (iI (B 0 9))), (6, .int (iI (B 0 0))), (5, .int (iI (B 8 0))), (0, .ref sb), (1, .ref c0), (2, .int (iI 1)), (3, .int (iI tn)), (4, .int (iI i))]) hx hb dL_law_149 hl (by decide) rfl (fun ls hl => ?_)
          refine lv_iload hx hb dL_law_151 (lv_at hl 1 rfl) ?_
          refine ri_if_lt (tgt := 166) hx hb dL_law_153 (by decide) (by omega) (fun c64 => ?_) (fun c64 => ?_)
          · exact absurd c64 (by omega)
          refine lv_aload_n hx hb dL_law_156 rfl (lv_at hl 7 rfl) ?_
          refine lv_iload hx hb dL_law_157 (lv_at hl 1 rfl) ?_
          refine ri_iconst hx hb dL_law_159 ?_
          refine co_r (As := [.int (iI pg), .int (iI 1)]) (rest := []) hx hb (hml.trans hl.1.symm) hown hts w lk_RL_64 (t_X5_page l g c0 na be tr sn x h o T T1 T2 T3 K z P C N B pg 1 hW hC (by omega) (by omega)) (call_recv w (q0 := 0) rfl fX5.1) rfl rfl (Nat.le_of_ble_eq_true rfl) ⟨Nat.le_of_ble_eq_true rfl, Nat.le_of_ble_eq_true rfl⟩ ⟨Nat.le_of_ble_eq_true rfl, Nat.le_of_ble_eq_true rfl⟩ dL_law_160 ?_
          rw [← hq1]
          refine lv_goto (tgt := 167) hx hb dL_law_163 (by decide) ?_
          refine lv_istore (lv' := [(11, .int (iI q1)), (10, .int (iI 0)), (9, .int (iI pg)), (8, .int (iI (B 0 10))), (7, .int (iI (B 0 9))), (6, .int (iI (B 0 0))), (5, .int (iI (B 8 0))), (0, .ref sb), (1, .ref c0), (2, .int (iI 1)), (3, .int (iI tn)), (4, .int (iI i))]) hx hb dL_law_167 hl (by decide) rfl (fun ls hl => ?_)
          refine lv_aload_n hx hb dL_law_169 rfl (lv_at hl 8 rfl) ?_
          refine lv_aload_n hx hb dL_law_170 rfl (lv_at hl 7 rfl) ?_
          refine ri_iconst hx hb dL_law_171 ?_
          refine lv_iload hx hb dL_law_172 (lv_at hl 11 rfl) ?_
          refine ri_imul (z := 3 * i) hx hb dL_law_174 (by omega) ?_
          refine call_aS (As := [.ref c0, .ref sb, .int (iI (3 * i))]) (rest := []) hx hb (hml.trans hl.1.symm) hown hts w hX hbl hbA lk_RL_74 (fun sz => t_L_act l g c0 na be tr sn x h o T T1 T2 T3 K z P C N B sb L xs (3 * i) hW hC (by omega) (by omega) (by omega) sz) rfl rfl (Nat.le_of_ble_eq_true rfl) ⟨Nat.le_of_ble_eq_true rfl, Nat.le_of_ble_eq_true rfl⟩ ⟨Nat.le_of_ble_eq_true rfl, Nat.le_of_ble_eq_true rfl⟩ dL_law_175 (fun vv w1 H locs hr w => ?_)
          rw [← ht, ← ha, ← hbv, hab] at hr
          obtain ⟨rfl, h', T', T1', T2', T3', K', z', P', C', rfl, hC'⟩ := hr
          refine lv_istore (lv' := [(12, .int (iI u)), (11, .int (iI q1)), (10, .int (iI 0)), (9, .int (iI pg)), (8, .int (iI (B 0 10))), (7, .int (iI (B 0 9))), (6, .int (iI (B 0 0))), (5, .int (iI (B 8 0))), (0, .ref sb), (1, .ref c0), (2, .int (iI 1)), (3, .int (iI tn)), (4, .int (iI i))]) hx hb dL_law_178 hl (by decide) rfl (fun ls hl => ?_)
          refine lv_iload hx hb dL_law_180 (lv_at hl 0 rfl) ?_
          refine ri_if_ge (tgt := 228) hx hb dL_law_182 (by decide) (by omega) (fun c65 => ?_) (fun c65 => ?_)
          · refine ri_iconst hx hb dL_law_228 ?_
            refine lv_goto (tgt := 233) hx hb dL_law_229 (by decide) ?_
            refine lv_istore_n (lv' := [(2, .int (iI 1)), (12, .int (iI u)), (11, .int (iI q1)), (10, .int (iI 0)), (9, .int (iI pg)), (8, .int (iI (B 0 10))), (7, .int (iI (B 0 9))), (6, .int (iI (B 0 0))), (5, .int (iI (B 8 0))), (0, .ref sb), (1, .ref c0), (3, .int (iI tn)), (4, .int (iI i))]) hx hb dL_law_233 rfl hl (by decide) rfl (fun ls hl => ?_)
            refine lv_iload hx hb dL_law_234 (lv_at hl 4 rfl) ?_
            refine ri_if_lt (tgt := 331) hx hb dL_law_236 (by decide) (by omega) (fun c66 => ?_) (fun c66 => ?_)
            · exact absurd c66 (by omega)
            refine lv_iload hx hb dL_law_239 (lv_at hl 1 rfl) ?_
            refine ri_if_lt (tgt := 331) hx hb dL_law_241 (by decide) (by omega) (fun c67 => ?_) (fun c67 => ?_)
            · exact absurd c67 (by omega)
            refine lv_iload_n hx hb dL_law_244 rfl (lv_at hl 0 rfl) ?_
            refine ri_if_eq (tgt := 329) hx hb dL_law_245 (by decide) (by omega) (fun c68 => ?_) (fun c68 => ?_)
            · exact absurd c68 (by omega)
            refine lv_iload hx hb dL_law_248 (lv_at hl 1 rfl) ?_
            refine ri_if_ne (tgt := 257) hx hb dL_law_250 (by decide) (by omega) (fun c69 => ?_) (fun c69 => ?_)
            · refine ri_iconst hx hb dL_law_257 ?_
              refine lv_iload hx hb dL_law_258 (lv_at hl 3 rfl) ?_
              refine ri_icmp_ne (tgt := 329) hx hb dL_law_260 (by decide) (by omega) (by omega) (fun c70 => ?_) (fun c70 => ?_)
              · exact absurd c70 (by omega)
              refine lv_iload hx hb dL_law_263 (lv_at hl 1 rfl) ?_
              refine ri_if_ne (tgt := 283) hx hb dL_law_265 (by decide) (by omega) (fun c71 => ?_) (fun c71 => ?_)
              · refine lv_aload_n hx hb dL_law_283 rfl (lv_at hl 10 rfl) ?_
                refine lv_iload hx hb dL_law_284 (lv_at hl 4 rfl) ?_
                refine ri_iconst hx hb dL_law_286 ?_
                refine co_r (As := [.int (iI pg), .int (iI 1)]) (rest := []) hx hb (hml.trans hl.1.symm) hown hts w lk_RL_64 (t_X5_page l g c0 na be tr sn x h' o T' T1' T2' T3' K' z' P' C' (N + 210000) B' pg 1 hW' hC' (by omega) (by omega)) (call_recv w (q0 := 0) rfl fX5.1) rfl rfl (Nat.le_of_ble_eq_true rfl) ⟨Nat.le_of_ble_eq_true rfl, Nat.le_of_ble_eq_true rfl⟩ ⟨Nat.le_of_ble_eq_true rfl, Nat.le_of_ble_eq_true rfl⟩ dL_law_287 ?_
                rw [← hn1]
                refine lv_iload hx hb dL_law_290 (lv_at hl 1 rfl) ?_
                refine ri_iconst hx hb dL_law_292 ?_
                refine ri_icmp_ne (tgt := 303) hx hb dL_law_293 (by decide) (by omega) (by omega) (fun c72 => ?_) (fun c72 => ?_)
                · exact absurd c72 (by omega)
                refine lv_iload hx hb dL_law_296 (lv_at hl 2 rfl) ?_
                refine ri_iconst hx hb dL_law_298 ?_
                refine ri_iadd (z := q1 + 1) hx hb dL_law_299 (by omega) ?_
                refine lv_goto (tgt := 304) hx hb dL_law_300 (by decide) ?_
                refine ri_icmp_ne (tgt := 329) hx hb dL_law_304 (by decide) (by omega) (by omega) (fun c73 => ?_) (fun c73 => ?_)
                · exact absurd c73 (by omega)
                refine lv_aload_n hx hb dL_law_307 rfl (lv_at hl 10 rfl) ?_
                refine ri_iconst hx hb dL_law_308 ?_
                refine co_r (As := [.int (iI 3)]) (rest := []) hx hb (hml.trans hl.1.symm) hown hts w lk_RL_70 (t_X5_setting l g c0 na be tr sn x h' o T' T1' T2' T3' K' z' P' C' (N + 210000) B' 3 hW' hC' (by omega)) (call_recv w (q0 := 0) rfl fX5.1) rfl rfl (Nat.le_of_ble_eq_true rfl) ⟨Nat.le_of_ble_eq_true rfl, Nat.le_of_ble_eq_true rfl⟩ ⟨Nat.le_of_ble_eq_true rfl, Nat.le_of_ble_eq_true rfl⟩ dL_law_309 ?_
                rw [cs_3]
                refine ri_if_eq (tgt := 325) hx hb dL_law_312 (by decide) (by omega) (fun c74 => ?_) (fun c74 => ?_)
                · refine ri_iconst hx hb dL_law_325 ?_
                  refine lv_goto (tgt := 330) hx hb dL_law_326 (by decide) ?_
                  refine lv_istore_n (lv' := [(2, .int (iI 1)), (12, .int (iI u)), (11, .int (iI q1)), (10, .int (iI 0)), (9, .int (iI pg)), (8, .int (iI (B 0 10))), (7, .int (iI (B 0 9))), (6, .int (iI (B 0 0))), (5, .int (iI (B 8 0))), (0, .ref sb), (1, .ref c0), (3, .int (iI tn)), (4, .int (iI i))]) hx hb dL_law_330 rfl hl (by decide) rfl (fun ls hl => ?_)
                  exact kt H locs ls ⟨h', T', T1', T2', T3', K', z', P', C', B', hW', hB', hC', w, (lv_sub hl [9, 10, 0, 11, 12] rfl)⟩
                · refine lv_aload_n hx hb dL_law_315 rfl (lv_at hl 10 rfl) ?_
                  refine lv_iload hx hb dL_law_316 (lv_at hl 4 rfl) ?_
                  refine ri_iconst hx hb dL_law_318 ?_
                  refine co_r (As := [.int (iI pg), .int (iI 4)]) (rest := []) hx hb (hml.trans hl.1.symm) hown hts w lk_RL_64 (t_X5_page l g c0 na be tr sn x h' o T' T1' T2' T3' K' z' P' C' (N + 210000) B' pg 4 hW' hC' (by omega) (by omega)) (call_recv w (q0 := 0) rfl fX5.1) rfl rfl (Nat.le_of_ble_eq_true rfl) ⟨Nat.le_of_ble_eq_true rfl, Nat.le_of_ble_eq_true rfl⟩ ⟨Nat.le_of_ble_eq_true rfl, Nat.le_of_ble_eq_true rfl⟩ dL_law_319 ?_
                  rw [← hn4]
                  refine ri_if_ne (tgt := 329) hx hb dL_law_322 (by decide) (by omega) (fun c75 => ?_) (fun c75 => ?_)
                  · exact absurd c75 (by omega)
                  refine ri_iconst hx hb dL_law_325 ?_
                  refine lv_goto (tgt := 330) hx hb dL_law_326 (by decide) ?_
                  refine lv_istore_n (lv' := [(2, .int (iI 1)), (12, .int (iI u)), (11, .int (iI q1)), (10, .int (iI 0)), (9, .int (iI pg)), (8, .int (iI (B 0 10))), (7, .int (iI (B 0 9))), (6, .int (iI (B 0 0))), (5, .int (iI (B 8 0))), (0, .ref sb), (1, .ref c0), (3, .int (iI tn)), (4, .int (iI i))]) hx hb dL_law_330 rfl hl (by decide) rfl (fun ls hl => ?_)
                  exact kt H locs ls ⟨h', T', T1', T2', T3', K', z', P', C', B', hW', hB', hC', w, (lv_sub hl [9, 10, 0, 11, 12] rfl)⟩
              · exact absurd c71 (by omega)
            · exact absurd c69 (by omega)
          · exact absurd c65 (by omega)
        · exact absurd c63 (by omega)
      · refine lv_iload hx hb dL_law_32 (lv_at hl 4 rfl) ?_
        refine lv_iload_n hx hb dL_law_34 rfl (lv_at hl 3 rfl) ?_
        refine ri_icmp_ge (tgt := 361) hx hb dL_law_35 (by decide) (by omega) (by omega) (fun c76 => ?_) (fun c76 => ?_)
        · exact absurd c76 (by omega)
        refine lv_iload_n hx hb dL_law_38 rfl (lv_at hl 2 rfl) ?_
        refine ri_if_eq (tgt := 361) hx hb dL_law_39 (by decide) (by omega) (fun c77 => ?_) (fun c77 => ?_)
        · exact absurd c77 (by omega)
        refine lv_aload_n hx hb dL_law_42 rfl (lv_at hl 1 rfl) ?_
        refine ri_bipush hx hb dL_law_43 (by decide) ?_
        refine co_r (As := [.int (iI 11)]) (rest := []) hx hb (hml.trans hl.1.symm) hown hts w lk_RL_57 (t_X5_count l g c0 na be tr sn x h o T T1 T2 T3 K z P C N B 11 hW hC (by omega)) (call_recv w (q0 := 0) rfl fX5.1) rfl rfl (Nat.le_of_ble_eq_true rfl) ⟨Nat.le_of_ble_eq_true rfl, Nat.le_of_ble_eq_true rfl⟩ ⟨Nat.le_of_ble_eq_true rfl, Nat.le_of_ble_eq_true rfl⟩ dL_law_45 ?_
        rw [cc_11]
        refine lv_istore (lv' := [(5, .int (iI (B 8 0))), (0, .ref sb), (1, .ref c0), (2, .int (iI 1)), (3, .int (iI tn)), (4, .int (iI i))]) hx hb dL_law_48 hl (by decide) rfl (fun ls hl => ?_)
        refine lv_aload_n hx hb dL_law_50 rfl (lv_at hl 2 rfl) ?_
        refine ri_iconst hx hb dL_law_51 ?_
        refine co_r (As := [.int (iI 0)]) (rest := []) hx hb (hml.trans hl.1.symm) hown hts w lk_RL_57 (t_X5_count l g c0 na be tr sn x h o T T1 T2 T3 K z P C N B 0 hW hC (by omega)) (call_recv w (q0 := 0) rfl fX5.1) rfl rfl (Nat.le_of_ble_eq_true rfl) ⟨Nat.le_of_ble_eq_true rfl, Nat.le_of_ble_eq_true rfl⟩ ⟨Nat.le_of_ble_eq_true rfl, Nat.le_of_ble_eq_true rfl⟩ dL_law_52 ?_
        rw [cc_0]
        refine lv_istore (lv' := [(6, .int (iI (B 0 0))), (5, .int (iI (B 8 0))), (0, .ref sb), (1, .ref c0), (2, .int (iI 1)), (3, .int (iI tn)), (4, .int (iI i))]) hx hb dL_law_55 hl (by decide) rfl (fun ls hl => ?_)
        refine lv_aload_n hx hb dL_law_57 rfl (lv_at hl 3 rfl) ?_
        refine ri_bipush hx hb dL_law_58 (by decide) ?_
        refine co_r (As := [.int (iI 7)]) (rest := []) hx hb (hml.trans hl.1.symm) hown hts w lk_RL_57 (t_X5_count l g c0 na be tr sn x h o T T1 T2 T3 K z P C N B 7 hW hC (by omega)) (call_recv w (q0 := 0) rfl fX5.1) rfl rfl (Nat.le_of_ble_eq_true rfl) ⟨Nat.le_of_ble_eq_true rfl, Nat.le_of_ble_eq_true rfl⟩ ⟨Nat.le_of_ble_eq_true rfl, Nat.le_of_ble_eq_true rfl⟩ dL_law_60 ?_
        rw [cc_7]
        refine lv_istore (lv' := [(7, .int (iI (B 0 9))), (6, .int (iI (B 0 0))), (5, .int (iI (B 8 0))), (0, .ref sb), (1, .ref c0), (2, .int (iI 1)), (3, .int (iI tn)), (4, .int (iI i))]) hx hb dL_law_63 hl (by decide) rfl (fun ls hl => ?_)
        refine lv_aload_n hx hb dL_law_65 rfl (lv_at hl 4 rfl) ?_
        refine ri_bipush hx hb dL_law_66 (by decide) ?_
        refine co_r (As := [.int (iI 8)]) (rest := []) hx hb (hml.trans hl.1.symm) hown hts w lk_RL_57 (t_X5_count l g c0 na be tr sn x h o T T1 T2 T3 K z P C N B 8 hW hC (by omega)) (call_recv w (q0 := 0) rfl fX5.1) rfl rfl (Nat.le_of_ble_eq_true rfl) ⟨Nat.le_of_ble_eq_true rfl, Nat.le_of_ble_eq_true rfl⟩ ⟨Nat.le_of_ble_eq_true rfl, Nat.le_of_ble_eq_true rfl⟩ dL_law_68 ?_
        rw [cc_8]
        refine lv_istore (lv' := [(8, .int (iI (B 0 10))), (7, .int (iI (B 0 9))), (6, .int (iI (B 0 0))), (5, .int (iI (B 8 0))), (0, .ref sb), (1, .ref c0), (2, .int (iI 1)), (3, .int (iI tn)), (4, .int (iI i))]) hx hb dL_law_71 hl (by decide) rfl (fun ls hl => ?_)
        refine lv_aload_n hx hb dL_law_73 rfl (lv_at hl 4 rfl) ?_
        refine ri_iconst hx hb dL_law_74 ?_
        refine lv_iload hx hb dL_law_75 (lv_at hl 8 rfl) ?_
        refine ri_imul (z := 3 * i) hx hb dL_law_77 (by omega) ?_
        refine call_sS (As := [.ref sb, .int (iI (3 * i))]) (rest := []) hx hb (hml.trans hl.1.symm) hown hts w hX hbl hbA lk_RL_9 (t_L_cell l sb L xs (3 * i) (by omega) (by omega)) rfl rfl (Nat.le_of_ble_eq_true rfl) ⟨Nat.le_of_ble_eq_true rfl, Nat.le_of_ble_eq_true rfl⟩ ⟨Nat.le_of_ble_eq_true rfl, Nat.le_of_ble_eq_true rfl⟩ dL_law_78 ?_
        refine ri_bipush hx hb dL_law_81 (by decide) ?_
        refine cn_r (As := [.int (iI (x_cell L xs (3 * i))), .int (iI 16)]) (rest := []) hx hb (hml.trans hl.1.symm) hown hts w lk_RL_15 (t_L_low l g (x_cell L xs (3 * i)) 16 (by omega)) rfl rfl (Nat.le_of_ble_eq_true rfl) ⟨Nat.le_of_ble_eq_true rfl, Nat.le_of_ble_eq_true rfl⟩ ⟨Nat.le_of_ble_eq_true rfl, Nat.le_of_ble_eq_true rfl⟩ dL_law_83 ?_
        rw [← ht]
        refine ri_iconst hx hb dL_law_86 ?_
        refine ri_icmp_le (tgt := 126) hx hb dL_law_87 (by decide) (by omega) (by omega) (fun c78 => ?_) (fun c78 => ?_)
        · exact absurd c78 (by omega)
        refine lv_aload_n hx hb dL_law_90 rfl (lv_at hl 4 rfl) ?_
        refine ri_iconst hx hb dL_law_91 ?_
        refine lv_iload hx hb dL_law_92 (lv_at hl 8 rfl) ?_
        refine ri_imul (z := 3 * i) hx hb dL_law_94 (by omega) ?_
        refine call_sS (As := [.ref sb, .int (iI (3 * i))]) (rest := []) hx hb (hml.trans hl.1.symm) hown hts w hX hbl hbA lk_RL_9 (t_L_cell l sb L xs (3 * i) (by omega) (by omega)) rfl rfl (Nat.le_of_ble_eq_true rfl) ⟨Nat.le_of_ble_eq_true rfl, Nat.le_of_ble_eq_true rfl⟩ ⟨Nat.le_of_ble_eq_true rfl, Nat.le_of_ble_eq_true rfl⟩ dL_law_95 ?_
        refine ri_bipush hx hb dL_law_98 (by decide) ?_
        refine cn_r (As := [.int (iI (x_cell L xs (3 * i))), .int (iI 16)]) (rest := []) hx hb (hml.trans hl.1.symm) hown hts w lk_RL_15 (t_L_low l g (x_cell L xs (3 * i)) 16 (by omega)) rfl rfl (Nat.le_of_ble_eq_true rfl) ⟨Nat.le_of_ble_eq_true rfl, Nat.le_of_ble_eq_true rfl⟩ ⟨Nat.le_of_ble_eq_true rfl, Nat.le_of_ble_eq_true rfl⟩ dL_law_100 ?_
        rw [← ht]
        refine ri_bipush hx hb dL_law_103 (by decide) ?_
        refine ri_icmp_ge (tgt := 126) hx hb dL_law_105 (by decide) (by omega) (by omega) (fun c79 => ?_) (fun c79 => ?_)
        · exact absurd c79 (by omega)
        refine lv_aload_n hx hb dL_law_108 rfl (lv_at hl 4 rfl) ?_
        refine ri_iconst hx hb dL_law_109 ?_
        refine lv_iload hx hb dL_law_110 (lv_at hl 8 rfl) ?_
        refine ri_imul (z := 3 * i) hx hb dL_law_112 (by omega) ?_
        refine ri_iconst hx hb dL_law_113 ?_
        refine ri_iadd (z := 3 * i + 1) hx hb dL_law_114 (by omega) ?_
        refine call_sS (As := [.ref sb, .int (iI (3 * i + 1))]) (rest := []) hx hb (hml.trans hl.1.symm) hown hts w hX hbl hbA lk_RL_9 (t_L_cell l sb L xs (3 * i + 1) (by omega) (by omega)) rfl rfl (Nat.le_of_ble_eq_true rfl) ⟨Nat.le_of_ble_eq_true rfl, Nat.le_of_ble_eq_true rfl⟩ ⟨Nat.le_of_ble_eq_true rfl, Nat.le_of_ble_eq_true rfl⟩ dL_law_115 ?_
        refine ri_bipush hx hb dL_law_118 (by decide) ?_
        refine cn_r (As := [.int (iI (x_cell L xs (3 * i + 1))), .int (iI 14)]) (rest := []) hx hb (hml.trans hl.1.symm) hown hts w lk_RL_15 (t_L_low l g (x_cell L xs (3 * i + 1)) 14 (by omega)) rfl rfl (Nat.le_of_ble_eq_true rfl) ⟨Nat.le_of_ble_eq_true rfl, Nat.le_of_ble_eq_true rfl⟩ ⟨Nat.le_of_ble_eq_true rfl, Nat.le_of_ble_eq_true rfl⟩ dL_law_120 ?_
        rw [← hp]
        refine lv_goto (tgt := 127) hx hb dL_law_123 (by decide) ?_
        refine lv_istore (lv' := [(9, .int (iI pg)), (8, .int (iI (B 0 10))), (7, .int (iI (B 0 9))), (6, .int (iI (B 0 0))), (5, .int (iI (B 8 0))), (0, .ref sb), (1, .ref c0), (2, .int (iI 1)), (3, .int (iI tn)), (4, .int (iI i))]) hx hb dL_law_127 hl (by decide) rfl (fun ls hl => ?_)
        refine lv_iload hx hb dL_law_129 (lv_at hl 0 rfl) ?_
        refine ri_if_lt (tgt := 148) hx hb dL_law_131 (by decide) (by omega) (fun c80 => ?_) (fun c80 => ?_)
        · exact absurd c80 (by omega)
        refine lv_aload_n hx hb dL_law_134 rfl (lv_at hl 6 rfl) ?_
        refine lv_iload hx hb dL_law_135 (lv_at hl 0 rfl) ?_
        refine ri_iconst hx hb dL_law_137 ?_
        refine co_r (As := [.int (iI pg), .int (iI 4)]) (rest := []) hx hb (hml.trans hl.1.symm) hown hts w lk_RL_64 (t_X5_page l g c0 na be tr sn x h o T T1 T2 T3 K z P C N B pg 4 hW hC (by omega) (by omega)) (call_recv w (q0 := 0) rfl fX5.1) rfl rfl (Nat.le_of_ble_eq_true rfl) ⟨Nat.le_of_ble_eq_true rfl, Nat.le_of_ble_eq_true rfl⟩ ⟨Nat.le_of_ble_eq_true rfl, Nat.le_of_ble_eq_true rfl⟩ dL_law_138 ?_
        rw [← hq4]
        refine ri_if_lt (tgt := 148) hx hb dL_law_141 (by decide) (by omega) (fun c81 => ?_) (fun c81 => ?_)
        · refine ri_iconst hx hb dL_law_148 ?_
          refine lv_istore (lv' := [(10, .int (iI 0)), (9, .int (iI pg)), (8, .int (iI (B 0 10))), (7, .int (iI (B 0 9))), (6, .int (iI (B 0 0))), (5, .int (iI (B 8 0))), (0, .ref sb), (1, .ref c0), (2, .int (iI 1)), (3, .int (iI tn)), (4, .int (iI i))]) hx hb dL_law_149 hl (by decide) rfl (fun ls hl => ?_)
          refine lv_iload hx hb dL_law_151 (lv_at hl 1 rfl) ?_
          refine ri_if_lt (tgt := 166) hx hb dL_law_153 (by decide) (by omega) (fun c82 => ?_) (fun c82 => ?_)
          · exact absurd c82 (by omega)
          refine lv_aload_n hx hb dL_law_156 rfl (lv_at hl 7 rfl) ?_
          refine lv_iload hx hb dL_law_157 (lv_at hl 1 rfl) ?_
          refine ri_iconst hx hb dL_law_159 ?_
          refine co_r (As := [.int (iI pg), .int (iI 1)]) (rest := []) hx hb (hml.trans hl.1.symm) hown hts w lk_RL_64 (t_X5_page l g c0 na be tr sn x h o T T1 T2 T3 K z P C N B pg 1 hW hC (by omega) (by omega)) (call_recv w (q0 := 0) rfl fX5.1) rfl rfl (Nat.le_of_ble_eq_true rfl) ⟨Nat.le_of_ble_eq_true rfl, Nat.le_of_ble_eq_true rfl⟩ ⟨Nat.le_of_ble_eq_true rfl, Nat.le_of_ble_eq_true rfl⟩ dL_law_160 ?_
          rw [← hq1]
          refine lv_goto (tgt := 167) hx hb dL_law_163 (by decide) ?_
          refine lv_istore (lv' := [(11, .int (iI q1)), (10, .int (iI 0)), (9, .int (iI pg)), (8, .int (iI (B 0 10))), (7, .int (iI (B 0 9))), (6, .int (iI (B 0 0))), (5, .int (iI (B 8 0))), (0, .ref sb), (1, .ref c0), (2, .int (iI 1)), (3, .int (iI tn)), (4, .int (iI i))]) hx hb dL_law_167 hl (by decide) rfl (fun ls hl => ?_)
          refine lv_aload_n hx hb dL_law_169 rfl (lv_at hl 8 rfl) ?_
          refine lv_aload_n hx hb dL_law_170 rfl (lv_at hl 7 rfl) ?_
          refine ri_iconst hx hb dL_law_171 ?_
          refine lv_iload hx hb dL_law_172 (lv_at hl 11 rfl) ?_
          refine ri_imul (z := 3 * i) hx hb dL_law_174 (by omega) ?_
          refine call_aS (As := [.ref c0, .ref sb, .int (iI (3 * i))]) (rest := []) hx hb (hml.trans hl.1.symm) hown hts w hX hbl hbA lk_RL_74 (fun sz => t_L_act l g c0 na be tr sn x h o T T1 T2 T3 K z P C N B sb L xs (3 * i) hW hC (by omega) (by omega) (by omega) sz) rfl rfl (Nat.le_of_ble_eq_true rfl) ⟨Nat.le_of_ble_eq_true rfl, Nat.le_of_ble_eq_true rfl⟩ ⟨Nat.le_of_ble_eq_true rfl, Nat.le_of_ble_eq_true rfl⟩ dL_law_175 (fun vv w1 H locs hr w => ?_)
          rw [← ht, ← ha, ← hbv, hab] at hr
          obtain ⟨rfl, h', T', T1', T2', T3', K', z', P', C', rfl, hC'⟩ := hr
          refine lv_istore (lv' := [(12, .int (iI u)), (11, .int (iI q1)), (10, .int (iI 0)), (9, .int (iI pg)), (8, .int (iI (B 0 10))), (7, .int (iI (B 0 9))), (6, .int (iI (B 0 0))), (5, .int (iI (B 8 0))), (0, .ref sb), (1, .ref c0), (2, .int (iI 1)), (3, .int (iI tn)), (4, .int (iI i))]) hx hb dL_law_178 hl (by decide) rfl (fun ls hl => ?_)
          refine lv_iload hx hb dL_law_180 (lv_at hl 0 rfl) ?_
          refine ri_if_ge (tgt := 228) hx hb dL_law_182 (by decide) (by omega) (fun c83 => ?_) (fun c83 => ?_)
          · refine ri_iconst hx hb dL_law_228 ?_
            refine lv_goto (tgt := 233) hx hb dL_law_229 (by decide) ?_
            refine lv_istore_n (lv' := [(2, .int (iI 1)), (12, .int (iI u)), (11, .int (iI q1)), (10, .int (iI 0)), (9, .int (iI pg)), (8, .int (iI (B 0 10))), (7, .int (iI (B 0 9))), (6, .int (iI (B 0 0))), (5, .int (iI (B 8 0))), (0, .ref sb), (1, .ref c0), (3, .int (iI tn)), (4, .int (iI i))]) hx hb dL_law_233 rfl hl (by decide) rfl (fun ls hl => ?_)
            refine lv_iload hx hb dL_law_234 (lv_at hl 4 rfl) ?_
            refine ri_if_lt (tgt := 331) hx hb dL_law_236 (by decide) (by omega) (fun c84 => ?_) (fun c84 => ?_)
            · exact absurd c84 (by omega)
            refine lv_iload hx hb dL_law_239 (lv_at hl 1 rfl) ?_
            refine ri_if_lt (tgt := 331) hx hb dL_law_241 (by decide) (by omega) (fun c85 => ?_) (fun c85 => ?_)
            · exact absurd c85 (by omega)
            refine lv_iload_n hx hb dL_law_244 rfl (lv_at hl 0 rfl) ?_
            refine ri_if_eq (tgt := 329) hx hb dL_law_245 (by decide) (by omega) (fun c86 => ?_) (fun c86 => ?_)
            · exact absurd c86 (by omega)
            refine lv_iload hx hb dL_law_248 (lv_at hl 1 rfl) ?_
            refine ri_if_ne (tgt := 257) hx hb dL_law_250 (by decide) (by omega) (fun c87 => ?_) (fun c87 => ?_)
            · refine ri_iconst hx hb dL_law_257 ?_
              refine lv_iload hx hb dL_law_258 (lv_at hl 3 rfl) ?_
              refine ri_icmp_ne (tgt := 329) hx hb dL_law_260 (by decide) (by omega) (by omega) (fun c88 => ?_) (fun c88 => ?_)
              · exact absurd c88 (by omega)
              refine lv_iload hx hb dL_law_263 (lv_at hl 1 rfl) ?_
              refine ri_if_ne (tgt := 283) hx hb dL_law_265 (by decide) (by omega) (fun c89 => ?_) (fun c89 => ?_)
              · refine lv_aload_n hx hb dL_law_283 rfl (lv_at hl 10 rfl) ?_
                refine lv_iload hx hb dL_law_284 (lv_at hl 4 rfl) ?_
                refine ri_iconst hx hb dL_law_286 ?_
                refine co_r (As := [.int (iI pg), .int (iI 1)]) (rest := []) hx hb (hml.trans hl.1.symm) hown hts w lk_RL_64 (t_X5_page l g c0 na be tr sn x h' o T' T1' T2' T3' K' z' P' C' (N + 210000) B' pg 1 hW' hC' (by omega) (by omega)) (call_recv w (q0 := 0) rfl fX5.1) rfl rfl (Nat.le_of_ble_eq_true rfl) ⟨Nat.le_of_ble_eq_true rfl, Nat.le_of_ble_eq_true rfl⟩ ⟨Nat.le_of_ble_eq_true rfl, Nat.le_of_ble_eq_true rfl⟩ dL_law_287 ?_
                rw [← hn1]
                refine lv_iload hx hb dL_law_290 (lv_at hl 1 rfl) ?_
                refine ri_iconst hx hb dL_law_292 ?_
                refine ri_icmp_ne (tgt := 303) hx hb dL_law_293 (by decide) (by omega) (by omega) (fun c90 => ?_) (fun c90 => ?_)
                · refine ri_iconst hx hb dL_law_303 ?_
                  refine ri_icmp_ne (tgt := 329) hx hb dL_law_304 (by decide) (by omega) (by omega) (fun c91 => ?_) (fun c91 => ?_)
                  · exact absurd c91 (by omega)
                  refine lv_aload_n hx hb dL_law_307 rfl (lv_at hl 10 rfl) ?_
                  refine ri_iconst hx hb dL_law_308 ?_
                  refine co_r (As := [.int (iI 3)]) (rest := []) hx hb (hml.trans hl.1.symm) hown hts w lk_RL_70 (t_X5_setting l g c0 na be tr sn x h' o T' T1' T2' T3' K' z' P' C' (N + 210000) B' 3 hW' hC' (by omega)) (call_recv w (q0 := 0) rfl fX5.1) rfl rfl (Nat.le_of_ble_eq_true rfl) ⟨Nat.le_of_ble_eq_true rfl, Nat.le_of_ble_eq_true rfl⟩ ⟨Nat.le_of_ble_eq_true rfl, Nat.le_of_ble_eq_true rfl⟩ dL_law_309 ?_
                  rw [cs_3]
                  refine ri_if_eq (tgt := 325) hx hb dL_law_312 (by decide) (by omega) (fun c92 => ?_) (fun c92 => ?_)
                  · refine ri_iconst hx hb dL_law_325 ?_
                    refine lv_goto (tgt := 330) hx hb dL_law_326 (by decide) ?_
                    refine lv_istore_n (lv' := [(2, .int (iI 1)), (12, .int (iI u)), (11, .int (iI q1)), (10, .int (iI 0)), (9, .int (iI pg)), (8, .int (iI (B 0 10))), (7, .int (iI (B 0 9))), (6, .int (iI (B 0 0))), (5, .int (iI (B 8 0))), (0, .ref sb), (1, .ref c0), (3, .int (iI tn)), (4, .int (iI i))]) hx hb dL_law_330 rfl hl (by decide) rfl (fun ls hl => ?_)
                    exact kt H locs ls ⟨h', T', T1', T2', T3', K', z', P', C', B', hW', hB', hC', w, (lv_sub hl [9, 10, 0, 11, 12] rfl)⟩
                  · refine lv_aload_n hx hb dL_law_315 rfl (lv_at hl 10 rfl) ?_
                    refine lv_iload hx hb dL_law_316 (lv_at hl 4 rfl) ?_
                    refine ri_iconst hx hb dL_law_318 ?_
                    refine co_r (As := [.int (iI pg), .int (iI 4)]) (rest := []) hx hb (hml.trans hl.1.symm) hown hts w lk_RL_64 (t_X5_page l g c0 na be tr sn x h' o T' T1' T2' T3' K' z' P' C' (N + 210000) B' pg 4 hW' hC' (by omega) (by omega)) (call_recv w (q0 := 0) rfl fX5.1) rfl rfl (Nat.le_of_ble_eq_true rfl) ⟨Nat.le_of_ble_eq_true rfl, Nat.le_of_ble_eq_true rfl⟩ ⟨Nat.le_of_ble_eq_true rfl, Nat.le_of_ble_eq_true rfl⟩ dL_law_319 ?_
                    rw [← hn4]
                    refine ri_if_ne (tgt := 329) hx hb dL_law_322 (by decide) (by omega) (fun c93 => ?_) (fun c93 => ?_)
                    · exact absurd c93 (by omega)
                    refine ri_iconst hx hb dL_law_325 ?_
                    refine lv_goto (tgt := 330) hx hb dL_law_326 (by decide) ?_
                    refine lv_istore_n (lv' := [(2, .int (iI 1)), (12, .int (iI u)), (11, .int (iI q1)), (10, .int (iI 0)), (9, .int (iI pg)), (8, .int (iI (B 0 10))), (7, .int (iI (B 0 9))), (6, .int (iI (B 0 0))), (5, .int (iI (B 8 0))), (0, .ref sb), (1, .ref c0), (3, .int (iI tn)), (4, .int (iI i))]) hx hb dL_law_330 rfl hl (by decide) rfl (fun ls hl => ?_)
                    exact kt H locs ls ⟨h', T', T1', T2', T3', K', z', P', C', B', hW', hB', hC', w, (lv_sub hl [9, 10, 0, 11, 12] rfl)⟩
                · exact absurd c90 (by omega)
              · exact absurd c89 (by omega)
            · exact absurd c87 (by omega)
          · exact absurd c83 (by omega)
        · exact absurd c81 (by omega)
  · refine lv_iload hx hb dL_law_32 (lv_at hl 4 rfl) ?_
    refine lv_iload_n hx hb dL_law_34 rfl (lv_at hl 3 rfl) ?_
    refine ri_icmp_ge (tgt := 361) hx hb dL_law_35 (by decide) (by omega) (by omega) (fun c94 => ?_) (fun c94 => ?_)
    · exact absurd c94 (by omega)
    refine lv_iload_n hx hb dL_law_38 rfl (lv_at hl 2 rfl) ?_
    refine ri_if_eq (tgt := 361) hx hb dL_law_39 (by decide) (by omega) (fun c95 => ?_) (fun c95 => ?_)
    · exact absurd c95 (by omega)
    refine lv_aload_n hx hb dL_law_42 rfl (lv_at hl 1 rfl) ?_
    refine ri_bipush hx hb dL_law_43 (by decide) ?_
    refine co_r (As := [.int (iI 11)]) (rest := []) hx hb (hml.trans hl.1.symm) hown hts w lk_RL_57 (t_X5_count l g c0 na be tr sn x h o T T1 T2 T3 K z P C N B 11 hW hC (by omega)) (call_recv w (q0 := 0) rfl fX5.1) rfl rfl (Nat.le_of_ble_eq_true rfl) ⟨Nat.le_of_ble_eq_true rfl, Nat.le_of_ble_eq_true rfl⟩ ⟨Nat.le_of_ble_eq_true rfl, Nat.le_of_ble_eq_true rfl⟩ dL_law_45 ?_
    rw [cc_11]
    refine lv_istore (lv' := [(5, .int (iI (B 8 0))), (0, .ref sb), (1, .ref c0), (2, .int (iI 1)), (3, .int (iI tn)), (4, .int (iI i))]) hx hb dL_law_48 hl (by decide) rfl (fun ls hl => ?_)
    refine lv_aload_n hx hb dL_law_50 rfl (lv_at hl 2 rfl) ?_
    refine ri_iconst hx hb dL_law_51 ?_
    refine co_r (As := [.int (iI 0)]) (rest := []) hx hb (hml.trans hl.1.symm) hown hts w lk_RL_57 (t_X5_count l g c0 na be tr sn x h o T T1 T2 T3 K z P C N B 0 hW hC (by omega)) (call_recv w (q0 := 0) rfl fX5.1) rfl rfl (Nat.le_of_ble_eq_true rfl) ⟨Nat.le_of_ble_eq_true rfl, Nat.le_of_ble_eq_true rfl⟩ ⟨Nat.le_of_ble_eq_true rfl, Nat.le_of_ble_eq_true rfl⟩ dL_law_52 ?_
    rw [cc_0]
    refine lv_istore (lv' := [(6, .int (iI (B 0 0))), (5, .int (iI (B 8 0))), (0, .ref sb), (1, .ref c0), (2, .int (iI 1)), (3, .int (iI tn)), (4, .int (iI i))]) hx hb dL_law_55 hl (by decide) rfl (fun ls hl => ?_)
    refine lv_aload_n hx hb dL_law_57 rfl (lv_at hl 3 rfl) ?_
    refine ri_bipush hx hb dL_law_58 (by decide) ?_
    refine co_r (As := [.int (iI 7)]) (rest := []) hx hb (hml.trans hl.1.symm) hown hts w lk_RL_57 (t_X5_count l g c0 na be tr sn x h o T T1 T2 T3 K z P C N B 7 hW hC (by omega)) (call_recv w (q0 := 0) rfl fX5.1) rfl rfl (Nat.le_of_ble_eq_true rfl) ⟨Nat.le_of_ble_eq_true rfl, Nat.le_of_ble_eq_true rfl⟩ ⟨Nat.le_of_ble_eq_true rfl, Nat.le_of_ble_eq_true rfl⟩ dL_law_60 ?_
    rw [cc_7]
    refine lv_istore (lv' := [(7, .int (iI (B 0 9))), (6, .int (iI (B 0 0))), (5, .int (iI (B 8 0))), (0, .ref sb), (1, .ref c0), (2, .int (iI 1)), (3, .int (iI tn)), (4, .int (iI i))]) hx hb dL_law_63 hl (by decide) rfl (fun ls hl => ?_)
    refine lv_aload_n hx hb dL_law_65 rfl (lv_at hl 4 rfl) ?_
    refine ri_bipush hx hb dL_law_66 (by decide) ?_
    refine co_r (As := [.int (iI 8)]) (rest := []) hx hb (hml.trans hl.1.symm) hown hts w lk_RL_57 (t_X5_count l g c0 na be tr sn x h o T T1 T2 T3 K z P C N B 8 hW hC (by omega)) (call_recv w (q0 := 0) rfl fX5.1) rfl rfl (Nat.le_of_ble_eq_true rfl) ⟨Nat.le_of_ble_eq_true rfl, Nat.le_of_ble_eq_true rfl⟩ ⟨Nat.le_of_ble_eq_true rfl, Nat.le_of_ble_eq_true rfl⟩ dL_law_68 ?_
    rw [cc_8]
    refine lv_istore (lv' := [(8, .int (iI (B 0 10))), (7, .int (iI (B 0 9))), (6, .int (iI (B 0 0))), (5, .int (iI (B 8 0))), (0, .ref sb), (1, .ref c0), (2, .int (iI 1)), (3, .int (iI tn)), (4, .int (iI i))]) hx hb dL_law_71 hl (by decide) rfl (fun ls hl => ?_)
    refine lv_aload_n hx hb dL_law_73 rfl (lv_at hl 4 rfl) ?_
    refine ri_iconst hx hb dL_law_74 ?_
    refine lv_iload hx hb dL_law_75 (lv_at hl 8 rfl) ?_
    refine ri_imul (z := 3 * i) hx hb dL_law_77 (by omega) ?_
    refine call_sS (As := [.ref sb, .int (iI (3 * i))]) (rest := []) hx hb (hml.trans hl.1.symm) hown hts w hX hbl hbA lk_RL_9 (t_L_cell l sb L xs (3 * i) (by omega) (by omega)) rfl rfl (Nat.le_of_ble_eq_true rfl) ⟨Nat.le_of_ble_eq_true rfl, Nat.le_of_ble_eq_true rfl⟩ ⟨Nat.le_of_ble_eq_true rfl, Nat.le_of_ble_eq_true rfl⟩ dL_law_78 ?_
    refine ri_bipush hx hb dL_law_81 (by decide) ?_
    refine cn_r (As := [.int (iI (x_cell L xs (3 * i))), .int (iI 16)]) (rest := []) hx hb (hml.trans hl.1.symm) hown hts w lk_RL_15 (t_L_low l g (x_cell L xs (3 * i)) 16 (by omega)) rfl rfl (Nat.le_of_ble_eq_true rfl) ⟨Nat.le_of_ble_eq_true rfl, Nat.le_of_ble_eq_true rfl⟩ ⟨Nat.le_of_ble_eq_true rfl, Nat.le_of_ble_eq_true rfl⟩ dL_law_83 ?_
    rw [← ht]
    refine ri_iconst hx hb dL_law_86 ?_
    refine ri_icmp_le (tgt := 126) hx hb dL_law_87 (by decide) (by omega) (by omega) (fun c96 => ?_) (fun c96 => ?_)
    · refine ri_iconst hx hb dL_law_126 ?_
      exact J127 hr4 ls (lv_sub hl [0, 1, 2, 3, 4, 5, 6, 7, 8] rfl)
    · refine lv_aload_n hx hb dL_law_90 rfl (lv_at hl 4 rfl) ?_
      refine ri_iconst hx hb dL_law_91 ?_
      refine lv_iload hx hb dL_law_92 (lv_at hl 8 rfl) ?_
      refine ri_imul (z := 3 * i) hx hb dL_law_94 (by omega) ?_
      refine call_sS (As := [.ref sb, .int (iI (3 * i))]) (rest := []) hx hb (hml.trans hl.1.symm) hown hts w hX hbl hbA lk_RL_9 (t_L_cell l sb L xs (3 * i) (by omega) (by omega)) rfl rfl (Nat.le_of_ble_eq_true rfl) ⟨Nat.le_of_ble_eq_true rfl, Nat.le_of_ble_eq_true rfl⟩ ⟨Nat.le_of_ble_eq_true rfl, Nat.le_of_ble_eq_true rfl⟩ dL_law_95 ?_
      refine ri_bipush hx hb dL_law_98 (by decide) ?_
      refine cn_r (As := [.int (iI (x_cell L xs (3 * i))), .int (iI 16)]) (rest := []) hx hb (hml.trans hl.1.symm) hown hts w lk_RL_15 (t_L_low l g (x_cell L xs (3 * i)) 16 (by omega)) rfl rfl (Nat.le_of_ble_eq_true rfl) ⟨Nat.le_of_ble_eq_true rfl, Nat.le_of_ble_eq_true rfl⟩ ⟨Nat.le_of_ble_eq_true rfl, Nat.le_of_ble_eq_true rfl⟩ dL_law_100 ?_
      rw [← ht]
      refine ri_bipush hx hb dL_law_103 (by decide) ?_
      refine ri_icmp_ge (tgt := 126) hx hb dL_law_105 (by decide) (by omega) (by omega) (fun c97 => ?_) (fun c97 => ?_)
      · refine ri_iconst hx hb dL_law_126 ?_
        exact J127 hr4 ls (lv_sub hl [0, 1, 2, 3, 4, 5, 6, 7, 8] rfl)
      · exact absurd c97 (by omega)
