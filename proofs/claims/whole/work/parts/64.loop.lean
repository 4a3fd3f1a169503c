def R_law : String := "WeakenedPagesLaw"
def lw_P (b : Addr) (xs : List Int32) (args : Array Value) (s : State) : Prop := args = #[.ref b] ∧ s.IntsAt b xs ∧ xs.length ≤ 2048 ∧ (Jvm.Cond.and given_1 narrow_1).before args s = true
def lw_Q (_ : Array Value) (s : State) (o : Outcome) (t : State) : Prop := o = .returned (some (.int 1)) ∧ Framed s o t [] 600000 7302250
def lw_Z (below : List Frame) (a : Array Value) (s : State) : State → Prop := fun t => ∃ o, t.status = .running ∧ Ended t below o ∧ lw_Q a s o t
/-- the law's own end, with 1 on the stack, nothing written that was there before, its room as the claim has it -/
theorem lw_ret {p : Program} {l : Launch} {e : Env} {s : State} {m : MethodId} {below : List Frame} {meth : Method} {c : Code} {b : Nat} (hx : p.tables.exec = Jvm.exec) (hb : c.code = code) (hr : meth.sig.returnType = ret) (hlocks : meth.locks = false) {pc : Nat} {H : Heap} {ls : Array Slot} (hdg : decode code pc = .ok (.ireturn, 1)) : W p l e room_1 s m #[Value.ref b] below meth c H [] 600000 7302250 (lw_Z below #[Value.ref b] s) (F0 m pc ls [.int 1]) := by
  intro T hT X
  obtain ⟨fs, hret, hrun, hended, hW, hframe⟩ := X.leave (v := some (.int 1)) (hlocks := hlocks) (fun h => by rw [hr] at h; cases h)
  have hmeth' : T.vm.method? m = some meth := X.method'
  refine ⟨T.setFrames fs, ?_, .returned (some (.int 1)), hrun, hended, rfl, ⟨_, rfl⟩, hW, hframe⟩
  jvm_step X.here [X.here.top, hx, hb, hdg, hmeth', hr, ret, narrow_b1]
  (try refine ⟨rfl, ?_⟩); (try refine ⟨rfl, ?_⟩)
  first | (intro acts; rw [hret _ acts rfl rfl rfl]) | rw [hret _ _ rfl rfl rfl]
  exact Steps.refl _
/-- what holds at the law's entry: the machine, the code, the tables' words (any of lw_tbl by 'hts w (by decide +kernel)'), the script of L ints xs at the cell b, what the Statement gives of the start (any of its parts by flat_of_before) -/
def lw_At (p : Program) (s : State) (m : MethodId) (meth : Method) (c : Code) (b L : Nat) (xs : Nat → Int32) : Prop :=
  p.tables.exec = Jvm.exec ∧ c.code = code ∧ meth.sig.returnType = ret ∧ c.maxLocals = 4 ∧ s.vm.findClass R_law = some m.cls ∧ (∀ w ∈ lw_tbl, w.before #[Value.ref b] s = true) ∧ va_X b L xs s s.heap ∧ b < s.heap.size ∧ meth.locks = false ∧ (Jvm.Cond.and given_1 narrow_1).before #[Value.ref b] s = true
section LAWI
variable {p : Program} {l : Launch} {e : Env} {R : Room} {s : State} {m : MethodId} {args : Array Value} {below : List Frame} {meth : Method} {c : Code} {H : Heap} {locs : List Loc} {cells slots : Nat} {Q : State → Prop}
variable {cc bytes : ByteArray} {nL maxL index n d mc ms : Nat} {own : String} {y : MethodName} {b : Addr} {As rest : List Value} {pc : Nat} {ls : Array Slot} {g : GG} {A : Nat → Prop} {wc : va_W} {bs bc br : List va_W}
theorem cb_wI {r : Option Value → va_W → Prop} (hx : p.tables.exec = Jvm.exec) (hb : c.code = cc) (hml : c.maxLocals = ls.size) (hown : s.vm.findClass own = some m.cls) (hts : ∀ w ∈ W0, w.before args s = true) (w : Wd g A bs.flatten s H locs) (hk : LkI own index y bytes maxL n) (hM : ∀ sz : Nat, Met l y (wm y bytes maxL none) (rmm d mc ms) (pW g wc sz (.ref b :: As)) (qW g wc r) mc ms (va_A wc sz)) (ix : List Nat) {kb : Nat} (hnx : ix.Perm (List.range kb)) (hC : ix.map (fun i => bs[i]?) = (bc ++ br).map some) (hlx : bs.length = kb) (hwc : bc.flatten = wc)
    (hl : As.length = n) {st : List Value} (hst : st = As.reverse ++ .ref b :: rest) (hrm : (rest.map fun v => v.category).sum ≤ 8) (hR : d + 1 ≤ R.frames ∧ 8 + (maxL + 11) + 32 * d ≤ R.locals) (hf : cells + mc ≤ R.cells ∧ slots + ms ≤ R.slots) (hdg : decode cc pc = .ok (.invokespecial index, 3))
    (kk : ∀ (v : Option Value) (w' : va_W) (H1 : Heap) (locs1 : List Loc), r v w' → Wd g A (br ++ [w']).flatten s H1 locs1 → W p l e R s m args below meth c H1 locs1 (cells + mc) (slots + ms) Q (F0 m (pc + 3) ls (v.toList ++ rest))) : W p l e R s m args below meth c H locs cells slots Q (F0 m pc ls st) := by
  subst hwc
  have w1 := w.blk ix hnx hC hlx
  rw [List.flatten_append] at w1
  refine call_wI hx hb hml hown hts w1 hk hM (List.range bc.flatten.length) ((List.range br.flatten.length).map (fun i => bc.flatten.length + i)) (nd_l _) idx_l idx_r (nd_r _ _) (dis_r _ _) hl hst hrm hR hf hdg (fun v w' H1 locs1 hr w2 => kk v w' H1 locs1 hr ?_)
  rw [List.flatten_append]
  simpa using w2
end LAWI
set_option maxHeartbeats 4000000 in
set_option maxRecDepth 100000 in
/-- the law's loop: at its head, with i ints read, the class and its model tell one book -/
theorem law_loop {p : Program} {l : Launch} {e : Env} {s : State} {m : MethodId} {below : List Frame} {meth : Method} {c : Code} {Q : State → Prop} {b L : Nat} {xs : Nat → Int32} {g : GG} {c0 : Nat} {na be tr sn x o mb : Nat → Nat} (C0 : LawCtx p s m c b L xs) (kend : ∀ (H : Heap) (locs : List Loc) (ls : Array Slot), (∀ q ∈ locs, s.heap.size ≤ q.base) → W p l e room_1 s m #[Value.ref b] below meth c H locs 600000 7302250 Q (F0 m 713 ls [])) :
    ∀ (n : Nat) (i N : Int), 0 ≤ i → (L : Int) - 4 < i + 4 * (n : Int) → i ≤ 4096 → N + 210000 * (n : Int) + 300000 ≤ 200000000 → ∀ (H : Heap) (locs : List Loc) (ls : Array Slot), LawSt g s b c0 na be tr sn x o mb i N H locs ls → W p l e room_1 s m #[Value.ref b] below meth c H locs 600000 7302250 Q (F0 m 18 ls []) := by
  have C1 := C0
  obtain ⟨hx, hb, hml, hown, hts, hX, hbl, hL⟩ := C0
  intro n
  induction n with
  | zero =>
    intro i N h0 hn hi hN H locs ls S0
    obtain ⟨h, T, T1, T2, T3, K, z, P, C, B, X, hW, hC, hP, w, hl⟩ := S0
    refine lv_iload_n hx hb dL_law_18 rfl (lv_at hl 3 rfl) ?_
    refine lv_aload_n hx hb dL_law_19 rfl (lv_at hl 0 rfl) ?_
    refine ri_slen hx hb hX hbl w dL_law_20 ?_
    refine ri_iconst hx hb dL_law_21 ?_
    refine ri_isub (z := (L : Int) - 4) hx hb dL_law_22 rfl ?_
    refine ri_icmp_gt (tgt := 713) hx hb dL_law_23 (by decide) (by omega) (by omega) (fun hc => ?_) (fun hc => absurd hc (by omega))
    exact kend H locs ls (fun q hq => w.2.2.2.1.2.2 q hq)
  | succ n ih =>
    intro i N h0 hn hi hN H locs ls S0
    obtain ⟨h, T, T1, T2, T3, K, z, P, C, B, X, hW, hC, hP, w, hl⟩ := S0
    refine lv_iload_n hx hb dL_law_18 rfl (lv_at hl 3 rfl) ?_
    refine lv_aload_n hx hb dL_law_19 rfl (lv_at hl 0 rfl) ?_
    refine ri_slen hx hb hX hbl w dL_law_20 ?_
    refine ri_iconst hx hb dL_law_21 ?_
    refine ri_isub (z := (L : Int) - 4) hx hb dL_law_22 rfl ?_
    refine ri_icmp_gt (tgt := 713) hx hb dL_law_23 (by decide) (by omega) (by omega) (fun hc => ?_) (fun hc => ?_)
    · exact kend H locs ls (fun q hq => w.2.2.2.1.2.2 q hq)
    · have nx : ∀ (H : Heap) (locs : List Loc) (ls : Array Slot), LawSt g s b c0 na be tr sn x o mb i (N + 210000) H locs ls → W p l e room_1 s m #[Value.ref b] below meth c H locs 600000 7302250 Q (F0 m 707 ls []) := by
        intro H locs ls S1
        obtain ⟨h, T, T1, T2, T3, K, z, P, C, B, X, hW, hC, hP, w, hl⟩ := S1
        refine ri_iinc (k := 3) (z := i + 4) (lv' := [(3, .int (iI (i + 4))), (0, .ref b), (1, .ref c0), (2, .ref (mb 0))]) hx hb dL_law_707 hl rfl (by omega) (by decide) rfl (fun ls hl => ?_)
        refine lv_goto (tgt := 18) hx hb dL_law_710 (by decide) ?_
        exact ih (i + 4) (N + 210000) (by omega) (by omega) (by omega) (by omega) H locs ls ⟨h, T, T1, T2, T3, K, z, P, C, B, X, hW, hC, hP, w, lv_sub hl [1, 2, 3, 0] rfl⟩
      have S2 : LawSt g s b c0 na be tr sn x o mb i N H locs ls := ⟨h, T, T1, T2, T3, K, z, P, C, B, X, hW, hC, hP, w, hl⟩
      obtain ⟨v0, hv0⟩ : ∃ v : Int, v = (xs i.toNat).toInt := ⟨_, rfl⟩
      obtain ⟨t, ht⟩ : ∃ t : Int, t = (iI v0 &&& iI 31).toInt := ⟨_, rfl⟩
      have htr : 0 ≤ t ∧ t ≤ 31 := by rw [ht]; exact and31_rg _
      refine lv_aload_n hx hb dL_law_26 rfl (lv_at hl 0 rfl) ?_
      refine lv_iload_n hx hb dL_law_27 rfl (lv_at hl 3 rfl) ?_
      refine ri_sld (v := v0) hx hb hX hbl hL w (j := i) (by omega) hv0 dL_law_28 ?_
      refine ri_bipush hx hb dL_law_29 (by decide) ?_
      refine ri_and31 (t := t) hx hb ht dL_law_31 ?_
      by_cases h0 : t = 0
      · refine ri_tabIn (v := 0) (tgt := 140) hx hb dL_law_32 h0 (by omega) (by decide) (by decide) rfl (by decide) ?_
        exact law_set C1 (by omega) (by omega) S2 nx
      by_cases h1 : t = 1
      · refine ri_tabIn (v := 1) (tgt := 173) hx hb dL_law_32 h1 (by omega) (by decide) (by decide) rfl (by decide) ?_
        exact law_setKind C1 (by omega) (by omega) S2 nx
      by_cases h2 : t = 2
      · refine ri_tabIn (v := 2) (tgt := 206) hx hb dL_law_32 h2 (by omega) (by decide) (by decide) rfl (by decide) ?_
        exact law_mark C1 (by omega) (by omega) S2 nx
      by_cases h3 : t = 3
      · refine ri_tabIn (v := 3) (tgt := 255) hx hb dL_law_32 h3 (by omega) (by decide) (by decide) rfl (by decide) ?_
        exact law_write C1 (by omega) (by omega) S2 nx
      by_cases h4 : t = 4
      · refine ri_tabIn (v := 4) (tgt := 278) hx hb dL_law_32 h4 (by omega) (by decide) (by decide) rfl (by decide) ?_
        exact law_read C1 (by omega) (by omega) S2 nx
      by_cases h5 : t = 5
      · refine ri_tabIn (v := 5) (tgt := 301) hx hb dL_law_32 h5 (by omega) (by decide) (by decide) rfl (by decide) ?_
        exact law_forget C1 (by omega) (by omega) S2 nx
      by_cases h6 : t = 6
      · refine ri_tabIn (v := 6) (tgt := 324) hx hb dL_law_32 h6 (by omega) (by decide) (by decide) rfl (by decide) ?_
        exact law_moveBlock C1 (by omega) (by omega) S2 nx
      by_cases h7 : t = 7
      · refine ri_tabIn (v := 7) (tgt := 347) hx hb dL_law_32 h7 (by omega) (by decide) (by decide) rfl (by decide) ?_
        exact law_pass C1 (by omega) (by omega) S2 nx
      by_cases h8 : t = 8
      · refine ri_tabIn (v := 8) (tgt := 370) hx hb dL_law_32 h8 (by omega) (by decide) (by decide) rfl (by decide) ?_
        exact law_type C1 (by omega) (by omega) S2 nx
      by_cases h9 : t = 9
      · refine ri_tabIn (v := 9) (tgt := 395) hx hb dL_law_32 h9 (by omega) (by decide) (by decide) rfl (by decide) ?_
        exact law_clearText C1 (by omega) (by omega) S2 nx
      by_cases h10 : t = 10
      · refine ri_tabIn (v := 10) (tgt := 408) hx hb dL_law_32 h10 (by omega) (by decide) (by decide) rfl (by decide) ?_
        exact law_perform C1 (by omega) (by omega) S2 nx
      by_cases h11 : t = 11
      · refine ri_tabIn (v := 11) (tgt := 421) hx hb dL_law_32 h11 (by omega) (by decide) (by decide) rfl (by decide) ?_
        exact law_refusal C1 (by omega) (by omega) S2 nx
      by_cases h12 : t = 12
      · refine ri_tabIn (v := 12) (tgt := 444) hx hb dL_law_32 h12 (by omega) (by decide) (by decide) rfl (by decide) ?_
        exact law_undo C1 (by omega) (by omega) S2 nx
      by_cases h13 : t = 13
      · refine ri_tabIn (v := 13) (tgt := 457) hx hb dL_law_32 h13 (by omega) (by decide) (by decide) rfl (by decide) ?_
        exact law_keep C1 (by omega) (by omega) S2 nx
      by_cases h14 : t = 14
      · refine ri_tabIn (v := 14) (tgt := 470) hx hb dL_law_32 h14 (by omega) (by decide) (by decide) rfl (by decide) ?_
        exact law_restore C1 (by omega) (by omega) S2 nx
      by_cases h15 : t = 15
      · refine ri_tabIn (v := 15) (tgt := 483) hx hb dL_law_32 h15 (by omega) (by decide) (by decide) rfl (by decide) ?_
        exact law_page C1 (by omega) (by omega) S2 nx
      by_cases h16 : t = 16
      · refine ri_tabIn (v := 16) (tgt := 516) hx hb dL_law_32 h16 (by omega) (by decide) (by decide) rfl (by decide) ?_
        exact law_block C1 (by omega) (by omega) S2 nx
      by_cases h17 : t = 17
      · refine ri_tabIn (v := 17) (tgt := 549) hx hb dL_law_32 h17 (by omega) (by decide) (by decide) rfl (by decide) ?_
        exact law_place C1 (by omega) (by omega) S2 nx
      by_cases h18 : t = 18
      · refine ri_tabIn (v := 18) (tgt := 592) hx hb dL_law_32 h18 (by omega) (by decide) (by decide) rfl (by decide) ?_
        exact law_marked C1 (by omega) (by omega) S2 nx
      by_cases h19 : t = 19
      · refine ri_tabIn (v := 19) (tgt := 615) hx hb dL_law_32 h19 (by omega) (by decide) (by decide) rfl (by decide) ?_
        exact law_quietIn C1 (by omega) (by omega) S2 nx
      by_cases h20 : t = 20
      · refine ri_tabIn (v := 20) (tgt := 628) hx hb dL_law_32 h20 (by omega) (by decide) (by decide) rfl (by decide) ?_
        exact law_erasure C1 (by omega) (by omega) S2 nx
      by_cases h21 : t = 21
      · refine ri_tabIn (v := 21) (tgt := 661) hx hb dL_law_32 h21 (by omega) (by decide) (by decide) rfl (by decide) ?_
        exact law_count C1 (by omega) (by omega) S2 nx
      by_cases h22 : t = 22
      · refine ri_tabIn (v := 22) (tgt := 684) hx hb dL_law_32 h22 (by omega) (by decide) (by decide) rfl (by decide) ?_
        exact law_setting C1 (by omega) (by omega) S2 nx
      refine ri_tabOut (a := t) (tgt := 707) hx hb dL_law_32 (by omega) (by omega) (by decide) ?_
      exact nx H locs ls ⟨h, T, T1, T2, T3, K, z, P, C, B, X, hW.mono (by omega) (by omega), hC, hP, w, hl⟩
set_option maxHeartbeats 4000000 in
set_option maxRecDepth 100000 in
/-- from the entry, for every script of at most 2048 ints, the law comes to its end with true -/
theorem whole_start {p : Program} {e : Env} {s : State} {m : MethodId} {below : List Frame} {meth : Method} {c : Code} (l : Launch) (_ : l.flags = flags0) {b L : Nat} {xs : Nat → Int32} (hL : L ≤ 2048) (C0 : lw_At p s m meth c b L xs) : W p l e room_1 s m #[Value.ref b] below meth c s.heap [] 0 0 (lw_Z below #[Value.ref b] s) (entryFrame m ([Value.ref b] : List Value).toArray 4) := by
  obtain ⟨hx, hb, hr, hml, hown, hts, hX, hbl, hlocks, hgv⟩ := C0
  obtain ⟨g, w⟩ := law_world hts hgv
  have hts0 : ∀ w ∈ W0, w.before #[Value.ref b] s = true := fun w h => hts w (List.mem_filter.mp h).1
  have hown : s.vm.findClass RL = some m.cls := hown
  have hb : c.code = cL_law := hb
  have hl := lv_entry ([.ref b]) (n := 4) (Nat.le_of_ble_eq_true rfl)
  rw [lg_entry_eq]
  generalize (lg_sl ([.ref b]) ++ List.replicate (4 - (lg_sl ([.ref b])).length) Slot.unset).toArray = ls at hl ⊢
  have hl : lv_has ls 4 [(0, .ref b)] := hl
  refine ri_new (fs := [.null, .null, .null, .null, .int (iI 0), .null, .null, .int (iI 0), .int (iI 0), .int (iI 0), .int (iI 0)]) hx hb hown hts0 w fX5 (W0_of k_cl_RL_7 rfl) (W0_of k_new_RX5 rfl) (W0_of k_ini_RX5 rfl) (fun j hj => by match j, hj with | 0, _ => rfl | 1, _ => rfl | 2, _ => rfl | 3, _ => rfl | 4, _ => rfl | 5, _ => rfl | 6, _ => rfl | 7, _ => rfl | 8, _ => rfl | 9, _ => rfl | 10, _ => rfl | n + 11, hj => exact absurd hj (by omega)) ⟨Nat.le_of_ble_eq_true rfl, Nat.le_of_ble_eq_true rfl⟩ dL_law_0 (fun q5 H w => ?_)
  have w : Wd g (LA s) [(q5, .inr (5, [.null, .null, .null, .null, .int (iI 0), .null, .null, .int (iI 0), .int (iI 0), .int (iI 0), .int (iI 0)]))] s H [] := w
  refine lv_dup hx hb dL_law_3 rfl ?_
  refine call_wI (wr := []) (As := []) (rest := [.ref q5]) hx hb (hml.trans hl.1.symm) hown hts0 w lk_RL_9 (fun sz => t_X5_init l g q5 sz) [0] [] rfl rfl rfl rfl (by decide) rfl rfl (Nat.le_of_ble_eq_true rfl) ⟨Nat.le_of_ble_eq_true rfl, Nat.le_of_ble_eq_true rfl⟩ ⟨Nat.le_of_ble_eq_true rfl, Nat.le_of_ble_eq_true rfl⟩ dL_law_4 (fun vv w1 H locs hq w => ?_)
  obtain ⟨rfl, na, be, tr, sn, x, h, o, rfl⟩ := hq
  have w : Wd g (LA s) (wp_ws g q5 na be tr sn x h o T_0 T_0 T_0 T_0 (fun _ => T_0) 0 (fun _ _ => 0) (fun _ => 0)) s H locs := w
  refine lv_astore_n (lv' := [(1, .ref q5), (0, .ref b)]) hx hb dL_law_7 rfl hl (by decide) rfl (fun ls hl => ?_)
  refine ri_new (fs := [.null, .null, .null, .null, .int (iI 0), .null, .int (iI 0), .null, .int (iI 0), .int (iI 0), .int (iI 0), .null, .int (iI 0), .null, .int (iI 0)]) hx hb hown hts0 w fX6 (W0_of k_cl_RL_10 rfl) (W0_of k_new_RX6 rfl) (W0_of k_ini_RX6 rfl) (fun j hj => by match j, hj with | 0, _ => rfl | 1, _ => rfl | 2, _ => rfl | 3, _ => rfl | 4, _ => rfl | 5, _ => rfl | 6, _ => rfl | 7, _ => rfl | 8, _ => rfl | 9, _ => rfl | 10, _ => rfl | 11, _ => rfl | 12, _ => rfl | 13, _ => rfl | 14, _ => rfl | n + 15, hj => exact absurd hj (by omega)) ⟨Nat.le_of_ble_eq_true rfl, Nat.le_of_ble_eq_true rfl⟩ dL_law_8 (fun q6 H w => ?_)
  have w : Wd g (LA s) ([wp_ws g q5 na be tr sn x h o T_0 T_0 T_0 T_0 (fun _ => T_0) 0 (fun _ _ => 0) (fun _ => 0), [(q6, .inr (6, [.null, .null, .null, .null, .int (iI 0), .null, .int (iI 0), .null, .int (iI 0), .int (iI 0), .int (iI 0), .null, .int (iI 0), .null, .int (iI 0)]))]] : List va_W).flatten s H locs := by
    rw [List.flatten_cons, fl1]
    exact w
  refine lv_dup hx hb dL_law_11 rfl ?_
  refine cb_wI (bc := [[(q6, .inr (6, [.null, .null, .null, .null, .int (iI 0), .null, .int (iI 0), .null, .int (iI 0), .int (iI 0), .int (iI 0), .null, .int (iI 0), .null, .int (iI 0)]))]]) (br := [wp_ws g q5 na be tr sn x h o T_0 T_0 T_0 T_0 (fun _ => T_0) 0 (fun _ _ => 0) (fun _ => 0)]) (kb := 2) (As := []) (rest := [.ref q6]) hx hb (hml.trans hl.1.symm) hown hts0 w lk_RL_12 (fun sz => t_X6_init l g q6 sz) [1, 0] (by decide) rfl rfl (fl1 _) rfl rfl (Nat.le_of_ble_eq_true rfl) ⟨Nat.le_of_ble_eq_true rfl, Nat.le_of_ble_eq_true rfl⟩ ⟨Nat.le_of_ble_eq_true rfl, Nat.le_of_ble_eq_true rfl⟩ dL_law_12 (fun vv w1 H locs hq w => ?_)
  obtain ⟨rfl, mb, hmb, rfl⟩ := hq
  have w : Wd g (LA s) ([wp_ws g q5 na be tr sn x h o T_0 T_0 T_0 T_0 (fun _ => T_0) 0 (fun _ _ => 0) (fun _ => 0), mo_ws g mb b_0 (fun _ _ => 0)] : List va_W).flatten s H locs := w
  refine lv_astore_n (lv' := [(2, .ref q6), (1, .ref q5), (0, .ref b)]) hx hb dL_law_15 rfl hl (by decide) rfl (fun ls hl => ?_)
  refine ri_iconst hx hb dL_law_16 ?_
  refine lv_istore_n (lv' := [(3, .int (iI 0)), (2, .ref q6), (1, .ref q5), (0, .ref b)]) hx hb dL_law_17 rfl hl (by decide) rfl (fun ls hl => ?_)
  refine W.widen (k := 600000) (n := 7302250) (Nat.le_of_ble_eq_true rfl) (Nat.le_of_ble_eq_true rfl) ?_
  refine law_loop (g := g) (c0 := q5) (na := na) (be := be) (tr := tr) (sn := sn) (x := x) (o := o) (mb := mb) ⟨hx, hb, hml, hown, hts0, hX, hbl, hL⟩ (fun H locs ls hf => ?_) 513 0 200000 (by omega) (by omega) (by omega) (by omega) H locs ls ⟨h, T_0, T_0, T_0, T_0, (fun _ => T_0), 0, (fun _ _ => 0), (fun _ => 0), b_0, (fun _ _ => 0), wb_0, relc_0, past_0, w, by rw [hmb]; exact lv_sub hl [3, 2, 1, 0] rfl⟩
  refine ri_iconst hx hb dL_law_713 ?_
  refine va_forget hf ?_
  exact lw_ret hx hb hr hlocks dL_law_714
