/-! THE CLAIM OUT OF ONE WALK OF THE LAW'S BODY. Your part is whole_start (and what it stands on); all else here is the same for every law, but numbers. -/
def R_law : String := "WeakenedPagesLaw"
def lw_P (b : Addr) (xs : List Int32) (args : Array Value) (s : State) : Prop := args = #[.ref b] ∧ s.IntsAt b xs ∧ xs.length ≤ 260 ∧ (Jvm.Cond.and given_1 narrow_1).before args s = true
def lw_Q (_ : Array Value) (s : State) (o : Outcome) (t : State) : Prop := o = .returned (some (.int 1)) ∧ Framed s o t [] 600000 7302250
def lw_Z (below : List Frame) (a : Array Value) (s : State) : State → Prop := fun t => ∃ o, t.status = .running ∧ Ended t below o ∧ lw_Q a s o t
/-- the law's own end, with 1 on the stack, nothing written that was there before, its room as the claim has it -/
theorem lw_ret {p : Program} {l : Launch} {e : Env} {s : State} {m : MethodId} {below : List Frame} {meth : Method} {c : Code} {b : Nat} (hx : p.tables.exec = Jvm.exec) (hb : c.code = code) (hr : meth.sig.returnType = ret) (hlocks : meth.locks = false) {pc : Nat} {H : Heap} {ls : Array Slot} (hdg : decode code pc = .ok (.ireturn, 1)) : W p l e room_1 s m #[Value.ref b] below meth c H [] 600000 7302250 (lw_Z below #[Value.ref b] s) (F0 m pc ls [.int 1]) := by
  intro T hT X
  obtain ⟨fs, hret, hrun, hended, hW, hframe⟩ := X.leave (v := some (.int 1)) (hlocks := hlocks) (fun h => by rw [hr] at h; cases h)
  have hmeth' : T.vm.method? m = some meth := X.method'
  refine ⟨T.setFrames fs, ?_, .returned (some (.int 1)), hrun, hended, rfl, ⟨_, rfl⟩, hW, hframe⟩
  jvm_step X.here [X.here.top, hx, hb, hdg, hmeth', hr, ret, narrow_b1]
  (try refine ⟨rfl, ?_⟩); (try refine ⟨rfl, ?_⟩)
  first | (intro acts; rw [hret _ acts rfl rfl rfl]) | rw [hret _ _ rfl rfl rfl]
  exact Steps.refl _
/-- what holds at the law's entry: the machine, the code, the tables' words (any of lw_tbl by 'hts w (by decide +kernel)'), the script of L ints xs at the cell b, what the Statement gives of the start (any of its parts by flat_of_before) -/
def lw_At (p : Program) (s : State) (m : MethodId) (meth : Method) (c : Code) (b L : Nat) (xs : Nat → Int32) : Prop :=
  p.tables.exec = Jvm.exec ∧ c.code = code ∧ meth.sig.returnType = ret ∧ c.maxLocals = 13 ∧ s.vm.findClass R_law = some m.cls ∧ (∀ w ∈ lw_tbl, w.before #[Value.ref b] s = true) ∧ va_X b L xs s s.heap ∧ b < s.heap.size ∧ meth.locks = false ∧ (Jvm.Cond.and given_1 narrow_1).before #[Value.ref b] s = true

set_option maxHeartbeats 4000000 in
set_option maxRecDepth 100000 in
theorem law_loop {p : Program} {l : Launch} {e : Env} {s : State} {m : MethodId} {below : List Frame} {meth : Method} {c : Code} {Q : State → Prop} {sb L : Nat} {xs : Nat → Int32} {g : GG} {c0 : Nat} {na be tr sn x o : Nat → Nat} {tn : Int} (C0 : LawCtx p s m c sb L xs) (htn : 0 ≤ tn ∧ tn ≤ 40) (kend : ∀ (H : Heap) (locs : List Loc) (ls : Array Slot), (∀ q ∈ locs, s.heap.size ≤ q.base) → lv_has ls 13 [(2, .int (iI 1))] → W p l e room_1 s m #[Value.ref sb] below meth c H locs 600000 7302250 Q (F0 m 361 ls [])) :
    ∀ (n : Nat) (i N : Int), 0 ≤ i → i + (n : Int) = tn → N + 210000 * (n : Int) + 300000 ≤ 200000000 → ∀ (H : Heap) (locs : List Loc) (ls : Array Slot), LawSt g s sb c0 na be tr sn x o tn i N H locs ls → W p l e room_1 s m #[Value.ref sb] below meth c H locs 600000 7302250 Q (F0 m 32 ls []) := by
  have C1 := C0
  obtain ⟨hx, hb, hml, hown, hts, hX, hbl, hL⟩ := C0
  intro n
  induction n with
  | zero =>
    intro i N h0 hn hN H locs ls S0
    obtain ⟨h, T, T1, T2, T3, K, z, P, C, B, hW, hB, hC, w, hl⟩ := S0
    refine lv_iload hx hb dL_law_32 (lv_at hl 4 rfl) ?_
    refine lv_iload_n hx hb dL_law_34 rfl (lv_at hl 3 rfl) ?_
    refine ri_icmp_ge (tgt := 361) hx hb dL_law_35 (by decide) (by omega) (by omega) (fun _ => ?_) (fun hc => absurd hc (by omega))
    exact kend H locs ls (fun q hq => w.2.2.2.1.2.2 q hq) (lv_sub hl [2] rfl)
  | succ n ih =>
    intro i N h0 hn hN H locs ls S0
    exact law_body C1 (by omega) (by omega) (by omega) (fun H locs ls S1 => ih (i + 1) (N + 210000) (by omega) (by omega) (by omega) H locs ls S1) S0
set_option maxHeartbeats 4000000 in
set_option maxRecDepth 100000 in
theorem whole_start {p : Program} {e : Env} {s : State} {m : MethodId} {below : List Frame} {meth : Method} {c : Code} (l : Launch) (hflags : l.flags = flags0) {b L : Nat} {xs : Nat → Int32} (hL : L ≤ 260) (C0 : lw_At p s m meth c b L xs) : W p l e room_1 s m #[Value.ref b] below meth c s.heap [] 0 0 (lw_Z below #[Value.ref b] s) (entryFrame m ([Value.ref b] : List Value).toArray 13) := by
  obtain ⟨hx, hb, hr, hml, hown, hts, hX, hbl, hlocks, hgv⟩ := C0
  obtain ⟨g, w⟩ := law_world hts hgv
  have hts0 : ∀ w ∈ W0, w.before #[Value.ref b] s = true := fun w h => hts w (List.mem_filter.mp h).1
  have hown : s.vm.findClass RL = some m.cls := hown
  have hb : c.code = cL_law := hb
  have hbA : ¬ LA s b := Nat.not_le.mpr hbl
  have hl := lv_entry ([.ref b]) (n := 13) (Nat.le_of_ble_eq_true rfl)
  rw [lg_entry_eq]
  generalize (lg_sl ([.ref b]) ++ List.replicate (13 - (lg_sl ([.ref b])).length) Slot.unset).toArray = ls at hl ⊢
  have hl : lv_has ls 13 [(0, .ref b)] := hl
  refine ri_new (fs := [.null, .null, .null, .null, .int (iI 0), .null, .null, .int (iI 0), .int (iI 0), .int (iI 0), .int (iI 0)]) hx hb hown hts0 w fX5 (W0_of k_cl_RL_20 rfl) (W0_of k_new_RX5 rfl) (W0_of k_ini_RX5 rfl) (fun j hj => by match j, hj with | 0, _ => rfl | 1, _ => rfl | 2, _ => rfl | 3, _ => rfl | 4, _ => rfl | 5, _ => rfl | 6, _ => rfl | 7, _ => rfl | 8, _ => rfl | 9, _ => rfl | 10, _ => rfl | n + 11, hj => exact absurd hj (by omega)) ⟨Nat.le_of_ble_eq_true rfl, Nat.le_of_ble_eq_true rfl⟩ dL_law_0 (fun q5 H w => ?_)
  have w : Wd g (LA s) [(q5, .inr (5, [.null, .null, .null, .null, .int (iI 0), .null, .null, .int (iI 0), .int (iI 0), .int (iI 0), .int (iI 0)]))] s H [] := w
  refine lv_dup hx hb dL_law_3 rfl ?_
  refine call_wI (wr := []) (As := []) (rest := [.ref q5]) hx hb (hml.trans hl.1.symm) hown hts0 w lk_RL_73 (fun sz => t_X5_init l g q5 sz) [0] [] rfl rfl rfl rfl (by decide) rfl rfl (Nat.le_of_ble_eq_true rfl) ⟨Nat.le_of_ble_eq_true rfl, Nat.le_of_ble_eq_true rfl⟩ ⟨Nat.le_of_ble_eq_true rfl, Nat.le_of_ble_eq_true rfl⟩ dL_law_4 (fun vv w1 H locs hq w => ?_)
  obtain ⟨rfl, na, be, tr, sn, x, h, o, rfl⟩ := hq
  have w : Wd g (LA s) (wp_ws g q5 na be tr sn x h o T_0 T_0 T_0 T_0 (fun _ => T_0) 0 (fun _ _ => 0) (fun _ => 0)) s H locs := w
  refine lv_astore_n (lv' := [(1, .ref q5), (0, .ref b)]) hx hb dL_law_7 rfl hl (by decide) rfl (fun ls hl => ?_)
  refine ri_iconst hx hb dL_law_8 ?_
  refine lv_istore_n (lv' := [(2, .int (iI 1)), (1, .ref q5), (0, .ref b)]) hx hb dL_law_9 rfl hl (by decide) rfl (fun ls hl => ?_)
  refine W.widen (k := 600000) (n := 7302250) (Nat.le_of_ble_eq_true rfl) (Nat.le_of_ble_eq_true rfl) ?_
  have J28 : ∀ (tn : Int), 0 ≤ tn ∧ tn ≤ 40 → W p l e room_1 s m #[Value.ref b] below meth c H locs 600000 7302250 (lw_Z below #[Value.ref b] s) (F0 m 28 ls [.int (iI tn)]) := by
    intro tn htn
    refine lv_istore_n (lv' := [(3, .int (iI tn)), (2, .int (iI 1)), (1, .ref q5), (0, .ref b)]) hx hb dL_law_28 rfl hl (by decide) rfl (fun ls hl => ?_)
    refine ri_iconst hx hb dL_law_29 ?_
    refine lv_istore (lv' := [(4, .int (iI 0)), (3, .int (iI tn)), (2, .int (iI 1)), (1, .ref q5), (0, .ref b)]) hx hb dL_law_30 hl (by decide) rfl (fun ls hl => ?_)
    refine law_loop (g := g) (c0 := q5) (na := na) (be := be) (tr := tr) (sn := sn) (x := x) (o := o) (tn := tn) ⟨hx, hb, hml, hown, hts0, hX, hbl, hL⟩ htn (fun H locs ls hf hl => ?_) tn.toNat 0 200000 (by omega) (by omega) (by omega) H locs ls ⟨h, T_0, T_0, T_0, T_0, (fun _ => T_0), 0, (fun _ _ => 0), (fun _ => 0), b_0, wb_0, bb_0, relc_0, w, lv_sub hl [4, 3, 2, 1, 0] rfl⟩
    refine lv_iload_n hx hb dL_law_361 rfl (lv_at hl 0 rfl) ?_
    refine va_forget hf ?_
    exact lw_ret hx hb hr hlocks dL_law_362
  refine lv_aload_n hx hb dL_law_10 rfl (lv_at hl 2 rfl) ?_
  refine ri_slen hx hb hX hbl hbA w.2.2.2.1 dL_law_11 ?_
  refine ri_iconst hx hb dL_law_12 ?_
  refine ri_idiv (z := (L : Int) / 3) hx hb dL_law_13 (by omega) (by omega) rfl ?_
  refine ri_bipush hx hb dL_law_14 (by decide) ?_
  refine ri_icmp_le (tgt := 24) hx hb dL_law_16 (by decide) (by omega) (by omega) (fun hc => ?_) (fun hc => ?_)
  · refine lv_aload_n hx hb dL_law_24 rfl (lv_at hl 2 rfl) ?_
    refine ri_slen hx hb hX hbl hbA w.2.2.2.1 dL_law_25 ?_
    refine ri_iconst hx hb dL_law_26 ?_
    refine ri_idiv (z := (L : Int) / 3) hx hb dL_law_27 (by omega) (by omega) rfl ?_
    exact J28 _ (by omega)
  · refine ri_bipush hx hb dL_law_19 (by decide) ?_
    refine lv_goto (tgt := 28) hx hb dL_law_21 (by decide) ?_
    exact J28 40 (by omega)
