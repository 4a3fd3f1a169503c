def NmOk (y : MethodName) (n : Nat) : Prop := y.cls ≠ "java/lang/invoke/MethodHandle" ∧ y.cls ≠ "java/lang/invoke/VarHandle" ∧ (parseMethodDescriptor y.desc).map (fun d => d.parameters.length) = some n
def LkV (own : String) (index : Nat) (y : MethodName) (b : ByteArray) (maxL : Nat) (ret : Option FieldType) (n : Nat) : Prop := Cond.methodLink own index y ∈ W0 ∧ Cond.instanceMethod y ∈ W0 ∧ Cond.selects y.cls y y ∈ W0 ∧ Cond.initialized y.cls ∈ W0 ∧ Cond.code y b maxL ret ∈ W0 ∧ NmOk y n
def LkS (own : String) (index : Nat) (y : MethodName) (b : ByteArray) (maxL : Nat) (ret : Option FieldType) (n : Nat) : Prop := Cond.methodLink own index y ∈ W0 ∧ Cond.static y ∈ W0 ∧ Cond.initialized y.cls ∈ W0 ∧ Cond.code y b maxL ret ∈ W0 ∧ NmOk y n
def LkN (own : String) (index : Nat) (y : MethodName) (b : ByteArray) (maxL : Nat) (ret : Option FieldType) (n : Nat) : Prop := Cond.methodLinkNest own index y "WeakenedPages" ∈ NNl ∧ Cond.static y ∈ W0 ∧ Cond.initialized y.cls ∈ W0 ∧ Cond.code y b maxL ret ∈ W0 ∧ NmOk y n
def LkI (own : String) (index : Nat) (y : MethodName) (b : ByteArray) (maxL : Nat) (n : Nat) : Prop := Cond.methodLink own index y ∈ W0 ∧ Cond.instanceMethod y ∈ W0 ∧ Cond.initialized y.cls ∈ W0 ∧ Cond.code y b maxL none ∈ W0 ∧ NmOk y n ∧ y.name = "<init>"
def LkJ (own : String) (index : Nat) (y : MethodName) (b : ByteArray) (maxL : Nat) (n : Nat) : Prop := Cond.methodLinkNest own index y "WeakenedPages" ∈ NNl ∧ Cond.instanceMethod y ∈ W0 ∧ Cond.initialized y.cls ∈ W0 ∧ Cond.code y b maxL none ∈ W0 ∧ NmOk y n ∧ y.name = "<init>"
section CAL
variable {p : Program} {l : Launch} {e : Env} {R : Room} {s : State} {m : MethodId} {args : Array Value} {below : List Frame} {meth : Method} {c : Code} {H : Heap} {locs : List Loc} {cells slots : Nat} {Q : State → Prop}
variable {cc bytes : ByteArray} {nL maxL index n d mc ms : Nat} {own : String} {y : MethodName} {ret : Option FieldType} {b : Addr} {As rest : List Value} {pc : Nat} {ls : Array Slot} {g : GG} {A : Nat → Prop} {ws wc wr : va_W}
theorem cwb (ht : ∀ w ∈ W0, w.before args s = true) (hc : Cond.code y bytes maxL ret ∈ W0) (hi : Cond.initialized y.cls ∈ W0) (hl : Cond.methodLink own index y ∈ W0) (hn : NmOk y n) (hR : d + 1 ≤ R.frames ∧ 8 + (maxL + 11) + 32 * d ≤ R.locals) : CallB R s args own index y bytes maxL ret (wm y bytes maxL ret) (rmm d mc ms) mc ms n :=
  callB_of n ht (good_wm hc) rfl rfl rfl (ht _ hi) (ht _ hl) hn hR
theorem cwn (ht : ∀ w ∈ W0, w.before args s = true) (hN : NN s) (hc : Cond.code y bytes maxL ret ∈ W0) (hi : Cond.initialized y.cls ∈ W0) (hl : Cond.methodLinkNest own index y "WeakenedPages" ∈ NNl) (hn : NmOk y n) (hR : d + 1 ≤ R.frames ∧ 8 + (maxL + 11) + 32 * d ≤ R.locals) : va_CN R s args own index y "WeakenedPages" bytes maxL ret (wm y bytes maxL ret) (rmm d mc ms) mc ms n :=
  va_cnB n ht (good_wm hc) rfl rfl rfl (hN.1 _ hl) (ht _ hi) hn hR
/-- the call's answer, of a callee that changes nothing -/
theorem va_callR {v : Option Value} {a : Array Value} (hr : va_Run p l e R s m args below meth c H locs cells slots 0 0 (F0 m pc ls As) rest (qR v a) (fun _ => False)) (kk : W p l e R s m args below meth c H locs cells slots Q (F0 m (pc + 3) ls (v.toList ++ rest))) : W p l e R s m args below meth c H locs cells slots Q (F0 m pc ls As) := by
  intro T hT X
  obtain ⟨v', st₀, t, T', L, h0, X', hL, e1, e2, ⟨hv, hh⟩, st⟩ := hr T hT X
  cases hv
  obtain ⟨t2, a1, b1⟩ := kk T' (by rw [e1, hh, h0]) (Stand.forget X' (fun q h => (hL q h).elim))
  exact ⟨t2, st t2 a1, b1⟩
/-- of a callee that may change its cells -/
theorem va_callW {r : Option Value → va_W → Prop} {a : Array Value} (w : Wd g A ws s H locs) (isC isR : List Nat) (hC : isC.map (fun i => ws[i]?) = wc.map some) (hR : isR.map (fun i => ws[i]?) = wr.map some) (hn : va_nd isR = true) (hdis : ∀ i ∈ isR, i ∉ isC)
    (hr : va_Run p l e R s m args below meth c H locs cells slots mc ms (F0 m pc ls As) rest (qW g wc r a) (va_A wc H.size)) (kk : ∀ (v : Option Value) (w' : va_W) (H1 : Heap) (locs1 : List Loc), r v w' → Wd g A (wr ++ w') s H1 locs1 → W p l e R s m args below meth c H1 locs1 (cells + mc) (slots + ms) Q (F0 m (pc + 3) ls (v.toList ++ rest))) : W p l e R s m args below meth c H locs cells slots Q (F0 m pc ls As) := by
  intro T hT X
  obtain ⟨v', st₀, t, T', L, h0, X', hL, e1, e2, ⟨v, w', hv, hrw, hP1, hD1, hz, hk⟩, st⟩ := hr T hT X
  cases hv
  subst h0
  have hF := va_free w.2.2.1 w.2.2.2.1 w.2.2.2.2.1 isC hC
  have hS := w.2.2.2.1
  have hS1 : va_S A s.heap t.heap (locs ++ L) := ⟨Nat.le_trans hS.1 hz, fun q h1 h2 => by rw [hk q (Nat.lt_of_lt_of_le h1 hS.1) (fun z => h2 (hF q z))]; exact hS.2.1 q h1 h2, fun q hq => by
    rcases List.mem_append.mp hq with h | h
    · exact hS.2.2 q h
    · exact hF _ (hL q h)⟩
  have w1 := w.join isC isR hC hR hn hdis hk hP1 hD1 hS1
  obtain ⟨t2, a1, b1⟩ := kk _ w' t.heap (locs ++ L) hrw w1 T' e1 X'
  exact ⟨t2, st t2 a1, b1⟩
theorem pR_blind {av : List Value} : FrameBlind (pR g wc av) := fun _ _ _ _ q => ⟨q.1, q.2.blind⟩
theorem pW_blind {av : List Value} {sz : Nat} : FrameBlind (pW g wc sz av) := fun _ _ _ _ q => ⟨q.1, q.2.1, q.2.2.blind⟩
theorem call_recv {ci q0 : Nat} {fs : List Value} {C : String} {T : u_T} {N : Nat} (w : Wd g A ws s H locs) (he : ws[q0]? = some (b, .inr (ci, fs))) (hc : vwCl[ci]? = some (C, T, N)) : ∃ cell : Cell, H[b]? = some cell ∧ cell.vm.isStatics = false ∧ s.vm.findClass C = some cell.cls := va_recv w.1 w.2.1 hc he
/-- calls of methods that change nothing: of an object, static, static of a nest mate -/
theorem call_rV {v : Option Value} (hx : p.tables.exec = Jvm.exec) (hb : c.code = cc) (hml : c.maxLocals = ls.size) (hown : s.vm.findClass own = some m.cls) (hts : ∀ w ∈ W0, w.before args s = true) (w : Wd g A ws s H locs) (hk : LkV own index y bytes maxL ret n) (hM : Met l y (wm y bytes maxL ret) (rmm d 0 0) (pR g wc (.ref b :: As)) (qR v) 0 0 (fun _ => False)) (isC : List Nat) (hn : va_nd isC = true) (hC : isC.map (fun i => ws[i]?) = wc.map some)
    (hv : ∃ cell : Cell, H[b]? = some cell ∧ cell.vm.isStatics = false ∧ s.vm.findClass y.cls = some cell.cls) (hl : As.length = n) {st : List Value} (hst : st = As.reverse ++ .ref b :: rest) (hrm : (rest.map fun v => v.category).sum ≤ 8) (hR : d + 1 ≤ R.frames ∧ 8 + (maxL + 11) + 32 * d ≤ R.locals) (hf : cells + 0 ≤ R.cells ∧ slots + 0 ≤ R.slots) (hdg : decode cc pc = .ok (.invokevirtual index, 3))
    (kk : W p l e R s m args below meth c H locs cells slots Q (F0 m (pc + 3) ls (v.toList ++ rest))) : W p l e R s m args below meth c H locs cells slots Q (F0 m pc ls st) := by
  subst hst
  exact va_callR (va_runV (As := As) (rest := rest) ⟨hx, hb, hml, hown, hts⟩ hM ⟨cwb hts hk.2.2.2.2.1 hk.2.2.2.1 hk.1 hk.2.2.2.2.2 hR, hts _ hk.2.1, hts _ hk.2.2.1⟩ ⟨pR_blind, hv, fun U hU hW => ⟨rfl, w.sub isC hn hC hU hW⟩⟩ rfl hl rfl rfl (lv_room hrm) hdg hf) kk
theorem call_rS {v : Option Value} (hx : p.tables.exec = Jvm.exec) (hb : c.code = cc) (hml : c.maxLocals = ls.size) (hown : s.vm.findClass own = some m.cls) (hts : ∀ w ∈ W0, w.before args s = true) (w : Wd g A ws s H locs) (hk : LkS own index y bytes maxL ret n) (hM : Met l y (wm y bytes maxL ret) (rmm d 0 0) (pR g wc As) (qR v) 0 0 (fun _ => False)) (isC : List Nat) (hn : va_nd isC = true) (hC : isC.map (fun i => ws[i]?) = wc.map some)
    (hl : As.length = n) {st : List Value} (hst : st = As.reverse ++ rest) (hrm : (rest.map fun v => v.category).sum ≤ 8) (hR : d + 1 ≤ R.frames ∧ 8 + (maxL + 11) + 32 * d ≤ R.locals) (hf : cells + 0 ≤ R.cells ∧ slots + 0 ≤ R.slots) (hdg : decode cc pc = .ok (.invokestatic index, 3))
    (kk : W p l e R s m args below meth c H locs cells slots Q (F0 m (pc + 3) ls (v.toList ++ rest))) : W p l e R s m args below meth c H locs cells slots Q (F0 m pc ls st) := by
  subst hst
  exact va_callR (va_runS (As := As) (rest := rest) ⟨hx, hb, hml, hown, hts⟩ hM ⟨cwb hts hk.2.2.2.1 hk.2.2.1 hk.1 hk.2.2.2.2 hR, hts _ hk.2.1⟩ ⟨pR_blind, fun U hU hW => ⟨rfl, w.sub isC hn hC hU hW⟩⟩ rfl hl rfl rfl (lv_room hrm) hdg hf) kk
theorem call_rN {v : Option Value} (hx : p.tables.exec = Jvm.exec) (hb : c.code = cc) (hml : c.maxLocals = ls.size) (hown : s.vm.findClass own = some m.cls) (hts : ∀ w ∈ W0, w.before args s = true) (w : Wd g A ws s H locs) (hk : LkN own index y bytes maxL ret n) (hM : Met l y (wm y bytes maxL ret) (rmm d 0 0) (pR g wc As) (qR v) 0 0 (fun _ => False)) (isC : List Nat) (hn : va_nd isC = true) (hC : isC.map (fun i => ws[i]?) = wc.map some)
    (hl : As.length = n) {st : List Value} (hst : st = As.reverse ++ rest) (hrm : (rest.map fun v => v.category).sum ≤ 8) (hR : d + 1 ≤ R.frames ∧ 8 + (maxL + 11) + 32 * d ≤ R.locals) (hf : cells + 0 ≤ R.cells ∧ slots + 0 ≤ R.slots) (hdg : decode cc pc = .ok (.invokestatic index, 3))
    (kk : W p l e R s m args below meth c H locs cells slots Q (F0 m (pc + 3) ls (v.toList ++ rest))) : W p l e R s m args below meth c H locs cells slots Q (F0 m pc ls st) := by
  subst hst
  exact va_callR (va_runSN (As := As) (rest := rest) ⟨hx, hb, hml, hown, hts⟩ hM ⟨cwn hts w.2.2.2.2.2.1 hk.2.2.2.1 hk.2.2.1 hk.1 hk.2.2.2.2 hR, hts _ hk.2.1, trivial⟩ ⟨pR_blind, fun U hU hW => ⟨rfl, w.sub isC hn hC hU hW⟩⟩ rfl hl rfl rfl (lv_room hrm) hdg hf) kk
/-- calls of methods that may change their cells -/
theorem call_wV {r : Option Value → va_W → Prop} (hx : p.tables.exec = Jvm.exec) (hb : c.code = cc) (hml : c.maxLocals = ls.size) (hown : s.vm.findClass own = some m.cls) (hts : ∀ w ∈ W0, w.before args s = true) (w : Wd g A ws s H locs) (hk : LkV own index y bytes maxL ret n) (hM : ∀ sz : Nat, Met l y (wm y bytes maxL ret) (rmm d mc ms) (pW g wc sz (.ref b :: As)) (qW g wc r) mc ms (va_A wc sz)) (isC isR : List Nat) (hnC : va_nd isC = true) (hC : isC.map (fun i => ws[i]?) = wc.map some) (hRR : isR.map (fun i => ws[i]?) = wr.map some) (hnR : va_nd isR = true) (hdis : ∀ i ∈ isR, i ∉ isC)
    (hv : ∃ cell : Cell, H[b]? = some cell ∧ cell.vm.isStatics = false ∧ s.vm.findClass y.cls = some cell.cls) (hl : As.length = n) {st : List Value} (hst : st = As.reverse ++ .ref b :: rest) (hrm : (rest.map fun v => v.category).sum ≤ 8) (hR : d + 1 ≤ R.frames ∧ 8 + (maxL + 11) + 32 * d ≤ R.locals) (hf : cells + mc ≤ R.cells ∧ slots + ms ≤ R.slots) (hdg : decode cc pc = .ok (.invokevirtual index, 3))
    (kk : ∀ (v : Option Value) (w' : va_W) (H1 : Heap) (locs1 : List Loc), r v w' → Wd g A (wr ++ w') s H1 locs1 → W p l e R s m args below meth c H1 locs1 (cells + mc) (slots + ms) Q (F0 m (pc + 3) ls (v.toList ++ rest))) : W p l e R s m args below meth c H locs cells slots Q (F0 m pc ls st) := by
  subst hst
  exact va_callW w isC isR hC hRR hnR hdis (va_runV (As := As) (rest := rest) ⟨hx, hb, hml, hown, hts⟩ (hM H.size) ⟨cwb hts hk.2.2.2.2.1 hk.2.2.2.1 hk.1 hk.2.2.2.2.2 hR, hts _ hk.2.1, hts _ hk.2.2.1⟩ ⟨pW_blind, hv, fun U hU hW => ⟨rfl, by rw [hU], w.sub isC hnC hC hU hW⟩⟩ rfl hl rfl rfl (lv_room hrm) hdg hf) kk
theorem call_wS {r : Option Value → va_W → Prop} (hx : p.tables.exec = Jvm.exec) (hb : c.code = cc) (hml : c.maxLocals = ls.size) (hown : s.vm.findClass own = some m.cls) (hts : ∀ w ∈ W0, w.before args s = true) (w : Wd g A ws s H locs) (hk : LkS own index y bytes maxL ret n) (hM : ∀ sz : Nat, Met l y (wm y bytes maxL ret) (rmm d mc ms) (pW g wc sz As) (qW g wc r) mc ms (va_A wc sz)) (isC isR : List Nat) (hnC : va_nd isC = true) (hC : isC.map (fun i => ws[i]?) = wc.map some) (hRR : isR.map (fun i => ws[i]?) = wr.map some) (hnR : va_nd isR = true) (hdis : ∀ i ∈ isR, i ∉ isC)
    (hl : As.length = n) {st : List Value} (hst : st = As.reverse ++ rest) (hrm : (rest.map fun v => v.category).sum ≤ 8) (hR : d + 1 ≤ R.frames ∧ 8 + (maxL + 11) + 32 * d ≤ R.locals) (hf : cells + mc ≤ R.cells ∧ slots + ms ≤ R.slots) (hdg : decode cc pc = .ok (.invokestatic index, 3))
    (kk : ∀ (v : Option Value) (w' : va_W) (H1 : Heap) (locs1 : List Loc), r v w' → Wd g A (wr ++ w') s H1 locs1 → W p l e R s m args below meth c H1 locs1 (cells + mc) (slots + ms) Q (F0 m (pc + 3) ls (v.toList ++ rest))) : W p l e R s m args below meth c H locs cells slots Q (F0 m pc ls st) := by
  subst hst
  exact va_callW w isC isR hC hRR hnR hdis (va_runS (As := As) (rest := rest) ⟨hx, hb, hml, hown, hts⟩ (hM H.size) ⟨cwb hts hk.2.2.2.1 hk.2.2.1 hk.1 hk.2.2.2.2 hR, hts _ hk.2.1⟩ ⟨pW_blind, fun U hU hW => ⟨rfl, by rw [hU], w.sub isC hnC hC hU hW⟩⟩ rfl hl rfl rfl (lv_room hrm) hdg hf) kk
theorem call_wI {r : Option Value → va_W → Prop} (hx : p.tables.exec = Jvm.exec) (hb : c.code = cc) (hml : c.maxLocals = ls.size) (hown : s.vm.findClass own = some m.cls) (hts : ∀ w ∈ W0, w.before args s = true) (w : Wd g A ws s H locs) (hk : LkI own index y bytes maxL n) (hM : ∀ sz : Nat, Met l y (wm y bytes maxL none) (rmm d mc ms) (pW g wc sz (.ref b :: As)) (qW g wc r) mc ms (va_A wc sz)) (isC isR : List Nat) (hnC : va_nd isC = true) (hC : isC.map (fun i => ws[i]?) = wc.map some) (hRR : isR.map (fun i => ws[i]?) = wr.map some) (hnR : va_nd isR = true) (hdis : ∀ i ∈ isR, i ∉ isC)
    (hl : As.length = n) {st : List Value} (hst : st = As.reverse ++ .ref b :: rest) (hrm : (rest.map fun v => v.category).sum ≤ 8) (hR : d + 1 ≤ R.frames ∧ 8 + (maxL + 11) + 32 * d ≤ R.locals) (hf : cells + mc ≤ R.cells ∧ slots + ms ≤ R.slots) (hdg : decode cc pc = .ok (.invokespecial index, 3))
    (kk : ∀ (v : Option Value) (w' : va_W) (H1 : Heap) (locs1 : List Loc), r v w' → Wd g A (wr ++ w') s H1 locs1 → W p l e R s m args below meth c H1 locs1 (cells + mc) (slots + ms) Q (F0 m (pc + 3) ls (v.toList ++ rest))) : W p l e R s m args below meth c H locs cells slots Q (F0 m pc ls st) := by
  subst hst
  exact va_callW w isC isR hC hRR hnR hdis (va_runI (As := As) (rest := rest) ⟨hx, hb, hml, hown, hts⟩ (hM H.size) ⟨cwb hts hk.2.2.2.1 hk.2.2.1 hk.1 hk.2.2.2.2.1 hR, hk.2.2.2.2.2, hts _ hk.2.1⟩ ⟨pW_blind, fun U hU hW => ⟨rfl, by rw [hU], w.sub isC hnC hC hU hW⟩⟩ rfl hl rfl rfl (lv_room hrm) hdg hf) kk
theorem call_wJ {r : Option Value → va_W → Prop} (hx : p.tables.exec = Jvm.exec) (hb : c.code = cc) (hml : c.maxLocals = ls.size) (hown : s.vm.findClass own = some m.cls) (hts : ∀ w ∈ W0, w.before args s = true) (w : Wd g A ws s H locs) (hk : LkJ own index y bytes maxL n) (hM : ∀ sz : Nat, Met l y (wm y bytes maxL none) (rmm d mc ms) (pW g wc sz (.ref b :: As)) (qW g wc r) mc ms (va_A wc sz)) (isC isR : List Nat) (hnC : va_nd isC = true) (hC : isC.map (fun i => ws[i]?) = wc.map some) (hRR : isR.map (fun i => ws[i]?) = wr.map some) (hnR : va_nd isR = true) (hdis : ∀ i ∈ isR, i ∉ isC)
    (hl : As.length = n) {st : List Value} (hst : st = As.reverse ++ .ref b :: rest) (hrm : (rest.map fun v => v.category).sum ≤ 8) (hR : d + 1 ≤ R.frames ∧ 8 + (maxL + 11) + 32 * d ≤ R.locals) (hf : cells + mc ≤ R.cells ∧ slots + ms ≤ R.slots) (hdg : decode cc pc = .ok (.invokespecial index, 3))
    (kk : ∀ (v : Option Value) (w' : va_W) (H1 : Heap) (locs1 : List Loc), r v w' → Wd g A (wr ++ w') s H1 locs1 → W p l e R s m args below meth c H1 locs1 (cells + mc) (slots + ms) Q (F0 m (pc + 3) ls (v.toList ++ rest))) : W p l e R s m args below meth c H locs cells slots Q (F0 m pc ls st) := by
  subst hst
  exact va_callW w isC isR hC hRR hnR hdis (va_runIN (As := As) (rest := rest) ⟨hx, hb, hml, hown, hts⟩ (hM H.size) ⟨cwn hts w.2.2.2.2.2.1 hk.2.2.2.1 hk.2.2.1 hk.1 hk.2.2.2.2.1 hR, hk.2.2.2.2.2, hts _ hk.2.1⟩ ⟨pW_blind, fun U hU hW => ⟨rfl, by rw [hU], w.sub isC hnC hC hU hW⟩⟩ rfl hl rfl rfl (lv_room hrm) hdg hf) kk
end CAL
