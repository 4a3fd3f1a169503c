/-! the law's rows: bits, its script, calls over the whole object -/
abbrev LA (s : State) : Nat → Prop := fun q => s.heap.size ≤ q
theorem x_rg (x : Int32) : -2147483648 ≤ x.toInt ∧ x.toInt ≤ 2147483647 := ⟨by have := Int32.le_toInt x; omega, by have := Int32.toInt_lt x; omega⟩
theorem toInt_small (y : Int32) {k : Nat} (hk : k ≤ 2147483647) (h : y.toBitVec.toNat ≤ k) : 0 ≤ y.toInt ∧ y.toInt ≤ (k : Int) := by
  have e : y.toInt = y.toBitVec.toInt := rfl
  rw [e, BitVec.toInt_eq_toNat_cond, if_pos (by omega)]
  omega
theorem and_rg (x : Int32) : 0 ≤ (x &&& iI 2147483647).toInt ∧ (x &&& iI 2147483647).toInt ≤ 2147483647 := by
  have h : (x &&& iI 2147483647).toBitVec.toNat ≤ 2147483647 := by
    show (x.toBitVec &&& (iI 2147483647).toBitVec).toNat ≤ 2147483647
    rw [BitVec.toNat_and]
    exact Nat.le_trans Nat.and_le_right (by decide)
  exact toInt_small (k := 2147483647) _ (by omega) h
def x_low (v n : Int) : Int := (iI v &&& iI 2147483647).toInt % n
theorem low_lt (v : Int) {n : Int} (h : 0 < n) : 0 ≤ x_low v n ∧ x_low v n < n := ⟨Int.emod_nonneg _ (by omega), Int.emod_lt_of_pos _ h⟩
def x_cell (L : Nat) (xs : Nat → Int32) (k : Int) : Int := if k < (L : Int) then (xs k.toNat).toInt else (iI (40503 * k + 977)).toInt
theorem cell_rg (L : Nat) (xs : Nat → Int32) (k : Int) : -2147483648 ≤ x_cell L xs k ∧ x_cell L xs k ≤ 2147483647 := by
  unfold x_cell
  split <;> exact x_rg _
theorem fl1 (a : va_W) : [a].flatten = a := by simp
/-- the buffer's ranks as bits -/
theorem bit_rd : ∀ v : Nat, v < 16 → ∀ a : Nat, a < 4 → ((iI (v : Int) >>> (iI (a : Int) &&& 31)) &&& iI 1).toInt = ((v / 2 ^ a % 2 : Nat) : Int) := by decide +kernel
theorem bit_hi : ∀ v : Nat, v < 16 → ((iI (v : Int) >>> (iI 30 &&& 31)) &&& iI 1).toInt = 0 := by decide +kernel
theorem bit_wr : ∀ v : Nat, v < 16 → ∀ a : Nat, a < 4 → v / 2 ^ a % 2 = 0 → (iI (v : Int) ||| (iI 1 <<< (iI (a : Int) &&& 31))).toInt = (v : Int) + ((2 ^ a : Nat) : Int) := by decide +kernel
theorem bit_or0 : ∀ v : Nat, v < 16 → (iI (v : Int) ||| iI 0).toInt = (v : Int) := by decide +kernel
section LAWR
variable {p : Program} {l : Launch} {e : Env} {R : Room} {s : State} {m : MethodId} {args : Array Value} {below : List Frame} {meth : Method} {c : Code} {H : Heap} {locs : List Loc} {cells slots : Nat} {Q : State → Prop}
variable {cc bytes : ByteArray} {maxL index n d mc ms pc : Nat} {own : String} {y : MethodName} {ret : Option FieldType} {ls : Array Slot} {As rest : List Value} {b c0 L : Nat} {xs : Nat → Int32} {g : GG} {A : Nat → Prop} {ws : va_W}
theorem ri_sld (hx : p.tables.exec = Jvm.exec) (hb : c.code = cc) (hX : va_X b L xs s s.heap) (hbl : b < s.heap.size) (hbA : ¬ A b) (hS : va_S A s.heap H locs) (hL : L ≤ 2048) {j v : Int} (hj : 0 ≤ j ∧ j < L) (hv : v = (xs j.toNat).toInt) (hdg : decode cc pc = .ok (.iaload, 1)) (kk : W p l e R s m args below meth c H locs cells slots Q (F0 m (pc + 1) ls (.int (iI v) :: rest))) : W p l e R s m args below meth c H locs cells slots Q (F0 m pc ls (.int (iI j) :: .ref b :: rest)) := by
  have hin : vp_in (iI j) L := ar_in hj (by omega)
  refine va_sld hx hb hX hbl hbA hS hin hdg ?_
  rw [iI_clamp (by omega)]
  subst hv
  rw [← iI_self] at kk
  exact kk
theorem ri_slen (hx : p.tables.exec = Jvm.exec) (hb : c.code = cc) (hX : va_X b L xs s s.heap) (hbl : b < s.heap.size) (hbA : ¬ A b) (hS : va_S A s.heap H locs) (hdg : decode cc pc = .ok (.arraylength, 1)) (kk : W p l e R s m args below meth c H locs cells slots Q (F0 m (pc + 1) ls (.int (iI (L : Int)) :: rest))) : W p l e R s m args below meth c H locs cells slots Q (F0 m pc ls (.ref b :: rest)) := by
  refine va_slen hx hb hX hbl hbA hS hdg ?_
  have e : Int32.ofNat L = iI (L : Int) := (iI_nat L).symm
  rw [e]
  exact kk
theorem ri_iand (hx : p.tables.exec = Jvm.exec) (hb : c.code = cc) {v u t : Int} (ht : (iI v &&& iI u).toInt = t) (hdg : decode cc pc = .ok (.iand, 1)) (kk : W p l e R s m args below meth c H locs cells slots Q (F0 m (pc + 1) ls (.int (iI t) :: rest))) : W p l e R s m args below meth c H locs cells slots Q (F0 m pc ls (.int (iI u) :: .int (iI v) :: rest)) := by
  subst ht
  rw [← iI_self] at kk
  exact lv_iand hx hb hdg kk
theorem ri_ior (hx : p.tables.exec = Jvm.exec) (hb : c.code = cc) {v u t : Int} (ht : (iI v ||| iI u).toInt = t) (hdg : decode cc pc = .ok (.ior, 1)) (kk : W p l e R s m args below meth c H locs cells slots Q (F0 m (pc + 1) ls (.int (iI t) :: rest))) : W p l e R s m args below meth c H locs cells slots Q (F0 m pc ls (.int (iI u) :: .int (iI v) :: rest)) := by
  subst ht
  rw [← iI_self] at kk
  exact lv_ior hx hb hdg kk
theorem ri_ishl (hx : p.tables.exec = Jvm.exec) (hb : c.code = cc) {v u t : Int} (ht : (iI v <<< (iI u &&& 31)).toInt = t) (hdg : decode cc pc = .ok (.ishl, 1)) (kk : W p l e R s m args below meth c H locs cells slots Q (F0 m (pc + 1) ls (.int (iI t) :: rest))) : W p l e R s m args below meth c H locs cells slots Q (F0 m pc ls (.int (iI u) :: .int (iI v) :: rest)) := by
  subst ht
  rw [← iI_self] at kk
  exact lv_ishl hx hb hdg kk
theorem ri_ishr (hx : p.tables.exec = Jvm.exec) (hb : c.code = cc) {v u t : Int} (ht : (iI v >>> (iI u &&& 31)).toInt = t) (hdg : decode cc pc = .ok (.ishr, 1)) (kk : W p l e R s m args below meth c H locs cells slots Q (F0 m (pc + 1) ls (.int (iI t) :: rest))) : W p l e R s m args below meth c H locs cells slots Q (F0 m pc ls (.int (iI u) :: .int (iI v) :: rest)) := by
  subst ht
  rw [← iI_self] at kk
  exact lv_ishr hx hb hdg kk
/-- a question to the whole object -/
theorem co_r {v : Option Value} (hx : p.tables.exec = Jvm.exec) (hb : c.code = cc) (hml : c.maxLocals = ls.size) (hown : s.vm.findClass own = some m.cls) (hts : ∀ w ∈ W0, w.before args s = true) (w : Wd g A ws s H locs) (hk : LkV own index y bytes maxL ret n) (hM : Met l y (wm y bytes maxL ret) (rmm d 0 0) (pR g ws (.ref c0 :: As)) (qR v) 0 0 (fun _ => False))
    (hv : ∃ cell : Cell, H[c0]? = some cell ∧ cell.vm.isStatics = false ∧ s.vm.findClass y.cls = some cell.cls) (hl : As.length = n) {st : List Value} (hst : st = As.reverse ++ .ref c0 :: rest) (hrm : (rest.map fun v => v.category).sum ≤ 8) (hR : d + 1 ≤ R.frames ∧ 8 + (maxL + 11) + 32 * d ≤ R.locals) (hf : cells + 0 ≤ R.cells ∧ slots + 0 ≤ R.slots) (hdg : decode cc pc = .ok (.invokevirtual index, 3))
    (kk : W p l e R s m args below meth c H locs cells slots Q (F0 m (pc + 3) ls (v.toList ++ rest))) : W p l e R s m args below meth c H locs cells slots Q (F0 m pc ls st) :=
  cb_rV (bs := [ws]) (bc := [ws]) (br := []) (kb := 1) hx hb hml hown hts (by rw [fl1]; exact w) hk hM [0] (by decide) rfl rfl (fl1 _) hv hl hst hrm hR hf hdg kk
/-- a call that may change the whole object -/
theorem co_w {r : Option Value → va_W → Prop} (hx : p.tables.exec = Jvm.exec) (hb : c.code = cc) (hml : c.maxLocals = ls.size) (hown : s.vm.findClass own = some m.cls) (hts : ∀ w ∈ W0, w.before args s = true) (w : Wd g A ws s H locs) (hk : LkV own index y bytes maxL ret n) (hM : ∀ sz : Nat, Met l y (wm y bytes maxL ret) (rmm d mc ms) (pW g ws sz (.ref c0 :: As)) (qW g ws r) mc ms (va_A ws sz))
    (hv : ∃ cell : Cell, H[c0]? = some cell ∧ cell.vm.isStatics = false ∧ s.vm.findClass y.cls = some cell.cls) (hl : As.length = n) {st : List Value} (hst : st = As.reverse ++ .ref c0 :: rest) (hrm : (rest.map fun v => v.category).sum ≤ 8) (hR : d + 1 ≤ R.frames ∧ 8 + (maxL + 11) + 32 * d ≤ R.locals) (hf : cells + mc ≤ R.cells ∧ slots + ms ≤ R.slots) (hdg : decode cc pc = .ok (.invokevirtual index, 3))
    (kk : ∀ (v : Option Value) (w' : va_W) (H1 : Heap) (locs1 : List Loc), r v w' → Wd g A w' s H1 locs1 → W p l e R s m args below meth c H1 locs1 (cells + mc) (slots + ms) Q (F0 m (pc + 3) ls (v.toList ++ rest))) : W p l e R s m args below meth c H locs cells slots Q (F0 m pc ls st) :=
  cb_wV (bs := [ws]) (bc := [ws]) (br := []) (kb := 1) hx hb hml hown hts (by rw [fl1]; exact w) hk hM [0] (by decide) rfl rfl (fl1 _) hv hl hst hrm hR hf hdg (fun v w' H1 locs1 hr w2 => kk v w' H1 locs1 hr (by rw [List.nil_append, fl1] at w2; exact w2))
/-- a static question over the whole world -/
theorem cs_r {v : Option Value} (hx : p.tables.exec = Jvm.exec) (hb : c.code = cc) (hml : c.maxLocals = ls.size) (hown : s.vm.findClass own = some m.cls) (hts : ∀ w ∈ W0, w.before args s = true) (w : Wd g A ws s H locs) (hk : LkS own index y bytes maxL ret n) (hM : Met l y (wm y bytes maxL ret) (rmm d 0 0) (pR g ws As) (qR v) 0 0 (fun _ => False))
    (hl : As.length = n) {st : List Value} (hst : st = As.reverse ++ rest) (hrm : (rest.map fun v => v.category).sum ≤ 8) (hR : d + 1 ≤ R.frames ∧ 8 + (maxL + 11) + 32 * d ≤ R.locals) (hf : cells + 0 ≤ R.cells ∧ slots + 0 ≤ R.slots) (hdg : decode cc pc = .ok (.invokestatic index, 3))
    (kk : W p l e R s m args below meth c H locs cells slots Q (F0 m (pc + 3) ls (v.toList ++ rest))) : W p l e R s m args below meth c H locs cells slots Q (F0 m pc ls st) :=
  call_rS hx hb hml hown hts w hk hM (List.range ws.length) (nd_l _) (by have := idx_l (X := ws) (Y := []); rwa [List.append_nil] at this) hl hst hrm hR hf hdg kk
/-- a static question of numbers alone -/
theorem cn_r {v : Option Value} (hx : p.tables.exec = Jvm.exec) (hb : c.code = cc) (hml : c.maxLocals = ls.size) (hown : s.vm.findClass own = some m.cls) (hts : ∀ w ∈ W0, w.before args s = true) (w : Wd g A ws s H locs) (hk : LkS own index y bytes maxL ret n) (hM : Met l y (wm y bytes maxL ret) (rmm d 0 0) (pR g [] As) (qR v) 0 0 (fun _ => False))
    (hl : As.length = n) {st : List Value} (hst : st = As.reverse ++ rest) (hrm : (rest.map fun v => v.category).sum ≤ 8) (hR : d + 1 ≤ R.frames ∧ 8 + (maxL + 11) + 32 * d ≤ R.locals) (hf : cells + 0 ≤ R.cells ∧ slots + 0 ≤ R.slots) (hdg : decode cc pc = .ok (.invokestatic index, 3))
    (kk : W p l e R s m args below meth c H locs cells slots Q (F0 m (pc + 3) ls (v.toList ++ rest))) : W p l e R s m args below meth c H locs cells slots Q (F0 m pc ls st) :=
  call_rS hx hb hml hown hts w hk hM [] rfl rfl hl hst hrm hR hf hdg kk
/-! methods that see the script -/
def pS (b L : Nat) (xs : Nat → Int32) (av : List Value) : Array Value → State → Prop := fun v U => v = av.toArray ∧ va_X b L xs U U.heap ∧ b < U.heap.size
theorem pS_blind {av : List Value} : FrameBlind (pS b L xs av) := fun a U gg mk q => ⟨q.1, va_X.moved (u := U) (U := U.calling gg mk a) (Vm.Alike.refl U.vm) q.2.1, q.2.2⟩
theorem script_at (w : Wd g A ws s H locs) (hX : va_X b L xs s s.heap) (hbl : b < s.heap.size) (hbA : ¬ A b) {U : State} (hU : U.heap = H) (hW : s.WarmedH U.vm) : va_X b L xs U U.heap ∧ b < U.heap.size := by
  subst hU
  have hS := w.2.2.2.1
  exact ⟨(hX.kept (hS.2.1 b hbl hbA)).moved hW.alike, Nat.lt_of_lt_of_le hbl hS.1⟩
theorem call_sS {v : Option Value} (hx : p.tables.exec = Jvm.exec) (hb : c.code = cc) (hml : c.maxLocals = ls.size) (hown : s.vm.findClass own = some m.cls) (hts : ∀ w ∈ W0, w.before args s = true) (w : Wd g A ws s H locs) (hX : va_X b L xs s s.heap) (hbl : b < s.heap.size) (hbA : ¬ A b) (hk : LkS own index y bytes maxL ret n) (hM : Met l y (wm y bytes maxL ret) (rmm d 0 0) (pS b L xs As) (qR v) 0 0 (fun _ => False))
    (hl : As.length = n) {st : List Value} (hst : st = As.reverse ++ rest) (hrm : (rest.map fun v => v.category).sum ≤ 8) (hR : d + 1 ≤ R.frames ∧ 8 + (maxL + 11) + 32 * d ≤ R.locals) (hf : cells + 0 ≤ R.cells ∧ slots + 0 ≤ R.slots) (hdg : decode cc pc = .ok (.invokestatic index, 3))
    (kk : W p l e R s m args below meth c H locs cells slots Q (F0 m (pc + 3) ls (v.toList ++ rest))) : W p l e R s m args below meth c H locs cells slots Q (F0 m pc ls st) := by
  subst hst
  exact va_callR (va_runS (As := As) (rest := rest) ⟨hx, hb, hml, hown, hts⟩ hM ⟨cwb hts hk.2.2.2.1 hk.2.2.1 hk.1 hk.2.2.2.2 hR, hts _ hk.2.1⟩ ⟨pS_blind, fun U hU hW => ⟨rfl, script_at w hX hbl hbA hU hW⟩⟩ rfl hl rfl rfl (lv_room hrm) hdg hf) kk
def pA (g : GG) (ws : va_W) (sz b L : Nat) (xs : Nat → Int32) (av : List Value) : Array Value → State → Prop := fun v U => pW g ws sz av v U ∧ va_X b L xs U U.heap ∧ b < U.heap.size ∧ ¬ va_A ws U.heap.size b
theorem pA_blind {av : List Value} {sz : Nat} : FrameBlind (pA g ws sz b L xs av) := fun a U gg mk q => ⟨pW_blind a U gg mk q.1, va_X.moved (u := U) (U := U.calling gg mk a) (Vm.Alike.refl U.vm) q.2.1, q.2.2.1, q.2.2.2⟩
theorem call_aS {r : Option Value → va_W → Prop} (hx : p.tables.exec = Jvm.exec) (hb : c.code = cc) (hml : c.maxLocals = ls.size) (hown : s.vm.findClass own = some m.cls) (hts : ∀ w ∈ W0, w.before args s = true) (w : Wd g A ws s H locs) (hX : va_X b L xs s s.heap) (hbl : b < s.heap.size) (hbA : ¬ A b) (hk : LkS own index y bytes maxL ret n) (hM : ∀ sz : Nat, Met l y (wm y bytes maxL ret) (rmm d mc ms) (pA g ws sz b L xs As) (qW g ws r) mc ms (va_A ws sz))
    (hl : As.length = n) {st : List Value} (hst : st = As.reverse ++ rest) (hrm : (rest.map fun v => v.category).sum ≤ 8) (hR : d + 1 ≤ R.frames ∧ 8 + (maxL + 11) + 32 * d ≤ R.locals) (hf : cells + mc ≤ R.cells ∧ slots + ms ≤ R.slots) (hdg : decode cc pc = .ok (.invokestatic index, 3))
    (kk : ∀ (v : Option Value) (w' : va_W) (H1 : Heap) (locs1 : List Loc), r v w' → Wd g A w' s H1 locs1 → W p l e R s m args below meth c H1 locs1 (cells + mc) (slots + ms) Q (F0 m (pc + 3) ls (v.toList ++ rest))) : W p l e R s m args below meth c H locs cells slots Q (F0 m pc ls st) := by
  subst hst
  have hC : (List.range ws.length).map (fun i => ws[i]?) = ws.map some := by have := idx_l (X := ws) (Y := []); rwa [List.append_nil] at this
  have hF := va_free w.2.2.1 w.2.2.2.1 w.2.2.2.2.1 (List.range ws.length) hC
  refine va_callW (wr := []) w (List.range ws.length) [] hC rfl rfl (fun i hi => by simp at hi) (va_runS (As := As) (rest := rest) ⟨hx, hb, hml, hown, hts⟩ (hM H.size) ⟨cwb hts hk.2.2.2.1 hk.2.2.1 hk.1 hk.2.2.2.2 hR, hts _ hk.2.1⟩ ⟨pA_blind, fun U hU hW => ⟨⟨rfl, by rw [hU], w.sub (List.range ws.length) (nd_l _) hC hU hW⟩, (script_at w hX hbl hbA hU hW).1, (script_at w hX hbl hbA hU hW).2, fun q => hbA (hF b (by rw [hU] at q; exact q))⟩⟩ rfl hl rfl rfl (lv_room hrm) hdg hf) (fun v w' H1 locs1 hr w2 => kk v w' H1 locs1 hr w2)
end LAWR
section CONS
variable {l : Launch} {y : MethodName} {cc : ByteArray} {maxL : Nat} {ret : Option FieldType} {d mc ms b L : Nat} {xs : Nat → Int32} {g : GG} {ws : va_W} {av : List Value}
theorem met_s {v : Option Value} (hy : plainName y.cls = true) (hlen : (lg_sl av).length ≤ maxL)
    (body : ∀ (p : Program) (e : Env) (s : State) (m : MethodId) (args : Array Value) (below : List Frame) (meth : Method) (c : Code) (Q : State → Prop) (ls : Array Slot),
      p.tables.exec = Jvm.exec → c.code = cc → c.maxLocals = maxL → s.vm.findClass y.cls = some m.cls → (∀ w ∈ W0, w.before args s = true) → lv_has ls maxL (lv_args 0 av) → va_X b L xs s s.heap → b < s.heap.size →
      (∀ z : Int32, v = some (.int z) → (∃ ty, ret = some ty ∧ narrow ty (.int z) = .int z) → ∀ (pc : Nat) (ls : Array Slot), decode cc pc = .ok (.ireturn, 1) → W p l e (rmm d 0 0) s m args below meth c s.heap [] 0 0 Q (F0 m pc ls [.int z])) →
      W p l e (rmm d 0 0) s m args below meth c s.heap [] 0 0 Q (F0 m 0 ls [])) :
    Met l y (wm y cc maxL ret) (rmm d 0 0) (pS b L xs av) (qR v) 0 0 (fun _ => False) := by
  refine Met.ofW (cc := cc) (maxL := maxL) (ret := ret) hy rfl ?_
  intro p e s m args below meth c s₁ B hml hv
  obtain ⟨rfl, hX, hbl⟩ := hv
  have hx := B.exec
  have hb := B.bytes
  have hr := B.returns
  have hlocks := B.notSynchronized
  have hts := atoms_spec (ws := wm y cc maxL ret) B.pre
  have hown : s.vm.findClass y.cls = some m.cls := findClass_of_methodNamed B.named
  have hl := lv_entry av (n := maxL) hlen
  rw [lg_entry_eq]
  refine body p e s m _ below meth c _ _ hx hb hml hown (fun w h => hts w (List.mem_cons_of_mem _ h)) hl hX hbl ?_
  rintro z rfl ⟨ty, rfl, hn⟩ pc ls hd
  exact W.zret hx hb hr hn (fun t ht _ => ⟨rfl, ht⟩) (fun q h => by cases h) hd
theorem met_a {r : Option Value → va_W → Prop} {sz : Nat} (hy : plainName y.cls = true) (hlen : (lg_sl av).length ≤ maxL)
    (body : ∀ (p : Program) (e : Env) (s : State) (m : MethodId) (args : Array Value) (below : List Frame) (meth : Method) (c : Code) (Q : State → Prop) (ls : Array Slot) (A : Nat → Prop),
      p.tables.exec = Jvm.exec → c.code = cc → c.maxLocals = maxL → s.vm.findClass y.cls = some m.cls → (∀ w ∈ W0, w.before args s = true) → lv_has ls maxL (lv_args 0 av) → Wd g A ws s s.heap [] → va_X b L xs s s.heap → b < s.heap.size → ¬ A b →
      (∀ (z : Int32) (H : Heap) (locs : List Loc) (w' : va_W), (∃ ty, ret = some ty ∧ narrow ty (.int z) = .int z) → ∀ (pc : Nat) (ls : Array Slot), decode cc pc = .ok (.ireturn, 1) → Wd g A w' s H locs → r (some (.int z)) w' → W p l e (rmm d mc ms) s m args below meth c H locs mc ms Q (F0 m pc ls [.int z])) →
      W p l e (rmm d mc ms) s m args below meth c s.heap [] 0 0 Q (F0 m 0 ls [])) :
    Met l y (wm y cc maxL ret) (rmm d mc ms) (pA g ws sz b L xs av) (qW g ws r) mc ms (va_A ws sz) := by
  refine Met.ofW (cc := cc) (maxL := maxL) (ret := ret) hy rfl ?_
  intro p e s m args below meth c s₁ B hml hv
  obtain ⟨⟨rfl, rfl, hw⟩, hX, hbl, hbA⟩ := hv
  have hx := B.exec
  have hb := B.bytes
  have hr := B.returns
  have hlocks := B.notSynchronized
  have hts := atoms_spec (ws := wm y cc maxL ret) B.pre
  have hown : s.vm.findClass y.cls = some m.cls := findClass_of_methodNamed B.named
  have hl := lv_entry av (n := maxL) hlen
  rw [lg_entry_eq]
  refine body p e s m _ below meth c _ _ (va_A ws s.heap.size) hx hb hml hown (fun w h => hts w (List.mem_cons_of_mem _ h)) hl hw.wd hX hbl hbA ?_
  rintro z H locs w' ⟨ty, rfl, hn⟩ pc ls hd w1 h1
  obtain ⟨hK, hP, hD, hS, hA, hN, hT⟩ := w1
  exact W.zret hx hb hr hn (fun t ht _ => ⟨_, w', rfl, h1, by rw [ht]; exact hP, hD, hS.F ht⟩) hS.2.2 hd
end CONS
