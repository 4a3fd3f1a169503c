/-! whole numbers as the machine's ints -/
def iI (z : Int) : Int32 := Int32.ofInt z
theorem iI_add (a b : Int) : iI a + iI b = iI (a + b) := (Int32.ofInt_add a b).symm
theorem iI_sub (a b : Int) : iI a - iI b = iI (a - b) := (Int32.ofInt_sub a b).symm
theorem iI_mul (a b : Int) : iI a * iI b = iI (a * b) := (Int32.ofInt_mul a b).symm
theorem iI_toInt {a : Int} (h : -2147483648 ≤ a ∧ a ≤ 2147483647) : (iI a).toInt = a := Int32.toInt_ofInt_of_le (by omega) (by omega)
theorem iI_clamp {a : Int} (h : 0 ≤ a ∧ a ≤ 2147483647) : (iI a).toNatClampNeg = a.toNat := by
  show (iI a).toInt.toNat = a.toNat
  rw [iI_toInt (by omega)]
theorem iI_lt {a b : Int} (ha : -2147483648 ≤ a ∧ a ≤ 2147483647) (hb : -2147483648 ≤ b ∧ b ≤ 2147483647) : iI a < iI b ↔ a < b := by
  rw [Int32.lt_iff_toInt_lt, iI_toInt ha, iI_toInt hb]
theorem iI_le {a b : Int} (ha : -2147483648 ≤ a ∧ a ≤ 2147483647) (hb : -2147483648 ≤ b ∧ b ≤ 2147483647) : iI a ≤ iI b ↔ a ≤ b := by
  rw [Int32.le_iff_toInt_le, iI_toInt ha, iI_toInt hb]
theorem iI_eq {a b : Int} (ha : -2147483648 ≤ a ∧ a ≤ 2147483647) (hb : -2147483648 ≤ b ∧ b ≤ 2147483647) : iI a = iI b ↔ a = b := by
  rw [← Int32.toInt_inj, iI_toInt ha, iI_toInt hb]
theorem iI_zero : (0 : Int32) = iI 0 := rfl
theorem iI_nat (n : Nat) : iI (n : Int) = nI n := by
  first | rfl | simp [iI, nI]
theorem iI_div {a b : Int} (ha : 0 ≤ a ∧ a ≤ 2147483647) (hb : 0 < b ∧ b ≤ 2147483647) : iI a / iI b = iI (a / b) := by
  obtain ⟨n, rfl⟩ := Int.eq_ofNat_of_zero_le ha.1
  obtain ⟨d, rfl⟩ := Int.eq_ofNat_of_zero_le (Int.le_of_lt hb.1)
  rw [iI_nat, iI_nat, pk_div (by omega) (by omega) (by omega), ← iI_nat]
  rfl
theorem iI_rem {a b : Int} (ha : 0 ≤ a ∧ a ≤ 2147483647) (hb : 0 < b ∧ b ≤ 2147483647) : iI a - iI a / iI b * iI b = iI (a % b) := by
  rw [iI_div ha hb, iI_mul, iI_sub]
  congr 1
  have := Int.mul_ediv_add_emod a b
  rw [Int.mul_comm] at this
  omega
theorem iI_self (x : Int32) : x = iI x.toInt := by
  show x = Int32.ofInt x.toInt
  simp
/-! the cells' contents -/
def ar (f : Int → Int) : Nat → Int32 := fun k => iI (f (k : Int))
def up (f : Int → Int) (i v : Int) : Int → Int := fun j => if j = i then v else f j
theorem up_eq {f : Int → Int} {i j v : Int} (h : j = i) : up f i v j = v := if_pos h
theorem up_ne {f : Int → Int} {i j v : Int} (h : j ≠ i) : up f i v j = f j := if_neg h
theorem ar_at {f : Int → Int} {j v : Int} (h : 0 ≤ j ∧ j ≤ 2147483647) (hv : f j = v) : ar f (iI j).toNatClampNeg = iI v := by
  rw [iI_clamp h]
  show iI (f ((j.toNat : Nat) : Int)) = iI v
  rw [Int.toNat_of_nonneg h.1, hv]
theorem ar_up {f : Int → Int} {j v : Int} (h : 0 ≤ j ∧ j ≤ 2147483647) : upd (ar f) (iI j).toNatClampNeg (iI v) = ar (up f j v) := by
  funext k
  rw [iI_clamp h]
  show (if k = j.toNat then iI v else iI (f k)) = iI (if (k : Int) = j then v else f k)
  by_cases hk : (k : Int) = j
  · rw [if_pos hk, if_pos (by omega)]
  · rw [if_neg hk, if_neg (by omega)]
theorem ar_in {j : Int} {n : Nat} (h : 0 ≤ j ∧ j < n) (hn : n ≤ 2147483647) : vp_in (iI j) n := by
  rw [vp_in_iff, iI_toInt (by omega)]
  exact h
theorem arrV_ext {cA : ClassId} {n : Nat} {f g : Nat → Value} (h : ∀ k, k < n → f k = g k) : arrV cA n f = arrV cA n g := by
  unfold arrV
  congr 1
  first
    | (apply Array.ext <;> simp_all; done)
    | (congr 1; apply List.map_congr_left; intro a ha; exact h a (List.mem_range.mp ha))
theorem ar_congr {f g : Int → Int} (cA : ClassId) (n : Nat) (h : ∀ j : Int, 0 ≤ j → j < n → f j = g j) : vp_cell cA (n, .inl (ar f)) = vp_cell cA (n, .inl (ar g)) := by
  rw [vp_cell_i, vp_cell_i]
  refine arrV_ext (fun k hk => ?_)
  show Value.int (iI (f k)) = Value.int (iI (g k))
  rw [h k (by omega) (by omega)]
/-! the machine that a method meets -/
abbrev GG : Type := va_G × (ClassId × ClassId × ClassId × ClassId) × (Nat → Nat)
abbrev tysOf (g : GG) : List (ClassId × FieldType) := [(g.2.1.1, .int), (g.2.1.2.1, .boolean), (g.2.1.2.2.1, .char), (g.2.1.2.2.2, .object "WeakenedPages$Store")]
abbrev eI (g : GG) (n : Nat) (f : Int → Int) : va_E := .inl (g.2.1.1, n, .inl (ar f))
abbrev eZ (g : GG) (n : Nat) (f : Int → Int) : va_E := .inl (g.2.1.2.1, n, .inl (ar f))
abbrev eC (g : GG) (n : Nat) (f : Int → Int) : va_E := .inl (g.2.1.2.2.1, n, .inl (ar f))
abbrev eO (g : GG) (n : Nat) (f : Nat → Option Nat) : va_E := .inl (g.2.1.2.2.2, n, .inr (.inr (.inr (.inr f))))
def NNl : List Cond := [.methodLinkNest RX4 48 yX0_init "WeakenedPages", .methodLinkNest RX4 55 yX1_init "WeakenedPages", .methodLinkNest RX5 38 yX3_init "WeakenedPages", .methodLinkNest RX4 179 yX5_isSetting "WeakenedPages", .methodLinkNest RX4 142 yX5_isBlock "WeakenedPages", .methodLinkNest RX4 105 yX5_isPage "WeakenedPages", .fieldLinkNest RX4 76 "WeakenedPages" "FIRST_KINDS" "[I" "WeakenedPages", .fieldLinkNest RX4 85 "WeakenedPages" "FIRST_SETTINGS" "[I" "WeakenedPages", .fieldLinkNest RX4 182 "WeakenedPages" "LEAST_SETTINGS" "[I" "WeakenedPages", .fieldLinkNest RX4 185 "WeakenedPages" "GREATEST_SETTINGS" "[I" "WeakenedPages", .fieldLinkNest RX4 95 "WeakenedPages" "BEARS_AT_FIRST" "[I" "WeakenedPages", .fieldLinkNest RX4 98 "WeakenedPages" "LOSS_BY_ERASURE" "[I" "WeakenedPages"]
def NN (U : State) : Prop := (∀ w ∈ NNl, va_Nw w U) ∧ va_AO "WeakenedPages$Store" U
theorem NN.warm {s U : State} (hW : s.WarmedH U.vm) (h : NN s) : NN U := by
  refine ⟨fun w hw => ?_, va_AO.moved hW.alike h.2⟩
  have h1 := h.1 w hw
  cases w with
  | methodLinkNest a i x b => exact va_Nw.warmM hW h1
  | fieldLinkNest a i b n d c => exact va_Nw.warmF hW h1
  | _ => simp [NNl] at hw
theorem NN.same {s U : State} (hv : s.vm = U.vm) (h : NN s) : NN U := by
  refine ⟨fun w hw => ?_, va_AO.moved (by rw [hv]; exact Vm.Alike.refl _) h.2⟩
  have h1 := h.1 w hw
  cases w with
  | methodLinkNest a i x b => exact va_Nw.same rfl hv h1
  | fieldLinkNest a i b n d c => exact va_Nw.same rfl hv h1
  | _ => simp [NNl] at hw
def stn : Nat → String
  | 0 => "FIRST_KINDS"
  | 1 => "FIRST_SETTINGS"
  | 2 => "LEAST_SETTINGS"
  | 3 => "GREATEST_SETTINGS"
  | 4 => "BEARS_AT_FIRST"
  | _ => "LOSS_BY_ERASURE"
def stv : Nat → List Int
  | 0 => [0, 0, 1, 1, 1, 2]
  | 1 => [75, 200, 1, 2, 1]
  | 2 => [10, 1, 0, 0, 0]
  | 3 => [100, 999, 8, 4, 1]
  | 4 => [400, 200, 100]
  | _ => [4, 5, 10]
def stf (i : Nat) (j : Int) : Int := (stv i).getD j.toNat 0
def ST (ts : Nat → Nat) (A : Nat → Prop) (U : State) (H : Heap) : Prop := ∀ i : Nat, i < 6 → va_Z "WeakenedPages" (stn i) "[I" (.ref (ts i)) A U H ∧ va_T .int (ts i) (stv i).length (fun k => .int (iI (stf i (k : Int)))) A U H
theorem ST.moved {ts : Nat → Nat} {A : Nat → Prop} {u U : State} {H : Heap} (hvm : u.vm.Alike U.vm) (h : ST ts A u H) : ST ts A U H := fun i hi => ⟨(h i hi).1.moved hvm, (h i hi).2.moved hvm⟩
theorem ST.kept {ts : Nat → Nat} {A : Nat → Prop} {U : State} {H H1 : Heap} (h : ST ts A U H) (hq : ∀ a : Nat, a < H.size → ¬ A a → H1[a]? = H[a]?) : ST ts A U H1 := fun i hi => ⟨(h i hi).1.kept hq, (h i hi).2.kept hq⟩
theorem ST.narrow {ts : Nat → Nat} {A B : Nat → Prop} {U : State} {H : Heap} (h : ST ts A U H) (hAB : ∀ q, B q → A q) : ST ts B U H := fun i hi => ⟨(h i hi).1.narrow hAB, (h i hi).2.narrow hAB⟩
/-- a world at a method's start, and within a method -/
def Wp (g : GG) (ws : va_W) (U : State) : Prop := va_K g.1 vwCl (tysOf g) U ∧ va_P g.1 vwCl ws U.heap ∧ va_D (fun _ => True) ws ∧ NN U ∧ ST g.2.2 (va_A ws U.heap.size) U U.heap
def Wd (g : GG) (A : Nat → Prop) (ws : va_W) (s : State) (H : Heap) (locs : List Loc) : Prop := va_K g.1 vwCl (tysOf g) s ∧ va_P g.1 vwCl ws H ∧ va_D A ws ∧ va_S A s.heap H locs ∧ (∀ q : Nat, s.heap.size ≤ q → A q) ∧ NN s ∧ ST g.2.2 A s s.heap
theorem Wp.wd {g : GG} {ws : va_W} {s : State} (h : Wp g ws s) : Wd g (va_A ws s.heap.size) ws s s.heap [] := ⟨h.1, h.2.1, h.2.2.1.self, va_S.rf, fun _ hq => Or.inr hq, h.2.2.2.1, h.2.2.2.2⟩
theorem Wp.blind {g : GG} {ws : va_W} {U : State} {gg : JFrame} {mk : MethodId} {a : Array Value} (h : Wp g ws U) : Wp g ws (U.calling gg mk a) := ⟨va_K.moved (u := U) (U := U.calling gg mk a) (Vm.Alike.refl U.vm) h.1, h.2.1, h.2.2.1, NN.same (s := U) (U := U.calling gg mk a) rfl h.2.2.2.1, ST.moved (u := U) (U := U.calling gg mk a) (Vm.Alike.refl U.vm) h.2.2.2.2⟩
/-- what a callee meets: the cells at some places of the caller's world -/
theorem Wd.sub {g : GG} {A : Nat → Prop} {ws wc : va_W} {s : State} {H : Heap} {locs : List Loc} (w : Wd g A ws s H locs) (isC : List Nat) (hn : va_nd isC = true) (hC : isC.map (fun i => ws[i]?) = wc.map some) {U : State} (hU : U.heap = H) (hW : s.WarmedH U.vm) : Wp g wc U := by
  obtain ⟨hK, hP, hD, hS, hA, hN, hT⟩ := w
  have hF := va_free hD hS hA isC hC
  have hP1 : va_P g.1 vwCl wc H := by
    intro k q hk
    have h1 : (isC.map (fun i => ws[i]?))[k]? = some (some q) := by rw [hC, List.getElem?_map, hk]; rfl
    rw [List.getElem?_map] at h1
    cases hi : isC[k]? with
    | none => rw [hi] at h1; cases h1
    | some i => rw [hi] at h1; exact hP i q (Option.some.inj h1)
  subst hU
  refine ⟨hK.moved hW.alike, hP1, (hD.sub isC hn hC).weaken (fun _ _ _ _ => trivial), hN.warm hW, ?_⟩
  exact ((hT.kept (fun a h1 h2 => hS.2.1 a h1 h2)).narrow hF).moved hW.alike
/-- behind a call that may change the callee's cells -/
theorem Wd.join {g : GG} {A : Nat → Prop} {ws wc wr w1 : va_W} {s : State} {H H1 : Heap} {locs locs1 : List Loc} (w : Wd g A ws s H locs) (isC isR : List Nat) (hC : isC.map (fun i => ws[i]?) = wc.map some) (hR : isR.map (fun i => ws[i]?) = wr.map some) (hn : va_nd isR = true) (hdis : ∀ i ∈ isR, i ∉ isC)
    (hk : ∀ q : Nat, q < H.size → ¬ va_A wc H.size q → H1[q]? = H[q]?) (hP1 : va_P g.1 vwCl w1 H1) (hD1 : va_D (va_A wc H.size) w1) (hS1 : va_S A s.heap H1 locs1) : Wd g A (wr ++ w1) s H1 locs1 := by
  obtain ⟨hK, hP, hD, hS, hA, hN, hT⟩ := w
  have hF := va_free hD hS hA isC hC
  obtain ⟨j1, j2⟩ := va_join hP hD isC isR hC hR hn hdis hk hF hP1 hD1
  exact ⟨hK, j1, j2, hS1, hA, hN, hT⟩
theorem Wd.perm {g : GG} {A : Nat → Prop} {ws wc : va_W} {s : State} {H : Heap} {locs : List Loc} (w : Wd g A ws s H locs) (isC : List Nat) (hn : va_nd isC = true) (hC : isC.map (fun i => ws[i]?) = wc.map some) : Wd g A wc s H locs := by
  obtain ⟨hK, hP, hD, hS, hA, hN, hT⟩ := w
  refine ⟨hK, ?_, hD.sub isC hn hC, hS, hA, hN, hT⟩
  intro k q hk
  have h1 : (isC.map (fun i => ws[i]?))[k]? = some (some q) := by rw [hC, List.getElem?_map, hk]; rfl
  rw [List.getElem?_map] at h1
  cases hi : isC[k]? with
  | none => rw [hi] at h1; cases h1
  | some i => rw [hi] at h1; exact hP i q (Option.some.inj h1)
/-! contracts -/
abbrev wm (y : MethodName) (b : ByteArray) (n : Nat) (ret : Option FieldType) : List Cond := Cond.code y b n ret :: W0
abbrev rmm (d mc ms : Nat) : Room := { frames := d, cells := mc, slots := ms, locals := 32 * d }
def pR (g : GG) (ws : va_W) (av : List Value) : Array Value → State → Prop := fun v U => v = av.toArray ∧ Wp g ws U
def qR (v : Option Value) : Array Value → State → Outcome → State → Prop := fun _ st oc t => oc = .returned v ∧ t.heap = st.heap
def pW (g : GG) (ws : va_W) (sz : Nat) (av : List Value) : Array Value → State → Prop := fun v U => v = av.toArray ∧ U.heap.size = sz ∧ Wp g ws U
def qW (g : GG) (ws : va_W) (r : Option Value → va_W → Prop) : Array Value → State → Outcome → State → Prop := fun _ st oc t => ∃ (v : Option Value) (w' : va_W), oc = .returned v ∧ r v w' ∧ va_P g.1 vwCl w' t.heap ∧ va_D (va_A ws st.heap.size) w' ∧ va_F (va_A ws st.heap.size) st t
theorem good_wm {y : MethodName} {b : ByteArray} {n : Nat} {ret : Option FieldType} (h : Cond.code y b n ret ∈ W0) : GoodIn W0 (wm y b n ret) := by
  intro w hw
  rcases List.mem_cons.mp hw with rfl | hw
  · exact ⟨h, good_of_word (W0_good _ h)⟩
  · exact ⟨hw, good_of_word (W0_good _ hw)⟩
section CON
variable {l : Launch} {y : MethodName} {cc : ByteArray} {maxL : Nat} {ret : Option FieldType} {d mc ms : Nat} {g : GG} {ws : va_W} {av : List Value}
/-- a method that changes nothing -/
theorem met_r {v : Option Value} (hy : plainName y.cls = true) (hlen : (lg_sl av).length ≤ maxL)
    (body : ∀ (p : Program) (e : Env) (s : State) (m : MethodId) (args : Array Value) (below : List Frame) (meth : Method) (c : Code) (Q : State → Prop) (ls : Array Slot),
      p.tables.exec = Jvm.exec → c.code = cc → c.maxLocals = maxL → s.vm.findClass y.cls = some m.cls → (∀ w ∈ W0, w.before args s = true) → lv_has ls maxL (lv_args 0 av) → Wd g (va_A ws s.heap.size) ws s s.heap [] →
      ((v = none → ret = none → ∀ (pc : Nat) (ls : Array Slot), decode cc pc = .ok (.return_, 1) → W p l e (rmm d 0 0) s m args below meth c s.heap [] 0 0 Q (F0 m pc ls [])) ∧ (∀ z : Int32, v = some (.int z) → (∃ ty, ret = some ty ∧ narrow ty (.int z) = .int z) → ∀ (pc : Nat) (ls : Array Slot), decode cc pc = .ok (.ireturn, 1) → W p l e (rmm d 0 0) s m args below meth c s.heap [] 0 0 Q (F0 m pc ls [.int z]))) →
      W p l e (rmm d 0 0) s m args below meth c s.heap [] 0 0 Q (F0 m 0 ls [])) :
    Met l y (wm y cc maxL ret) (rmm d 0 0) (pR g ws av) (qR v) 0 0 (fun _ => False) := by
  refine Met.ofW (cc := cc) (maxL := maxL) (ret := ret) hy rfl ?_
  intro p e s m args below meth c s₁ B hml hv
  obtain ⟨rfl, hw⟩ := hv
  have hx := B.exec
  have hb := B.bytes
  have hr := B.returns
  have hlocks := B.notSynchronized
  have hts := atoms_spec (ws := wm y cc maxL ret) B.pre
  have hown : s.vm.findClass y.cls = some m.cls := findClass_of_methodNamed B.named
  have hl := lv_entry av (n := maxL) hlen
  rw [lg_entry_eq]
  refine body p e s m _ below meth c _ _ hx hb hml hown (fun w h => hts w (List.mem_cons_of_mem _ h)) hl hw.wd ⟨?_, ?_⟩
  · rintro rfl rfl pc ls hd
    exact W.vret hx hb hr (fun t ht _ => ⟨rfl, ht⟩) (fun q h => by cases h) hd
  · rintro z rfl ⟨ty, rfl, hn⟩ pc ls hd
    exact W.zret hx hb hr hn (fun t ht _ => ⟨rfl, ht⟩) (fun q h => by cases h) hd
/-- a method that may change its world -/
theorem met_w {r : Option Value → va_W → Prop} {sz : Nat} (hy : plainName y.cls = true) (hlen : (lg_sl av).length ≤ maxL)
    (body : ∀ (p : Program) (e : Env) (s : State) (m : MethodId) (args : Array Value) (below : List Frame) (meth : Method) (c : Code) (Q : State → Prop) (ls : Array Slot) (A : Nat → Prop),
      p.tables.exec = Jvm.exec → c.code = cc → c.maxLocals = maxL → s.vm.findClass y.cls = some m.cls → (∀ w ∈ W0, w.before args s = true) → lv_has ls maxL (lv_args 0 av) → Wd g A ws s s.heap [] → (y.name = "<init>" → meth.name = "<init>") →
      ((ret = none → ∀ (H : Heap) (locs : List Loc) (w' : va_W) (pc : Nat) (ls : Array Slot), decode cc pc = .ok (.return_, 1) → Wd g A w' s H locs → r none w' → W p l e (rmm d mc ms) s m args below meth c H locs mc ms Q (F0 m pc ls [])) ∧ (∀ (z : Int32) (H : Heap) (locs : List Loc) (w' : va_W), (∃ ty, ret = some ty ∧ narrow ty (.int z) = .int z) → ∀ (pc : Nat) (ls : Array Slot), decode cc pc = .ok (.ireturn, 1) → Wd g A w' s H locs → r (some (.int z)) w' → W p l e (rmm d mc ms) s m args below meth c H locs mc ms Q (F0 m pc ls [.int z]))) →
      W p l e (rmm d mc ms) s m args below meth c s.heap [] 0 0 Q (F0 m 0 ls [])) :
    Met l y (wm y cc maxL ret) (rmm d mc ms) (pW g ws sz av) (qW g ws r) mc ms (va_A ws sz) := by
  refine Met.ofW (cc := cc) (maxL := maxL) (ret := ret) hy rfl ?_
  intro p e s m args below meth c s₁ B hml hv
  obtain ⟨rfl, rfl, hw⟩ := hv
  have hx := B.exec
  have hb := B.bytes
  have hr := B.returns
  have hlocks := B.notSynchronized
  have hts := atoms_spec (ws := wm y cc maxL ret) B.pre
  have hown : s.vm.findClass y.cls = some m.cls := findClass_of_methodNamed B.named
  have hin : y.name = "<init>" → meth.name = "<init>" := fun h => (name_of_methodNamed B.named B.method).1.trans h
  have hl := lv_entry av (n := maxL) hlen
  rw [lg_entry_eq]
  refine body p e s m _ below meth c _ _ (va_A ws s.heap.size) hx hb hml hown (fun w h => hts w (List.mem_cons_of_mem _ h)) hl hw.wd hin ⟨?_, ?_⟩
  · rintro rfl H locs w' pc ls hd w1 h1
    obtain ⟨hK, hP, hD, hS, hA, hN, hT⟩ := w1
    exact W.vret hx hb hr (fun t ht _ => ⟨none, w', rfl, h1, by rw [ht]; exact hP, hD, hS.F ht⟩) hS.2.2 hd
  · rintro z H locs w' ⟨ty, rfl, hn⟩ pc ls hd w1 h1
    obtain ⟨hK, hP, hD, hS, hA, hN, hT⟩ := w1
    exact W.zret hx hb hr hn (fun t ht _ => ⟨_, w', rfl, h1, by rw [ht]; exact hP, hD, hS.F ht⟩) hS.2.2 hd
end CON
