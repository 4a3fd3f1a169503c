def adr (l : List Nat) : Nat → Nat := fun i => l.getD i 0
section NEW
variable {p : Program} {l : Launch} {e : Env} {R : Room} {s : State} {m : MethodId} {args : Array Value} {below : List Frame} {meth : Method} {c : Code} {H : Heap} {locs : List Loc} {cells slots : Nat} {Q : State → Prop}
variable {cc : ByteArray} {pc : Nat} {ls : Array Slot} {rest : List Value} {a : Nat} {ws : va_W} {g : GG} {A : Nat → Prop}
theorem same_cls {tys : List (ClassId × FieldType)} {D : va_G} {i j : Nat} {ca cb : ClassId} {ty : FieldType} (hK : va_K D vwCl tys s) (hi : tys[i]? = some (ca, ty)) (hj : tys[j]? = some (cb, ty)) (hty : ∀ C, ty ≠ .object C) : ca = cb := by
  have h1 := (hK.2 i _ hi).2
  have h2 := (hK.2 j _ hj).2
  cases ty with
  | object C => exact absurd rfl (hty C)
  | _ => exact Option.some.inj (h1.symm.trans h2)
theorem ri_newaI (hx : p.tables.exec = Jvm.exec) (hb : c.code = cc) (hts : ∀ w ∈ W0, w.before args s = true) (w : Wd g A ws s H locs) {n : Int} {N' : Nat} (hn : n = (N' : Int)) (hN : N' ≤ 100000) (hf : cells + 1 ≤ R.cells ∧ slots + N' ≤ R.slots) (hdg : decode cc pc = .ok (.newarray .int, 2))
    (kk : ∀ (q : Nat) (H1 : Heap), Wd g A (ws ++ [(q, eI g N' (fun _ => 0))]) s H1 locs → W p l e R s m args below meth c H1 locs (cells + 1) (slots + N') Q (F0 m (pc + 2) ls (.ref q :: rest))) : W p l e R s m args below meth c H locs cells slots Q (F0 m pc ls (.int (iI n) :: rest)) := by
  obtain ⟨hK, hP, hD, hS, hA, hNN, hT⟩ := w
  refine va_newa (atype := .int) (ty := .int) (N' := N') (a0 := (N', .inl (ar (fun _ => 0)))) hx hb (hts _ (W0_of k_arr_int rfl)) rfl hK hP hD hS hA (fun cA => rfl) (by rw [iI_zero, iI_lt (by omega) (by omega)]; omega) (by rw [iI_clamp (by omega)]; omega) (by show N' * 4 ≤ _; omega) hf.1 hf.2 hdg (fun q cA H1 hK1 hP1 hD1 hS1 => ?_)
  have e1 : g.2.1.1 = cA := same_cls (i := 0) (j := 4) hK1 rfl rfl (fun C h => by cases h)
  subst e1
  exact kk q H1 ⟨hK, hP1, hD1, hS1, hA, hNN, hT⟩
theorem ri_newaZ (hx : p.tables.exec = Jvm.exec) (hb : c.code = cc) (hts : ∀ w ∈ W0, w.before args s = true) (w : Wd g A ws s H locs) {n : Int} {N' : Nat} (hn : n = (N' : Int)) (hN : N' ≤ 100000) (hf : cells + 1 ≤ R.cells ∧ slots + N' ≤ R.slots) (hdg : decode cc pc = .ok (.newarray .boolean, 2))
    (kk : ∀ (q : Nat) (H1 : Heap), Wd g A (ws ++ [(q, eZ g N' (fun _ => 0))]) s H1 locs → W p l e R s m args below meth c H1 locs (cells + 1) (slots + N') Q (F0 m (pc + 2) ls (.ref q :: rest))) : W p l e R s m args below meth c H locs cells slots Q (F0 m pc ls (.int (iI n) :: rest)) := by
  obtain ⟨hK, hP, hD, hS, hA, hNN, hT⟩ := w
  refine va_newa (atype := .boolean) (ty := .boolean) (N' := N') (a0 := (N', .inl (ar (fun _ => 0)))) hx hb (hts _ (W0_of k_arr_boolean rfl)) rfl hK hP hD hS hA (fun cA => rfl) (by rw [iI_zero, iI_lt (by omega) (by omega)]; omega) (by rw [iI_clamp (by omega)]; omega) (by show N' * 1 ≤ _; omega) hf.1 hf.2 hdg (fun q cA H1 hK1 hP1 hD1 hS1 => ?_)
  have e1 : g.2.1.2.1 = cA := same_cls (i := 1) (j := 4) hK1 rfl rfl (fun C h => by cases h)
  subst e1
  exact kk q H1 ⟨hK, hP1, hD1, hS1, hA, hNN, hT⟩
theorem ri_newaC (hx : p.tables.exec = Jvm.exec) (hb : c.code = cc) (hts : ∀ w ∈ W0, w.before args s = true) (w : Wd g A ws s H locs) {n : Int} {N' : Nat} (hn : n = (N' : Int)) (hN : N' ≤ 100000) (hf : cells + 1 ≤ R.cells ∧ slots + N' ≤ R.slots) (hdg : decode cc pc = .ok (.newarray .char, 2))
    (kk : ∀ (q : Nat) (H1 : Heap), Wd g A (ws ++ [(q, eC g N' (fun _ => 0))]) s H1 locs → W p l e R s m args below meth c H1 locs (cells + 1) (slots + N') Q (F0 m (pc + 2) ls (.ref q :: rest))) : W p l e R s m args below meth c H locs cells slots Q (F0 m pc ls (.int (iI n) :: rest)) := by
  obtain ⟨hK, hP, hD, hS, hA, hNN, hT⟩ := w
  refine va_newa (atype := .char) (ty := .char) (N' := N') (a0 := (N', .inl (ar (fun _ => 0)))) hx hb (hts _ (W0_of k_arr_char rfl)) rfl hK hP hD hS hA (fun cA => rfl) (by rw [iI_zero, iI_lt (by omega) (by omega)]; omega) (by rw [iI_clamp (by omega)]; omega) (by show N' * 2 ≤ _; omega) hf.1 hf.2 hdg (fun q cA H1 hK1 hP1 hD1 hS1 => ?_)
  have e1 : g.2.1.2.2.1 = cA := same_cls (i := 2) (j := 4) hK1 rfl rfl (fun C h => by cases h)
  subst e1
  exact kk q H1 ⟨hK, hP1, hD1, hS1, hA, hNN, hT⟩
theorem ri_newq {own : String} {index : Nat} (hx : p.tables.exec = Jvm.exec) (hb : c.code = cc) (hown : s.vm.findClass own = some m.cls) (hts : ∀ w ∈ W0, w.before args s = true) (w : Wd g A ws s H locs) (hcl : Cond.classLink own index "WeakenedPages$Store" ∈ W0) {n : Int} {N' : Nat} (hn : n = (N' : Int)) (hN : N' ≤ 100000) (hf : cells + 1 ≤ R.cells ∧ slots + N' ≤ R.slots) (hdg : decode cc pc = .ok (.anewarray index, 3))
    (kk : ∀ (q : Nat) (H1 : Heap), Wd g A (ws ++ [(q, eO g N' (fun _ => none))]) s H1 locs → W p l e R s m args below meth c H1 locs (cells + 1) (slots + N') Q (F0 m (pc + 3) ls (.ref q :: rest))) : W p l e R s m args below meth c H locs cells slots Q (F0 m pc ls (.int (iI n) :: rest)) := by
  obtain ⟨hK, hP, hD, hS, hA, hNN, hT⟩ := w
  refine va_newq (N' := N') hx hb hown (hts _ hcl) hNN.2 hK hP hD hS hA (by rw [iI_zero, iI_lt (by omega) (by omega)]; omega) (by rw [iI_clamp (by omega)]; omega) (by omega) hf.1 hf.2 hdg (fun q cA H1 hK1 hP1 hD1 hS1 => ?_)
  have e1 : g.2.1.2.2.2 = cA := by
    obtain ⟨k1, c1, h1, h2, h3, h4⟩ := (hK1.2 3 _ rfl).2
    obtain ⟨k2, c2, h5, h6, h7, h8⟩ := (hK1.2 4 _ rfl).2
    exact Option.some.inj (h4.symm.trans h8)
  subst e1
  exact kk q H1 ⟨hK, hP1, hD1, hS1, hA, hNN, hT⟩
theorem ri_new {own C : String} {T : u_T} {N ci index : Nat} {ty : Nat → FieldType} (hx : p.tables.exec = Jvm.exec) (hb : c.code = cc) (hown : s.vm.findClass own = some m.cls) (hts : ∀ w ∈ W0, w.before args s = true) (w : Wd g A ws s H locs) (hf0 : FldOk C T N ty ci) (hcl : Cond.classLink own index C ∈ W0) (hin : Cond.instantiable C N ∈ W0) (hini : Cond.initialized C ∈ W0) {fs : List Value} (hfs : ∀ j, j < N → defaultValue (ty j) = vp_V fs j) (hf : cells + 1 ≤ R.cells ∧ slots + N ≤ R.slots) (hdg : decode cc pc = .ok (.new index, 3))
    (kk : ∀ (q : Nat) (H1 : Heap), Wd g A (ws ++ [(q, .inr (ci, fs))]) s H1 locs → W p l e R s m args below meth c H1 locs (cells + 1) (slots + N) Q (F0 m (pc + 3) ls (.ref q :: rest))) : W p l e R s m args below meth c H locs cells slots Q (F0 m pc ls rest) := by
  obtain ⟨hK, hP, hD, hS, hA, hNN, hT⟩ := w
  refine va_new hx hb hts hf0.2.1 ty hf0.2.2.1 hown (hts _ hcl) (hts _ hin) (hts _ hini) hK hP hD hS hA hf0.1 hfs hf.1 hf.2 hdg (fun q H1 hP1 hD1 hS1 => ?_)
  exact kk q H1 ⟨hK, hP1, hD1, hS1, hA, hNN, hT⟩
theorem ri_objInit {own : String} {idx : Nat} (hx : p.tables.exec = Jvm.exec) (hb : c.code = cc) (hml : c.maxLocals = ls.size) (hown : s.vm.findClass own = some m.cls) (hts : ∀ w ∈ W0, w.before args s = true) (hl : Cond.methodLink own idx objectInit ∈ W0) (hf : 1 ≤ R.frames ∧ (rest.map fun v => v.category).sum + 12 ≤ R.locals) (hdg : decode cc pc = .ok (.invokespecial idx, 3))
    (kk : W p l e R s m args below meth c H locs cells slots Q (F0 m (pc + 3) ls rest)) : W p l e R s m args below meth c H locs cells slots Q (F0 m pc ls (.ref a :: rest)) := by
  refine W.objInit hx hb hown (hts _ hl) (hts _ (W0_of k_inst_objectInit rfl)) (hts _ (W0_of k_code_objectInit rfl)) rfl hml.symm rfl hdg hf.1 (by show 2 * 0 + _ + 12 ≤ _; omega) ?_
  exact kk
end NEW
/-! the first state -/
def s_i1 (k : Int) (G : Int → Int) : Int → Int := up G (4 * k + 41) (if k < 2 then 0 else if k < 5 then 1 else 2)
def s_i2 (k : Int) (G : Int → Int) : Int → Int := up G (3 * k + 65) (-1)
def f_00 : Int → Int := up (up (up (up (up (up (fun _ => 0) 1 75) 2 200) 3 1) 4 2) 5 1) 6 (-5)
def f_01 : Int → Int := fo 6 0 f_00 s_i1
def f_0 : Int → Int := fo 48 0 f_01 s_i2
def b_0 : Nat → Int → Int := fun i => if i = 0 then f_0 else fun _ => 0
