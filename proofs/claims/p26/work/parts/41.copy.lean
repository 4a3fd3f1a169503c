section COPY
variable {p : Program} {l : Launch} {e : Env} {R : Room} {s : State} {m : MethodId} {args : Array Value} {below : List Frame} {meth : Method} {c : Code} {H : Heap} {locs : List Loc} {cells slots : Nat} {Q : State → Prop}
variable {cc : ByteArray} {pc : Nat} {ls : Array Slot} {rest : List Value} {a : Nat} {ws : va_W} {g : GG} {A : Nat → Prop}
/-- a row of numbers, laid over another of its length -/
theorem cpy_full {f h : Int → Int} {n : Nat} : va_cpy (ar f) (ar h) (iI 0).toNatClampNeg (iI 0).toNatClampNeg (iI (n : Int)).toNatClampNeg = va_cpy (ar f) (ar h) 0 0 n ∨ 2147483647 < n := by
  by_cases hn : n ≤ 2147483647
  · left; rw [iI_clamp (by omega), iI_clamp (by omega)]; rfl
  · right; omega
def lo (f h : Int → Int) (n : Nat) : Int → Int := fun j => if 0 ≤ j ∧ j < n then f j else h j
theorem cpy_lo {f h : Int → Int} {n : Nat} : va_cpy (ar f) (ar h) 0 0 n = ar (lo f h n) := by
  funext k
  show (if 0 ≤ k ∧ k < 0 + n then iI (f ((0 + (k - 0) : Nat) : Int)) else iI (h k)) = iI (if 0 ≤ (k : Int) ∧ (k : Int) < n then f k else h k)
  by_cases hk : k < n
  · rw [if_pos (by omega), if_pos (by omega), show 0 + (k - 0) = k from by omega]
  · rw [if_neg (by omega), if_neg (by omega)]
theorem cpy_at {f h : Nat → Int32} {N : Nat} : va_cpy f h (iI 0).toNatClampNeg (iI 0).toNatClampNeg N = va_cpy f h 0 0 N := rfl
theorem ri_copy {own : String} {index : Nat} (hx : p.tables.exec = Jvm.exec) (hb : c.code = cc) (hml : c.maxLocals = ls.size) (hown : s.vm.findClass own = some m.cls) (hts : ∀ w ∈ W0, w.before args s = true) (w : Wd g A ws s H locs) (hlk : Cond.methodLink own index arraycopyName ∈ W0) (q0 q1 : Nat) {a0 n : Nat} {f h : Int → Int} (ha0 : ws[q0]? = some (a0, eI g n f)) (ha1 : ws[q1]? = some (a, eI g n h)) {z : Int} (hz : z = n) (hn : n ≤ 100000) (hf : 1 ≤ R.frames ∧ (rest.map fun v => v.category).sum + (nativeFrameWords "java/lang/System" "arraycopy" 5 + 11) ≤ R.locals) (hdg : decode cc pc = .ok (.invokestatic index, 3))
    (kk : ∀ (H1 : Heap) (locs1 : List Loc), Wd g A (ws.set q1 (a, eI g n f)) s H1 locs1 → W p l e R s m args below meth c H1 locs1 cells slots Q (F0 m (pc + 3) ls rest)) : W p l e R s m args below meth c H locs cells slots Q (F0 m pc ls (.int (iI z) :: .int (iI 0) :: .ref a :: .int (iI 0) :: .ref a0 :: rest)) := by
  subst hz
  have c0 : (iI 0).toNatClampNeg = 0 := rfl
  have cn : (iI (n : Int)).toNatClampNeg = n := by rw [iI_clamp (by omega)]; omega
  refine va_copyi hx hb hml hown (hts _ hlk) (hts _ (W0_of k_nati_arraycopyName rfl)) (hts _ (W0_of k_stat_arraycopyName rfl)) (hts _ (W0_of k_ini_System rfl)) w.1 w.2.1 w.2.2.1 w.2.2.2.1 q0 q1 0 0 ha0 ha1 rfl rfl rfl (by decide) (by decide) (by rw [iI_zero, iI_lt (by omega) (by omega)]; omega) (by rw [c0, cn]; omega) (by rw [c0, cn]; omega) (fun _ _ => rfl) hf.1 hf.2 hdg (fun H1 locs1 hP hD hS => ?_)
  rw [c0, cn, cpy_lo] at hP hD
  have w1 : Wd g A (ws.set q1 (a, eI g n (lo f h n))) s H1 locs1 := w.put hP hD hS
  have hlen : q1 < ws.length := (List.getElem?_eq_some_iff.mp ha1).1
  have w2 := w1.re (a := a) (n := n) (f := lo f h n) (f' := f) q1 (by simp [List.getElem?_set, hlen]) (fun j h0 h1 => show lo f h n j = f j from if_pos ⟨h0, h1⟩)
  rw [List.set_set] at w2
  exact kk H1 locs1 w2
/-- of a table of the class -/
theorem ri_copyT {own : String} {index : Nat} (hx : p.tables.exec = Jvm.exec) (hb : c.code = cc) (hml : c.maxLocals = ls.size) (hown : s.vm.findClass own = some m.cls) (hts : ∀ w ∈ W0, w.before args s = true) (w : Wd g A ws s H locs) (hlk : Cond.methodLink own index arraycopyName ∈ W0) (i : Nat) (hi : i < 6) (q1 : Nat) {n : Nat} {h : Int → Int} (ha1 : ws[q1]? = some (a, eI g n h)) (hN : (stv i).length = n) {z : Int} (hz : z = n) (hn : n ≤ 100000) (hf : 1 ≤ R.frames ∧ (rest.map fun v => v.category).sum + (nativeFrameWords "java/lang/System" "arraycopy" 5 + 11) ≤ R.locals) (hdg : decode cc pc = .ok (.invokestatic index, 3))
    (kk : ∀ (H1 : Heap) (locs1 : List Loc), Wd g A (ws.set q1 (a, eI g n (stf i))) s H1 locs1 → W p l e R s m args below meth c H1 locs1 cells slots Q (F0 m (pc + 3) ls rest)) : W p l e R s m args below meth c H locs cells slots Q (F0 m pc ls (.int (iI z) :: .int (iI 0) :: .ref a :: .int (iI 0) :: .ref (g.2.2 i) :: rest)) := by
  subst hz
  subst hN
  have c0 : (iI 0).toNatClampNeg = 0 := rfl
  have cn : (iI ((stv i).length : Int)).toNatClampNeg = (stv i).length := by rw [iI_clamp (by omega)]; omega
  have cn2 : (iI ((stv i).length : Int)).toInt = ((stv i).length : Int) := iI_toInt (by omega)
  have c02 : (iI 0).toInt = 0 := rfl
  intro T hT X
  obtain ⟨scr, hs1, ⟨hs6, k0, hk0, cm0, hkk0⟩, hs3, hs4, -, hs5, hs7⟩ := (w.2.2.2.2.2.2 i hi).2
  have hS := w.2.2.2.1
  have hc0 : H[g.2.2 i]? = some scr := by rw [hS.2.1 _ (Array.getElem?_eq_some_iff.mp hs1).1 hs7]; exact hs1
  have hc1 : H[a]? = some (vp_cell g.2.1.1 ((stv i).length, .inl (ar h))) := w.2.1 q1 _ ha1
  obtain ⟨-, k1, hk1, cm1, hkk1⟩ := (w.1.2 0 _ rfl).1 (stv i).length (fun j => .int (ar h j))
  obtain ⟨vm', X', step⟩ := X.arraycopy hx hown (hts _ hlk) (hts _ (W0_of k_nati_arraycopyName rfl)) (hts _ (W0_of k_stat_arraycopyName rfl)) (hts _ (W0_of k_ini_System rfl)) (src := g.2.2 i) (dst := a) (cs := scr) (cd := vp_cell g.2.1.1 ((stv i).length, .inl (ar h))) (srcPos := iI 0) (destPos := iI 0) (n := iI ((stv i).length : Int)) (by rw [hT]; exact hc0) (by rw [hT]; exact hc1)
    hs6 (fun _ h => by cases h) hs3 (fun h => by cases h) hk0 hk1 hkk0 hkk1 (by simp [refKind]) (by decide) (by decide) (by rw [iI_zero, iI_lt (by omega) (by omega)]; omega)
    (by rw [c02, cn2]; omega) (by rw [c02, cn2]; show ¬ _ > ((arrV _ (stv i).length (fun j => Value.int (ar h j))).slots.size : Int); rw [arrV_size]; omega)
    (fun vm₁ _ j hj => by
      rw [cn] at hj
      have e : scr.slots.getD ((iI 0).toNatClampNeg + j) .null = .int (iI (stf i (j : Int))) := by
        rw [Array.getD_eq_getD_getElem?, c0, Nat.zero_add, hs5 j hj]
        rfl
      exact ⟨by rw [e]; rfl, by rw [e]; exact trivial⟩)
    (g := F0 m pc ls (.int (iI ((stv i).length : Int)) :: .int (iI 0) :: .ref a :: .int (iI 0) :: .ref (g.2.2 i) :: rest)) rfl (by rw [hml]) (rest := rest) rfl (by rw [hb]; exact hdg) hf.1 (by have := hf.2; show 2 * 0 + _ + _ ≤ _; omega)
  have e1 : copied scr (vp_cell g.2.1.1 ((stv i).length, .inl (ar h))) (iI 0) (iI 0) (iI ((stv i).length : Int)) = vp_cell g.2.1.1 ((stv i).length, .inl (ar (lo (stf i) h (stv i).length))) := by
    refine (va_copiedX (fun z => .int z) (sp := (iI 0).toNatClampNeg) (dp := (iI 0).toNatClampNeg) (n := (iI ((stv i).length : Int)).toNatClampNeg) scr g.2.1.1 (ar (stf i)) (ar h) hs5 (by rw [c0, cn]; omega)).trans ?_
    rw [cn, cpy_at, cpy_lo]
    rfl
  rw [e1] at X' step
  have hl : a < H.size := (Array.getElem?_eq_some_iff.mp hc1).1
  have hheap : ((T.setVm vm').setCell a (vp_cell g.2.1.1 ((stv i).length, .inl (ar (lo (stf i) h (stv i).length))))).heap = H.setIfInBounds a (vp_cell g.2.1.1 ((stv i).length, .inl (ar (lo (stf i) h (stv i).length)))) := by rw [← hT]; rfl
  have oq : ∀ q : Nat, q ≠ a → (H.setIfInBounds a (vp_cell g.2.1.1 ((stv i).length, .inl (ar (lo (stf i) h (stv i).length)))))[q]? = H[q]? := fun q hq => by simp [Array.getElem?_setIfInBounds, Ne.symm hq]
  have hD := w.2.2.1
  have hlen : q1 < ws.length := (List.getElem?_eq_some_iff.mp ha1).1
  have fin : ∀ locs1 : List Loc, va_S A s.heap (H.setIfInBounds a (vp_cell g.2.1.1 ((stv i).length, .inl (ar (lo (stf i) h (stv i).length))))) locs1 → Wd g A (ws.set q1 (a, eI g (stv i).length (stf i))) s (H.setIfInBounds a (vp_cell g.2.1.1 ((stv i).length, .inl (ar (lo (stf i) h (stv i).length))))) locs1 := by
    intro locs1 h3
    have w1 : Wd g A (ws.set q1 (a, eI g (stv i).length (lo (stf i) h (stv i).length))) s _ locs1 := w.put (w.2.1.set hD ha1 (show (H.setIfInBounds a _)[a]? = some _ by simp [Array.getElem?_setIfInBounds, hl]) oq) (hD.set ha1) h3
    have w2 := w1.re (a := a) (n := (stv i).length) (f := lo (stf i) h (stv i).length) (f' := stf i) q1 (by simp [List.getElem?_set, hlen]) (fun j h0 h1 => show lo _ h _ j = _ from if_pos ⟨h0, h1⟩)
    rw [List.set_set] at w2
    exact w2
  obtain ⟨t, a1, b1⟩ := kk _ _ (fin _ ⟨by simp; exact hS.1, fun q g1 g2 => by
      rw [oq q (fun e => g2 (by rw [e]; exact hD.2 q1 _ ha1))]
      exact hS.2.1 q g1 g2, fun q hq => by
      rcases List.mem_append.mp hq with h | h
      · exact hS.2.2 q h
      · obtain ⟨z, -, hz⟩ := List.mem_map.mp h
        rw [← hz]
        exact hD.2 q1 _ ha1⟩) _ hheap X'
  exact ⟨t, step t a1, b1⟩
end COPY
theorem Wd.reZ {g : GG} {A : Nat → Prop} {ws : va_W} {s : State} {H : Heap} {locs : List Loc} (w : Wd g A ws s H locs) (q : Nat) {a n : Nat} {f f' : Int → Int} (hq : ws[q]? = some (a, eZ g n f)) (h : ∀ j : Int, 0 ≤ j → j < n → f j = f' j) : Wd g A (ws.set q (a, eZ g n f')) s H locs := by
  obtain ⟨hK, hP, hD, hS, hA, hN, hT⟩ := w
  refine ⟨hK, ?_, hD.set hq, hS, hA, hN, hT⟩
  refine hP.set hD hq ?_ (fun _ _ => rfl)
  have h0 := hP q _ hq
  show H[a]? = some (vp_cell g.2.1.2.1 (n, .inl (ar f')))
  rw [← ar_congr g.2.1.2.1 n h]
  exact h0
def lk (f h : Int → Int) (k : Int) : Int → Int := fun j => if 0 ≤ j ∧ j < k then f j else h j
theorem lk_0 {f h : Int → Int} : lk f h 0 = h := by
  funext j
  exact if_neg (by omega)
theorem lk_s {f h : Int → Int} {k : Int} (hk : 0 ≤ k) : up (lk f h k) k (f k) = lk f h (k + 1) := by
  funext j
  by_cases hj : j = k
  · rw [up_eq hj]; unfold lk; rw [if_pos (by omega), hj]
  · rw [up_ne hj]; unfold lk
    by_cases h2 : 0 ≤ j ∧ j < k
    · rw [if_pos h2, if_pos (by omega)]
    · rw [if_neg h2, if_neg (by omega)]
