/-! worlds told by blocks -/
theorem nd_nodup : ∀ {l : List Nat}, va_nd l = true ↔ l.Nodup
  | [] => ⟨fun _ => List.Pairwise.nil, fun _ => rfl⟩
  | a :: l => by
    simp only [va_nd, Bool.and_eq_true, decide_eq_true_eq, List.nodup_cons]
    rw [nd_nodup (l := l)]
theorem vd_nodup {A : Nat → Prop} {ws : va_W} : va_D A ws ↔ (ws.map Prod.fst).Nodup ∧ ∀ q ∈ ws, A q.1 := by
  constructor
  · rintro ⟨h1, h2⟩
    refine ⟨?_, fun q hq => ?_⟩
    · show List.Pairwise _ _
      rw [List.pairwise_map, List.pairwise_iff_getElem]
      intro i j hi hj hij hq
      have := h1 i j _ _ (List.getElem?_eq_getElem hi) (List.getElem?_eq_getElem hj) hq
      omega
    · obtain ⟨k, hk⟩ := List.mem_iff_getElem?.mp hq
      exact h2 k q hk
  · rintro ⟨h1, h2⟩
    refine ⟨fun i j p q hi hj hpq => ?_, fun k q hk => h2 q (List.mem_of_getElem? hk)⟩
    have h1 : List.Pairwise _ _ := h1
    rw [List.pairwise_map, List.pairwise_iff_getElem] at h1
    have hil := (List.getElem?_eq_some_iff.mp hi).1
    have hjl := (List.getElem?_eq_some_iff.mp hj).1
    rcases Nat.lt_trichotomy i j with h | h | h
    · exact absurd (by rw [← (List.getElem?_eq_some_iff.mp hi).2, ← (List.getElem?_eq_some_iff.mp hj).2] at hpq; exact hpq) (h1 i j hil hjl h)
    · exact h
    · exact absurd (by rw [← (List.getElem?_eq_some_iff.mp hi).2, ← (List.getElem?_eq_some_iff.mp hj).2] at hpq; exact hpq.symm) (h1 j i hjl hil h)
theorem Wd.ofPerm {g : GG} {A : Nat → Prop} {ws wc : va_W} {s : State} {H : Heap} {locs : List Loc} (w : Wd g A ws s H locs) (h : ws.Perm wc) : Wd g A wc s H locs := by
  obtain ⟨hK, hP, hD, hS, hA, hN, hT⟩ := w
  refine ⟨hK, fun k q hk => ?_, ?_, hS, hA, hN, hT⟩
  · obtain ⟨j, hj⟩ := List.mem_iff_getElem?.mp (h.mem_iff.mpr (List.mem_of_getElem? hk))
    exact hP j q hj
  · rw [vd_nodup] at hD ⊢
    exact ⟨(h.map Prod.fst).nodup_iff.mp hD.1, fun q hq => hD.2 q (h.mem_iff.mpr hq)⟩
theorem perm_idx {α : Type} {bs bc : List α} (ix : List Nat) (hp : ix.Perm (List.range bs.length)) (hC : ix.map (fun i => bs[i]?) = bc.map some) : bs.Perm bc := by
  have h2 := hp.map (fun i => bs[i]?)
  rw [hC] at h2
  have h3 : (List.range bs.length).map (fun i => bs[i]?) = bs.map some := by
    apply List.ext_getElem?
    intro i
    rw [List.getElem?_map, List.getElem?_map]
    by_cases hi : i < bs.length
    · rw [List.getElem?_range hi, List.getElem?_eq_getElem hi]; simp [List.getElem?_eq_getElem hi]
    · rw [List.getElem?_eq_none (by rw [List.length_range]; omega), List.getElem?_eq_none (by omega)]; rfl
  rw [h3] at h2
  have h4 := h2.filterMap id
  simpa using h4.symm
theorem Wd.blk {g : GG} {A : Nat → Prop} {bs bc : List va_W} {s : State} {H : Heap} {locs : List Loc} (w : Wd g A bs.flatten s H locs) (ix : List Nat) {k : Nat} (hp : ix.Perm (List.range k)) (hC : ix.map (fun i => bs[i]?) = bc.map some) (hl : bs.length = k) : Wd g A bc.flatten s H locs :=
  w.ofPerm (perm_idx ix (hl ▸ hp) hC).flatten
theorem idx_l {α : Type} {X Y : List α} : (List.range X.length).map (fun i => (X ++ Y)[i]?) = X.map some := by
  apply List.ext_getElem?
  intro i
  rw [List.getElem?_map, List.getElem?_map]
  by_cases hi : i < X.length
  · rw [List.getElem?_range hi, List.getElem?_eq_getElem hi]; simp [List.getElem?_append_left hi, List.getElem?_eq_getElem hi]
  · rw [List.getElem?_eq_none (by rw [List.length_range]; omega), List.getElem?_eq_none (by omega)]; rfl
theorem idx_r {α : Type} {X Y : List α} : ((List.range Y.length).map (fun i => X.length + i)).map (fun i => (X ++ Y)[i]?) = Y.map some := by
  apply List.ext_getElem?
  intro i
  rw [List.map_map, List.getElem?_map, List.getElem?_map]
  by_cases hi : i < Y.length
  · rw [List.getElem?_range hi, List.getElem?_eq_getElem hi]; simp [List.getElem?_append_right, List.getElem?_eq_getElem hi]
  · rw [List.getElem?_eq_none (by rw [List.length_range]; omega), List.getElem?_eq_none (by omega)]; rfl
theorem nd_l (n : Nat) : va_nd (List.range n) = true := nd_nodup.mpr List.nodup_range
theorem nd_r (k n : Nat) : va_nd ((List.range n).map (fun i => k + i)) = true := by
  rw [nd_nodup]
  show List.Pairwise _ _
  rw [List.pairwise_map]
  exact List.Pairwise.imp (fun h q => h (by omega)) (List.nodup_range (n := n))
theorem dis_r (k n : Nat) : ∀ i ∈ (List.range n).map (fun i => k + i), i ∉ List.range k := by
  intro i hi h
  obtain ⟨j, -, hj⟩ := List.mem_map.mp hi
  have := List.mem_range.mp h
  omega
section BCA
variable {p : Program} {l : Launch} {e : Env} {R : Room} {s : State} {m : MethodId} {args : Array Value} {below : List Frame} {meth : Method} {c : Code} {H : Heap} {locs : List Loc} {cells slots : Nat} {Q : State → Prop}
variable {cc bytes : ByteArray} {nL maxL index n d mc ms : Nat} {own : String} {y : MethodName} {ret : Option FieldType} {b : Addr} {As rest : List Value} {pc : Nat} {ls : Array Slot} {g : GG} {A : Nat → Prop} {wc : va_W} {bs bc br : List va_W}
/-- calls whose cells are whole blocks -/
theorem cb_rV {v : Option Value} (hx : p.tables.exec = Jvm.exec) (hb : c.code = cc) (hml : c.maxLocals = ls.size) (hown : s.vm.findClass own = some m.cls) (hts : ∀ w ∈ W0, w.before args s = true) (w : Wd g A bs.flatten s H locs) (hk : LkV own index y bytes maxL ret n) (hM : Met l y (wm y bytes maxL ret) (rmm d 0 0) (pR g wc (.ref b :: As)) (qR v) 0 0 (fun _ => False)) (ix : List Nat) {kb : Nat} (hnx : ix.Perm (List.range kb)) (hC : ix.map (fun i => bs[i]?) = (bc ++ br).map some) (hlx : bs.length = kb) (hwc : bc.flatten = wc)
    (hv : ∃ cell : Cell, H[b]? = some cell ∧ cell.vm.isStatics = false ∧ s.vm.findClass y.cls = some cell.cls) (hl : As.length = n) {st : List Value} (hst : st = As.reverse ++ .ref b :: rest) (hrm : (rest.map fun v => v.category).sum ≤ 8) (hR : d + 1 ≤ R.frames ∧ 8 + (maxL + 11) + 32 * d ≤ R.locals) (hf : cells + 0 ≤ R.cells ∧ slots + 0 ≤ R.slots) (hdg : decode cc pc = .ok (.invokevirtual index, 3))
    (kk : W p l e R s m args below meth c H locs cells slots Q (F0 m (pc + 3) ls (v.toList ++ rest))) : W p l e R s m args below meth c H locs cells slots Q (F0 m pc ls st) := by
  subst hwc
  have w1 := w.blk ix hnx hC hlx
  rw [List.flatten_append] at w1
  exact call_rV hx hb hml hown hts w1 hk hM (List.range bc.flatten.length) (nd_l _) idx_l hv hl hst hrm hR hf hdg kk
theorem cb_wV {r : Option Value → va_W → Prop} (hx : p.tables.exec = Jvm.exec) (hb : c.code = cc) (hml : c.maxLocals = ls.size) (hown : s.vm.findClass own = some m.cls) (hts : ∀ w ∈ W0, w.before args s = true) (w : Wd g A bs.flatten s H locs) (hk : LkV own index y bytes maxL ret n) (hM : ∀ sz : Nat, Met l y (wm y bytes maxL ret) (rmm d mc ms) (pW g wc sz (.ref b :: As)) (qW g wc r) mc ms (va_A wc sz)) (ix : List Nat) {kb : Nat} (hnx : ix.Perm (List.range kb)) (hC : ix.map (fun i => bs[i]?) = (bc ++ br).map some) (hlx : bs.length = kb) (hwc : bc.flatten = wc)
    (hv : ∃ cell : Cell, H[b]? = some cell ∧ cell.vm.isStatics = false ∧ s.vm.findClass y.cls = some cell.cls) (hl : As.length = n) {st : List Value} (hst : st = As.reverse ++ .ref b :: rest) (hrm : (rest.map fun v => v.category).sum ≤ 8) (hR : d + 1 ≤ R.frames ∧ 8 + (maxL + 11) + 32 * d ≤ R.locals) (hf : cells + mc ≤ R.cells ∧ slots + ms ≤ R.slots) (hdg : decode cc pc = .ok (.invokevirtual index, 3))
    (kk : ∀ (v : Option Value) (w' : va_W) (H1 : Heap) (locs1 : List Loc), r v w' → Wd g A (br ++ [w']).flatten s H1 locs1 → W p l e R s m args below meth c H1 locs1 (cells + mc) (slots + ms) Q (F0 m (pc + 3) ls (v.toList ++ rest))) : W p l e R s m args below meth c H locs cells slots Q (F0 m pc ls st) := by
  subst hwc
  have w1 := w.blk ix hnx hC hlx
  rw [List.flatten_append] at w1
  refine call_wV hx hb hml hown hts w1 hk hM (List.range bc.flatten.length) ((List.range br.flatten.length).map (fun i => bc.flatten.length + i)) (nd_l _) idx_l idx_r (nd_r _ _) (dis_r _ _) hv hl hst hrm hR hf hdg (fun v w' H1 locs1 hr w2 => kk v w' H1 locs1 hr ?_)
  rw [List.flatten_append]
  simpa using w2
end BCA
theorem Wd.two {g : GG} {A : Nat → Prop} {br : List va_W} {u v : va_W} {s : State} {H : Heap} {locs : List Loc} (w : Wd g A (br ++ [u ++ v]).flatten s H locs) : Wd g A (br ++ [u, v]).flatten s H locs := by
  rw [List.flatten_append] at w ⊢
  simpa using w
