section ROW
variable {p : Program} {l : Launch} {e : Env} {R : Room} {s : State} {m : MethodId} {args : Array Value} {below : List Frame} {meth : Method} {c : Code} {H : Heap} {locs : List Loc} {cells slots : Nat} {Q : State → Prop}
variable {cc : ByteArray} {pc : Nat} {ls : Array Slot} {rest : List Value} {a : Nat} {ws : va_W} {g : GG} {A : Nat → Prop}
theorem ri_iconst (hx : p.tables.exec = Jvm.exec) (hb : c.code = cc) {n : Int} (hdg : decode cc pc = .ok (.iconst n, 1)) (kk : W p l e R s m args below meth c H locs cells slots Q (F0 m (pc + 1) ls (.int (iI n) :: rest))) : W p l e R s m args below meth c H locs cells slots Q (F0 m pc ls rest) := lv_iconst hx hb hdg rfl kk
theorem ri_bipush (hx : p.tables.exec = Jvm.exec) (hb : c.code = cc) {n : Int} (hdg : decode cc pc = .ok (.bipush n, 2)) (hv : (Int8.ofInt n).toInt32 = iI n) (kk : W p l e R s m args below meth c H locs cells slots Q (F0 m (pc + 2) ls (.int (iI n) :: rest))) : W p l e R s m args below meth c H locs cells slots Q (F0 m pc ls rest) := lv_bipush hx hb hdg hv kk
theorem ri_sipush (hx : p.tables.exec = Jvm.exec) (hb : c.code = cc) {n : Int} (hdg : decode cc pc = .ok (.sipush n, 3)) (hv : (Int16.ofInt n).toInt32 = iI n) (kk : W p l e R s m args below meth c H locs cells slots Q (F0 m (pc + 3) ls (.int (iI n) :: rest))) : W p l e R s m args below meth c H locs cells slots Q (F0 m pc ls rest) := lv_sipush hx hb hdg hv kk
theorem ri_ldc (hx : p.tables.exec = Jvm.exec) (hb : c.code = cc) {own : String} {index : Nat} {v : Int32} {n : Int} (hown : s.vm.findClass own = some m.cls) (hts : ∀ w ∈ W0, w.before args s = true) (hc : Jvm.Cond.constant own index v ∈ W0) (hdg : decode cc pc = .ok (.ldc index, 2)) (hn : v = iI n) (kk : W p l e R s m args below meth c H locs cells slots Q (F0 m (pc + 2) ls (.int (iI n) :: rest))) : W p l e R s m args below meth c H locs cells slots Q (F0 m pc ls rest) := lv_ldc hx hb hown (hts _ hc) hdg (hn ▸ kk)
theorem ri_iadd (hx : p.tables.exec = Jvm.exec) (hb : c.code = cc) {a b z : Int} (hdg : decode cc pc = .ok (.iadd, 1)) (h : a + b = z) (kk : W p l e R s m args below meth c H locs cells slots Q (F0 m (pc + 1) ls (.int (iI z) :: rest))) : W p l e R s m args below meth c H locs cells slots Q (F0 m pc ls (.int (iI b) :: .int (iI a) :: rest)) := by
  subst h
  exact lv_iadd hx hb hdg (by rw [iI_add]; exact kk)
theorem ri_isub (hx : p.tables.exec = Jvm.exec) (hb : c.code = cc) {a b z : Int} (hdg : decode cc pc = .ok (.isub, 1)) (h : a - b = z) (kk : W p l e R s m args below meth c H locs cells slots Q (F0 m (pc + 1) ls (.int (iI z) :: rest))) : W p l e R s m args below meth c H locs cells slots Q (F0 m pc ls (.int (iI b) :: .int (iI a) :: rest)) := by
  subst h
  exact lv_isub hx hb hdg (by rw [iI_sub]; exact kk)
theorem ri_imul (hx : p.tables.exec = Jvm.exec) (hb : c.code = cc) {a b z : Int} (hdg : decode cc pc = .ok (.imul, 1)) (h : a * b = z) (kk : W p l e R s m args below meth c H locs cells slots Q (F0 m (pc + 1) ls (.int (iI z) :: rest))) : W p l e R s m args below meth c H locs cells slots Q (F0 m pc ls (.int (iI b) :: .int (iI a) :: rest)) := by
  subst h
  exact lv_imul hx hb hdg (by rw [iI_mul]; exact kk)
theorem iI_ne0 {b : Int} (hb : 0 < b ∧ b ≤ 2147483647) : ¬ iI b = 0 := by
  rw [iI_zero, iI_eq (by omega) (by omega)]
  omega
theorem ri_idiv (hx : p.tables.exec = Jvm.exec) (hb : c.code = cc) {a b z : Int} (hdg : decode cc pc = .ok (.idiv, 1)) (ha : 0 ≤ a ∧ a ≤ 2147483647) (hb0 : 0 < b ∧ b ≤ 2147483647) (h : a / b = z) (kk : W p l e R s m args below meth c H locs cells slots Q (F0 m (pc + 1) ls (.int (iI z) :: rest))) : W p l e R s m args below meth c H locs cells slots Q (F0 m pc ls (.int (iI b) :: .int (iI a) :: rest)) := by
  subst h
  exact lv_idiv hx hb hdg (iI_ne0 hb0) (by rw [iI_div ha hb0]; exact kk)
theorem ri_irem (hx : p.tables.exec = Jvm.exec) (hb : c.code = cc) {a b z : Int} (hdg : decode cc pc = .ok (.irem, 1)) (ha : 0 ≤ a ∧ a ≤ 2147483647) (hb0 : 0 < b ∧ b ≤ 2147483647) (h : a % b = z) (kk : W p l e R s m args below meth c H locs cells slots Q (F0 m (pc + 1) ls (.int (iI z) :: rest))) : W p l e R s m args below meth c H locs cells slots Q (F0 m pc ls (.int (iI b) :: .int (iI a) :: rest)) := by
  subst h
  exact lv_irem hx hb hdg (iI_ne0 hb0) (by rw [iI_rem ha hb0]; exact kk)
theorem ri_iinc (hx : p.tables.exec = Jvm.exec) (hb : c.code = cc) {i nL k : Nat} {n a z : Int} {lv lv' : List (Nat × Value)} (hdg : decode cc pc = .ok (.iinc i n, 3)) (h : lv_has ls nL lv) (hk : lv[k]? = some (i, .int (iI a))) (hz : a + n = z) (hn : i < nL) (hl : (i, Value.int (iI z)) :: lv.filter (fun q => !(q.1 == i) && !(q.1 + 1 == i && q.2.category == 2)) = lv')
    (kk : ∀ ls' : Array Slot, lv_has ls' nL lv' → W p l e R s m args below meth c H locs cells slots Q (F0 m (pc + 3) ls' rest)) : W p l e R s m args below meth c H locs cells slots Q (F0 m pc ls rest) := by
  subst hz
  exact lv_iinc hx hb hdg h hk (iI_add a n) hn hl kk
theorem ri_i2c (hx : p.tables.exec = Jvm.exec) (hb : c.code = cc) {a z : Int} (hdg : decode cc pc = .ok (.i2c, 1)) (h : ((iI a).toUInt32 % 65536).toInt32 = iI z) (kk : W p l e R s m args below meth c H locs cells slots Q (F0 m (pc + 1) ls (.int (iI z) :: rest))) : W p l e R s m args below meth c H locs cells slots Q (F0 m pc ls (.int (iI a) :: rest)) := lv_i2c hx hb hdg h kk
/-! branches -/
theorem ri_icmp_eq (hx : p.tables.exec = Jvm.exec) (hc : c.code = cc) {a b : Int} {off : Int} {tgt : Nat} (hdg : decode cc pc = .ok (.if_icmp .eq off, 3)) (ht : (pc : Int) + off = (tgt : Int)) (ha : -2147483648 ≤ a ∧ a ≤ 2147483647) (hb : -2147483648 ≤ b ∧ b ≤ 2147483647)
    (kt : a = b → W p l e R s m args below meth c H locs cells slots Q (F0 m tgt ls rest)) (kf : a ≠ b → W p l e R s m args below meth c H locs cells slots Q (F0 m (pc + 3) ls rest)) : W p l e R s m args below meth c H locs cells slots Q (F0 m pc ls (.int (iI b) :: .int (iI a) :: rest)) := lv_icmp_eq hx hc hdg ht (fun h => kt ((iI_eq ha hb).mp h)) (fun h => kf (fun q => h ((iI_eq ha hb).mpr q)))
theorem ri_if_eq (hx : p.tables.exec = Jvm.exec) (hc : c.code = cc) {a : Int} {off : Int} {tgt : Nat} (hdg : decode cc pc = .ok (.ifCond .eq off, 3)) (ht : (pc : Int) + off = (tgt : Int)) (ha : -2147483648 ≤ a ∧ a ≤ 2147483647)
    (kt : a = 0 → W p l e R s m args below meth c H locs cells slots Q (F0 m tgt ls rest)) (kf : a ≠ 0 → W p l e R s m args below meth c H locs cells slots Q (F0 m (pc + 3) ls rest)) : W p l e R s m args below meth c H locs cells slots Q (F0 m pc ls (.int (iI a) :: rest)) := by
  have rg0 : -2147483648 ≤ (0 : Int) ∧ (0 : Int) ≤ 2147483647 := by omega
  exact lv_if_eq hx hc hdg ht (fun h => kt ((iI_eq ha rg0).mp h)) (fun h => kf (fun q => h ((iI_eq ha rg0).mpr q)))
theorem ri_icmp_ne (hx : p.tables.exec = Jvm.exec) (hc : c.code = cc) {a b : Int} {off : Int} {tgt : Nat} (hdg : decode cc pc = .ok (.if_icmp .ne off, 3)) (ht : (pc : Int) + off = (tgt : Int)) (ha : -2147483648 ≤ a ∧ a ≤ 2147483647) (hb : -2147483648 ≤ b ∧ b ≤ 2147483647)
    (kt : a ≠ b → W p l e R s m args below meth c H locs cells slots Q (F0 m tgt ls rest)) (kf : a = b → W p l e R s m args below meth c H locs cells slots Q (F0 m (pc + 3) ls rest)) : W p l e R s m args below meth c H locs cells slots Q (F0 m pc ls (.int (iI b) :: .int (iI a) :: rest)) := lv_icmp_ne hx hc hdg ht (fun h => kt (fun q => h ((iI_eq ha hb).mpr q))) (fun h => kf ((iI_eq ha hb).mp h))
theorem ri_if_ne (hx : p.tables.exec = Jvm.exec) (hc : c.code = cc) {a : Int} {off : Int} {tgt : Nat} (hdg : decode cc pc = .ok (.ifCond .ne off, 3)) (ht : (pc : Int) + off = (tgt : Int)) (ha : -2147483648 ≤ a ∧ a ≤ 2147483647)
    (kt : a ≠ 0 → W p l e R s m args below meth c H locs cells slots Q (F0 m tgt ls rest)) (kf : a = 0 → W p l e R s m args below meth c H locs cells slots Q (F0 m (pc + 3) ls rest)) : W p l e R s m args below meth c H locs cells slots Q (F0 m pc ls (.int (iI a) :: rest)) := by
  have rg0 : -2147483648 ≤ (0 : Int) ∧ (0 : Int) ≤ 2147483647 := by omega
  exact lv_if_ne hx hc hdg ht (fun h => kt (fun q => h ((iI_eq ha rg0).mpr q))) (fun h => kf ((iI_eq ha rg0).mp h))
theorem ri_icmp_lt (hx : p.tables.exec = Jvm.exec) (hc : c.code = cc) {a b : Int} {off : Int} {tgt : Nat} (hdg : decode cc pc = .ok (.if_icmp .lt off, 3)) (ht : (pc : Int) + off = (tgt : Int)) (ha : -2147483648 ≤ a ∧ a ≤ 2147483647) (hb : -2147483648 ≤ b ∧ b ≤ 2147483647)
    (kt : a < b → W p l e R s m args below meth c H locs cells slots Q (F0 m tgt ls rest)) (kf : b ≤ a → W p l e R s m args below meth c H locs cells slots Q (F0 m (pc + 3) ls rest)) : W p l e R s m args below meth c H locs cells slots Q (F0 m pc ls (.int (iI b) :: .int (iI a) :: rest)) := lv_icmp_lt hx hc hdg ht (fun h => kt ((iI_lt ha hb).mp h)) (fun h => kf (Int.not_lt.mp (fun q => h ((iI_lt ha hb).mpr q))))
theorem ri_if_lt (hx : p.tables.exec = Jvm.exec) (hc : c.code = cc) {a : Int} {off : Int} {tgt : Nat} (hdg : decode cc pc = .ok (.ifCond .lt off, 3)) (ht : (pc : Int) + off = (tgt : Int)) (ha : -2147483648 ≤ a ∧ a ≤ 2147483647)
    (kt : a < 0 → W p l e R s m args below meth c H locs cells slots Q (F0 m tgt ls rest)) (kf : 0 ≤ a → W p l e R s m args below meth c H locs cells slots Q (F0 m (pc + 3) ls rest)) : W p l e R s m args below meth c H locs cells slots Q (F0 m pc ls (.int (iI a) :: rest)) := by
  have rg0 : -2147483648 ≤ (0 : Int) ∧ (0 : Int) ≤ 2147483647 := by omega
  exact lv_if_lt hx hc hdg ht (fun h => kt ((iI_lt ha rg0).mp h)) (fun h => kf (Int.not_lt.mp (fun q => h ((iI_lt ha rg0).mpr q))))
theorem ri_icmp_le (hx : p.tables.exec = Jvm.exec) (hc : c.code = cc) {a b : Int} {off : Int} {tgt : Nat} (hdg : decode cc pc = .ok (.if_icmp .le off, 3)) (ht : (pc : Int) + off = (tgt : Int)) (ha : -2147483648 ≤ a ∧ a ≤ 2147483647) (hb : -2147483648 ≤ b ∧ b ≤ 2147483647)
    (kt : a ≤ b → W p l e R s m args below meth c H locs cells slots Q (F0 m tgt ls rest)) (kf : b < a → W p l e R s m args below meth c H locs cells slots Q (F0 m (pc + 3) ls rest)) : W p l e R s m args below meth c H locs cells slots Q (F0 m pc ls (.int (iI b) :: .int (iI a) :: rest)) := lv_icmp_le hx hc hdg ht (fun h => kt ((iI_le ha hb).mp h)) (fun h => kf (Int.not_le.mp (fun q => h ((iI_le ha hb).mpr q))))
theorem ri_if_le (hx : p.tables.exec = Jvm.exec) (hc : c.code = cc) {a : Int} {off : Int} {tgt : Nat} (hdg : decode cc pc = .ok (.ifCond .le off, 3)) (ht : (pc : Int) + off = (tgt : Int)) (ha : -2147483648 ≤ a ∧ a ≤ 2147483647)
    (kt : a ≤ 0 → W p l e R s m args below meth c H locs cells slots Q (F0 m tgt ls rest)) (kf : 0 < a → W p l e R s m args below meth c H locs cells slots Q (F0 m (pc + 3) ls rest)) : W p l e R s m args below meth c H locs cells slots Q (F0 m pc ls (.int (iI a) :: rest)) := by
  have rg0 : -2147483648 ≤ (0 : Int) ∧ (0 : Int) ≤ 2147483647 := by omega
  exact lv_if_le hx hc hdg ht (fun h => kt ((iI_le ha rg0).mp h)) (fun h => kf (Int.not_le.mp (fun q => h ((iI_le ha rg0).mpr q))))
theorem ri_icmp_gt (hx : p.tables.exec = Jvm.exec) (hc : c.code = cc) {a b : Int} {off : Int} {tgt : Nat} (hdg : decode cc pc = .ok (.if_icmp .gt off, 3)) (ht : (pc : Int) + off = (tgt : Int)) (ha : -2147483648 ≤ a ∧ a ≤ 2147483647) (hb : -2147483648 ≤ b ∧ b ≤ 2147483647)
    (kt : b < a → W p l e R s m args below meth c H locs cells slots Q (F0 m tgt ls rest)) (kf : a ≤ b → W p l e R s m args below meth c H locs cells slots Q (F0 m (pc + 3) ls rest)) : W p l e R s m args below meth c H locs cells slots Q (F0 m pc ls (.int (iI b) :: .int (iI a) :: rest)) := lv_icmp_gt hx hc hdg ht (fun h => kt ((iI_lt hb ha).mp h)) (fun h => kf (Int.not_lt.mp (fun q => h ((iI_lt hb ha).mpr q))))
theorem ri_if_gt (hx : p.tables.exec = Jvm.exec) (hc : c.code = cc) {a : Int} {off : Int} {tgt : Nat} (hdg : decode cc pc = .ok (.ifCond .gt off, 3)) (ht : (pc : Int) + off = (tgt : Int)) (ha : -2147483648 ≤ a ∧ a ≤ 2147483647)
    (kt : 0 < a → W p l e R s m args below meth c H locs cells slots Q (F0 m tgt ls rest)) (kf : a ≤ 0 → W p l e R s m args below meth c H locs cells slots Q (F0 m (pc + 3) ls rest)) : W p l e R s m args below meth c H locs cells slots Q (F0 m pc ls (.int (iI a) :: rest)) := by
  have rg0 : -2147483648 ≤ (0 : Int) ∧ (0 : Int) ≤ 2147483647 := by omega
  exact lv_if_gt hx hc hdg ht (fun h => kt ((iI_lt rg0 ha).mp h)) (fun h => kf (Int.not_lt.mp (fun q => h ((iI_lt rg0 ha).mpr q))))
theorem ri_icmp_ge (hx : p.tables.exec = Jvm.exec) (hc : c.code = cc) {a b : Int} {off : Int} {tgt : Nat} (hdg : decode cc pc = .ok (.if_icmp .ge off, 3)) (ht : (pc : Int) + off = (tgt : Int)) (ha : -2147483648 ≤ a ∧ a ≤ 2147483647) (hb : -2147483648 ≤ b ∧ b ≤ 2147483647)
    (kt : b ≤ a → W p l e R s m args below meth c H locs cells slots Q (F0 m tgt ls rest)) (kf : a < b → W p l e R s m args below meth c H locs cells slots Q (F0 m (pc + 3) ls rest)) : W p l e R s m args below meth c H locs cells slots Q (F0 m pc ls (.int (iI b) :: .int (iI a) :: rest)) := lv_icmp_ge hx hc hdg ht (fun h => kt ((iI_le hb ha).mp h)) (fun h => kf (Int.not_le.mp (fun q => h ((iI_le hb ha).mpr q))))
theorem ri_if_ge (hx : p.tables.exec = Jvm.exec) (hc : c.code = cc) {a : Int} {off : Int} {tgt : Nat} (hdg : decode cc pc = .ok (.ifCond .ge off, 3)) (ht : (pc : Int) + off = (tgt : Int)) (ha : -2147483648 ≤ a ∧ a ≤ 2147483647)
    (kt : 0 ≤ a → W p l e R s m args below meth c H locs cells slots Q (F0 m tgt ls rest)) (kf : a < 0 → W p l e R s m args below meth c H locs cells slots Q (F0 m (pc + 3) ls rest)) : W p l e R s m args below meth c H locs cells slots Q (F0 m pc ls (.int (iI a) :: rest)) := by
  have rg0 : -2147483648 ≤ (0 : Int) ∧ (0 : Int) ≤ 2147483647 := by omega
  exact lv_if_ge hx hc hdg ht (fun h => kt ((iI_le rg0 ha).mp h)) (fun h => kf (Int.not_le.mp (fun q => h ((iI_le rg0 ha).mpr q))))
theorem ri_ifb_eq (hx : p.tables.exec = Jvm.exec) (hc : c.code = cc) {P : Prop} [Decidable P] {off : Int} {tgt : Nat} (hdg : decode cc pc = .ok (.ifCond .eq off, 3)) (ht : (pc : Int) + off = (tgt : Int))
    (kt : ¬ P → W p l e R s m args below meth c H locs cells slots Q (F0 m tgt ls rest)) (kf : P → W p l e R s m args below meth c H locs cells slots Q (F0 m (pc + 3) ls rest)) : W p l e R s m args below meth c H locs cells slots Q (F0 m pc ls (.int (iI (if P then 1 else 0)) :: rest)) := by
  by_cases h : P
  · rw [if_pos h]
    exact ri_if_eq hx hc hdg ht (by omega) (fun q => absurd q (by omega)) (fun _ => kf h)
  · rw [if_neg h]
    exact ri_if_eq hx hc hdg ht (by omega) (fun _ => kt h) (fun q => absurd rfl q)
theorem ri_ifb_ne (hx : p.tables.exec = Jvm.exec) (hc : c.code = cc) {P : Prop} [Decidable P] {off : Int} {tgt : Nat} (hdg : decode cc pc = .ok (.ifCond .ne off, 3)) (ht : (pc : Int) + off = (tgt : Int))
    (kt : P → W p l e R s m args below meth c H locs cells slots Q (F0 m tgt ls rest)) (kf : ¬ P → W p l e R s m args below meth c H locs cells slots Q (F0 m (pc + 3) ls rest)) : W p l e R s m args below meth c H locs cells slots Q (F0 m pc ls (.int (iI (if P then 1 else 0)) :: rest)) := by
  by_cases h : P
  · rw [if_pos h]
    exact ri_if_ne hx hc hdg ht (by omega) (fun _ => kt h) (fun q => absurd q (by omega))
  · rw [if_neg h]
    exact ri_if_ne hx hc hdg ht (by omega) (fun q => absurd rfl q) (fun _ => kf h)
/-! arrays -/
theorem ri_iald (hx : p.tables.exec = Jvm.exec) (hb : c.code = cc) (w : Wd g A ws s H locs) (q0 : Nat) {n : Nat} {f : Int → Int} (ha : ws[q0]? = some (a, eI g n f)) {j v : Int} (hj : 0 ≤ j ∧ j < n) (hv : f j = v) (hdg : decode cc pc = .ok (.iaload, 1)) (hn : n ≤ 2147483647)
    (kk : W p l e R s m args below meth c H locs cells slots Q (F0 m (pc + 1) ls (.int (iI v) :: rest))) : W p l e R s m args below meth c H locs cells slots Q (F0 m pc ls (.int (iI j) :: .ref a :: rest)) := by
  refine va_iald hx hb w.1 w.2.1 q0 0 ha rfl (ar_in hj hn) hdg ?_
  rw [ar_at (by omega) hv]
  exact kk
theorem Wd.put {H1 : Heap} {locs1 : List Loc} {ws1 : va_W} (w : Wd g A ws s H locs) (hP : va_P g.1 vwCl ws1 H1) (hD : va_D A ws1) (hS : va_S A s.heap H1 locs1) : Wd g A ws1 s H1 locs1 := ⟨w.1, hP, hD, hS, w.2.2.2.2⟩
theorem ri_iast (hx : p.tables.exec = Jvm.exec) (hb : c.code = cc) (w : Wd g A ws s H locs) (q0 : Nat) {n : Nat} {f : Int → Int} (ha : ws[q0]? = some (a, eI g n f)) {j v : Int} (hj : 0 ≤ j ∧ j < n) (hdg : decode cc pc = .ok (.iastore, 1)) (hn : n ≤ 2147483647)
    (kk : ∀ (H1 : Heap) (locs1 : List Loc), Wd g A (ws.set q0 (a, eI g n (up f j v))) s H1 locs1 → W p l e R s m args below meth c H1 locs1 cells slots Q (F0 m (pc + 1) ls rest)) : W p l e R s m args below meth c H locs cells slots Q (F0 m pc ls (.int (iI v) :: .int (iI j) :: .ref a :: rest)) := by
  refine va_iast hx hb w.1 w.2.1 w.2.2.1 w.2.2.2.1 q0 0 ha rfl (ar_in hj hn) hdg (fun H1 locs1 hP hD hS => ?_)
  rw [ar_up (by omega)] at hP hD
  exact kk H1 locs1 (w.put hP hD hS)
theorem ri_zald (hx : p.tables.exec = Jvm.exec) (hb : c.code = cc) (w : Wd g A ws s H locs) (q0 : Nat) {n : Nat} {f : Int → Int} (ha : ws[q0]? = some (a, eZ g n f)) {j v : Int} (hj : 0 ≤ j ∧ j < n) (hv : f j = v) (hdg : decode cc pc = .ok (.baload, 1)) (hn : n ≤ 2147483647)
    (kk : W p l e R s m args below meth c H locs cells slots Q (F0 m (pc + 1) ls (.int (iI v) :: rest))) : W p l e R s m args below meth c H locs cells slots Q (F0 m pc ls (.int (iI j) :: .ref a :: rest)) := by
  refine va_zald hx hb w.1 w.2.1 q0 1 ha rfl (ar_in hj hn) hdg ?_
  rw [ar_at (by omega) hv]
  exact kk
theorem nar_bool {v : Int} (hv : v = 0 ∨ v = 1) : vp_nar .boolean (iI v) = iI v := by rcases hv with rfl | rfl <;> decide
theorem ri_zast (hx : p.tables.exec = Jvm.exec) (hb : c.code = cc) (w : Wd g A ws s H locs) (q0 : Nat) {n : Nat} {f : Int → Int} (ha : ws[q0]? = some (a, eZ g n f)) {j v : Int} (hj : 0 ≤ j ∧ j < n) (hv : v = 0 ∨ v = 1) (hdg : decode cc pc = .ok (.bastore, 1)) (hn : n ≤ 2147483647)
    (kk : ∀ (H1 : Heap) (locs1 : List Loc), Wd g A (ws.set q0 (a, eZ g n (up f j v))) s H1 locs1 → W p l e R s m args below meth c H1 locs1 cells slots Q (F0 m (pc + 1) ls rest)) : W p l e R s m args below meth c H locs cells slots Q (F0 m pc ls (.int (iI v) :: .int (iI j) :: .ref a :: rest)) := by
  refine va_zast hx hb w.1 w.2.1 w.2.2.1 w.2.2.2.1 q0 1 ha rfl (ar_in hj hn) hdg (fun H1 locs1 hP hD hS => ?_)
  rw [nar_bool hv, ar_up (by omega)] at hP hD
  exact kk H1 locs1 (w.put hP hD hS)
theorem ri_cald (hx : p.tables.exec = Jvm.exec) (hb : c.code = cc) (w : Wd g A ws s H locs) (q0 : Nat) {n : Nat} {f : Int → Int} (ha : ws[q0]? = some (a, eC g n f)) {j v : Int} (hj : 0 ≤ j ∧ j < n) (hv : f j = v) (hdg : decode cc pc = .ok (.caload, 1)) (hn : n ≤ 2147483647)
    (kk : W p l e R s m args below meth c H locs cells slots Q (F0 m (pc + 1) ls (.int (iI v) :: rest))) : W p l e R s m args below meth c H locs cells slots Q (F0 m pc ls (.int (iI j) :: .ref a :: rest)) := by
  refine va_cald hx hb w.1 w.2.1 q0 2 ha rfl (ar_in hj hn) hdg ?_
  rw [ar_at (by omega) hv]
  exact kk
theorem nar_char {v : Int} (hv : 0 ≤ v ∧ v ≤ 65535) : vp_nar .char (iI v) = iI v := by
  obtain ⟨n, rfl⟩ := Int.eq_ofNat_of_zero_le hv.1
  rw [iI_nat]
  have h := (pk_charN (q := n) (by omega)).1
  unfold vp_nar
  rw [h]
theorem ri_cast (hx : p.tables.exec = Jvm.exec) (hb : c.code = cc) (w : Wd g A ws s H locs) (q0 : Nat) {n : Nat} {f : Int → Int} (ha : ws[q0]? = some (a, eC g n f)) {j v : Int} (hj : 0 ≤ j ∧ j < n) (hv : 0 ≤ v ∧ v ≤ 65535) (hdg : decode cc pc = .ok (.castore, 1)) (hn : n ≤ 2147483647)
    (kk : ∀ (H1 : Heap) (locs1 : List Loc), Wd g A (ws.set q0 (a, eC g n (up f j v))) s H1 locs1 → W p l e R s m args below meth c H1 locs1 cells slots Q (F0 m (pc + 1) ls rest)) : W p l e R s m args below meth c H locs cells slots Q (F0 m pc ls (.int (iI v) :: .int (iI j) :: .ref a :: rest)) := by
  refine va_cast hx hb w.1 w.2.1 w.2.2.1 w.2.2.2.1 q0 2 ha rfl (ar_in hj hn) hdg (fun H1 locs1 hP hD hS => ?_)
  rw [nar_char hv, ar_up (by omega)] at hP hD
  exact kk H1 locs1 (w.put hP hD hS)
/-! fields -/
def FldOk (C : String) (T : u_T) (N : Nat) (ty : Nat → FieldType) (ci : Nat) : Prop := vwCl[ci]? = some (C, T, N) ∧ (∀ w ∈ u_ws C T N, w ∈ W0) ∧ (∀ k, k < N → parseFieldDescriptor (T k).2.2.1 = some (ty k)) ∧ ∀ a, a < N → ∀ b, b < N → a ≠ b → (T a).2.1 ≠ (T b).2.1
theorem ri_get (hx : p.tables.exec = Jvm.exec) (hb : c.code = cc) {own C : String} {T : u_T} {N ci index : Nat} {ty : Nat → FieldType} (hts : ∀ w ∈ W0, w.before args s = true) (hown : s.vm.findClass own = some m.cls) (w : Wd g A ws s H locs) (hf : FldOk C T N ty ci) (q0 k : Nat) (hlink : Cond.fieldLink own index (T k).1 (T k).2.1 (T k).2.2.1 ∈ W0) {fs : List Value} {v : Value} (he : ws[q0]? = some (a, .inr (ci, fs))) (hv : fs[k]? = some v) (hk : k < N) (hdg : decode cc pc = .ok (.getfield index, 3))
    (kk : W p l e R s m args below meth c H locs cells slots Q (F0 m (pc + 3) ls (v :: rest))) : W p l e R s m args below meth c H locs cells slots Q (F0 m pc ls (.ref a :: rest)) :=
  va_get hx hb hts hf.2.1 hown w.1 w.2.1 q0 he hf.1 k hk (hts _ hlink) (fun _ h => h) hv hdg kk
theorem ri_put (hx : p.tables.exec = Jvm.exec) (hb : c.code = cc) {own C : String} {T : u_T} {N ci index : Nat} {ty : Nat → FieldType} (hts : ∀ w ∈ W0, w.before args s = true) (hown : s.vm.findClass own = some m.cls) (w : Wd g A ws s H locs) (hf : FldOk C T N ty ci) (q0 k : Nat) (hlink : Cond.fieldLink own index (T k).1 (T k).2.1 (T k).2.2.1 ∈ W0) {fs : List Value} {v : Value} (he : ws[q0]? = some (a, .inr (ci, fs))) (hl : k < fs.length) (hk : k < N) (hfin : (T k).2.2.2 = false) (hn : narrow (ty k) v = v) (hfit : fits (ty k) v = true) (hdg : decode cc pc = .ok (.putfield index, 3))
    (kk : ∀ (H1 : Heap) (locs1 : List Loc), Wd g A (ws.set q0 (a, .inr (ci, fs.set k v))) s H1 locs1 → W p l e R s m args below meth c H1 locs1 cells slots Q (F0 m (pc + 3) ls rest)) : W p l e R s m args below meth c H locs cells slots Q (F0 m pc ls (v :: .ref a :: rest)) :=
  va_put hx hb hts hf.2.1 ty hf.2.2.1 hf.2.2.2 hown w.1 w.2.1 w.2.2.1 w.2.2.2.1 q0 he hf.1 k hk (hts _ hlink) (fun _ h => h) hfin (hf.2.2.1 k hk) hn hfit hl hdg (fun H1 locs1 hP hD hS => kk H1 locs1 (w.put hP hD hS))
theorem ri_putF (hx : p.tables.exec = Jvm.exec) (hb : c.code = cc) {own C : String} {T : u_T} {N ci index : Nat} {ty : Nat → FieldType} (hts : ∀ w ∈ W0, w.before args s = true) (hown : s.vm.findClass own = some m.cls) (w : Wd g A ws s H locs) (hf : FldOk C T N ty ci) (q0 k : Nat) (hlink : Cond.fieldLink own index (T k).1 (T k).2.1 (T k).2.2.1 ∈ W0) {fs : List Value} {v : Value} (he : ws[q0]? = some (a, .inr (ci, fs))) (hl : k < fs.length) (hk : k < N) (hfin : (T k).2.2.2 = true) (hin : meth.name = "<init>") (hdecl : (T k).1 = own) (hn : narrow (ty k) v = v) (hfit : fits (ty k) v = true) (hdg : decode cc pc = .ok (.putfield index, 3))
    (kk : ∀ (H1 : Heap) (locs1 : List Loc), Wd g A (ws.set q0 (a, .inr (ci, fs.set k v))) s H1 locs1 → W p l e R s m args below meth c H1 locs1 cells slots Q (F0 m (pc + 3) ls rest)) : W p l e R s m args below meth c H locs cells slots Q (F0 m pc ls (v :: .ref a :: rest)) :=
  va_putF hx hb hts hf.2.1 ty hf.2.2.1 hf.2.2.2 hown w.1 w.2.1 w.2.2.1 w.2.2.2.1 q0 he hf.1 k hk (hts _ hlink) (fun _ h => h) hfin hin hdecl (hf.2.2.1 k hk) hn hfit hl hdg (fun H1 locs1 hP hD hS => kk H1 locs1 (w.put hP hD hS))
theorem fit_int (z : Int32) : narrow .int (.int z) = .int z ∧ fits .int (.int z) = true := ⟨rfl, rfl⟩
/-! tables -/
theorem ri_gets (hx : p.tables.exec = Jvm.exec) (hb : c.code = cc) {own : String} {index : Nat} (hown : s.vm.findClass own = some m.cls) (w : Wd g A ws s H locs) (i : Nat) (hi : i < 6) (hlink : Cond.fieldLinkNest own index "WeakenedPages" (stn i) "[I" "WeakenedPages" ∈ NNl) (hdg : decode cc pc = .ok (.getstatic index, 3))
    (kk : W p l e R s m args below meth c H locs cells slots Q (F0 m (pc + 3) ls (.ref (g.2.2 i) :: rest))) : W p l e R s m args below meth c H locs cells slots Q (F0 m pc ls rest) :=
  va_getsN hx hb (w.2.2.2.2.2.2 i hi).1 w.2.2.2.1 hown (va_Nw.use rfl (w.2.2.2.2.2.1.1 _ hlink)) (fun _ h => h) hdg kk
theorem ri_tld (hx : p.tables.exec = Jvm.exec) (hb : c.code = cc) (w : Wd g A ws s H locs) (i : Nat) (hi : i < 6) {n : Nat} (hn : (stv i).length = n) {j v : Int} (hj : 0 ≤ j ∧ j < n) (hn2 : n ≤ 2147483647) (hv : stf i j = v) (hdg : decode cc pc = .ok (.iaload, 1))
    (kk : W p l e R s m args below meth c H locs cells slots Q (F0 m (pc + 1) ls (.int (iI v) :: rest))) : W p l e R s m args below meth c H locs cells slots Q (F0 m pc ls (.int (iI j) :: .ref (g.2.2 i) :: rest)) := by
  subst hn
  refine va_ti hx hb (w.2.2.2.2.2.2 i hi).2 w.2.2.2.1 (ar_in hj hn2) (v := .int (iI v)) ?_ hdg kk
  rw [iI_clamp (by omega)]
  show Value.int (iI (stf i ((j.toNat : Nat) : Int))) = _
  rw [Int.toNat_of_nonneg hj.1, hv]
/-! Math -/
theorem ri_max {own : String} {index : Nat} (hx : p.tables.exec = Jvm.exec) (hb : c.code = cc) (hml : c.maxLocals = ls.size) (hown : s.vm.findClass own = some m.cls) (hts : ∀ w ∈ W0, w.before args s = true) (hM : Cond.methodLink own index Lib.Math.max.name ∈ W0 ∧ Cond.static Lib.Math.max.name ∈ W0 ∧ Cond.initialized "java/lang/Math" ∈ W0 ∧ Cond.code Lib.Math.max.name Lib.Math.max.code 2 (some .int) ∈ W0) (hf : 1 ≤ R.frames ∧ (rest.map fun v => v.category).sum + 13 ≤ R.locals ∧ cells ≤ R.cells ∧ slots ≤ R.slots) {a b z : Int} (ha : -2147483648 ≤ a ∧ a ≤ 2147483647) (hb2 : -2147483648 ≤ b ∧ b ≤ 2147483647) (hz : (if a < b then b else a) = z) (hdg : decode cc pc = .ok (.invokestatic index, 3))
    (kk : W p l e R s m args below meth c H locs cells slots Q (F0 m (pc + 3) ls (.int (iI z) :: rest))) : W p l e R s m args below meth c H locs cells slots Q (F0 m pc ls (.int (iI b) :: .int (iI a) :: rest)) := by
  refine va_mmax hx hb hml hown (hts _ hM.1) (hts _ hM.2.1) (hts _ hM.2.2.1) (hts _ hM.2.2.2) hf.1 hf.2.1 hf.2.2.1 hf.2.2.2 hdg ?_
  subst hz
  by_cases h : a < b
  · rw [if_pos ((iI_lt ha hb2).mpr h)]
    rw [if_pos h] at kk
    exact kk
  · rw [if_neg (fun q => h ((iI_lt ha hb2).mp q))]
    rw [if_neg h] at kk
    exact kk
theorem ri_min {own : String} {index : Nat} (hx : p.tables.exec = Jvm.exec) (hb : c.code = cc) (hml : c.maxLocals = ls.size) (hown : s.vm.findClass own = some m.cls) (hts : ∀ w ∈ W0, w.before args s = true) (hM : Cond.methodLink own index Lib.Math.min.name ∈ W0 ∧ Cond.static Lib.Math.min.name ∈ W0 ∧ Cond.initialized "java/lang/Math" ∈ W0 ∧ Cond.code Lib.Math.min.name Lib.Math.min.code 2 (some .int) ∈ W0) (hf : 1 ≤ R.frames ∧ (rest.map fun v => v.category).sum + 13 ≤ R.locals ∧ cells ≤ R.cells ∧ slots ≤ R.slots) {a b z : Int} (ha : -2147483648 ≤ a ∧ a ≤ 2147483647) (hb2 : -2147483648 ≤ b ∧ b ≤ 2147483647) (hz : (if b < a then b else a) = z) (hdg : decode cc pc = .ok (.invokestatic index, 3))
    (kk : W p l e R s m args below meth c H locs cells slots Q (F0 m (pc + 3) ls (.int (iI z) :: rest))) : W p l e R s m args below meth c H locs cells slots Q (F0 m pc ls (.int (iI b) :: .int (iI a) :: rest)) := by
  refine va_mmin hx hb hml hown (hts _ hM.1) (hts _ hM.2.1) (hts _ hM.2.2.1) (hts _ hM.2.2.2) hf.1 hf.2.1 hf.2.2.1 hf.2.2.2 hdg ?_
  subst hz
  by_cases h : b < a
  · rw [if_pos ((iI_lt hb2 ha).mpr h)]
    rw [if_pos h] at kk
    exact kk
  · rw [if_neg (fun q => h ((iI_lt hb2 ha).mp q))]
    rw [if_neg h] at kk
    exact kk
theorem ri_abs {own : String} {index : Nat} (hx : p.tables.exec = Jvm.exec) (hb : c.code = cc) (hml : c.maxLocals = ls.size) (hown : s.vm.findClass own = some m.cls) (hts : ∀ w ∈ W0, w.before args s = true) (hM : Cond.methodLink own index Lib.Math.abs.name ∈ W0 ∧ Cond.static Lib.Math.abs.name ∈ W0 ∧ Cond.initialized "java/lang/Math" ∈ W0 ∧ Cond.code Lib.Math.abs.name Lib.Math.abs.code 1 (some .int) ∈ W0) (hf : 1 ≤ R.frames ∧ (rest.map fun v => v.category).sum + 13 ≤ R.locals ∧ cells ≤ R.cells ∧ slots ≤ R.slots) {a z : Int} (ha : -2147483648 ≤ a ∧ a ≤ 2147483647) (hz : (if 0 ≤ a then a else 0 - a) = z) (hdg : decode cc pc = .ok (.invokestatic index, 3))
    (kk : W p l e R s m args below meth c H locs cells slots Q (F0 m (pc + 3) ls (.int (iI z) :: rest))) : W p l e R s m args below meth c H locs cells slots Q (F0 m pc ls (.int (iI a) :: rest)) := by
  refine va_mabs hx hb hml hown (hts _ hM.1) (hts _ hM.2.1) (hts _ hM.2.2.1) (hts _ hM.2.2.2) hf.1 hf.2.1 hf.2.2.1 hf.2.2.2 hdg ?_
  subst hz
  rw [iI_zero]
  by_cases h : 0 ≤ a
  · rw [if_pos ((iI_le (by omega) ha).mpr h)]
    rw [if_pos h] at kk
    exact kk
  · rw [if_neg (fun q => h ((iI_le (by omega) ha).mp q)), iI_sub]
    rw [if_neg h] at kk
    exact kk
theorem nz {v : Int} (h : v = 0 ∨ v = 1) : narrow .boolean (.int (iI v)) = .int (iI v) := by rcases h with rfl | rfl <;> decide
theorem ri_tabIn (hx : p.tables.exec = Jvm.exec) (hb : c.code = cc) {dflt lo hi : Int} {offs : Array Int} {len : Nat} {a v off : Int} {tgt : Nat} (hdg : decode cc pc = .ok (.tableswitch dflt lo hi offs, len)) (hv : a = v) (hr : -2147483648 ≤ v ∧ v ≤ 2147483647) (h1 : ¬ v < lo) (h2 : ¬ hi < v) (ho : offs[(v - lo).toNat]? = some off) (ht : (pc : Int) + off = (tgt : Int))
    (kk : W p l e R s m args below meth c H locs cells slots Q (F0 m tgt ls rest)) : W p l e R s m args below meth c H locs cells slots Q (F0 m pc ls (.int (iI a) :: rest)) := by
  subst hv
  have e := iI_toInt hr
  exact lv_tableIn hx hb hdg (by rw [e]; exact h1) (by rw [e]; exact h2) (by rw [e]; exact ho) ht kk
theorem ri_tabOut (hx : p.tables.exec = Jvm.exec) (hb : c.code = cc) {dflt lo hi : Int} {offs : Array Int} {len : Nat} {a : Int} {tgt : Nat} (hdg : decode cc pc = .ok (.tableswitch dflt lo hi offs, len)) (hr : -2147483648 ≤ a ∧ a ≤ 2147483647) (h : a < lo ∨ hi < a) (ht : (pc : Int) + dflt = (tgt : Int))
    (kk : W p l e R s m args below meth c H locs cells slots Q (F0 m tgt ls rest)) : W p l e R s m args below meth c H locs cells slots Q (F0 m pc ls (.int (iI a) :: rest)) :=
  lv_tableOut hx hb hdg (by rw [iI_toInt hr]; exact h) ht kk
end ROW
