/-! rows of addresses; the history and the orders -/
def qf (l : List (Option Nat)) : Nat → Option Nat := fun j => l.getD j none
theorem qf_0 : (fun _ => none : Nat → Option Nat) = qf [none, none, none, none] := by
  funext j
  match j with
  | 0 => rfl
  | 1 => rfl
  | 2 => rfl
  | 3 => rfl
  | n + 4 => rfl
theorem qf_up {l l' : List (Option Nat)} {k v : Nat} (hk : k < l.length) (h : l.set k (some v) = l') : va_up (qf l) k (some v) = qf l' := by
  subst h
  funext j
  show (if j = k then some v else l.getD j none) = (l.set k (some v)).getD j none
  rw [List.getD_eq_getElem?_getD, List.getD_eq_getElem?_getD, List.getElem?_set]
  by_cases hj : j = k
  · subst hj; rw [if_pos rfl, if_pos rfl, if_pos hk]; rfl
  · rw [if_neg hj, if_neg (fun q => hj q.symm)]
section QRO
variable {p : Program} {l : Launch} {e : Env} {R : Room} {s : State} {m : MethodId} {args : Array Value} {below : List Frame} {meth : Method} {c : Code} {H : Heap} {locs : List Loc} {cells slots : Nat} {Q : State → Prop}
variable {cc : ByteArray} {pc : Nat} {ls : Array Slot} {rest : List Value} {a : Nat} {ws : va_W} {g : GG} {A : Nat → Prop}
theorem ri_aldq (hx : p.tables.exec = Jvm.exec) (hb : c.code = cc) (w : Wd g A ws s H locs) (q0 : Nat) {n : Nat} {f : Nat → Option Nat} (ha : ws[q0]? = some (a, eO g n f)) {j : Int} {v : Nat} (hj : 0 ≤ j ∧ j < n) (hv : f j.toNat = some v) (hdg : decode cc pc = .ok (.aaload, 1)) (hn : n ≤ 2147483647)
    (kk : W p l e R s m args below meth c H locs cells slots Q (F0 m (pc + 1) ls (.ref v :: rest))) : W p l e R s m args below meth c H locs cells slots Q (F0 m pc ls (.int (iI j) :: .ref a :: rest)) := by
  refine va_aldq hx hb w.1 w.2.1 q0 3 ha rfl (ar_in hj hn) hdg ?_
  rw [iI_clamp (by omega), hv]
  exact kk
theorem ri_astq (hx : p.tables.exec = Jvm.exec) (hb : c.code = cc) (w : Wd g A ws s H locs) (q0 qk : Nat) {n v : Nat} {f f' : Nat → Option Nat} {vs : List Value} (ha : ws[q0]? = some (a, eO g n f)) (hvv : ws[qk]? = some (v, .inr (4, vs))) {j : Int} (hj : 0 ≤ j ∧ j < n) (hf : va_up f j.toNat (some v) = f') (hdg : decode cc pc = .ok (.aastore, 1)) (hn : n ≤ 2147483647)
    (kk : ∀ (H1 : Heap) (locs1 : List Loc), Wd g A (ws.set q0 (a, eO g n f')) s H1 locs1 → W p l e R s m args below meth c H1 locs1 cells slots Q (F0 m (pc + 1) ls rest)) : W p l e R s m args below meth c H locs cells slots Q (F0 m pc ls (.ref v :: .int (iI j) :: .ref a :: rest)) := by
  refine va_astq hx hb w.1 w.2.1 w.2.2.1 w.2.2.2.1 q0 3 qk 4 ha rfl hvv rfl (ar_in hj hn) hdg (fun H1 locs1 hP hD hS => ?_)
  rw [iI_clamp (by omega), hf] at hP hD
  exact kk H1 locs1 (w.put hP hD hS)
end QRO
def hi_ws (g : GG) (x : Nat → Nat) (h : Nat → Nat → Nat) (K : Nat → Nat → Int → Int) (z : Int) : va_W := (x 0, .inr (2, [.ref (x 1), .int (iI z)])) :: (x 1, eO g 4 (qf [some (h 0 0), some (h 1 0), some (h 2 0), some (h 3 0)])) :: (st_ws g (h 0) (K 0) ++ st_ws g (h 1) (K 1) ++ st_ws g (h 2) (K 2) ++ st_ws g (h 3) (K 3))
/-- the orders: rows 1 text, 2 letters, 3 arguments, 4 times; numbers 5 length, 6 number, 7 at -/
def or_ws (g : GG) (o : Nat → Nat) (P : Nat → Int → Int) : va_W := [(o 0, .inr (3, [.ref (o 1), .int (iI (P 5 0)), .ref (o 2), .ref (o 3), .ref (o 4), .int (iI (P 6 0)), .int (iI (P 7 0))])), (o 1, eC g 60 (P 1)), (o 2, eC g 32 (P 2)), (o 3, eI g 32 (P 3)), (o 4, eI g 32 (P 4))]
def hsel {α : Type} (a b c d : α) : Nat → α
  | 0 => a
  | 1 => b
  | 2 => c
  | _ => d
def rot {α : Type} (h : Nat → α) : Nat → α
  | 0 => h 3
  | n + 1 => h n
def reK {α : Type} (h : Nat → α) (u : α) : Nat → α
  | 0 => u
  | n + 1 => h n
def tor {α : Type} (h : Nat → α) : Nat → α
  | 0 => h 1
  | 1 => h 2
  | 2 => h 3
  | _ => h 0
