section LOOK
variable {p : Program} {l : Launch} {e : Env} {R : Room} {s : State} {m : MethodId} {args : Array Value} {below : List Frame} {meth : Method} {c : Code} {H : Heap} {locs : List Loc} {cells slots : Nat} {Q : State → Prop}
variable {cc : ByteArray} {pc : Nat} {ls : Array Slot} {rest : List Value}
theorem look_out {ps : List (Int × Int)} {d a : Int} (h : ∀ q ∈ ps, a ≠ q.1) : Op.lookupswitch.offset ps d a = d := by
  induction ps with
  | nil => rfl
  | cons q r ih =>
    obtain ⟨k, o⟩ := q
    rw [Op.lookupswitch.offset_cons, if_neg (by have h1 := h (k, o) (List.mem_cons_self ..); first | exact h1 | exact fun z => h1 z.symm)]
    exact ih (fun q hq => h q (List.mem_cons_of_mem _ hq))
theorem ri_lookIn (hx : p.tables.exec = Jvm.exec) (hb : c.code = cc) {dflt : Int} {ps : Array (Int × Int)} {len : Nat} {a v off : Int} {tgt : Nat} (hdg : decode cc pc = .ok (.lookupswitch dflt ps, len)) (hv : a = v) (hr : -2147483648 ≤ v ∧ v ≤ 2147483647) (hp : (ps.toList.zip (ps.toList.drop 1)).all (fun (a, next) => a.1 < next.1) = true) (ho : Op.lookupswitch.offset ps.toList dflt v = off) (ht : (pc : Int) + off = (tgt : Int))
    (kk : W p l e R s m args below meth c H locs cells slots Q (F0 m tgt ls rest)) : W p l e R s m args below meth c H locs cells slots Q (F0 m pc ls (.int (iI a) :: rest)) := by
  subst hv
  exact lv_lookup hx hb hdg hp (by rw [iI_toInt hr]; exact ho) ht kk
theorem ri_lookOut (hx : p.tables.exec = Jvm.exec) (hb : c.code = cc) {dflt : Int} {ps : Array (Int × Int)} {len : Nat} {a : Int} {tgt : Nat} (hdg : decode cc pc = .ok (.lookupswitch dflt ps, len)) (hr : -2147483648 ≤ a ∧ a ≤ 2147483647) (hp : (ps.toList.zip (ps.toList.drop 1)).all (fun (a, next) => a.1 < next.1) = true) (h : ∀ q ∈ ps.toList, a ≠ q.1) (ht : (pc : Int) + dflt = (tgt : Int))
    (kk : W p l e R s m args below meth c H locs cells slots Q (F0 m tgt ls rest)) : W p l e R s m args below meth c H locs cells slots Q (F0 m pc ls (.int (iI a) :: rest)) :=
  lv_lookup hx hb hdg hp (by rw [iI_toInt hr]; exact look_out h) ht kk
end LOOK
theorem place_hold {F : Int → Int} {p : Int} (h : r_placeOf F p ≠ -5) : F (3 * r_placeOf F p + 65) = p := by
  rcases fi_rg (n := 48) (i := 0) (d := -5) (p := p_hold F p) with h1 | ⟨-, -, h3⟩
  · exact absurd h1 h
  · simp only [p_hold, decide_eq_true_eq] at h3; exact h3
theorem cnt_sum {N : Int} {F : Int → Int} {b : Int} (h : WF N F) (hb : 0 ≤ b ∧ b < 6) : r_cnt F b 0 + r_cnt F b (-1) + r_cnt F b (-2) = 8 := by
  have key : ∀ (n : Nat) (i x y z : Int), 0 ≤ i → i + n ≤ 48 → fo n i x (s_cnt F 0) + fo n i y (s_cnt F (-1)) + fo n i z (s_cnt F (-2)) = x + y + z + n := by
    intro n
    induction n with
    | zero => intro i x y z _ _; show x + y + z = x + y + z + ((0 : Nat) : Int); omega
    | succ n ih =>
      intro i x y z h0 h1
      have hp := h.pl (k := i) (by omega) (by omega)
      show fo n (i + 1) _ _ + fo n (i + 1) _ _ + fo n (i + 1) _ _ = _
      rw [ih _ _ _ _ (by omega) (by omega)]
      unfold s_cnt
      omega
  have := key 8 (8 * b) 0 0 0 (by omega) (by omega)
  unfold r_cnt
  omega
