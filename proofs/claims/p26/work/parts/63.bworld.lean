/-! the statics -/
theorem st_one {args : Array Value} {s : State} {n : String} {vs : List Int} (hv : vs.length < 1000) (hini : (Cond.initialized "WeakenedPages").before args s = true) (hl : (Cond.laysStatic "WeakenedPages" n "[I").before args s = true) (harr : (Cond.arrayOf (.static "WeakenedPages" n "[I") .int).before args s = true) (hlen : (Term.length (.static "WeakenedPages" n "[I")).eval args s none [] s = some (.int (Int32.ofNat vs.length))) (hel : ∀ j : Nat, j < vs.length → (Term.elem (.static "WeakenedPages" n "[I") (.int (Int32.ofNat j))).eval args s none [] s = some (.int (iI (vs.getD j 0)))) : ∃ t : Nat, va_Z "WeakenedPages" n "[I" (.ref t) (LA s) s s.heap ∧ va_T .int t vs.length (fun k => .int (iI (vs.getD k 0))) (LA s) s s.heap := by
  have hA : ∀ a : Nat, a < s.heap.size → ¬ LA s a := fun a h q => absurd (show s.heap.size ≤ a from q) (Nat.not_le.mpr h)
  obtain ⟨t, ht, hT⟩ := va_Tof (N := vs.length) (f := fun k => .int (iI (vs.getD k 0))) (Nat.lt_trans hv (by decide)) harr hlen hel hA
  exact ⟨t, va_Zof hl hini ht hA, hT⟩
theorem arr_one {args : Array Value} {s : State} {ty : FieldType} (hty : ∀ C, ty ≠ .object C) (h : (Cond.arrayClass ty).before args s = true) : ∃ cA : ClassId, ArrOfT s cA ty ∧ va_RA s cA ty := by
  obtain ⟨cA, kA, comp, h1, h2, h3⟩ := Cond.arrayClass_spec h
  refine ⟨cA, fun n z => ⟨(fun k h => by cases h), kA, h2, comp, h3⟩, ?_⟩
  cases ty with
  | object C => exact absurd rfl (hty C)
  | _ => exact h1
theorem arr_obj {args : Array Value} {s : State} {C : String} (h : (Cond.arrayOver (.object C)).before args s = true) : ∃ cA : ClassId, ArrOfT s cA (.object C) ∧ va_RA s cA (.object C) := by
  obtain ⟨comp, cA, kA, h1, -, h3, h4, h5⟩ := Cond.arrayOver_spec h
  exact ⟨cA, fun n z => ⟨(fun k h => by cases h), kA, h3, comp, h4⟩, kA, comp, h3, h4, h1, h5⟩
theorem nnl_tbl : ∀ w ∈ NNl, w ∈ lw_tbl := by
  unfold NNl
  exact List.forall_mem_cons.mpr ⟨k_mn_RX4_48, List.forall_mem_cons.mpr ⟨k_mn_RX4_55, List.forall_mem_cons.mpr ⟨k_mn_RX5_38, List.forall_mem_cons.mpr ⟨k_mn_RX4_179, List.forall_mem_cons.mpr ⟨k_mn_RX4_142, List.forall_mem_cons.mpr ⟨k_mn_RX4_105, List.forall_mem_cons.mpr ⟨k_fn_RX4_76, List.forall_mem_cons.mpr ⟨k_fn_RX4_85, List.forall_mem_cons.mpr ⟨k_fn_RX4_182, List.forall_mem_cons.mpr ⟨k_fn_RX4_185, List.forall_mem_cons.mpr ⟨k_fn_RX4_95, List.forall_mem_cons.mpr ⟨k_fn_RX4_98, fun _ h => absurd h List.not_mem_nil⟩⟩⟩⟩⟩⟩⟩⟩⟩⟩⟩⟩
theorem nnl_on : ∀ w ∈ NNl, w.onTables = true := by decide +kernel
theorem st_row0 {args : Array Value} {s : State} (hts : ∀ w ∈ lw_tbl, w.before args s = true) (hgv : (Jvm.Cond.and given_1 narrow_1).before args s = true) : ∃ t : Nat, va_Z "WeakenedPages" (stn 0) "[I" (.ref t) (LA s) s s.heap ∧ va_T .int t (stv 0).length (fun k => .int (iI ((stv 0).getD k 0))) (LA s) s s.heap := by
  have hs := flat_of_before _ hgv
  refine st_one (n := "FIRST_KINDS") (vs := stv 0) (by decide) (hts _ k_ini_RX5) (hts _ k_ls_FIRST_KINDS) (hs _ (by decide +kernel)) ?_ (fun j hj => ?_)
  · exact va_eqt (t := .length (.static "WeakenedPages" "FIRST_KINDS" "[I")) (z := 6) (hs _ (by decide +kernel))
  · match j, hj with
    | 0, _ => exact va_eqt (t := .elem (.static "WeakenedPages" "FIRST_KINDS" "[I") (.int 0)) (z := 0) (hs _ (by decide +kernel))
    | 1, _ => exact va_eqt (t := .elem (.static "WeakenedPages" "FIRST_KINDS" "[I") (.int 1)) (z := 0) (hs _ (by decide +kernel))
    | 2, _ => exact va_eqt (t := .elem (.static "WeakenedPages" "FIRST_KINDS" "[I") (.int 2)) (z := 1) (hs _ (by decide +kernel))
    | 3, _ => exact va_eqt (t := .elem (.static "WeakenedPages" "FIRST_KINDS" "[I") (.int 3)) (z := 1) (hs _ (by decide +kernel))
    | 4, _ => exact va_eqt (t := .elem (.static "WeakenedPages" "FIRST_KINDS" "[I") (.int 4)) (z := 1) (hs _ (by decide +kernel))
    | 5, _ => exact va_eqt (t := .elem (.static "WeakenedPages" "FIRST_KINDS" "[I") (.int 5)) (z := 2) (hs _ (by decide +kernel))
    | n + 6, h => exact absurd h (by show ¬ (n + 6 < 6); omega)
theorem st_row1 {args : Array Value} {s : State} (hts : ∀ w ∈ lw_tbl, w.before args s = true) (hgv : (Jvm.Cond.and given_1 narrow_1).before args s = true) : ∃ t : Nat, va_Z "WeakenedPages" (stn 1) "[I" (.ref t) (LA s) s s.heap ∧ va_T .int t (stv 1).length (fun k => .int (iI ((stv 1).getD k 0))) (LA s) s s.heap := by
  have hs := flat_of_before _ hgv
  refine st_one (n := "FIRST_SETTINGS") (vs := stv 1) (by decide) (hts _ k_ini_RX5) (hts _ k_ls_FIRST_SETTINGS) (hs _ (by decide +kernel)) ?_ (fun j hj => ?_)
  · exact va_eqt (t := .length (.static "WeakenedPages" "FIRST_SETTINGS" "[I")) (z := 5) (hs _ (by decide +kernel))
  · match j, hj with
    | 0, _ => exact va_eqt (t := .elem (.static "WeakenedPages" "FIRST_SETTINGS" "[I") (.int 0)) (z := 75) (hs _ (by decide +kernel))
    | 1, _ => exact va_eqt (t := .elem (.static "WeakenedPages" "FIRST_SETTINGS" "[I") (.int 1)) (z := 200) (hs _ (by decide +kernel))
    | 2, _ => exact va_eqt (t := .elem (.static "WeakenedPages" "FIRST_SETTINGS" "[I") (.int 2)) (z := 1) (hs _ (by decide +kernel))
    | 3, _ => exact va_eqt (t := .elem (.static "WeakenedPages" "FIRST_SETTINGS" "[I") (.int 3)) (z := 2) (hs _ (by decide +kernel))
    | 4, _ => exact va_eqt (t := .elem (.static "WeakenedPages" "FIRST_SETTINGS" "[I") (.int 4)) (z := 1) (hs _ (by decide +kernel))
    | n + 5, h => exact absurd h (by show ¬ (n + 5 < 5); omega)
theorem st_row2 {args : Array Value} {s : State} (hts : ∀ w ∈ lw_tbl, w.before args s = true) (hgv : (Jvm.Cond.and given_1 narrow_1).before args s = true) : ∃ t : Nat, va_Z "WeakenedPages" (stn 2) "[I" (.ref t) (LA s) s s.heap ∧ va_T .int t (stv 2).length (fun k => .int (iI ((stv 2).getD k 0))) (LA s) s s.heap := by
  have hs := flat_of_before _ hgv
  refine st_one (n := "LEAST_SETTINGS") (vs := stv 2) (by decide) (hts _ k_ini_RX5) (hts _ k_ls_LEAST_SETTINGS) (hs _ (by decide +kernel)) ?_ (fun j hj => ?_)
  · exact va_eqt (t := .length (.static "WeakenedPages" "LEAST_SETTINGS" "[I")) (z := 5) (hs _ (by decide +kernel))
  · match j, hj with
    | 0, _ => exact va_eqt (t := .elem (.static "WeakenedPages" "LEAST_SETTINGS" "[I") (.int 0)) (z := 10) (hs _ (by decide +kernel))
    | 1, _ => exact va_eqt (t := .elem (.static "WeakenedPages" "LEAST_SETTINGS" "[I") (.int 1)) (z := 1) (hs _ (by decide +kernel))
    | 2, _ => exact va_eqt (t := .elem (.static "WeakenedPages" "LEAST_SETTINGS" "[I") (.int 2)) (z := 0) (hs _ (by decide +kernel))
    | 3, _ => exact va_eqt (t := .elem (.static "WeakenedPages" "LEAST_SETTINGS" "[I") (.int 3)) (z := 0) (hs _ (by decide +kernel))
    | 4, _ => exact va_eqt (t := .elem (.static "WeakenedPages" "LEAST_SETTINGS" "[I") (.int 4)) (z := 0) (hs _ (by decide +kernel))
    | n + 5, h => exact absurd h (by show ¬ (n + 5 < 5); omega)
theorem st_row3 {args : Array Value} {s : State} (hts : ∀ w ∈ lw_tbl, w.before args s = true) (hgv : (Jvm.Cond.and given_1 narrow_1).before args s = true) : ∃ t : Nat, va_Z "WeakenedPages" (stn 3) "[I" (.ref t) (LA s) s s.heap ∧ va_T .int t (stv 3).length (fun k => .int (iI ((stv 3).getD k 0))) (LA s) s s.heap := by
  have hs := flat_of_before _ hgv
  refine st_one (n := "GREATEST_SETTINGS") (vs := stv 3) (by decide) (hts _ k_ini_RX5) (hts _ k_ls_GREATEST_SETTINGS) (hs _ (by decide +kernel)) ?_ (fun j hj => ?_)
  · exact va_eqt (t := .length (.static "WeakenedPages" "GREATEST_SETTINGS" "[I")) (z := 5) (hs _ (by decide +kernel))
  · match j, hj with
    | 0, _ => exact va_eqt (t := .elem (.static "WeakenedPages" "GREATEST_SETTINGS" "[I") (.int 0)) (z := 100) (hs _ (by decide +kernel))
    | 1, _ => exact va_eqt (t := .elem (.static "WeakenedPages" "GREATEST_SETTINGS" "[I") (.int 1)) (z := 999) (hs _ (by decide +kernel))
    | 2, _ => exact va_eqt (t := .elem (.static "WeakenedPages" "GREATEST_SETTINGS" "[I") (.int 2)) (z := 8) (hs _ (by decide +kernel))
    | 3, _ => exact va_eqt (t := .elem (.static "WeakenedPages" "GREATEST_SETTINGS" "[I") (.int 3)) (z := 4) (hs _ (by decide +kernel))
    | 4, _ => exact va_eqt (t := .elem (.static "WeakenedPages" "GREATEST_SETTINGS" "[I") (.int 4)) (z := 1) (hs _ (by decide +kernel))
    | n + 5, h => exact absurd h (by show ¬ (n + 5 < 5); omega)
theorem st_row4 {args : Array Value} {s : State} (hts : ∀ w ∈ lw_tbl, w.before args s = true) (hgv : (Jvm.Cond.and given_1 narrow_1).before args s = true) : ∃ t : Nat, va_Z "WeakenedPages" (stn 4) "[I" (.ref t) (LA s) s s.heap ∧ va_T .int t (stv 4).length (fun k => .int (iI ((stv 4).getD k 0))) (LA s) s s.heap := by
  have hs := flat_of_before _ hgv
  refine st_one (n := "BEARS_AT_FIRST") (vs := stv 4) (by decide) (hts _ k_ini_RX5) (hts _ k_ls_BEARS_AT_FIRST) (hs _ (by decide +kernel)) ?_ (fun j hj => ?_)
  · exact va_eqt (t := .length (.static "WeakenedPages" "BEARS_AT_FIRST" "[I")) (z := 3) (hs _ (by decide +kernel))
  · match j, hj with
    | 0, _ => exact va_eqt (t := .elem (.static "WeakenedPages" "BEARS_AT_FIRST" "[I") (.int 0)) (z := 400) (hs _ (by decide +kernel))
    | 1, _ => exact va_eqt (t := .elem (.static "WeakenedPages" "BEARS_AT_FIRST" "[I") (.int 1)) (z := 200) (hs _ (by decide +kernel))
    | 2, _ => exact va_eqt (t := .elem (.static "WeakenedPages" "BEARS_AT_FIRST" "[I") (.int 2)) (z := 100) (hs _ (by decide +kernel))
    | n + 3, h => exact absurd h (by show ¬ (n + 3 < 3); omega)
theorem st_row5 {args : Array Value} {s : State} (hts : ∀ w ∈ lw_tbl, w.before args s = true) (hgv : (Jvm.Cond.and given_1 narrow_1).before args s = true) : ∃ t : Nat, va_Z "WeakenedPages" (stn 5) "[I" (.ref t) (LA s) s s.heap ∧ va_T .int t (stv 5).length (fun k => .int (iI ((stv 5).getD k 0))) (LA s) s s.heap := by
  have hs := flat_of_before _ hgv
  refine st_one (n := "LOSS_BY_ERASURE") (vs := stv 5) (by decide) (hts _ k_ini_RX5) (hts _ k_ls_LOSS_BY_ERASURE) (hs _ (by decide +kernel)) ?_ (fun j hj => ?_)
  · exact va_eqt (t := .length (.static "WeakenedPages" "LOSS_BY_ERASURE" "[I")) (z := 3) (hs _ (by decide +kernel))
  · match j, hj with
    | 0, _ => exact va_eqt (t := .elem (.static "WeakenedPages" "LOSS_BY_ERASURE" "[I") (.int 0)) (z := 4) (hs _ (by decide +kernel))
    | 1, _ => exact va_eqt (t := .elem (.static "WeakenedPages" "LOSS_BY_ERASURE" "[I") (.int 1)) (z := 5) (hs _ (by decide +kernel))
    | 2, _ => exact va_eqt (t := .elem (.static "WeakenedPages" "LOSS_BY_ERASURE" "[I") (.int 2)) (z := 10) (hs _ (by decide +kernel))
    | n + 3, h => exact absurd h (by show ¬ (n + 3 < 3); omega)
theorem law_world {args : Array Value} {s : State} (hts : ∀ w ∈ lw_tbl, w.before args s = true) (hgv : (Jvm.Cond.and given_1 narrow_1).before args s = true) : ∃ g : GG, Wd g (LA s) [] s s.heap [] := by
  have hts0 : ∀ w ∈ W0, w.before args s = true := fun w h => hts w (List.mem_filter.mp h).1
  obtain ⟨t0, z0, u0⟩ := st_row0 hts hgv
  obtain ⟨t1, z1, u1⟩ := st_row1 hts hgv
  obtain ⟨t2, z2, u2⟩ := st_row2 hts hgv
  obtain ⟨t3, z3, u3⟩ := st_row3 hts hgv
  obtain ⟨t4, z4, u4⟩ := st_row4 hts hgv
  obtain ⟨t5, z5, u5⟩ := st_row5 hts hgv
  obtain ⟨c0, i0, k0⟩ := u_known (C := RX0) (T := TX0) (N := 2) (n := 2) hts0 fX0.2.1 (hts _ k_new_RX0)
  obtain ⟨c1, i1, k1⟩ := u_known (C := RX1) (T := TX1) (N := 4) (n := 4) hts0 fX1.2.1 (hts _ k_new_RX1)
  obtain ⟨c2, i2, k2⟩ := u_known (C := RX2) (T := TX2) (N := 2) (n := 2) hts0 fX2.2.1 (hts _ k_new_RX2)
  obtain ⟨c3, i3, k3⟩ := u_known (C := RX3) (T := TX3) (N := 7) (n := 7) hts0 fX3.2.1 (hts _ k_new_RX3)
  obtain ⟨c4, i4, k4⟩ := u_known (C := RX4) (T := TX4) (N := 18) (n := 18) hts0 fX4.2.1 (hts _ k_new_RX4)
  obtain ⟨c5, i5, k5⟩ := u_known (C := RX5) (T := TX5) (N := 11) (n := 11) hts0 fX5.2.1 (hts _ k_new_RX5)
  obtain ⟨a0, b0⟩ := arr_one (ty := .int) (fun C h => by cases h) (hts _ k_arr_int)
  obtain ⟨a1, b1⟩ := arr_one (ty := .boolean) (fun C h => by cases h) (hts _ k_arr_boolean)
  obtain ⟨a2, b2⟩ := arr_one (ty := .char) (fun C h => by cases h) (hts _ k_arr_char)
  obtain ⟨a3, b3⟩ := arr_obj (hts _ k_ao)
  refine ⟨((fun k => match k with | 0 => c0 | 1 => c1 | 2 => c2 | 3 => c3 | 4 => c4 | _ => c5, fun k => match k with | 0 => i0 | 1 => i1 | 2 => i2 | 3 => i3 | 4 => i4 | _ => i5), (a0, a1, a2, a3), fun k => match k with | 0 => t0 | 1 => t1 | 2 => t2 | 3 => t3 | 4 => t4 | _ => t5), ⟨fun k q hq => ?_, fun k q hq => ?_⟩, fun k q h => by simp at h, ⟨fun i j p q h => by simp at h, fun k q h => by simp at h⟩, va_S.rf, fun q h => h, ⟨fun w hw => va_Nw.of (nnl_on w hw) (hts w (nnl_tbl w hw)), va_AO.of (hts _ k_ao)⟩, fun i hi => ?_⟩
  · match k, hq with
    | 0, hq => cases hq; exact k0
    | 1, hq => cases hq; exact k1
    | 2, hq => cases hq; exact k2
    | 3, hq => cases hq; exact k3
    | 4, hq => cases hq; exact k4
    | 5, hq => cases hq; exact k5
    | n + 6, hq => simp at hq
  · match k, hq with
    | 0, hq => cases hq; exact b0
    | 1, hq => cases hq; exact b1
    | 2, hq => cases hq; exact b2
    | 3, hq => cases hq; exact b3
    | n + 4, hq => simp at hq
  · match i, hi with
    | 0, _ => exact ⟨z0, u0⟩
    | 1, _ => exact ⟨z1, u1⟩
    | 2, _ => exact ⟨z2, u2⟩
    | 3, _ => exact ⟨z3, u3⟩
    | 4, _ => exact ⟨z4, u4⟩
    | 5, _ => exact ⟨z5, u5⟩
    | n + 6, h => exact absurd h (by omega)
