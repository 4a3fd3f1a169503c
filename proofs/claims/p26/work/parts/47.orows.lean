theorem or_rows {t : Int → Int} {tn a xk : Int} {Y Z : Nat → Int → Int} (hro : ∀ j : Nat, (j : Int) < xk → Y 2 j = t (t_at t tn j) ∧ Y 3 j = o_arg t tn (t_at t tn j) ∧ Y 4 j = o_rep t tn (t_at t tn j) ∧ O_ok t tn (t_at t tn j)) (z2 : Z 2 = up (Y 2) xk (t a)) (z3 : Z 3 = up (Y 3) xk (o_arg t tn a)) (z4 : Z 4 = up (Y 4) xk (o_rep t tn a)) (hat : t_at t tn xk.toNat = a) (ho : O_ok t tn a) (hk : 0 ≤ xk) :
  ∀ j : Nat, (j : Int) < xk + 1 → Z 2 j = t (t_at t tn j) ∧ Z 3 j = o_arg t tn (t_at t tn j) ∧ Z 4 j = o_rep t tn (t_at t tn j) ∧ O_ok t tn (t_at t tn j) := by
  intro j hj
  rw [z2, z3, z4]
  by_cases h : (j : Int) = xk
  · have h2 : xk.toNat = j := by omega
    rw [up_eq h, up_eq h, up_eq h, ← h2, hat]
    exact ⟨rfl, rfl, rfl, ho⟩
  · rw [up_ne h, up_ne h, up_ne h]
    exact hro j (by omega)
