/-! the first rows of a Store -/
def T_0 : Nat → Int → Int := fun i => match i with
  | 1 => stf 0
  | 6 => fun _ => -1
  | 9 => fun _ => -1
  | 11 => stf 1
  | 18 => fun _ => -1
  | _ => fun _ => 0
def fil (k : Int) : Int → Int := fun j => if 0 ≤ j ∧ j < k then -1 else 0
theorem fil_0 : fil 0 = fun _ => 0 := by
  funext j
  exact if_neg (by omega)
theorem fil_s {k : Int} (hk : 0 ≤ k) : up (fil k) k (-1) = fil (k + 1) := by
  funext j
  by_cases hj : j = k
  · rw [up_eq hj]; unfold fil; rw [if_pos (by omega)]
  · rw [up_ne hj]; unfold fil
    by_cases h2 : 0 ≤ j ∧ j < k
    · rw [if_pos h2, if_pos (by omega)]
    · rw [if_neg h2, if_neg (by omega)]
theorem rel_0 : Rel f_0 T_0 := by
  refine ⟨fun b q0 q1 => ?_, fun k q0 q1 => ?_, fun p q0 q1 => ?_, fun i q0 q1 => ?_, fun i q0 q1 => ?_, fun i q0 q1 => ?_, ?_⟩
  · have h : b = 0 ∨ b = 1 ∨ b = 2 ∨ b = 3 ∨ b = 4 ∨ b = 5 := by omega
    rcases h with rfl | rfl | rfl | rfl | rfl | rfl <;> decide +kernel
  · have h : ∀ n : Nat, n < 48 → T_0 6 (n : Int) = f_0 (3 * (n : Int) + 65) ∧ T_0 7 (n : Int) = f_0 (3 * (n : Int) + 66) ∧ T_0 8 (n : Int) = f_0 (3 * (n : Int) + 67) := by decide +kernel
    have := h k.toNat (by omega)
    rwa [Int.toNat_of_nonneg q0] at this
  · have h : ∀ n : Nat, n < 24 → T_0 9 (n : Int) = r_at f_0 (n : Int) ∧ T_0 10 (n : Int) = f_0 ((n : Int) + 209) := by decide +kernel
    have := h p.toNat (by omega)
    rwa [Int.toNat_of_nonneg q0] at this
  · have h : i = 0 ∨ i = 1 ∨ i = 2 ∨ i = 3 ∨ i = 4 := by omega
    rcases h with rfl | rfl | rfl | rfl | rfl <;> decide +kernel
  · have h : i = 0 ∨ i = 1 ∨ i = 2 ∨ i = 3 := by omega
    rcases h with rfl | rfl | rfl | rfl <;> decide +kernel
  · have h : i = 0 ∨ i = 1 ∨ i = 2 ∨ i = 3 ∨ i = 4 ∨ i = 5 ∨ i = 6 ∨ i = 7 := by omega
    rcases h with rfl | rfl | rfl | rfl | rfl | rfl | rfl | rfl <;> decide +kernel
  · decide +kernel
