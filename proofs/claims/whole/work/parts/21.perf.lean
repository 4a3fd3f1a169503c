theorem WB.mono {N M : Int} {B : Nat → Int → Int} (h : WB N B) (h1 : N ≤ M) (h2 : M ≤ 200000000) : WB M B := by
  obtain ⟨a1, a2, a3, a4, a5, a6, a7, a8, a9⟩ := h
  exact ⟨a1.mono h1 h2, a2, fun q => (a3 q).mono h1 h2, fun q => (a4 q).mono h1 h2, fun q => (a5 q).mono h1 h2, fun q => (a6 q).mono h1 h2, a7, fun q => (a8 q).mono h1 h2, a9⟩
theorem e_all_s {t : Int → Int} {n : Int} {f i : Nat} {F : Int → Int} : e_all t n (f + 1) i F = if (e_reps (t (t_at t n i)) (o_arg t n (t_at t n i)) (o_rep t n (t_at t n i)).toNat 0 F).1 < 0 then ((e_reps (t (t_at t n i)) (o_arg t n (t_at t n i)) (o_rep t n (t_at t n i)).toNat 0 F).1, (i : Int), (e_reps (t (t_at t n i)) (o_arg t n (t_at t n i)) (o_rep t n (t_at t n i)).toNat 0 F).2.1, F)
      else e_all t n f (i + 1) (e_reps (t (t_at t n i)) (o_arg t n (t_at t n i)) (o_rep t n (t_at t n i)).toNat 0 F).2.2 := rfl
theorem grow_le {c xd rp : Int} (h0 : 0 ≤ xd) (h1 : xd < rp) (h9 : rp ≤ 99) (hc : c ≠ 114 → rp = 1) : 0 ≤ e_grow c * xd ∧ e_grow c * xd + e_grow c ≤ 10000 ∧ 100 ≤ e_grow c := by
  unfold e_grow
  split
  · have : xd = 0 := by omega
    subst this
    omega
  · omega
theorem grow_1 (c xd : Int) : e_grow c * (xd + 1) = e_grow c * xd + e_grow c := by rw [Int.mul_add, Int.mul_one]
theorem grow_0 (c : Int) : e_grow c * 0 = 0 := Int.mul_zero _
theorem grow_99 {c rp : Int} (h0 : 1 ≤ rp) (h9 : rp ≤ 99) (hc : c ≠ 114 → rp = 1) : 0 ≤ e_grow c * rp ∧ e_grow c * rp ≤ 10000 := by
  have h := grow_le (c := c) (xd := rp - 1) (rp := rp) (by omega) (by omega) h9 hc
  rw [Int.mul_sub, Int.mul_one] at h
  unfold e_grow at h ⊢
  split at h <;> rename_i hq
  · rw [if_pos hq]; omega
  · rw [if_neg hq]; omega
