/-! a block moved as a whole, step by step -/
theorem low_cnt (F : Int → Int) (b : Int) : r_low F b = -5 ↔ r_cnt F b 0 = 0 := sorry
theorem all_step1 {M : Int} {F G : Int → Int} {b x : Int} (hW : WF M G) (hb : 0 ≤ b ∧ b < 6) (hx : 0 ≤ x ∧ x < 9) (hl : r_low G b ≠ -5) (hm : P_moves (r_shut G b) b) (hX : r_allL (9 - x).toNat (r_shut G b) b x = r_allL 9 (r_shut F b) b 0) : r_allL (9 - (x + 1)).toNat (r_shut (r_moves G b) b) b (x + 1) = r_allL 9 (r_shut F b) b 0 := sorry
theorem all_step2 {M : Int} {F G : Int → Int} {b x : Int} (hW : WF M G) (hb : 0 ≤ b ∧ b < 6) (hx : 0 ≤ x ∧ x < 9) (hl : r_low G b ≠ -5) (hm : ¬ P_moves (r_shut G b) b) (hX : r_allL (9 - x).toNat (r_shut G b) b x = r_allL 9 (r_shut F b) b 0) : r_allL 9 (r_shut F b) b 0 = (-4, r_moves G b) := sorry
theorem all_step3 {F G : Int → Int} {b x : Int} (hx : 0 ≤ x ∧ x < 9) (hl : r_low G b = -5) (hX : r_allL (9 - x).toNat (r_shut G b) b x = r_allL 9 (r_shut F b) b 0) : r_allL 9 (r_shut F b) b 0 = (x, r_shut G b) := sorry
theorem all_fail {F G : Int → Int} {b : Int} (h : r_allL 9 (r_shut F b) b 0 = (-4, G)) : (r_all F b).1 = -4 := by
  unfold r_all; rw [h]; rfl
theorem all_done {F G : Int → Int} {b x : Int} (hx : 0 ≤ x) (h : r_allL 9 (r_shut F b) b 0 = (x, r_shut G b)) : r_all F b = (x, r_erases G b) := sorry
