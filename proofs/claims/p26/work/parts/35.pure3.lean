/-! a block moved as a whole, step by step -/
theorem low_cnt (F : Int → Int) (b : Int) (hb : 0 ≤ b) : r_low F b = -5 ↔ r_cnt F b 0 = 0 := low_cnt0 hb
theorem shut_shut {F : Int → Int} {b : Int} : r_shut (r_shut F b) b = r_shut F b := by
  funext i
  by_cases h : i = 6
  · rw [h, shut_6, shut_6]
    by_cases c : F 6 = b
    · rw [if_pos c]
      split <;> omega
    · rw [if_neg c, if_neg c]
  · rw [shut_far h]
theorem shut_id {F : Int → Int} {b : Int} (h : F 6 ≠ b) : r_shut F b = F := by
  unfold r_shut
  rw [if_neg h, up_self]
theorem moves_shut {F : Int → Int} {b : Int} : r_moves (r_shut F b) b = r_moves F b := by
  unfold r_moves
  rw [shut_shut]
theorem er_shut {F : Int → Int} {b : Int} : r_erases (r_shut F b) b = r_erases F b := by
  unfold r_erases
  rw [shut_shut]
theorem all_step1 {M : Int} {F G : Int → Int} {b x : Int} (hW : WF M G) (hb : 0 ≤ b ∧ b < 6) (hx : 0 ≤ x ∧ x < 9) (hl : r_low G b ≠ -5) (hm : P_moves (r_shut G b) b) (hX : r_allL (9 - x).toNat (r_shut G b) b x = r_allL 9 (r_shut F b) b 0) (hN : M + 2 ≤ 200000000 := by omega) : r_allL (9 - (x + 1)).toNat (r_shut (r_moves G b) b) b (x + 1) = r_allL 9 (r_shut F b) b 0 := by
  obtain ⟨hW1, hv, hr, hp, ho, hh⟩ := moves_facts hW hb hl hm hN
  rw [show (9 - x).toNat = (9 - (x + 1)).toNat + 1 from by omega, allL_s, low_shut, if_neg hl, shut_shut, if_pos hm, moves_shut] at hX
  have e6 : r_moves G b 6 ≠ b := by
    rw [moves_eq hl hb hm, up_ne (by omega), gives_6 hW1 hv.1 hr]
    exact ho
  rw [shut_id e6]
  exact hX
theorem all_step2 {M : Int} {F G : Int → Int} {b x : Int} (hW : WF M G) (hb : 0 ≤ b ∧ b < 6) (hx : 0 ≤ x ∧ x < 9) (hl : r_low G b ≠ -5) (hm : ¬ P_moves (r_shut G b) b) (hX : r_allL (9 - x).toNat (r_shut G b) b x = r_allL 9 (r_shut F b) b 0) : r_allL 9 (r_shut F b) b 0 = (-4, r_moves G b) := by
  rw [show (9 - x).toNat = (9 - (x + 1)).toNat + 1 from by omega, allL_s, low_shut, if_neg hl, shut_shut, if_neg hm, moves_shut] at hX
  exact hX.symm
theorem all_step3 {F G : Int → Int} {b x : Int} (hx : 0 ≤ x ∧ x < 9) (hl : r_low G b = -5) (hX : r_allL (9 - x).toNat (r_shut G b) b x = r_allL 9 (r_shut F b) b 0) : r_allL 9 (r_shut F b) b 0 = (x, r_shut G b) := by
  rw [show (9 - x).toNat = (9 - (x + 1)).toNat + 1 from by omega, allL_s, low_shut, if_pos hl] at hX
  exact hX.symm
theorem all_fail {F G : Int → Int} {b : Int} (h : r_allL 9 (r_shut F b) b 0 = (-4, G)) : (r_all F b).1 = -4 := by
  unfold r_all; rw [h]; rfl
theorem all_done {F G : Int → Int} {b x : Int} (hx : 0 ≤ x) (h : r_allL 9 (r_shut F b) b 0 = (x, r_shut G b)) : r_all F b = (x, r_erases G b) := by
  unfold r_all
  rw [h, if_neg (by show ¬ x < 0; omega)]
  show (x, r_erases (r_shut G b) b) = _
  rw [er_shut]
