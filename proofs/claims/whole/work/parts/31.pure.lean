/-! what a state tells of another -/
theorem up_self {f : Int → Int} {i : Int} : up f i (f i) = f := by
  funext j
  by_cases h : j = i
  · rw [up_eq h, h]
  · exact up_ne h
theorem target_room {N : Int} {F : Int → Int} (h : WF N F) (h0 : 0 ≤ r_target F) : r_cnt F (r_target F) (-1) ≠ 0 := sorry
theorem wf_open {N : Int} {F : Int → Int} {v : Int} (h : WF N F) (hv : 0 ≤ v ∧ v ≤ 5) : WF N (up F 6 v) := sorry
theorem cnt_up6 (F : Int → Int) (v b t : Int) : r_cnt (up F 6 v) b t = r_cnt F b t := sorry
theorem cnt_stales {N : Int} {F : Int → Int} (h : WF N F) (v b : Int) : r_cnt (r_stales F v) b (-1) = r_cnt F b (-1) := sorry
theorem rel_stale0 {N : Int} {F : Int → Int} {T : Nat → Int → Int} {v : Int} (hW : WF N F) (hR : Rel F T) (hv : 0 ≤ v ∧ v ≤ 23) (h : r_placeOf F v = -5) : Rel (r_stales F v) (upT T 9 (up (T 9) v (-1))) := sorry
theorem rel_stale1 {N : Int} {F : Int → Int} {T : Nat → Int → Int} {v : Int} (hW : WF N F) (hR : Rel F T) (hv : 0 ≤ v ∧ v ≤ 23) (h : 0 ≤ r_placeOf F v) : Rel (r_stales F v) (upT (upT T 6 (up (T 6) (r_at F v) (-2))) 9 (up (T 9) v (-1))) := sorry
theorem rel_gives {N : Int} {F : Int → Int} {T : Nat → Int → Int} {b v k c : Int} (hW : WF N F) (hR : Rel (r_stales (up F 6 b) v) T) (hb0 : b = r_target F) (hb1 : 0 ≤ b) (hv : 0 ≤ v ∧ v ≤ 23) (hct : r_cnt F b (-1) ≠ 0) (hc : c = r_cnt (r_stales (up F 6 b) v) b (-1)) (hk : k = 8 * b - c + 8) :
  Rel (r_gives F v) (upT (upT (upT (upT (upT T 5 (up (T 5) b (9 - c))) 6 (up (T 6) k v)) 7 (up (T 7) k 0)) 8 (up (T 8) k (r_stales (up F 6 b) v 0))) 9 (up (T 9) v k)) := sorry
