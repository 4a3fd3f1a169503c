theorem Wd.one {g : GG} {A : Nat → Prop} {u : va_W} {s : State} {H : Heap} {locs : List Loc} (w : Wd g A ([] ++ [u] : List va_W).flatten s H locs) : Wd g A u s H locs := by
  simpa using w
theorem k_set_rg {N : Int} {F : Int → Int} (h : WF N F) (w v : Int) : -300000000 ≤ (k_set F w v).1 ∧ (k_set F w v).1 ≤ 300000000 := by
  have := h.bd (w + 1)
  unfold k_set
  split
  · show _ ∧ _; omega
  · split
    · show _ ∧ _; omega
    · split <;> (show _ ∧ _; omega)
theorem k_setKind_rg {N : Int} {F : Int → Int} (h : WF N F) (w v : Int) : -300000000 ≤ (k_setKind F w v).1 ∧ (k_setKind F w v).1 ≤ 300000000 := by
  have := h.bd (4 * w + 41)
  unfold k_setKind
  split
  · show _ ∧ _; omega
  · split
    · show _ ∧ _; omega
    · split
      · show _ ∧ _; omega
      · split <;> (show _ ∧ _; omega)
theorem k_mark_rg {N : Int} {F : Int → Int} (_ : WF N F) (w v : Int) : -300000000 ≤ (k_mark F w v).1 ∧ (k_mark F w v).1 ≤ 300000000 := by
  have := marks_rg (up F (4 * w + 43) v)
  unfold k_mark
  split
  · show _ ∧ _; omega
  · split
    · show _ ∧ _; omega
    · split <;> (show _ ∧ _; omega)
theorem k_forget_rg {N : Int} {F : Int → Int} (_ : WF N F) (v : Int) : -300000000 ≤ (k_forget F v).1 ∧ (k_forget F v).1 ≤ 300000000 := by
  have := placed_rg (r_forget F v)
  unfold k_forget
  split <;> (show _ ∧ _; omega)
theorem k_moveB_rg {N : Int} {F : Int → Int} (h : WF N F) (v : Int) : -300000000 ≤ (k_moveB F v).1 ∧ (k_moveB F v).1 ≤ 300000000 := by
  have := all_rg h v
  unfold k_moveB
  split
  · show _ ∧ _; omega
  · split
    · show _ ∧ _; omega
    · omega
theorem c_set_eq {N : Int} {B : Nat → Int → Int} {w v : Int} (h : WF N (B 0)) : c_set B w v = act B (k_set (B 0) w v) := by
  unfold c_set k_set
  split
  · rfl
  · split
    · rfl
    · split
      · rfl
      · rename_i h1 h2 h3
        have hs := h.se
        have hw : w = 0 ∨ w = 1 ∨ w = 2 ∨ w = 3 ∨ w = 4 := by omega
        exact (act_p (x := (B 0 (w + 1), r_set (B 0) w v)) (show 0 ≤ B 0 (w + 1) from by rcases hw with rfl | rfl | rfl | rfl | rfl <;> (show 0 ≤ B 0 _) <;> first | exact Int.le_trans (by decide) hs.1 | exact Int.le_trans (by decide) hs.2.2.1 | exact hs.2.2.2.2.1 | exact hs.2.2.2.2.2.2.1 | exact hs.2.2.2.2.2.2.2.2.1)).symm
theorem c_setKind_eq {N : Int} {B : Nat → Int → Int} {w v : Int} (h : WF N (B 0)) : c_setKind B w v = act B (k_setKind (B 0) w v) := by
  unfold c_setKind k_setKind
  split
  · rfl
  · split
    · rfl
    · split
      · rfl
      · split
        · rfl
        · have hb := h.bl (b := w) (by omega) (by omega)
          exact (act_p (x := (B 0 (4 * w + 41), up (B 0) (4 * w + 41) v)) hb.1).symm
theorem c_mark_eq {B : Nat → Int → Int} {w v : Int} : c_mark B w v = act B (k_mark (B 0) w v) := by
  unfold c_mark k_mark
  split
  · rfl
  · split
    · rfl
    · split
      · rfl
      · exact (act_p (x := (r_marks (up (B 0) (4 * w + 43) v), up (B 0) (4 * w + 43) v)) (marks_rg _).1).symm
theorem c_forget_eq {B : Nat → Int → Int} {v : Int} : c_forget B v = act B (k_forget (B 0) v) := by
  unfold c_forget k_forget
  split
  · rfl
  · exact (act_p (x := (r_placed (r_forget (B 0) v), r_forget (B 0) v)) (placed_rg _).1).symm
theorem c_moveB_eq {B : Nat → Int → Int} {v : Int} : c_moveBlock B v = act B (k_moveB (B 0) v) := by
  unfold c_moveBlock k_moveB
  split
  · rfl
  · split <;> rfl
