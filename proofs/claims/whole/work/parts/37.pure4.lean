/-! acts: the answer, and the state then -/
def k_set (F : Int → Int) (w v : Int) : Int × (Int → Int) := if w < 0 ∨ 4 < w then (-1, F) else if ¬ S_ok w v then (-2, F) else if F (w + 1) = v then (-5, F) else (F (w + 1), r_set F w v)
def k_setKind (F : Int → Int) (b k : Int) : Int × (Int → Int) := if b < 0 ∨ 5 < b then (-1, F) else if k < 0 ∨ 2 < k then (-2, F) else if ¬ P_free F b then (-4, F) else if F (4 * b + 41) = k then (-5, F) else (F (4 * b + 41), up F (4 * b + 41) k)
def k_mark (F : Int → Int) (b i : Int) : Int × (Int → Int) := if b < 0 ∨ 5 < b then (-1, F) else if P_free F b then (-4, F) else if F (4 * b + 43) = i then (-5, F) else (r_marks (up F (4 * b + 43) i), up F (4 * b + 43) i)
def k_forget (F : Int → Int) (p : Int) : Int × (Int → Int) := if p < 0 ∨ 23 < p ∨ r_placeOf F p = -5 then (-1, F) else (r_placed (r_forget F p), r_forget F p)
def k_moveB (F : Int → Int) (b : Int) : Int × (Int → Int) := if b < 0 ∨ 5 < b then (-1, F) else if P_free F b then (-4, F) else r_all F b
theorem set_stf {v u : Int} (h : 0 ≤ v ∧ v ≤ 4) : S_ok v u ↔ stf 2 v ≤ u ∧ u ≤ stf 3 v := by
  have h2 : v = 0 ∨ v = 1 ∨ v = 2 ∨ v = 3 ∨ v = 4 := by omega
  rcases h2 with rfl | rfl | rfl | rfl | rfl
  · rw [show stf 2 0 = 10 from rfl, show stf 3 0 = 100 from rfl]; omega
  · rw [show stf 2 1 = 1 from rfl, show stf 3 1 = 999 from rfl]; omega
  · rw [show stf 2 2 = 0 from rfl, show stf 3 2 = 8 from rfl]; omega
  · rw [show stf 2 3 = 0 from rfl, show stf 3 3 = 4 from rfl]; omega
  · rw [show stf 2 4 = 0 from rfl, show stf 3 4 = 1 from rfl]; omega
theorem set3_rg {N : Int} {F : Int → Int} {T : Nat → Int → Int} {v u : Int} (hW : WF N F) (hR : Rel F T) (hu : -2147483648 ≤ u ∧ u ≤ 2147483647 := by omega) (hs : S_ok v u := by assumption) : -300000000 ≤ up (T 11) v u 3 ∧ up (T 11) v u 3 ≤ 300000000 := by
  have h1 := hR.se (i := 3) (by omega) (by omega)
  have h2 := hW.bd 4
  by_cases h : (3 : Int) = v
  · rw [up_eq h]; omega
  · rw [up_ne h, h1, show (3 : Int) + 1 = 4 from rfl]; omega
theorem rel_set {F : Int → Int} {T : Nat → Int → Int} {v u : Int} (hR : Rel F T) (hv : 0 ≤ v ∧ v ≤ 4) : Rel (r_set F v u) (upT (upT T 11 (up (T 11) v u)) 23 (fun _ => if up (T 11) v u 3 < T 23 0 then up (T 11) v u 3 else T 23 0)) := by
  have h1 : Rel (up F (v + 1) u) (upT T 11 (up (T 11) v u)) := hR.u11 (x := v) (v := u) (by omega) (by omega)
  have e3 : up F (v + 1) u 4 = up (T 11) v u 3 := (h1.se (i := 3) (by omega) (by omega)).symm
  have e4 : up F (v + 1) u 11 = T 23 0 := h1.sz.symm
  have h2 := h1.u23 (v := if up F (v + 1) u 4 < up F (v + 1) u 11 then up F (v + 1) u 4 else up F (v + 1) u 11)
  unfold r_set
  rw [e3, e4] at h2 ⊢
  exact h2
theorem rel_buf {F G : Int → Int} {T : Nat → Int → Int} {f : Int → Int} {z : Int} (hR : Rel F T) (hf : ∀ i, 0 ≤ i → i < 4 → f i = G (i + 12)) (hz : z = G 11) (far : ∀ j, (j < 11 ∨ 16 ≤ j) → G j = F j) : Rel G (upT (upT T 14 f) 23 (fun _ => z)) := sorry
theorem wf_gives {N : Int} {F : Int → Int} {v : Int} (h : WF N F) (hv : 0 ≤ v ∧ v ≤ 23) (hr : ¬ (P_full F ∧ r_best F = -5)) : WF N (r_gives F v) := sorry
theorem frees_gives {N : Int} {F : Int → Int} {v : Int} (h : WF N F) (hv : 0 ≤ v ∧ v ≤ 23) (hr : ¬ (P_full F ∧ r_best F = -5)) : r_frees (r_gives F v) = r_frees F - (if P_full F then 1 else 0) := sorry
theorem full_frees {N : Int} {F : Int → Int} (h : WF N F) (hr : P_full F ∧ r_best F = -5) : r_frees F = 0 := sorry
theorem gives_at {N : Int} {F : Int → Int} {v : Int} (h : WF N F) (hv : 0 ≤ v ∧ v ≤ 23) (hr : ¬ (P_full F ∧ r_best F = -5)) : r_at (r_gives F v) v = r_givesK (r_leaves F v) v := sorry
theorem leaves_gives {N : Int} {F : Int → Int} {v : Int} (h : WF N F) (hv : 0 ≤ v ∧ v ≤ 23) (hr : ¬ (P_full F ∧ r_best F = -5)) : ∀ i, 0 ≤ i → i < 233 → r_gives (r_leaves F v) v i = r_leaves (r_gives F v) v i := sorry
