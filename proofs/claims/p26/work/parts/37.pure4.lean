/-! acts: the answer, and the state then -/
def k_set (F : Int → Int) (w v : Int) : Int × (Int → Int) := if w < 0 ∨ 4 < w then (-1, F) else if ¬ S_ok w v then (-2, F) else if F (w + 1) = v then (-5, F) else (F (w + 1), r_set F w v)
def k_setKind (F : Int → Int) (b k : Int) : Int × (Int → Int) := if b < 0 ∨ 5 < b then (-1, F) else if k < 0 ∨ 2 < k then (-2, F) else if ¬ P_free F b then (-4, F) else if F (4 * b + 41) = k then (-5, F) else (F (4 * b + 41), up F (4 * b + 41) k)
def k_mark (F : Int → Int) (b i : Int) : Int × (Int → Int) := if b < 0 ∨ 5 < b then (-1, F) else if P_free F b then (-4, F) else if F (4 * b + 43) = i then (-5, F) else (r_marks (up F (4 * b + 43) i), up F (4 * b + 43) i)
def k_forget (F : Int → Int) (p : Int) : Int × (Int → Int) := if p < 0 ∨ 23 < p ∨ r_placeOf F p = -5 then (-1, F) else (r_placed (r_forget F p), r_forget F p)
def k_moveB (F : Int → Int) (b : Int) : Int × (Int → Int) := if b < 0 ∨ 5 < b then (-1, F) else if P_free F b then (-4, F) else r_all F b
theorem set_stf {v u : Int} (h : 0 ≤ v ∧ v ≤ 4) : S_ok v u ↔ stf 2 v ≤ u ∧ u ≤ stf 3 v := by
  have h2 : v = 0 ∨ v = 1 ∨ v = 2 ∨ v = 3 ∨ v = 4 := by omega
  rcases h2 with rfl | rfl | rfl | rfl | rfl
  · rw [show stf 2 0 = 10 from rfl, show stf 3 0 = 100 from rfl]; omega
  · rw [show stf 2 1 = 1 from rfl, show stf 3 1 = 999 from rfl]; omega
  · rw [show stf 2 2 = 0 from rfl, show stf 3 2 = 8 from rfl]; omega
  · rw [show stf 2 3 = 0 from rfl, show stf 3 3 = 4 from rfl]; omega
  · rw [show stf 2 4 = 0 from rfl, show stf 3 4 = 1 from rfl]; omega
theorem set3_rg {N : Int} {F : Int → Int} {T : Nat → Int → Int} {v u : Int} (hW : WF N F) (hR : Rel F T) (hu : -2147483648 ≤ u ∧ u ≤ 2147483647 := by omega) (hs : S_ok v u := by assumption) : -300000000 ≤ up (T 11) v u 3 ∧ up (T 11) v u 3 ≤ 300000000 := by
  have h1 := hR.se (i := 3) (by omega) (by omega)
  have h2 := hW.bd 4
  by_cases h : (3 : Int) = v
  · rw [up_eq h]; omega
  · rw [up_ne h, h1, show (3 : Int) + 1 = 4 from rfl]; omega
theorem rel_set {F : Int → Int} {T : Nat → Int → Int} {v u : Int} (hR : Rel F T) (hv : 0 ≤ v ∧ v ≤ 4) : Rel (r_set F v u) (upT (upT T 11 (up (T 11) v u)) 23 (fun _ => if up (T 11) v u 3 < T 23 0 then up (T 11) v u 3 else T 23 0)) := by
  have h1 : Rel (up F (v + 1) u) (upT T 11 (up (T 11) v u)) := hR.u11 (x := v) (v := u) (by omega) (by omega)
  have e3 : up F (v + 1) u 4 = up (T 11) v u 3 := (h1.se (i := 3) (by omega) (by omega)).symm
  have e4 : up F (v + 1) u 11 = T 23 0 := h1.sz.symm
  have h2 := h1.u23 (v := if up F (v + 1) u 4 < up F (v + 1) u 11 then up F (v + 1) u 4 else up F (v + 1) u 11)
  unfold r_set
  rw [e3, e4] at h2 ⊢
  exact h2
theorem rel_buf {F G : Int → Int} {T : Nat → Int → Int} {f : Int → Int} {z : Int} (hR : Rel F T) (hf : ∀ i, 0 ≤ i → i < 4 → f i = G (i + 12)) (hz : z = G 11) (far : ∀ j, (j < 11 ∨ 16 ≤ j) → G j = F j) : Rel G (upT (upT T 14 f) 23 (fun _ => z)) := by
  have hc : ∀ b, 0 ≤ b → r_cnt G b (-1) = r_cnt F b (-1) := fun b h0 => cnt_congr (fun k q0 q1 => far _ (by omega))
  have hp : ∀ p, r_at G p = r_at F p := fun p => at_congr (fun k q0 q1 => far _ (by omega))
  refine ⟨fun b q0 q1 => ?_, fun k q0 q1 => ?_, fun p q0 q1 => ?_, fun i q0 q1 => ?_, fun i q0 q1 => ?_, fun i q0 q1 => ?_, ?_⟩
  · rw [far (4 * b + 41) (by omega), far (4 * b + 42) (by omega), far (4 * b + 43) (by omega), far (4 * b + 44) (by omega), hc b q0]; exact hR.1 b q0 q1
  · rw [far (3 * k + 65) (by omega), far (3 * k + 66) (by omega), far (3 * k + 67) (by omega)]; exact hR.2.1 k q0 q1
  · rw [hp, far (p + 209) (by omega)]; exact hR.2.2.1 p q0 q1
  · rw [far (i + 1) (by omega)]; exact hR.2.2.2.1 i q0 q1
  · exact hf i q0 q1
  · rw [far (3 * i + 17) (by omega), far (3 * i + 18) (by omega), far (3 * i + 19) (by omega)]; exact hR.2.2.2.2.2.1 i q0 q1
  · have q := hR.2.2.2.2.2.2
    have ho : r_open G = r_open F := by unfold r_open; rw [far 6 (by omega)]
    rw [ho, far 0 (by omega), far 7 (by omega), far 8 (by omega), far 9 (by omega), far 10 (by omega)]
    exact ⟨q.1, q.2.1, q.2.2.1, q.2.2.2.1, q.2.2.2.2.1, hz, q.2.2.2.2.2.2⟩
theorem wf_gives {N : Int} {F : Int → Int} {v : Int} (h : WF N F) (hv : 0 ≤ v ∧ v ≤ 23) (hr : ¬ (P_full F ∧ r_best F = -5)) : WF N (r_gives F v) := wf_gives0 h hv hr
theorem frees_gives {N : Int} {F : Int → Int} {v : Int} (h : WF N F) (hv : 0 ≤ v ∧ v ≤ 23) (hr : ¬ (P_full F ∧ r_best F = -5)) : r_frees (r_gives F v) = r_frees F - (if P_full F then 1 else 0) := by
  have hg := givesK_rg h hv.1 hr
  have e6 := gives_6 h hv.1 hr
  have hop := h.op
  have hc : ∀ d, 0 ≤ d → d ≠ r_opens F 6 → r_cnt (r_gives F v) d (-1) = r_cnt F d (-1) := fun d h0 hne => by
    rw [cnt_sm, cnt_sm]
    refine sm_congr (fun j a0 a1 => ?_)
    have ej : r_gives F v (3 * j + 65) = if r_placeOf F v ≠ -5 ∧ j = r_placeOf F v then -2 else F (3 * j + 65) := by rw [gives_h h hv.1 hr (by omega), if_neg (show j ≠ r_givesK F v from by omega)]
    rw [wc_e, wc_e, ej]
    by_cases c : r_placeOf F v ≠ -5 ∧ j = r_placeOf F v
    · have hh := pl_hold c.1
      rw [if_pos c, c.2, if_neg (show ¬ ((-2 : Int) = -1) from by omega), if_neg (show ¬ (F (3 * r_placeOf F v + 65) = -1) from by omega)]
    · rw [if_neg c]
  rw [frees_sm, frees_sm]
  by_cases hf : P_full F
  · rw [if_pos hf]
    have eo : r_opens F 6 = r_best F := by rw [opens_6, if_pos hf]
    have hb := (best_rg F).resolve_left (fun q => hr ⟨hf, q⟩)
    have e := sm_one (n := 6) (i := 0) (r_best F) (w := fun d => if P_free (r_gives F v) d then 1 else 0) (v := fun d => if P_free F d then 1 else 0) hb.1 (by omega) (fun j q0 q1 q2 => by
      show (if P_free (r_gives F v) j then (1 : Int) else 0) = if P_free F j then 1 else 0
      have e1 := hc j q0 (by omega)
      by_cases c : P_free F j
      · rw [if_pos c, if_pos ⟨by omega, by rw [e1]; exact c.2⟩]
      · rw [if_neg c, if_neg (fun q => c ⟨fun q3 => ?_, by rw [← e1]; exact q.2⟩)]
        have q4 := q.2
        rw [e1] at q4
        rcases hf with hf | hf
        · omega
        · rw [q3, q4] at hf; omega)
    have e2 : (if P_free (r_gives F v) (r_best F) then (1 : Int) else 0) - (if P_free F (r_best F) then 1 else 0) = -1 := by
      rw [if_neg (fun q => q.1 (by omega)), if_pos hb.2.2]; omega
    have e3 : sm 6 0 (fun d => if P_free (r_gives F v) d then (1 : Int) else 0) = sm 6 0 (fun d => if P_free F d then (1 : Int) else 0) + ((if P_free (r_gives F v) (r_best F) then (1 : Int) else 0) - (if P_free F (r_best F) then 1 else 0)) := e
    omega
  · rw [if_neg hf]
    have eo : r_opens F 6 = F 6 := by rw [opens_6, if_neg hf]
    rw [Int.sub_zero]
    refine sm_congr (fun j q0 q1 => ?_)
    by_cases c : j = F 6
    · rw [if_neg (fun q => q.1 (by omega)), if_neg (fun q => q.1 (by omega))]
    · have e1 := hc j q0 (by omega)
      by_cases c2 : P_free F j
      · rw [if_pos c2, if_pos ⟨by omega, by rw [e1]; exact c2.2⟩]
      · rw [if_neg c2, if_neg (fun q => c2 ⟨by omega, by rw [← e1]; exact q.2⟩)]
theorem full_frees {N : Int} {F : Int → Int} (h : WF N F) (hr : P_full F ∧ r_best F = -5) : r_frees F = 0 := full_frees0 hr.2
theorem Same.opens {F G : Int → Int} (h : Same F G) (ho : F 6 = -5 ∨ 0 ≤ F 6 ∧ F 6 ≤ 5) : Same (r_opens F) (r_opens G) := by
  refine ⟨?_, fun k h0 h1 => ?_, fun b h0 h1 => ?_⟩
  · have hf := h.full ho
    rw [opens_6, opens_6, h.best]
    by_cases c : P_full F
    · rw [if_pos (hf.mpr c), if_pos c]
    · rw [if_neg (fun q : P_full G => c (hf.mp q)), if_neg c]
      exact h.1
  · rw [opens_far (by omega), opens_far (by omega)]; exact h.2.1 k h0 h1
  · rw [opens_far (by omega), opens_far (by omega)]; exact h.2.2 b h0 h1
theorem Same.stales {F G : Int → Int} (h : Same F G) (v : Int) : Same (r_stales F v) (r_stales G v) := by
  refine ⟨?_, fun k h0 h1 => ?_, fun b h0 h1 => ?_⟩
  · rw [stales_far (by omega), stales_far (by omega)]; exact h.1
  · rw [stales_h, stales_h, h.place, h.2.1 k h0 h1]
  · rw [stales_far (by omega), stales_far (by omega)]; exact h.2.2 b h0 h1
theorem givesK_same {N : Int} {F G : Int → Int} {v : Int} (hW : WF N F) (hr : ¬ (P_full F ∧ r_best F = -5)) (hs : Same F G) : r_givesK G v = r_givesK F v := by
  have h1 := opens_rg hW hr
  exact ((hs.opens hW.op).stales v).spot (by rw [stales_far (by omega)]; exact h1)
theorem gives_at {N : Int} {F : Int → Int} {v : Int} (h : WF N F) (hv : 0 ≤ v ∧ v ≤ 23) (hr : ¬ (P_full F ∧ r_best F = -5)) : r_at (r_gives F v) v = r_givesK (r_leaves F v) v := by
  have hg := givesK_rg h hv.1 hr
  have hs := same_leaves (F := F) (by have := h.he; have := h.se; omega) v
  rw [givesK_same h hr hs]
  have e : r_placeOf (r_gives F v) v = r_givesK F v := place_is (by omega) (by omega) (by rw [gives_h h hv.1 hr (by omega), if_pos rfl]) (fun j h0 h1 q => by
    rw [gives_h h hv.1 hr h0] at q
    by_cases c : j = r_givesK F v
    · exact c
    · rw [if_neg c] at q
      by_cases c2 : r_placeOf F v ≠ -5 ∧ j = r_placeOf F v
      · rw [if_pos c2] at q; omega
      · rw [if_neg c2] at q
        by_cases c3 : r_placeOf F v = -5
        · exact absurd q (place_none.mp c3 j h0 h1)
        · have hh := pl_hold c3
          exact absurd ⟨c3, h.un h0 h1 hh.1 hh.2.1 (by omega) (by omega)⟩ c2)
  unfold r_at
  rw [e, if_neg hg.2.2.2.1]
theorem leaves_gives {N : Int} {F : Int → Int} {v : Int} (h : WF N F) (hv : 0 ≤ v ∧ v ≤ 23) (hr : ¬ (P_full F ∧ r_best F = -5)) : ∀ i, 0 ≤ i → i < 233 → r_gives (r_leaves F v) v i = r_leaves (r_gives F v) v i := by
  intro i h0 h1
  have hse := h.se
  have hhe := h.he
  have h4 : F 11 ≤ 4 := by omega
  have hg := givesK_rg h hv.1 hr
  have hs := same_leaves (F := F) h4 v
  have hrl := room_leaves h v hr
  have hf := hs.full h.op
  have hfa : ∀ i, (i < 65 ∨ 209 ≤ i) → i ≠ 6 → r_gives F v i = F i := fun i a b => gives_far h hv.1 hr a b
  have eL : r_gives (r_leaves F v) v i = if i = 3 * r_givesK F v + 65 then v else if i = 3 * r_givesK F v + 66 then 0 else if i = 3 * r_givesK F v + 67 then F 0 else if r_placeOf F v ≠ -5 ∧ i = 3 * r_placeOf F v + 65 then -2 else if P_full F ∧ i = 6 then r_best F else r_leaves F v i := by
    rw [gives_form (wf_leaves h v) hv.1 hrl, givesK_same h hr hs, hs.place, hs.best, lvs_far h4 v (by omega)]
    by_cases c : P_full F
    · by_cases c2 : i = 6
      · rw [if_pos (⟨c, c2⟩ : P_full F ∧ i = 6), if_pos (⟨hf.mpr c, c2⟩ : P_full (r_leaves F v) ∧ i = 6)]
      · rw [if_neg (fun q => c2 q.2 : ¬ (P_full F ∧ i = 6)), if_neg (fun q => c2 q.2 : ¬ (P_full (r_leaves F v) ∧ i = 6))]
    · rw [if_neg (fun q => c q.1 : ¬ (P_full F ∧ i = 6)), if_neg (fun q => c (hf.mp q.1) : ¬ (P_full (r_leaves F v) ∧ i = 6))]
  by_cases hi : i < 11 ∨ 16 ≤ i
  · rw [eL, lvs_far (F := r_gives F v) (by rw [hfa 11 (by omega) (by omega)]; exact h4) v hi, gives_form h hv.1 hr, lvs_far h4 v hi]
  · rw [leaves_congr (F := F) (G := r_gives F v) h4 (fun j a0 a1 => hfa j (by omega) (by omega)) v (by omega) (by omega), eL, if_neg (by omega), if_neg (by omega), if_neg (by omega)]
    rw [if_neg (fun q => by have := pl_hold q.1; omega), if_neg (fun q => by omega)]
