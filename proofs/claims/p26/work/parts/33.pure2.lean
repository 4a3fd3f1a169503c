/-! more of that -/
theorem target_reads {N : Int} {F : Int → Int} (hW : WF N F) (r : Int) (hr : 0 ≤ r ∧ r < 48) : r_target (r_reads F r) = r_target F := by
  have hs := same_reads (F := F) hr
  have hf := hs.full hW.op
  unfold r_target
  rw [hs.best]
  by_cases c : P_full F
  · rw [if_neg (fun q : ¬ P_full (r_reads F r) => q (hf.mpr c)), if_neg (fun q : ¬ P_full F => q c)]
  · rw [if_pos (fun q : P_full (r_reads F r) => c (hf.mp q)), if_pos c]
    exact hs.1
theorem rel_er {N : Int} {F : Int → Int} {T : Nat → Int → Int} {b u : Int} {f6 f7 : Int → Int} (_ : WF N F) (hR : Rel F T) (hb : 0 ≤ b ∧ b < 6) (hl : r_low F b = -5) (h6 : ∀ k, 0 ≤ k → k < 48 → f6 k = (r_erA (r_shut F b) b).2 (3 * k + 65)) (h7 : ∀ k, 0 ≤ k → k < 48 → f7 k = (r_erA (r_shut F b) b).2 (3 * k + 66)) (hu : u = r_open (r_erases F b)) :
  Rel (r_erases F b) (upT (upT (upT (upT (upT (upT (upT (upT (upT (upT T 6 f6) 7 f7) 5 (up (T 5) b 0)) 2 (up (T 2) b (F (4 * b + 42) + 1))) 3 (up (T 3) b 0)) 18 (fun _ => u)) 15 (nt (T 15) b)) 16 (nt (T 16) (F 0))) 17 (nt (T 17) (r_erA (r_shut F b) b).1)) 24 (fun _ => T 24 0 + 1)) := by
  have far : ∀ i, (i < 16 ∨ 41 ≤ i) → i ≠ 6 → i ≠ 10 → i ≠ 4 * b + 42 → i ≠ 4 * b + 43 → ¬ (24 * b + 65 ≤ i ∧ i < 24 * b + 89 ∧ (i - 65) % 3 ≠ 2) → r_erases F b i = F i := fun i a1 a2 a3 a4 a5 a6 => er_far hb a1 a2 a3 a4 a5 a6
  have hlw := (low_none hb.1).mp hl
  refine ⟨fun d q0 q1 => ?_, fun k q0 q1 => ?_, fun p q0 q1 => ?_, fun i q0 q1 => ?_, fun i q0 q1 => ?_, fun i q0 q1 => ?_, ?_⟩
  · have q := hR.1 d q0 q1
    rw [far (4 * d + 41) (by omega) (by omega) (by omega) (by omega) (by omega) (by omega), far (4 * d + 44) (by omega) (by omega) (by omega) (by omega) (by omega) (by omega)]
    refine ⟨q.1, ?_, ?_, q.2.2.2.1, ?_⟩
    · show up (T 2) b (F (4 * b + 42) + 1) d = _
      by_cases c : d = b
      · rw [up_eq c, c, er_42 hb]
      · rw [up_ne c, far _ (by omega) (by omega) (by omega) (by omega) (by omega) (by omega)]; exact q.2.1
    · show up (T 3) b 0 d = _
      by_cases c : d = b
      · rw [up_eq c, c, er_43 hb]
      · rw [up_ne c, far _ (by omega) (by omega) (by omega) (by omega) (by omega) (by omega)]; exact q.2.2.1
    · show up (T 5) b 0 d = _
      by_cases c : d = b
      · rw [up_eq c, c, cnt_e8.mpr (fun k a0 a1 => by rw [er_h hb (by omega), if_pos (by omega)])]; omega
      · rw [up_ne c, cnt_congr (F := F) (G := r_erases F b) (b := d) (t := -1) (fun k a0 a1 => by rw [er_h hb (by omega), if_neg (by omega)])]; exact q.2.2.2.2
  · have q := hR.2.1 k q0 q1
    refine ⟨?_, ?_, ?_⟩
    · show f6 k = _
      rw [h6 k q0 q1, er_rest (by omega), erB_far (by omega) (by omega) (by omega)]
    · show f7 k = _
      rw [h7 k q0 q1, er_rest (by omega), erB_far (by omega) (by omega) (by omega)]
    · rw [far (3 * k + 67) (by omega) (by omega) (by omega) (by omega) (by omega) (by omega)]; exact q.2.2
  · have q := hR.2.2.1 p q0 q1
    rw [far (p + 209) (by omega) (by omega) (by omega) (by omega) (by omega) (by omega)]
    refine ⟨q.1.trans ?_, q.2⟩
    have e : r_placeOf (r_erases F b) p = r_placeOf F p := fi_congr (fun j a0 a1 => by
      unfold p_hold
      rw [er_h hb a0]
      by_cases cj : j / 8 = b
      · have := hlw j (by omega) (by omega)
        rw [if_pos cj]
        exact decide_eq_decide.mpr ⟨fun q => by omega, fun q => by omega⟩
      · rw [if_neg cj])
    unfold r_at
    rw [e]
  · rw [far (i + 1) (by omega) (by omega) (by omega) (by omega) (by omega) (by omega)]; exact hR.2.2.2.1 i q0 q1
  · rw [far (i + 12) (by omega) (by omega) (by omega) (by omega) (by omega) (by omega)]; exact hR.2.2.2.2.1 i q0 q1
  · refine ⟨?_, ?_, ?_⟩
    · show nt (T 15) b i = _
      by_cases c : i = 0
      · rw [c, nt_0]; exact er_17.symm
      · rw [nt_s (by omega), er_log hb (by omega) (by omega), hR.lb (by omega) (by omega)]
        congr 1
        omega
    · show nt (T 16) (F 0) i = _
      by_cases c : i = 0
      · rw [c, nt_0]; exact (er_18 hb).symm
      · rw [nt_s (by omega), er_log hb (by omega) (by omega), hR.lt (by omega) (by omega)]
        congr 1
        omega
    · show nt (T 17) (r_erA (r_shut F b) b).1 i = _
      by_cases c : i = 0
      · rw [c, nt_0]; exact er_19.symm
      · rw [nt_s (by omega), er_log hb (by omega) (by omega), hR.lw (by omega) (by omega)]
        congr 1
        omega
  · have q := hR.2.2.2.2.2.2
    rw [far 0 (by omega) (by omega) (by omega) (by omega) (by omega) (by omega), far 7 (by omega) (by omega) (by omega) (by omega) (by omega) (by omega), far 8 (by omega) (by omega) (by omega) (by omega) (by omega) (by omega), far 9 (by omega) (by omega) (by omega) (by omega) (by omega) (by omega), far 11 (by omega) (by omega) (by omega) (by omega) (by omega) (by omega), er_10 hb]
    exact ⟨hu, q.2.1, q.2.2.1, q.2.2.2.1, q.2.2.2.2.1, q.2.2.2.2.2.1, (show T 24 0 + 1 = F 10 + 1 from by rw [hR.to])⟩
theorem rel_erases0 {N : Int} {F : Int → Int} {T : Nat → Int → Int} {b : Int} {f6 f7 : Int → Int} (hW : WF N F) (hR : Rel F T) (hb : 0 ≤ b ∧ b < 6) (hl : r_low F b = -5) (h6 : ∀ k, 0 ≤ k → k < 48 → f6 k = (r_erA (r_shut F b) b).2 (3 * k + 65)) (h7 : ∀ k, 0 ≤ k → k < 48 → f7 k = (r_erA (r_shut F b) b).2 (3 * k + 66)) (ho : r_open F = b) :
  Rel (r_erases F b) (upT (upT (upT (upT (upT (upT (upT (upT (upT (upT T 6 f6) 7 f7) 5 (up (T 5) b 0)) 2 (up (T 2) b (F (4 * b + 42) + 1))) 3 (up (T 3) b 0)) 18 (fun _ => -1)) 15 (nt (T 15) b)) 16 (nt (T 16) (F 0))) 17 (nt (T 17) (r_erA (r_shut F b) b).1)) 24 (fun _ => T 24 0 + 1)) := rel_er hW hR hb hl h6 h7 (by
  unfold r_open at ho ⊢
  rw [er_6 hb]
  have h1 : F 6 = b := by split at ho <;> omega
  rw [if_pos h1, if_pos rfl])
theorem rel_erases1 {N : Int} {F : Int → Int} {T : Nat → Int → Int} {b : Int} {f6 f7 : Int → Int} (hW : WF N F) (hR : Rel F T) (hb : 0 ≤ b ∧ b < 6) (hl : r_low F b = -5) (h6 : ∀ k, 0 ≤ k → k < 48 → f6 k = (r_erA (r_shut F b) b).2 (3 * k + 65)) (h7 : ∀ k, 0 ≤ k → k < 48 → f7 k = (r_erA (r_shut F b) b).2 (3 * k + 66)) (ho : r_open F ≠ b) :
  Rel (r_erases F b) (upT (upT (upT (upT (upT (upT (upT (upT (upT T 6 f6) 7 f7) 5 (up (T 5) b 0)) 2 (up (T 2) b (F (4 * b + 42) + 1))) 3 (up (T 3) b 0)) 15 (nt (T 15) b)) 16 (nt (T 16) (F 0))) 17 (nt (T 17) (r_erA (r_shut F b) b).1)) 24 (fun _ => T 24 0 + 1)) := by
  have hop := hW.op
  have h1 : F 6 ≠ b := fun q => ho (by unfold r_open; rw [if_neg (by omega)]; exact q)
  have h2 := rel_er (u := T 18 0) hW hR hb hl h6 h7 (by rw [hR.op]; unfold r_open; rw [er_6 hb, if_neg h1])
  have e : upT (upT (upT (upT (upT (upT T 6 f6) 7 f7) 5 (up (T 5) b 0)) 2 (up (T 2) b (F (4 * b + 42) + 1))) 3 (up (T 3) b 0)) 18 (fun _ => T 18 0) = upT (upT (upT (upT (upT (upT T 18 (fun _ => T 18 0)) 6 f6) 7 f7) 5 (up (T 5) b 0)) 2 (up (T 2) b (F (4 * b + 42) + 1))) 3 (up (T 3) b 0) := by
    rw [upT_comm (j := 3) (k := 18) (by decide), upT_comm (j := 2) (k := 18) (by decide), upT_comm (j := 5) (k := 18) (by decide), upT_comm (j := 7) (k := 18) (by decide), upT_comm (j := 6) (k := 18) (by decide)]
  exact ⟨h2.1, h2.2.1, h2.2.2.1, h2.2.2.2.1, h2.2.2.2.2.1, h2.2.2.2.2.2.1, h2.2.2.2.2.2.2⟩
