theorem at_congr {F G : Int → Int} {p : Int} (h : ∀ k, 0 ≤ k → k < 48 → G (3 * k + 65) = F (3 * k + 65)) : r_at G p = r_at F p := by unfold r_at; rw [place_congr h]
theorem up_row {f F : Int → Int} {j x i1 i0 v : Int} (h : j = x ↔ i1 = i0) (e : f j = F i1) : up f x v j = up F i0 v i1 := by
  by_cases hj : j = x
  · rw [up_eq hj, up_eq (h.mp hj)]
  · rw [up_ne hj, up_ne (fun q => hj (h.mpr q)), e]
section RUP
variable {F G : Int → Int} {T : Nat → Int → Int}
theorem Rel.to_eq (h : Rel F T) (e : F = G) : Rel G T := e ▸ h
/-- the places that the relation speaks of -/
theorem Rel.congr (h : Rel F T) (e : ∀ i, 0 ≤ i → i < 233 → G i = F i) : Rel G T := by
  have hc : ∀ b, 0 ≤ b → b < 6 → r_cnt G b (-1) = r_cnt F b (-1) := fun b h0 h1 => cnt_congr (fun k q0 q1 => e _ (by omega) (by omega))
  have hp : ∀ p, r_at G p = r_at F p := fun p => at_congr (fun k q0 q1 => e _ (by omega) (by omega))
  refine ⟨fun b q0 q1 => ?_, fun k q0 q1 => ?_, fun p q0 q1 => ?_, fun i q0 q1 => ?_, fun i q0 q1 => ?_, fun i q0 q1 => ?_, ?_⟩
  · rw [e _ (by omega) (by omega), e _ (by omega) (by omega), e _ (by omega) (by omega), e _ (by omega) (by omega), hc b q0 q1]; exact h.1 b q0 q1
  · rw [e _ (by omega) (by omega), e _ (by omega) (by omega), e _ (by omega) (by omega)]; exact h.2.1 k q0 q1
  · rw [hp, e _ (by omega) (by omega)]; exact h.2.2.1 p q0 q1
  · rw [e _ (by omega) (by omega)]; exact h.2.2.2.1 i q0 q1
  · rw [e _ (by omega) (by omega)]; exact h.2.2.2.2.1 i q0 q1
  · rw [e _ (by omega) (by omega), e _ (by omega) (by omega), e _ (by omega) (by omega)]; exact h.2.2.2.2.2.1 i q0 q1
  · have ho : r_open G = r_open F := by unfold r_open; rw [e _ (by omega) (by omega)]
    rw [ho, e 0 (by omega) (by omega), e 7 (by omega) (by omega), e 8 (by omega) (by omega), e 9 (by omega) (by omega), e 11 (by omega) (by omega), e 10 (by omega) (by omega)]; exact h.2.2.2.2.2.2
theorem Rel.u1 (h : Rel F T) {x v : Int} (h0 : 0 ≤ x) (h1 : x < 6) : Rel (up F (4 * x + 41) v) (upT T 1 (up (T 1) x v)) := by
  have hc : ∀ b, 0 ≤ b → b < 6 → r_cnt (up F (4 * x + 41) v) b (-1) = r_cnt F b (-1) := fun b _ _ => cnt_congr (fun j _ _ => up_ne (by omega))
  have hp : ∀ p, r_at (up F (4 * x + 41) v) p = r_at F p := fun p => at_congr (fun j _ _ => up_ne (by omega))
  refine ⟨fun b q0 q1 => ?_, fun k q0 q1 => ?_, fun p q0 q1 => ?_, fun i q0 q1 => ?_, fun i q0 q1 => ?_, fun i q0 q1 => ?_, ?_⟩
  · have q := h.1 b q0 q1
    exact ⟨(show up (T 1) x v b = up F _ v _ from up_row (by omega) (q.1)), (q.2.1.trans (up_ne (by omega)).symm), (q.2.2.1.trans (up_ne (by omega)).symm), (q.2.2.2.1.trans (up_ne (by omega)).symm), (by rw [hc b q0 q1]; exact q.2.2.2.2)⟩
  · have q := h.2.1 k q0 q1
    exact ⟨(q.1.trans (up_ne (by omega)).symm), (q.2.1.trans (up_ne (by omega)).symm), (q.2.2.trans (up_ne (by omega)).symm)⟩
  · have q := h.2.2.1 p q0 q1
    exact ⟨(by rw [hp]; exact q.1), (q.2.trans (up_ne (by omega)).symm)⟩
  · have q := h.2.2.2.1 i q0 q1
    exact (q.trans (up_ne (by omega)).symm)
  · have q := h.2.2.2.2.1 i q0 q1
    exact (q.trans (up_ne (by omega)).symm)
  · have q := h.2.2.2.2.2.1 i q0 q1
    exact ⟨(q.1.trans (up_ne (by omega)).symm), (q.2.1.trans (up_ne (by omega)).symm), (q.2.2.trans (up_ne (by omega)).symm)⟩
  · exact ⟨(by unfold r_open; rw [up_ne (by omega)]; exact h.2.2.2.2.2.2.1), (h.2.2.2.2.2.2.2.1.trans (up_ne (by omega)).symm), (h.2.2.2.2.2.2.2.2.1.trans (up_ne (by omega)).symm), (h.2.2.2.2.2.2.2.2.2.1.trans (up_ne (by omega)).symm), (h.2.2.2.2.2.2.2.2.2.2.1.trans (up_ne (by omega)).symm), (h.2.2.2.2.2.2.2.2.2.2.2.1.trans (up_ne (by omega)).symm), (h.2.2.2.2.2.2.2.2.2.2.2.2.trans (up_ne (by omega)).symm)⟩
theorem Rel.u2 (h : Rel F T) {x v : Int} (h0 : 0 ≤ x) (h1 : x < 6) : Rel (up F (4 * x + 42) v) (upT T 2 (up (T 2) x v)) := by
  have hc : ∀ b, 0 ≤ b → b < 6 → r_cnt (up F (4 * x + 42) v) b (-1) = r_cnt F b (-1) := fun b _ _ => cnt_congr (fun j _ _ => up_ne (by omega))
  have hp : ∀ p, r_at (up F (4 * x + 42) v) p = r_at F p := fun p => at_congr (fun j _ _ => up_ne (by omega))
  refine ⟨fun b q0 q1 => ?_, fun k q0 q1 => ?_, fun p q0 q1 => ?_, fun i q0 q1 => ?_, fun i q0 q1 => ?_, fun i q0 q1 => ?_, ?_⟩
  · have q := h.1 b q0 q1
    exact ⟨(q.1.trans (up_ne (by omega)).symm), (show up (T 2) x v b = up F _ v _ from up_row (by omega) (q.2.1)), (q.2.2.1.trans (up_ne (by omega)).symm), (q.2.2.2.1.trans (up_ne (by omega)).symm), (by rw [hc b q0 q1]; exact q.2.2.2.2)⟩
  · have q := h.2.1 k q0 q1
    exact ⟨(q.1.trans (up_ne (by omega)).symm), (q.2.1.trans (up_ne (by omega)).symm), (q.2.2.trans (up_ne (by omega)).symm)⟩
  · have q := h.2.2.1 p q0 q1
    exact ⟨(by rw [hp]; exact q.1), (q.2.trans (up_ne (by omega)).symm)⟩
  · have q := h.2.2.2.1 i q0 q1
    exact (q.trans (up_ne (by omega)).symm)
  · have q := h.2.2.2.2.1 i q0 q1
    exact (q.trans (up_ne (by omega)).symm)
  · have q := h.2.2.2.2.2.1 i q0 q1
    exact ⟨(q.1.trans (up_ne (by omega)).symm), (q.2.1.trans (up_ne (by omega)).symm), (q.2.2.trans (up_ne (by omega)).symm)⟩
  · exact ⟨(by unfold r_open; rw [up_ne (by omega)]; exact h.2.2.2.2.2.2.1), (h.2.2.2.2.2.2.2.1.trans (up_ne (by omega)).symm), (h.2.2.2.2.2.2.2.2.1.trans (up_ne (by omega)).symm), (h.2.2.2.2.2.2.2.2.2.1.trans (up_ne (by omega)).symm), (h.2.2.2.2.2.2.2.2.2.2.1.trans (up_ne (by omega)).symm), (h.2.2.2.2.2.2.2.2.2.2.2.1.trans (up_ne (by omega)).symm), (h.2.2.2.2.2.2.2.2.2.2.2.2.trans (up_ne (by omega)).symm)⟩
theorem Rel.u3 (h : Rel F T) {x v : Int} (h0 : 0 ≤ x) (h1 : x < 6) : Rel (up F (4 * x + 43) v) (upT T 3 (up (T 3) x v)) := by
  have hc : ∀ b, 0 ≤ b → b < 6 → r_cnt (up F (4 * x + 43) v) b (-1) = r_cnt F b (-1) := fun b _ _ => cnt_congr (fun j _ _ => up_ne (by omega))
  have hp : ∀ p, r_at (up F (4 * x + 43) v) p = r_at F p := fun p => at_congr (fun j _ _ => up_ne (by omega))
  refine ⟨fun b q0 q1 => ?_, fun k q0 q1 => ?_, fun p q0 q1 => ?_, fun i q0 q1 => ?_, fun i q0 q1 => ?_, fun i q0 q1 => ?_, ?_⟩
  · have q := h.1 b q0 q1
    exact ⟨(q.1.trans (up_ne (by omega)).symm), (q.2.1.trans (up_ne (by omega)).symm), (show up (T 3) x v b = up F _ v _ from up_row (by omega) (q.2.2.1)), (q.2.2.2.1.trans (up_ne (by omega)).symm), (by rw [hc b q0 q1]; exact q.2.2.2.2)⟩
  · have q := h.2.1 k q0 q1
    exact ⟨(q.1.trans (up_ne (by omega)).symm), (q.2.1.trans (up_ne (by omega)).symm), (q.2.2.trans (up_ne (by omega)).symm)⟩
  · have q := h.2.2.1 p q0 q1
    exact ⟨(by rw [hp]; exact q.1), (q.2.trans (up_ne (by omega)).symm)⟩
  · have q := h.2.2.2.1 i q0 q1
    exact (q.trans (up_ne (by omega)).symm)
  · have q := h.2.2.2.2.1 i q0 q1
    exact (q.trans (up_ne (by omega)).symm)
  · have q := h.2.2.2.2.2.1 i q0 q1
    exact ⟨(q.1.trans (up_ne (by omega)).symm), (q.2.1.trans (up_ne (by omega)).symm), (q.2.2.trans (up_ne (by omega)).symm)⟩
  · exact ⟨(by unfold r_open; rw [up_ne (by omega)]; exact h.2.2.2.2.2.2.1), (h.2.2.2.2.2.2.2.1.trans (up_ne (by omega)).symm), (h.2.2.2.2.2.2.2.2.1.trans (up_ne (by omega)).symm), (h.2.2.2.2.2.2.2.2.2.1.trans (up_ne (by omega)).symm), (h.2.2.2.2.2.2.2.2.2.2.1.trans (up_ne (by omega)).symm), (h.2.2.2.2.2.2.2.2.2.2.2.1.trans (up_ne (by omega)).symm), (h.2.2.2.2.2.2.2.2.2.2.2.2.trans (up_ne (by omega)).symm)⟩
theorem Rel.u4 (h : Rel F T) {x v : Int} (h0 : 0 ≤ x) (h1 : x < 6) : Rel (up F (4 * x + 44) v) (upT T 4 (up (T 4) x v)) := by
  have hc : ∀ b, 0 ≤ b → b < 6 → r_cnt (up F (4 * x + 44) v) b (-1) = r_cnt F b (-1) := fun b _ _ => cnt_congr (fun j _ _ => up_ne (by omega))
  have hp : ∀ p, r_at (up F (4 * x + 44) v) p = r_at F p := fun p => at_congr (fun j _ _ => up_ne (by omega))
  refine ⟨fun b q0 q1 => ?_, fun k q0 q1 => ?_, fun p q0 q1 => ?_, fun i q0 q1 => ?_, fun i q0 q1 => ?_, fun i q0 q1 => ?_, ?_⟩
  · have q := h.1 b q0 q1
    exact ⟨(q.1.trans (up_ne (by omega)).symm), (q.2.1.trans (up_ne (by omega)).symm), (q.2.2.1.trans (up_ne (by omega)).symm), (show up (T 4) x v b = up F _ v _ from up_row (by omega) (q.2.2.2.1)), (by rw [hc b q0 q1]; exact q.2.2.2.2)⟩
  · have q := h.2.1 k q0 q1
    exact ⟨(q.1.trans (up_ne (by omega)).symm), (q.2.1.trans (up_ne (by omega)).symm), (q.2.2.trans (up_ne (by omega)).symm)⟩
  · have q := h.2.2.1 p q0 q1
    exact ⟨(by rw [hp]; exact q.1), (q.2.trans (up_ne (by omega)).symm)⟩
  · have q := h.2.2.2.1 i q0 q1
    exact (q.trans (up_ne (by omega)).symm)
  · have q := h.2.2.2.2.1 i q0 q1
    exact (q.trans (up_ne (by omega)).symm)
  · have q := h.2.2.2.2.2.1 i q0 q1
    exact ⟨(q.1.trans (up_ne (by omega)).symm), (q.2.1.trans (up_ne (by omega)).symm), (q.2.2.trans (up_ne (by omega)).symm)⟩
  · exact ⟨(by unfold r_open; rw [up_ne (by omega)]; exact h.2.2.2.2.2.2.1), (h.2.2.2.2.2.2.2.1.trans (up_ne (by omega)).symm), (h.2.2.2.2.2.2.2.2.1.trans (up_ne (by omega)).symm), (h.2.2.2.2.2.2.2.2.2.1.trans (up_ne (by omega)).symm), (h.2.2.2.2.2.2.2.2.2.2.1.trans (up_ne (by omega)).symm), (h.2.2.2.2.2.2.2.2.2.2.2.1.trans (up_ne (by omega)).symm), (h.2.2.2.2.2.2.2.2.2.2.2.2.trans (up_ne (by omega)).symm)⟩
theorem Rel.u7 (h : Rel F T) {x v : Int} (h0 : 0 ≤ x) (h1 : x < 48) : Rel (up F (3 * x + 66) v) (upT T 7 (up (T 7) x v)) := by
  have hc : ∀ b, 0 ≤ b → b < 6 → r_cnt (up F (3 * x + 66) v) b (-1) = r_cnt F b (-1) := fun b _ _ => cnt_congr (fun j _ _ => up_ne (by omega))
  have hp : ∀ p, r_at (up F (3 * x + 66) v) p = r_at F p := fun p => at_congr (fun j _ _ => up_ne (by omega))
  refine ⟨fun b q0 q1 => ?_, fun k q0 q1 => ?_, fun p q0 q1 => ?_, fun i q0 q1 => ?_, fun i q0 q1 => ?_, fun i q0 q1 => ?_, ?_⟩
  · have q := h.1 b q0 q1
    exact ⟨(q.1.trans (up_ne (by omega)).symm), (q.2.1.trans (up_ne (by omega)).symm), (q.2.2.1.trans (up_ne (by omega)).symm), (q.2.2.2.1.trans (up_ne (by omega)).symm), (by rw [hc b q0 q1]; exact q.2.2.2.2)⟩
  · have q := h.2.1 k q0 q1
    exact ⟨(q.1.trans (up_ne (by omega)).symm), (show up (T 7) x v k = up F _ v _ from up_row (by omega) (q.2.1)), (q.2.2.trans (up_ne (by omega)).symm)⟩
  · have q := h.2.2.1 p q0 q1
    exact ⟨(by rw [hp]; exact q.1), (q.2.trans (up_ne (by omega)).symm)⟩
  · have q := h.2.2.2.1 i q0 q1
    exact (q.trans (up_ne (by omega)).symm)
  · have q := h.2.2.2.2.1 i q0 q1
    exact (q.trans (up_ne (by omega)).symm)
  · have q := h.2.2.2.2.2.1 i q0 q1
    exact ⟨(q.1.trans (up_ne (by omega)).symm), (q.2.1.trans (up_ne (by omega)).symm), (q.2.2.trans (up_ne (by omega)).symm)⟩
  · exact ⟨(by unfold r_open; rw [up_ne (by omega)]; exact h.2.2.2.2.2.2.1), (h.2.2.2.2.2.2.2.1.trans (up_ne (by omega)).symm), (h.2.2.2.2.2.2.2.2.1.trans (up_ne (by omega)).symm), (h.2.2.2.2.2.2.2.2.2.1.trans (up_ne (by omega)).symm), (h.2.2.2.2.2.2.2.2.2.2.1.trans (up_ne (by omega)).symm), (h.2.2.2.2.2.2.2.2.2.2.2.1.trans (up_ne (by omega)).symm), (h.2.2.2.2.2.2.2.2.2.2.2.2.trans (up_ne (by omega)).symm)⟩
theorem Rel.u8 (h : Rel F T) {x v : Int} (h0 : 0 ≤ x) (h1 : x < 48) : Rel (up F (3 * x + 67) v) (upT T 8 (up (T 8) x v)) := by
  have hc : ∀ b, 0 ≤ b → b < 6 → r_cnt (up F (3 * x + 67) v) b (-1) = r_cnt F b (-1) := fun b _ _ => cnt_congr (fun j _ _ => up_ne (by omega))
  have hp : ∀ p, r_at (up F (3 * x + 67) v) p = r_at F p := fun p => at_congr (fun j _ _ => up_ne (by omega))
  refine ⟨fun b q0 q1 => ?_, fun k q0 q1 => ?_, fun p q0 q1 => ?_, fun i q0 q1 => ?_, fun i q0 q1 => ?_, fun i q0 q1 => ?_, ?_⟩
  · have q := h.1 b q0 q1
    exact ⟨(q.1.trans (up_ne (by omega)).symm), (q.2.1.trans (up_ne (by omega)).symm), (q.2.2.1.trans (up_ne (by omega)).symm), (q.2.2.2.1.trans (up_ne (by omega)).symm), (by rw [hc b q0 q1]; exact q.2.2.2.2)⟩
  · have q := h.2.1 k q0 q1
    exact ⟨(q.1.trans (up_ne (by omega)).symm), (q.2.1.trans (up_ne (by omega)).symm), (show up (T 8) x v k = up F _ v _ from up_row (by omega) (q.2.2))⟩
  · have q := h.2.2.1 p q0 q1
    exact ⟨(by rw [hp]; exact q.1), (q.2.trans (up_ne (by omega)).symm)⟩
  · have q := h.2.2.2.1 i q0 q1
    exact (q.trans (up_ne (by omega)).symm)
  · have q := h.2.2.2.2.1 i q0 q1
    exact (q.trans (up_ne (by omega)).symm)
  · have q := h.2.2.2.2.2.1 i q0 q1
    exact ⟨(q.1.trans (up_ne (by omega)).symm), (q.2.1.trans (up_ne (by omega)).symm), (q.2.2.trans (up_ne (by omega)).symm)⟩
  · exact ⟨(by unfold r_open; rw [up_ne (by omega)]; exact h.2.2.2.2.2.2.1), (h.2.2.2.2.2.2.2.1.trans (up_ne (by omega)).symm), (h.2.2.2.2.2.2.2.2.1.trans (up_ne (by omega)).symm), (h.2.2.2.2.2.2.2.2.2.1.trans (up_ne (by omega)).symm), (h.2.2.2.2.2.2.2.2.2.2.1.trans (up_ne (by omega)).symm), (h.2.2.2.2.2.2.2.2.2.2.2.1.trans (up_ne (by omega)).symm), (h.2.2.2.2.2.2.2.2.2.2.2.2.trans (up_ne (by omega)).symm)⟩
theorem Rel.u10 (h : Rel F T) {x v : Int} (h0 : 0 ≤ x) (h1 : x < 24) : Rel (up F (x + 209) v) (upT T 10 (up (T 10) x v)) := by
  have hc : ∀ b, 0 ≤ b → b < 6 → r_cnt (up F (x + 209) v) b (-1) = r_cnt F b (-1) := fun b _ _ => cnt_congr (fun j _ _ => up_ne (by omega))
  have hp : ∀ p, r_at (up F (x + 209) v) p = r_at F p := fun p => at_congr (fun j _ _ => up_ne (by omega))
  refine ⟨fun b q0 q1 => ?_, fun k q0 q1 => ?_, fun p q0 q1 => ?_, fun i q0 q1 => ?_, fun i q0 q1 => ?_, fun i q0 q1 => ?_, ?_⟩
  · have q := h.1 b q0 q1
    exact ⟨(q.1.trans (up_ne (by omega)).symm), (q.2.1.trans (up_ne (by omega)).symm), (q.2.2.1.trans (up_ne (by omega)).symm), (q.2.2.2.1.trans (up_ne (by omega)).symm), (by rw [hc b q0 q1]; exact q.2.2.2.2)⟩
  · have q := h.2.1 k q0 q1
    exact ⟨(q.1.trans (up_ne (by omega)).symm), (q.2.1.trans (up_ne (by omega)).symm), (q.2.2.trans (up_ne (by omega)).symm)⟩
  · have q := h.2.2.1 p q0 q1
    exact ⟨(by rw [hp]; exact q.1), (show up (T 10) x v p = up F _ v _ from up_row (by omega) (q.2))⟩
  · have q := h.2.2.2.1 i q0 q1
    exact (q.trans (up_ne (by omega)).symm)
  · have q := h.2.2.2.2.1 i q0 q1
    exact (q.trans (up_ne (by omega)).symm)
  · have q := h.2.2.2.2.2.1 i q0 q1
    exact ⟨(q.1.trans (up_ne (by omega)).symm), (q.2.1.trans (up_ne (by omega)).symm), (q.2.2.trans (up_ne (by omega)).symm)⟩
  · exact ⟨(by unfold r_open; rw [up_ne (by omega)]; exact h.2.2.2.2.2.2.1), (h.2.2.2.2.2.2.2.1.trans (up_ne (by omega)).symm), (h.2.2.2.2.2.2.2.2.1.trans (up_ne (by omega)).symm), (h.2.2.2.2.2.2.2.2.2.1.trans (up_ne (by omega)).symm), (h.2.2.2.2.2.2.2.2.2.2.1.trans (up_ne (by omega)).symm), (h.2.2.2.2.2.2.2.2.2.2.2.1.trans (up_ne (by omega)).symm), (h.2.2.2.2.2.2.2.2.2.2.2.2.trans (up_ne (by omega)).symm)⟩
theorem Rel.u11 (h : Rel F T) {x v : Int} (h0 : 0 ≤ x) (h1 : x < 5) : Rel (up F (x + 1) v) (upT T 11 (up (T 11) x v)) := by
  have hc : ∀ b, 0 ≤ b → b < 6 → r_cnt (up F (x + 1) v) b (-1) = r_cnt F b (-1) := fun b _ _ => cnt_congr (fun j _ _ => up_ne (by omega))
  have hp : ∀ p, r_at (up F (x + 1) v) p = r_at F p := fun p => at_congr (fun j _ _ => up_ne (by omega))
  refine ⟨fun b q0 q1 => ?_, fun k q0 q1 => ?_, fun p q0 q1 => ?_, fun i q0 q1 => ?_, fun i q0 q1 => ?_, fun i q0 q1 => ?_, ?_⟩
  · have q := h.1 b q0 q1
    exact ⟨(q.1.trans (up_ne (by omega)).symm), (q.2.1.trans (up_ne (by omega)).symm), (q.2.2.1.trans (up_ne (by omega)).symm), (q.2.2.2.1.trans (up_ne (by omega)).symm), (by rw [hc b q0 q1]; exact q.2.2.2.2)⟩
  · have q := h.2.1 k q0 q1
    exact ⟨(q.1.trans (up_ne (by omega)).symm), (q.2.1.trans (up_ne (by omega)).symm), (q.2.2.trans (up_ne (by omega)).symm)⟩
  · have q := h.2.2.1 p q0 q1
    exact ⟨(by rw [hp]; exact q.1), (q.2.trans (up_ne (by omega)).symm)⟩
  · have q := h.2.2.2.1 i q0 q1
    exact (show up (T 11) x v i = up F _ v _ from up_row (by omega) (q))
  · have q := h.2.2.2.2.1 i q0 q1
    exact (q.trans (up_ne (by omega)).symm)
  · have q := h.2.2.2.2.2.1 i q0 q1
    exact ⟨(q.1.trans (up_ne (by omega)).symm), (q.2.1.trans (up_ne (by omega)).symm), (q.2.2.trans (up_ne (by omega)).symm)⟩
  · exact ⟨(by unfold r_open; rw [up_ne (by omega)]; exact h.2.2.2.2.2.2.1), (h.2.2.2.2.2.2.2.1.trans (up_ne (by omega)).symm), (h.2.2.2.2.2.2.2.2.1.trans (up_ne (by omega)).symm), (h.2.2.2.2.2.2.2.2.2.1.trans (up_ne (by omega)).symm), (h.2.2.2.2.2.2.2.2.2.2.1.trans (up_ne (by omega)).symm), (h.2.2.2.2.2.2.2.2.2.2.2.1.trans (up_ne (by omega)).symm), (h.2.2.2.2.2.2.2.2.2.2.2.2.trans (up_ne (by omega)).symm)⟩
theorem Rel.u14 (h : Rel F T) {x v : Int} (h0 : 0 ≤ x) (h1 : x < 4) : Rel (up F (x + 12) v) (upT T 14 (up (T 14) x v)) := by
  have hc : ∀ b, 0 ≤ b → b < 6 → r_cnt (up F (x + 12) v) b (-1) = r_cnt F b (-1) := fun b _ _ => cnt_congr (fun j _ _ => up_ne (by omega))
  have hp : ∀ p, r_at (up F (x + 12) v) p = r_at F p := fun p => at_congr (fun j _ _ => up_ne (by omega))
  refine ⟨fun b q0 q1 => ?_, fun k q0 q1 => ?_, fun p q0 q1 => ?_, fun i q0 q1 => ?_, fun i q0 q1 => ?_, fun i q0 q1 => ?_, ?_⟩
  · have q := h.1 b q0 q1
    exact ⟨(q.1.trans (up_ne (by omega)).symm), (q.2.1.trans (up_ne (by omega)).symm), (q.2.2.1.trans (up_ne (by omega)).symm), (q.2.2.2.1.trans (up_ne (by omega)).symm), (by rw [hc b q0 q1]; exact q.2.2.2.2)⟩
  · have q := h.2.1 k q0 q1
    exact ⟨(q.1.trans (up_ne (by omega)).symm), (q.2.1.trans (up_ne (by omega)).symm), (q.2.2.trans (up_ne (by omega)).symm)⟩
  · have q := h.2.2.1 p q0 q1
    exact ⟨(by rw [hp]; exact q.1), (q.2.trans (up_ne (by omega)).symm)⟩
  · have q := h.2.2.2.1 i q0 q1
    exact (q.trans (up_ne (by omega)).symm)
  · have q := h.2.2.2.2.1 i q0 q1
    exact (show up (T 14) x v i = up F _ v _ from up_row (by omega) (q))
  · have q := h.2.2.2.2.2.1 i q0 q1
    exact ⟨(q.1.trans (up_ne (by omega)).symm), (q.2.1.trans (up_ne (by omega)).symm), (q.2.2.trans (up_ne (by omega)).symm)⟩
  · exact ⟨(by unfold r_open; rw [up_ne (by omega)]; exact h.2.2.2.2.2.2.1), (h.2.2.2.2.2.2.2.1.trans (up_ne (by omega)).symm), (h.2.2.2.2.2.2.2.2.1.trans (up_ne (by omega)).symm), (h.2.2.2.2.2.2.2.2.2.1.trans (up_ne (by omega)).symm), (h.2.2.2.2.2.2.2.2.2.2.1.trans (up_ne (by omega)).symm), (h.2.2.2.2.2.2.2.2.2.2.2.1.trans (up_ne (by omega)).symm), (h.2.2.2.2.2.2.2.2.2.2.2.2.trans (up_ne (by omega)).symm)⟩
theorem Rel.u15 (h : Rel F T) {x v : Int} (h0 : 0 ≤ x) (h1 : x < 8) : Rel (up F (3 * x + 17) v) (upT T 15 (up (T 15) x v)) := by
  have hc : ∀ b, 0 ≤ b → b < 6 → r_cnt (up F (3 * x + 17) v) b (-1) = r_cnt F b (-1) := fun b _ _ => cnt_congr (fun j _ _ => up_ne (by omega))
  have hp : ∀ p, r_at (up F (3 * x + 17) v) p = r_at F p := fun p => at_congr (fun j _ _ => up_ne (by omega))
  refine ⟨fun b q0 q1 => ?_, fun k q0 q1 => ?_, fun p q0 q1 => ?_, fun i q0 q1 => ?_, fun i q0 q1 => ?_, fun i q0 q1 => ?_, ?_⟩
  · have q := h.1 b q0 q1
    exact ⟨(q.1.trans (up_ne (by omega)).symm), (q.2.1.trans (up_ne (by omega)).symm), (q.2.2.1.trans (up_ne (by omega)).symm), (q.2.2.2.1.trans (up_ne (by omega)).symm), (by rw [hc b q0 q1]; exact q.2.2.2.2)⟩
  · have q := h.2.1 k q0 q1
    exact ⟨(q.1.trans (up_ne (by omega)).symm), (q.2.1.trans (up_ne (by omega)).symm), (q.2.2.trans (up_ne (by omega)).symm)⟩
  · have q := h.2.2.1 p q0 q1
    exact ⟨(by rw [hp]; exact q.1), (q.2.trans (up_ne (by omega)).symm)⟩
  · have q := h.2.2.2.1 i q0 q1
    exact (q.trans (up_ne (by omega)).symm)
  · have q := h.2.2.2.2.1 i q0 q1
    exact (q.trans (up_ne (by omega)).symm)
  · have q := h.2.2.2.2.2.1 i q0 q1
    exact ⟨(show up (T 15) x v i = up F _ v _ from up_row (by omega) (q.1)), (q.2.1.trans (up_ne (by omega)).symm), (q.2.2.trans (up_ne (by omega)).symm)⟩
  · exact ⟨(by unfold r_open; rw [up_ne (by omega)]; exact h.2.2.2.2.2.2.1), (h.2.2.2.2.2.2.2.1.trans (up_ne (by omega)).symm), (h.2.2.2.2.2.2.2.2.1.trans (up_ne (by omega)).symm), (h.2.2.2.2.2.2.2.2.2.1.trans (up_ne (by omega)).symm), (h.2.2.2.2.2.2.2.2.2.2.1.trans (up_ne (by omega)).symm), (h.2.2.2.2.2.2.2.2.2.2.2.1.trans (up_ne (by omega)).symm), (h.2.2.2.2.2.2.2.2.2.2.2.2.trans (up_ne (by omega)).symm)⟩
theorem Rel.u16 (h : Rel F T) {x v : Int} (h0 : 0 ≤ x) (h1 : x < 8) : Rel (up F (3 * x + 18) v) (upT T 16 (up (T 16) x v)) := by
  have hc : ∀ b, 0 ≤ b → b < 6 → r_cnt (up F (3 * x + 18) v) b (-1) = r_cnt F b (-1) := fun b _ _ => cnt_congr (fun j _ _ => up_ne (by omega))
  have hp : ∀ p, r_at (up F (3 * x + 18) v) p = r_at F p := fun p => at_congr (fun j _ _ => up_ne (by omega))
  refine ⟨fun b q0 q1 => ?_, fun k q0 q1 => ?_, fun p q0 q1 => ?_, fun i q0 q1 => ?_, fun i q0 q1 => ?_, fun i q0 q1 => ?_, ?_⟩
  · have q := h.1 b q0 q1
    exact ⟨(q.1.trans (up_ne (by omega)).symm), (q.2.1.trans (up_ne (by omega)).symm), (q.2.2.1.trans (up_ne (by omega)).symm), (q.2.2.2.1.trans (up_ne (by omega)).symm), (by rw [hc b q0 q1]; exact q.2.2.2.2)⟩
  · have q := h.2.1 k q0 q1
    exact ⟨(q.1.trans (up_ne (by omega)).symm), (q.2.1.trans (up_ne (by omega)).symm), (q.2.2.trans (up_ne (by omega)).symm)⟩
  · have q := h.2.2.1 p q0 q1
    exact ⟨(by rw [hp]; exact q.1), (q.2.trans (up_ne (by omega)).symm)⟩
  · have q := h.2.2.2.1 i q0 q1
    exact (q.trans (up_ne (by omega)).symm)
  · have q := h.2.2.2.2.1 i q0 q1
    exact (q.trans (up_ne (by omega)).symm)
  · have q := h.2.2.2.2.2.1 i q0 q1
    exact ⟨(q.1.trans (up_ne (by omega)).symm), (show up (T 16) x v i = up F _ v _ from up_row (by omega) (q.2.1)), (q.2.2.trans (up_ne (by omega)).symm)⟩
  · exact ⟨(by unfold r_open; rw [up_ne (by omega)]; exact h.2.2.2.2.2.2.1), (h.2.2.2.2.2.2.2.1.trans (up_ne (by omega)).symm), (h.2.2.2.2.2.2.2.2.1.trans (up_ne (by omega)).symm), (h.2.2.2.2.2.2.2.2.2.1.trans (up_ne (by omega)).symm), (h.2.2.2.2.2.2.2.2.2.2.1.trans (up_ne (by omega)).symm), (h.2.2.2.2.2.2.2.2.2.2.2.1.trans (up_ne (by omega)).symm), (h.2.2.2.2.2.2.2.2.2.2.2.2.trans (up_ne (by omega)).symm)⟩
theorem Rel.u17 (h : Rel F T) {x v : Int} (h0 : 0 ≤ x) (h1 : x < 8) : Rel (up F (3 * x + 19) v) (upT T 17 (up (T 17) x v)) := by
  have hc : ∀ b, 0 ≤ b → b < 6 → r_cnt (up F (3 * x + 19) v) b (-1) = r_cnt F b (-1) := fun b _ _ => cnt_congr (fun j _ _ => up_ne (by omega))
  have hp : ∀ p, r_at (up F (3 * x + 19) v) p = r_at F p := fun p => at_congr (fun j _ _ => up_ne (by omega))
  refine ⟨fun b q0 q1 => ?_, fun k q0 q1 => ?_, fun p q0 q1 => ?_, fun i q0 q1 => ?_, fun i q0 q1 => ?_, fun i q0 q1 => ?_, ?_⟩
  · have q := h.1 b q0 q1
    exact ⟨(q.1.trans (up_ne (by omega)).symm), (q.2.1.trans (up_ne (by omega)).symm), (q.2.2.1.trans (up_ne (by omega)).symm), (q.2.2.2.1.trans (up_ne (by omega)).symm), (by rw [hc b q0 q1]; exact q.2.2.2.2)⟩
  · have q := h.2.1 k q0 q1
    exact ⟨(q.1.trans (up_ne (by omega)).symm), (q.2.1.trans (up_ne (by omega)).symm), (q.2.2.trans (up_ne (by omega)).symm)⟩
  · have q := h.2.2.1 p q0 q1
    exact ⟨(by rw [hp]; exact q.1), (q.2.trans (up_ne (by omega)).symm)⟩
  · have q := h.2.2.2.1 i q0 q1
    exact (q.trans (up_ne (by omega)).symm)
  · have q := h.2.2.2.2.1 i q0 q1
    exact (q.trans (up_ne (by omega)).symm)
  · have q := h.2.2.2.2.2.1 i q0 q1
    exact ⟨(q.1.trans (up_ne (by omega)).symm), (q.2.1.trans (up_ne (by omega)).symm), (show up (T 17) x v i = up F _ v _ from up_row (by omega) (q.2.2))⟩
  · exact ⟨(by unfold r_open; rw [up_ne (by omega)]; exact h.2.2.2.2.2.2.1), (h.2.2.2.2.2.2.2.1.trans (up_ne (by omega)).symm), (h.2.2.2.2.2.2.2.2.1.trans (up_ne (by omega)).symm), (h.2.2.2.2.2.2.2.2.2.1.trans (up_ne (by omega)).symm), (h.2.2.2.2.2.2.2.2.2.2.1.trans (up_ne (by omega)).symm), (h.2.2.2.2.2.2.2.2.2.2.2.1.trans (up_ne (by omega)).symm), (h.2.2.2.2.2.2.2.2.2.2.2.2.trans (up_ne (by omega)).symm)⟩
theorem Rel.u18 (h : Rel F T) {v u : Int} (hv : u = if v = -5 then -1 else v) : Rel (up F 6 v) (upT T 18 (fun _ => u)) := by
  have hc : ∀ b, 0 ≤ b → b < 6 → r_cnt (up F 6 v) b (-1) = r_cnt F b (-1) := fun b _ _ => cnt_congr (fun j _ _ => up_ne (by omega))
  have hp : ∀ p, r_at (up F 6 v) p = r_at F p := fun p => at_congr (fun j _ _ => up_ne (by omega))
  refine ⟨fun b q0 q1 => ?_, fun k q0 q1 => ?_, fun p q0 q1 => ?_, fun i q0 q1 => ?_, fun i q0 q1 => ?_, fun i q0 q1 => ?_, ?_⟩
  · have q := h.1 b q0 q1
    exact ⟨(q.1.trans (up_ne (by omega)).symm), (q.2.1.trans (up_ne (by omega)).symm), (q.2.2.1.trans (up_ne (by omega)).symm), (q.2.2.2.1.trans (up_ne (by omega)).symm), (by rw [hc b q0 q1]; exact q.2.2.2.2)⟩
  · have q := h.2.1 k q0 q1
    exact ⟨(q.1.trans (up_ne (by omega)).symm), (q.2.1.trans (up_ne (by omega)).symm), (q.2.2.trans (up_ne (by omega)).symm)⟩
  · have q := h.2.2.1 p q0 q1
    exact ⟨(by rw [hp]; exact q.1), (q.2.trans (up_ne (by omega)).symm)⟩
  · have q := h.2.2.2.1 i q0 q1
    exact (q.trans (up_ne (by omega)).symm)
  · have q := h.2.2.2.2.1 i q0 q1
    exact (q.trans (up_ne (by omega)).symm)
  · have q := h.2.2.2.2.2.1 i q0 q1
    exact ⟨(q.1.trans (up_ne (by omega)).symm), (q.2.1.trans (up_ne (by omega)).symm), (q.2.2.trans (up_ne (by omega)).symm)⟩
  · exact ⟨((by show _ = if up F 6 v 6 = -5 then -1 else up F 6 v 6; rw [up_eq rfl]; exact hv)), (h.2.2.2.2.2.2.2.1.trans (up_ne (by omega)).symm), (h.2.2.2.2.2.2.2.2.1.trans (up_ne (by omega)).symm), (h.2.2.2.2.2.2.2.2.2.1.trans (up_ne (by omega)).symm), (h.2.2.2.2.2.2.2.2.2.2.1.trans (up_ne (by omega)).symm), (h.2.2.2.2.2.2.2.2.2.2.2.1.trans (up_ne (by omega)).symm), (h.2.2.2.2.2.2.2.2.2.2.2.2.trans (up_ne (by omega)).symm)⟩
theorem Rel.u19 (h : Rel F T) {v : Int} : Rel (up F 0 v) (upT T 19 (fun _ => v)) := by
  have hc : ∀ b, 0 ≤ b → b < 6 → r_cnt (up F 0 v) b (-1) = r_cnt F b (-1) := fun b _ _ => cnt_congr (fun j _ _ => up_ne (by omega))
  have hp : ∀ p, r_at (up F 0 v) p = r_at F p := fun p => at_congr (fun j _ _ => up_ne (by omega))
  refine ⟨fun b q0 q1 => ?_, fun k q0 q1 => ?_, fun p q0 q1 => ?_, fun i q0 q1 => ?_, fun i q0 q1 => ?_, fun i q0 q1 => ?_, ?_⟩
  · have q := h.1 b q0 q1
    exact ⟨(q.1.trans (up_ne (by omega)).symm), (q.2.1.trans (up_ne (by omega)).symm), (q.2.2.1.trans (up_ne (by omega)).symm), (q.2.2.2.1.trans (up_ne (by omega)).symm), (by rw [hc b q0 q1]; exact q.2.2.2.2)⟩
  · have q := h.2.1 k q0 q1
    exact ⟨(q.1.trans (up_ne (by omega)).symm), (q.2.1.trans (up_ne (by omega)).symm), (q.2.2.trans (up_ne (by omega)).symm)⟩
  · have q := h.2.2.1 p q0 q1
    exact ⟨(by rw [hp]; exact q.1), (q.2.trans (up_ne (by omega)).symm)⟩
  · have q := h.2.2.2.1 i q0 q1
    exact (q.trans (up_ne (by omega)).symm)
  · have q := h.2.2.2.2.1 i q0 q1
    exact (q.trans (up_ne (by omega)).symm)
  · have q := h.2.2.2.2.2.1 i q0 q1
    exact ⟨(q.1.trans (up_ne (by omega)).symm), (q.2.1.trans (up_ne (by omega)).symm), (q.2.2.trans (up_ne (by omega)).symm)⟩
  · exact ⟨(by unfold r_open; rw [up_ne (by omega)]; exact h.2.2.2.2.2.2.1), ((up_eq rfl).symm), (h.2.2.2.2.2.2.2.2.1.trans (up_ne (by omega)).symm), (h.2.2.2.2.2.2.2.2.2.1.trans (up_ne (by omega)).symm), (h.2.2.2.2.2.2.2.2.2.2.1.trans (up_ne (by omega)).symm), (h.2.2.2.2.2.2.2.2.2.2.2.1.trans (up_ne (by omega)).symm), (h.2.2.2.2.2.2.2.2.2.2.2.2.trans (up_ne (by omega)).symm)⟩
theorem Rel.u20 (h : Rel F T) {v : Int} : Rel (up F 7 v) (upT T 20 (fun _ => v)) := by
  have hc : ∀ b, 0 ≤ b → b < 6 → r_cnt (up F 7 v) b (-1) = r_cnt F b (-1) := fun b _ _ => cnt_congr (fun j _ _ => up_ne (by omega))
  have hp : ∀ p, r_at (up F 7 v) p = r_at F p := fun p => at_congr (fun j _ _ => up_ne (by omega))
  refine ⟨fun b q0 q1 => ?_, fun k q0 q1 => ?_, fun p q0 q1 => ?_, fun i q0 q1 => ?_, fun i q0 q1 => ?_, fun i q0 q1 => ?_, ?_⟩
  · have q := h.1 b q0 q1
    exact ⟨(q.1.trans (up_ne (by omega)).symm), (q.2.1.trans (up_ne (by omega)).symm), (q.2.2.1.trans (up_ne (by omega)).symm), (q.2.2.2.1.trans (up_ne (by omega)).symm), (by rw [hc b q0 q1]; exact q.2.2.2.2)⟩
  · have q := h.2.1 k q0 q1
    exact ⟨(q.1.trans (up_ne (by omega)).symm), (q.2.1.trans (up_ne (by omega)).symm), (q.2.2.trans (up_ne (by omega)).symm)⟩
  · have q := h.2.2.1 p q0 q1
    exact ⟨(by rw [hp]; exact q.1), (q.2.trans (up_ne (by omega)).symm)⟩
  · have q := h.2.2.2.1 i q0 q1
    exact (q.trans (up_ne (by omega)).symm)
  · have q := h.2.2.2.2.1 i q0 q1
    exact (q.trans (up_ne (by omega)).symm)
  · have q := h.2.2.2.2.2.1 i q0 q1
    exact ⟨(q.1.trans (up_ne (by omega)).symm), (q.2.1.trans (up_ne (by omega)).symm), (q.2.2.trans (up_ne (by omega)).symm)⟩
  · exact ⟨(by unfold r_open; rw [up_ne (by omega)]; exact h.2.2.2.2.2.2.1), (h.2.2.2.2.2.2.2.1.trans (up_ne (by omega)).symm), ((up_eq rfl).symm), (h.2.2.2.2.2.2.2.2.2.1.trans (up_ne (by omega)).symm), (h.2.2.2.2.2.2.2.2.2.2.1.trans (up_ne (by omega)).symm), (h.2.2.2.2.2.2.2.2.2.2.2.1.trans (up_ne (by omega)).symm), (h.2.2.2.2.2.2.2.2.2.2.2.2.trans (up_ne (by omega)).symm)⟩
theorem Rel.u21 (h : Rel F T) {v : Int} : Rel (up F 8 v) (upT T 21 (fun _ => v)) := by
  have hc : ∀ b, 0 ≤ b → b < 6 → r_cnt (up F 8 v) b (-1) = r_cnt F b (-1) := fun b _ _ => cnt_congr (fun j _ _ => up_ne (by omega))
  have hp : ∀ p, r_at (up F 8 v) p = r_at F p := fun p => at_congr (fun j _ _ => up_ne (by omega))
  refine ⟨fun b q0 q1 => ?_, fun k q0 q1 => ?_, fun p q0 q1 => ?_, fun i q0 q1 => ?_, fun i q0 q1 => ?_, fun i q0 q1 => ?_, ?_⟩
  · have q := h.1 b q0 q1
    exact ⟨(q.1.trans (up_ne (by omega)).symm), (q.2.1.trans (up_ne (by omega)).symm), (q.2.2.1.trans (up_ne (by omega)).symm), (q.2.2.2.1.trans (up_ne (by omega)).symm), (by rw [hc b q0 q1]; exact q.2.2.2.2)⟩
  · have q := h.2.1 k q0 q1
    exact ⟨(q.1.trans (up_ne (by omega)).symm), (q.2.1.trans (up_ne (by omega)).symm), (q.2.2.trans (up_ne (by omega)).symm)⟩
  · have q := h.2.2.1 p q0 q1
    exact ⟨(by rw [hp]; exact q.1), (q.2.trans (up_ne (by omega)).symm)⟩
  · have q := h.2.2.2.1 i q0 q1
    exact (q.trans (up_ne (by omega)).symm)
  · have q := h.2.2.2.2.1 i q0 q1
    exact (q.trans (up_ne (by omega)).symm)
  · have q := h.2.2.2.2.2.1 i q0 q1
    exact ⟨(q.1.trans (up_ne (by omega)).symm), (q.2.1.trans (up_ne (by omega)).symm), (q.2.2.trans (up_ne (by omega)).symm)⟩
  · exact ⟨(by unfold r_open; rw [up_ne (by omega)]; exact h.2.2.2.2.2.2.1), (h.2.2.2.2.2.2.2.1.trans (up_ne (by omega)).symm), (h.2.2.2.2.2.2.2.2.1.trans (up_ne (by omega)).symm), ((up_eq rfl).symm), (h.2.2.2.2.2.2.2.2.2.2.1.trans (up_ne (by omega)).symm), (h.2.2.2.2.2.2.2.2.2.2.2.1.trans (up_ne (by omega)).symm), (h.2.2.2.2.2.2.2.2.2.2.2.2.trans (up_ne (by omega)).symm)⟩
theorem Rel.u22 (h : Rel F T) {v : Int} : Rel (up F 9 v) (upT T 22 (fun _ => v)) := by
  have hc : ∀ b, 0 ≤ b → b < 6 → r_cnt (up F 9 v) b (-1) = r_cnt F b (-1) := fun b _ _ => cnt_congr (fun j _ _ => up_ne (by omega))
  have hp : ∀ p, r_at (up F 9 v) p = r_at F p := fun p => at_congr (fun j _ _ => up_ne (by omega))
  refine ⟨fun b q0 q1 => ?_, fun k q0 q1 => ?_, fun p q0 q1 => ?_, fun i q0 q1 => ?_, fun i q0 q1 => ?_, fun i q0 q1 => ?_, ?_⟩
  · have q := h.1 b q0 q1
    exact ⟨(q.1.trans (up_ne (by omega)).symm), (q.2.1.trans (up_ne (by omega)).symm), (q.2.2.1.trans (up_ne (by omega)).symm), (q.2.2.2.1.trans (up_ne (by omega)).symm), (by rw [hc b q0 q1]; exact q.2.2.2.2)⟩
  · have q := h.2.1 k q0 q1
    exact ⟨(q.1.trans (up_ne (by omega)).symm), (q.2.1.trans (up_ne (by omega)).symm), (q.2.2.trans (up_ne (by omega)).symm)⟩
  · have q := h.2.2.1 p q0 q1
    exact ⟨(by rw [hp]; exact q.1), (q.2.trans (up_ne (by omega)).symm)⟩
  · have q := h.2.2.2.1 i q0 q1
    exact (q.trans (up_ne (by omega)).symm)
  · have q := h.2.2.2.2.1 i q0 q1
    exact (q.trans (up_ne (by omega)).symm)
  · have q := h.2.2.2.2.2.1 i q0 q1
    exact ⟨(q.1.trans (up_ne (by omega)).symm), (q.2.1.trans (up_ne (by omega)).symm), (q.2.2.trans (up_ne (by omega)).symm)⟩
  · exact ⟨(by unfold r_open; rw [up_ne (by omega)]; exact h.2.2.2.2.2.2.1), (h.2.2.2.2.2.2.2.1.trans (up_ne (by omega)).symm), (h.2.2.2.2.2.2.2.2.1.trans (up_ne (by omega)).symm), (h.2.2.2.2.2.2.2.2.2.1.trans (up_ne (by omega)).symm), ((up_eq rfl).symm), (h.2.2.2.2.2.2.2.2.2.2.2.1.trans (up_ne (by omega)).symm), (h.2.2.2.2.2.2.2.2.2.2.2.2.trans (up_ne (by omega)).symm)⟩
theorem Rel.u23 (h : Rel F T) {v : Int} : Rel (up F 11 v) (upT T 23 (fun _ => v)) := by
  have hc : ∀ b, 0 ≤ b → b < 6 → r_cnt (up F 11 v) b (-1) = r_cnt F b (-1) := fun b _ _ => cnt_congr (fun j _ _ => up_ne (by omega))
  have hp : ∀ p, r_at (up F 11 v) p = r_at F p := fun p => at_congr (fun j _ _ => up_ne (by omega))
  refine ⟨fun b q0 q1 => ?_, fun k q0 q1 => ?_, fun p q0 q1 => ?_, fun i q0 q1 => ?_, fun i q0 q1 => ?_, fun i q0 q1 => ?_, ?_⟩
  · have q := h.1 b q0 q1
    exact ⟨(q.1.trans (up_ne (by omega)).symm), (q.2.1.trans (up_ne (by omega)).symm), (q.2.2.1.trans (up_ne (by omega)).symm), (q.2.2.2.1.trans (up_ne (by omega)).symm), (by rw [hc b q0 q1]; exact q.2.2.2.2)⟩
  · have q := h.2.1 k q0 q1
    exact ⟨(q.1.trans (up_ne (by omega)).symm), (q.2.1.trans (up_ne (by omega)).symm), (q.2.2.trans (up_ne (by omega)).symm)⟩
  · have q := h.2.2.1 p q0 q1
    exact ⟨(by rw [hp]; exact q.1), (q.2.trans (up_ne (by omega)).symm)⟩
  · have q := h.2.2.2.1 i q0 q1
    exact (q.trans (up_ne (by omega)).symm)
  · have q := h.2.2.2.2.1 i q0 q1
    exact (q.trans (up_ne (by omega)).symm)
  · have q := h.2.2.2.2.2.1 i q0 q1
    exact ⟨(q.1.trans (up_ne (by omega)).symm), (q.2.1.trans (up_ne (by omega)).symm), (q.2.2.trans (up_ne (by omega)).symm)⟩
  · exact ⟨(by unfold r_open; rw [up_ne (by omega)]; exact h.2.2.2.2.2.2.1), (h.2.2.2.2.2.2.2.1.trans (up_ne (by omega)).symm), (h.2.2.2.2.2.2.2.2.1.trans (up_ne (by omega)).symm), (h.2.2.2.2.2.2.2.2.2.1.trans (up_ne (by omega)).symm), (h.2.2.2.2.2.2.2.2.2.2.1.trans (up_ne (by omega)).symm), ((up_eq rfl).symm), (h.2.2.2.2.2.2.2.2.2.2.2.2.trans (up_ne (by omega)).symm)⟩
theorem Rel.u24 (h : Rel F T) {v : Int} : Rel (up F 10 v) (upT T 24 (fun _ => v)) := by
  have hc : ∀ b, 0 ≤ b → b < 6 → r_cnt (up F 10 v) b (-1) = r_cnt F b (-1) := fun b _ _ => cnt_congr (fun j _ _ => up_ne (by omega))
  have hp : ∀ p, r_at (up F 10 v) p = r_at F p := fun p => at_congr (fun j _ _ => up_ne (by omega))
  refine ⟨fun b q0 q1 => ?_, fun k q0 q1 => ?_, fun p q0 q1 => ?_, fun i q0 q1 => ?_, fun i q0 q1 => ?_, fun i q0 q1 => ?_, ?_⟩
  · have q := h.1 b q0 q1
    exact ⟨(q.1.trans (up_ne (by omega)).symm), (q.2.1.trans (up_ne (by omega)).symm), (q.2.2.1.trans (up_ne (by omega)).symm), (q.2.2.2.1.trans (up_ne (by omega)).symm), (by rw [hc b q0 q1]; exact q.2.2.2.2)⟩
  · have q := h.2.1 k q0 q1
    exact ⟨(q.1.trans (up_ne (by omega)).symm), (q.2.1.trans (up_ne (by omega)).symm), (q.2.2.trans (up_ne (by omega)).symm)⟩
  · have q := h.2.2.1 p q0 q1
    exact ⟨(by rw [hp]; exact q.1), (q.2.trans (up_ne (by omega)).symm)⟩
  · have q := h.2.2.2.1 i q0 q1
    exact (q.trans (up_ne (by omega)).symm)
  · have q := h.2.2.2.2.1 i q0 q1
    exact (q.trans (up_ne (by omega)).symm)
  · have q := h.2.2.2.2.2.1 i q0 q1
    exact ⟨(q.1.trans (up_ne (by omega)).symm), (q.2.1.trans (up_ne (by omega)).symm), (q.2.2.trans (up_ne (by omega)).symm)⟩
  · exact ⟨(by unfold r_open; rw [up_ne (by omega)]; exact h.2.2.2.2.2.2.1), (h.2.2.2.2.2.2.2.1.trans (up_ne (by omega)).symm), (h.2.2.2.2.2.2.2.2.1.trans (up_ne (by omega)).symm), (h.2.2.2.2.2.2.2.2.2.1.trans (up_ne (by omega)).symm), (h.2.2.2.2.2.2.2.2.2.2.1.trans (up_ne (by omega)).symm), (h.2.2.2.2.2.2.2.2.2.2.2.1.trans (up_ne (by omega)).symm), ((up_eq rfl).symm)⟩
theorem Rel.u0 (h : Rel F T) {v : Int} : Rel (up F 16 v) (T) := by
  have hc : ∀ b, 0 ≤ b → b < 6 → r_cnt (up F 16 v) b (-1) = r_cnt F b (-1) := fun b _ _ => cnt_congr (fun j _ _ => up_ne (by omega))
  have hp : ∀ p, r_at (up F 16 v) p = r_at F p := fun p => at_congr (fun j _ _ => up_ne (by omega))
  refine ⟨fun b q0 q1 => ?_, fun k q0 q1 => ?_, fun p q0 q1 => ?_, fun i q0 q1 => ?_, fun i q0 q1 => ?_, fun i q0 q1 => ?_, ?_⟩
  · have q := h.1 b q0 q1
    exact ⟨(q.1.trans (up_ne (by omega)).symm), (q.2.1.trans (up_ne (by omega)).symm), (q.2.2.1.trans (up_ne (by omega)).symm), (q.2.2.2.1.trans (up_ne (by omega)).symm), (by rw [hc b q0 q1]; exact q.2.2.2.2)⟩
  · have q := h.2.1 k q0 q1
    exact ⟨(q.1.trans (up_ne (by omega)).symm), (q.2.1.trans (up_ne (by omega)).symm), (q.2.2.trans (up_ne (by omega)).symm)⟩
  · have q := h.2.2.1 p q0 q1
    exact ⟨(by rw [hp]; exact q.1), (q.2.trans (up_ne (by omega)).symm)⟩
  · have q := h.2.2.2.1 i q0 q1
    exact (q.trans (up_ne (by omega)).symm)
  · have q := h.2.2.2.2.1 i q0 q1
    exact (q.trans (up_ne (by omega)).symm)
  · have q := h.2.2.2.2.2.1 i q0 q1
    exact ⟨(q.1.trans (up_ne (by omega)).symm), (q.2.1.trans (up_ne (by omega)).symm), (q.2.2.trans (up_ne (by omega)).symm)⟩
  · exact ⟨(by unfold r_open; rw [up_ne (by omega)]; exact h.2.2.2.2.2.2.1), (h.2.2.2.2.2.2.2.1.trans (up_ne (by omega)).symm), (h.2.2.2.2.2.2.2.2.1.trans (up_ne (by omega)).symm), (h.2.2.2.2.2.2.2.2.2.1.trans (up_ne (by omega)).symm), (h.2.2.2.2.2.2.2.2.2.2.1.trans (up_ne (by omega)).symm), (h.2.2.2.2.2.2.2.2.2.2.2.1.trans (up_ne (by omega)).symm), (h.2.2.2.2.2.2.2.2.2.2.2.2.trans (up_ne (by omega)).symm)⟩
end RUP
