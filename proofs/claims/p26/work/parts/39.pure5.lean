/-! counts and the buffer -/
theorem wf_up {N : Int} {F G : Int → Int} (h : WF N F) (hN : N + 1 ≤ 200000000) (hb : ∀ i, -(N + 1) ≤ G i ∧ G i ≤ N + 1) (far : ∀ i, i ≠ 7 → i ≠ 8 → i < 209 → G i = F i) : WF (N + 1) G := by
  have hn := h.1
  refine h.tweak ⟨by omega, by omega⟩ hb ⟨far 1 (by omega) (by omega) (by omega), far 2 (by omega) (by omega) (by omega), far 3 (by omega) (by omega) (by omega), far 4 (by omega) (by omega) (by omega), far 5 (by omega) (by omega) (by omega)⟩ (by rw [far 6 (by omega) (by omega) (by omega)]; exact h.op) (by rw [far 11 (by omega) (by omega) (by omega)]; exact h.he) (fun b h0 h1 => ?_) (fun k h0 h1 => ?_) ⟨far 10 (by omega) (by omega) (by omega), far 16 (by omega) (by omega) (by omega)⟩
  · rw [far (4 * b + 41) (by omega) (by omega) (by omega), far (4 * b + 42) (by omega) (by omega) (by omega), far (4 * b + 43) (by omega) (by omega) (by omega)]
    exact ⟨rfl, rfl, (h.bl h0 h1).2.2.2⟩
  · rw [far (3 * k + 65) (by omega) (by omega) (by omega), far (3 * k + 66) (by omega) (by omega) (by omega)]
    exact ⟨rfl, rfl⟩
theorem wf_counts0 {N : Int} {F : Int → Int} {v : Int} (h : WF N F) (hv : 0 ≤ v ∧ v ≤ 23) (hN : N + 1 ≤ 200000000) : WF (N + 1) (up (up (up F 8 (F 8 + 1)) 7 (F 7 + 1)) (v + 209) (F (v + 209) + 1)) := by
  refine wf_up h hN (fun i => ?_) (fun i a b c => by rw [up_ne (by omega), up_ne a, up_ne b])
  have b7 := h.2.1 7
  have b8 := h.2.1 8
  have bv := h.2.1 (v + 209)
  have bi := h.2.1 i
  by_cases c1 : i = v + 209
  · rw [up_eq c1]; omega
  · rw [up_ne c1]
    by_cases c2 : i = 7
    · rw [up_eq c2]; omega
    · rw [up_ne c2]
      by_cases c3 : i = 8
      · rw [up_eq c3]; omega
      · rw [up_ne c3]; omega
theorem wf_counts1 {N : Int} {F : Int → Int} {v : Int} (h : WF N F) (hv : 0 ≤ v ∧ v ≤ 23) (hN : N + 1 ≤ 200000000) : WF (N + 1) (up (up F 7 (F 7 + 1)) (v + 209) (F (v + 209) + 1)) := by
  refine wf_up h hN (fun i => ?_) (fun i a b c => by rw [up_ne (by omega), up_ne a])
  have b7 := h.2.1 7
  have bv := h.2.1 (v + 209)
  have bi := h.2.1 i
  by_cases c1 : i = v + 209
  · rw [up_eq c1]; omega
  · rw [up_ne c1]
    by_cases c2 : i = 7
    · rw [up_eq c2]; omega
    · rw [up_ne c2]; omega
/-- counted first, then put in front *or* the other way round -/
theorem read3_any {N : Int} {F G : Int → Int} {v c : Int} (h : WF N F) (hv : 0 ≤ v ∧ v ≤ 23) (far : ∀ i, i ≠ 7 → i ≠ 8 → i ≠ v + 209 → G i = F i) (e7 : G 7 = F 7 + 1) (e8 : G 8 = F 8 + (if c = 0 then 1 else 0)) (ev : G (v + 209) = F (v + 209) + 1) (i : Int) : r_read3 F v c i = r_fronts G v i := by
  have hse := h.se
  have hhe := h.he
  have hf : ∀ i, (i < 11 ∨ 16 ≤ i) → r_fronts F v i = F i := fun i hi => frs_far hhe (by omega) hi
  have hg : ∀ i, (i < 11 ∨ 16 ≤ i) → r_fronts G v i = G i := fun i hi => frs_far (by rw [far 11 (by omega) (by omega) (by omega), far 4 (by omega) (by omega) (by omega)]; exact hhe) (by rw [far 4 (by omega) (by omega) (by omega)]; omega) hi
  unfold r_read3
  by_cases c1 : i = v + 209
  · rw [up_eq c1, hf _ (by omega), c1, hg _ (by omega), ev]
  · rw [up_ne c1]
    by_cases c2 : i = 8
    · rw [up_eq c2, hf _ (by omega), c2, hg _ (by omega), e8]
    · rw [up_ne c2]
      by_cases c3 : i = 7
      · rw [up_eq c3, hf _ (by omega), c3, hg _ (by omega), e7]
      · rw [up_ne c3]
        by_cases c4 : i < 11 ∨ 16 ≤ i
        · rw [hf _ c4, hg _ c4, far i c3 c2 c1]
        · exact (fronts_congr hhe (by omega) (far 4 (by omega) (by omega) (by omega)) (fun j a0 a1 => far j (by omega) (by omega) (by omega)) v (by omega) (by omega)).symm
theorem read3_0 {N : Int} {F : Int → Int} {v : Int} (h : WF N F) (hv : 0 ≤ v ∧ v ≤ 23) (i : Int) : r_read3 F v 0 i = r_fronts (up (up (up F 8 (F 8 + 1)) 7 (F 7 + 1)) (v + 209) (F (v + 209) + 1)) v i :=
  read3_any h hv (fun i a b c => by rw [up_ne c, up_ne a, up_ne b]) (by rw [up_ne (by omega), up_eq rfl]) (by rw [up_ne (by omega), up_ne (by omega), up_eq rfl, if_pos rfl]) (up_eq rfl) i
theorem read3_1 {N : Int} {F : Int → Int} {v : Int} (h : WF N F) (hv : 0 ≤ v ∧ v ≤ 23) (i : Int) : r_read3 F v 1 i = r_fronts (up (up F 7 (F 7 + 1)) (v + 209) (F (v + 209) + 1)) v i :=
  read3_any h hv (fun i a b c => by rw [up_ne c, up_ne a]) (by rw [up_ne (by omega), up_eq rfl]) (by rw [up_ne (by omega), up_ne (by omega), if_neg (by omega)]; omega) (up_eq rfl) i
theorem read3_2 {N : Int} {F : Int → Int} {v : Int} (h : WF N F) (hv : 0 ≤ v ∧ v ≤ 23) (i : Int) : r_read3 F v 2 i = r_fronts (up (up F 7 (F 7 + 1)) (v + 209) (F (v + 209) + 1)) v i :=
  read3_any h hv (fun i a b c => by rw [up_ne c, up_ne a]) (by rw [up_ne (by omega), up_eq rfl]) (by rw [up_ne (by omega), up_ne (by omega), if_neg (by omega)]; omega) (up_eq rfl) i
