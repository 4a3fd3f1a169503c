def r_calls (F : Int → Int) : Int := fo 6 0 0 (fun b n => n + F (4 * b + 43))
theorem WF.mono {N M : Int} {F : Int → Int} (h : WF N F) (h1 : N ≤ M) (h2 : M ≤ 200000000) : WF M F := ⟨⟨by have := h.1; omega, h2⟩, fun i => by have := h.2.1 i; omega, h.2.2⟩
theorem WF.cast {N M : Int} {F : Int → Int} (h : WF N F) (h1 : N = M) : WF M F := h1 ▸ h
theorem bd_opens {F : Int → Int} (h : Bd F) : Bd (r_opens F) := by
  have hb := best_rg F
  unfold r_opens
  split
  · exact h.up (by omega)
  · exact h
theorem bd_stales {F : Int → Int} {v : Int} (h : Bd F) : Bd (r_stales F v) := by
  unfold r_stales
  split
  · exact h
  · exact h.up (by omega)
theorem spot_ok {N : Int} {F : Int → Int} {v : Int} (h : WF N F) (hv : 0 ≤ v ∧ v ≤ 23) (hr : ¬ (P_full F ∧ r_best F = -5)) : r_spot (r_stales (r_opens F) v) ≠ -5 := (givesK_rg h hv.1 hr).2.2.2.1
theorem opens_rg {N : Int} {F : Int → Int} (h : WF N F) (hr : ¬ (P_full F ∧ r_best F = -5)) : 0 ≤ r_opens F 6 ∧ r_opens F 6 ≤ 5 := by
  have ho := h.op
  have hb := best_rg F
  unfold r_opens
  by_cases hp : P_full F
  · rw [if_pos hp, up_eq rfl]
    have h1 : r_best F ≠ -5 := fun q => hr ⟨hp, q⟩
    omega
  · rw [if_neg hp]
    have h1 : F 6 ≠ -5 := fun q => hp (Or.inl q)
    omega
theorem stales_6 (F : Int → Int) (v : Int) : r_stales F v 6 = F 6 := by
  have hp := placeOf_rg F v
  unfold r_stales
  split
  · rfl
  · exact up_ne (by omega)
theorem reads_G {F G : Int → Int} {j v : Int} {n : Nat} (hG : ∀ i, F i ≤ G i ∧ G i ≤ F i + 8 * (8 - ((n + 1 : Nat) : Int))) (hv : G j ≤ v ∧ v ≤ G j + 8) : ∀ i, F i ≤ up G j v i ∧ up G j v i ≤ F i + 8 * (8 - (n : Int)) := by
  intro i
  have h1 := hG i
  by_cases hi : i = j
  · rw [up_eq hi]; rw [hi] at h1; rw [hi]; omega
  · rw [up_ne hi]; omega
theorem WF.tweak {N M : Int} {F G : Int → Int} (h : WF N F) (hM : N ≤ M ∧ M ≤ 200000000) (hb : ∀ i, -M ≤ G i ∧ G i ≤ M) (hs : G 1 = F 1 ∧ G 2 = F 2 ∧ G 3 = F 3 ∧ G 4 = F 4 ∧ G 5 = F 5) (ho : G 6 = -5 ∨ 0 ≤ G 6 ∧ G 6 ≤ 5) (he : 0 ≤ G 11 ∧ G 11 ≤ F 4) (hbl : ∀ b, 0 ≤ b → b < 6 → G (4 * b + 41) = F (4 * b + 41) ∧ G (4 * b + 42) = F (4 * b + 42) ∧ 0 ≤ G (4 * b + 43) ∧ G (4 * b + 43) ≤ 1) (hp : ∀ k, 0 ≤ k → k < 48 → G (3 * k + 65) = F (3 * k + 65) ∧ G (3 * k + 66) = F (3 * k + 66)) (hl : G 10 = F 10 ∧ G 16 = F 16) : WF M G := by
  refine ⟨⟨by have := h.1; omega, hM.2⟩, hb, ?_, ho, ?_, fun b h0 h1 => ?_, fun k h0 h1 => ?_, fun j k a0 a1 b0 b1 q0 q1 => ?_, fun k h0 h1 q0 q1 => ?_, ?_⟩
  · obtain ⟨e1, e2, e3, e4, e5⟩ := hs
    rw [e1, e2, e3, e4, e5]; exact h.se
  · rw [hs.2.2.2.1]; exact he
  · have e := hbl b h0 h1
    have q := h.bl h0 h1
    rw [e.1, e.2.1]
    exact ⟨q.1, q.2.1, q.2.2.1, e.2.2⟩
  · have e := hp k h0 h1
    have q := h.pl h0 h1
    have eb : r_bears G (k / 8) = r_bears F (k / 8) := by
      have e2 := hbl (k / 8) (by omega) (by omega)
      unfold r_bears
      rw [e2.1, e2.2.1]
    rw [e.1, e.2, eb]
    exact q
  · rw [(hp j a0 a1).1] at q0 q1
    rw [(hp k b0 b1).1] at q1
    exact h.un a0 a1 b0 b1 q0 q1
  · rw [(hp k h0 h1).1] at q0
    by_cases hk : k = 47
    · exact absurd (by omega) q1
    · have := (hp (k + 1) (by omega) (by omega)).1
      rw [show 3 * (k + 1) + 65 = 3 * k + 68 from by omega] at this
      rw [this]
      exact h.fl h0 h1 q0 q1
  · rw [hl.1, hl.2]; exact h.lo
theorem wf_leaves {N : Int} {F : Int → Int} (h : WF N F) (v : Int) : WF N (r_leaves F v) := by
  have hn := h.1
  have hbb := h.2.1
  have hop := h.op
  have hhe := h.he
  have hse := h.se
  have hb := buf_rg F v
  have far : ∀ i, (i < 11 ∨ 16 ≤ i) → r_leaves F v i = F i := fun i hi => lvs_far (by omega) v hi
  refine h.tweak ⟨by omega, by omega⟩ (fun i => ?_) ⟨far _ (by omega), far _ (by omega), far _ (by omega), far _ (by omega), far _ (by omega)⟩ (by rw [far _ (by omega)]; exact hop) ?_ (fun b h0 h1 => by rw [far _ (by omega), far _ (by omega), far _ (by omega)]; exact ⟨rfl, rfl, (h.bl h0 h1).2.2.2⟩) (fun k h0 h1 => by rw [far _ (by omega), far _ (by omega)]; exact ⟨rfl, rfl⟩) (by rw [far _ (by omega), far _ (by omega)]; exact ⟨rfl, rfl⟩)
  · by_cases hi : i = 11
    · rw [hi, leaves_11]
      have := hbb 11
      split <;> omega
    · exact leaves_in (P := fun x => -N ≤ x ∧ x ≤ N) hbb v hi
  · rw [leaves_11]
    split <;> omega
theorem wf_fronts {N : Int} {F : Int → Int} {v : Int} (h : WF N F) (hv : 0 ≤ v ∧ v ≤ 23) : WF N (r_fronts F v) := by
  have hn := h.1
  have hbb := h.2.1
  have hop := h.op
  have hhe := h.he
  have hse := h.se
  have far : ∀ i, (i < 11 ∨ 16 ≤ i) → r_fronts F v i = F i := fun i hi => frs_far hhe (by omega) hi
  have h11 := fronts_11 (p := v) hhe (by omega)
  refine h.tweak ⟨by omega, by omega⟩ (fun i => ?_) ⟨far _ (by omega), far _ (by omega), far _ (by omega), far _ (by omega), far _ (by omega)⟩ (by rw [far _ (by omega)]; exact hop) h11 (fun b h0 h1 => by rw [far _ (by omega), far _ (by omega), far _ (by omega)]; exact ⟨rfl, rfl, (h.bl h0 h1).2.2.2⟩) (fun k h0 h1 => by rw [far _ (by omega), far _ (by omega)]; exact ⟨rfl, rfl⟩) (by rw [far _ (by omega), far _ (by omega)]; exact ⟨rfl, rfl⟩)
  by_cases hi : i = 11
  · rw [hi]; omega
  · exact fronts_in (P := fun x => -N ≤ x ∧ x ≤ N) hbb (by omega) hhe (by omega) hi
theorem wf_op6 {N : Int} {F : Int → Int} {v : Int} (h : WF N F) (hv : v = -5 ∨ 0 ≤ v ∧ v ≤ 5) : WF N (up F 6 v) := by
  have hn := h.1
  refine h.tweak ⟨by omega, by omega⟩ (fun i => ?_) ⟨up_ne (by omega), up_ne (by omega), up_ne (by omega), up_ne (by omega), up_ne (by omega)⟩ (by rw [up_eq rfl]; exact hv) (by rw [up_ne (by omega)]; exact h.he) (fun b h0 h1 => by rw [up_ne (by omega), up_ne (by omega), up_ne (by omega)]; exact ⟨rfl, rfl, (h.bl h0 h1).2.2.2⟩) (fun k h0 h1 => by rw [up_ne (by omega), up_ne (by omega)]; exact ⟨rfl, rfl⟩) (by rw [up_ne (by omega), up_ne (by omega)]; exact ⟨rfl, rfl⟩)
  by_cases hi : i = 6
  · rw [up_eq hi]; omega
  · rw [up_ne hi]; exact h.2.1 i
/-- a number that no rule speaks of grows -/
theorem wf_cnt {N : Int} {F : Int → Int} {j v : Int} (h : WF N F) (hN : N + 1 ≤ 200000000) (hj : j = 0 ∨ j = 7 ∨ j = 8 ∨ j = 9 ∨ 209 ≤ j) (hv : -(N + 1) ≤ v ∧ v ≤ N + 1) : WF (N + 1) (up F j v) := by
  have hn := h.1
  have hop := h.op
  refine h.tweak ⟨by omega, by omega⟩ (fun i => ?_) ⟨up_ne (by omega), up_ne (by omega), up_ne (by omega), up_ne (by omega), up_ne (by omega)⟩ (by rw [up_ne (by omega)]; exact hop) (by rw [up_ne (by omega)]; exact h.he) (fun b h0 h1 => by rw [up_ne (by omega), up_ne (by omega), up_ne (by omega)]; exact ⟨rfl, rfl, (h.bl h0 h1).2.2.2⟩) (fun k h0 h1 => by rw [up_ne (by omega), up_ne (by omega)]; exact ⟨rfl, rfl⟩) (by rw [up_ne (by omega), up_ne (by omega)]; exact ⟨rfl, rfl⟩)
  by_cases hi : i = j
  · rw [up_eq hi]; exact hv
  · rw [up_ne hi]; have := h.2.1 i; omega
theorem wf_stale_at {N : Int} {F : Int → Int} {k : Int} (h : WF N F) (hk : 0 ≤ k ∧ k < 48) (hp : k % 8 ≠ 0 → F (3 * k + 62) ≠ -1) : WF N (up F (3 * k + 65) (-2)) := by
  have hn := h.1
  refine ⟨hn, fun i => ?_, ?_, ?_, ?_, fun b h0 h1 => ?_, fun j h0 h1 => ?_, fun i j a0 a1 b0 b1 q0 q1 => ?_, fun j h0 h1 q0 q1 => ?_, ?_⟩
  · by_cases hi : i = 3 * k + 65
    · rw [up_eq hi]; omega
    · rw [up_ne hi]; exact h.2.1 i
  · rw [up_ne (by omega), up_ne (by omega), up_ne (by omega), up_ne (by omega), up_ne (by omega)]; exact h.se
  · rw [up_ne (by omega)]; exact h.op
  · rw [up_ne (by omega), up_ne (by omega)]; exact h.he
  · rw [up_ne (by omega), up_ne (by omega), up_ne (by omega)]; exact h.bl h0 h1
  · have hp := h.pl h0 h1
    rw [bears_congr (F := F) (G := up F (3 * k + 65) (-2)) (b := j / 8) (up_ne (by omega)) (up_ne (by omega)), up_ne (show 3 * j + 66 ≠ 3 * k + 65 from by omega)]
    by_cases hj : j = k
    · rw [up_eq (show 3 * j + 65 = 3 * k + 65 from by omega)]
      exact ⟨by omega, by omega, hp.2.2.1, fun q => by omega, hp.2.2.2.2⟩
    · rw [up_ne (show 3 * j + 65 ≠ 3 * k + 65 from by omega)]; exact hp
  · by_cases hi : i = k
    · rw [up_eq (show 3 * i + 65 = 3 * k + 65 from by omega)] at q0; omega
    · rw [up_ne (show 3 * i + 65 ≠ 3 * k + 65 from by omega)] at q0 q1
      by_cases hj : j = k
      · rw [up_eq (show 3 * j + 65 = 3 * k + 65 from by omega)] at q1; omega
      · rw [up_ne (show 3 * j + 65 ≠ 3 * k + 65 from by omega)] at q1
        exact h.un a0 a1 b0 b1 q0 q1
  · by_cases hj : j = k
    · rw [up_eq (show 3 * j + 65 = 3 * k + 65 from by omega)] at q0; omega
    · rw [up_ne (show 3 * j + 65 ≠ 3 * k + 65 from by omega)] at q0
      by_cases hj2 : j + 1 = k
      · exact absurd q0 (by have := hp (by omega); rw [show 3 * j + 65 = 3 * k + 62 from by omega]; exact this)
      · rw [up_ne (by omega)]
        exact h.fl h0 h1 q0 q1
  · rw [up_ne (by omega), up_ne (by omega)]; exact h.lo
theorem wf_puts_at {N : Int} {F : Int → Int} {k v c : Int} (h : WF N F) (hk : 0 ≤ k ∧ k < 48) (hv : 0 ≤ v ∧ v ≤ 23) (hc : -N ≤ c ∧ c ≤ N) (hp : k % 8 ≠ 0 → F (3 * k + 62) ≠ -1) (hno : ∀ j, 0 ≤ j → j < 48 → F (3 * j + 65) ≠ v) : WF N (up (up (up F (3 * k + 65) v) (3 * k + 66) 0) (3 * k + 67) c) := by
  have hn := h.1
  have far : ∀ i, i ≠ 3 * k + 65 → i ≠ 3 * k + 66 → i ≠ 3 * k + 67 → up (up (up F (3 * k + 65) v) (3 * k + 66) 0) (3 * k + 67) c i = F i := fun i a b d => by rw [up_ne d, up_ne b, up_ne a]
  have hh : ∀ j, 0 ≤ j → up (up (up F (3 * k + 65) v) (3 * k + 66) 0) (3 * k + 67) c (3 * j + 65) = if j = k then v else F (3 * j + 65) := fun j hj => by
    by_cases q : j = k
    · rw [if_pos q, up_ne (by omega), up_ne (by omega), up_eq (by omega)]
    · rw [if_neg q, far _ (by omega) (by omega) (by omega)]
  have hw : ∀ j, 0 ≤ j → up (up (up F (3 * k + 65) v) (3 * k + 66) 0) (3 * k + 67) c (3 * j + 66) = if j = k then 0 else F (3 * j + 66) := fun j hj => by
    by_cases q : j = k
    · rw [if_pos q, up_ne (by omega), up_eq (by omega)]
    · rw [if_neg q, far _ (by omega) (by omega) (by omega)]
  refine ⟨hn, fun i => ?_, ?_, ?_, ?_, fun b h0 h1 => ?_, fun j h0 h1 => ?_, fun i j a0 a1 b0 b1 q0 q1 => ?_, fun j h0 h1 q0 q1 => ?_, ?_⟩
  · by_cases h1 : i = 3 * k + 67
    · rw [up_eq h1]; exact hc
    · rw [up_ne h1]
      by_cases h2 : i = 3 * k + 66
      · rw [up_eq h2]; omega
      · rw [up_ne h2]
        by_cases h3 : i = 3 * k + 65
        · rw [up_eq h3]; omega
        · rw [up_ne h3]; exact h.2.1 i
  · rw [far 1 (by omega) (by omega) (by omega), far 2 (by omega) (by omega) (by omega), far 3 (by omega) (by omega) (by omega), far 4 (by omega) (by omega) (by omega), far 5 (by omega) (by omega) (by omega)]; exact h.se
  · rw [far 6 (by omega) (by omega) (by omega)]; exact h.op
  · rw [far 11 (by omega) (by omega) (by omega), far 4 (by omega) (by omega) (by omega)]; exact h.he
  · rw [far (4 * b + 41) (by omega) (by omega) (by omega), far (4 * b + 42) (by omega) (by omega) (by omega), far (4 * b + 43) (by omega) (by omega) (by omega)]; exact h.bl h0 h1
  · have hp := h.pl h0 h1
    have hbe := bears_rg h (b := j / 8) (by omega) (by omega)
    rw [bears_congr (F := F) (G := up (up (up F (3 * k + 65) v) (3 * k + 66) 0) (3 * k + 67) c) (b := j / 8) (far _ (by omega) (by omega) (by omega)) (far _ (by omega) (by omega) (by omega)), hh j h0, hw j h0]
    by_cases hj : j = k
    · rw [if_pos hj, if_pos hj]
      exact ⟨by omega, by omega, by omega, fun q => by omega, by omega⟩
    · rw [if_neg hj, if_neg hj]; exact hp
  · rw [hh i a0] at q0 q1
    rw [hh j b0] at q1
    by_cases hi : i = k
    · by_cases hj : j = k
      · rw [hi, hj]
      · rw [if_pos hi, if_neg hj] at q1
        exact absurd q1.symm (hno j b0 b1)
    · rw [if_neg hi] at q0 q1
      by_cases hj : j = k
      · rw [if_pos hj] at q1
        exact absurd q1 (hno i a0 a1)
      · rw [if_neg hj] at q1
        exact h.un a0 a1 b0 b1 q0 q1
  · rw [hh j h0] at q0
    by_cases hj : j = k
    · rw [if_pos hj] at q0; omega
    · rw [if_neg hj] at q0
      by_cases hj2 : j + 1 = k
      · exact absurd q0 (by have := hp (by omega); rw [show 3 * j + 65 = 3 * k + 62 from by omega]; exact this)
      · rw [far _ (by omega) (by omega) (by omega)]
        exact h.fl h0 h1 q0 q1
  · rw [far 10 (by omega) (by omega) (by omega), far 16 (by omega) (by omega) (by omega)]; exact h.lo
theorem wf_opens {N : Int} {F : Int → Int} (h : WF N F) : WF N (r_opens F) := by
  have hb := best_rg F
  unfold r_opens
  split
  · exact wf_op6 h (by omega)
  · exact h
theorem wf_stales {N : Int} {F : Int → Int} (h : WF N F) (v : Int) : WF N (r_stales F v) := by
  unfold r_stales
  by_cases hp : r_placeOf F v = -5
  · rw [if_pos hp]; exact h
  · rw [if_neg hp]
    have hf := fi_first (n := 48) (i := 0) (d := -5) (p := p_hold F v) hp
    have hh := pl_hold hp
    refine wf_stale_at h ⟨hh.1, hh.2.1⟩ (fun h8 q => ?_)
    have e := h.fl (k := r_placeOf F v - 1) (by omega) (by omega) (by rw [show 3 * (r_placeOf F v - 1) + 65 = 3 * r_placeOf F v + 62 from by omega]; exact q) (by omega)
    rw [show 3 * (r_placeOf F v - 1) + 68 = 3 * r_placeOf F v + 65 from by omega, hh.2.2] at e
    have h2 := hf.2.2.2 (r_placeOf F v - 1) (by omega) (by have : r_placeOf F v = fi 48 0 (p_hold F v) (-5) := rfl; omega)
    simp only [p_hold, decide_eq_true_eq] at h2
    rw [show 3 * (r_placeOf F v - 1) + 65 = 3 * r_placeOf F v + 62 from by omega, q, e] at h2
    exact h2 rfl
theorem wf_gives0 {N : Int} {F : Int → Int} {v : Int} (h : WF N F) (hv : 0 ≤ v ∧ v ≤ 23) (hr : ¬ (P_full F ∧ r_best F = -5)) : WF N (r_gives F v) := by
  have hg := givesK_rg h hv.1 hr
  have hW := wf_stales (wf_opens h) v
  have hf := spot_first (F := r_stales (r_opens F) v) hg.2.2.2.1
  have e6 : r_stales (r_opens F) v 6 = r_opens F 6 := stales_far (by omega)
  rw [e6] at hf
  have es : r_spot (r_stales (r_opens F) v) = r_givesK F v := rfl
  rw [es] at hf
  unfold r_gives r_puts
  rw [es]
  refine wf_puts_at hW ⟨by omega, by omega⟩ hv (hW.2.1 0) (fun h8 q => ?_) (fun j h0 h1 q => ?_)
  · have := hf.2.2.2 (r_givesK F v - 1) (by omega) (by omega)
    rw [show 3 * (r_givesK F v - 1) + 65 = 3 * r_givesK F v + 62 from by omega] at this
    exact this q
  · rw [stales_h] at q
    by_cases hp : r_placeOf (r_opens F) v ≠ -5 ∧ j = r_placeOf (r_opens F) v
    · rw [if_pos hp] at q; omega
    · rw [if_neg hp] at q
      by_cases hp2 : r_placeOf (r_opens F) v = -5
      · exact place_none.mp hp2 j h0 h1 q
      · have hh := pl_hold hp2
        exact hp ⟨hp2, (wf_opens h).un h0 h1 hh.1 hh.2.1 (by omega) (by omega)⟩
theorem wf_shut {N : Int} {F : Int → Int} (h : WF N F) (b : Int) : WF N (r_shut F b) := by
  have hn := h.1
  have hbb := h.2.1
  have hop := h.op
  unfold r_shut
  refine h.tweak ⟨by omega, by omega⟩ (fun i => ?_) ⟨up_ne (by omega), up_ne (by omega), up_ne (by omega), up_ne (by omega), up_ne (by omega)⟩ ?_ (by rw [up_ne (by omega)]; exact h.he) (fun b h0 h1 => by rw [up_ne (by omega), up_ne (by omega), up_ne (by omega)]; exact ⟨rfl, rfl, (h.bl h0 h1).2.2.2⟩) (fun k h0 h1 => by rw [up_ne (by omega), up_ne (by omega)]; exact ⟨rfl, rfl⟩) (by rw [up_ne (by omega), up_ne (by omega)]; exact ⟨rfl, rfl⟩)
  · by_cases hi : i = 6
    · rw [up_eq hi]; have := hbb 6; omega
    · rw [up_ne hi]; have := hbb i; omega
  · rw [up_eq rfl]; omega
theorem low_shut (F : Int → Int) (b d : Int) : r_low (r_shut F d) b = r_low F b := by
  unfold r_low
  have key : ∀ (n : Nat) (i : Int), fi n i (p_page (r_shut F d)) (-5) = fi n i (p_page F) (-5) := by
    intro n
    induction n with
    | zero => intro i; rfl
    | succ n ih =>
      intro i
      have e : p_page (r_shut F d) i = p_page F i := by unfold p_page r_shut; rw [up_ne (by omega)]
      show (if p_page (r_shut F d) i = true then i else fi n (i + 1) _ (-5)) = (if p_page F i = true then i else fi n (i + 1) _ (-5))
      rw [e, ih (i + 1)]
  exact key 8 _
theorem wf_reads {N : Int} {F : Int → Int} {r : Int} (h : WF N F) (hr : 0 ≤ r ∧ r < 48) (hl : r_left F r ≠ 0) (hN : N + 1 ≤ 200000000) : WF (N + 1) (r_reads F r) := by
  have hn := h.1
  have hnl : ∀ k, 8 * (r / 8) ≤ k → k < 8 * (r / 8) + 8 → 0 ≤ F (3 * k + 65) → F (3 * k + 66) + r_weaker F k r ≤ r_bears F (r / 8) := fun k h0 h1 h2 => by
    by_cases q : r_bears F (r / 8) < F (3 * k + 66) + r_weaker F k r
    · exact absurd (left_0.mpr ⟨k, h0, h1, h2, q⟩) hl
    · omega
  have far : ∀ i, i ≠ 4 * (r / 8) + 44 → ¬ (66 ≤ i ∧ i < 210 ∧ i % 3 = 0) → r_reads F r i = F i := fun i a b => reads_far hr a b
  refine ⟨⟨by omega, by omega⟩, fun i => ?_, ?_, ?_, ?_, fun b h0 h1 => ?_, fun j h0 h1 => ?_, fun i j a0 a1 b0 b1 q0 q1 => ?_, fun j h0 h1 q0 q1 => ?_, ?_⟩
  · by_cases hi : i = 4 * (r / 8) + 44
    · rw [hi, reads_44 hr]; have := h.2.1 (4 * (r / 8) + 44); omega
    · by_cases h2 : 66 ≤ i ∧ i < 210 ∧ i % 3 = 0
      · obtain ⟨k, rfl⟩ : ∃ k, i = 3 * k + 66 := ⟨(i - 66) / 3, by omega⟩
        rw [reads_w hr (by omega)]
        have h3 := h.2.1 (3 * k + 66)
        split
        · rename_i h4
          have h5 := hnl k (by omega) (by omega) h4.2
          have h6 := bears_rg h (b := r / 8) (by omega) (by omega)
          have h7 := weaker_rg F k r
          omega
        · omega
      · rw [far _ hi h2]; have := h.2.1 i; omega
  · rw [far 1 (by omega) (by omega), far 2 (by omega) (by omega), far 3 (by omega) (by omega), far 4 (by omega) (by omega), far 5 (by omega) (by omega)]; exact h.se
  · rw [far 6 (by omega) (by omega)]; exact h.op
  · rw [far 11 (by omega) (by omega), far 4 (by omega) (by omega)]; exact h.he
  · rw [far (4 * b + 41) (by omega) (by omega), far (4 * b + 42) (by omega) (by omega), far (4 * b + 43) (by omega) (by omega)]; exact h.bl h0 h1
  · have hp := h.pl h0 h1
    rw [bears_congr (F := F) (G := r_reads F r) (b := j / 8) (far _ (by omega) (by omega)) (far _ (by omega) (by omega)), reads_h hr h0, reads_w hr h0]
    have h7 := weaker_rg F j r
    by_cases h4 : j / 8 = r / 8 ∧ 0 ≤ F (3 * j + 65)
    · rw [if_pos h4]
      have h5 := hnl j (by omega) (by omega) h4.2
      rw [h4.1]
      exact ⟨hp.1, hp.2.1, by omega, fun q => by omega, h5⟩
    · rw [if_neg h4, Int.add_zero]; exact hp
  · rw [reads_h hr a0] at q0 q1
    rw [reads_h hr b0] at q1
    exact h.un a0 a1 b0 b1 q0 q1
  · rw [reads_h hr h0] at q0
    have e := reads_h (F := F) hr (k := j + 1) (by omega)
    rw [show 3 * (j + 1) + 65 = 3 * j + 68 from by omega] at e
    rw [e]
    exact h.fl h0 h1 q0 q1
  · rw [far 10 (by omega) (by omega), far 16 (by omega) (by omega)]; exact h.lo
theorem reads_hold (F : Int → Int) (r k : Int) (hr : 0 ≤ r ∧ r < 48) (hk : 0 ≤ k) : r_reads F r (3 * k + 65) = F (3 * k + 65) := reads_h hr hk
theorem same_room {N : Int} {F G : Int → Int} (hW : WF N F) (hs : Same F G) : (P_full G ∧ r_best G = -5) ↔ (P_full F ∧ r_best F = -5) := by rw [hs.full hW.op, hs.best]
theorem room_reads {N : Int} {F : Int → Int} (hW : WF N F) (h : ¬ (P_full F ∧ r_best F = -5)) (r : Int) (hr : 0 ≤ r ∧ r < 48) : ¬ (P_full (r_reads F r) ∧ r_best (r_reads F r) = -5) := fun q => h ((same_room hW (same_reads hr)).mp q)
theorem bd_logs {F : Int → Int} (h : Bd F) : Bd (r_logs 21 F) := fun i => by
  rw [logs_form]
  split
  · exact h _
  · exact h _
theorem bd_erB {N : Int} {F : Int → Int} {b : Int} (h : WF N F) (hb : 0 ≤ b ∧ b < 6) : Bd (r_erB (r_erA (r_shut F b) b).2 b) := by
  have hbd : Bd (r_erA (r_shut F b) b).2 := fun i => by
    rw [erA_form]
    split
    · omega
    · split
      · omega
      · exact (wf_shut h b).b i
  have e1 : (r_erA (r_shut F b) b).2 (4 * b + 42) = F (4 * b + 42) := by rw [erA_form, if_neg (by omega), if_neg (by omega), shut_far (by omega)]
  have e2 : (r_erA (r_shut F b) b).2 10 = F 10 := by rw [erA_form, if_neg (by omega), if_neg (by omega), shut_far (by omega)]
  have h1 := h.bd (4 * b + 42)
  have h2 := h.bd 10
  unfold r_erB
  refine Bd.up (Bd.up (Bd.up hbd ?_) ?_) ?_
  · omega
  · omega
  · omega
/-- a page moved: what is read, what is given, where -/
theorem moves_eq {F : Int → Int} {b : Int} (hl : r_low F b ≠ -5) (hb : 0 ≤ b ∧ b < 6) (hm : P_moves (r_shut F b) b) : r_moves F b = up (r_gives (r_reads (r_shut F b) (r_low F b)) (F (3 * r_low F b + 65))) 9 (r_gives (r_reads (r_shut F b) (r_low F b)) (F (3 * r_low F b + 65)) 9 + 1) := by
  have hlo := low_rg F b
  have e : r_reads (r_shut F b) (r_low F b) (3 * r_low F b + 65) = F (3 * r_low F b + 65) := by rw [reads_h (by omega) (by omega), shut_far (by omega)]
  unfold r_moves r_moved r_moved1
  rw [if_pos hm, low_shut, e]
theorem moves_facts {N : Int} {F : Int → Int} {b : Int} (h : WF N F) (hb : 0 ≤ b ∧ b < 6) (hl : r_low F b ≠ -5) (hm : P_moves (r_shut F b) b) (hN : N + 2 ≤ 200000000) :
    WF (N + 1) (r_reads (r_shut F b) (r_low F b)) ∧ (0 ≤ F (3 * r_low F b + 65) ∧ F (3 * r_low F b + 65) ≤ 23) ∧ ¬ (P_full (r_reads (r_shut F b) (r_low F b)) ∧ r_best (r_reads (r_shut F b) (r_low F b)) = -5) ∧
    r_placeOf (r_reads (r_shut F b) (r_low F b)) (F (3 * r_low F b + 65)) = r_low F b ∧ r_opens (r_reads (r_shut F b) (r_low F b)) 6 ≠ b ∧ (∀ k, 0 ≤ k → r_reads (r_shut F b) (r_low F b) (3 * k + 65) = F (3 * k + 65)) := by
  have hlo := (low_rg F b).resolve_left hl
  have hWs := wf_shut h b
  have hpl := h.pl (k := r_low F b) (by omega) (by omega)
  have hls : r_left (r_shut F b) (r_low F b) ≠ 0 := fun q => hm (Or.inl (by rw [low_shut]; exact q))
  have hW := wf_reads hWs (r := r_low F b) (by omega) hls (by omega)
  have hrm := room_reads hWs (fun q => hm (Or.inr q)) (r_low F b) (by omega)
  have hh : ∀ k, 0 ≤ k → r_reads (r_shut F b) (r_low F b) (3 * k + 65) = F (3 * k + 65) := fun k hk => by rw [reads_h (by omega) hk, shut_far (by omega)]
  refine ⟨hW, ⟨hlo.2.2, hpl.2.1⟩, hrm, ?_, ?_, hh⟩
  · refine place_is (by omega) (by omega) (hh _ (by omega)) (fun j q0 q1 q => ?_)
    rw [hh j q0] at q
    exact h.un q0 q1 (by omega) (by omega) (by omega) q
  · rw [opens_6]
    have e6 : r_reads (r_shut F b) (r_low F b) 6 = if F 6 = b then -5 else F 6 := by rw [reads_far (by omega) (by omega) (by omega), shut_6]
    by_cases hp : P_full (r_reads (r_shut F b) (r_low F b))
    · rw [if_pos hp]
      intro q
      have hbr := (best_rg (r_reads (r_shut F b) (r_low F b))).resolve_left (fun q2 => hrm ⟨hp, q2⟩)
      rw [q] at hbr
      have := cnt_e8.mp hbr.2.2.2 (r_low F b) (by omega) (by omega)
      rw [hh _ (by omega)] at this
      omega
    · rw [if_neg hp, e6]
      split <;> omega
theorem moves_h {N : Int} {F : Int → Int} {b : Int} (h : WF N F) (hb : 0 ≤ b ∧ b < 6) (hl : r_low F b ≠ -5) (hm : P_moves (r_shut F b) b) (hN : N + 2 ≤ 200000000) : ∃ s, 0 ≤ s ∧ s < 48 ∧ s / 8 ≠ b ∧ F (3 * s + 65) = -1 ∧ ∀ k, 0 ≤ k → r_moves F b (3 * k + 65) = if k = s then F (3 * r_low F b + 65) else if k = r_low F b then -2 else F (3 * k + 65) := by
  obtain ⟨hW, hv, hr, hp, ho, hh⟩ := moves_facts h hb hl hm hN
  have hg := givesK_rg hW hv.1 hr
  have hlo := (low_rg F b).resolve_left hl
  refine ⟨r_givesK (r_reads (r_shut F b) (r_low F b)) (F (3 * r_low F b + 65)), by omega, by omega, by omega, by rw [← hh _ (by omega)]; exact hg.2.2.2.2.2.2.1, fun k hk => ?_⟩
  rw [moves_eq hl hb hm, up_ne (by omega), gives_h hW hv.1 hr hk, hp, hh k hk]
  by_cases h1 : k = r_givesK (r_reads (r_shut F b) (r_low F b)) (F (3 * r_low F b + 65))
  · rw [if_pos h1, if_pos h1]
  · rw [if_neg h1, if_neg h1]
    by_cases h2 : k = r_low F b
    · rw [if_pos ⟨hl, h2⟩, if_pos h2]
    · rw [if_neg (fun q => h2 q.2), if_neg h2]
theorem wf_far9 {N : Int} {F : Int → Int} (h : WF N F) (hN : N + 1 ≤ 200000000) : WF (N + 1) (up F 9 (F 9 + 1)) := wf_cnt h hN (by omega) (by have := h.2.1 9; have := h.1; omega)
theorem moves_far {N : Int} {F : Int → Int} {b i : Int} (h : WF N F) (hb : 0 ≤ b ∧ b < 6) (hl : r_low F b ≠ -5) (hi : i < 65 ∨ 209 ≤ i) (h6 : i ≠ 6) (h9 : i ≠ 9) (h44 : i ≠ 4 * b + 44) (hN : N + 2 ≤ 200000000) : r_moves F b i = F i := by
  by_cases hm : P_moves (r_shut F b) b
  · obtain ⟨hW, hv, hr, hp, ho, hh⟩ := moves_facts h hb hl hm hN
    have hlo := (low_rg F b).resolve_left hl
    rw [moves_eq hl hb hm, up_ne h9, gives_far hW hv.1 hr hi h6, reads_far (by omega) (by omega) (by omega), shut_far h6]
  · unfold r_moves
    rw [if_neg hm, shut_far h6]
theorem cnt_moves0 {N : Int} {F : Int → Int} {b : Int} (h : WF N F) (hb : 0 ≤ b ∧ b < 6) (hl : r_low F b ≠ -5) (hm : P_moves (r_shut F b) b) (hN : N + 2 ≤ 200000000) : r_cnt (r_moves F b) b 0 = r_cnt F b 0 - 1 := by
  obtain ⟨s, h0, h1, h2, h3, hh⟩ := moves_h h hb hl hm hN
  have hlo := (low_rg F b).resolve_left hl
  have e := cnt_one (F := F) (G := r_moves F b) (b := b) (t := 0) (r_low F b) hlo.1 hlo.2.1 (fun j q0 q1 q2 => by rw [hh j (by omega), if_neg (by omega), if_neg q2])
  have e2 : r_moves F b (3 * r_low F b + 65) = -2 := by rw [hh _ (by omega), if_neg (by omega), if_pos rfl]
  rw [e, wc_p, wc_p, e2]
  omega
theorem WF.clip {N : Int} {F : Int → Int} (h : WF N F) : N ≤ 200000000 := h.1.2
theorem cnt_moves {N : Int} {F : Int → Int} {b : Int} (h : WF N F) (hb : 0 ≤ b ∧ b < 6) (hl : r_low F b ≠ -5) (hm : P_moves (r_shut F b) b) (hN : N + 2 ≤ 200000000 := by omega) : r_cnt (r_moves F b) b 0 = r_cnt F b 0 - 1 := cnt_moves0 h hb hl hm hN
theorem wf_moves {N : Int} {F : Int → Int} {b : Int} (h : WF N F) (hb : 0 ≤ b ∧ b < 6) (hl : r_low F b ≠ -5) (hm : P_moves (r_shut F b) b) (hN : N + 2 ≤ 200000000) : WF (N + 2) (r_moves F b) := by
  obtain ⟨hW, hv, hr, hp, ho, hh⟩ := moves_facts h hb hl hm hN
  rw [moves_eq hl hb hm]
  exact (wf_far9 (wf_gives0 hW hv hr) (by omega)).cast (by omega)
theorem calls_sm (F : Int → Int) : r_calls F = sm 6 0 (fun b => F (4 * b + 43)) := rfl
theorem calls_rg {N : Int} {F : Int → Int} (h : WF N F) : 0 ≤ r_calls F ∧ r_calls F ≤ 6 := by
  rw [calls_sm]
  have := sm_le (n := 6) (i := 0) (w := fun b => F (4 * b + 43)) (c := 1) (fun j q0 q1 => (h.bl q0 (by omega)).2.2.2)
  omega
theorem wf_tick0 {N : Int} {F : Int → Int} (h : WF N F) (hN : N + 1 ≤ 200000000) : WF (N + 1) (up F 0 (F 0 + 1)) := by
  have hn := h.1
  have hbb := h.2.1
  have hop := h.op
  refine h.tweak ⟨by omega, by omega⟩ (fun i => ?_) ⟨up_ne (by omega), up_ne (by omega), up_ne (by omega), up_ne (by omega), up_ne (by omega)⟩ ?_ (by rw [up_ne (by omega)]; exact h.he) (fun b h0 h1 => by rw [up_ne (by omega), up_ne (by omega), up_ne (by omega)]; exact ⟨rfl, rfl, (h.bl h0 h1).2.2.2⟩) (fun k h0 h1 => by rw [up_ne (by omega), up_ne (by omega)]; exact ⟨rfl, rfl⟩) (by rw [up_ne (by omega), up_ne (by omega)]; exact ⟨rfl, rfl⟩)
  · by_cases hi : i = 0
    · rw [up_eq hi]; have := hbb 0; omega
    · rw [up_ne hi]; have := hbb i; omega
  · rw [up_ne (by omega)]; exact hop
theorem set_erases {F : Int → Int} {b : Int} (hb : 0 ≤ b ∧ b < 6) : r_erases F b 3 = F 3 := er_far hb (by omega) (by omega) (by omega) (by omega) (by omega) (by omega)
theorem set_moves {N : Int} {F : Int → Int} {b : Int} (h : WF N F) (hl : r_low F b ≠ -5) (hb : 0 ≤ b ∧ b < 6) (hN : N + 2 ≤ 200000000) : r_moves F b 3 = F 3 := moves_far h hb hl (by omega) (by omega) (by omega) (by omega) hN
theorem calls_er {F : Int → Int} {b : Int} (hb : 0 ≤ b ∧ b < 6) : r_calls (r_erases F b) = r_calls F - F (4 * b + 43) := by
  rw [calls_sm, calls_sm]
  have e := sm_one (n := 6) (i := 0) b (w := fun d => r_erases F b (4 * d + 43)) (v := fun d => F (4 * d + 43)) (by omega) (by omega) (fun j q0 q1 q2 => er_far hb (by omega) (by omega) (by omega) (by omega) (by omega) (by omega))
  rw [e]
  show _ + (r_erases F b (4 * b + 43) - F (4 * b + 43)) = _
  rw [er_43 hb]; omega
theorem calls_erases {N : Int} {F : Int → Int} {b : Int} (h : WF N F) (hb : 0 ≤ b ∧ b < 6) (hl : r_low F b = -5) (hm : P_marked F b) : r_calls (r_erases F b) + 1 ≤ r_calls F := by
  have h0 := (low_cnt0 hb.1).mp hl
  have h1 : F (4 * b + 43) = 1 := hm.elim id (fun q => absurd h0 q.1)
  rw [calls_er hb]; omega
theorem calls_erases1 {N : Int} {F : Int → Int} {b : Int} (h : WF N F) (hb : 0 ≤ b ∧ b < 6) : r_calls (r_erases F b) ≤ r_calls F := by
  have := h.bl hb.1 hb.2
  rw [calls_er hb]; omega
theorem calls_moves {N : Int} {F : Int → Int} {b : Int} (h : WF N F) (hl : r_low F b ≠ -5) (hb : 0 ≤ b ∧ b < 6) (hN : N + 2 ≤ 200000000) : r_calls (r_moves F b) = r_calls F := by
  rw [calls_sm, calls_sm]
  exact sm_congr (fun j q0 q1 => moves_far h hb hl (by omega) (by omega) (by omega) (by omega) hN)
theorem at_ok {F : Int → Int} {r : Int} (h : r_markedAt F r ≠ -5) : 0 ≤ r_markedAt F r ∧ r_markedAt F r < 6 := by
  have := at_rg F r
  omega
theorem at_mk {F : Int → Int} {r : Int} (h : r_markedAt F r ≠ -5) : P_marked F (r_markedAt F r) := by
  rcases fi_rg (n := 6) (i := 0) (d := -5) (p := p_at F r) with h1 | ⟨-, -, h3⟩
  · exact absurd h1 h
  · simp only [p_at, decide_eq_true_eq] at h3
    exact h3.1
theorem wf_erases {N : Int} {F : Int → Int} {b : Int} (h : WF N F) (hb : 0 ≤ b ∧ b < 6) (hl : r_low F b = -5) (hN : N + 1 ≤ 200000000) : WF (N + 1) (r_erases F b) := by
  have hn := h.1
  have hlw := (low_none hb.1).mp hl
  have hmx := erA_max (F := r_shut F b) (b := b) (M := N) (by omega) (fun k q0 q1 => by rw [shut_far (by omega)]; exact (h.2.1 _).2)
  have hlo := h.lo
  have hbl := h.bl hb.1 hb.2
  have far : ∀ i, (i < 16 ∨ 41 ≤ i) → i ≠ 6 → i ≠ 10 → i ≠ 4 * b + 42 → i ≠ 4 * b + 43 → ¬ (24 * b + 65 ≤ i ∧ i < 24 * b + 89 ∧ (i - 65) % 3 ≠ 2) → r_erases F b i = F i := fun i a1 a2 a3 a4 a5 a6 => er_far hb a1 a2 a3 a4 a5 a6
  have hbd : ∀ i, -N ≤ F i ∧ F i ≤ N := h.2.1
  refine ⟨⟨by omega, by omega⟩, fun i => ?_, ?_, ?_, ?_, fun d h0 h1 => ?_, fun j h0 h1 => ?_, fun i j a0 a1 b0 b1 q0 q1 => ?_, fun j h0 h1 q0 q1 => ?_, ?_⟩
  · have hi0 := hbd i
    by_cases h1 : i = 16
    · rw [h1, er_16 hb]; have := hbd 16; split <;> omega
    by_cases h2 : i = 17
    · rw [h2, er_17]; omega
    by_cases h3 : i = 18
    · rw [h3, er_18 hb]; have := hbd 0; omega
    by_cases h4 : i = 19
    · rw [h4, er_19]; omega
    by_cases h5 : 20 ≤ i ∧ i ≤ 40
    · rw [er_log hb h5.1 h5.2]; have := hbd (i - 3); omega
    by_cases h6 : i = 6
    · rw [h6, er_6 hb]; have := hbd 6; split <;> omega
    by_cases h7 : i = 10
    · rw [h7, er_10 hb]; have := hbd 10; omega
    by_cases h8 : i = 4 * b + 42
    · rw [h8, er_42 hb]; have := hbd (4 * b + 42); omega
    by_cases h9 : i = 4 * b + 43
    · rw [h9, er_43 hb]; omega
    by_cases h10 : 24 * b + 65 ≤ i ∧ i < 24 * b + 89 ∧ (i - 65) % 3 ≠ 2
    · by_cases h11 : (i - 65) % 3 = 0
      · obtain ⟨k, rfl⟩ : ∃ k, i = 3 * k + 65 := ⟨(i - 65) / 3, by omega⟩
        rw [er_h hb (by omega), if_pos (by omega)]; omega
      · obtain ⟨k, rfl⟩ : ∃ k, i = 3 * k + 66 := ⟨(i - 66) / 3, by omega⟩
        rw [er_w hb (by omega), if_pos (by omega)]; omega
    · rw [far i (by omega) h6 h7 h8 h9 h10]; omega
  · rw [far 1 (by omega) (by omega) (by omega) (by omega) (by omega) (by omega), far 2 (by omega) (by omega) (by omega) (by omega) (by omega) (by omega), far 3 (by omega) (by omega) (by omega) (by omega) (by omega) (by omega), far 4 (by omega) (by omega) (by omega) (by omega) (by omega) (by omega), far 5 (by omega) (by omega) (by omega) (by omega) (by omega) (by omega)]; exact h.se
  · rw [er_6 hb]; have := h.op; split <;> omega
  · rw [far 11 (by omega) (by omega) (by omega) (by omega) (by omega) (by omega), far 4 (by omega) (by omega) (by omega) (by omega) (by omega) (by omega)]; exact h.he
  · have hd := h.bl h0 h1
    rw [far (4 * d + 41) (by omega) (by omega) (by omega) (by omega) (by omega) (by omega)]
    by_cases q : d = b
    · rw [q, er_42 hb, er_43 hb]; rw [q] at hd; omega
    · rw [far (4 * d + 42) (by omega) (by omega) (by omega) (by omega) (by omega) (by omega), far (4 * d + 43) (by omega) (by omega) (by omega) (by omega) (by omega) (by omega)]; exact hd
  · have hp := h.pl h0 h1
    rw [er_h hb h0, er_w hb h0]
    by_cases q : j / 8 = b
    · rw [if_pos q, if_pos q]
      have hr : 20 ≤ r_bears (r_erases F b) (j / 8) := by
        unfold r_bears r_cut
        split <;> omega
      exact ⟨by omega, by omega, by omega, fun _ => rfl, by omega⟩
    · rw [if_neg q, if_neg q, bears_congr (F := F) (G := r_erases F b) (b := j / 8) (far _ (by omega) (by omega) (by omega) (by omega) (by omega) (by omega)) (far _ (by omega) (by omega) (by omega) (by omega) (by omega) (by omega))]
      exact hp
  · rw [er_h hb a0] at q0 q1
    rw [er_h hb b0] at q1
    by_cases c1 : i / 8 = b
    · rw [if_pos c1] at q0; omega
    · rw [if_neg c1] at q0 q1
      by_cases c2 : j / 8 = b
      · rw [if_pos c2] at q1; omega
      · rw [if_neg c2] at q1
        exact h.un a0 a1 b0 b1 q0 q1
  · rw [er_h hb h0] at q0
    have e := er_h (F := F) hb (k := j + 1) (by omega)
    rw [show 3 * (j + 1) + 65 = 3 * j + 68 from by omega] at e
    rw [e]
    by_cases c1 : j / 8 = b
    · rw [if_pos (by omega)]
    · rw [if_neg c1] at q0
      rw [if_neg (by omega)]
      exact h.fl h0 h1 q0 q1
  · rw [er_10 hb, er_16 hb, hlo.2]
    split <;> omega
theorem room_leaves {N : Int} {F : Int → Int} (hW : WF N F) (v : Int) (h : ¬ (P_full F ∧ r_best F = -5)) : ¬ (P_full (r_leaves F v) ∧ r_best (r_leaves F v) = -5) := fun q => h ((same_room hW (same_leaves (by have := hW.he; have := hW.se; omega) v)).mp q)
theorem best_none {F : Int → Int} (h : r_best F = -5) : ∀ b, 0 ≤ b → b < 6 → ¬ P_free F b := by
  have := fo_invI (P := fun j (x : Int) => (x = -5 → ∀ o, 0 ≤ o → o < j → ¬ P_free F o) ∧ (x = -5 ∨ 0 ≤ x)) (n := 6) (i := 0) (a := (-5 : Int)) (f := s_best F) ⟨fun _ o q0 q1 => by omega, Or.inl rfl⟩ (fun j x h0 h1 hx => by
    unfold s_best
    by_cases hc : P_free F j ∧ (x = -5 ∨ F (4 * j + 42) < F (4 * x + 42))
    · rw [if_pos hc]
      exact ⟨fun q => by omega, Or.inr h0⟩
    · rw [if_neg hc]
      refine ⟨fun q o q0 q1 => ?_, hx.2⟩
      by_cases ho : o = j
      · rw [ho]; exact fun hf => hc ⟨hf, Or.inl q⟩
      · exact hx.1 q o q0 (by omega))
  exact fun b h0 h1 => this.1 h b h0 (by omega)
theorem frees_sm (F : Int → Int) : r_frees F = sm 6 0 (fun b => if P_free F b then 1 else 0) := rfl
theorem full_frees0 {F : Int → Int} (hr : r_best F = -5) : r_frees F = 0 := by
  rw [frees_sm]
  exact sm_all0 (fun j q0 q1 => if_neg (best_none hr j q0 (by omega)))
theorem room_frees {N : Int} {F : Int → Int} (h : WF N F) (hf : (if P_full F then 2 else 1) ≤ r_frees F) : ¬ (P_full F ∧ r_best F = -5) := fun q => by
  rw [full_frees0 q.2, if_pos q.1] at hf
  omega
theorem wf_tickL : ∀ (f : Nat) (N : Int) (F : Int → Int) (n : Int), WF N F → N + 3 * (f : Int) ≤ 200000000 → WF (N + 3 * (f : Int)) (r_tickL f F n).2 := by
  intro f
  induction f with
  | zero => intro N F n h _; exact h.cast (by omega)
  | succ f ih =>
    intro N F n h hN
    rw [tickL_s]
    by_cases h1 : F 3 ≤ n ∨ r_markedAt F 0 = -5
    · rw [if_pos h1]; exact h.mono (by omega) hN
    · rw [if_neg h1]
      have hat := at_ok (F := F) (r := 0) (fun q => h1 (Or.inr q))
      by_cases h2 : r_low F (r_markedAt F 0) = -5
      · rw [if_pos h2]
        exact (ih (N + 1) _ n (wf_erases h hat h2 (by omega)) (by omega)).mono (by omega) hN
      · rw [if_neg h2]
        by_cases h3 : P_moves (r_shut F (r_markedAt F 0)) (r_markedAt F 0)
        · rw [if_pos h3]
          have hm := wf_moves h hat h2 h3 (by omega)
          by_cases h4 : r_low (r_moves F (r_markedAt F 0)) (r_markedAt F 0) = -5
          · rw [if_pos h4]
            exact (ih (N + 2 + 1) _ (n + 1) (wf_erases hm hat h4 (by omega)) (by omega)).mono (by omega) hN
          · rw [if_neg h4]
            exact (ih (N + 2) _ (n + 1) hm (by omega)).mono (by omega) hN
        · rw [if_neg h3]
          show WF _ (r_moves F (r_markedAt F 0))
          unfold r_moves
          rw [if_neg h3]
          exact (wf_shut h _).mono (by omega) hN
theorem wf_tick {N : Int} {F : Int → Int} (h : WF N F) (hN : N + 100 ≤ 200000000) : WF (N + 100) (r_tick F).2 := (wf_tickL 32 (N + 1) _ 0 (wf_tick0 h (by omega)) (by omega)).mono (by omega) hN
theorem tickL_rg : ∀ (f : Nat) (F : Int → Int) (n : Int), n ≤ (r_tickL f F n).1 ∧ (r_tickL f F n).1 ≤ n + (f : Int) := by
  intro f
  induction f with
  | zero => intro F n; exact ⟨Int.le_refl _, by show n ≤ _; omega⟩
  | succ f ih =>
    intro F n
    rw [tickL_s]
    have a := ih (r_erases F (r_markedAt F 0)) n
    have b := ih (r_erases (r_moves F (r_markedAt F 0)) (r_markedAt F 0)) (n + 1)
    have c := ih (r_moves F (r_markedAt F 0)) (n + 1)
    split
    · exact ⟨Int.le_refl _, by show n ≤ _; omega⟩
    · split
      · omega
      · split
        · split <;> omega
        · exact ⟨Int.le_refl _, by show n ≤ _; omega⟩
theorem tick_rg {N : Int} {F : Int → Int} (h : WF N F) : 0 ≤ (r_tick F).1 ∧ (r_tick F).1 ≤ 32 := by
  have := tickL_rg 32 (up F 0 (F 0 + 1)) 0
  unfold r_tick
  omega
/-! copies -/
def cpy (F G : Int → Int) (fa ta k : Int) : Int → Int := fun i => if ta ≤ i ∧ i < ta + k then F (i - ta + fa) else G i
theorem cpy_s {F G : Int → Int} {fa ta k v : Int} (hk : 0 ≤ k) (hv : F (fa + k) = v) : up (cpy F G fa ta k) (ta + k) v = cpy F G fa ta (k + 1) := by
  funext i
  unfold up cpy
  by_cases h : i = ta + k
  · rw [if_pos h, if_pos (by omega), ← hv]
    congr 1
    omega
  · rw [if_neg h]
    by_cases h2 : ta ≤ i ∧ i < ta + k
    · rw [if_pos h2, if_pos (by omega)]
    · rw [if_neg h2, if_neg (by omega)]
theorem cpy_0 {F G : Int → Int} {fa ta : Int} : cpy F G fa ta 0 = G := by
  funext i
  exact if_neg (by omega)
def shf (P : Int → Int) (k : Int) : Int → Int := fun i => if 0 ≤ i ∧ i < k then P (i + 233) else P i
theorem shf_0 {P : Int → Int} : shf P 0 = P := by
  funext i
  exact if_neg (by omega)
theorem shf_hi {P : Int → Int} {k i : Int} (h : k ≤ i) : shf P k i = P i := if_neg (by omega)
theorem shf_s {P : Int → Int} {k : Int} (hk : 0 ≤ k) : up (shf P k) k (P (k + 233)) = shf P (k + 1) := by
  funext i
  unfold up shf
  by_cases h : i = k
  · rw [if_pos h, if_pos (by omega), h]
  · rw [if_neg h]
    by_cases h2 : 0 ≤ i ∧ i < k
    · rw [if_pos h2, if_pos (by omega)]
    · rw [if_neg h2, if_neg (by omega)]
theorem lay_full {F G : Int → Int} : ∀ i : Int, 0 ≤ i → i < ((233 : Nat) : Int) → F i = if (0 : Int) ≤ i ∧ i < 0 + 233 then F (i - 0 + 0) else G i := by
  intro i h0 h1
  rw [if_pos (by omega)]
  congr 1
  omega
theorem lay_cpy {F G : Int → Int} {fa ta : Int} {n : Nat} : ∀ i : Int, 0 ≤ i → i < (n : Int) → cpy F G fa ta 233 i = if ta ≤ i ∧ i < ta + 233 then F (i - ta + fa) else G i := fun _ _ _ => rfl
theorem h_of_rec {B : Nat → Int → Int} {r : Int} (h : 0 ≤ r) (h3 : r < 4) : h_of (b_rec B) r = if r = 0 then B 0 else h_of B (r - 1) := by
  by_cases h0 : r = 0
  · subst h0; rfl
  by_cases h1 : r = 1
  · subst h1; rfl
  by_cases h2 : r = 2
  · subst h2; rfl
  have h3 : r = 3 := by omega
  subst h3; rfl
theorem rec_8 (B : Nat → Int → Int) : b_rec B 8 0 = if B 8 0 = 4 then 4 else B 8 0 + 1 := rfl
theorem past_rec1 {B : Nat → Int → Int} {P : Int → Int} (h : PastOk B P) (hk : 0 ≤ B 8 0 ∧ B 8 0 ≤ 4) (h4 : B 8 0 ≠ 4) : PastOk (b_rec B) (cpy (B 0) P 0 (233 * B 8 0) 233) := by
  intro r i h0 h1 h2 h3
  rw [rec_8, if_neg h4] at h1 ⊢
  rw [h_of_rec h0 (by omega)]
  by_cases hr : r = 0
  · subst hr
    rw [if_pos rfl]
    show cpy (B 0) P 0 (233 * B 8 0) 233 (233 * (B 8 0 + 1 - 1 - 0) + i) = B 0 i
    unfold cpy
    rw [if_pos (by omega)]
    congr 1
    omega
  · rw [if_neg hr, ← h (r - 1) i (by omega) (by omega) h2 h3]
    unfold cpy
    rw [if_neg (by omega)]
    congr 1
    omega
theorem past_rec2 {B : Nat → Int → Int} {P : Int → Int} (h : PastOk B P) (h4 : B 8 0 = 4) : PastOk (b_rec B) (cpy (B 0) (shf P 699) 0 (233 * B 8 0 - 233) 233) := by
  intro r i h0 h1 h2 h3
  rw [rec_8, if_pos h4] at h1 ⊢
  rw [h_of_rec h0 (by omega)]
  by_cases hr : r = 0
  · subst hr
    rw [if_pos rfl]
    unfold cpy
    rw [if_pos (by omega)]
    congr 1
    omega
  · rw [if_neg hr, ← h (r - 1) i (by omega) (by omega) h2 h3]
    unfold cpy
    rw [if_neg (by omega)]
    unfold shf
    rw [if_pos (by omega)]
    congr 1
    omega
theorem past_pop {B : Nat → Int → Int} {P : Int → Int} (h : PastOk B P) (hk : 0 ≤ B 8 0 ∧ B 8 0 ≤ 4) : PastOk (b_pop B) P := by
  intro r i h0 h1 h2 h3
  have h1 : r < B 8 0 - 1 := h1
  have e := h (r + 1) i (by omega) (by omega) h2 h3
  rw [show 233 * (B 8 0 - 1 - (r + 1)) + i = 233 * (B 8 0 - 1 - 1 - r) + i from by omega] at e
  show P (233 * (B 8 0 - 1 - 1 - r) + i) = _
  rw [e]
  by_cases hr : r = 0
  · subst hr; rfl
  by_cases h1 : r = 1
  · subst h1; rfl
  have h2 : r = 2 := by omega
  subst h2; rfl
theorem past_top {B : Nat → Int → Int} {P G : Int → Int} (h : PastOk B P) (h0 : 0 < B 8 0) : ∀ i : Int, 0 ≤ i → i < ((233 : Nat) : Int) → B 1 i = if (0 : Int) ≤ i ∧ i < 0 + 233 then P (i - 0 + (233 * B 8 0 - 233)) else G i := by
  intro i h1 h2
  rw [if_pos (by omega)]
  have e := h 0 i (by omega) h0 h1 (by omega)
  rw [show i - 0 + (233 * B 8 0 - 233) = 233 * (B 8 0 - 1 - 0) + i from by omega, e]
  rfl
def Tx (f : Int → Int) : Prop := ∀ i, 0 ≤ f i ∧ f i ≤ 65535
theorem Tx.bd {f : Int → Int} (h : Tx f) (i : Int) : 0 ≤ f i ∧ f i ≤ 65535 := h i
theorem WB.k {N : Int} {B : Nat → Int → Int} (h : WB N B) : 0 ≤ B 8 0 ∧ B 8 0 ≤ 4 := h.2.1
theorem WB.j {N : Int} {B : Nat → Int → Int} (h : WB N B) : B 9 0 = 0 ∨ B 9 0 = 1 := h.2.2.2.2.2.2.1
theorem WB.sh {N : Int} {B : Nat → Int → Int} (h : WB N B) (h1 : B 9 0 = 1) : WF N (B 5) := h.2.2.2.2.2.2.2.1 h1
theorem WB.tl {N : Int} {B : Nat → Int → Int} (h : WB N B) : 0 ≤ B 10 0 ∧ B 10 0 ≤ 60 := h.2.2.2.2.2.2.2.2.1
theorem WB.tx {N : Int} {B : Nat → Int → Int} (h : WB N B) : Tx (B 6) := h.2.2.2.2.2.2.2.2.2.1
theorem WB.rf {N : Int} {B : Nat → Int → Int} (h : WB N B) : B 11 0 = 0 ∨ B 11 0 = 1 := h.2.2.2.2.2.2.2.2.2.2.1
theorem WB.rr {N : Int} {B : Nat → Int → Int} (h : WB N B) : Bd (B 7) := h.2.2.2.2.2.2.2.2.2.2.2
theorem set_ok_8 {w v : Int} (hw : 0 ≤ w ∧ w ≤ 4) (hv : S_ok w v) : 0 ≤ v ∧ v ≤ 999 := by omega
theorem quietL_s {f : Nat} {F : Int → Int} {t : Int} : r_quietL (f + 1) F t = if r_marks F = 0 then t else r_quietL f (r_tick F).2 (t + 1) := rfl
theorem wf_mark {N : Int} {F : Int → Int} {b i : Int} (h : WF N F) (hb : 0 ≤ b ∧ b < 6) (hi : 0 ≤ i ∧ i ≤ 1) : WF N (up F (4 * b + 43) i) := by
  have hn := h.1
  have hop := h.op
  refine h.tweak ⟨by omega, by omega⟩ (fun j => ?_) ⟨up_ne (by omega), up_ne (by omega), up_ne (by omega), up_ne (by omega), up_ne (by omega)⟩ (by rw [up_ne (by omega)]; exact hop) (by rw [up_ne (by omega)]; exact h.he) (fun d h0 h1 => ?_) (fun k h0 h1 => by rw [up_ne (by omega), up_ne (by omega)]; exact ⟨rfl, rfl⟩) (by rw [up_ne (by omega), up_ne (by omega)]; exact ⟨rfl, rfl⟩)
  · by_cases hj : j = 4 * b + 43
    · rw [up_eq hj]; omega
    · rw [up_ne hj]; exact h.2.1 j
  · rw [up_ne (show 4 * d + 41 ≠ 4 * b + 43 from by omega), up_ne (show 4 * d + 42 ≠ 4 * b + 43 from by omega)]
    refine ⟨rfl, rfl, ?_⟩
    by_cases hj : d = b
    · rw [up_eq (by omega)]; exact hi
    · rw [up_ne (by omega)]; exact (h.bl h0 h1).2.2.2
theorem wf_stale {N : Int} {F : Int → Int} {v : Int} (h : WF N F) (hv : r_placeOf F v ≠ -5) : WF N (up F (3 * r_placeOf F v + 65) (-2)) := by
  have := wf_stales h v
  unfold r_stales at this
  rw [if_neg hv] at this
  exact this
theorem er_place {F : Int → Int} {b v : Int} (hb : 0 ≤ b ∧ b < 6) (hl : r_low F b = -5) (hv : 0 ≤ v) (hp : r_placeOf F v ≠ -5) : r_placeOf (r_erases F b) v ≠ -5 := fun q => by
  have hh := pl_hold hp
  have h1 := place_none.mp q _ hh.1 hh.2.1
  rw [er_h hb hh.1] at h1
  by_cases h2 : r_placeOf F v / 8 = b
  · have := (low_none hb.1).mp hl (r_placeOf F v) (by omega) (by omega)
    omega
  · rw [if_neg h2] at h1
    exact h1 hh.2.2
theorem moves_place {N : Int} {F : Int → Int} {b v : Int} (h : WF N F) (hb : 0 ≤ b ∧ b < 6) (hl : r_low F b ≠ -5) (hm : P_moves (r_shut F b) b) (hN : N + 2 ≤ 200000000) (hv : 0 ≤ v) (hp : r_placeOf F v ≠ -5) : r_placeOf (r_moves F b) v ≠ -5 := fun q => by
  obtain ⟨s, h0, h1, h2, h3, hh⟩ := moves_h h hb hl hm hN
  have hq := pl_hold hp
  by_cases he : F (3 * r_low F b + 65) = v
  · have := place_none.mp q s h0 h1
    rw [hh s h0, if_pos rfl] at this
    exact this he
  · have := place_none.mp q _ hq.1 hq.2.1
    rw [hh _ hq.1] at this
    by_cases c1 : r_placeOf F v = s
    · rw [c1] at hq; omega
    · rw [if_neg c1] at this
      by_cases c2 : r_placeOf F v = r_low F b
      · rw [c2] at hq; exact he hq.2.2
      · rw [if_neg c2] at this
        exact this hq.2.2
theorem allL_ok : ∀ (f : Nat) (N : Int) (F : Int → Int) (b n : Int), WF N F → (0 ≤ b ∧ b < 6) → N + 2 * (f : Int) ≤ 200000000 → r_cnt F b 0 < (f : Int) → 0 ≤ (r_allL f F b n).1 →
    WF (N + 2 * (f : Int)) (r_allL f F b n).2 ∧ r_low (r_allL f F b n).2 b = -5 ∧ ∀ v, 0 ≤ v → r_placeOf F v ≠ -5 → r_placeOf (r_allL f F b n).2 v ≠ -5 := by
  intro f
  induction f with
  | zero => intro N F b n h hb hN hc; have := cnt_rg F b 0; omega
  | succ f ih =>
    intro N F b n h hb hN hc
    rw [allL_s]
    by_cases h1 : r_low F b = -5
    · rw [if_pos h1]; exact fun _ => ⟨h.mono (by omega) hN, h1, fun v _ q => q⟩
    · rw [if_neg h1]
      by_cases h2 : P_moves (r_shut F b) b
      · rw [if_pos h2]
        intro h3
        have hm := wf_moves h hb h1 h2 (by omega)
        have hcm := cnt_moves0 h hb h1 h2 (by omega)
        obtain ⟨a1, a2, a3⟩ := ih (N + 2) _ b (n + 1) hm hb (by omega) (by omega) h3
        exact ⟨a1.cast (by omega), a2, fun v q0 q1 => a3 v q0 (moves_place h hb h1 h2 (by omega) q0 q1)⟩
      · rw [if_neg h2]
        exact fun q => absurd q (by show ¬ ((0 : Int) ≤ -4); omega)
theorem all_ok {N : Int} {F : Int → Int} {b : Int} (h : WF N F) (hb : 0 ≤ b ∧ b < 6) (hr : 0 ≤ (r_all F b).1) (hN : N + 20 ≤ 200000000) : WF (N + 20) (r_all F b).2 ∧ ∀ v, 0 ≤ v → r_placeOf F v ≠ -5 → r_placeOf (r_all F b).2 v ≠ -5 := by
  have hnn : 0 ≤ (r_allL 9 (r_shut F b) b 0).1 := by
    unfold r_all at hr
    split at hr <;> first | omega | exact hr
  have hc : r_cnt (r_shut F b) b 0 < ((9 : Nat) : Int) := by have := cnt_rg (r_shut F b) b 0; omega
  obtain ⟨a1, a2, a3⟩ := allL_ok 9 N _ b 0 (wf_shut h b) hb (by omega) hc hnn
  unfold r_all
  rw [if_neg (by omega)]
  refine ⟨(wf_erases a1 hb a2 (by omega)).mono (by omega) hN, fun v q0 q1 => er_place hb a2 q0 (a3 v q0 ?_)⟩
  have e : r_placeOf (r_shut F b) v = r_placeOf F v := place_congr (fun k q0 q1 => shut_far (by omega))
  rw [e]; exact q1
theorem wf_all {N : Int} {F : Int → Int} {b : Int} (h : WF N F) (hb : 0 ≤ b ∧ b < 6) (hr : 0 ≤ (r_all F b).1) (hN : N + 20 ≤ 200000000) : WF (N + 20) (r_all F b).2 := (all_ok h hb hr hN).1
theorem all_place {N : Int} {F : Int → Int} {b v : Int} (h : WF N F) (hb : 0 ≤ b ∧ b < 6) (hr : 0 ≤ (r_all F b).1) (hv : r_placeOf F v ≠ -5) (hp : 0 ≤ v ∧ v ≤ 23) (hN : N + 20 ≤ 200000000 := by omega) : r_placeOf (r_all F b).2 v ≠ -5 := (all_ok h hb hr hN).2 v hp.1 hv
theorem write_rg {N : Int} {F : Int → Int} (h : WF N F) (v : Int) : -5 ≤ (r_write F v).1 ∧ (r_write F v).1 ≤ 48 := by
  unfold r_write
  by_cases h1 : v < 0 ∨ 23 < v
  · rw [if_pos h1]
    exact ⟨by show (-5 : Int) ≤ -1; omega, by show (-1 : Int) ≤ 48; omega⟩
  · rw [if_neg h1]
    by_cases h2 : r_frees F < (if P_full F then 2 else 1)
    · rw [if_pos h2]
      exact ⟨by show (-5 : Int) ≤ -3; omega, by show (-3 : Int) ≤ 48; omega⟩
    · rw [if_neg h2]
      have hr := room_frees h (by omega)
      have hg := givesK_rg (wf_leaves h v) (v := v) (by omega) (room_leaves h v hr)
      show -5 ≤ r_givesK (r_leaves F v) v ∧ r_givesK (r_leaves F v) v ≤ 48
      omega
theorem read_rg {N : Int} {F : Int → Int} (_ : WF N F) (v : Int) : -4 ≤ (r_read F v).1 ∧ (r_read F v).1 ≤ 2 := by
  unfold r_read
  split
  · exact ⟨by show (-4 : Int) ≤ -1; omega, by show (-1 : Int) ≤ 2; omega⟩
  · split
    · exact ⟨by show (-4 : Int) ≤ 0; omega, by show (0 : Int) ≤ 2; omega⟩
    · split
      · exact ⟨by show (-4 : Int) ≤ 1; omega, by show (1 : Int) ≤ 2; omega⟩
      · split
        · exact ⟨by show (-4 : Int) ≤ 2; omega, by show (2 : Int) ≤ 2; omega⟩
        · exact ⟨by show (-4 : Int) ≤ -4; omega, by show (-4 : Int) ≤ 2; omega⟩
theorem allL_rg : ∀ (f : Nat) (F : Int → Int) (b n : Int), 0 ≤ n → -4 ≤ (r_allL f F b n).1 ∧ (r_allL f F b n).1 ≤ n + (f : Int) := by
  intro f
  induction f with
  | zero => intro F b n h; exact ⟨by show (-4 : Int) ≤ n; omega, by show n ≤ _; omega⟩
  | succ f ih =>
    intro F b n h
    rw [allL_s]
    have a := ih (r_moves F b) b (n + 1) (by omega)
    split
    · exact ⟨by show (-4 : Int) ≤ n; omega, by show n ≤ _; omega⟩
    · split
      · omega
      · exact ⟨by show (-4 : Int) ≤ -4; omega, by show (-4 : Int) ≤ _; omega⟩
theorem all_fst (F : Int → Int) (b : Int) : (r_all F b).1 = (r_allL 9 (r_shut F b) b 0).1 := by
  unfold r_all
  split <;> rfl
theorem all_rg {N : Int} {F : Int → Int} (_ : WF N F) (b : Int) : -4 ≤ (r_all F b).1 ∧ (r_all F b).1 ≤ 9 := by
  have := allL_rg 9 (r_shut F b) b 0 (by omega)
  rw [all_fst]; omega
theorem passL_rg : ∀ (f : Nat) (F : Int → Int) (n : Int), n ≤ (r_passL f F n).1 ∧ (r_passL f F n).1 ≤ n + 32 * (f : Int) := by
  intro f
  induction f with
  | zero => intro F n; exact ⟨Int.le_refl _, by show n ≤ _; omega⟩
  | succ f ih =>
    intro F n
    have a := ih (r_tick F).2 (n + (r_tick F).1)
    have b := tickL_rg 32 (up F 0 (F 0 + 1)) 0
    have e : r_passL (f + 1) F n = r_passL f (r_tick F).2 (n + (r_tick F).1) := rfl
    have e2 : (r_tick F).1 = (r_tickL 32 (up F 0 (F 0 + 1)) 0).1 := rfl
    rw [e]
    omega
theorem pass_rg {N : Int} {F : Int → Int} (_ : WF N F) (t : Int) : -4 ≤ (r_pass F t).1 ∧ (r_pass F t).1 ≤ 3200 := by
  unfold r_pass
  split
  · exact ⟨by show (-4 : Int) ≤ -2; omega, by show (-2 : Int) ≤ _; omega⟩
  · split
    · exact ⟨by show (-4 : Int) ≤ -4; omega, by show (-4 : Int) ≤ _; omega⟩
    · have := passL_rg t.toNat F 0
      omega
theorem placed_rg (F : Int → Int) : 0 ≤ r_placed F ∧ r_placed F ≤ 48 := by
  have e : r_placed F = sm 6 0 (fun b => r_cnt F b 0) := rfl
  have := sm_le (n := 6) (i := 0) (w := fun b => r_cnt F b 0) (c := 8) (fun j _ _ => cnt_rg F j 0)
  rw [e]; omega
theorem weakest_rg {N : Int} {F : Int → Int} (h : WF N F) : 0 ≤ r_weakest F ∧ r_weakest F ≤ 40000 := fo_inv (P := fun x => 0 ≤ x ∧ x ≤ 40000) (by omega) (fun j x q0 q1 hx => by
  have := hund_rg h (b := j) (by omega) (by omega)
  unfold s_weak
  split <;> omega)
/-! texts -/
theorem t_run_1 {t : Int → Int} {n : Int} {f : Nat} {a k : Int} (hf : 0 < f) (h : ¬ O_ok t n a) : t_run t n f a k = (0, o_end t n a, k) := by
  obtain ⟨m, rfl⟩ : ∃ m, f = m + 1 := ⟨f - 1, by omega⟩
  exact if_pos h
theorem t_run_2 {t : Int → Int} {n : Int} {f : Nat} {a k : Int} (hf : 0 < f) (h : O_ok t n a) (hc : o_end t n a < n ∧ t (o_end t n a) = 44) : t_run t n f a k = t_run t n (f - 1) (o_end t n a + 1) (k + 1) := by
  obtain ⟨m, rfl⟩ : ∃ m, f = m + 1 := ⟨f - 1, by omega⟩
  show (if ¬ O_ok t n a then _ else _) = _
  rw [if_neg (fun hh => hh h), if_pos hc]
  rfl
theorem t_run_3 {t : Int → Int} {n : Int} {f : Nat} {a k : Int} (hf : 0 < f) (h : O_ok t n a) (hc : ¬ (o_end t n a < n ∧ t (o_end t n a) = 44)) : t_run t n f a k = ((if o_end t n a = n then 1 else 0), o_end t n a, k + 1) := by
  obtain ⟨m, rfl⟩ : ∃ m, f = m + 1 := ⟨f - 1, by omega⟩
  show (if ¬ O_ok t n a then _ else _) = _
  rw [if_neg (fun hh => hh h), if_neg hc]
theorem d_rg (t : Int → Int) (n a : Int) : -1 ≤ d_at t n a ∧ d_at t n a ≤ 9 := by unfold d_at; omega
theorem d_lt {t : Int → Int} {n a : Int} (h : 0 ≤ d_at t n a) : a < n := by unfold d_at at h; omega
theorem n_end_rg {t : Int → Int} {n a hi : Int} (h : 0 ≤ d_at t n a) : a + 1 ≤ n_end t n a hi ∧ n_end t n a hi ≤ a + 2 ∧ n_end t n a hi ≤ n := by
  unfold n_end
  have h1 := d_lt h
  split
  · rename_i h2
    have := d_lt h2.2.1
    omega
  · omega
theorem n_val_rg {t : Int → Int} {n a hi : Int} (h : 0 ≤ d_at t n a) : 0 ≤ n_val t n a hi ∧ n_val t n a hi ≤ 99 := by
  unfold n_val
  have h1 := d_rg t n a
  have h2 := d_rg t n (a + 1)
  split <;> omega
theorem n_val_hi {t : Int → Int} {n a lo hi : Int} (h : lo ≤ d_at t n a) (h9 : 9 ≤ hi) (h0 : 0 ≤ lo) : lo ≤ n_val t n a hi ∧ n_val t n a hi ≤ hi := by
  unfold n_val
  have h1 := d_rg t n a
  have h2 := d_rg t n (a + 1)
  split
  · rename_i h3
    have h4 := h3.2.2
    omega
  · omega
/-- an order that is one: where it ends, its numbers -/
theorem o_ok_rg {t : Int → Int} {n a : Int} (h : O_ok t n a) : a + 2 ≤ o_end t n a ∧ o_end t n a ≤ n ∧ o_lo t a ≤ o_arg t n a ∧ o_arg t n a ≤ o_hi t a ∧ 1 ≤ o_rep t n a ∧ o_rep t n a ≤ 99 ∧ (t a ≠ 114 → o_rep t n a = 1) := by
  obtain ⟨h1, h2, h3⟩ := h
  have hlo : 0 ≤ o_lo t a := by unfold o_lo; omega
  have hhi : 9 ≤ o_hi t a := by unfold o_hi; omega
  have h2' : o_lo t a ≤ d_at t n (a + 1) := h2
  have e1 := n_end_rg (t := t) (n := n) (a := a + 1) (hi := o_hi t a) (by omega)
  have v1 := n_val_hi (t := t) (n := n) (a := a + 1) (lo := o_lo t a) (hi := o_hi t a) h2' hhi hlo
  have h4 : o_end t n a = if O_star t n a then (if O_rep t n a then n_end t n (o_e1 t n a + 1) 99 else o_e1 t n a + 1) else o_e1 t n a := by
    unfold o_end
    rw [if_neg (fun hh => hh h1), if_neg (fun hh => hh h2)]
  refine ⟨?_, ?_, v1.1, v1.2, ?_, ?_, ?_⟩
  · rw [h4]
    split
    · rename_i hs
      rw [if_pos (h3 hs)]
      have e2 := n_end_rg (t := t) (n := n) (a := o_e1 t n a + 1) (hi := 99) (by have := h3 hs; omega)
      have : o_e1 t n a = n_end t n (a + 1) (o_hi t a) := rfl
      omega
    · have : o_e1 t n a = n_end t n (a + 1) (o_hi t a) := rfl
      omega
  · rw [h4]
    split
    · rename_i hs
      rw [if_pos (h3 hs)]
      have e2 := n_end_rg (t := t) (n := n) (a := o_e1 t n a + 1) (hi := 99) (by have := h3 hs; omega)
      omega
    · have : o_e1 t n a = n_end t n (a + 1) (o_hi t a) := rfl
      omega
  · unfold o_rep
    split
    · rename_i hs
      exact (n_val_hi (lo := 1) (h3 hs) (by omega) (by omega)).1
    · omega
  · unfold o_rep
    split
    · rename_i hs
      exact (n_val_hi (lo := 1) (h3 hs) (by omega) (by omega)).2
    · omega
  · intro hn
    unfold o_rep
    rw [if_neg (fun hs => hn hs.1)]
theorem o_end_0 {t : Int → Int} {n a : Int} (h : ¬ O_let t n a) : o_end t n a = a := if_pos h
theorem o_end_1 {t : Int → Int} {n a : Int} (h : O_let t n a) (h2 : ¬ O_num t n a) : o_end t n a = a + 1 := by
  unfold o_end
  rw [if_neg (fun hh => hh h), if_pos h2]
theorem o_end_2 {t : Int → Int} {n a : Int} (h : O_let t n a) (h2 : O_num t n a) (h3 : ¬ O_star t n a) : o_end t n a = o_e1 t n a := by
  unfold o_end
  rw [if_neg (fun hh => hh h), if_neg (fun hh => hh h2), if_neg h3]
theorem o_end_3 {t : Int → Int} {n a : Int} (h : O_let t n a) (h2 : O_num t n a) (h3 : O_star t n a) (h4 : ¬ O_rep t n a) : o_end t n a = o_e1 t n a + 1 := by
  unfold o_end
  rw [if_neg (fun hh => hh h), if_neg (fun hh => hh h2), if_pos h3, if_neg h4]
theorem o_end_4 {t : Int → Int} {n a : Int} (h : O_let t n a) (h2 : O_num t n a) (h3 : O_star t n a) (h4 : O_rep t n a) : o_end t n a = n_end t n (o_e1 t n a + 1) 99 := by
  unfold o_end
  rw [if_neg (fun hh => hh h), if_neg (fun hh => hh h2), if_pos h3, if_pos h4]
theorem e_reps_s {c x d : Int} {m : Nat} {F : Int → Int} : e_reps c x (m + 1) d F = if (e_one F c x).1 < 0 then ((e_one F c x).1, d, F) else e_reps c x m (d + 1) (e_one F c x).2 := rfl
theorem wf_read3 {N : Int} {F : Int → Int} {v c : Int} (h : WF N F) (hv : 0 ≤ v ∧ v ≤ 23) (hN : N + 3 ≤ 200000000) : WF (N + 3) (r_read3 F v c) := by
  have h0 := wf_fronts h hv
  have hn := h0.1
  have b7 := h0.2.1 7
  have b8 := h0.2.1 8
  have bv := h0.2.1 (v + 209)
  unfold r_read3
  exact (wf_cnt (wf_cnt (wf_cnt h0 (by omega) (by omega) (by omega)) (by omega) (by omega) (by split <;> omega)) (by omega) (by omega) (by omega)).cast (by omega)
theorem wf_read {N : Int} {F : Int → Int} {v : Int} (h : WF N F) (hN : N + 100 ≤ 200000000) (hr : 0 ≤ (r_read F v).1) : WF (N + 100) (r_read F v).2 := by
  unfold r_read at hr ⊢
  by_cases h1 : v < 0 ∨ 23 < v ∨ r_placeOf F v = -5
  · rw [if_pos h1] at hr; exact absurd hr (by show ¬ ((0 : Int) ≤ -1); omega)
  · rw [if_neg h1] at hr ⊢
    have hp := pl_hold (F := F) (p := v) (by omega)
    by_cases h2 : r_buf F v ≠ -5
    · rw [if_pos h2]
      exact (wf_read3 h (by omega) (by omega)).mono (by omega) hN
    · rw [if_neg h2] at hr ⊢
      by_cases h3 : r_left F (r_placeOf F v) ≠ 0
      · rw [if_pos h3]
        exact (wf_read3 (wf_reads h ⟨hp.1, hp.2.1⟩ h3 (by omega)) (by omega) (by omega)).mono (by omega) hN
      · rw [if_neg h3] at hr ⊢
        by_cases h4 : F 5 = 1 ∧ 0 ≤ (r_all F (r_placeOf F v / 8)).1 ∧ 0 < r_left (r_all F (r_placeOf F v / 8)).2 (r_placeOf (r_all F (r_placeOf F v / 8)).2 v)
        · rw [if_pos h4]
          have ha := all_ok h (b := r_placeOf F v / 8) (by omega) h4.2.1 (by omega)
          have hp2 := pl_hold (ha.2 v (by omega) (by omega))
          exact (wf_read3 (wf_reads ha.1 ⟨hp2.1, hp2.2.1⟩ (by omega) (by omega)) (by omega) (by omega)).mono (by omega) hN
        · rw [if_neg h4] at hr; exact absurd hr (by show ¬ ((0 : Int) ≤ -4); omega)
theorem wf_write {N : Int} {F : Int → Int} {v : Int} (h : WF N F) (hr : 0 ≤ (r_write F v).1) : WF N (r_write F v).2 := by
  unfold r_write at hr ⊢
  by_cases h1 : v < 0 ∨ 23 < v
  · rw [if_pos h1] at hr; exact absurd hr (by show ¬ ((0 : Int) ≤ -1); omega)
  · rw [if_neg h1] at hr ⊢
    by_cases h2 : r_frees F < (if P_full F then 2 else 1)
    · rw [if_pos h2] at hr; exact absurd hr (by show ¬ ((0 : Int) ≤ -3); omega)
    · rw [if_neg h2]
      exact wf_gives0 (wf_leaves h v) (by omega) (room_leaves h v (room_frees h (by omega)))
theorem wf_passL : ∀ (f : Nat) (N : Int) (F : Int → Int) (n : Int), WF N F → N + 100 * (f : Int) ≤ 200000000 → WF (N + 100 * (f : Int)) (r_passL f F n).2 := by
  intro f
  induction f with
  | zero => intro N F n h _; exact h.cast (by omega)
  | succ f ih =>
    intro N F n h hN
    exact (ih (N + 100) _ _ (wf_tick h (by omega)) (by omega)).cast (by omega)
theorem wf_pass {N : Int} {F : Int → Int} {v : Int} (h : WF N F) (hN : N + 10000 ≤ 200000000) (hr : 0 ≤ (r_pass F v).1) : WF (N + 10000) (r_pass F v).2 := by
  unfold r_pass at hr ⊢
  by_cases h1 : v < 1 ∨ 99 < v
  · rw [if_pos h1] at hr; exact absurd hr (by show ¬ ((0 : Int) ≤ -2); omega)
  · rw [if_neg h1] at hr ⊢
    by_cases h2 : 99999 < F 0 + v
    · rw [if_pos h2] at hr; exact absurd hr (by show ¬ ((0 : Int) ≤ -4); omega)
    · rw [if_neg h2]
      exact (wf_passL v.toNat N F 0 h (by omega)).mono (by omega) hN
def e_grow (c : Int) : Int := if c = 116 then 10000 else 100
theorem wf_one {N : Int} {F : Int → Int} {c x : Int} (h : WF N F) (hc : c = 114 ∨ c = 119 ∨ c = 116) (hN : N + 10000 ≤ 200000000) (hr : 0 ≤ (e_one F c x).1) : WF (N + e_grow c) (e_one F c x).2 := by
  unfold e_one at hr ⊢
  unfold e_grow
  by_cases h1 : c = 114
  · rw [if_pos h1] at hr ⊢
    rw [if_neg (by omega)]
    exact wf_read h (by omega) hr
  · rw [if_neg h1] at hr ⊢
    by_cases h2 : c = 119
    · rw [if_pos h2] at hr ⊢
      rw [if_neg (by omega)]
      exact (wf_write h hr).mono (by omega) (by omega)
    · rw [if_neg h2] at hr ⊢
      rw [if_pos (by omega)]
      exact wf_pass h hN hr
theorem one_rg {N : Int} {F : Int → Int} {c x : Int} (h : WF N F) : -5 ≤ (e_one F c x).1 ∧ (e_one F c x).1 ≤ 3200 := by
  unfold e_one
  split
  · have := read_rg h x; omega
  · split
    · have := write_rg h x; omega
    · have := pass_rg h x; omega
theorem o_end_rg0 {t : Int → Int} {n a : Int} (h : 0 ≤ a ∧ a ≤ n) : 0 ≤ o_end t n a ∧ o_end t n a ≤ n := by
  by_cases h1 : O_let t n a
  · have h1' := h1.1
    by_cases h2 : O_num t n a
    · have h2' : o_lo t a ≤ d_at t n (a + 1) := h2
      have hlo : 0 ≤ o_lo t a := by unfold o_lo; omega
      have e1 := n_end_rg (t := t) (n := n) (a := a + 1) (hi := o_hi t a) (by omega)
      have e0 : o_e1 t n a = n_end t n (a + 1) (o_hi t a) := rfl
      by_cases h3 : O_star t n a
      · by_cases h4 : O_rep t n a
        · have h4' : 1 ≤ d_at t n (o_e1 t n a + 1) := h4
          have e2 := n_end_rg (t := t) (n := n) (a := o_e1 t n a + 1) (hi := 99) (by omega)
          rw [o_end_4 h1 h2 h3 h4]; omega
        · have := h3.2.1
          rw [o_end_3 h1 h2 h3 h4]; omega
      · rw [o_end_2 h1 h2 h3]; omega
    · rw [o_end_1 h1 h2]; omega
  · rw [o_end_0 h1]; omega
theorem txt_rows {t : Int → Int} {n mm a : Int} {Y Z : Nat → Int → Int} (hro : ∀ j : Nat, (j : Int) < mm → Y 5 (3 * j) = t (t_at t n j) ∧ Y 5 (3 * j + 1) = o_arg t n (t_at t n j) ∧ Y 5 (3 * j + 2) = o_rep t n (t_at t n j) ∧ O_ok t n (t_at t n j))
    (h5 : ∀ i, Z 5 i = if i = 3 * mm then t a else if i = 3 * mm + 1 then o_arg t n a else if i = 3 * mm + 2 then o_rep t n a else Y 5 i) (hat : t_at t n mm.toNat = a) (hok : O_ok t n a) (hm : 0 ≤ mm) :
    ∀ j : Nat, (j : Int) < mm + 1 → Z 5 (3 * j) = t (t_at t n j) ∧ Z 5 (3 * j + 1) = o_arg t n (t_at t n j) ∧ Z 5 (3 * j + 2) = o_rep t n (t_at t n j) ∧ O_ok t n (t_at t n j) := by
  intro j hj
  by_cases hq : (j : Int) = mm
  · have hjm : j = mm.toNat := by omega
    rw [h5, h5, h5, if_pos (by omega), if_neg (by omega), if_pos (by omega), if_neg (by omega), if_neg (by omega), if_pos (by omega), hjm, hat]
    exact ⟨rfl, rfl, rfl, hok⟩
  · have h := hro j (by omega)
    rw [h5, h5, h5, if_neg (by omega), if_neg (by omega), if_neg (by omega), if_neg (by omega), if_neg (by omega), if_neg (by omega), if_neg (by omega), if_neg (by omega), if_neg (by omega)]
    exact h
