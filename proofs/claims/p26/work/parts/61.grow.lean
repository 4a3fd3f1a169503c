/-! what a call leaves: the book's numbers grow by at most 210000 -/
theorem wb_rec {N M : Int} {B : Nat → Int → Int} {f : Int → Int} (h : WB N B) (hf : WF M f) (h1 : N ≤ M) : WB M (upT (b_rec B) 0 f) := by
  have h2 := hf.1.2
  have hk := h.k
  obtain ⟨a1, a2, a3, a4, a5, a6, a7, a8, a9⟩ := h
  have e8 : upT (b_rec B) 0 f 8 0 = if B 8 0 = 4 then 4 else B 8 0 + 1 := rfl
  refine ⟨hf, ?_, fun _ => a1.mono h1 h2, fun q => ?_, fun q => ?_, fun q => ?_, a7, fun q => (a8 q).mono h1 h2, a9⟩
  · rw [e8]; split <;> omega
  · rw [e8] at q; exact (a3 (by omega)).mono h1 h2
  · rw [e8] at q; exact (a4 (by omega)).mono h1 h2
  · rw [e8] at q; exact (a5 (by omega)).mono h1 h2
theorem wb_act {N M : Int} {B : Nat → Int → Int} {x : Int × (Int → Int)} (h : WB N B) (hx : 0 ≤ x.1 → WF M x.2) (h1 : N ≤ M) (h2 : M ≤ 200000000) : WB M (act B x).2 := by
  by_cases hc : x.1 < 0
  · rw [act_n hc]; exact h.mono h1 h2
  · rw [act_p (by omega)]; exact wb_rec h (hx (by omega)) h1
theorem wf_set {N : Int} {F : Int → Int} {w v : Int} (h : WF N F) (hs : S_ok w v) : WF N (r_set F w v) := by
  have hn := h.1
  have hse := h.se
  have hhe := h.he
  have hw : 0 ≤ w ∧ w ≤ 4 := by omega
  have hv : 0 ≤ v ∧ v ≤ 999 := by omega
  have e : ∀ i, i ≠ w + 1 → i ≠ 11 → r_set F w v i = F i := fun i a b => by unfold r_set; rw [up_ne b, up_ne a]
  have ew : r_set F w v (w + 1) = v := by unfold r_set; rw [up_ne (by omega), up_eq rfl]
  have e4 : up F (w + 1) v 4 = if w = 3 then v else F 4 := by
    by_cases c : w = 3
    · rw [if_pos c, up_eq (by omega)]
    · rw [if_neg c, up_ne (by omega)]
  have e11 : r_set F w v 11 = if (if w = 3 then v else F 4) < F 11 then (if w = 3 then v else F 4) else F 11 := by
    unfold r_set
    rw [up_eq rfl, e4, up_ne (by omega)]
  have es : ∀ i, 1 ≤ i → i ≤ 5 → r_set F w v i = if i = w + 1 then v else F i := fun i a b => by
    by_cases c : i = w + 1
    · rw [if_pos c, c, ew]
    · rw [if_neg c, e i c (by omega)]
  refine ⟨hn, fun i => ?_, ?_, ?_, ?_, fun b h0 h1 => ?_, fun j h0 h1 => ?_, fun i j a0 a1 b0 b1 q0 q1 => ?_, fun j h0 h1 q0 q1 => ?_, ?_⟩
  · by_cases c : i = w + 1
    · rw [c, ew]; omega
    · by_cases c2 : i = 11
      · rw [c2, e11]
        split
        · split <;> omega
        · have := h.2.1 11; omega
      · rw [e i c c2]; exact h.2.1 i
  · rw [es 1 (by omega) (by omega), es 2 (by omega) (by omega), es 3 (by omega) (by omega), es 4 (by omega) (by omega), es 5 (by omega) (by omega)]
    omega
  · rw [e 6 (by omega) (by omega)]; exact h.op
  · rw [e11, es 4 (by omega) (by omega)]
    omega
  · rw [e (4 * b + 41) (by omega) (by omega), e (4 * b + 42) (by omega) (by omega), e (4 * b + 43) (by omega) (by omega)]; exact h.bl h0 h1
  · rw [bears_congr (F := F) (G := r_set F w v) (b := j / 8) (e _ (by omega) (by omega)) (e _ (by omega) (by omega)), e (3 * j + 65) (by omega) (by omega), e (3 * j + 66) (by omega) (by omega)]; exact h.pl h0 h1
  · rw [e (3 * i + 65) (by omega) (by omega)] at q0 q1
    rw [e (3 * j + 65) (by omega) (by omega)] at q1
    exact h.un a0 a1 b0 b1 q0 q1
  · rw [e (3 * j + 65) (by omega) (by omega)] at q0
    rw [e (3 * j + 68) (by omega) (by omega)]
    exact h.fl h0 h1 q0 q1
  · rw [e 10 (by omega) (by omega), e 16 (by omega) (by omega)]; exact h.lo
theorem wf_setKind {N : Int} {F : Int → Int} {b k : Int} (h : WF N F) (hb : 0 ≤ b ∧ b ≤ 5) (hk : 0 ≤ k ∧ k ≤ 2) (hf : P_free F b) : WF N (up F (4 * b + 41) k) := by
  have hn := h.1
  have he := cnt_e8.mp hf.2
  have e : ∀ i, i ≠ 4 * b + 41 → up F (4 * b + 41) k i = F i := fun i a => up_ne a
  refine ⟨hn, fun i => ?_, ?_, ?_, ?_, fun d h0 h1 => ?_, fun j h0 h1 => ?_, fun i j a0 a1 b0 b1 q0 q1 => ?_, fun j h0 h1 q0 q1 => ?_, ?_⟩
  · by_cases c : i = 4 * b + 41
    · rw [up_eq c]; omega
    · rw [e i c]; exact h.2.1 i
  · rw [e 1 (by omega), e 2 (by omega), e 3 (by omega), e 4 (by omega), e 5 (by omega)]; exact h.se
  · rw [e 6 (by omega)]; exact h.op
  · rw [e 11 (by omega), e 4 (by omega)]; exact h.he
  · rw [e (4 * d + 42) (by omega), e (4 * d + 43) (by omega)]
    have q := h.bl h0 h1
    by_cases c : d = b
    · rw [up_eq (by omega)]; omega
    · rw [e (4 * d + 41) (by omega)]; exact q
  · rw [e (3 * j + 65) (by omega), e (3 * j + 66) (by omega)]
    have q := h.pl h0 h1
    by_cases c : j / 8 = b
    · have q2 := he j (by omega) (by omega)
      have hr : 20 ≤ r_bears (up F (4 * b + 41) k) (j / 8) := by
        unfold r_bears r_cut
        split <;> omega
      exact ⟨q.1, q.2.1, q.2.2.1, q.2.2.2.1, by have := q.2.2.2.1 q2; omega⟩
    · rw [bears_congr (F := F) (G := up F (4 * b + 41) k) (b := j / 8) (e _ (by omega)) (e _ (by omega))]; exact q
  · rw [e (3 * i + 65) (by omega)] at q0 q1
    rw [e (3 * j + 65) (by omega)] at q1
    exact h.un a0 a1 b0 b1 q0 q1
  · rw [e (3 * j + 65) (by omega)] at q0
    rw [e (3 * j + 68) (by omega)]
    exact h.fl h0 h1 q0 q1
  · rw [e 10 (by omega), e 16 (by omega)]; exact h.lo
theorem wb_set {N : Int} {B : Nat → Int → Int} {w v : Int} (h : WB N B) (hN : N + 210000 ≤ 200000000) : WB (N + 210000) (c_set B w v).2 := by
  have hm := h.mono (show N ≤ N + 210000 from by omega) hN
  unfold c_set
  split
  · exact hm
  · split
    · exact hm
    · rename_i h2
      split
      · exact hm
      · exact wb_rec h ((wf_set h.1 (by omega)).mono (by omega) hN) (by omega)
theorem wb_setKind {N : Int} {B : Nat → Int → Int} {b k : Int} (h : WB N B) (hN : N + 210000 ≤ 200000000) : WB (N + 210000) (c_setKind B b k).2 := by
  have hm := h.mono (show N ≤ N + 210000 from by omega) hN
  unfold c_setKind
  by_cases h1 : b < 0 ∨ 5 < b
  · rw [if_pos h1]; exact hm
  · rw [if_neg h1]
    by_cases h2 : k < 0 ∨ 2 < k
    · rw [if_pos h2]; exact hm
    · rw [if_neg h2]
      by_cases h3 : P_free (B 0) b
      · rw [if_neg (fun q => q h3)]
        split
        · exact hm
        · exact wb_rec h ((wf_setKind h.1 (by omega) (by omega) h3).mono (by omega) hN) (by omega)
      · rw [if_pos h3]; exact hm
theorem wb_mark {N : Int} {B : Nat → Int → Int} {b i : Int} (h : WB N B) (hi : i = 0 ∨ i = 1) (hN : N + 210000 ≤ 200000000) : WB (N + 210000) (c_mark B b i).2 := by
  have hm := h.mono (show N ≤ N + 210000 from by omega) hN
  unfold c_mark
  by_cases h1 : b < 0 ∨ 5 < b
  · rw [if_pos h1]; exact hm
  · rw [if_neg h1]
    split
    · exact hm
    · split
      · exact hm
      · exact wb_rec h ((wf_mark h.1 (by omega) (by omega)).mono (by omega) hN) (by omega)
theorem wb_write {N : Int} {B : Nat → Int → Int} {p : Int} (h : WB N B) (hN : N + 210000 ≤ 200000000) : WB (N + 210000) (c_write B p).2 :=
  wb_act h (fun q => (wf_write h.1 q).mono (by omega) hN) (by omega) hN
theorem wb_read {N : Int} {B : Nat → Int → Int} {p : Int} (h : WB N B) (hN : N + 210000 ≤ 200000000) : WB (N + 210000) (c_read B p).2 :=
  wb_act h (fun q => (wf_read h.1 (by omega) q).mono (by omega) hN) (by omega) hN
theorem wb_pass {N : Int} {B : Nat → Int → Int} {p : Int} (h : WB N B) (hN : N + 210000 ≤ 200000000) : WB (N + 210000) (c_pass B p).2 :=
  wb_act h (fun q => (wf_pass h.1 (by omega) q).mono (by omega) hN) (by omega) hN
theorem wb_forget {N : Int} {B : Nat → Int → Int} {p : Int} (h : WB N B) (hN : N + 210000 ≤ 200000000) : WB (N + 210000) (c_forget B p).2 := by
  have hm := h.mono (show N ≤ N + 210000 from by omega) hN
  unfold c_forget
  by_cases h1 : p < 0 ∨ 23 < p ∨ r_placeOf (B 0) p = -5
  · rw [if_pos h1]; exact hm
  · rw [if_neg h1]
    exact wb_rec h ((wf_leaves (wf_stale h.1 (v := p) (by omega)) p).mono (by omega) hN) (by omega)
theorem wb_moveBlock {N : Int} {B : Nat → Int → Int} {b : Int} (h : WB N B) (hN : N + 210000 ≤ 200000000) : WB (N + 210000) (c_moveBlock B b).2 := by
  have hm := h.mono (show N ≤ N + 210000 from by omega) hN
  unfold c_moveBlock
  by_cases h1 : b < 0 ∨ 5 < b
  · rw [if_pos h1]; exact hm
  · rw [if_neg h1]
    split
    · exact hm
    · exact wb_act h (fun q => (wf_all h.1 (by omega) q (by omega)).mono (by omega) hN) (by omega) hN
theorem wb_undo {N : Int} {B : Nat → Int → Int} (h : WB N B) (hN : N + 210000 ≤ 200000000) : WB (N + 210000) (c_undo B).2 := by
  have hm := h.mono (show N ≤ N + 210000 from by omega) hN
  unfold c_undo
  by_cases h1 : B 8 0 = 0
  · rw [if_pos h1]; exact hm
  · rw [if_neg h1]
    have hk := hm.k
    obtain ⟨a1, a2, a3, a4, a5, a6, a7, a8, a9⟩ := hm
    have e8 : b_pop B 8 0 = B 8 0 - 1 := rfl
    show WB (N + 210000) (b_pop B)
    refine ⟨a3 (by omega), by rw [e8]; omega, fun q => a4 (by rw [e8] at q; omega), fun q => a5 (by rw [e8] at q; omega), fun q => a6 (by rw [e8] at q; omega), fun q => ?_, a7, a8, a9⟩
    rw [e8] at q
    omega
theorem wb_keep {N : Int} {B : Nat → Int → Int} (h : WB N B) (hN : N + 210000 ≤ 200000000) : WB (N + 210000) (c_keep B).2 := by
  have hm := h.mono (show N ≤ N + 210000 from by omega) hN
  obtain ⟨a1, a2, a3, a4, a5, a6, a7, a8, a9⟩ := hm
  exact ⟨a1, a2, a3, a4, a5, a6, Or.inr rfl, fun _ => a1, a9⟩
theorem wb_restore {N : Int} {B : Nat → Int → Int} (h : WB N B) (hN : N + 210000 ≤ 200000000) : WB (N + 210000) (c_restore B).2 := by
  have hm := h.mono (show N ≤ N + 210000 from by omega) hN
  have hj := h.j
  unfold c_restore
  by_cases h1 : B 9 0 = 0
  · rw [if_pos h1]; exact hm
  · rw [if_neg h1]
    exact wb_rec h ((h.sh (by omega)).mono (by omega) hN) (by omega)
/-! a text performed -/
/-! the first book -/
theorem wf_0 : WF 200000 f_0 := by
  have hf : ∀ i : Int, 209 ≤ i ∨ i < 0 → f_0 i = 0 := fun i hi => by
    have e1 : f_0 i = f_01 i := fo_keep (fun k G q0 q1 => up_ne (by omega))
    have e2 : f_01 i = f_00 i := fo_keep (fun k G q0 q1 => up_ne (by omega))
    rw [e1, e2]
    unfold f_00
    rw [up_ne (by omega), up_ne (by omega), up_ne (by omega), up_ne (by omega), up_ne (by omega), up_ne (by omega)]
  have hn : ∀ n : Nat, n < 209 → -200000 ≤ f_0 (n : Int) ∧ f_0 (n : Int) ≤ 200000 := by decide +kernel
  have hh : ∀ n : Nat, n < 48 → f_0 (3 * (n : Int) + 65) = -1 ∧ f_0 (3 * (n : Int) + 66) = 0 := by decide +kernel
  have hk : ∀ k : Int, 0 ≤ k → k < 48 → f_0 (3 * k + 65) = -1 ∧ f_0 (3 * k + 66) = 0 := fun k h0 h1 => by
    have := hh k.toNat (by omega)
    rwa [Int.toNat_of_nonneg h0] at this
  have hbn : ∀ n : Nat, n < 6 → 0 ≤ f_0 (4 * (n : Int) + 41) ∧ f_0 (4 * (n : Int) + 41) ≤ 2 ∧ 0 ≤ f_0 (4 * (n : Int) + 42) ∧ 0 ≤ f_0 (4 * (n : Int) + 43) ∧ f_0 (4 * (n : Int) + 43) ≤ 1 := by decide +kernel
  refine ⟨by omega, fun i => ?_, by decide +kernel, by decide +kernel, by decide +kernel, fun b h0 h1 => ?_, fun k h0 h1 => ?_, fun j k a0 a1 b0 b1 q0 q1 => ?_, fun k h0 h1 q0 q1 => ?_, by decide +kernel⟩
  · by_cases hi : 209 ≤ i ∨ i < 0
    · rw [hf i hi]; omega
    · have := hn i.toNat (by omega)
      rwa [Int.toNat_of_nonneg (by omega)] at this
  · have := hbn b.toNat (by omega)
    rwa [Int.toNat_of_nonneg h0] at this
  · have h2 := hk k h0 h1
    have hr : 20 ≤ r_bears f_0 (k / 8) := by
      unfold r_bears r_cut
      split <;> omega
    rw [h2.1, h2.2]
    exact ⟨by omega, by omega, by omega, fun _ => rfl, by omega⟩
  · have := hk j a0 a1; omega
  · have := hk (k + 1) (by omega) (by omega)
    rw [show 3 * (k + 1) + 65 = 3 * k + 68 from by omega] at this
    exact this.1
theorem wb_0 : WB 200000 b_0 := by
  refine ⟨wf_0, ?_, fun q => ?_, fun q => ?_, fun q => ?_, fun q => ?_, Or.inl rfl, fun q => ?_, ?_, fun i => ?_, Or.inl rfl, fun i => ?_⟩
  · show (0 : Int) ≤ 0 ∧ (0 : Int) ≤ 4; omega
  · exact absurd q (by show ¬ ((0 : Int) < 0); omega)
  · exact absurd q (by show ¬ ((1 : Int) < 0); omega)
  · exact absurd q (by show ¬ ((2 : Int) < 0); omega)
  · exact absurd q (by show ¬ ((3 : Int) < 0); omega)
  · exact absurd q (by show ¬ ((0 : Int) = 1); omega)
  · show (0 : Int) ≤ 0 ∧ (0 : Int) ≤ 60; omega
  · show (0 : Int) ≤ 0 ∧ (0 : Int) ≤ 65535; omega
  · show (-300000000 : Int) ≤ 0 ∧ (0 : Int) ≤ 300000000; omega
theorem relc_0 : RelC b_0 T_0 T_0 (fun _ => T_0) 0 (fun _ _ => 0) (fun _ => 0) :=
  ⟨rel_0, fun q => absurd q (by show ¬ ((0 : Int) = 1); omega), fun r hr => absurd hr (by show ¬ ((r : Int) < 0); omega), rfl, rfl, rfl, rfl, rfl, rfl, rfl, rfl⟩
