/-! what a call leaves: the book's numbers grow by at most 210000 -/
theorem wb_rec {N M : Int} {B : Nat → Int → Int} {f : Int → Int} (h : WB N B) (hf : WF M f) (h1 : N ≤ M) : WB M (upT (b_rec B) 0 f) := by
  have h2 := hf.1.2
  have hk := h.k
  obtain ⟨a1, a2, a3, a4, a5, a6, a7, a8, a9⟩ := h
  have e8 : upT (b_rec B) 0 f 8 0 = if B 8 0 = 4 then 4 else B 8 0 + 1 := rfl
  refine ⟨hf, ?_, fun _ => a1.mono h1 h2, fun q => ?_, fun q => ?_, fun q => ?_, a7, fun q => (a8 q).mono h1 h2, a9⟩
  · rw [e8]; split <;> omega
  · rw [e8] at q; exact (a3 (by omega)).mono h1 h2
  · rw [e8] at q; exact (a4 (by omega)).mono h1 h2
  · rw [e8] at q; exact (a5 (by omega)).mono h1 h2
theorem wb_act {N M : Int} {B : Nat → Int → Int} {x : Int × (Int → Int)} (h : WB N B) (hx : 0 ≤ x.1 → WF M x.2) (h1 : N ≤ M) (h2 : M ≤ 200000000) : WB M (act B x).2 := by
  by_cases hc : x.1 < 0
  · rw [act_n hc]; exact h.mono h1 h2
  · rw [act_p (by omega)]; exact wb_rec h (hx (by omega)) h1
theorem wf_set {N : Int} {F : Int → Int} {w v : Int} (h : WF N F) (hs : S_ok w v) : WF N (r_set F w v) := by
  have hn := h.1
  have hse := h.se
  have hhe := h.he
  have hw : 0 ≤ w ∧ w ≤ 4 := by omega
  have hv : 0 ≤ v ∧ v ≤ 999 := by omega
  have e : ∀ i, i ≠ w + 1 → i ≠ 11 → r_set F w v i = F i := fun i a b => by unfold r_set; rw [up_ne b, up_ne a]
  have ew : r_set F w v (w + 1) = v := by unfold r_set; rw [up_ne (by omega), up_eq rfl]
  have e4 : up F (w + 1) v 4 = if w = 3 then v else F 4 := by
    by_cases c : w = 3
    · rw [if_pos c, up_eq (by omega)]
    · rw [if_neg c, up_ne (by omega)]
  have e11 : r_set F w v 11 = if (if w = 3 then v else F 4) < F 11 then (if w = 3 then v else F 4) else F 11 := by
    unfold r_set
    rw [up_eq rfl, e4, up_ne (by omega)]
  have es : ∀ i, 1 ≤ i → i ≤ 5 → r_set F w v i = if i = w + 1 then v else F i := fun i a b => by
    by_cases c : i = w + 1
    · rw [if_pos c, c, ew]
    · rw [if_neg c, e i c (by omega)]
  refine ⟨hn, fun i => ?_, ?_, ?_, ?_, fun b h0 h1 => ?_, fun j h0 h1 => ?_, fun i j a0 a1 b0 b1 q0 q1 => ?_, fun j h0 h1 q0 q1 => ?_, ?_⟩
  · by_cases c : i = w + 1
    · rw [c, ew]; omega
    · by_cases c2 : i = 11
      · rw [c2, e11]
        split
        · split <;> omega
        · have := h.2.1 11; omega
      · rw [e i c c2]; exact h.2.1 i
  · rw [es 1 (by omega) (by omega), es 2 (by omega) (by omega), es 3 (by omega) (by omega), es 4 (by omega) (by omega), es 5 (by omega) (by omega)]
    omega
  · rw [e 6 (by omega) (by omega)]; exact h.op
  · rw [e11, es 4 (by omega) (by omega)]
    omega
  · rw [e (4 * b + 41) (by omega) (by omega), e (4 * b + 42) (by omega) (by omega), e (4 * b + 43) (by omega) (by omega)]; exact h.bl h0 h1
  · rw [bears_congr (F := F) (G := r_set F w v) (b := j / 8) (e _ (by omega) (by omega)) (e _ (by omega) (by omega)), e (3 * j + 65) (by omega) (by omega), e (3 * j + 66) (by omega) (by omega)]; exact h.pl h0 h1
  · rw [e (3 * i + 65) (by omega) (by omega)] at q0 q1
    rw [e (3 * j + 65) (by omega) (by omega)] at q1
    exact h.un a0 a1 b0 b1 q0 q1
  · rw [e (3 * j + 65) (by omega) (by omega)] at q0
    rw [e (3 * j + 68) (by omega) (by omega)]
    exact h.fl h0 h1 q0 q1
  · rw [e 10 (by omega) (by omega), e 16 (by omega) (by omega)]; exact h.lo
theorem wf_setKind {N : Int} {F : Int → Int} {b k : Int} (h : WF N F) (hb : 0 ≤ b ∧ b ≤ 5) (hk : 0 ≤ k ∧ k ≤ 2) (hf : P_free F b) : WF N (up F (4 * b + 41) k) := by
  have hn := h.1
  have he := cnt_e8.mp hf.2
  have e : ∀ i, i ≠ 4 * b + 41 → up F (4 * b + 41) k i = F i := fun i a => up_ne a
  refine ⟨hn, fun i => ?_, ?_, ?_, ?_, fun d h0 h1 => ?_, fun j h0 h1 => ?_, fun i j a0 a1 b0 b1 q0 q1 => ?_, fun j h0 h1 q0 q1 => ?_, ?_⟩
  · by_cases c : i = 4 * b + 41
    · rw [up_eq c]; omega
    · rw [e i c]; exact h.2.1 i
  · rw [e 1 (by omega), e 2 (by omega), e 3 (by omega), e 4 (by omega), e 5 (by omega)]; exact h.se
  · rw [e 6 (by omega)]; exact h.op
  · rw [e 11 (by omega), e 4 (by omega)]; exact h.he
  · rw [e (4 * d + 42) (by omega), e (4 * d + 43) (by omega)]
    have q := h.bl h0 h1
    by_cases c : d = b
    · rw [up_eq (by omega)]; omega
    · rw [e (4 * d + 41) (by omega)]; exact q
  · rw [e (3 * j + 65) (by omega), e (3 * j + 66) (by omega)]
    have q := h.pl h0 h1
    by_cases c : j / 8 = b
    · have q2 := he j (by omega) (by omega)
      have hr : 20 ≤ r_bears (up F (4 * b + 41) k) (j / 8) := by
        unfold r_bears r_cut
        split <;> omega
      exact ⟨q.1, q.2.1, q.2.2.1, q.2.2.2.1, by have := q.2.2.2.1 q2; omega⟩
    · rw [bears_congr (F := F) (G := up F (4 * b + 41) k) (b := j / 8) (e _ (by omega)) (e _ (by omega))]; exact q
  · rw [e (3 * i + 65) (by omega)] at q0 q1
    rw [e (3 * j + 65) (by omega)] at q1
    exact h.un a0 a1 b0 b1 q0 q1
  · rw [e (3 * j + 65) (by omega)] at q0
    rw [e (3 * j + 68) (by omega)]
    exact h.fl h0 h1 q0 q1
  · rw [e 10 (by omega), e 16 (by omega)]; exact h.lo
theorem wb_set {N : Int} {B : Nat → Int → Int} {w v : Int} (h : WB N B) (hN : N + 210000 ≤ 200000000) : WB (N + 210000) (c_set B w v).2 := by
  have hm := h.mono (show N ≤ N + 210000 from by omega) hN
  unfold c_set
  split
  · exact hm
  · split
    · exact hm
    · rename_i h2
      split
      · exact hm
      · exact wb_rec h ((wf_set h.1 (by omega)).mono (by omega) hN) (by omega)
theorem wb_setKind {N : Int} {B : Nat → Int → Int} {b k : Int} (h : WB N B) (hN : N + 210000 ≤ 200000000) : WB (N + 210000) (c_setKind B b k).2 := by
  have hm := h.mono (show N ≤ N + 210000 from by omega) hN
  unfold c_setKind
  by_cases h1 : b < 0 ∨ 5 < b
  · rw [if_pos h1]; exact hm
  · rw [if_neg h1]
    by_cases h2 : k < 0 ∨ 2 < k
    · rw [if_pos h2]; exact hm
    · rw [if_neg h2]
      by_cases h3 : P_free (B 0) b
      · rw [if_neg (fun q => q h3)]
        split
        · exact hm
        · exact wb_rec h ((wf_setKind h.1 (by omega) (by omega) h3).mono (by omega) hN) (by omega)
      · rw [if_pos h3]; exact hm
theorem wb_mark {N : Int} {B : Nat → Int → Int} {b i : Int} (h : WB N B) (hi : i = 0 ∨ i = 1) (hN : N + 210000 ≤ 200000000) : WB (N + 210000) (c_mark B b i).2 := by
  have hm := h.mono (show N ≤ N + 210000 from by omega) hN
  unfold c_mark
  by_cases h1 : b < 0 ∨ 5 < b
  · rw [if_pos h1]; exact hm
  · rw [if_neg h1]
    split
    · exact hm
    · split
      · exact hm
      · exact wb_rec h ((wf_mark h.1 (by omega) (by omega)).mono (by omega) hN) (by omega)
theorem wb_write {N : Int} {B : Nat → Int → Int} {p : Int} (h : WB N B) (hN : N + 210000 ≤ 200000000) : WB (N + 210000) (c_write B p).2 :=
  wb_act h (fun q => (wf_write h.1 q).mono (by omega) hN) (by omega) hN
theorem wb_read {N : Int} {B : Nat → Int → Int} {p : Int} (h : WB N B) (hN : N + 210000 ≤ 200000000) : WB (N + 210000) (c_read B p).2 :=
  wb_act h (fun q => (wf_read h.1 (by omega) q).mono (by omega) hN) (by omega) hN
theorem wb_pass {N : Int} {B : Nat → Int → Int} {p : Int} (h : WB N B) (hN : N + 210000 ≤ 200000000) : WB (N + 210000) (c_pass B p).2 :=
  wb_act h (fun q => (wf_pass h.1 (by omega) q).mono (by omega) hN) (by omega) hN
theorem wb_forget {N : Int} {B : Nat → Int → Int} {p : Int} (h : WB N B) (hN : N + 210000 ≤ 200000000) : WB (N + 210000) (c_forget B p).2 := by
  have hm := h.mono (show N ≤ N + 210000 from by omega) hN
  unfold c_forget
  by_cases h1 : p < 0 ∨ 23 < p ∨ r_placeOf (B 0) p = -5
  · rw [if_pos h1]; exact hm
  · rw [if_neg h1]
    exact wb_rec h ((wf_leaves (wf_stale h.1 (v := p) (by omega)) p).mono (by omega) hN) (by omega)
theorem wb_moveBlock {N : Int} {B : Nat → Int → Int} {b : Int} (h : WB N B) (hN : N + 210000 ≤ 200000000) : WB (N + 210000) (c_moveBlock B b).2 := by
  have hm := h.mono (show N ≤ N + 210000 from by omega) hN
  unfold c_moveBlock
  by_cases h1 : b < 0 ∨ 5 < b
  · rw [if_pos h1]; exact hm
  · rw [if_neg h1]
    split
    · exact hm
    · exact wb_act h (fun q => (wf_all h.1 (by omega) q (by omega)).mono (by omega) hN) (by omega) hN
theorem wb_type {N : Int} {B : Nat → Int → Int} {c : Int} (h : WB N B) (hc : 0 ≤ c ∧ c ≤ 65535) (hN : N + 210000 ≤ 200000000) : WB (N + 210000) (c_type B c).2 := by
  have hm := h.mono (show N ≤ N + 210000 from by omega) hN
  have ht := h.tl
  unfold c_type
  by_cases h1 : B 10 0 = 60
  · rw [if_pos h1]; exact hm
  · rw [if_neg h1]
    obtain ⟨a1, a2, a3, a4, a5, a6, a7, a8, a9, a10, a11⟩ := hm
    refine ⟨a1, a2, a3, a4, a5, a6, a7, a8, by show 0 ≤ B 10 0 + 1 ∧ B 10 0 + 1 ≤ 60; omega, fun i => ?_, a11⟩
    show 0 ≤ up (B 6) (B 10 0) c i ∧ up (B 6) (B 10 0) c i ≤ 65535
    by_cases c1 : i = B 10 0
    · rw [up_eq c1]; exact hc
    · rw [up_ne c1]; exact a10 i
theorem wb_clear {N : Int} {B : Nat → Int → Int} (h : WB N B) (hN : N + 210000 ≤ 200000000) : WB (N + 210000) (c_clear B).2 := by
  have hm := h.mono (show N ≤ N + 210000 from by omega) hN
  obtain ⟨a1, a2, a3, a4, a5, a6, a7, a8, a9, a10, a11⟩ := hm
  exact ⟨a1, a2, a3, a4, a5, a6, a7, a8, by show (0 : Int) ≤ 0 ∧ (0 : Int) ≤ 60; omega, a10, a11⟩
theorem wb_undo {N : Int} {B : Nat → Int → Int} (h : WB N B) (hN : N + 210000 ≤ 200000000) : WB (N + 210000) (c_undo B).2 := by
  have hm := h.mono (show N ≤ N + 210000 from by omega) hN
  unfold c_undo
  by_cases h1 : B 8 0 = 0
  · rw [if_pos h1]; exact hm
  · rw [if_neg h1]
    have hk := hm.k
    obtain ⟨a1, a2, a3, a4, a5, a6, a7, a8, a9⟩ := hm
    have e8 : b_pop B 8 0 = B 8 0 - 1 := rfl
    show WB (N + 210000) (b_pop B)
    refine ⟨a3 (by omega), by rw [e8]; omega, fun q => a4 (by rw [e8] at q; omega), fun q => a5 (by rw [e8] at q; omega), fun q => a6 (by rw [e8] at q; omega), fun q => ?_, a7, a8, a9⟩
    rw [e8] at q
    omega
theorem wb_keep {N : Int} {B : Nat → Int → Int} (h : WB N B) (hN : N + 210000 ≤ 200000000) : WB (N + 210000) (c_keep B).2 := by
  have hm := h.mono (show N ≤ N + 210000 from by omega) hN
  obtain ⟨a1, a2, a3, a4, a5, a6, a7, a8, a9⟩ := hm
  exact ⟨a1, a2, a3, a4, a5, a6, Or.inr rfl, fun _ => a1, a9⟩
theorem wb_restore {N : Int} {B : Nat → Int → Int} (h : WB N B) (hN : N + 210000 ≤ 200000000) : WB (N + 210000) (c_restore B).2 := by
  have hm := h.mono (show N ≤ N + 210000 from by omega) hN
  have hj := h.j
  unfold c_restore
  by_cases h1 : B 9 0 = 0
  · rw [if_pos h1]; exact hm
  · rw [if_neg h1]
    exact wb_rec h ((h.sh (by omega)).mono (by omega) hN) (by omega)
/-! a text performed -/
theorem wf_reps : ∀ (m : Nat) (N : Int) (F : Int → Int) (c x d : Int), WF N F → (c = 114 ∧ N + 100 * (m : Int) ≤ 200000000 - 10000 ∨ N + 10000 * (m : Int) ≤ 200000000) → 0 ≤ (e_reps c x m d F).1 → WF (N + (if c = 114 then 100 else 10000) * (m : Int)) (e_reps c x m d F).2.2 := by
  intro m
  induction m with
  | zero => intro N F c x d h _ _; exact h.cast (by show N = N + _ * (0 : Int); rw [Int.mul_zero]; omega)
  | succ m ih =>
    intro N F c x d h hN
    rw [e_reps_s]
    by_cases h1 : (e_one F c x).1 < 0
    · rw [if_pos h1]; exact fun q => absurd q (by show ¬ (0 ≤ (e_one F c x).1); omega)
    · rw [if_neg h1]
      intro h2
      unfold e_one at h1
      by_cases hc : c = 114
      · rw [if_pos hc] at h1
        have e : e_one F c x = r_read F x := by unfold e_one; rw [if_pos hc]
        rw [e] at h2 ⊢
        have hw := wf_read h (by omega) (show 0 ≤ (r_read F x).1 from by omega)
        have := ih (N + 100) _ c x (d + 1) hw (by omega) h2
        rw [if_pos hc] at this ⊢
        exact this.cast (by omega)
      · rw [if_neg hc] at h1
        by_cases hc2 : c = 119
        · rw [if_pos hc2] at h1
          have e : e_one F c x = r_write F x := by unfold e_one; rw [if_neg hc, if_pos hc2]
          rw [e] at h2 ⊢
          have hw := wf_write h (show 0 ≤ (r_write F x).1 from by omega)
          have := ih (N + 10000) _ c x (d + 1) (hw.mono (by omega) (by omega)) (by omega) h2
          rw [if_neg hc] at this ⊢
          exact this.cast (by omega)
        · rw [if_neg hc2] at h1
          have e : e_one F c x = r_pass F x := by unfold e_one; rw [if_neg hc, if_neg hc2]
          rw [e] at h2 ⊢
          have hw := wf_pass h (by omega) (show 0 ≤ (r_pass F x).1 from by omega)
          have := ih (N + 10000) _ c x (d + 1) hw (by omega) h2
          rw [if_neg hc] at this ⊢
          exact this.cast (by omega)
theorem o_rep_rg (t : Int → Int) (n a : Int) : o_rep t n a ≤ 99 ∧ (t a ≠ 114 → o_rep t n a = 1) := by
  unfold o_rep
  by_cases h : O_star t n a
  · rw [if_pos h]
    refine ⟨?_, fun q => absurd h.1 q⟩
    unfold n_val
    have := d_rg t n (o_e1 t n a + 1)
    by_cases h2 : N_two t n (o_e1 t n a + 1) 99
    · rw [if_pos h2]; have := h2.2.2; omega
    · rw [if_neg h2]; omega
  · rw [if_neg h]; exact ⟨by omega, fun _ => rfl⟩
theorem wf_rep1 {N : Int} {F : Int → Int} {t : Int → Int} {n a x : Int} (h : WF N F) (hN : N + 10000 ≤ 200000000 - 10000) (hr : 0 ≤ (e_reps (t a) x (o_rep t n a).toNat 0 F).1) : WF (N + 10000) (e_reps (t a) x (o_rep t n a).toNat 0 F).2.2 := by
  have ho := o_rep_rg t n a
  by_cases hc : t a = 114
  · have := wf_reps (o_rep t n a).toNat N F (t a) x 0 h (Or.inl ⟨hc, by omega⟩) hr
    rw [if_pos hc] at this
    exact this.mono (by omega) (by omega)
  · have h1 := ho.2 hc
    have := wf_reps (o_rep t n a).toNat N F (t a) x 0 h (Or.inr (by omega)) hr
    rw [if_neg hc] at this
    exact this.mono (by omega) (by omega)
theorem wf_eall : ∀ (f i : Nat) (N : Int) (F : Int → Int) (t : Int → Int) (n : Int), WF N F → N + 10000 * (f : Int) ≤ 200000000 - 20000 → 0 ≤ (e_all t n f i F).1 → WF (N + 10000 * (f : Int)) (e_all t n f i F).2.2.2 := by
  intro f
  induction f with
  | zero => intro i N F t n h _ _; exact h.cast (by omega)
  | succ f ih =>
    intro i N F t n h hN
    rw [e_all_s]
    by_cases h1 : (e_reps (t (t_at t n i)) (o_arg t n (t_at t n i)) (o_rep t n (t_at t n i)).toNat 0 F).1 < 0
    · rw [if_pos h1]; exact fun q => absurd q (Int.not_le.mpr h1)
    · rw [if_neg h1]
      intro h2
      exact (ih (i + 1) (N + 10000) _ t n (wf_rep1 h (by omega) (by omega)) (by omega) h2).cast (by omega)
theorem reps_rg : ∀ (m : Nat) (F : Int → Int) (c x d : Int), (-5 ≤ (e_reps c x m d F).1 ∨ (e_reps c x m d F).1 < -5 ∧ ¬ (0 ≤ (e_reps c x m d F).1)) ∧ d ≤ (e_reps c x m d F).2.1 ∧ (e_reps c x m d F).2.1 ≤ d + (m : Int) := by
  intro m
  induction m with
  | zero => intro F c x d; exact ⟨Or.inl (by show (-5 : Int) ≤ 0; omega), Int.le_refl _, by show d ≤ _; omega⟩
  | succ m ih =>
    intro F c x d
    rw [e_reps_s]
    by_cases h1 : (e_one F c x).1 < 0
    · rw [if_pos h1]
      refine ⟨?_, Int.le_refl _, by show d ≤ _; omega⟩
      show -5 ≤ (e_one F c x).1 ∨ _ < -5 ∧ _
      by_cases h2 : -5 ≤ (e_one F c x).1
      · exact Or.inl h2
      · exact Or.inr ⟨by show (e_one F c x).1 < -5; omega, by show ¬ (0 ≤ (e_one F c x).1); omega⟩
    · rw [if_neg h1]
      have := ih (e_one F c x).2 c x (d + 1)
      exact ⟨this.1, by omega, by omega⟩
/-- the refusal's numbers -/
theorem reps_lo : ∀ (m : Nat) (N : Int) (F : Int → Int) (c x d : Int), WF N F → (c = 114 ∧ N + 100 * (m : Int) ≤ 200000000 - 10000 ∨ N + 10000 * (m : Int) ≤ 200000000) → -5 ≤ (e_reps c x m d F).1 := by
  intro m
  induction m with
  | zero => intro N F c x d h _; show (-5 : Int) ≤ 0; omega
  | succ m ih =>
    intro N F c x d h hN
    have ho := one_rg (c := c) (x := x) h
    rw [e_reps_s]
    by_cases h1 : (e_one F c x).1 < 0
    · rw [if_pos h1]; exact ho.1
    · rw [if_neg h1]
      have h2 : WF (N + (if c = 114 then 100 else 10000) * ((1 : Nat) : Int)) (e_reps c x 1 d F).2.2 := wf_reps 1 N F c x d h (by omega) (by rw [e_reps_s, if_neg h1]; exact Int.le_refl _)
      have e2 : (e_reps c x 1 d F).2.2 = (e_one F c x).2 := by rw [e_reps_s, if_neg h1]; rfl
      rw [e2] at h2
      refine ih (N + (if c = 114 then 100 else 10000) * ((1 : Nat) : Int)) _ c x (d + 1) h2 ?_
      by_cases hc : c = 114
      · rw [if_pos hc]; omega
      · rw [if_neg hc]; omega
theorem eall_rg : ∀ (f i : Nat) (N : Int) (F : Int → Int) (t : Int → Int) (n : Int), WF N F → N + 10000 * (f : Int) ≤ 200000000 - 20000 → -5 ≤ (e_all t n f i F).1 ∧ (0 ≤ (e_all t n f i F).2.1 ∧ (e_all t n f i F).2.1 ≤ (i : Int) + (f : Int)) ∧ (0 ≤ (e_all t n f i F).2.2.1 ∧ (e_all t n f i F).2.2.1 ≤ 99) := by
  intro f
  induction f with
  | zero => intro i N F t n h _; exact ⟨by show (-5 : Int) ≤ 0; omega, ⟨by show (0 : Int) ≤ (i : Int); omega, by show (i : Int) ≤ _; omega⟩, by show (0 : Int) ≤ 0; omega, by show (0 : Int) ≤ 99; omega⟩
  | succ f ih =>
    intro i N F t n h hN
    have ho := o_rep_rg t n (t_at t n i)
    have hr := reps_rg (o_rep t n (t_at t n i)).toNat F (t (t_at t n i)) (o_arg t n (t_at t n i)) 0
    have hl : -5 ≤ (e_reps (t (t_at t n i)) (o_arg t n (t_at t n i)) (o_rep t n (t_at t n i)).toNat 0 F).1 := by
      refine reps_lo _ N F _ _ 0 h ?_
      by_cases hc : t (t_at t n i) = 114
      · exact Or.inl ⟨hc, by omega⟩
      · have := ho.2 hc; exact Or.inr (by omega)
    rw [e_all_s]
    by_cases h1 : (e_reps (t (t_at t n i)) (o_arg t n (t_at t n i)) (o_rep t n (t_at t n i)).toNat 0 F).1 < 0
    · rw [if_pos h1]
      refine ⟨hl, ⟨?_, ?_⟩, ?_, ?_⟩
      · show (0 : Int) ≤ (i : Int); omega
      · show (i : Int) ≤ _; omega
      · exact hr.2.1
      · show (e_reps (t (t_at t n i)) (o_arg t n (t_at t n i)) (o_rep t n (t_at t n i)).toNat 0 F).2.1 ≤ 99; omega
    · rw [if_neg h1]
      have := ih (i + 1) (N + 10000) (e_reps (t (t_at t n i)) (o_arg t n (t_at t n i)) (o_rep t n (t_at t n i)).toNat 0 F).2.2 t n (wf_rep1 h (by omega) (by omega)) (by omega)
      exact ⟨this.1, ⟨this.2.1.1, by omega⟩, this.2.2⟩
theorem trun_rg : ∀ (f : Nat) (t : Int → Int) (n a k : Int), k ≤ (t_run t n f a k).2.2 ∧ (t_run t n f a k).2.2 ≤ k + (f : Int) := by
  intro f
  induction f with
  | zero => intro t n a k; exact ⟨Int.le_refl _, by show k ≤ _; omega⟩
  | succ f ih =>
    intro t n a k
    have e : t_run t n (f + 1) a k = if ¬ O_ok t n a then (0, o_end t n a, k) else if o_end t n a < n ∧ t (o_end t n a) = 44 then t_run t n f (o_end t n a + 1) (k + 1) else ((if o_end t n a = n then 1 else 0), o_end t n a, k + 1) := rfl
    rw [e]
    have := ih t n (o_end t n a + 1) (k + 1)
    split
    · exact ⟨Int.le_refl _, by show k ≤ _; omega⟩
    · split
      · omega
      · exact ⟨by show k ≤ k + 1; omega, by show k + 1 ≤ _; omega⟩
theorem wb_perform {N : Int} {B : Nat → Int → Int} (h : WB N B) (hN : N + 230000 ≤ 200000000) : WB (N + 210000) (c_perform B).2 := by
  have hm := h.mono (show N ≤ N + 210000 from by omega) (by omega)
  have ht := trun_rg 21 (B 6) (B 10 0) 0 0
  have e : (t_of B).2.2 = (t_run (B 6) (B 10 0) 21 0 0).2.2 := rfl
  have hr := eall_rg (t_of B).2.2.toNat 0 N (B 0) (B 6) (B 10 0) h.1 (by omega)
  have ep : p_of B = e_all (B 6) (B 10 0) (t_of B).2.2.toNat 0 (B 0) := rfl
  rw [← ep] at hr
  unfold c_perform
  by_cases h1 : (t_of B).1 = 0
  · rw [if_pos h1]; exact hm
  · rw [if_neg h1]
    by_cases h2 : (p_of B).1 < 0
    · rw [if_pos h2]
      obtain ⟨a1, a2, a3, a4, a5, a6, a7, a8, a9, a10, a11, a12⟩ := hm
      refine ⟨a1, a2, a3, a4, a5, a6, a7, a8, a9, a10, Or.inr rfl, ?_⟩
      exact Bd.up (Bd.up (Bd.up a12 (by omega)) (by omega)) (by omega)
    · rw [if_neg h2]
      refine wb_rec h ?_ (by omega)
      have hw := wf_eall (t_of B).2.2.toNat 0 N (B 0) (B 6) (B 10 0) h.1 (by omega) (by rw [← ep]; omega)
      rw [← ep] at hw
      exact hw.mono (by omega) (by omega)
/-! the first book -/
theorem wf_0 : WF 200000 f_0 := by
  have hf : ∀ i : Int, 209 ≤ i ∨ i < 0 → f_0 i = 0 := fun i hi => by
    have e1 : f_0 i = f_01 i := fo_keep (fun k G q0 q1 => up_ne (by omega))
    have e2 : f_01 i = f_00 i := fo_keep (fun k G q0 q1 => up_ne (by omega))
    rw [e1, e2]
    unfold f_00
    rw [up_ne (by omega), up_ne (by omega), up_ne (by omega), up_ne (by omega), up_ne (by omega), up_ne (by omega)]
  have hn : ∀ n : Nat, n < 209 → -200000 ≤ f_0 (n : Int) ∧ f_0 (n : Int) ≤ 200000 := by decide +kernel
  have hh : ∀ n : Nat, n < 48 → f_0 (3 * (n : Int) + 65) = -1 ∧ f_0 (3 * (n : Int) + 66) = 0 := by decide +kernel
  have hk : ∀ k : Int, 0 ≤ k → k < 48 → f_0 (3 * k + 65) = -1 ∧ f_0 (3 * k + 66) = 0 := fun k h0 h1 => by
    have := hh k.toNat (by omega)
    rwa [Int.toNat_of_nonneg h0] at this
  have hbn : ∀ n : Nat, n < 6 → 0 ≤ f_0 (4 * (n : Int) + 41) ∧ f_0 (4 * (n : Int) + 41) ≤ 2 ∧ 0 ≤ f_0 (4 * (n : Int) + 42) ∧ 0 ≤ f_0 (4 * (n : Int) + 43) ∧ f_0 (4 * (n : Int) + 43) ≤ 1 := by decide +kernel
  refine ⟨by omega, fun i => ?_, by decide +kernel, by decide +kernel, by decide +kernel, fun b h0 h1 => ?_, fun k h0 h1 => ?_, fun j k a0 a1 b0 b1 q0 q1 => ?_, fun k h0 h1 q0 q1 => ?_, by decide +kernel⟩
  · by_cases hi : 209 ≤ i ∨ i < 0
    · rw [hf i hi]; omega
    · have := hn i.toNat (by omega)
      rwa [Int.toNat_of_nonneg (by omega)] at this
  · have := hbn b.toNat (by omega)
    rwa [Int.toNat_of_nonneg h0] at this
  · have h2 := hk k h0 h1
    have hr : 20 ≤ r_bears f_0 (k / 8) := by
      unfold r_bears r_cut
      split <;> omega
    rw [h2.1, h2.2]
    exact ⟨by omega, by omega, by omega, fun _ => rfl, by omega⟩
  · have := hk j a0 a1; omega
  · have := hk (k + 1) (by omega) (by omega)
    rw [show 3 * (k + 1) + 65 = 3 * k + 68 from by omega] at this
    exact this.1
theorem wb_0 : WB 200000 b_0 := by
  refine ⟨wf_0, ?_, fun q => ?_, fun q => ?_, fun q => ?_, fun q => ?_, Or.inl rfl, fun q => ?_, ?_, fun i => ?_, Or.inl rfl, fun i => ?_⟩
  · show (0 : Int) ≤ 0 ∧ (0 : Int) ≤ 4; omega
  · exact absurd q (by show ¬ ((0 : Int) < 0); omega)
  · exact absurd q (by show ¬ ((1 : Int) < 0); omega)
  · exact absurd q (by show ¬ ((2 : Int) < 0); omega)
  · exact absurd q (by show ¬ ((3 : Int) < 0); omega)
  · exact absurd q (by show ¬ ((0 : Int) = 1); omega)
  · show (0 : Int) ≤ 0 ∧ (0 : Int) ≤ 60; omega
  · show (0 : Int) ≤ 0 ∧ (0 : Int) ≤ 65535; omega
  · show (-300000000 : Int) ≤ 0 ∧ (0 : Int) ≤ 300000000; omega
theorem past_0 : PastOk b_0 (fun _ => 0) := fun r i h0 h1 => absurd h1 (by show ¬ (r < (0 : Int)); omega)
theorem relc_0 : RelC b_0 T_0 T_0 (fun _ => T_0) 0 (fun _ _ => 0) (fun _ => 0) :=
  ⟨rel_0, fun q => absurd q (by show ¬ ((0 : Int) = 1); omega), fun r hr => absurd hr (by show ¬ ((r : Int) < 0); omega), rfl, rfl, rfl, rfl, rfl, rfl, rfl, rfl⟩
