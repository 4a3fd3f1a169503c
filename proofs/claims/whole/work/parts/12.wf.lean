def r_calls (F : Int → Int) : Int := fo 6 0 0 (fun b n => n + F (4 * b + 43))
theorem WF.mono {N M : Int} {F : Int → Int} (h : WF N F) (h1 : N ≤ M) (h2 : M ≤ 200000000) : WF M F := ⟨⟨by have := h.1; omega, h2⟩, fun i => by have := h.2.1 i; omega, h.2.2⟩
theorem WF.cast {N M : Int} {F : Int → Int} (h : WF N F) (h1 : N = M) : WF M F := h1 ▸ h
theorem bd_opens {F : Int → Int} (h : Bd F) : Bd (r_opens F) := sorry
theorem bd_stales {F : Int → Int} {v : Int} (h : Bd F) : Bd (r_stales F v) := sorry
theorem spot_ok {N : Int} {F : Int → Int} {v : Int} (h : WF N F) (hv : 0 ≤ v ∧ v ≤ 23) (hr : ¬ (P_full F ∧ r_best F = -5)) : r_spot (r_stales (r_opens F) v) ≠ -5 := sorry
theorem opens_rg {N : Int} {F : Int → Int} (h : WF N F) (hr : ¬ (P_full F ∧ r_best F = -5)) : 0 ≤ r_opens F 6 ∧ r_opens F 6 ≤ 5 := sorry
theorem stales_6 (F : Int → Int) (v : Int) : r_stales F v 6 = F 6 := sorry
theorem reads_G {F G : Int → Int} {j v : Int} {n : Nat} (hG : ∀ i, F i ≤ G i ∧ G i ≤ F i + 8 * (8 - ((n + 1 : Nat) : Int))) (hv : G j ≤ v ∧ v ≤ G j + 8) : ∀ i, F i ≤ up G j v i ∧ up G j v i ≤ F i + 8 * (8 - (n : Int)) := sorry
theorem wf_leaves {N : Int} {F : Int → Int} (h : WF N F) (v : Int) : WF N (r_leaves F v) := sorry
theorem wf_shut {N : Int} {F : Int → Int} (h : WF N F) (b : Int) : WF N (r_shut F b) := sorry
theorem low_shut (F : Int → Int) (b d : Int) : r_low (r_shut F d) b = r_low F b := sorry
theorem wf_reads {N : Int} {F : Int → Int} {r : Int} (h : WF N F) (hr : 0 ≤ r ∧ r < 48) (hl : r_left F r ≠ 0) (hN : N + 1 ≤ 200000000) : WF (N + 1) (r_reads F r) := sorry
theorem reads_hold (F : Int → Int) (r k : Int) : r_reads F r (3 * k + 65) = F (3 * k + 65) := sorry
theorem room_reads {F : Int → Int} (h : ¬ (P_full F ∧ r_best F = -5)) (r : Int) : ¬ (P_full (r_reads F r) ∧ r_best (r_reads F r) = -5) := sorry
theorem bd_logs {F : Int → Int} (h : Bd F) : Bd (r_logs 21 F) := sorry
theorem bd_erB {N : Int} {F : Int → Int} {b : Int} (h : WF N F) (hb : 0 ≤ b ∧ b < 6) : Bd (r_erB (r_erA (r_shut F b) b).2 b) := sorry
theorem cnt_moves {N : Int} {F : Int → Int} {b : Int} (h : WF N F) (hb : 0 ≤ b ∧ b < 6) (hl : r_low F b ≠ -5) (hm : P_moves (r_shut F b) b) : r_cnt (r_moves F b) b 0 = r_cnt F b 0 - 1 := sorry
theorem wf_moves {N : Int} {F : Int → Int} {b : Int} (h : WF N F) (hb : 0 ≤ b ∧ b < 6) (hl : r_low F b ≠ -5) (hm : P_moves (r_shut F b) b) (hN : N + 2 ≤ 200000000) : WF (N + 2) (r_moves F b) := sorry
theorem calls_rg {N : Int} {F : Int → Int} (h : WF N F) : 0 ≤ r_calls F ∧ r_calls F ≤ 6 := sorry
theorem wf_tick0 {N : Int} {F : Int → Int} (h : WF N F) (hN : N + 1 ≤ 200000000) : WF (N + 1) (up F 0 (F 0 + 1)) := sorry
theorem set_erases {F : Int → Int} {b : Int} (hb : 0 ≤ b ∧ b < 6) : r_erases F b 3 = F 3 := sorry
theorem set_moves {F : Int → Int} {b : Int} (hl : r_low F b ≠ -5) (hb : 0 ≤ b ∧ b < 6) : r_moves F b 3 = F 3 := sorry
theorem calls_erases {N : Int} {F : Int → Int} {b : Int} (h : WF N F) (hb : 0 ≤ b ∧ b < 6) (hl : r_low F b = -5) (hm : P_marked F b) : r_calls (r_erases F b) + 1 ≤ r_calls F := sorry
theorem calls_erases1 {N : Int} {F : Int → Int} {b : Int} (h : WF N F) (hb : 0 ≤ b ∧ b < 6) : r_calls (r_erases F b) ≤ r_calls F := sorry
theorem calls_moves {F : Int → Int} {b : Int} (hl : r_low F b ≠ -5) (hb : 0 ≤ b ∧ b < 6) : r_calls (r_moves F b) = r_calls F := sorry
theorem at_ok {F : Int → Int} {r : Int} (h : r_markedAt F r ≠ -5) : 0 ≤ r_markedAt F r ∧ r_markedAt F r < 6 := by
  have := at_rg F r
  omega
theorem at_mk {F : Int → Int} {r : Int} (h : r_markedAt F r ≠ -5) : P_marked F (r_markedAt F r) := by
  rcases fi_rg (n := 6) (i := 0) (d := -5) (p := p_at F r) with h1 | ⟨-, -, h3⟩
  · exact absurd h1 h
  · simp only [p_at, decide_eq_true_eq] at h3
    exact h3.1
theorem wf_erases {N : Int} {F : Int → Int} {b : Int} (h : WF N F) (hb : 0 ≤ b ∧ b < 6) (hl : r_low F b = -5) (hN : N + 1 ≤ 200000000) : WF (N + 1) (r_erases F b) := sorry
theorem room_leaves {F : Int → Int} (v : Int) (h : ¬ (P_full F ∧ r_best F = -5)) : ¬ (P_full (r_leaves F v) ∧ r_best (r_leaves F v) = -5) := sorry
theorem room_frees {N : Int} {F : Int → Int} (h : WF N F) (hf : (if P_full F then 2 else 1) ≤ r_frees F) : ¬ (P_full F ∧ r_best F = -5) := sorry
theorem wf_tick {N : Int} {F : Int → Int} (h : WF N F) (hN : N + 100 ≤ 200000000) : WF (N + 100) (r_tick F).2 := sorry
theorem tick_rg {N : Int} {F : Int → Int} (h : WF N F) : 0 ≤ (r_tick F).1 ∧ (r_tick F).1 ≤ 32 := sorry
