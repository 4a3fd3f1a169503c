def r_calls (F : Int → Int) : Int := fo 6 0 0 (fun b n => n + F (4 * b + 43))
theorem WF.mono {N M : Int} {F : Int → Int} (h : WF N F) (h1 : N ≤ M) (h2 : M ≤ 200000000) : WF M F := ⟨⟨by have := h.1; omega, h2⟩, fun i => by have := h.2.1 i; omega, h.2.2⟩
theorem WF.cast {N M : Int} {F : Int → Int} (h : WF N F) (h1 : N = M) : WF M F := h1 ▸ h
theorem bd_opens {F : Int → Int} (h : Bd F) : Bd (r_opens F) := sorry
theorem bd_stales {F : Int → Int} {v : Int} (h : Bd F) : Bd (r_stales F v) := sorry
theorem spot_ok {N : Int} {F : Int → Int} {v : Int} (h : WF N F) (hv : 0 ≤ v ∧ v ≤ 23) (hr : ¬ (P_full F ∧ r_best F = -5)) : r_spot (r_stales (r_opens F) v) ≠ -5 := sorry
theorem opens_rg {N : Int} {F : Int → Int} (h : WF N F) (hr : ¬ (P_full F ∧ r_best F = -5)) : 0 ≤ r_opens F 6 ∧ r_opens F 6 ≤ 5 := sorry
theorem stales_6 (F : Int → Int) (v : Int) : r_stales F v 6 = F 6 := sorry
theorem reads_G {F G : Int → Int} {j v : Int} {n : Nat} (hG : ∀ i, F i ≤ G i ∧ G i ≤ F i + 8 * (8 - ((n + 1 : Nat) : Int))) (hv : G j ≤ v ∧ v ≤ G j + 8) : ∀ i, F i ≤ up G j v i ∧ up G j v i ≤ F i + 8 * (8 - (n : Int)) := sorry
theorem wf_leaves {N : Int} {F : Int → Int} (h : WF N F) (v : Int) : WF N (r_leaves F v) := sorry
theorem wf_shut {N : Int} {F : Int → Int} (h : WF N F) (b : Int) : WF N (r_shut F b) := sorry
theorem low_shut (F : Int → Int) (b d : Int) : r_low (r_shut F d) b = r_low F b := sorry
theorem wf_reads {N : Int} {F : Int → Int} {r : Int} (h : WF N F) (hr : 0 ≤ r ∧ r < 48) (hl : r_left F r ≠ 0) (hN : N + 1 ≤ 200000000) : WF (N + 1) (r_reads F r) := sorry
theorem reads_hold (F : Int → Int) (r k : Int) : r_reads F r (3 * k + 65) = F (3 * k + 65) := sorry
theorem room_reads {F : Int → Int} (h : ¬ (P_full F ∧ r_best F = -5)) (r : Int) : ¬ (P_full (r_reads F r) ∧ r_best (r_reads F r) = -5) := sorry
theorem bd_logs {F : Int → Int} (h : Bd F) : Bd (r_logs 21 F) := sorry
theorem bd_erB {N : Int} {F : Int → Int} {b : Int} (h : WF N F) (hb : 0 ≤ b ∧ b < 6) : Bd (r_erB (r_erA (r_shut F b) b).2 b) := sorry
theorem cnt_moves {N : Int} {F : Int → Int} {b : Int} (h : WF N F) (hb : 0 ≤ b ∧ b < 6) (hl : r_low F b ≠ -5) (hm : P_moves (r_shut F b) b) : r_cnt (r_moves F b) b 0 = r_cnt F b 0 - 1 := sorry
theorem wf_moves {N : Int} {F : Int → Int} {b : Int} (h : WF N F) (hb : 0 ≤ b ∧ b < 6) (hl : r_low F b ≠ -5) (hm : P_moves (r_shut F b) b) (hN : N + 2 ≤ 200000000) : WF (N + 2) (r_moves F b) := sorry
theorem calls_rg {N : Int} {F : Int → Int} (h : WF N F) : 0 ≤ r_calls F ∧ r_calls F ≤ 6 := sorry
theorem wf_tick0 {N : Int} {F : Int → Int} (h : WF N F) (hN : N + 1 ≤ 200000000) : WF (N + 1) (up F 0 (F 0 + 1)) := sorry
theorem set_erases {F : Int → Int} {b : Int} (hb : 0 ≤ b ∧ b < 6) : r_erases F b 3 = F 3 := sorry
theorem set_moves {F : Int → Int} {b : Int} (hl : r_low F b ≠ -5) (hb : 0 ≤ b ∧ b < 6) : r_moves F b 3 = F 3 := sorry
theorem calls_erases {N : Int} {F : Int → Int} {b : Int} (h : WF N F) (hb : 0 ≤ b ∧ b < 6) (hl : r_low F b = -5) (hm : P_marked F b) : r_calls (r_erases F b) + 1 ≤ r_calls F := sorry
theorem calls_erases1 {N : Int} {F : Int → Int} {b : Int} (h : WF N F) (hb : 0 ≤ b ∧ b < 6) : r_calls (r_erases F b) ≤ r_calls F := sorry
theorem calls_moves {F : Int → Int} {b : Int} (hl : r_low F b ≠ -5) (hb : 0 ≤ b ∧ b < 6) : r_calls (r_moves F b) = r_calls F := sorry
theorem at_ok {F : Int → Int} {r : Int} (h : r_markedAt F r ≠ -5) : 0 ≤ r_markedAt F r ∧ r_markedAt F r < 6 := by
  have := at_rg F r
  omega
theorem at_mk {F : Int → Int} {r : Int} (h : r_markedAt F r ≠ -5) : P_marked F (r_markedAt F r) := by
  rcases fi_rg (n := 6) (i := 0) (d := -5) (p := p_at F r) with h1 | ⟨-, -, h3⟩
  · exact absurd h1 h
  · simp only [p_at, decide_eq_true_eq] at h3
    exact h3.1
theorem wf_erases {N : Int} {F : Int → Int} {b : Int} (h : WF N F) (hb : 0 ≤ b ∧ b < 6) (hl : r_low F b = -5) (hN : N + 1 ≤ 200000000) : WF (N + 1) (r_erases F b) := sorry
theorem room_leaves {F : Int → Int} (v : Int) (h : ¬ (P_full F ∧ r_best F = -5)) : ¬ (P_full (r_leaves F v) ∧ r_best (r_leaves F v) = -5) := sorry
theorem room_frees {N : Int} {F : Int → Int} (h : WF N F) (hf : (if P_full F then 2 else 1) ≤ r_frees F) : ¬ (P_full F ∧ r_best F = -5) := sorry
theorem wf_tick {N : Int} {F : Int → Int} (h : WF N F) (hN : N + 100 ≤ 200000000) : WF (N + 100) (r_tick F).2 := sorry
theorem tick_rg {N : Int} {F : Int → Int} (h : WF N F) : 0 ≤ (r_tick F).1 ∧ (r_tick F).1 ≤ 32 := sorry
/-! copies -/
def cpy (F G : Int → Int) (fa ta k : Int) : Int → Int := fun i => if ta ≤ i ∧ i < ta + k then F (i - ta + fa) else G i
theorem cpy_s {F G : Int → Int} {fa ta k v : Int} (hk : 0 ≤ k) (hv : F (fa + k) = v) : up (cpy F G fa ta k) (ta + k) v = cpy F G fa ta (k + 1) := by
  funext i
  unfold up cpy
  by_cases h : i = ta + k
  · rw [if_pos h, if_pos (by omega), ← hv]
    congr 1
    omega
  · rw [if_neg h]
    by_cases h2 : ta ≤ i ∧ i < ta + k
    · rw [if_pos h2, if_pos (by omega)]
    · rw [if_neg h2, if_neg (by omega)]
theorem cpy_0 {F G : Int → Int} {fa ta : Int} : cpy F G fa ta 0 = G := by
  funext i
  exact if_neg (by omega)
def shf (P : Int → Int) (k : Int) : Int → Int := fun i => if 0 ≤ i ∧ i < k then P (i + 233) else P i
theorem shf_0 {P : Int → Int} : shf P 0 = P := by
  funext i
  exact if_neg (by omega)
theorem shf_hi {P : Int → Int} {k i : Int} (h : k ≤ i) : shf P k i = P i := if_neg (by omega)
theorem shf_s {P : Int → Int} {k : Int} (hk : 0 ≤ k) : up (shf P k) k (P (k + 233)) = shf P (k + 1) := by
  funext i
  unfold up shf
  by_cases h : i = k
  · rw [if_pos h, if_pos (by omega), h]
  · rw [if_neg h]
    by_cases h2 : 0 ≤ i ∧ i < k
    · rw [if_pos h2, if_pos (by omega)]
    · rw [if_neg h2, if_neg (by omega)]
theorem lay_full {F G : Int → Int} : ∀ i : Int, 0 ≤ i → i < ((233 : Nat) : Int) → F i = if (0 : Int) ≤ i ∧ i < 0 + 233 then F (i - 0 + 0) else G i := by
  intro i h0 h1
  rw [if_pos (by omega)]
  congr 1
  omega
theorem lay_cpy {F G : Int → Int} {fa ta : Int} {n : Nat} : ∀ i : Int, 0 ≤ i → i < (n : Int) → cpy F G fa ta 233 i = if ta ≤ i ∧ i < ta + 233 then F (i - ta + fa) else G i := fun _ _ _ => rfl
theorem h_of_rec {B : Nat → Int → Int} {r : Int} (h : 0 ≤ r) (h3 : r < 4) : h_of (b_rec B) r = if r = 0 then B 0 else h_of B (r - 1) := by
  by_cases h0 : r = 0
  · subst h0; rfl
  by_cases h1 : r = 1
  · subst h1; rfl
  by_cases h2 : r = 2
  · subst h2; rfl
  have h3 : r = 3 := by omega
  subst h3; rfl
theorem rec_8 (B : Nat → Int → Int) : b_rec B 8 0 = if B 8 0 = 4 then 4 else B 8 0 + 1 := rfl
theorem past_rec1 {B : Nat → Int → Int} {P : Int → Int} (h : PastOk B P) (hk : 0 ≤ B 8 0 ∧ B 8 0 ≤ 4) (h4 : B 8 0 ≠ 4) : PastOk (b_rec B) (cpy (B 0) P 0 (233 * B 8 0) 233) := by
  intro r i h0 h1 h2 h3
  rw [rec_8, if_neg h4] at h1 ⊢
  rw [h_of_rec h0 (by omega)]
  by_cases hr : r = 0
  · subst hr
    rw [if_pos rfl]
    show cpy (B 0) P 0 (233 * B 8 0) 233 (233 * (B 8 0 + 1 - 1 - 0) + i) = B 0 i
    unfold cpy
    rw [if_pos (by omega)]
    congr 1
    omega
  · rw [if_neg hr, ← h (r - 1) i (by omega) (by omega) h2 h3]
    unfold cpy
    rw [if_neg (by omega)]
    congr 1
    omega
theorem past_rec2 {B : Nat → Int → Int} {P : Int → Int} (h : PastOk B P) (h4 : B 8 0 = 4) : PastOk (b_rec B) (cpy (B 0) (shf P 699) 0 (233 * B 8 0 - 233) 233) := by
  intro r i h0 h1 h2 h3
  rw [rec_8, if_pos h4] at h1 ⊢
  rw [h_of_rec h0 (by omega)]
  by_cases hr : r = 0
  · subst hr
    rw [if_pos rfl]
    unfold cpy
    rw [if_pos (by omega)]
    congr 1
    omega
  · rw [if_neg hr, ← h (r - 1) i (by omega) (by omega) h2 h3]
    unfold cpy
    rw [if_neg (by omega)]
    unfold shf
    rw [if_pos (by omega)]
    congr 1
    omega
theorem past_pop {B : Nat → Int → Int} {P : Int → Int} (h : PastOk B P) (hk : 0 ≤ B 8 0 ∧ B 8 0 ≤ 4) : PastOk (b_pop B) P := by
  intro r i h0 h1 h2 h3
  have h1 : r < B 8 0 - 1 := h1
  have e := h (r + 1) i (by omega) (by omega) h2 h3
  rw [show 233 * (B 8 0 - 1 - (r + 1)) + i = 233 * (B 8 0 - 1 - 1 - r) + i from by omega] at e
  show P (233 * (B 8 0 - 1 - 1 - r) + i) = _
  rw [e]
  by_cases hr : r = 0
  · subst hr; rfl
  by_cases h1 : r = 1
  · subst h1; rfl
  have h2 : r = 2 := by omega
  subst h2; rfl
theorem past_top {B : Nat → Int → Int} {P G : Int → Int} (h : PastOk B P) (h0 : 0 < B 8 0) : ∀ i : Int, 0 ≤ i → i < ((233 : Nat) : Int) → B 1 i = if (0 : Int) ≤ i ∧ i < 0 + 233 then P (i - 0 + (233 * B 8 0 - 233)) else G i := by
  intro i h1 h2
  rw [if_pos (by omega)]
  have e := h 0 i (by omega) h0 h1 (by omega)
  rw [show i - 0 + (233 * B 8 0 - 233) = 233 * (B 8 0 - 1 - 0) + i from by omega, e]
  rfl
def Tx (f : Int → Int) : Prop := ∀ i, 0 ≤ f i ∧ f i ≤ 65535
theorem Tx.bd {f : Int → Int} (h : Tx f) (i : Int) : 0 ≤ f i ∧ f i ≤ 65535 := h i
theorem WB.k {N : Int} {B : Nat → Int → Int} (h : WB N B) : 0 ≤ B 8 0 ∧ B 8 0 ≤ 4 := h.2.1
theorem WB.j {N : Int} {B : Nat → Int → Int} (h : WB N B) : B 9 0 = 0 ∨ B 9 0 = 1 := h.2.2.2.2.2.2.1
theorem WB.sh {N : Int} {B : Nat → Int → Int} (h : WB N B) (h1 : B 9 0 = 1) : WF N (B 5) := h.2.2.2.2.2.2.2.1 h1
theorem WB.tl {N : Int} {B : Nat → Int → Int} (h : WB N B) : 0 ≤ B 10 0 ∧ B 10 0 ≤ 60 := h.2.2.2.2.2.2.2.2.1
theorem WB.tx {N : Int} {B : Nat → Int → Int} (h : WB N B) : Tx (B 6) := h.2.2.2.2.2.2.2.2.2.1
theorem WB.rf {N : Int} {B : Nat → Int → Int} (h : WB N B) : B 11 0 = 0 ∨ B 11 0 = 1 := h.2.2.2.2.2.2.2.2.2.2.1
theorem WB.rr {N : Int} {B : Nat → Int → Int} (h : WB N B) : Bd (B 7) := h.2.2.2.2.2.2.2.2.2.2.2
theorem set_ok_8 {w v : Int} (hw : 0 ≤ w ∧ w ≤ 4) (hv : S_ok w v) : 0 ≤ v ∧ v ≤ 999 := by omega
theorem quietL_s {f : Nat} {F : Int → Int} {t : Int} : r_quietL (f + 1) F t = if r_marks F = 0 then t else r_quietL f (r_tick F).2 (t + 1) := rfl
theorem wf_mark {N : Int} {F : Int → Int} {b i : Int} (h : WF N F) (hb : 0 ≤ b ∧ b < 6) (hi : 0 ≤ i ∧ i ≤ 1) : WF N (up F (4 * b + 43) i) := sorry
theorem wf_stale {N : Int} {F : Int → Int} {v : Int} (h : WF N F) (hv : r_placeOf F v ≠ -5) : WF N (up F (3 * r_placeOf F v + 65) (-2)) := sorry
theorem wf_all {N : Int} {F : Int → Int} {b : Int} (h : WF N F) (hb : 0 ≤ b ∧ b < 6) (hr : 0 ≤ (r_all F b).1) (hN : N + 20 ≤ 200000000) : WF (N + 20) (r_all F b).2 := sorry
theorem all_place {N : Int} {F : Int → Int} {b v : Int} (h : WF N F) (hb : 0 ≤ b ∧ b < 6) (hr : 0 ≤ (r_all F b).1) (hv : r_placeOf F v ≠ -5) (hp : 0 ≤ v ∧ v ≤ 23) : r_placeOf (r_all F b).2 v ≠ -5 := sorry
theorem write_rg {N : Int} {F : Int → Int} (h : WF N F) (v : Int) : -5 ≤ (r_write F v).1 ∧ (r_write F v).1 ≤ 48 := sorry
theorem read_rg {N : Int} {F : Int → Int} (_ : WF N F) (v : Int) : -4 ≤ (r_read F v).1 ∧ (r_read F v).1 ≤ 2 := by
  unfold r_read
  split
  · exact ⟨by show (-4 : Int) ≤ -1; omega, by show (-1 : Int) ≤ 2; omega⟩
  · split
    · exact ⟨by show (-4 : Int) ≤ 0; omega, by show (0 : Int) ≤ 2; omega⟩
    · split
      · exact ⟨by show (-4 : Int) ≤ 1; omega, by show (1 : Int) ≤ 2; omega⟩
      · split
        · exact ⟨by show (-4 : Int) ≤ 2; omega, by show (2 : Int) ≤ 2; omega⟩
        · exact ⟨by show (-4 : Int) ≤ -4; omega, by show (-4 : Int) ≤ 2; omega⟩
theorem all_rg {N : Int} {F : Int → Int} (h : WF N F) (b : Int) : -4 ≤ (r_all F b).1 ∧ (r_all F b).1 ≤ 9 := sorry
theorem pass_rg {N : Int} {F : Int → Int} (h : WF N F) (t : Int) : -4 ≤ (r_pass F t).1 ∧ (r_pass F t).1 ≤ 3200 := sorry
theorem placed_rg (F : Int → Int) : 0 ≤ r_placed F ∧ r_placed F ≤ 48 := sorry
theorem weakest_rg {N : Int} {F : Int → Int} (h : WF N F) : 0 ≤ r_weakest F ∧ r_weakest F ≤ 40000 := sorry
