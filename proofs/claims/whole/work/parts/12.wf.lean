def r_calls (F : Int → Int) : Int := fo 6 0 0 (fun b n => n + F (4 * b + 43))
theorem WF.mono {N M : Int} {F : Int → Int} (h : WF N F) (h1 : N ≤ M) (h2 : M ≤ 200000000) : WF M F := ⟨⟨by have := h.1; omega, h2⟩, fun i => by have := h.2.1 i; omega, h.2.2⟩
theorem WF.cast {N M : Int} {F : Int → Int} (h : WF N F) (h1 : N = M) : WF M F := h1 ▸ h
theorem bd_opens {F : Int → Int} (h : Bd F) : Bd (r_opens F) := by
  have hb := best_rg F
  unfold r_opens
  split
  · exact h.up (by omega)
  · exact h
theorem bd_stales {F : Int → Int} {v : Int} (h : Bd F) : Bd (r_stales F v) := by
  unfold r_stales
  split
  · exact h
  · exact h.up (by omega)
theorem spot_ok {N : Int} {F : Int → Int} {v : Int} (h : WF N F) (hv : 0 ≤ v ∧ v ≤ 23) (hr : ¬ (P_full F ∧ r_best F = -5)) : r_spot (r_stales (r_opens F) v) ≠ -5 := sorry
theorem opens_rg {N : Int} {F : Int → Int} (h : WF N F) (hr : ¬ (P_full F ∧ r_best F = -5)) : 0 ≤ r_opens F 6 ∧ r_opens F 6 ≤ 5 := by
  have ho := h.op
  have hb := best_rg F
  unfold r_opens
  by_cases hp : P_full F
  · rw [if_pos hp, up_eq rfl]
    have h1 : r_best F ≠ -5 := fun q => hr ⟨hp, q⟩
    omega
  · rw [if_neg hp]
    have h1 : F 6 ≠ -5 := fun q => hp (Or.inl q)
    omega
theorem stales_6 (F : Int → Int) (v : Int) : r_stales F v 6 = F 6 := by
  have hp := placeOf_rg F v
  unfold r_stales
  split
  · rfl
  · exact up_ne (by omega)
theorem reads_G {F G : Int → Int} {j v : Int} {n : Nat} (hG : ∀ i, F i ≤ G i ∧ G i ≤ F i + 8 * (8 - ((n + 1 : Nat) : Int))) (hv : G j ≤ v ∧ v ≤ G j + 8) : ∀ i, F i ≤ up G j v i ∧ up G j v i ≤ F i + 8 * (8 - (n : Int)) := by
  intro i
  have h1 := hG i
  by_cases hi : i = j
  · rw [up_eq hi]; rw [hi] at h1; rw [hi]; omega
  · rw [up_ne hi]; omega
theorem WF.tweak {N M : Int} {F G : Int → Int} (h : WF N F) (hM : N ≤ M ∧ M ≤ 200000000) (hb : ∀ i, -M ≤ G i ∧ G i ≤ M) (hs : G 1 = F 1 ∧ G 2 = F 2 ∧ G 3 = F 3 ∧ G 4 = F 4 ∧ G 5 = F 5) (ho : G 6 = -5 ∨ 0 ≤ G 6 ∧ G 6 ≤ 5) (he : 0 ≤ G 11 ∧ G 11 ≤ F 4) (hbl : ∀ b, 0 ≤ b → b < 6 → G (4 * b + 41) = F (4 * b + 41) ∧ G (4 * b + 42) = F (4 * b + 42) ∧ 0 ≤ G (4 * b + 43) ∧ G (4 * b + 43) ≤ 1) (hp : ∀ k, 0 ≤ k → k < 48 → G (3 * k + 65) = F (3 * k + 65) ∧ G (3 * k + 66) = F (3 * k + 66)) (hl : G 10 = F 10 ∧ G 16 = F 16) : WF M G := by
  refine ⟨⟨by have := h.1; omega, hM.2⟩, hb, ?_, ho, ?_, fun b h0 h1 => ?_, fun k h0 h1 => ?_, fun j k a0 a1 b0 b1 q0 q1 => ?_, fun k h0 h1 q0 q1 => ?_, ?_⟩
  · obtain ⟨e1, e2, e3, e4, e5⟩ := hs
    rw [e1, e2, e3, e4, e5]; exact h.se
  · rw [hs.2.2.2.1]; exact he
  · have e := hbl b h0 h1
    have q := h.bl h0 h1
    rw [e.1, e.2.1]
    exact ⟨q.1, q.2.1, q.2.2.1, e.2.2⟩
  · have e := hp k h0 h1
    have q := h.pl h0 h1
    have eb : r_bears G (k / 8) = r_bears F (k / 8) := by
      have e2 := hbl (k / 8) (by omega) (by omega)
      unfold r_bears
      rw [e2.1, e2.2.1]
    rw [e.1, e.2, eb]
    exact q
  · rw [(hp j a0 a1).1] at q0 q1
    rw [(hp k b0 b1).1] at q1
    exact h.un a0 a1 b0 b1 q0 q1
  · rw [(hp k h0 h1).1] at q0
    by_cases hk : k = 47
    · exact absurd (by omega) q1
    · have := (hp (k + 1) (by omega) (by omega)).1
      rw [show 3 * (k + 1) + 65 = 3 * k + 68 from by omega] at this
      rw [this]
      exact h.fl h0 h1 q0 q1
  · rw [hl.1, hl.2]; exact h.lo
theorem wf_leaves {N : Int} {F : Int → Int} (h : WF N F) (v : Int) : WF N (r_leaves F v) := sorry
theorem wf_shut {N : Int} {F : Int → Int} (h : WF N F) (b : Int) : WF N (r_shut F b) := by
  have hn := h.1
  have hbb := h.2.1
  have hop := h.op
  unfold r_shut
  refine h.tweak ⟨by omega, by omega⟩ (fun i => ?_) ⟨up_ne (by omega), up_ne (by omega), up_ne (by omega), up_ne (by omega), up_ne (by omega)⟩ ?_ (by rw [up_ne (by omega)]; exact h.he) (fun b h0 h1 => by rw [up_ne (by omega), up_ne (by omega), up_ne (by omega)]; exact ⟨rfl, rfl, (h.bl h0 h1).2.2.2⟩) (fun k h0 h1 => by rw [up_ne (by omega), up_ne (by omega)]; exact ⟨rfl, rfl⟩) (by rw [up_ne (by omega), up_ne (by omega)]; exact ⟨rfl, rfl⟩)
  · by_cases hi : i = 6
    · rw [up_eq hi]; have := hbb 6; omega
    · rw [up_ne hi]; have := hbb i; omega
  · rw [up_eq rfl]; omega
theorem low_shut (F : Int → Int) (b d : Int) : r_low (r_shut F d) b = r_low F b := by
  unfold r_low
  have key : ∀ (n : Nat) (i : Int), fi n i (p_page (r_shut F d)) (-5) = fi n i (p_page F) (-5) := by
    intro n
    induction n with
    | zero => intro i; rfl
    | succ n ih =>
      intro i
      have e : p_page (r_shut F d) i = p_page F i := by unfold p_page r_shut; rw [up_ne (by omega)]
      show (if p_page (r_shut F d) i = true then i else fi n (i + 1) _ (-5)) = (if p_page F i = true then i else fi n (i + 1) _ (-5))
      rw [e, ih (i + 1)]
  exact key 8 _
theorem wf_reads {N : Int} {F : Int → Int} {r : Int} (h : WF N F) (hr : 0 ≤ r ∧ r < 48) (hl : r_left F r ≠ 0) (hN : N + 1 ≤ 200000000) : WF (N + 1) (r_reads F r) := sorry
theorem reads_hold (F : Int → Int) (r k : Int) : r_reads F r (3 * k + 65) = F (3 * k + 65) := sorry
theorem room_reads {F : Int → Int} (h : ¬ (P_full F ∧ r_best F = -5)) (r : Int) : ¬ (P_full (r_reads F r) ∧ r_best (r_reads F r) = -5) := sorry
theorem bd_logs {F : Int → Int} (h : Bd F) : Bd (r_logs 21 F) := sorry
theorem bd_erB {N : Int} {F : Int → Int} {b : Int} (h : WF N F) (hb : 0 ≤ b ∧ b < 6) : Bd (r_erB (r_erA (r_shut F b) b).2 b) := sorry
theorem cnt_moves {N : Int} {F : Int → Int} {b : Int} (h : WF N F) (hb : 0 ≤ b ∧ b < 6) (hl : r_low F b ≠ -5) (hm : P_moves (r_shut F b) b) : r_cnt (r_moves F b) b 0 = r_cnt F b 0 - 1 := sorry
theorem wf_moves {N : Int} {F : Int → Int} {b : Int} (h : WF N F) (hb : 0 ≤ b ∧ b < 6) (hl : r_low F b ≠ -5) (hm : P_moves (r_shut F b) b) (hN : N + 2 ≤ 200000000) : WF (N + 2) (r_moves F b) := sorry
theorem calls_rg {N : Int} {F : Int → Int} (h : WF N F) : 0 ≤ r_calls F ∧ r_calls F ≤ 6 := sorry
theorem wf_tick0 {N : Int} {F : Int → Int} (h : WF N F) (hN : N + 1 ≤ 200000000) : WF (N + 1) (up F 0 (F 0 + 1)) := by
  have hn := h.1
  have hbb := h.2.1
  have hop := h.op
  refine h.tweak ⟨by omega, by omega⟩ (fun i => ?_) ⟨up_ne (by omega), up_ne (by omega), up_ne (by omega), up_ne (by omega), up_ne (by omega)⟩ ?_ (by rw [up_ne (by omega)]; exact h.he) (fun b h0 h1 => by rw [up_ne (by omega), up_ne (by omega), up_ne (by omega)]; exact ⟨rfl, rfl, (h.bl h0 h1).2.2.2⟩) (fun k h0 h1 => by rw [up_ne (by omega), up_ne (by omega)]; exact ⟨rfl, rfl⟩) (by rw [up_ne (by omega), up_ne (by omega)]; exact ⟨rfl, rfl⟩)
  · by_cases hi : i = 0
    · rw [up_eq hi]; have := hbb 0; omega
    · rw [up_ne hi]; have := hbb i; omega
  · rw [up_ne (by omega)]; exact hop
theorem set_erases {F : Int → Int} {b : Int} (hb : 0 ≤ b ∧ b < 6) : r_erases F b 3 = F 3 := sorry
theorem set_moves {F : Int → Int} {b : Int} (hl : r_low F b ≠ -5) (hb : 0 ≤ b ∧ b < 6) : r_moves F b 3 = F 3 := sorry
theorem calls_erases {N : Int} {F : Int → Int} {b : Int} (h : WF N F) (hb : 0 ≤ b ∧ b < 6) (hl : r_low F b = -5) (hm : P_marked F b) : r_calls (r_erases F b) + 1 ≤ r_calls F := sorry
theorem calls_erases1 {N : Int} {F : Int → Int} {b : Int} (h : WF N F) (hb : 0 ≤ b ∧ b < 6) : r_calls (r_erases F b) ≤ r_calls F := sorry
theorem calls_moves {F : Int → Int} {b : Int} (hl : r_low F b ≠ -5) (hb : 0 ≤ b ∧ b < 6) : r_calls (r_moves F b) = r_calls F := sorry
theorem at_ok {F : Int → Int} {r : Int} (h : r_markedAt F r ≠ -5) : 0 ≤ r_markedAt F r ∧ r_markedAt F r < 6 := by
  have := at_rg F r
  omega
theorem at_mk {F : Int → Int} {r : Int} (h : r_markedAt F r ≠ -5) : P_marked F (r_markedAt F r) := by
  rcases fi_rg (n := 6) (i := 0) (d := -5) (p := p_at F r) with h1 | ⟨-, -, h3⟩
  · exact absurd h1 h
  · simp only [p_at, decide_eq_true_eq] at h3
    exact h3.1
theorem wf_erases {N : Int} {F : Int → Int} {b : Int} (h : WF N F) (hb : 0 ≤ b ∧ b < 6) (hl : r_low F b = -5) (hN : N + 1 ≤ 200000000) : WF (N + 1) (r_erases F b) := sorry
theorem room_leaves {F : Int → Int} (v : Int) (h : ¬ (P_full F ∧ r_best F = -5)) : ¬ (P_full (r_leaves F v) ∧ r_best (r_leaves F v) = -5) := sorry
theorem room_frees {N : Int} {F : Int → Int} (h : WF N F) (hf : (if P_full F then 2 else 1) ≤ r_frees F) : ¬ (P_full F ∧ r_best F = -5) := sorry
theorem wf_tick {N : Int} {F : Int → Int} (h : WF N F) (hN : N + 100 ≤ 200000000) : WF (N + 100) (r_tick F).2 := sorry
theorem tick_rg {N : Int} {F : Int → Int} (h : WF N F) : 0 ≤ (r_tick F).1 ∧ (r_tick F).1 ≤ 32 := sorry
/-! copies -/
def cpy (F G : Int → Int) (fa ta k : Int) : Int → Int := fun i => if ta ≤ i ∧ i < ta + k then F (i - ta + fa) else G i
theorem cpy_s {F G : Int → Int} {fa ta k v : Int} (hk : 0 ≤ k) (hv : F (fa + k) = v) : up (cpy F G fa ta k) (ta + k) v = cpy F G fa ta (k + 1) := by
  funext i
  unfold up cpy
  by_cases h : i = ta + k
  · rw [if_pos h, if_pos (by omega), ← hv]
    congr 1
    omega
  · rw [if_neg h]
    by_cases h2 : ta ≤ i ∧ i < ta + k
    · rw [if_pos h2, if_pos (by omega)]
    · rw [if_neg h2, if_neg (by omega)]
theorem cpy_0 {F G : Int → Int} {fa ta : Int} : cpy F G fa ta 0 = G := by
  funext i
  exact if_neg (by omega)
def shf (P : Int → Int) (k : Int) : Int → Int := fun i => if 0 ≤ i ∧ i < k then P (i + 233) else P i
theorem shf_0 {P : Int → Int} : shf P 0 = P := by
  funext i
  exact if_neg (by omega)
theorem shf_hi {P : Int → Int} {k i : Int} (h : k ≤ i) : shf P k i = P i := if_neg (by omega)
theorem shf_s {P : Int → Int} {k : Int} (hk : 0 ≤ k) : up (shf P k) k (P (k + 233)) = shf P (k + 1) := by
  funext i
  unfold up shf
  by_cases h : i = k
  · rw [if_pos h, if_pos (by omega), h]
  · rw [if_neg h]
    by_cases h2 : 0 ≤ i ∧ i < k
    · rw [if_pos h2, if_pos (by omega)]
    · rw [if_neg h2, if_neg (by omega)]
theorem lay_full {F G : Int → Int} : ∀ i : Int, 0 ≤ i → i < ((233 : Nat) : Int) → F i = if (0 : Int) ≤ i ∧ i < 0 + 233 then F (i - 0 + 0) else G i := by
  intro i h0 h1
  rw [if_pos (by omega)]
  congr 1
  omega
theorem lay_cpy {F G : Int → Int} {fa ta : Int} {n : Nat} : ∀ i : Int, 0 ≤ i → i < (n : Int) → cpy F G fa ta 233 i = if ta ≤ i ∧ i < ta + 233 then F (i - ta + fa) else G i := fun _ _ _ => rfl
theorem h_of_rec {B : Nat → Int → Int} {r : Int} (h : 0 ≤ r) (h3 : r < 4) : h_of (b_rec B) r = if r = 0 then B 0 else h_of B (r - 1) := by
  by_cases h0 : r = 0
  · subst h0; rfl
  by_cases h1 : r = 1
  · subst h1; rfl
  by_cases h2 : r = 2
  · subst h2; rfl
  have h3 : r = 3 := by omega
  subst h3; rfl
theorem rec_8 (B : Nat → Int → Int) : b_rec B 8 0 = if B 8 0 = 4 then 4 else B 8 0 + 1 := rfl
theorem past_rec1 {B : Nat → Int → Int} {P : Int → Int} (h : PastOk B P) (hk : 0 ≤ B 8 0 ∧ B 8 0 ≤ 4) (h4 : B 8 0 ≠ 4) : PastOk (b_rec B) (cpy (B 0) P 0 (233 * B 8 0) 233) := by
  intro r i h0 h1 h2 h3
  rw [rec_8, if_neg h4] at h1 ⊢
  rw [h_of_rec h0 (by omega)]
  by_cases hr : r = 0
  · subst hr
    rw [if_pos rfl]
    show cpy (B 0) P 0 (233 * B 8 0) 233 (233 * (B 8 0 + 1 - 1 - 0) + i) = B 0 i
    unfold cpy
    rw [if_pos (by omega)]
    congr 1
    omega
  · rw [if_neg hr, ← h (r - 1) i (by omega) (by omega) h2 h3]
    unfold cpy
    rw [if_neg (by omega)]
    congr 1
    omega
theorem past_rec2 {B : Nat → Int → Int} {P : Int → Int} (h : PastOk B P) (h4 : B 8 0 = 4) : PastOk (b_rec B) (cpy (B 0) (shf P 699) 0 (233 * B 8 0 - 233) 233) := by
  intro r i h0 h1 h2 h3
  rw [rec_8, if_pos h4] at h1 ⊢
  rw [h_of_rec h0 (by omega)]
  by_cases hr : r = 0
  · subst hr
    rw [if_pos rfl]
    unfold cpy
    rw [if_pos (by omega)]
    congr 1
    omega
  · rw [if_neg hr, ← h (r - 1) i (by omega) (by omega) h2 h3]
    unfold cpy
    rw [if_neg (by omega)]
    unfold shf
    rw [if_pos (by omega)]
    congr 1
    omega
theorem past_pop {B : Nat → Int → Int} {P : Int → Int} (h : PastOk B P) (hk : 0 ≤ B 8 0 ∧ B 8 0 ≤ 4) : PastOk (b_pop B) P := by
  intro r i h0 h1 h2 h3
  have h1 : r < B 8 0 - 1 := h1
  have e := h (r + 1) i (by omega) (by omega) h2 h3
  rw [show 233 * (B 8 0 - 1 - (r + 1)) + i = 233 * (B 8 0 - 1 - 1 - r) + i from by omega] at e
  show P (233 * (B 8 0 - 1 - 1 - r) + i) = _
  rw [e]
  by_cases hr : r = 0
  · subst hr; rfl
  by_cases h1 : r = 1
  · subst h1; rfl
  have h2 : r = 2 := by omega
  subst h2; rfl
theorem past_top {B : Nat → Int → Int} {P G : Int → Int} (h : PastOk B P) (h0 : 0 < B 8 0) : ∀ i : Int, 0 ≤ i → i < ((233 : Nat) : Int) → B 1 i = if (0 : Int) ≤ i ∧ i < 0 + 233 then P (i - 0 + (233 * B 8 0 - 233)) else G i := by
  intro i h1 h2
  rw [if_pos (by omega)]
  have e := h 0 i (by omega) h0 h1 (by omega)
  rw [show i - 0 + (233 * B 8 0 - 233) = 233 * (B 8 0 - 1 - 0) + i from by omega, e]
  rfl
def Tx (f : Int → Int) : Prop := ∀ i, 0 ≤ f i ∧ f i ≤ 65535
theorem Tx.bd {f : Int → Int} (h : Tx f) (i : Int) : 0 ≤ f i ∧ f i ≤ 65535 := h i
theorem WB.k {N : Int} {B : Nat → Int → Int} (h : WB N B) : 0 ≤ B 8 0 ∧ B 8 0 ≤ 4 := h.2.1
theorem WB.j {N : Int} {B : Nat → Int → Int} (h : WB N B) : B 9 0 = 0 ∨ B 9 0 = 1 := h.2.2.2.2.2.2.1
theorem WB.sh {N : Int} {B : Nat → Int → Int} (h : WB N B) (h1 : B 9 0 = 1) : WF N (B 5) := h.2.2.2.2.2.2.2.1 h1
theorem WB.tl {N : Int} {B : Nat → Int → Int} (h : WB N B) : 0 ≤ B 10 0 ∧ B 10 0 ≤ 60 := h.2.2.2.2.2.2.2.2.1
theorem WB.tx {N : Int} {B : Nat → Int → Int} (h : WB N B) : Tx (B 6) := h.2.2.2.2.2.2.2.2.2.1
theorem WB.rf {N : Int} {B : Nat → Int → Int} (h : WB N B) : B 11 0 = 0 ∨ B 11 0 = 1 := h.2.2.2.2.2.2.2.2.2.2.1
theorem WB.rr {N : Int} {B : Nat → Int → Int} (h : WB N B) : Bd (B 7) := h.2.2.2.2.2.2.2.2.2.2.2
theorem set_ok_8 {w v : Int} (hw : 0 ≤ w ∧ w ≤ 4) (hv : S_ok w v) : 0 ≤ v ∧ v ≤ 999 := by omega
theorem quietL_s {f : Nat} {F : Int → Int} {t : Int} : r_quietL (f + 1) F t = if r_marks F = 0 then t else r_quietL f (r_tick F).2 (t + 1) := rfl
theorem wf_mark {N : Int} {F : Int → Int} {b i : Int} (h : WF N F) (hb : 0 ≤ b ∧ b < 6) (hi : 0 ≤ i ∧ i ≤ 1) : WF N (up F (4 * b + 43) i) := sorry
theorem wf_stale {N : Int} {F : Int → Int} {v : Int} (h : WF N F) (hv : r_placeOf F v ≠ -5) : WF N (up F (3 * r_placeOf F v + 65) (-2)) := sorry
theorem wf_all {N : Int} {F : Int → Int} {b : Int} (h : WF N F) (hb : 0 ≤ b ∧ b < 6) (hr : 0 ≤ (r_all F b).1) (hN : N + 20 ≤ 200000000) : WF (N + 20) (r_all F b).2 := sorry
theorem all_place {N : Int} {F : Int → Int} {b v : Int} (h : WF N F) (hb : 0 ≤ b ∧ b < 6) (hr : 0 ≤ (r_all F b).1) (hv : r_placeOf F v ≠ -5) (hp : 0 ≤ v ∧ v ≤ 23) : r_placeOf (r_all F b).2 v ≠ -5 := sorry
theorem write_rg {N : Int} {F : Int → Int} (h : WF N F) (v : Int) : -5 ≤ (r_write F v).1 ∧ (r_write F v).1 ≤ 48 := sorry
theorem read_rg {N : Int} {F : Int → Int} (_ : WF N F) (v : Int) : -4 ≤ (r_read F v).1 ∧ (r_read F v).1 ≤ 2 := by
  unfold r_read
  split
  · exact ⟨by show (-4 : Int) ≤ -1; omega, by show (-1 : Int) ≤ 2; omega⟩
  · split
    · exact ⟨by show (-4 : Int) ≤ 0; omega, by show (0 : Int) ≤ 2; omega⟩
    · split
      · exact ⟨by show (-4 : Int) ≤ 1; omega, by show (1 : Int) ≤ 2; omega⟩
      · split
        · exact ⟨by show (-4 : Int) ≤ 2; omega, by show (2 : Int) ≤ 2; omega⟩
        · exact ⟨by show (-4 : Int) ≤ -4; omega, by show (-4 : Int) ≤ 2; omega⟩
theorem all_rg {N : Int} {F : Int → Int} (h : WF N F) (b : Int) : -4 ≤ (r_all F b).1 ∧ (r_all F b).1 ≤ 9 := sorry
theorem pass_rg {N : Int} {F : Int → Int} (h : WF N F) (t : Int) : -4 ≤ (r_pass F t).1 ∧ (r_pass F t).1 ≤ 3200 := sorry
theorem placed_rg (F : Int → Int) : 0 ≤ r_placed F ∧ r_placed F ≤ 48 := sorry
theorem weakest_rg {N : Int} {F : Int → Int} (h : WF N F) : 0 ≤ r_weakest F ∧ r_weakest F ≤ 40000 := sorry
/-! texts -/
theorem t_run_1 {t : Int → Int} {n : Int} {f : Nat} {a k : Int} (hf : 0 < f) (h : ¬ O_ok t n a) : t_run t n f a k = (0, o_end t n a, k) := by
  obtain ⟨m, rfl⟩ : ∃ m, f = m + 1 := ⟨f - 1, by omega⟩
  exact if_pos h
theorem t_run_2 {t : Int → Int} {n : Int} {f : Nat} {a k : Int} (hf : 0 < f) (h : O_ok t n a) (hc : o_end t n a < n ∧ t (o_end t n a) = 44) : t_run t n f a k = t_run t n (f - 1) (o_end t n a + 1) (k + 1) := by
  obtain ⟨m, rfl⟩ : ∃ m, f = m + 1 := ⟨f - 1, by omega⟩
  show (if ¬ O_ok t n a then _ else _) = _
  rw [if_neg (fun hh => hh h), if_pos hc]
  rfl
theorem t_run_3 {t : Int → Int} {n : Int} {f : Nat} {a k : Int} (hf : 0 < f) (h : O_ok t n a) (hc : ¬ (o_end t n a < n ∧ t (o_end t n a) = 44)) : t_run t n f a k = ((if o_end t n a = n then 1 else 0), o_end t n a, k + 1) := by
  obtain ⟨m, rfl⟩ : ∃ m, f = m + 1 := ⟨f - 1, by omega⟩
  show (if ¬ O_ok t n a then _ else _) = _
  rw [if_neg (fun hh => hh h), if_neg hc]
theorem d_rg (t : Int → Int) (n a : Int) : -1 ≤ d_at t n a ∧ d_at t n a ≤ 9 := by unfold d_at; omega
theorem d_lt {t : Int → Int} {n a : Int} (h : 0 ≤ d_at t n a) : a < n := by unfold d_at at h; omega
theorem n_end_rg {t : Int → Int} {n a hi : Int} (h : 0 ≤ d_at t n a) : a + 1 ≤ n_end t n a hi ∧ n_end t n a hi ≤ a + 2 ∧ n_end t n a hi ≤ n := by
  unfold n_end
  have h1 := d_lt h
  split
  · rename_i h2
    have := d_lt h2.2.1
    omega
  · omega
theorem n_val_rg {t : Int → Int} {n a hi : Int} (h : 0 ≤ d_at t n a) : 0 ≤ n_val t n a hi ∧ n_val t n a hi ≤ 99 := by
  unfold n_val
  have h1 := d_rg t n a
  have h2 := d_rg t n (a + 1)
  split <;> omega
theorem n_val_hi {t : Int → Int} {n a lo hi : Int} (h : lo ≤ d_at t n a) (h9 : 9 ≤ hi) (h0 : 0 ≤ lo) : lo ≤ n_val t n a hi ∧ n_val t n a hi ≤ hi := by
  unfold n_val
  have h1 := d_rg t n a
  have h2 := d_rg t n (a + 1)
  split
  · rename_i h3
    have h4 := h3.2.2
    omega
  · omega
/-- an order that is one: where it ends, its numbers -/
theorem o_ok_rg {t : Int → Int} {n a : Int} (h : O_ok t n a) : a + 2 ≤ o_end t n a ∧ o_end t n a ≤ n ∧ o_lo t a ≤ o_arg t n a ∧ o_arg t n a ≤ o_hi t a ∧ 1 ≤ o_rep t n a ∧ o_rep t n a ≤ 99 ∧ (t a ≠ 114 → o_rep t n a = 1) := by
  obtain ⟨h1, h2, h3⟩ := h
  have hlo : 0 ≤ o_lo t a := by unfold o_lo; omega
  have hhi : 9 ≤ o_hi t a := by unfold o_hi; omega
  have h2' : o_lo t a ≤ d_at t n (a + 1) := h2
  have e1 := n_end_rg (t := t) (n := n) (a := a + 1) (hi := o_hi t a) (by omega)
  have v1 := n_val_hi (t := t) (n := n) (a := a + 1) (lo := o_lo t a) (hi := o_hi t a) h2' hhi hlo
  have h4 : o_end t n a = if O_star t n a then (if O_rep t n a then n_end t n (o_e1 t n a + 1) 99 else o_e1 t n a + 1) else o_e1 t n a := by
    unfold o_end
    rw [if_neg (fun hh => hh h1), if_neg (fun hh => hh h2)]
  refine ⟨?_, ?_, v1.1, v1.2, ?_, ?_, ?_⟩
  · rw [h4]
    split
    · rename_i hs
      rw [if_pos (h3 hs)]
      have e2 := n_end_rg (t := t) (n := n) (a := o_e1 t n a + 1) (hi := 99) (by have := h3 hs; omega)
      have : o_e1 t n a = n_end t n (a + 1) (o_hi t a) := rfl
      omega
    · have : o_e1 t n a = n_end t n (a + 1) (o_hi t a) := rfl
      omega
  · rw [h4]
    split
    · rename_i hs
      rw [if_pos (h3 hs)]
      have e2 := n_end_rg (t := t) (n := n) (a := o_e1 t n a + 1) (hi := 99) (by have := h3 hs; omega)
      omega
    · have : o_e1 t n a = n_end t n (a + 1) (o_hi t a) := rfl
      omega
  · unfold o_rep
    split
    · rename_i hs
      exact (n_val_hi (lo := 1) (h3 hs) (by omega) (by omega)).1
    · omega
  · unfold o_rep
    split
    · rename_i hs
      exact (n_val_hi (lo := 1) (h3 hs) (by omega) (by omega)).2
    · omega
  · intro hn
    unfold o_rep
    rw [if_neg (fun hs => hn hs.1)]
theorem o_end_0 {t : Int → Int} {n a : Int} (h : ¬ O_let t n a) : o_end t n a = a := if_pos h
theorem o_end_1 {t : Int → Int} {n a : Int} (h : O_let t n a) (h2 : ¬ O_num t n a) : o_end t n a = a + 1 := by
  unfold o_end
  rw [if_neg (fun hh => hh h), if_pos h2]
theorem o_end_2 {t : Int → Int} {n a : Int} (h : O_let t n a) (h2 : O_num t n a) (h3 : ¬ O_star t n a) : o_end t n a = o_e1 t n a := by
  unfold o_end
  rw [if_neg (fun hh => hh h), if_neg (fun hh => hh h2), if_neg h3]
theorem o_end_3 {t : Int → Int} {n a : Int} (h : O_let t n a) (h2 : O_num t n a) (h3 : O_star t n a) (h4 : ¬ O_rep t n a) : o_end t n a = o_e1 t n a + 1 := by
  unfold o_end
  rw [if_neg (fun hh => hh h), if_neg (fun hh => hh h2), if_pos h3, if_neg h4]
theorem o_end_4 {t : Int → Int} {n a : Int} (h : O_let t n a) (h2 : O_num t n a) (h3 : O_star t n a) (h4 : O_rep t n a) : o_end t n a = n_end t n (o_e1 t n a + 1) 99 := by
  unfold o_end
  rw [if_neg (fun hh => hh h), if_neg (fun hh => hh h2), if_pos h3, if_pos h4]
theorem e_reps_s {c x d : Int} {m : Nat} {F : Int → Int} : e_reps c x (m + 1) d F = if (e_one F c x).1 < 0 then ((e_one F c x).1, d, F) else e_reps c x m (d + 1) (e_one F c x).2 := rfl
theorem wf_read {N : Int} {F : Int → Int} {v : Int} (h : WF N F) (hN : N + 100 ≤ 200000000) (hr : 0 ≤ (r_read F v).1) : WF (N + 100) (r_read F v).2 := sorry
theorem wf_write {N : Int} {F : Int → Int} {v : Int} (h : WF N F) (hr : 0 ≤ (r_write F v).1) : WF N (r_write F v).2 := sorry
theorem wf_pass {N : Int} {F : Int → Int} {v : Int} (h : WF N F) (hN : N + 10000 ≤ 200000000) (hr : 0 ≤ (r_pass F v).1) : WF (N + 10000) (r_pass F v).2 := sorry
def e_grow (c : Int) : Int := if c = 116 then 10000 else 100
theorem wf_one {N : Int} {F : Int → Int} {c x : Int} (h : WF N F) (hc : c = 114 ∨ c = 119 ∨ c = 116) (hN : N + 10000 ≤ 200000000) (hr : 0 ≤ (e_one F c x).1) : WF (N + e_grow c) (e_one F c x).2 := by
  unfold e_one at hr ⊢
  unfold e_grow
  by_cases h1 : c = 114
  · rw [if_pos h1] at hr ⊢
    rw [if_neg (by omega)]
    exact wf_read h (by omega) hr
  · rw [if_neg h1] at hr ⊢
    by_cases h2 : c = 119
    · rw [if_pos h2] at hr ⊢
      rw [if_neg (by omega)]
      exact (wf_write h hr).mono (by omega) (by omega)
    · rw [if_neg h2] at hr ⊢
      rw [if_pos (by omega)]
      exact wf_pass h hN hr
theorem one_rg {N : Int} {F : Int → Int} {c x : Int} (h : WF N F) : -5 ≤ (e_one F c x).1 ∧ (e_one F c x).1 ≤ 3200 := by
  unfold e_one
  split
  · have := read_rg h x; omega
  · split
    · have := write_rg h x; omega
    · have := pass_rg h x; omega
theorem o_end_rg0 {t : Int → Int} {n a : Int} (h : 0 ≤ a ∧ a ≤ n) : 0 ≤ o_end t n a ∧ o_end t n a ≤ n := by
  by_cases h1 : O_let t n a
  · have h1' := h1.1
    by_cases h2 : O_num t n a
    · have h2' : o_lo t a ≤ d_at t n (a + 1) := h2
      have hlo : 0 ≤ o_lo t a := by unfold o_lo; omega
      have e1 := n_end_rg (t := t) (n := n) (a := a + 1) (hi := o_hi t a) (by omega)
      have e0 : o_e1 t n a = n_end t n (a + 1) (o_hi t a) := rfl
      by_cases h3 : O_star t n a
      · by_cases h4 : O_rep t n a
        · have h4' : 1 ≤ d_at t n (o_e1 t n a + 1) := h4
          have e2 := n_end_rg (t := t) (n := n) (a := o_e1 t n a + 1) (hi := 99) (by omega)
          rw [o_end_4 h1 h2 h3 h4]; omega
        · have := h3.2.1
          rw [o_end_3 h1 h2 h3 h4]; omega
      · rw [o_end_2 h1 h2 h3]; omega
    · rw [o_end_1 h1 h2]; omega
  · rw [o_end_0 h1]; omega
theorem txt_rows {t : Int → Int} {n mm a : Int} {Y Z : Nat → Int → Int} (hro : ∀ j : Nat, (j : Int) < mm → Y 5 (3 * j) = t (t_at t n j) ∧ Y 5 (3 * j + 1) = o_arg t n (t_at t n j) ∧ Y 5 (3 * j + 2) = o_rep t n (t_at t n j) ∧ O_ok t n (t_at t n j))
    (h5 : ∀ i, Z 5 i = if i = 3 * mm then t a else if i = 3 * mm + 1 then o_arg t n a else if i = 3 * mm + 2 then o_rep t n a else Y 5 i) (hat : t_at t n mm.toNat = a) (hok : O_ok t n a) (hm : 0 ≤ mm) :
    ∀ j : Nat, (j : Int) < mm + 1 → Z 5 (3 * j) = t (t_at t n j) ∧ Z 5 (3 * j + 1) = o_arg t n (t_at t n j) ∧ Z 5 (3 * j + 2) = o_rep t n (t_at t n j) ∧ O_ok t n (t_at t n j) := by
  intro j hj
  by_cases hq : (j : Int) = mm
  · have hjm : j = mm.toNat := by omega
    rw [h5, h5, h5, if_pos (by omega), if_neg (by omega), if_pos (by omega), if_neg (by omega), if_neg (by omega), if_pos (by omega), hjm, hat]
    exact ⟨rfl, rfl, rfl, hok⟩
  · have h := hro j (by omega)
    rw [h5, h5, h5, if_neg (by omega), if_neg (by omega), if_neg (by omega), if_neg (by omega), if_neg (by omega), if_neg (by omega), if_neg (by omega), if_neg (by omega), if_neg (by omega)]
    exact h
