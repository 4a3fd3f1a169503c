/-! the class's Store: its rows T: 1 kinds, 2 erasures, 3 called, 4 blockReads, 5 used, 6 held, 7 weakenings, 8 written, 9 placeOf, 10 pageReads, 11 settings, 14 the buffer's pages, 15-17 the log; numbers: 18 open, 19 tick, 20 reads, 21 bufferReads, 22 movedPages, 23 the buffer's size, 24 the log's total -/
def st_ws (g : GG) (a : Nat → Nat) (T : Nat → Int → Int) : va_W := [
  (a 0, .inr (4, [.ref (a 1), .ref (a 2), .ref (a 3), .ref (a 4), .ref (a 5), .ref (a 6), .ref (a 7), .ref (a 8), .ref (a 9), .ref (a 10), .ref (a 11), .ref (a 12), .ref (a 13), .int (iI (T 18 0)), .int (iI (T 19 0)), .int (iI (T 20 0)), .int (iI (T 21 0)), .int (iI (T 22 0))])),
  (a 1, eI g 6 (T 1)), (a 2, eI g 6 (T 2)), (a 3, eZ g 6 (T 3)), (a 4, eI g 6 (T 4)), (a 5, eI g 6 (T 5)), (a 6, eI g 48 (T 6)), (a 7, eI g 48 (T 7)), (a 8, eI g 48 (T 8)), (a 9, eI g 24 (T 9)), (a 10, eI g 24 (T 10)), (a 11, eI g 5 (T 11)),
  (a 12, .inr (0, [.ref (a 14), .int (iI (T 23 0))])), (a 13, .inr (1, [.ref (a 15), .ref (a 16), .ref (a 17), .int (iI (T 24 0))])), (a 14, eI g 4 (T 14)), (a 15, eI g 8 (T 15)), (a 16, eI g 8 (T 16)), (a 17, eI g 8 (T 17))]
def r_at (F : Int → Int) (p : Int) : Int := if r_placeOf F p = -5 then -1 else r_placeOf F p
def r_open (F : Int → Int) : Int := if F 6 = -5 then -1 else F 6
def Rel (F : Int → Int) (T : Nat → Int → Int) : Prop :=
  (∀ b, 0 ≤ b → b < 6 → T 1 b = F (4 * b + 41) ∧ T 2 b = F (4 * b + 42) ∧ T 3 b = F (4 * b + 43) ∧ T 4 b = F (4 * b + 44) ∧ T 5 b = 8 - r_cnt F b (-1)) ∧
  (∀ k, 0 ≤ k → k < 48 → T 6 k = F (3 * k + 65) ∧ T 7 k = F (3 * k + 66) ∧ T 8 k = F (3 * k + 67)) ∧
  (∀ p, 0 ≤ p → p < 24 → T 9 p = r_at F p ∧ T 10 p = F (p + 209)) ∧
  (∀ i, 0 ≤ i → i < 5 → T 11 i = F (i + 1)) ∧ (∀ i, 0 ≤ i → i < 4 → T 14 i = F (i + 12)) ∧
  (∀ i, 0 ≤ i → i < 8 → T 15 i = F (3 * i + 17) ∧ T 16 i = F (3 * i + 18) ∧ T 17 i = F (3 * i + 19)) ∧
  (T 18 0 = r_open F ∧ T 19 0 = F 0 ∧ T 20 0 = F 7 ∧ T 21 0 = F 8 ∧ T 22 0 = F 9 ∧ T 23 0 = F 11 ∧ T 24 0 = F 10)
section REL
variable {F : Int → Int} {T : Nat → Int → Int}
theorem Rel.kd (h : Rel F T) {b : Int} (h0 : 0 ≤ b) (h1 : b < 6) : T 1 b = F (4 * b + 41) := (h.1 b h0 h1).1
theorem Rel.er (h : Rel F T) {b : Int} (h0 : 0 ≤ b) (h1 : b < 6) : T 2 b = F (4 * b + 42) := (h.1 b h0 h1).2.1
theorem Rel.ca (h : Rel F T) {b : Int} (h0 : 0 ≤ b) (h1 : b < 6) : T 3 b = F (4 * b + 43) := (h.1 b h0 h1).2.2.1
theorem Rel.br (h : Rel F T) {b : Int} (h0 : 0 ≤ b) (h1 : b < 6) : T 4 b = F (4 * b + 44) := (h.1 b h0 h1).2.2.2.1
theorem Rel.us (h : Rel F T) {b : Int} (h0 : 0 ≤ b) (h1 : b < 6) : T 5 b = 8 - r_cnt F b (-1) := (h.1 b h0 h1).2.2.2.2
theorem Rel.he (h : Rel F T) {k : Int} (h0 : 0 ≤ k) (h1 : k < 48) : T 6 k = F (3 * k + 65) := (h.2.1 k h0 h1).1
theorem Rel.we (h : Rel F T) {k : Int} (h0 : 0 ≤ k) (h1 : k < 48) : T 7 k = F (3 * k + 66) := (h.2.1 k h0 h1).2.1
theorem Rel.wr (h : Rel F T) {k : Int} (h0 : 0 ≤ k) (h1 : k < 48) : T 8 k = F (3 * k + 67) := (h.2.1 k h0 h1).2.2
theorem Rel.pl (h : Rel F T) {p : Int} (h0 : 0 ≤ p) (h1 : p < 24) : T 9 p = r_at F p := (h.2.2.1 p h0 h1).1
theorem Rel.pr (h : Rel F T) {p : Int} (h0 : 0 ≤ p) (h1 : p < 24) : T 10 p = F (p + 209) := (h.2.2.1 p h0 h1).2
theorem Rel.se (h : Rel F T) {i : Int} (h0 : 0 ≤ i) (h1 : i < 5) : T 11 i = F (i + 1) := h.2.2.2.1 i h0 h1
theorem Rel.bu (h : Rel F T) {i : Int} (h0 : 0 ≤ i) (h1 : i < 4) : T 14 i = F (i + 12) := h.2.2.2.2.1 i h0 h1
theorem Rel.lb (h : Rel F T) {i : Int} (h0 : 0 ≤ i) (h1 : i < 8) : T 15 i = F (3 * i + 17) := (h.2.2.2.2.2.1 i h0 h1).1
theorem Rel.lt (h : Rel F T) {i : Int} (h0 : 0 ≤ i) (h1 : i < 8) : T 16 i = F (3 * i + 18) := (h.2.2.2.2.2.1 i h0 h1).2.1
theorem Rel.lw (h : Rel F T) {i : Int} (h0 : 0 ≤ i) (h1 : i < 8) : T 17 i = F (3 * i + 19) := (h.2.2.2.2.2.1 i h0 h1).2.2
theorem Rel.op (h : Rel F T) : T 18 0 = r_open F := h.2.2.2.2.2.2.1
theorem Rel.ti (h : Rel F T) : T 19 0 = F 0 := h.2.2.2.2.2.2.2.1
theorem Rel.re (h : Rel F T) : T 20 0 = F 7 := h.2.2.2.2.2.2.2.2.1
theorem Rel.qu (h : Rel F T) : T 21 0 = F 8 := h.2.2.2.2.2.2.2.2.2.1
theorem Rel.mo (h : Rel F T) : T 22 0 = F 9 := h.2.2.2.2.2.2.2.2.2.2.1
theorem Rel.sz (h : Rel F T) : T 23 0 = F 11 := h.2.2.2.2.2.2.2.2.2.2.2.1
theorem Rel.to (h : Rel F T) : T 24 0 = F 10 := h.2.2.2.2.2.2.2.2.2.2.2.2
end REL
theorem rat_rg (F : Int → Int) (p : Int) : (r_placeOf F p = -5 ∧ r_at F p = -1) ∨ (0 ≤ r_placeOf F p ∧ r_placeOf F p < 48 ∧ r_at F p = r_placeOf F p) := by
  have := placeOf_rg F p
  unfold r_at
  omega
theorem open_rg {N : Int} {F : Int → Int} (h : WF N F) : (F 6 = -5 ∧ r_open F = -1) ∨ (0 ≤ F 6 ∧ F 6 ≤ 5 ∧ r_open F = F 6) := by
  have := h.op
  unfold r_open
  omega
theorem stf5_mul {k e : Int} (he : 0 ≤ e ∧ e ≤ 200000000) (hk : 0 ≤ k ∧ k ≤ 2) : 0 ≤ stf 5 k * e ∧ stf 5 k * e ≤ 2000000000 := by
  have h : k = 0 ∨ k = 1 ∨ k = 2 := by omega
  rcases h with rfl | rfl | rfl
  · rw [show stf 5 0 = 4 from rfl]; omega
  · rw [show stf 5 1 = 5 from rfl]; omega
  · rw [show stf 5 2 = 10 from rfl]; omega
theorem bears_stf {N : Int} {F : Int → Int} (h : WF N F) {b : Int} (hb : 0 ≤ b ∧ b < 6) : r_bears F b = r_cut (stf 4 (F (4 * b + 41)) - stf 5 (F (4 * b + 41)) * F (4 * b + 42)) := by
  have h1 := h.bl hb.1 hb.2
  have h2 : F (4 * b + 41) = 0 ∨ F (4 * b + 41) = 1 ∨ F (4 * b + 41) = 2 := by omega
  unfold r_bears
  rcases h2 with h2 | h2 | h2
  · rw [h2]; rfl
  · rw [h2]; rfl
  · rw [h2]; rfl
theorem fo_pos {n : Nat} : ∀ {i a : Int} {f : Int → Int → Int}, (∀ j x, i ≤ j → j < i + n → f j x = x) → fo n i a f = a := by
  induction n with
  | zero => intro i a f _; rfl
  | succ n ih =>
    intro i a f h
    show fo n (i + 1) (f i a) f = a
    rw [h i a (by omega) (by omega)]
    exact ih (fun j x h1 h2 => h j x (by omega) (by omega))
theorem an_iff {n : Nat} : ∀ {i : Int} {p : Int → Bool}, an n i p = true ↔ ∃ j, i ≤ j ∧ j < i + n ∧ p j = true := by
  induction n with
  | zero => intro i p; exact ⟨fun h => by simp [an] at h, fun ⟨j, h1, h2, _⟩ => by omega⟩
  | succ n ih =>
    intro i p
    show (p i || an n (i + 1) p) = true ↔ _
    rw [Bool.or_eq_true, ih]
    constructor
    · rintro (h | ⟨j, h1, h2, h3⟩)
      · exact ⟨i, Int.le_refl _, by omega, h⟩
      · exact ⟨j, by omega, by omega, h3⟩
    · rintro ⟨j, h1, h2, h3⟩
      by_cases hj : j = i
      · subst hj; exact Or.inl h3
      · exact Or.inr ⟨j, by omega, by omega, h3⟩
/-- a block without pages -/
theorem cnt_none {F : Int → Int} {b : Int} (h : r_cnt F b 0 = 0) : ∀ k, 8 * b ≤ k → k < 8 * b + 8 → F (3 * k + 65) < 0 := by
  have key : ∀ (n : Nat) (i a : Int), 0 ≤ a → fo n i a (s_cnt F 0) = 0 → a = 0 ∧ ∀ k, i ≤ k → k < i + n → F (3 * k + 65) < 0 := by
    intro n
    induction n with
    | zero => intro i a _ h; exact ⟨h, fun k h1 h2 => by omega⟩
    | succ n ih =>
      intro i a h0 h
      have h1 := ih (i + 1) (s_cnt F 0 i a) (by unfold s_cnt; omega) h
      have h2 := h1.1
      unfold s_cnt at h2
      refine ⟨by omega, fun k q1 q2 => ?_⟩
      by_cases hk : k = i
      · subst hk; omega
      · exact h1.2 k (by omega) (by omega)
  exact fun k h1 h2 => (key 8 (8 * b) 0 (by omega) h).2 k h1 (by omega)
theorem marked_iff {N : Int} {F : Int → Int} (h : WF N F) {b : Int} (hb : 0 ≤ b ∧ b < 6) : P_marked F b ↔ (F (4 * b + 43) = 1 ∨ r_old F b = true ∨ F 1 * r_bears F b ≤ 100 * r_great F b) := by
  have hbr := bears_rg h hb.1 hb.2
  have hs := h.se
  constructor
  · rintro (h1 | ⟨-, h1 | h1⟩)
    · exact Or.inl h1
    · exact Or.inr (Or.inl h1)
    · exact Or.inr (Or.inr h1)
  · have hno : r_cnt F b 0 = 0 → r_great F b = 0 := fun h0 => fo_pos (fun j x h1 h2 => by
      have := cnt_none h0 j h1 (by omega)
      unfold s_great
      rw [if_neg (by omega)])
    rintro (h1 | h1 | h1)
    · exact Or.inl h1
    · refine Or.inr ⟨fun h0 => ?_, Or.inl h1⟩
      obtain ⟨j, h2, h3, h4⟩ := an_iff.mp h1
      have := cnt_none h0 j h2 (by omega)
      simp only [p_old, decide_eq_true_eq] at h4
      omega
    · refine Or.inr ⟨fun h0 => ?_, Or.inr h1⟩
      rw [hno h0] at h1
      have h5 : 10 * 20 ≤ F 1 * r_bears F b := Int.mul_le_mul hs.1 hbr.1 (by omega) (by omega)
      omega
/-! what the class asks in its own way -/
def s_first (F : Int → Int) (b : Int) (x : Int × Int) : Int × Int := if P_marked F b ∧ x.2 < r_hund F b then (b, r_hund F b) else x
def r_firstA (F : Int → Int) : Int × Int := fo 6 0 (((-1 : Int), (-1 : Int))) (s_first F)
def r_first (F : Int → Int) : Int := if r_markedAt F 0 = -5 then -1 else r_markedAt F 0
theorem ahead_0 {F : Int → Int} {b : Int} : r_ahead F b = 0 ↔ ∀ o, 0 ≤ o → o < 6 → ¬ (P_marked F o ∧ (r_hund F b < r_hund F o ∨ r_hund F o = r_hund F b ∧ o < b)) := by
  have e : r_ahead F b = sm 6 0 (fun o => if P_marked F o ∧ (r_hund F b < r_hund F o ∨ r_hund F o = r_hund F b ∧ o < b) then 1 else 0) := rfl
  rw [e]
  constructor
  · intro h o h0 h1 q
    have e2 : (if P_marked F o ∧ (r_hund F b < r_hund F o ∨ r_hund F o = r_hund F b ∧ o < b) then (1 : Int) else 0) = 0 := sm_zero (fun j _ _ => by show (0 : Int) ≤ (if _ then 1 else 0); split <;> omega) h o h0 (by omega)
    rw [if_pos q] at e2
    omega
  · intro h
    exact sm_all0 (fun j q0 q1 => if_neg (h j q0 (by omega)))
theorem first_at {N : Int} {F : Int → Int} (h : WF N F) : (r_firstA F).1 = r_first F := by
  have hinv := fo_invI (P := fun j (x : Int × Int) => (x.1 = -1 ∧ x.2 = -1 ∧ ∀ o, 0 ≤ o → o < j → ¬ P_marked F o) ∨ (0 ≤ x.1 ∧ x.1 < j ∧ P_marked F x.1 ∧ x.2 = r_hund F x.1 ∧ ∀ o, 0 ≤ o → o < j → P_marked F o → r_hund F o ≤ r_hund F x.1 ∧ (o < x.1 → r_hund F o < r_hund F x.1))) (n := 6) (i := 0) (a := ((-1 : Int), (-1 : Int))) (f := s_first F) (Or.inl ⟨rfl, rfl, fun o q0 q1 => by omega⟩) (fun j x h0 h1 hx => by
    have hh := hund_rg h (b := j) h0 (by omega)
    unfold s_first
    by_cases hc : P_marked F j ∧ x.2 < r_hund F j
    · rw [if_pos hc]
      refine Or.inr ⟨h0, by show j < j + 1; omega, hc.1, rfl, fun o q0 q1 q2 => ?_⟩
      show r_hund F o ≤ r_hund F j ∧ (o < j → r_hund F o < r_hund F j)
      by_cases ho : o = j
      · subst ho; exact ⟨Int.le_refl _, fun q => by omega⟩
      · rcases hx with hx | hx
        · exact absurd q2 (hx.2.2 o q0 (by omega))
        · have h5 := hx.2.2.2.2 o q0 (by omega) q2
          have h6 := hx.2.2.2.1
          exact ⟨by omega, fun _ => by omega⟩
    · rw [if_neg hc]
      rcases hx with hx | hx
      · refine Or.inl ⟨hx.1, hx.2.1, fun o q0 q1 => ?_⟩
        by_cases ho : o = j
        · subst ho; exact fun q => hc ⟨q, by omega⟩
        · exact hx.2.2 o q0 (by omega)
      · refine Or.inr ⟨hx.1, by omega, hx.2.2.1, hx.2.2.2.1, fun o q0 q1 q2 => ?_⟩
        by_cases ho : o = j
        · subst ho
          have h6 := hx.2.2.2.1
          have h7 : ¬ x.2 < r_hund F o := fun q => hc ⟨q2, q⟩
          exact ⟨by omega, fun q => by omega⟩
        · exact hx.2.2.2.2 o q0 (by omega) q2)
  have hinv : ((r_firstA F).1 = -1 ∧ (r_firstA F).2 = -1 ∧ ∀ o, 0 ≤ o → o < 6 → ¬ P_marked F o) ∨ (0 ≤ (r_firstA F).1 ∧ (r_firstA F).1 < 6 ∧ P_marked F (r_firstA F).1 ∧ (r_firstA F).2 = r_hund F (r_firstA F).1 ∧ ∀ o, 0 ≤ o → o < 6 → P_marked F o → r_hund F o ≤ r_hund F (r_firstA F).1 ∧ (o < (r_firstA F).1 → r_hund F o < r_hund F (r_firstA F).1)) := hinv
  generalize (r_firstA F).1 = b at hinv ⊢
  unfold r_first
  rcases hinv with hx | ⟨h0, h1, h2, -, h4⟩
  · have e : r_markedAt F 0 = -5 := fi_none (fun j q0 q1 => by
      simp only [p_at, decide_eq_true_eq]
      exact fun q => hx.2.2 j q0 (by omega) q.1)
    rw [e, if_pos rfl]; exact hx.1
  · have e : r_markedAt F 0 = b := by
      refine fi_is h0 (by omega) ?_ (fun j q0 q1 => ?_)
      · simp only [p_at, decide_eq_true_eq]
        refine ⟨h2, ahead_0.mpr (fun o q0 q1 q => ?_)⟩
        have h5 := h4 o q0 q1 q.1
        have h6 := h5.2
        rcases q.2 with q2 | q2
        · omega
        · have := h6 q2.2; omega
      · simp only [p_at, decide_eq_true_eq]
        intro q
        have h5 := (h4 j q0 (by omega) q.1).2 q1
        exact ahead_0.mp q.2 b h0 h1 ⟨h2, Or.inl h5⟩
    rw [e, if_neg (by omega)]
def s_left2 (F : Int → Int) (r k n : Int) : Int := if 0 ≤ F (3 * k + 65) then (if (r_bears F (r / 8) - F (3 * k + 66)) / r_weaker F k r < n then (r_bears F (r / 8) - F (3 * k + 66)) / r_weaker F k r else n) else n
def r_left2 (F : Int → Int) (r : Int) : Int := fo 8 (8 * (r / 8)) (r_bears F (r / 8)) (s_left2 F r)
theorem left2_eq {N : Int} {F : Int → Int} (h : WF N F) {r : Int} (hr : 0 ≤ r ∧ r < 48) (hp : 0 ≤ F (3 * r + 65)) : r_left2 F r = r_left F r := by
  have h1 := bears_rg h (b := r / 8) (by omega) (by omega)
  have e1 : r_left2 F r = fo 8 (8 * (r / 8)) (r_bears F (r / 8)) (s_left F r) := fo_congr (fun k n _ _ => by
    unfold s_left2 s_left
    by_cases c1 : 0 ≤ F (3 * k + 65)
    · rw [if_pos c1]
      by_cases c2 : (r_bears F (r / 8) - F (3 * k + 66)) / r_weaker F k r < n
      · rw [if_pos c2, if_pos ⟨c1, c2⟩]
      · rw [if_neg c2, if_neg (fun q => c2 q.2)]
    · rw [if_neg c1, if_neg (fun q => c1 q.1)])
  have hw1 : r_weaker F r r = 1 := by unfold r_weaker r_far; omega
  have hpr := h.pl hr.1 hr.2
  have hq : (r_bears F (r / 8) - F (3 * r + 66)) / r_weaker F r r ≤ r_bears F (r / 8) := by rw [hw1, Int.ediv_one]; omega
  have e2 : r_left F r = fo 8 (8 * (r / 8)) 99999 (s_left F r) := by
    unfold r_left
    rw [if_neg]
    intro q
    rcases left_lt.mp q with q | ⟨k, q0, q1, q2, q3⟩
    · omega
    · have hp := h.pl (k := k) (by omega) (by omega)
      have hw := weaker_rg F k r
      rw [show k / 8 = r / 8 from by omega] at hp
      have := Int.ediv_nonneg (a := r_bears F (r / 8) - F (3 * k + 66)) (b := r_weaker F k r) (by omega) (by omega)
      omega
  rw [e1, e2]
  have key : ∀ c, fo 8 (8 * (r / 8)) (r_bears F (r / 8)) (s_left F r) < c ↔ fo 8 (8 * (r / 8)) 99999 (s_left F r) < c := by
    intro c
    rw [left_lt, left_lt]
    constructor
    · rintro (q | q)
      · exact Or.inr ⟨r, by omega, by omega, hp, by omega⟩
      · exact Or.inr q
    · rintro (q | q)
      · exact Or.inl (by omega)
      · exact Or.inr q
  have k1 := (key (fo 8 (8 * (r / 8)) (r_bears F (r / 8)) (s_left F r) + 1)).mp (by omega)
  have k2 := (key (fo 8 (8 * (r / 8)) 99999 (s_left F r) + 1)).mpr (by omega)
  omega
def p_no (F : Int → Int) (r k : Int) : Bool := decide (0 ≤ F (3 * k + 65) ∧ r_bears F (r / 8) < F (3 * k + 66) + r_weaker F k r)
def r_no (F : Int → Int) (r : Int) : Bool := an 8 (8 * (r / 8)) (p_no F r)
theorem no_iff {N : Int} {F : Int → Int} (h : WF N F) {r : Int} (hr : 0 ≤ r ∧ r < 48) : r_no F r = true ↔ r_left F r = 0 := by
  rw [left_0]
  unfold r_no
  rw [an_iff]
  constructor
  · rintro ⟨k, h1, h2, h3⟩
    simp only [p_no, decide_eq_true_eq] at h3
    exact ⟨k, h1, by omega, h3⟩
  · rintro ⟨k, h1, h2, h3⟩
    exact ⟨k, h1, by omega, by simp only [p_no, decide_eq_true_eq]; exact h3⟩
def r_target (F : Int → Int) : Int := if ¬ P_full F then F 6 else if r_best F = -5 then -1 else r_best F
def r_lowA (F : Int → Int) (b : Int) : Int := if r_low F b = -5 then -1 else r_low F b
def r_bufA (F : Int → Int) (p : Int) : Int := if r_buf F p = -5 then -1 else r_buf F p
theorem first_rg (F : Int → Int) : (r_markedAt F 0 = -5 ∧ r_first F = -1) ∨ (0 ≤ r_markedAt F 0 ∧ r_markedAt F 0 < 6 ∧ r_first F = r_markedAt F 0) := by
  have := at_rg F 0
  unfold r_first
  omega
theorem target_rg {N : Int} {F : Int → Int} (h : WF N F) : (P_full F ∧ r_best F = -5 ∧ r_target F = -1) ∨ (¬ (P_full F ∧ r_best F = -5) ∧ 0 ≤ r_target F ∧ r_target F ≤ 5) := by
  have h1 := h.op
  have h2 := best_rg F
  unfold r_target
  by_cases hf : P_full F
  · rw [if_neg (fun q => q hf)]
    by_cases hb : r_best F = -5
    · rw [if_pos hb]; exact Or.inl ⟨hf, hb, rfl⟩
    · rw [if_neg hb]; exact Or.inr ⟨fun q => hb q.2, by omega, by omega⟩
  · rw [if_pos hf]
    refine Or.inr ⟨fun q => hf q.1, ?_⟩
    have h3 : F 6 ≠ -5 := fun q => hf (Or.inl q)
    omega
theorem lowA_rg (F : Int → Int) (b : Int) : (r_low F b = -5 ∧ r_lowA F b = -1) ∨ (8 * b ≤ r_low F b ∧ r_low F b < 8 * b + 8 ∧ 0 ≤ F (3 * r_low F b + 65) ∧ r_lowA F b = r_low F b) ∧ r_low F b ≠ -5 := by
  have := low_rg F b
  unfold r_lowA
  by_cases h : r_low F b = -5
  · rw [if_pos h]; exact Or.inl ⟨h, rfl⟩
  · rw [if_neg h]; refine Or.inr ⟨?_, h⟩; omega
theorem bufA_rg (F : Int → Int) (p : Int) : (r_buf F p = -5 ∧ r_bufA F p = -1) ∨ (0 ≤ r_buf F p ∧ r_buf F p < F 11 ∧ r_bufA F p = r_buf F p) := by
  have := buf_rg F p
  unfold r_bufA
  omega
theorem an_f {n : Nat} {i : Int} {p : Int → Bool} {X : Bool} (h : an (n + 1) i p = X) (e : ¬ p i = true) : an n (i + 1) p = X := by
  rw [← h]
  show _ = (p i || an n (i + 1) p)
  cases hp : p i with
  | true => exact absurd hp e
  | false => rfl
theorem an_t {n : Nat} {i : Int} {p : Int → Bool} {X : Bool} (h : an (n + 1) i p = X) (e : p i = true) : X = true := by
  rw [← h]
  show (p i || an n (i + 1) p) = true
  rw [e]; rfl
