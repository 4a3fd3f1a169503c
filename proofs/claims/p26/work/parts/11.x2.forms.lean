/-! what changes a state, told place by place -/
theorem fo_invI {α : Type} {P : Int → α → Prop} {n : Nat} : ∀ {i : Int} {a : α} {f : Int → α → α}, P i a → (∀ j x, i ≤ j → j < i + n → P j x → P (j + 1) (f j x)) → P (i + n) (fo n i a f) := by
  induction n with
  | zero => intro i a f h _; rw [show i + ((0 : Nat) : Int) = i from by omega]; exact h
  | succ n ih =>
    intro i a f h0 h
    have h1 := ih (i := i + 1) (a := f i a) (f := f) (h i a (by omega) (by omega) h0) (fun j x h2 h3 => h j x (by omega) (by omega))
    rw [show i + 1 + (n : Int) = i + ((n + 1 : Nat) : Int) from by omega] at h1
    exact h1
theorem leave_form {m : Nat} : ∀ {k : Int} {G : Int → Int} {i : Int}, fo m k G s_leave i = if k + 12 ≤ i ∧ i < k + 12 + m then G (i + 1) else G i := by
  induction m with
  | zero => intro k G i; show G i = _; rw [if_neg (by omega)]
  | succ m ih =>
    intro k G i
    show fo m (k + 1) (s_leave k G) s_leave i = _
    rw [ih]
    unfold s_leave up
    by_cases h : i = k + 12
    · rw [if_neg (by omega), if_pos h, if_pos (by omega)]
      congr 1
      omega
    · by_cases h2 : k + 12 ≤ i ∧ i < k + 12 + ((m + 1 : Nat) : Int)
      · rw [if_pos (by omega), if_neg (by omega), if_pos h2]
      · rw [if_neg (by omega), if_neg h, if_neg h2]
theorem leaves_form (F : Int → Int) (p i : Int) : r_leaves F p i = if r_buf F p = -5 then F i else if i = 11 then F 11 - 1 else if r_buf F p + 12 ≤ i ∧ i < F 11 + 11 then F (i + 1) else F i := by
  have h := buf_rg F p
  unfold r_leaves
  by_cases hb : r_buf F p = -5
  · rw [if_pos hb, if_pos hb]
  · rw [if_neg hb, if_neg hb, leave_form]
    by_cases h1 : i = 11
    · rw [if_pos h1, if_neg (by omega), up_eq h1]
    · rw [if_neg h1]
      by_cases h2 : r_buf F p + 12 ≤ i ∧ i < F 11 + 11
      · rw [if_pos h2, if_pos (by omega), up_ne (by omega)]
      · rw [if_neg h2, if_neg (by omega), up_ne h1]
theorem lvs_far {F : Int → Int} (h : F 11 ≤ 4) (p : Int) {i : Int} (hi : i < 11 ∨ 16 ≤ i) : r_leaves F p i = F i := by
  rw [leaves_form]
  split
  · rfl
  · have := buf_rg F p
    rw [if_neg (by omega), if_neg (by omega)]
theorem leaves_11 {F : Int → Int} (p : Int) : r_leaves F p 11 = if r_buf F p = -5 then F 11 else F 11 - 1 := by
  rw [leaves_form, if_pos rfl]
theorem leaves_in {P : Int → Prop} {F : Int → Int} (h : ∀ i, P (F i)) (p : Int) {i : Int} (hi : i ≠ 11) : P (r_leaves F p i) := by
  rw [leaves_form]
  split
  · exact h i
  · split
    · exact h _
    · exact h i
theorem same_leaves {F : Int → Int} (h : F 11 ≤ 4) (p : Int) : Same F (r_leaves F p) := ⟨lvs_far h p (by omega), fun k _ _ => lvs_far h p (by omega), fun b _ _ => lvs_far h p (by omega)⟩
theorem back_form {n : Nat} : ∀ {G : Int → Int} {i : Int}, r_back n G i = if 13 ≤ i ∧ i < 13 + n then G (i - 1) else G i := by
  induction n with
  | zero => intro G i; show G i = _; rw [if_neg (by omega)]
  | succ n ih =>
    intro G i
    show r_back n (up G ((n : Int) + 1 + 12) (G ((n : Int) + 1 + 11))) i = _
    rw [ih]
    unfold up
    by_cases h : i = (n : Int) + 1 + 12
    · rw [if_neg (by omega), if_pos h, if_pos (by omega)]
      congr 1
      omega
    · by_cases h2 : 13 ≤ i ∧ i < 13 + ((n + 1 : Nat) : Int)
      · rw [if_pos (by omega), if_neg (by omega), if_pos h2]
      · rw [if_neg (by omega), if_neg h, if_neg h2]
theorem front1_form {G : Int → Int} {p i : Int} : r_front1 G p i = if i = 11 then G 11 + 1 else if i = 12 then p else if 13 ≤ i ∧ i < 13 + ((G 11).toNat : Int) then G (i - 1) else G i := by
  unfold r_front1
  by_cases h1 : i = 11
  · rw [up_eq h1, if_pos h1, back_form, if_neg (by omega)]
  · rw [up_ne h1, if_neg h1]
    by_cases h2 : i = 12
    · rw [up_eq h2, if_pos h2]
    · rw [up_ne h2, if_neg h2, back_form]
/-- the buffer's size as it is ahead of the page that is put in front -/
def frn (F : Int → Int) (p : Int) : Int := if r_leaves F p 11 = F 4 then r_leaves F p 11 - 1 else r_leaves F p 11
theorem frn_rg {F : Int → Int} {p : Int} (h : 0 ≤ F 11 ∧ F 11 ≤ F 4) (h4 : 0 < F 4) : 0 ≤ frn F p ∧ frn F p < F 4 := by
  have := leaves_11 (F := F) p
  have := buf_rg F p
  unfold frn
  split <;> (split at * <;> omega)
theorem fronts_form {F : Int → Int} {p i : Int} (h : 0 ≤ F 11 ∧ F 11 ≤ F 4) (h4 : F 4 ≤ 4) : r_fronts F p i = if F 4 = 0 then r_leaves F p i else if i = 11 then frn F p + 1 else if i = 12 then p else if 13 ≤ i ∧ i < 13 + frn F p then r_leaves F p (i - 1) else r_leaves F p i := by
  have e4 : r_leaves F p 4 = F 4 := lvs_far (by omega) p (by omega)
  unfold r_fronts
  rw [e4]
  by_cases h0 : F 4 = 0
  · rw [if_pos h0, if_pos h0]
  · rw [if_neg h0, if_neg h0, front1_form, up_eq rfl]
    have hr := frn_rg (F := F) (p := p) h (by omega)
    have e : (if r_leaves F p 11 = F 4 then r_leaves F p 11 - 1 else r_leaves F p 11) = frn F p := rfl
    rw [e]
    by_cases h1 : i = 11
    · rw [if_pos h1, if_pos h1]
    · rw [if_neg h1, if_neg h1]
      by_cases h2 : i = 12
      · rw [if_pos h2, if_pos h2]
      · rw [if_neg h2, if_neg h2]
        by_cases h3 : 13 ≤ i ∧ i < 13 + frn F p
        · rw [if_pos h3, if_pos (by omega), up_ne (by omega)]
        · rw [if_neg h3, if_neg (by omega), up_ne (by omega)]
theorem frs_far {F : Int → Int} {p i : Int} (h : 0 ≤ F 11 ∧ F 11 ≤ F 4) (h4 : F 4 ≤ 4) (hi : i < 11 ∨ 16 ≤ i) : r_fronts F p i = F i := by
  have e := lvs_far (F := F) (by omega) p hi
  rw [fronts_form h h4]
  split
  · exact e
  · have := frn_rg (F := F) (p := p) h (by omega)
    rw [if_neg (by omega), if_neg (by omega), if_neg (by omega), e]
theorem fronts_11 {F : Int → Int} {p : Int} (h : 0 ≤ F 11 ∧ F 11 ≤ F 4) (h4 : F 4 ≤ 4) : 0 ≤ r_fronts F p 11 ∧ r_fronts F p 11 ≤ F 4 := by
  rw [fronts_form h h4]
  split
  · have := leaves_11 (F := F) p
    have := buf_rg F p
    split at * <;> omega
  · have := frn_rg (F := F) (p := p) h (by omega)
    rw [if_pos rfl]; omega
theorem fronts_in {P : Int → Prop} {F : Int → Int} (hP : ∀ i, P (F i)) {p i : Int} (hp : P p) (h : 0 ≤ F 11 ∧ F 11 ≤ F 4) (h4 : F 4 ≤ 4) (hi : i ≠ 11) : P (r_fronts F p i) := by
  rw [fronts_form h h4]
  split
  · exact leaves_in hP p hi
  · split
    · exact hp
    · split
      · exact leaves_in hP p (by omega)
      · exact leaves_in hP p hi
/-- the buffer alone is asked -/
theorem buf_congr {F G : Int → Int} (h4 : F 11 ≤ 4) (h : ∀ i, 11 ≤ i → i < 16 → G i = F i) (p : Int) : r_buf G p = r_buf F p := by
  unfold r_buf
  rw [h 11 (by omega) (by omega)]
  exact fi_congr (fun j q0 q1 => by unfold p_buf; rw [h _ (by omega) (by omega)])
theorem leaves_congr {F G : Int → Int} (h4 : F 11 ≤ 4) (h : ∀ i, 11 ≤ i → i < 16 → G i = F i) (p : Int) {i : Int} (h0 : 11 ≤ i) (h1 : i < 16) : r_leaves G p i = r_leaves F p i := by
  rw [leaves_form, leaves_form, buf_congr h4 h, h 11 (by omega) (by omega), h i h0 h1]
  split
  · rfl
  · split
    · rfl
    · split
      · exact h _ (by omega) (by omega)
      · rfl
theorem fronts_congr {F G : Int → Int} (hh : 0 ≤ F 11 ∧ F 11 ≤ F 4) (h4 : F 4 ≤ 4) (e4 : G 4 = F 4) (h : ∀ i, 11 ≤ i → i < 16 → G i = F i) (p : Int) {i : Int} (h0 : 11 ≤ i) (h1 : i < 16) : r_fronts G p i = r_fronts F p i := by
  have e11 := h 11 (by omega) (by omega)
  have l : ∀ i, 11 ≤ i → i < 16 → r_leaves G p i = r_leaves F p i := fun i q0 q1 => leaves_congr (by omega) h p q0 q1
  have ef : frn G p = frn F p := by unfold frn; rw [l 11 (by omega) (by omega), e4]
  rw [fronts_form hh h4, fronts_form (by rw [e4, e11]; exact hh) (by rw [e4]; exact h4), e4, ef, l i h0 h1]
  split
  · rfl
  · split
    · rfl
    · split
      · rfl
      · split
        · exact l _ (by omega) (by omega)
        · rfl
/-! reads -/
theorem weaker_congr {F G : Int → Int} {k r : Int} (h : G (4 * (k / 8) + 41) = F (4 * (k / 8) + 41)) : r_weaker G k r = r_weaker F k r := by unfold r_weaker; rw [h]
theorem readsA_form {n : Nat} {r : Int} : ∀ {i : Int} {G : Int → Int} {j : Int}, 0 ≤ i → i + n ≤ 48 → fo n i G (s_reads r) j = if 3 * i + 66 ≤ j ∧ j < 3 * (i + n) + 66 ∧ (j - 66) % 3 = 0 then G j + (if 0 ≤ G (j - 1) then r_weaker G ((j - 66) / 3) r else 0) else G j := by
  induction n with
  | zero => intro i G j _ _; show G j = _; rw [if_neg (by omega)]
  | succ n ih =>
    intro i G j h0 h1
    show fo n (i + 1) (s_reads r i G) (s_reads r) j = _
    rw [ih (by omega) (by omega)]
    by_cases h : j = 3 * i + 66
    · rw [if_neg (by omega), if_pos (by omega)]
      unfold s_reads
      rw [up_eq h, h, show 3 * i + 66 - 1 = 3 * i + 65 from by omega, show (3 * i + 66 - 66) / 3 = i from by omega]
    · by_cases h2 : 3 * i + 66 ≤ j ∧ j < 3 * (i + ((n + 1 : Nat) : Int)) + 66 ∧ (j - 66) % 3 = 0
      · rw [if_pos (by omega), if_pos h2]
        have e : r_weaker (s_reads r i G) ((j - 66) / 3) r = r_weaker G ((j - 66) / 3) r := weaker_congr (up_ne (by omega))
        rw [e]
        unfold s_reads
        rw [up_ne h, up_ne (by omega)]
      · rw [if_neg (by omega), if_neg h2]
        unfold s_reads
        rw [up_ne h]
theorem reads_far {F : Int → Int} {r i : Int} (hr : 0 ≤ r ∧ r < 48) (h : i ≠ 4 * (r / 8) + 44) (h2 : ¬ (66 ≤ i ∧ i < 210 ∧ i % 3 = 0)) : r_reads F r i = F i := by
  unfold r_reads r_readsA
  rw [up_ne h, readsA_form (by omega) (by omega), if_neg (by omega)]
theorem reads_44 {F : Int → Int} {r : Int} (hr : 0 ≤ r ∧ r < 48) : r_reads F r (4 * (r / 8) + 44) = F (4 * (r / 8) + 44) + 1 := by
  unfold r_reads r_readsA
  rw [up_eq rfl, readsA_form (by omega) (by omega), if_neg (by omega)]
theorem reads_h {F : Int → Int} {r k : Int} (hr : 0 ≤ r ∧ r < 48) (hk : 0 ≤ k) : r_reads F r (3 * k + 65) = F (3 * k + 65) := reads_far hr (by omega) (by omega)
theorem reads_w {F : Int → Int} {r k : Int} (hr : 0 ≤ r ∧ r < 48) (hk : 0 ≤ k) : r_reads F r (3 * k + 66) = F (3 * k + 66) + (if k / 8 = r / 8 ∧ 0 ≤ F (3 * k + 65) then r_weaker F k r else 0) := by
  unfold r_reads r_readsA
  rw [up_ne (by omega), readsA_form (by omega) (by omega), show 3 * k + 66 - 1 = 3 * k + 65 from by omega, show (3 * k + 66 - 66) / 3 = k from by omega]
  by_cases h : k / 8 = r / 8
  · rw [if_pos (by omega)]
    by_cases h2 : 0 ≤ F (3 * k + 65)
    · rw [if_pos h2, if_pos ⟨h, h2⟩]
    · rw [if_neg h2, if_neg (fun q => h2 q.2)]
  · rw [if_neg (by omega), if_neg (fun q => h q.1)]; omega
theorem same_reads {F : Int → Int} {r : Int} (hr : 0 ≤ r ∧ r < 48) : Same F (r_reads F r) := ⟨reads_far hr (by omega) (by omega), fun k h0 _ => reads_h hr h0, fun b _ _ => reads_far hr (by omega) (by omega)⟩
/-- the reads that are left, compared -/
theorem left_lt {F : Int → Int} {r c : Int} {n : Nat} : ∀ {i a : Int}, fo n i a (s_left F r) < c ↔ (a < c ∨ ∃ k, i ≤ k ∧ k < i + n ∧ 0 ≤ F (3 * k + 65) ∧ (r_bears F (r / 8) - F (3 * k + 66)) / r_weaker F k r < c) := by
  induction n with
  | zero => intro i a; exact ⟨fun h => Or.inl h, fun h => h.elim id (fun ⟨k, h1, h2, _⟩ => by omega)⟩
  | succ n ih =>
    intro i a
    show fo n (i + 1) (s_left F r i a) (s_left F r) < c ↔ _
    rw [ih]
    constructor
    · rintro (h | ⟨k, h1, h2, h3⟩)
      · unfold s_left at h
        by_cases hq : 0 ≤ F (3 * i + 65) ∧ (r_bears F (r / 8) - F (3 * i + 66)) / r_weaker F i r < a
        · rw [if_pos hq] at h
          exact Or.inr ⟨i, by omega, by omega, hq.1, h⟩
        · rw [if_neg hq] at h
          exact Or.inl h
      · exact Or.inr ⟨k, by omega, by omega, h3⟩
    · rintro (h | ⟨k, h1, h2, h3, h4⟩)
      · refine Or.inl ?_
        unfold s_left
        split <;> omega
      · by_cases hk : k = i
        · subst hk
          refine Or.inl ?_
          unfold s_left
          by_cases hq : 0 ≤ F (3 * k + 65) ∧ (r_bears F (r / 8) - F (3 * k + 66)) / r_weaker F k r < a
          · rw [if_pos hq]; exact h4
          · rw [if_neg hq]; omega
        · exact Or.inr ⟨k, by omega, by omega, h3, h4⟩
theorem left_0 {F : Int → Int} {r : Int} : r_left F r = 0 ↔ ∃ k, 8 * (r / 8) ≤ k ∧ k < 8 * (r / 8) + 8 ∧ 0 ≤ F (3 * k + 65) ∧ r_bears F (r / 8) < F (3 * k + 66) + r_weaker F k r := by
  have e : r_left F r = 0 ↔ fo 8 (8 * (r / 8)) 99999 (s_left F r) < 1 := by unfold r_left; split <;> omega
  rw [e, left_lt]
  constructor
  · rintro (h | ⟨k, h1, h2, h3, h4⟩)
    · omega
    · have hw := weaker_rg F k r
      refine ⟨k, h1, by omega, h3, ?_⟩
      by_cases h5 : r_bears F (r / 8) < F (3 * k + 66) + r_weaker F k r
      · exact h5
      · have := (Int.le_ediv_iff_mul_le (a := 1) (b := r_bears F (r / 8) - F (3 * k + 66)) (c := r_weaker F k r) (by omega)).mpr (by omega)
        omega
  · rintro ⟨k, h1, h2, h3, h4⟩
    have hw := weaker_rg F k r
    refine Or.inr ⟨k, h1, by omega, h3, ?_⟩
    exact Int.ediv_lt_of_lt_mul (by omega) (by omega)
/-! to give a place -/
theorem opens_form (F : Int → Int) (i : Int) : r_opens F i = if P_full F ∧ i = 6 then r_best F else F i := by
  unfold r_opens
  by_cases h : P_full F
  · rw [if_pos h]
    by_cases hi : i = 6
    · rw [up_eq hi, if_pos ⟨h, hi⟩]
    · rw [up_ne hi, if_neg (fun q => hi q.2)]
  · rw [if_neg h, if_neg (fun q => h q.1)]
theorem opens_far {F : Int → Int} {i : Int} (h : i ≠ 6) : r_opens F i = F i := by rw [opens_form, if_neg (fun q => h q.2)]
theorem stales_form (F : Int → Int) (p i : Int) : r_stales F p i = if r_placeOf F p ≠ -5 ∧ i = 3 * r_placeOf F p + 65 then -2 else F i := by
  unfold r_stales
  by_cases h : r_placeOf F p = -5
  · rw [if_pos h, if_neg (fun q => q.1 h)]
  · rw [if_neg h]
    by_cases hi : i = 3 * r_placeOf F p + 65
    · rw [up_eq hi, if_pos ⟨h, hi⟩]
    · rw [up_ne hi, if_neg (fun q => hi q.2)]
theorem stales_far {F : Int → Int} {p i : Int} (h : i < 65 ∨ 209 ≤ i ∨ (i - 65) % 3 ≠ 0) : r_stales F p i = F i := by
  rw [stales_form]
  by_cases h1 : r_placeOf F p = -5
  · rw [if_neg (fun q => q.1 h1)]
  · have := pl_hold h1
    rw [if_neg (fun q => by omega)]
theorem stales_h {F : Int → Int} {p k : Int} : r_stales F p (3 * k + 65) = if r_placeOf F p ≠ -5 ∧ k = r_placeOf F p then -2 else F (3 * k + 65) := by
  rw [stales_form]
  by_cases h : r_placeOf F p ≠ -5 ∧ k = r_placeOf F p
  · rw [if_pos h, if_pos ⟨h.1, by omega⟩]
  · rw [if_neg h, if_neg (fun q => h ⟨q.1, by omega⟩)]
theorem stales_e {F : Int → Int} {p : Int} (hp : 0 ≤ p) (k : Int) : r_stales F p (3 * k + 65) = -1 ↔ F (3 * k + 65) = -1 := by
  rw [stales_h]
  by_cases h : r_placeOf F p ≠ -5 ∧ k = r_placeOf F p
  · have := pl_hold h.1
    rw [if_pos h, h.2]; omega
  · rw [if_neg h]
theorem cnt_stales0 {F : Int → Int} {p : Int} (hp : 0 ≤ p) (b : Int) : r_cnt (r_stales F p) b (-1) = r_cnt F b (-1) := by
  rw [cnt_sm, cnt_sm]
  refine sm_congr (fun j _ _ => ?_)
  rw [wc_e, wc_e]
  have := stales_e (F := F) hp j
  by_cases h : F (3 * j + 65) = -1
  · rw [if_pos h, if_pos (this.mpr h)]
  · rw [if_neg h, if_neg (fun q => h (this.mp q))]
theorem place_opens (F : Int → Int) (p : Int) : r_placeOf (r_opens F) p = r_placeOf F p := place_congr (fun k _ _ => opens_far (by omega))
theorem cnt_opens (F : Int → Int) (b t : Int) (hb : 0 ≤ b) : r_cnt (r_opens F) b t = r_cnt F b t := cnt_congr (fun k _ _ => opens_far (by omega))
theorem opens_6 {F : Int → Int} : r_opens F 6 = if P_full F then r_best F else F 6 := by
  rw [opens_form]
  by_cases h : P_full F
  · rw [if_pos h, if_pos ⟨h, rfl⟩]
  · rw [if_neg h, if_neg (fun q => h q.1)]
/-- where a page is put -/
theorem givesK_rg {N : Int} {F : Int → Int} {v : Int} (hW : WF N F) (hv : 0 ≤ v) (hr : ¬ (P_full F ∧ r_best F = -5)) :
    0 ≤ r_opens F 6 ∧ r_opens F 6 ≤ 5 ∧ r_cnt F (r_opens F 6) (-1) ≠ 0 ∧ r_givesK F v ≠ -5 ∧ 8 * r_opens F 6 ≤ r_givesK F v ∧ r_givesK F v < 8 * r_opens F 6 + 8 ∧ F (3 * r_givesK F v + 65) = -1 ∧ ∀ j, 8 * r_opens F 6 ≤ j → j < r_givesK F v → F (3 * j + 65) ≠ -1 := by
  have ho := hW.op
  have hb := best_rg F
  have h6 : 0 ≤ r_opens F 6 ∧ r_opens F 6 ≤ 5 ∧ r_cnt F (r_opens F 6) (-1) ≠ 0 := by
    rw [opens_6]
    by_cases hp : P_full F
    · rw [if_pos hp]
      have h1 : r_best F ≠ -5 := fun q => hr ⟨hp, q⟩
      have h2 := hb.resolve_left h1
      refine ⟨by omega, by omega, ?_⟩
      rw [h2.2.2.2]; omega
    · rw [if_neg hp]
      have h1 : F 6 ≠ -5 := fun q => hp (Or.inl q)
      exact ⟨by omega, by omega, fun q => hp (Or.inr q)⟩
  have e6 : r_stales (r_opens F) v 6 = r_opens F 6 := stales_far (by omega)
  have hs : r_givesK F v ≠ -5 := by
    unfold r_givesK
    rw [Ne, spot_no (by omega), e6, cnt_stales0 hv, cnt_opens _ _ _ (by omega)]
    exact h6.2.2
  have hf := spot_first (F := r_stales (r_opens F) v) hs
  rw [e6] at hf
  have ee : ∀ j : Int, 0 ≤ j → (r_stales (r_opens F) v (3 * j + 65) = -1 ↔ F (3 * j + 65) = -1) := fun j hj => by rw [stales_e hv, opens_far (by omega)]
  exact ⟨h6.1, h6.2.1, h6.2.2, hs, hf.1, hf.2.1, (ee _ (by have := hf.1; show (0 : Int) ≤ r_spot _; omega)).mp hf.2.2.1, fun j q0 q1 q => hf.2.2.2 j q0 q1 ((ee j (by omega)).mpr q)⟩
theorem gives_form {N : Int} {F : Int → Int} {v : Int} (hW : WF N F) (hv : 0 ≤ v) (hr : ¬ (P_full F ∧ r_best F = -5)) (i : Int) :
    r_gives F v i = if i = 3 * r_givesK F v + 65 then v else if i = 3 * r_givesK F v + 66 then 0 else if i = 3 * r_givesK F v + 67 then F 0 else if r_placeOf F v ≠ -5 ∧ i = 3 * r_placeOf F v + 65 then -2 else if P_full F ∧ i = 6 then r_best F else F i := by
  have e0 : r_stales (r_opens F) v 0 = F 0 := by rw [stales_far (by omega), opens_far (by omega)]
  have ei : r_stales (r_opens F) v i = if r_placeOf F v ≠ -5 ∧ i = 3 * r_placeOf F v + 65 then -2 else if P_full F ∧ i = 6 then r_best F else F i := by
    rw [stales_form, place_opens, opens_form]
  have ek : r_spot (r_stales (r_opens F) v) = r_givesK F v := rfl
  unfold r_gives r_puts
  rw [e0, ek]
  by_cases h1 : i = 3 * r_givesK F v + 65
  · rw [if_pos h1, up_ne (by omega), up_ne (by omega), up_eq h1]
  · rw [if_neg h1]
    by_cases h2 : i = 3 * r_givesK F v + 66
    · rw [if_pos h2, up_ne (by omega), up_eq h2]
    · rw [if_neg h2]
      by_cases h3 : i = 3 * r_givesK F v + 67
      · rw [if_pos h3, up_eq h3]
      · rw [if_neg h3, up_ne h3, up_ne h2, up_ne h1, ei]
/-- what a place holds then -/
theorem gives_h {N : Int} {F : Int → Int} {v : Int} (hW : WF N F) (hv : 0 ≤ v) (hr : ¬ (P_full F ∧ r_best F = -5)) {k : Int} (hk : 0 ≤ k) :
    r_gives F v (3 * k + 65) = if k = r_givesK F v then v else if r_placeOf F v ≠ -5 ∧ k = r_placeOf F v then -2 else F (3 * k + 65) := by
  have hg := givesK_rg hW hv hr
  rw [gives_form hW hv hr]
  by_cases h1 : k = r_givesK F v
  · rw [if_pos (by omega), if_pos h1]
  · rw [if_neg (by omega), if_neg h1, if_neg (by omega), if_neg (by omega)]
    by_cases h2 : r_placeOf F v ≠ -5 ∧ k = r_placeOf F v
    · rw [if_pos h2, if_pos ⟨h2.1, by omega⟩]
    · rw [if_neg h2, if_neg (fun q => h2 ⟨q.1, by omega⟩), if_neg (by omega)]
theorem gives_w {N : Int} {F : Int → Int} {v : Int} (hW : WF N F) (hv : 0 ≤ v) (hr : ¬ (P_full F ∧ r_best F = -5)) {k : Int} (hk : 0 ≤ k) :
    r_gives F v (3 * k + 66) = if k = r_givesK F v then 0 else F (3 * k + 66) := by
  have hg := givesK_rg hW hv hr
  rw [gives_form hW hv hr]
  by_cases h1 : k = r_givesK F v
  · rw [if_neg (by omega), if_pos (by omega), if_pos h1]
  · rw [if_neg (by omega), if_neg h1, if_neg (by omega), if_neg (by omega), if_neg (fun q => by omega), if_neg (by omega)]
theorem gives_6 {N : Int} {F : Int → Int} {v : Int} (hW : WF N F) (hv : 0 ≤ v) (hr : ¬ (P_full F ∧ r_best F = -5)) : r_gives F v 6 = r_opens F 6 := by
  have hg := givesK_rg hW hv hr
  rw [gives_form hW hv hr, if_neg (by omega), if_neg (by omega), if_neg (by omega), opens_6]
  rw [if_neg (fun q => by have := pl_hold q.1; omega)]
  by_cases h : P_full F
  · rw [if_pos h, if_pos ⟨h, rfl⟩]
  · rw [if_neg h, if_neg (fun q => h q.1)]
theorem gives_far {N : Int} {F : Int → Int} {v : Int} (hW : WF N F) (hv : 0 ≤ v) (hr : ¬ (P_full F ∧ r_best F = -5)) {i : Int} (hi : i < 65 ∨ 209 ≤ i) (h6 : i ≠ 6) : r_gives F v i = F i := by
  have hg := givesK_rg hW hv hr
  rw [gives_form hW hv hr, if_neg (by omega), if_neg (by omega), if_neg (by omega)]
  rw [if_neg (fun q => by have := pl_hold q.1; omega), if_neg (by omega)]
/-! erasures -/
theorem er_form {n : Nat} : ∀ {i : Int} {x : Int × (Int → Int)} {j : Int}, (fo n i x s_er).2 j = if 3 * i + 65 ≤ j ∧ j < 3 * (i + n) + 65 ∧ (j - 65) % 3 = 0 then -1 else if 3 * i + 65 ≤ j ∧ j < 3 * (i + n) + 65 ∧ (j - 65) % 3 = 1 then 0 else x.2 j := by
  induction n with
  | zero => intro i x j; show x.2 j = _; rw [if_neg (by omega), if_neg (by omega)]
  | succ n ih =>
    intro i x j
    show (fo n (i + 1) (s_er i x) s_er).2 j = _
    rw [ih]
    have e : (s_er i x).2 j = if j = 3 * i + 66 then 0 else if j = 3 * i + 65 then -1 else x.2 j := rfl
    rw [e]
    by_cases h0 : 3 * i + 65 ≤ j ∧ j < 3 * (i + ((n + 1 : Nat) : Int)) + 65 ∧ (j - 65) % 3 = 0
    · rw [if_pos h0]
      by_cases h1 : j = 3 * i + 65
      · rw [if_neg (by omega), if_neg (by omega), if_neg (by omega), if_pos h1]
      · rw [if_pos (by omega)]
    · rw [if_neg h0, if_neg (by omega)]
      by_cases h2 : 3 * i + 65 ≤ j ∧ j < 3 * (i + ((n + 1 : Nat) : Int)) + 65 ∧ (j - 65) % 3 = 1
      · rw [if_pos h2]
        by_cases h1 : j = 3 * i + 66
        · rw [if_neg (by omega), if_pos h1]
        · rw [if_pos (by omega)]
      · rw [if_neg h2, if_neg (by omega), if_neg (by omega), if_neg (by omega)]
theorem erA_form {F : Int → Int} {b j : Int} : (r_erA F b).2 j = if 24 * b + 65 ≤ j ∧ j < 24 * b + 89 ∧ (j - 65) % 3 = 0 then -1 else if 24 * b + 65 ≤ j ∧ j < 24 * b + 89 ∧ (j - 65) % 3 = 1 then 0 else F j := by
  unfold r_erA
  rw [er_form]
  by_cases h0 : 24 * b + 65 ≤ j ∧ j < 24 * b + 89 ∧ (j - 65) % 3 = 0
  · rw [if_pos h0, if_pos (by omega)]
  · rw [if_neg h0, if_neg (by omega)]
    by_cases h1 : 24 * b + 65 ≤ j ∧ j < 24 * b + 89 ∧ (j - 65) % 3 = 1
    · rw [if_pos h1, if_pos (by omega)]
    · rw [if_neg h1, if_neg (by omega)]
theorem erA_max {F : Int → Int} {b : Int} {M : Int} (hM : 0 ≤ M) (h : ∀ k, 8 * b ≤ k → k < 8 * b + 8 → F (3 * k + 66) ≤ M) : 0 ≤ (r_erA F b).1 ∧ (r_erA F b).1 ≤ M := by
  have := fo_invI (P := fun j (x : Int × (Int → Int)) => (0 ≤ x.1 ∧ x.1 ≤ M) ∧ ∀ k, j ≤ k → x.2 (3 * k + 66) = F (3 * k + 66)) (n := 8) (i := 8 * b) (a := ((0 : Int), F)) (f := s_er) ⟨⟨Int.le_refl _, hM⟩, fun _ _ => rfl⟩ (fun j x h0 h1 hx => by
    refine ⟨?_, fun k hk => ?_⟩
    · have e := hx.2 j (Int.le_refl _)
      have e2 := h j h0 (by omega)
      show 0 ≤ (if x.1 < x.2 (3 * j + 66) then x.2 (3 * j + 66) else x.1) ∧ (if x.1 < x.2 (3 * j + 66) then x.2 (3 * j + 66) else x.1) ≤ M
      have := hx.1
      split <;> omega
    · show (if 3 * k + 66 = 3 * j + 66 then 0 else if 3 * k + 66 = 3 * j + 65 then -1 else x.2 (3 * k + 66)) = _
      rw [if_neg (by omega), if_neg (by omega)]
      exact hx.2 k (by omega))
  exact this.1
theorem logs_form {n : Nat} : ∀ {G : Int → Int} {i : Int}, r_logs n G i = if 20 ≤ i ∧ i < 20 + n then G (i - 3) else G i := by
  induction n with
  | zero => intro G i; show G i = _; rw [if_neg (by omega)]
  | succ n ih =>
    intro G i
    show r_logs n (up G ((n : Int) + 1 + 19) (G ((n : Int) + 1 + 19 - 3))) i = _
    rw [ih]
    unfold up
    by_cases h : i = (n : Int) + 1 + 19
    · rw [if_neg (by omega), if_pos h, if_pos (by omega)]
      congr 1
      omega
    · by_cases h2 : 20 ≤ i ∧ i < 20 + ((n + 1 : Nat) : Int)
      · rw [if_pos (by omega), if_neg (by omega), if_pos h2]
      · rw [if_neg (by omega), if_neg h, if_neg h2]
theorem shut_far {F : Int → Int} {b i : Int} (h : i ≠ 6) : r_shut F b i = F i := up_ne h
theorem shut_6 {F : Int → Int} {b : Int} : r_shut F b 6 = if F 6 = b then -5 else F 6 := up_eq rfl
theorem erB_far {F : Int → Int} {b i : Int} (h0 : i ≠ 10) (h1 : i ≠ 4 * b + 42) (h2 : i ≠ 4 * b + 43) : r_erB F b i = F i := by
  unfold r_erB
  rw [up_ne h0, up_ne h2, up_ne h1]
theorem erases_form {F : Int → Int} {b : Int} (i : Int) : r_erases F b i = if i = 16 then r_logs 21 (r_erB (r_erA (r_shut F b) b).2 b) 16 + (if r_logs 21 (r_erB (r_erA (r_shut F b) b).2 b) 16 < 8 then 1 else 0) else if i = 19 then (r_erA (r_shut F b) b).1 else if i = 18 then r_logs 21 (r_erB (r_erA (r_shut F b) b).2 b) 0 else if i = 17 then b else r_logs 21 (r_erB (r_erA (r_shut F b) b).2 b) i := by
  unfold r_erases r_erC
  generalize r_logs 21 (r_erB (r_erA (r_shut F b) b).2 b) = L
  generalize (r_erA (r_shut F b) b).1 = w
  rfl
section ER
variable {F : Int → Int} {b : Int}
theorem er_16 (hb : 0 ≤ b ∧ b < 6) : r_erases F b 16 = F 16 + (if F 16 < 8 then 1 else 0) := by
  have e : r_logs 21 (r_erB (r_erA (r_shut F b) b).2 b) 16 = F 16 := by
    rw [logs_form, if_neg (by omega), erB_far (by omega) (by omega) (by omega), erA_form, if_neg (by omega), if_neg (by omega), shut_far (by omega)]
  rw [erases_form, if_pos rfl, e]
theorem er_17 : r_erases F b 17 = b := by rw [erases_form, if_neg (by omega), if_neg (by omega), if_neg (by omega), if_pos rfl]
theorem er_18 (hb : 0 ≤ b ∧ b < 6) : r_erases F b 18 = F 0 := by
  rw [erases_form, if_neg (by omega), if_neg (by omega), if_pos rfl, logs_form, if_neg (by omega), erB_far (by omega) (by omega) (by omega), erA_form, if_neg (by omega), if_neg (by omega), shut_far (by omega)]
theorem er_19 : r_erases F b 19 = (r_erA (r_shut F b) b).1 := by rw [erases_form, if_neg (by omega), if_pos rfl]
theorem er_log (hb : 0 ≤ b ∧ b < 6) {i : Int} (h0 : 20 ≤ i) (h1 : i ≤ 40) : r_erases F b i = F (i - 3) := by
  rw [erases_form, if_neg (by omega), if_neg (by omega), if_neg (by omega), if_neg (by omega), logs_form, if_pos (by omega), erB_far (by omega) (by omega) (by omega), erA_form, if_neg (by omega), if_neg (by omega), shut_far (by omega)]
theorem er_rest {i : Int} (h : i < 16 ∨ 41 ≤ i) : r_erases F b i = r_erB (r_erA (r_shut F b) b).2 b i := by
  rw [erases_form, if_neg (by omega), if_neg (by omega), if_neg (by omega), if_neg (by omega), logs_form, if_neg (by omega)]
theorem er_10 (hb : 0 ≤ b ∧ b < 6) : r_erases F b 10 = F 10 + 1 := by
  rw [er_rest (by omega)]
  unfold r_erB
  rw [up_eq rfl, erA_form, if_neg (by omega), if_neg (by omega), shut_far (by omega)]
theorem er_42 (hb : 0 ≤ b ∧ b < 6) : r_erases F b (4 * b + 42) = F (4 * b + 42) + 1 := by
  rw [er_rest (by omega)]
  unfold r_erB
  rw [up_ne (by omega), up_ne (by omega), up_eq rfl, erA_form, if_neg (by omega), if_neg (by omega), shut_far (by omega)]
theorem er_43 (hb : 0 ≤ b ∧ b < 6) : r_erases F b (4 * b + 43) = 0 := by
  rw [er_rest (by omega)]
  unfold r_erB
  rw [up_ne (by omega), up_eq rfl]
theorem er_6 (hb : 0 ≤ b ∧ b < 6) : r_erases F b 6 = if F 6 = b then -5 else F 6 := by
  rw [er_rest (by omega), erB_far (by omega) (by omega) (by omega), erA_form, if_neg (by omega), if_neg (by omega), shut_6]
theorem er_far (hb : 0 ≤ b ∧ b < 6) {i : Int} (h : i < 16 ∨ 41 ≤ i) (h6 : i ≠ 6) (h10 : i ≠ 10) (h42 : i ≠ 4 * b + 42) (h43 : i ≠ 4 * b + 43) (hp : ¬ (24 * b + 65 ≤ i ∧ i < 24 * b + 89 ∧ (i - 65) % 3 ≠ 2)) : r_erases F b i = F i := by
  rw [er_rest h, erB_far h10 h42 h43, erA_form, if_neg (by omega), if_neg (by omega), shut_far h6]
theorem er_h (hb : 0 ≤ b ∧ b < 6) {k : Int} (h0 : 0 ≤ k) : r_erases F b (3 * k + 65) = if k / 8 = b then -1 else F (3 * k + 65) := by
  rw [er_rest (by omega), erB_far (by omega) (by omega) (by omega), erA_form]
  by_cases h : k / 8 = b
  · rw [if_pos h, if_pos (by omega)]
  · rw [if_neg h, if_neg (by omega), if_neg (by omega), shut_far (by omega)]
theorem er_w (hb : 0 ≤ b ∧ b < 6) {k : Int} (h0 : 0 ≤ k) : r_erases F b (3 * k + 66) = if k / 8 = b then 0 else F (3 * k + 66) := by
  rw [er_rest (by omega), erB_far (by omega) (by omega) (by omega), erA_form]
  by_cases h : k / 8 = b
  · rw [if_pos h, if_neg (by omega), if_pos (by omega)]
  · rw [if_neg h, if_neg (by omega), if_neg (by omega), shut_far (by omega)]
end ER
