/-! folds, finds and counts: what they depend on -/
theorem fo_congr {α : Type} {n : Nat} : ∀ {i : Int} {a : α} {f g : Int → α → α}, (∀ j x, i ≤ j → j < i + n → f j x = g j x) → fo n i a f = fo n i a g := by
  induction n with
  | zero => intro i a f g _; rfl
  | succ n ih =>
    intro i a f g h
    show fo n (i + 1) (f i a) f = fo n (i + 1) (g i a) g
    rw [h i a (by omega) (by omega)]
    exact ih (fun j x h1 h2 => h j x (by omega) (by omega))
theorem fo_congrI {α : Type} {P : α → Prop} {n : Nat} : ∀ {i : Int} {a : α} {f g : Int → α → α}, P a → (∀ j x, i ≤ j → j < i + n → P x → f j x = g j x ∧ P (g j x)) → fo n i a f = fo n i a g := by
  induction n with
  | zero => intro i a f g _ _; rfl
  | succ n ih =>
    intro i a f g h0 h
    show fo n (i + 1) (f i a) f = fo n (i + 1) (g i a) g
    have h1 := h i a (by omega) (by omega) h0
    rw [h1.1]
    exact ih h1.2 (fun j x h2 h3 => h j x (by omega) (by omega))
theorem fo_inv {α : Type} {P : α → Prop} {n : Nat} : ∀ {i : Int} {a : α} {f : Int → α → α}, P a → (∀ j x, i ≤ j → j < i + n → P x → P (f j x)) → P (fo n i a f) := by
  induction n with
  | zero => intro i a f h _; exact h
  | succ n ih =>
    intro i a f h0 h
    exact ih (h i a (by omega) (by omega) h0) (fun j x h2 h3 => h j x (by omega) (by omega))
theorem fi_congr {n : Nat} : ∀ {i d : Int} {p q : Int → Bool}, (∀ j, i ≤ j → j < i + n → p j = q j) → fi n i p d = fi n i q d := by
  induction n with
  | zero => intro i d p q _; rfl
  | succ n ih =>
    intro i d p q h
    show (if p i = true then i else fi n (i + 1) p d) = (if q i = true then i else fi n (i + 1) q d)
    rw [h i (by omega) (by omega), ih (fun j h1 h2 => h j (by omega) (by omega))]
theorem an_congr {n : Nat} : ∀ {i : Int} {p q : Int → Bool}, (∀ j, i ≤ j → j < i + n → p j = q j) → an n i p = an n i q := by
  induction n with
  | zero => intro i p q _; rfl
  | succ n ih =>
    intro i p q h
    show (p i || an n (i + 1) p) = (q i || an n (i + 1) q)
    rw [h i (by omega) (by omega), ih (fun j h1 h2 => h j (by omega) (by omega))]
theorem fi_is {n : Nat} : ∀ {i d r : Int} {p : Int → Bool}, i ≤ r → r < i + n → p r = true → (∀ j, i ≤ j → j < r → ¬ p j = true) → fi n i p d = r := by
  induction n with
  | zero => intro i d r p h0 h1; omega
  | succ n ih =>
    intro i d r p h0 h1 h2 h3
    show (if p i = true then i else fi n (i + 1) p d) = r
    by_cases h : i = r
    · rw [h, if_pos h2]
    · rw [if_neg (h3 i (by omega) (by omega))]
      exact ih (by omega) (by omega) h2 (fun j q0 q1 => h3 j (by omega) q1)
theorem fi_none {n : Nat} : ∀ {i d : Int} {p : Int → Bool}, (∀ j, i ≤ j → j < i + n → ¬ p j = true) → fi n i p d = d := by
  induction n with
  | zero => intro i d p _; rfl
  | succ n ih =>
    intro i d p h
    show (if p i = true then i else fi n (i + 1) p d) = d
    rw [if_neg (h i (by omega) (by omega))]
    exact ih (fun j q0 q1 => h j (by omega) (by omega))
/-- nothing found, the sign of which lies ahead of the places -/
theorem fi_no {n : Nat} : ∀ {i d : Int} {p : Int → Bool}, d < i → fi n i p d = d → ∀ j, i ≤ j → j < i + n → ¬ p j = true := by
  induction n with
  | zero => intro i d p _ _ j h0 h1; omega
  | succ n ih =>
    intro i d p hd h j h0 h1
    have h : (if p i = true then i else fi n (i + 1) p d) = d := h
    by_cases hp : p i = true
    · rw [if_pos hp] at h; omega
    · rw [if_neg hp] at h
      by_cases hj : j = i
      · rw [hj]; exact hp
      · exact ih (by omega) h j (by omega) (by omega)
theorem fi_first {n : Nat} : ∀ {i d : Int} {p : Int → Bool}, fi n i p d ≠ d → i ≤ fi n i p d ∧ fi n i p d < i + n ∧ p (fi n i p d) = true ∧ ∀ j, i ≤ j → j < fi n i p d → ¬ p j = true := by
  induction n with
  | zero => intro i d p h; exact absurd rfl h
  | succ n ih =>
    intro i d p h
    by_cases hp : p i = true
    · have e : fi (n + 1) i p d = i := if_pos hp
      rw [e]
      exact ⟨Int.le_refl _, by omega, hp, fun j q0 q1 => by omega⟩
    · have e : fi (n + 1) i p d = fi n (i + 1) p d := if_neg hp
      rw [e] at h ⊢
      have h1 := ih h
      refine ⟨by omega, by omega, h1.2.2.1, fun j q0 q1 => ?_⟩
      by_cases hj : j = i
      · rw [hj]; exact hp
      · exact h1.2.2.2 j (by omega) q1
/-! sums -/
def sm (n : Nat) (i : Int) (w : Int → Int) : Int := fo n i 0 (fun j x => x + w j)
theorem sm_acc {n : Nat} : ∀ {i a : Int} {w : Int → Int}, fo n i a (fun j x => x + w j) = a + sm n i w := by
  induction n with
  | zero => intro i a w; show a = a + 0; omega
  | succ n ih =>
    intro i a w
    show fo n (i + 1) (a + w i) (fun j x => x + w j) = a + fo n (i + 1) (0 + w i) (fun j x => x + w j)
    rw [ih, ih]; omega
theorem sm_s {n : Nat} {i : Int} {w : Int → Int} : sm (n + 1) i w = w i + sm n (i + 1) w := by
  show fo n (i + 1) (0 + w i) (fun j x => x + w j) = _
  rw [sm_acc]; omega
theorem sm_congr {n : Nat} {i : Int} {w v : Int → Int} (h : ∀ j, i ≤ j → j < i + n → w j = v j) : sm n i w = sm n i v := fo_congr (fun j x h1 h2 => by rw [h j h1 h2])
/-- one place differs -/
theorem sm_one {n : Nat} : ∀ {i : Int} (r : Int) {w v : Int → Int}, i ≤ r → r < i + n → (∀ j, i ≤ j → j < i + n → j ≠ r → w j = v j) → sm n i w = sm n i v + (w r - v r) := by
  induction n with
  | zero => intro i r w v h0 h1; omega
  | succ n ih =>
    intro i r w v h0 h1 h
    rw [sm_s, sm_s]
    by_cases hr : i = r
    · rw [sm_congr (w := w) (v := v) (i := i + 1) (fun j q0 q1 => h j (by omega) (by omega) (by omega)), hr]; omega
    · rw [ih r (by omega) (by omega) (fun j q0 q1 q2 => h j (by omega) (by omega) q2), h i (by omega) (by omega) hr]; omega
theorem sm_le {n : Nat} : ∀ {i : Int} {w : Int → Int} {c : Int}, (∀ j, i ≤ j → j < i + n → 0 ≤ w j ∧ w j ≤ c) → 0 ≤ sm n i w ∧ sm n i w ≤ n * c := by
  induction n with
  | zero => intro i w c _; exact ⟨Int.le_refl _, by show (0 : Int) ≤ ((0 : Nat) : Int) * c; rw [show ((0 : Nat) : Int) = 0 from rfl, Int.zero_mul]; omega⟩
  | succ n ih =>
    intro i w c h
    have h1 := ih (i := i + 1) (w := w) (c := c) (fun j q0 q1 => h j (by omega) (by omega))
    have h2 := h i (by omega) (by omega)
    rw [sm_s]
    refine ⟨by omega, ?_⟩
    rw [show ((n + 1 : Nat) : Int) * c = (n : Int) * c + c from by rw [show ((n + 1 : Nat) : Int) = (n : Int) + 1 from rfl, Int.add_mul, Int.one_mul]]
    omega
theorem sm_mono {n : Nat} : ∀ {i : Int} {w v : Int → Int}, (∀ j, i ≤ j → j < i + n → w j ≤ v j) → sm n i w ≤ sm n i v := by
  induction n with
  | zero => intro i w v _; exact Int.le_refl _
  | succ n ih =>
    intro i w v h
    rw [sm_s, sm_s]
    have := ih (i := i + 1) (w := w) (v := v) (fun j q0 q1 => h j (by omega) (by omega))
    have := h i (by omega) (by omega)
    omega
theorem sm_zero {n : Nat} : ∀ {i : Int} {w : Int → Int}, (∀ j, i ≤ j → j < i + n → 0 ≤ w j) → sm n i w = 0 → ∀ j, i ≤ j → j < i + n → w j = 0 := by
  induction n with
  | zero => intro i w _ _ j h0 h1; omega
  | succ n ih =>
    intro i w h e j h0 h1
    rw [sm_s] at e
    have h2 := h i (by omega) (by omega)
    have h3 : 0 ≤ sm n (i + 1) w := by
      have := sm_mono (n := n) (i := i + 1) (w := fun _ => 0) (v := w) (fun j q0 q1 => h j (by omega) (by omega))
      have e0 : sm n (i + 1) (fun _ => 0) = 0 := by
        have key : ∀ (m : Nat) (i : Int), sm m i (fun _ => 0) = 0 := by
          intro m
          induction m with
          | zero => intro i; rfl
          | succ m ihm => intro i; rw [sm_s, ihm]; omega
        exact key n _
      omega
    by_cases hj : j = i
    · rw [hj]; omega
    · exact ih (i := i + 1) (w := w) (fun j q0 q1 => h j (by omega) (by omega)) (by omega) j (by omega) (by omega)
theorem sm_all0 {n : Nat} : ∀ {i : Int} {w : Int → Int}, (∀ j, i ≤ j → j < i + n → w j = 0) → sm n i w = 0 := by
  induction n with
  | zero => intro i w _; rfl
  | succ n ih =>
    intro i w h
    rw [sm_s, h i (by omega) (by omega), ih (fun j q0 q1 => h j (by omega) (by omega))]; omega
/-- zeroes, then ones -/
theorem sm_step {n : Nat} : ∀ {i r : Int} {w : Int → Int}, i ≤ r → r ≤ i + n → (∀ j, i ≤ j → j < r → w j = 0) → (∀ j, r ≤ j → j < i + n → w j = 1) → sm n i w = i + n - r := by
  induction n with
  | zero => intro i r w h0 h1 _ _; show (0 : Int) = _; omega
  | succ n ih =>
    intro i r w h0 h1 h2 h3
    rw [sm_s]
    by_cases hr : i = r
    · rw [h3 i (by omega) (by omega), ih (i := i + 1) (r := i + 1) (by omega) (by omega) (fun j q0 q1 => by omega) (fun j q0 q1 => h3 j (by omega) (by omega))]; omega
    · rw [h2 i (by omega) (by omega), ih (i := i + 1) (r := r) (by omega) (by omega) (fun j q0 q1 => h2 j (by omega) q1) (fun j q0 q1 => h3 j q0 (by omega))]; omega
/-! the places of a block, counted -/
def wc (F : Int → Int) (t k : Int) : Int := if t = 0 then (if 0 ≤ F (3 * k + 65) then 1 else 0) else if F (3 * k + 65) = t then 1 else 0
theorem cnt_sm (F : Int → Int) (b t : Int) : r_cnt F b t = sm 8 (8 * b) (wc F t) := rfl
theorem cnt_congr {F G : Int → Int} {b t : Int} (h : ∀ k, 8 * b ≤ k → k < 8 * b + 8 → G (3 * k + 65) = F (3 * k + 65)) : r_cnt G b t = r_cnt F b t :=
  fo_congr (fun j x h1 h2 => by unfold s_cnt; rw [h j h1 (by omega)])
theorem place_congr {F G : Int → Int} {p : Int} (h : ∀ k, 0 ≤ k → k < 48 → G (3 * k + 65) = F (3 * k + 65)) : r_placeOf G p = r_placeOf F p :=
  fi_congr (fun j h1 h2 => by unfold p_hold; rw [h j h1 (by omega)])
theorem low_congr {F G : Int → Int} {b : Int} (h : ∀ k, 8 * b ≤ k → k < 8 * b + 8 → G (3 * k + 65) = F (3 * k + 65)) : r_low G b = r_low F b :=
  fi_congr (fun j h1 h2 => by unfold p_page; rw [h j h1 (by omega)])
theorem wc_e (F : Int → Int) (k : Int) : wc F (-1) k = if F (3 * k + 65) = -1 then 1 else 0 := rfl
theorem wc_p (F : Int → Int) (k : Int) : wc F 0 k = if 0 ≤ F (3 * k + 65) then 1 else 0 := rfl
theorem wc_rg (F : Int → Int) (t k : Int) : 0 ≤ wc F t k ∧ wc F t k ≤ 1 := by unfold wc; split <;> (split <;> omega)
theorem cnt_p0 {F : Int → Int} {b : Int} : r_cnt F b 0 = 0 ↔ ∀ k, 8 * b ≤ k → k < 8 * b + 8 → F (3 * k + 65) < 0 := by
  rw [cnt_sm]
  constructor
  · intro h k h0 h1
    have := sm_zero (fun j _ _ => (wc_rg F 0 j).1) h k h0 (by omega)
    rw [wc_p] at this
    omega
  · intro h
    refine sm_all0 (fun j h0 h1 => ?_)
    rw [wc_p, if_neg (by have := h j h0 (by omega); omega)]
theorem cnt_e0 {F : Int → Int} {b : Int} : r_cnt F b (-1) = 0 ↔ ∀ k, 8 * b ≤ k → k < 8 * b + 8 → F (3 * k + 65) ≠ -1 := by
  rw [cnt_sm]
  constructor
  · intro h k h0 h1
    have := sm_zero (fun j _ _ => (wc_rg F (-1) j).1) h k h0 (by omega)
    rw [wc_e] at this
    omega
  · intro h
    refine sm_all0 (fun j h0 h1 => ?_)
    rw [wc_e, if_neg (h j h0 (by omega))]
theorem cnt_e8 {F : Int → Int} {b : Int} : r_cnt F b (-1) = 8 ↔ ∀ k, 8 * b ≤ k → k < 8 * b + 8 → F (3 * k + 65) = -1 := by
  rw [cnt_sm]
  constructor
  · intro h k h0 h1
    by_cases hk : F (3 * k + 65) = -1
    · exact hk
    · exfalso
      have e := sm_one (n := 8) (i := 8 * b) k (w := wc F (-1)) (v := fun j => if j = k then 1 else wc F (-1) j) h0 (by omega) (fun j _ _ q => by show _ = if j = k then 1 else _; rw [if_neg q])
      have e2 : wc F (-1) k - (if k = k then 1 else wc F (-1) k) = -1 := by rw [if_pos rfl, wc_e, if_neg hk]; omega
      have e3 := sm_le (n := 8) (i := 8 * b) (w := fun j => if j = k then 1 else wc F (-1) j) (c := 1) (fun j _ _ => by have := wc_rg F (-1) j; show 0 ≤ (if j = k then 1 else wc F (-1) j) ∧ (if j = k then 1 else wc F (-1) j) ≤ 1; split <;> omega)
      have e4 : sm 8 (8 * b) (wc F (-1)) = sm 8 (8 * b) (fun j => if j = k then 1 else wc F (-1) j) + (wc F (-1) k - (if k = k then 1 else wc F (-1) k)) := e
      omega
  · intro h
    have := sm_step (n := 8) (i := 8 * b) (r := 8 * b) (w := wc F (-1)) (by omega) (by omega) (fun j q0 q1 => by omega) (fun j q0 q1 => by rw [wc_e, if_pos (h j q0 (by omega))])
    omega
/-- one place of the block is told otherwise -/
theorem cnt_one {F G : Int → Int} {b t : Int} (k : Int) (h0 : 8 * b ≤ k) (h1 : k < 8 * b + 8) (h : ∀ j, 8 * b ≤ j → j < 8 * b + 8 → j ≠ k → G (3 * j + 65) = F (3 * j + 65)) : r_cnt G b t = r_cnt F b t + (wc G t k - wc F t k) := by
  rw [cnt_sm, cnt_sm]
  exact sm_one k h0 (by omega) (fun j q0 q1 q2 => by unfold wc; rw [h j q0 (by omega) q2])
theorem low_none {F : Int → Int} {b : Int} (hb : 0 ≤ b) : r_low F b = -5 ↔ ∀ k, 8 * b ≤ k → k < 8 * b + 8 → F (3 * k + 65) < 0 := by
  unfold r_low
  constructor
  · intro h k h0 h1
    have := fi_no (by omega) h k h0 (by omega)
    simp only [p_page, decide_eq_true_eq] at this
    omega
  · intro h
    refine fi_none (fun j h0 h1 => ?_)
    simp only [p_page, decide_eq_true_eq]
    have := h j h0 (by omega)
    omega
theorem low_cnt0 {F : Int → Int} {b : Int} (hb : 0 ≤ b) : r_low F b = -5 ↔ r_cnt F b 0 = 0 := by rw [low_none hb, cnt_p0]
theorem place_none {F : Int → Int} {p : Int} : r_placeOf F p = -5 ↔ ∀ k, 0 ≤ k → k < 48 → F (3 * k + 65) ≠ p := by
  unfold r_placeOf
  constructor
  · intro h k h0 h1
    have := fi_no (by omega) h k h0 (by omega)
    simp only [p_hold, decide_eq_true_eq] at this
    exact this
  · intro h
    refine fi_none (fun j h0 h1 => ?_)
    simp only [p_hold, decide_eq_true_eq]
    exact h j h0 (by omega)
theorem pl_hold {F : Int → Int} {p : Int} (h : r_placeOf F p ≠ -5) : 0 ≤ r_placeOf F p ∧ r_placeOf F p < 48 ∧ F (3 * r_placeOf F p + 65) = p := by
  have h1 := fi_first (n := 48) (i := 0) (d := -5) (p := p_hold F p) h
  have h2 := h1.2.2.1
  simp only [p_hold, decide_eq_true_eq] at h2
  exact ⟨h1.1, by have := h1.2.1; unfold r_placeOf; omega, h2⟩
/-- the one place that holds it -/
theorem place_is {F : Int → Int} {p k : Int} (h0 : 0 ≤ k) (h1 : k < 48) (h : F (3 * k + 65) = p) (hu : ∀ j, 0 ≤ j → j < 48 → F (3 * j + 65) = p → j = k) : r_placeOf F p = k := by
  by_cases h2 : r_placeOf F p = -5
  · exact absurd h (place_none.mp h2 k h0 h1)
  · have h3 := pl_hold h2
    exact hu _ h3.1 h3.2.1 h3.2.2
theorem spot_first {F : Int → Int} (h : r_spot F ≠ -5) : 8 * F 6 ≤ r_spot F ∧ r_spot F < 8 * F 6 + 8 ∧ F (3 * r_spot F + 65) = -1 ∧ ∀ j, 8 * F 6 ≤ j → j < r_spot F → F (3 * j + 65) ≠ -1 := by
  have h1 := fi_first (n := 8) (i := 8 * F 6) (d := -5) (p := p_empty F) h
  have h2 := h1.2.2.1
  simp only [p_empty, decide_eq_true_eq] at h2
  refine ⟨h1.1, by have := h1.2.1; unfold r_spot; omega, h2, fun j q0 q1 => ?_⟩
  have := h1.2.2.2 j q0 q1
  simp only [p_empty, decide_eq_true_eq] at this
  exact this
theorem spot_no {F : Int → Int} (h0 : 0 ≤ F 6) : r_spot F = -5 ↔ r_cnt F (F 6) (-1) = 0 := by
  rw [cnt_e0]
  unfold r_spot
  constructor
  · intro h k q0 q1
    have := fi_no (by omega) h k q0 (by omega)
    simp only [p_empty, decide_eq_true_eq] at this
    exact this
  · intro h
    refine fi_none (fun j q0 q1 => ?_)
    simp only [p_empty, decide_eq_true_eq]
    exact h j q0 (by omega)
theorem bears_congr {F G : Int → Int} {b : Int} (h1 : G (4 * b + 41) = F (4 * b + 41)) (h2 : G (4 * b + 42) = F (4 * b + 42)) : r_bears G b = r_bears F b := by unfold r_bears; rw [h1, h2]
/-- the same open block, the same places, the same erasures -/
def Same (F G : Int → Int) : Prop := G 6 = F 6 ∧ (∀ k, 0 ≤ k → k < 48 → G (3 * k + 65) = F (3 * k + 65)) ∧ (∀ b, 0 ≤ b → b < 6 → G (4 * b + 42) = F (4 * b + 42))
theorem Same.free {F G : Int → Int} (h : Same F G) {b : Int} (h0 : 0 ≤ b) (h1 : b < 6) : P_free G b ↔ P_free F b := by
  show (G 6 ≠ b ∧ r_cnt G b (-1) = 8) ↔ (F 6 ≠ b ∧ r_cnt F b (-1) = 8)
  rw [h.1, cnt_congr (fun k q0 q1 => h.2.1 k (by omega) (by omega))]
theorem Same.full {F G : Int → Int} (h : Same F G) (ho : F 6 = -5 ∨ 0 ≤ F 6 ∧ F 6 ≤ 5) : P_full G ↔ P_full F := by
  show (G 6 = -5 ∨ r_cnt G (G 6) (-1) = 0) ↔ (F 6 = -5 ∨ r_cnt F (F 6) (-1) = 0)
  rw [h.1]
  rcases ho with ho | ho
  · exact ⟨fun _ => Or.inl ho, fun _ => Or.inl ho⟩
  · rw [cnt_congr (fun k q0 q1 => h.2.1 k (by omega) (by omega))]
theorem Same.best {F G : Int → Int} (h : Same F G) : r_best G = r_best F := by
  refine fo_congrI (P := fun x => x = -5 ∨ 0 ≤ x ∧ x < 6) (Or.inl rfl) (fun j x h0 h1 hx => ⟨?_, ?_⟩)
  · unfold s_best
    have e1 := h.free (b := j) (by omega) (by omega)
    rcases hx with hx | hx
    · by_cases hf : P_free F j
      · rw [if_pos ⟨e1.mpr hf, Or.inl hx⟩, if_pos ⟨hf, Or.inl hx⟩]
      · rw [if_neg (fun q => hf (e1.mp q.1)), if_neg (fun q => hf q.1)]
    · rw [h.2.2 j (by omega) (by omega), h.2.2 x hx.1 hx.2]
      by_cases hf : P_free F j ∧ (x = -5 ∨ F (4 * j + 42) < F (4 * x + 42))
      · rw [if_pos ⟨e1.mpr hf.1, hf.2⟩, if_pos hf]
      · rw [if_neg (fun q => hf ⟨e1.mp q.1, q.2⟩), if_neg hf]
  · unfold s_best
    show (if _ then j else x) = -5 ∨ 0 ≤ (if _ then j else x) ∧ (if _ then j else x) < 6
    split
    · exact Or.inr ⟨by omega, by omega⟩
    · exact hx
theorem Same.frees {F G : Int → Int} (h : Same F G) : r_frees G = r_frees F := by
  refine fo_congr (fun j x h0 h1 => ?_)
  unfold s_frees
  have e1 := h.free (b := j) (by omega) (by omega)
  by_cases hf : P_free F j
  · rw [if_pos hf, if_pos (e1.mpr hf)]
  · rw [if_neg hf, if_neg (fun q => hf (e1.mp q))]
theorem Same.spot {F G : Int → Int} (h : Same F G) (ho : 0 ≤ F 6 ∧ F 6 ≤ 5) : r_spot G = r_spot F := by
  unfold r_spot
  rw [h.1]
  exact fi_congr (fun j h1 h2 => by unfold p_empty; rw [h.2.1 j (by omega) (by omega)])
theorem Same.place {F G : Int → Int} (h : Same F G) (p : Int) : r_placeOf G p = r_placeOf F p := place_congr h.2.1
