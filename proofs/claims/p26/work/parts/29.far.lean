/-! what stays as it is -/
theorem fo_keep {n : Nat} : ∀ {i j : Int} {G : Int → Int} {f : Int → (Int → Int) → (Int → Int)}, (∀ k G, i ≤ k → k < i + n → f k G j = G j) → fo n i G f j = G j := by
  induction n with
  | zero => intro i j G f _; rfl
  | succ n ih =>
    intro i j G f h
    show fo n (i + 1) (f i G) f j = _
    rw [ih (fun k G h1 h2 => h k G (by omega) (by omega))]
    exact h i G (by omega) (by omega)
theorem leaves_far {N : Int} {F : Int → Int} (h : WF N F) (v j : Int) (hj : j < 11 ∨ 16 ≤ j) : r_leaves F v j = F j := by
  have he := h.he
  have hs := h.se
  have hb := buf_rg F v
  unfold r_leaves
  by_cases hq : r_buf F v = -5
  · rw [if_pos hq]
  · rw [if_neg hq, fo_keep (fun k G h1 h2 => by unfold s_leave; exact up_ne (by omega)), up_ne (by omega)]
theorem back_far {n : Nat} : ∀ {G : Int → Int} {j : Int}, (j ≤ 12 ∨ (n : Int) + 12 < j) → r_back n G j = G j := by
  induction n with
  | zero => intro G j _; rfl
  | succ n ih =>
    intro G j h
    show r_back n (up G ((n : Int) + 1 + 12) _) j = _
    rw [ih (by omega), up_ne (by omega)]
theorem fronts_far {N : Int} {F : Int → Int} (h : WF N F) (v j : Int) (hj : j < 11 ∨ 16 ≤ j) : r_fronts F v j = F j := by
  have hl := wf_leaves h v
  have he := hl.he
  have hs := hl.se
  unfold r_fronts
  by_cases hq : r_leaves F v 4 = 0
  · rw [if_pos hq]; exact leaves_far h v j hj
  · rw [if_neg hq]
    unfold r_front1
    rw [up_ne (by omega), up_ne (by omega), back_far (by rw [up_eq rfl]; omega), up_ne (by omega)]
    exact leaves_far h v j hj
/-- rows of eight, shifted from place k on -/
def sh8 (f : Int → Int) (k : Int) : Int → Int := fun i => if k < i then f (i - 1) else f i
def nt (f : Int → Int) (v : Int) : Int → Int := up (sh8 f 0) 0 v
theorem sh8_7 {f : Int → Int} {i : Int} (h : i < ((8 : Nat) : Int)) : f i = sh8 f 7 i := (if_neg (by omega)).symm
theorem sh8_s {f : Int → Int} {k : Int} : up (sh8 f k) k (sh8 f k (k - 1)) = sh8 f (k - 1) := by
  funext i
  by_cases hi : i = k
  · rw [up_eq hi, hi]; unfold sh8; rw [if_neg (by omega), if_pos (by omega)]
  · rw [up_ne hi]; unfold sh8
    by_cases h2 : k < i
    · rw [if_pos h2, if_pos (by omega)]
    · rw [if_neg h2, if_neg (by omega)]
theorem nt_0 {f : Int → Int} {v : Int} : nt f v 0 = v := up_eq rfl
theorem nt_s {f : Int → Int} {v i : Int} (h : 0 < i) : nt f v i = f (i - 1) := by unfold nt sh8; rw [up_ne (by omega), if_pos h]
