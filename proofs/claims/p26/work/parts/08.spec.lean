/-! the state as whole numbers, laid as the check's rows are: F 0 the tick, 1..5 the settings, 6 the open block, 7 reads, 8 of them quick, 9 moved, 10 erasures, 11 held in the buffer, 12.. the buffer, 16 logged, 17.. the log, 41 + 4b the blocks, 65 + 3k the places, 209 + p reads of pages -/
def fo {α : Type} : Nat → Int → α → (Int → α → α) → α
  | 0, _, a, _ => a
  | n + 1, i, a, f => fo n (i + 1) (f i a) f
theorem fo_s {α : Type} {n : Nat} {i : Int} {a a' X : α} {f : Int → α → α} (h : fo (n + 1) i a f = X) (e : f i a = a') : fo n (i + 1) a' f = X := by rw [← h, ← e]; rfl
def fi : Nat → Int → (Int → Bool) → Int → Int
  | 0, _, _, d => d
  | n + 1, i, p, d => if p i = true then i else fi n (i + 1) p d
theorem fi_t {n : Nat} {i d X : Int} {p : Int → Bool} (h : fi (n + 1) i p d = X) (e : p i = true) : X = i := by rw [← h]; exact if_pos e
theorem fi_f {n : Nat} {i d X : Int} {p : Int → Bool} (h : fi (n + 1) i p d = X) (e : ¬ p i = true) : fi n (i + 1) p d = X := by rw [← h]; exact (if_neg e).symm
def an : Nat → Int → (Int → Bool) → Bool
  | 0, _, _ => false
  | n + 1, i, p => p i || an n (i + 1) p
def r_cut (v : Int) : Int := if v < 20 then 20 else v
def r_bears (F : Int → Int) (b : Int) : Int := r_cut (if F (4 * b + 41) = 0 then 400 - 4 * F (4 * b + 42) else if F (4 * b + 41) = 1 then 200 - 5 * F (4 * b + 42) else 100 - 10 * F (4 * b + 42))
/-- places of a block: 0 those with a page, else those that are t -/
def s_cnt (F : Int → Int) (t k n : Int) : Int := n + (if t = 0 then (if 0 ≤ F (3 * k + 65) then 1 else 0) else if F (3 * k + 65) = t then 1 else 0)
def r_cnt (F : Int → Int) (b t : Int) : Int := fo 8 (8 * b) 0 (s_cnt F t)
abbrev P_free (F : Int → Int) (b : Int) : Prop := F 6 ≠ b ∧ r_cnt F b (-1) = 8
def s_frees (F : Int → Int) (b n : Int) : Int := n + (if P_free F b then 1 else 0)
def r_frees (F : Int → Int) : Int := fo 6 0 0 (s_frees F)
def r_far (k r : Int) : Int := if k < r then r - k else k - r
def r_weaker (F : Int → Int) (k r : Int) : Int := if r_far k r = 0 then 1 else if F (4 * (k / 8) + 41) = 2 then (if r_far k r = 1 then 8 else if r_far k r = 2 then 4 else 2) else (if r_far k r = 1 then 4 else if r_far k r = 2 then 2 else 1)
def s_left (F : Int → Int) (r k n : Int) : Int := if 0 ≤ F (3 * k + 65) ∧ (r_bears F (r / 8) - F (3 * k + 66)) / r_weaker F k r < n then (r_bears F (r / 8) - F (3 * k + 66)) / r_weaker F k r else n
def r_left (F : Int → Int) (r : Int) : Int := if fo 8 (8 * (r / 8)) 99999 (s_left F r) < 0 then 0 else fo 8 (8 * (r / 8)) 99999 (s_left F r)
def s_great (F : Int → Int) (k n : Int) : Int := if 0 ≤ F (3 * k + 65) ∧ n < F (3 * k + 66) then F (3 * k + 66) else n
def r_great (F : Int → Int) (b : Int) : Int := fo 8 (8 * b) 0 (s_great F)
def r_hund (F : Int → Int) (b : Int) : Int := 100 * r_great F b / r_bears F b
def p_old (F : Int → Int) (k : Int) : Bool := decide (0 ≤ F (3 * k + 65) ∧ F 2 ≤ F 0 - F (3 * k + 67))
def r_old (F : Int → Int) (b : Int) : Bool := an 8 (8 * b) (p_old F)
abbrev P_marked (F : Int → Int) (b : Int) : Prop := F (4 * b + 43) = 1 ∨ (r_cnt F b 0 ≠ 0 ∧ (r_old F b = true ∨ F 1 * r_bears F b ≤ 100 * r_great F b))
def s_marks (F : Int → Int) (b n : Int) : Int := n + (if P_marked F b then 1 else 0)
def r_marks (F : Int → Int) : Int := fo 6 0 0 (s_marks F)
def s_ahead (F : Int → Int) (b o n : Int) : Int := n + (if P_marked F o ∧ (r_hund F b < r_hund F o ∨ r_hund F o = r_hund F b ∧ o < b) then 1 else 0)
def r_ahead (F : Int → Int) (b : Int) : Int := fo 6 0 0 (s_ahead F b)
def p_at (F : Int → Int) (r b : Int) : Bool := decide (P_marked F b ∧ r_ahead F b = r)
def r_markedAt (F : Int → Int) (r : Int) : Int := fi 6 0 (p_at F r) (-5)
def p_buf (F : Int → Int) (p k : Int) : Bool := decide (F (k + 12) = p)
def r_buf (F : Int → Int) (p : Int) : Int := fi (F 11).toNat 0 (p_buf F p) (-5)
abbrev P_full (F : Int → Int) : Prop := F 6 = -5 ∨ r_cnt F (F 6) (-1) = 0
def s_best (F : Int → Int) (b n : Int) : Int := if P_free F b ∧ (n = -5 ∨ F (4 * b + 42) < F (4 * n + 42)) then b else n
def r_best (F : Int → Int) : Int := fo 6 0 (-5) (s_best F)
def p_hold (F : Int → Int) (p k : Int) : Bool := decide (F (3 * k + 65) = p)
def r_placeOf (F : Int → Int) (p : Int) : Int := fi 48 0 (p_hold F p) (-5)
def p_page (F : Int → Int) (k : Int) : Bool := decide (0 ≤ F (3 * k + 65))
def r_low (F : Int → Int) (b : Int) : Int := fi 8 (8 * b) (p_page F) (-5)
/-! what changes it -/
def s_leave (k : Int) (G : Int → Int) : Int → Int := up G (k + 12) (G (k + 13))
def r_leaves (F : Int → Int) (p : Int) : Int → Int := if r_buf F p = -5 then F else fo (F 11 - 1 - r_buf F p).toNat (r_buf F p) (up F 11 (F 11 - 1)) s_leave
/-- the buffer's pages one place back, from place n on -/
def r_back : Nat → (Int → Int) → (Int → Int)
  | 0, G => G
  | n + 1, G => r_back n (up G ((n : Int) + 1 + 12) (G ((n : Int) + 1 + 11)))
def r_front1 (G : Int → Int) (p : Int) : Int → Int := up (up (r_back (G 11).toNat G) 12 p) 11 (r_back (G 11).toNat G 11 + 1)
def r_fronts (F : Int → Int) (p : Int) : Int → Int := if r_leaves F p 4 = 0 then r_leaves F p else r_front1 (up (r_leaves F p) 11 (if r_leaves F p 11 = r_leaves F p 4 then r_leaves F p 11 - 1 else r_leaves F p 11)) p
def s_reads (r k : Int) (G : Int → Int) : Int → Int := up G (3 * k + 66) (G (3 * k + 66) + (if 0 ≤ G (3 * k + 65) then r_weaker G k r else 0))
def r_readsA (F : Int → Int) (r : Int) : Int → Int := fo 8 (8 * (r / 8)) F (s_reads r)
def r_reads (F : Int → Int) (r : Int) : Int → Int := up (r_readsA F r) (4 * (r / 8) + 44) (r_readsA F r (4 * (r / 8) + 44) + 1)
def r_opens (F : Int → Int) : Int → Int := if P_full F then up F 6 (r_best F) else F
def r_stales (F : Int → Int) (p : Int) : Int → Int := if r_placeOf F p = -5 then F else up F (3 * r_placeOf F p + 65) (-2)
def p_empty (F : Int → Int) (k : Int) : Bool := decide (F (3 * k + 65) = -1)
def r_spot (F : Int → Int) : Int := fi 8 (8 * F 6) (p_empty F) (-5)
def r_puts (F : Int → Int) (p : Int) : Int → Int := up (up (up F (3 * r_spot F + 65) p) (3 * r_spot F + 66) 0) (3 * r_spot F + 67) (F 0)
def r_gives (F : Int → Int) (p : Int) : Int → Int := r_puts (r_stales (r_opens F) p) p
def r_givesK (F : Int → Int) (p : Int) : Int := r_spot (r_stales (r_opens F) p)
def r_shut (F : Int → Int) (b : Int) : Int → Int := up F 6 (if F 6 = b then -5 else F 6)
abbrev P_moves (G : Int → Int) (b : Int) : Prop := ¬ (r_left G (r_low G b) = 0 ∨ P_full G ∧ r_best G = -5)
def r_moved1 (G : Int → Int) (k : Int) : Int → Int := r_gives (r_reads G k) (r_reads G k (3 * k + 65))
def r_moved (G : Int → Int) (b : Int) : Int → Int := up (r_moved1 G (r_low G b)) 9 (r_moved1 G (r_low G b) 9 + 1)
def r_moves (F : Int → Int) (b : Int) : Int → Int := if P_moves (r_shut F b) b then r_moved (r_shut F b) b else r_shut F b
def s_er (k : Int) (x : Int × (Int → Int)) : Int × (Int → Int) := (if x.1 < x.2 (3 * k + 66) then x.2 (3 * k + 66) else x.1, up (up x.2 (3 * k + 65) (-1)) (3 * k + 66) 0)
def r_erA (F : Int → Int) (b : Int) : Int × (Int → Int) := fo 8 (8 * b) ((0 : Int), F) s_er
def r_erB (G : Int → Int) (b : Int) : Int → Int := up (up (up G (4 * b + 42) (G (4 * b + 42) + 1)) (4 * b + 43) 0) 10 (G 10 + 1)
def r_logs : Nat → (Int → Int) → (Int → Int)
  | 0, G => G
  | n + 1, G => r_logs n (up G ((n : Int) + 1 + 19) (G ((n : Int) + 1 + 19 - 3)))
def r_erC (G : Int → Int) (b w : Int) : Int → Int := up (up (up (up G 17 b) 18 (G 0)) 19 w) 16 (G 16 + (if G 16 < 8 then 1 else 0))
def r_erases (F : Int → Int) (b : Int) : Int → Int := r_erC (r_logs 21 (r_erB (r_erA (r_shut F b) b).2 b)) b (r_erA (r_shut F b) b).1
/-- a block moved as a whole: the pages that are moved, or -4; the state then -/
def r_allL : Nat → (Int → Int) → Int → Int → Int × (Int → Int)
  | 0, F, _, n => (n, F)
  | f + 1, F, b, n => if r_low F b = -5 then (n, F) else if P_moves (r_shut F b) b then r_allL f (r_moves F b) b (n + 1) else (-4, r_moves F b)
def r_all (F : Int → Int) (b : Int) : Int × (Int → Int) := if (r_allL 9 (r_shut F b) b 0).1 < 0 then r_allL 9 (r_shut F b) b 0 else ((r_allL 9 (r_shut F b) b 0).1, r_erases (r_allL 9 (r_shut F b) b 0).2 b)
/-- a tick: pages moved, the state -/
def r_tickL : Nat → (Int → Int) → Int → Int × (Int → Int)
  | 0, F, n => (n, F)
  | f + 1, F, n => if F 3 ≤ n ∨ r_markedAt F 0 = -5 then (n, F) else
      if r_low F (r_markedAt F 0) = -5 then r_tickL f (r_erases F (r_markedAt F 0)) n else
      if P_moves (r_shut F (r_markedAt F 0)) (r_markedAt F 0) then
        (if r_low (r_moves F (r_markedAt F 0)) (r_markedAt F 0) = -5 then r_tickL f (r_erases (r_moves F (r_markedAt F 0)) (r_markedAt F 0)) (n + 1) else r_tickL f (r_moves F (r_markedAt F 0)) (n + 1))
      else (n, r_moves F (r_markedAt F 0))
def r_tick (F : Int → Int) : Int × (Int → Int) := r_tickL 32 (up F 0 (F 0 + 1)) 0
def r_write (F : Int → Int) (p : Int) : Int × (Int → Int) := if p < 0 ∨ 23 < p then (-1, F) else if r_frees F < (if P_full F then 2 else 1) then (-3, F) else (r_givesK (r_leaves F p) p, r_gives (r_leaves F p) p)
def r_read3 (F : Int → Int) (p h : Int) : Int → Int := up (up (up (r_fronts F p) 7 (r_fronts F p 7 + 1)) 8 (r_fronts F p 8 + (if h = 0 then 1 else 0))) (p + 209) (r_fronts F p (p + 209) + 1)
def r_read (F : Int → Int) (p : Int) : Int × (Int → Int) :=
  if p < 0 ∨ 23 < p ∨ r_placeOf F p = -5 then (-1, F) else
  if r_buf F p ≠ -5 then (0, r_read3 F p 0) else
  if r_left F (r_placeOf F p) ≠ 0 then (1, r_read3 (r_reads F (r_placeOf F p)) p 1) else
  if F 5 = 1 ∧ 0 ≤ (r_all F (r_placeOf F p / 8)).1 ∧ 0 < r_left (r_all F (r_placeOf F p / 8)).2 (r_placeOf (r_all F (r_placeOf F p / 8)).2 p) then
    (2, r_read3 (r_reads (r_all F (r_placeOf F p / 8)).2 (r_placeOf (r_all F (r_placeOf F p / 8)).2 p)) p 2) else (-4, F)
def r_passL : Nat → (Int → Int) → Int → Int × (Int → Int)
  | 0, F, n => (n, F)
  | f + 1, F, n => r_passL f (r_tick F).2 (n + (r_tick F).1)
def r_pass (F : Int → Int) (t : Int) : Int × (Int → Int) := if t < 1 ∨ 99 < t then (-2, F) else if 99999 < F 0 + t then (-4, F) else r_passL t.toNat F 0
/-- what holds of a state; every number of it is at most N -/
def WF (N : Int) (F : Int → Int) : Prop :=
  (200000 ≤ N ∧ N ≤ 200000000) ∧ (∀ i, -N ≤ F i ∧ F i ≤ N) ∧
  (10 ≤ F 1 ∧ F 1 ≤ 100 ∧ 1 ≤ F 2 ∧ F 2 ≤ 999 ∧ 0 ≤ F 3 ∧ F 3 ≤ 8 ∧ 0 ≤ F 4 ∧ F 4 ≤ 4 ∧ 0 ≤ F 5 ∧ F 5 ≤ 1) ∧
  (F 6 = -5 ∨ 0 ≤ F 6 ∧ F 6 ≤ 5) ∧ (0 ≤ F 11 ∧ F 11 ≤ F 4) ∧
  (∀ b, 0 ≤ b → b < 6 → 0 ≤ F (4 * b + 41) ∧ F (4 * b + 41) ≤ 2 ∧ 0 ≤ F (4 * b + 42) ∧ 0 ≤ F (4 * b + 43) ∧ F (4 * b + 43) ≤ 1) ∧
  (∀ k, 0 ≤ k → k < 48 → -2 ≤ F (3 * k + 65) ∧ F (3 * k + 65) ≤ 23 ∧ 0 ≤ F (3 * k + 66) ∧ (F (3 * k + 65) = -1 → F (3 * k + 66) = 0) ∧ F (3 * k + 66) ≤ r_bears F (k / 8)) ∧
  (∀ j k, 0 ≤ j → j < 48 → 0 ≤ k → k < 48 → 0 ≤ F (3 * j + 65) → F (3 * j + 65) = F (3 * k + 65) → j = k) ∧
  (∀ k, 0 ≤ k → k < 48 → F (3 * k + 65) = -1 → k % 8 ≠ 7 → F (3 * k + 68) = -1) ∧
  (0 ≤ F 10 ∧ F 16 = if F 10 < 8 then F 10 else 8)
/-- numbers that the machine can add and compare -/
def Bd (F : Int → Int) : Prop := ∀ i, -300000000 ≤ F i ∧ F i ≤ 300000000
theorem Bd.bd {F : Int → Int} (h : Bd F) (i : Int) : -300000000 ≤ F i ∧ F i ≤ 300000000 := h i
theorem Bd.up {F : Int → Int} (h : Bd F) {i v : Int} (hv : -300000000 ≤ v ∧ v ≤ 300000000) : Bd (up F i v) := by
  intro j
  by_cases hj : j = i
  · rw [up_eq hj]; exact hv
  · rw [up_ne hj]; exact h j
theorem WF.b {N : Int} {F : Int → Int} (h : WF N F) : Bd F := fun i => by have := h.2.1 i; have := h.1; omega
theorem WF.nn {N : Int} {F : Int → Int} (h : WF N F) : 200000 ≤ N ∧ N ≤ 200000000 := h.1
theorem WF.bd {N : Int} {F : Int → Int} (h : WF N F) (i : Int) : -200000000 ≤ F i ∧ F i ≤ 200000000 := by have := h.2.1 i; have := h.1; omega
theorem WF.se {N : Int} {F : Int → Int} (h : WF N F) : 10 ≤ F 1 ∧ F 1 ≤ 100 ∧ 1 ≤ F 2 ∧ F 2 ≤ 999 ∧ 0 ≤ F 3 ∧ F 3 ≤ 8 ∧ 0 ≤ F 4 ∧ F 4 ≤ 4 ∧ 0 ≤ F 5 ∧ F 5 ≤ 1 := h.2.2.1
theorem WF.op {N : Int} {F : Int → Int} (h : WF N F) : F 6 = -5 ∨ 0 ≤ F 6 ∧ F 6 ≤ 5 := h.2.2.2.1
theorem WF.he {N : Int} {F : Int → Int} (h : WF N F) : 0 ≤ F 11 ∧ F 11 ≤ F 4 := h.2.2.2.2.1
theorem WF.bl {N : Int} {F : Int → Int} (h : WF N F) {b : Int} (h0 : 0 ≤ b) (h1 : b < 6) : 0 ≤ F (4 * b + 41) ∧ F (4 * b + 41) ≤ 2 ∧ 0 ≤ F (4 * b + 42) ∧ 0 ≤ F (4 * b + 43) ∧ F (4 * b + 43) ≤ 1 := h.2.2.2.2.2.1 b h0 h1
theorem WF.pl {N : Int} {F : Int → Int} (h : WF N F) {k : Int} (h0 : 0 ≤ k) (h1 : k < 48) : -2 ≤ F (3 * k + 65) ∧ F (3 * k + 65) ≤ 23 ∧ 0 ≤ F (3 * k + 66) ∧ (F (3 * k + 65) = -1 → F (3 * k + 66) = 0) ∧ F (3 * k + 66) ≤ r_bears F (k / 8) := h.2.2.2.2.2.2.1 k h0 h1
theorem WF.un {N : Int} {F : Int → Int} (h : WF N F) {j k : Int} (h0 : 0 ≤ j) (h1 : j < 48) (h2 : 0 ≤ k) (h3 : k < 48) (h4 : 0 ≤ F (3 * j + 65)) (h5 : F (3 * j + 65) = F (3 * k + 65)) : j = k := h.2.2.2.2.2.2.2.1 j k h0 h1 h2 h3 h4 h5
theorem WF.fl {N : Int} {F : Int → Int} (h : WF N F) {k : Int} (h0 : 0 ≤ k) (h1 : k < 48) (h2 : F (3 * k + 65) = -1) (h3 : k % 8 ≠ 7) : F (3 * k + 68) = -1 := h.2.2.2.2.2.2.2.2.1 k h0 h1 h2 h3
theorem WF.lo {N : Int} {F : Int → Int} (h : WF N F) : 0 ≤ F 10 ∧ F 16 = if F 10 < 8 then F 10 else 8 := h.2.2.2.2.2.2.2.2.2
theorem cut_rg {v : Int} (h : v ≤ 400) : 20 ≤ r_cut v ∧ r_cut v ≤ 400 := by unfold r_cut; split <;> omega
theorem bears_rg {N : Int} {F : Int → Int} (h : WF N F) {b : Int} (h0 : 0 ≤ b) (h1 : b < 6) : 20 ≤ r_bears F b ∧ r_bears F b ≤ 400 := by
  have hb := h.bl h0 h1
  unfold r_bears
  apply cut_rg
  split
  · omega
  · split <;> omega
theorem fo_le {n : Nat} : ∀ {i a : Int} {f : Int → Int → Int} {lo hi : Int}, lo ≤ a → a ≤ hi → (∀ j x, i ≤ j → j < i + n → lo ≤ x → x ≤ hi → lo ≤ f j x ∧ f j x ≤ hi) → lo ≤ fo n i a f ∧ fo n i a f ≤ hi := by
  induction n with
  | zero => intro i a f lo hi h1 h2 _; exact ⟨h1, h2⟩
  | succ n ih =>
    intro i a f lo hi h1 h2 h3
    have h4 := h3 i a (by omega) (by omega) h1 h2
    exact ih h4.1 h4.2 (fun j x q1 q2 => h3 j x (by omega) (by omega))
/-! bounds of what is told -/
theorem stf_rg (i : Nat) (j : Int) : 0 ≤ stf i j ∧ stf i j ≤ 999 := by
  have key : ∀ (l : List Int), (∀ x ∈ l, 0 ≤ x ∧ x ≤ 999) → ∀ k : Nat, 0 ≤ l.getD k 0 ∧ l.getD k 0 ≤ 999 := by
    intro l hl k
    rw [List.getD_eq_getElem?_getD]
    cases h : l[k]? with
    | none => simp
    | some x => exact hl x (List.mem_of_getElem? h)
  have h5 : ∀ i : Nat, ∀ x ∈ stv i, 0 ≤ x ∧ x ≤ 999 := by
    intro i
    match i with
    | 0 => decide
    | 1 => decide
    | 2 => decide
    | 3 => decide
    | 4 => decide
    | n + 5 => intro x hx; have hx : x ∈ [(4 : Int), 5, 10] := hx; simp at hx; omega
  exact key _ (h5 i) _
theorem fo_add {n : Nat} : ∀ {i a : Int} {f : Int → Int → Int}, (∀ j x, x ≤ f j x ∧ f j x ≤ x + 1) → a ≤ fo n i a f ∧ fo n i a f ≤ a + n := by
  induction n with
  | zero => intro i a f _; exact ⟨Int.le_refl _, by show a ≤ _; omega⟩
  | succ n ih =>
    intro i a f h
    have h1 := h i a
    have h2 := ih (i := i + 1) (a := f i a) (f := f) h
    have h3 : fo (n + 1) i a f = fo n (i + 1) (f i a) f := rfl
    rw [h3]
    omega
theorem cnt_rg (F : Int → Int) (b t : Int) : 0 ≤ r_cnt F b t ∧ r_cnt F b t ≤ 8 := by
  have h := fo_add (n := 8) (i := 8 * b) (a := 0) (f := s_cnt F t) (fun j x => by unfold s_cnt; split <;> (split <;> omega))
  exact ⟨h.1, by have := h.2; unfold r_cnt; omega⟩
theorem frees_rg (F : Int → Int) : 0 ≤ r_frees F ∧ r_frees F ≤ 6 := by
  have h := fo_add (n := 6) (i := 0) (a := 0) (f := s_frees F) (fun j x => by unfold s_frees; split <;> omega)
  exact ⟨h.1, by have := h.2; unfold r_frees; omega⟩
theorem marks_rg (F : Int → Int) : 0 ≤ r_marks F ∧ r_marks F ≤ 6 := by
  have h := fo_add (n := 6) (i := 0) (a := 0) (f := s_marks F) (fun j x => by unfold s_marks; split <;> omega)
  exact ⟨h.1, by have := h.2; unfold r_marks; omega⟩
theorem ahead_rg (F : Int → Int) (b : Int) : 0 ≤ r_ahead F b ∧ r_ahead F b ≤ 6 := by
  have h := fo_add (n := 6) (i := 0) (a := 0) (f := s_ahead F b) (fun j x => by unfold s_ahead; split <;> omega)
  exact ⟨h.1, by have := h.2; unfold r_ahead; omega⟩
theorem weaker_rg (F : Int → Int) (k r : Int) : 1 ≤ r_weaker F k r ∧ r_weaker F k r ≤ 8 := by
  unfold r_weaker
  omega
theorem great_rg {N : Int} {F : Int → Int} (h : WF N F) {b : Int} (h0 : 0 ≤ b) (h1 : b < 6) : 0 ≤ r_great F b ∧ r_great F b ≤ 400 := by
  have hb := bears_rg h h0 h1
  refine fo_le (by omega) (by omega) (fun j x q1 q2 q3 q4 => ?_)
  unfold s_great
  split
  · have := h.pl (k := j) (by omega) (by omega)
    rw [show j / 8 = b from by omega] at this
    omega
  · omega
theorem hund_rg {N : Int} {F : Int → Int} (h : WF N F) {b : Int} (h0 : 0 ≤ b) (h1 : b < 6) : 0 ≤ r_hund F b ∧ r_hund F b ≤ 40000 := by
  have hb := bears_rg h h0 h1
  have hg := great_rg h h0 h1
  unfold r_hund
  refine ⟨Int.ediv_nonneg (by omega) (by omega), ?_⟩
  have h2 : 100 * r_great F b / r_bears F b ≤ 100 * r_great F b := by
    refine Int.ediv_le_self _ (by omega)
  omega
theorem fi_rg {n : Nat} : ∀ {i d : Int} {p : Int → Bool}, fi n i p d = d ∨ (i ≤ fi n i p d ∧ fi n i p d < i + n ∧ p (fi n i p d) = true) := by
  induction n with
  | zero => intro i d p; exact Or.inl rfl
  | succ n ih =>
    intro i d p
    by_cases h : p i = true
    · refine Or.inr ?_
      rw [show fi (n + 1) i p d = i from if_pos h]
      exact ⟨Int.le_refl _, by omega, h⟩
    · rw [show fi (n + 1) i p d = fi n (i + 1) p d from if_neg h]
      rcases ih (i := i + 1) (d := d) (p := p) with h1 | ⟨h1, h2, h3⟩
      · exact Or.inl h1
      · exact Or.inr ⟨by omega, by omega, h3⟩
theorem placeOf_rg (F : Int → Int) (p : Int) : r_placeOf F p = -5 ∨ 0 ≤ r_placeOf F p ∧ r_placeOf F p < 48 := by
  rcases fi_rg (n := 48) (i := 0) (d := -5) (p := p_hold F p) with h | ⟨h1, h2, -⟩
  · exact Or.inl h
  · exact Or.inr ⟨h1, by unfold r_placeOf; omega⟩
theorem low_rg (F : Int → Int) (b : Int) : r_low F b = -5 ∨ 8 * b ≤ r_low F b ∧ r_low F b < 8 * b + 8 ∧ 0 ≤ F (3 * r_low F b + 65) := by
  rcases fi_rg (n := 8) (i := 8 * b) (d := -5) (p := p_page F) with h | ⟨h1, h2, h3⟩
  · exact Or.inl h
  · exact Or.inr ⟨h1, by unfold r_low; omega, by simp only [p_page, decide_eq_true_eq] at h3; exact h3⟩
theorem spot_rg (F : Int → Int) : r_spot F = -5 ∨ 8 * F 6 ≤ r_spot F ∧ r_spot F < 8 * F 6 + 8 ∧ F (3 * r_spot F + 65) = -1 := by
  rcases fi_rg (n := 8) (i := 8 * F 6) (d := -5) (p := p_empty F) with h | ⟨h1, h2, h3⟩
  · exact Or.inl h
  · exact Or.inr ⟨h1, by unfold r_spot; omega, by simp only [p_empty, decide_eq_true_eq] at h3; exact h3⟩
theorem at_rg (F : Int → Int) (r : Int) : r_markedAt F r = -5 ∨ 0 ≤ r_markedAt F r ∧ r_markedAt F r < 6 := by
  rcases fi_rg (n := 6) (i := 0) (d := -5) (p := p_at F r) with h | ⟨h1, h2, -⟩
  · exact Or.inl h
  · exact Or.inr ⟨h1, by unfold r_markedAt; omega⟩
theorem buf_rg (F : Int → Int) (p : Int) : r_buf F p = -5 ∨ 0 ≤ r_buf F p ∧ r_buf F p < F 11 ∧ F (r_buf F p + 12) = p := by
  rcases fi_rg (n := (F 11).toNat) (i := 0) (d := -5) (p := p_buf F p) with h | ⟨h1, h2, h3⟩
  · exact Or.inl h
  · exact Or.inr ⟨h1, by unfold r_buf; omega, by simp only [p_buf, decide_eq_true_eq] at h3; exact h3⟩
theorem best_rg (F : Int → Int) : r_best F = -5 ∨ 0 ≤ r_best F ∧ r_best F < 6 ∧ P_free F (r_best F) := by
  have key : ∀ (n : Nat) (i a : Int), 0 ≤ i → i + n ≤ 6 → (a = -5 ∨ 0 ≤ a ∧ a < 6 ∧ P_free F a) → (fo n i a (s_best F) = -5 ∨ 0 ≤ fo n i a (s_best F) ∧ fo n i a (s_best F) < 6 ∧ P_free F (fo n i a (s_best F))) := by
    intro n
    induction n with
    | zero => intro i a _ _ h; exact h
    | succ n ih =>
      intro i a h0 h1 h
      refine ih (i + 1) _ (by omega) (by omega) ?_
      unfold s_best
      split
      · rename_i h2
        exact Or.inr ⟨by omega, by omega, h2.1⟩
      · exact h
  exact key 6 0 (-5) (by omega) (by omega) (Or.inl rfl)
theorem left_rg (F : Int → Int) (r : Int) : 0 ≤ r_left F r ∧ r_left F r ≤ 99999 := by
  unfold r_left
  have key : ∀ (n : Nat) (i a : Int), a ≤ 99999 → fo n i a (s_left F r) ≤ 99999 := by
    intro n
    induction n with
    | zero => intro i a h; exact h
    | succ n ih =>
      intro i a h
      refine ih _ _ ?_
      unfold s_left
      split <;> omega
  have := key 8 (8 * (r / 8)) 99999 (by omega)
  split <;> omega
theorem an_s {n : Nat} {k o o' : Int} {p : Int → Bool} {B : Prop} (h : (o = 1 ∨ an (n + 1) k p = true) ↔ B) (e : o' = 1 ↔ (o = 1 ∨ p k = true)) : (o' = 1 ∨ an n (k + 1) p = true) ↔ B := by
  rw [← h, e, or_assoc]
  show _ ↔ (o = 1 ∨ (p k || an n (k + 1) p) = true)
  rw [Bool.or_eq_true]
theorem an_0 {k o : Int} {p : Int → Bool} {B : Bool} (h : (o = 1 ∨ an 0 k p = true) ↔ B = true) (ho : o = 0 ∨ o = 1) : o = if B = true then 1 else 0 := by
  by_cases hb : B = true
  · rw [if_pos hb]
    rcases h.mpr hb with h1 | h1
    · exact h1
    · exact absurd h1 (by simp [an])
  · rw [if_neg hb]
    rcases ho with h1 | h1
    · exact h1
    · exact absurd (h.mp (Or.inl h1)) hb
theorem div_rg {a b : Int} (ha : 0 ≤ a) (hb : 0 < b) : 0 ≤ a / b ∧ a / b ≤ a := ⟨Int.ediv_nonneg ha (by omega), Int.ediv_le_self b ha⟩
theorem rem_rg {a b : Int} (_ : 0 ≤ a) (hb : 0 < b) : 0 ≤ a % b ∧ a % b < b := ⟨Int.emod_nonneg a (by omega), Int.emod_lt_of_pos a hb⟩
theorem mul_rg {a b : Int} (ha : 0 ≤ a ∧ a ≤ 1000) (hb : 0 ≤ b ∧ b ≤ 400) : 0 ≤ a * b ∧ a * b ≤ 400000 := by
  refine ⟨Int.mul_nonneg ha.1 hb.1, ?_⟩
  have h1 := Int.mul_le_mul ha.2 hb.2 hb.1 (by omega)
  omega
theorem allL_s {f : Nat} {F : Int → Int} {b n : Int} : r_allL (f + 1) F b n = if r_low F b = -5 then (n, F) else if P_moves (r_shut F b) b then r_allL f (r_moves F b) b (n + 1) else (-4, r_moves F b) := rfl
theorem tickL_s {f : Nat} {F : Int → Int} {n : Int} : r_tickL (f + 1) F n = if F 3 ≤ n ∨ r_markedAt F 0 = -5 then (n, F) else if r_low F (r_markedAt F 0) = -5 then r_tickL f (r_erases F (r_markedAt F 0)) n else if P_moves (r_shut F (r_markedAt F 0)) (r_markedAt F 0) then (if r_low (r_moves F (r_markedAt F 0)) (r_markedAt F 0) = -5 then r_tickL f (r_erases (r_moves F (r_markedAt F 0)) (r_markedAt F 0)) (n + 1) else r_tickL f (r_moves F (r_markedAt F 0)) (n + 1)) else (n, r_moves F (r_markedAt F 0)) := rfl
