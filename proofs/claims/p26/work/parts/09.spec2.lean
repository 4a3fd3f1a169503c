/-! the whole object as a book: B 0 the state, 1..4 the history (the latest first), 5 the snapshot, 6 the text, 7 the latest refusal, 8 states in the history, 9 whether there is a snapshot, 10 the text's length, 11 whether an order was refused -/
def upT (T : Nat → Int → Int) (k : Nat) (f : Int → Int) : Nat → Int → Int := fun i => if i = k then f else T i
theorem upT_eq {T : Nat → Int → Int} {k : Nat} {f : Int → Int} : upT T k f k = f := if_pos rfl
theorem upT_ne {T : Nat → Int → Int} {k i : Nat} {f : Int → Int} (h : i ≠ k) : upT T k f i = T i := if_neg h
def b_rec (B : Nat → Int → Int) : Nat → Int → Int := upT (upT (upT (upT (upT B 4 (B 3)) 3 (B 2)) 2 (B 1)) 1 (B 0)) 8 (fun _ => if B 8 0 = 4 then 4 else B 8 0 + 1)
def b_pop (B : Nat → Int → Int) : Nat → Int → Int := upT (upT (upT (upT (upT B 0 (B 1)) 1 (B 2)) 2 (B 3)) 3 (B 4)) 8 (fun _ => B 8 0 - 1)
def act (B : Nat → Int → Int) (x : Int × (Int → Int)) : Int × (Nat → Int → Int) := if x.1 < 0 then (x.1, B) else (x.1, upT (b_rec B) 0 x.2)
theorem act_n {B : Nat → Int → Int} {x : Int × (Int → Int)} (h : x.1 < 0) : act B x = (x.1, B) := if_pos h
theorem act_p {B : Nat → Int → Int} {x : Int × (Int → Int)} (h : 0 ≤ x.1) : act B x = (x.1, upT (b_rec B) 0 x.2) := if_neg (by omega)
abbrev S_ok (w v : Int) : Prop := (w = 0 ∧ 10 ≤ v ∧ v ≤ 100) ∨ (w = 1 ∧ 1 ≤ v ∧ v ≤ 999) ∨ (w = 2 ∧ 0 ≤ v ∧ v ≤ 8) ∨ (w = 3 ∧ 0 ≤ v ∧ v ≤ 4) ∨ (w = 4 ∧ 0 ≤ v ∧ v ≤ 1)
def r_set (F : Int → Int) (w v : Int) : Int → Int := up (up F (w + 1) v) 11 (if up F (w + 1) v 4 < up F (w + 1) v 11 then up F (w + 1) v 4 else up F (w + 1) v 11)
def c_set (B : Nat → Int → Int) (w v : Int) : Int × (Nat → Int → Int) := if w < 0 ∨ 4 < w then (-1, B) else if ¬ S_ok w v then (-2, B) else if B 0 (w + 1) = v then (-5, B) else (B 0 (w + 1), upT (b_rec B) 0 (r_set (B 0) w v))
def c_setKind (B : Nat → Int → Int) (b k : Int) : Int × (Nat → Int → Int) := if b < 0 ∨ 5 < b then (-1, B) else if k < 0 ∨ 2 < k then (-2, B) else if ¬ P_free (B 0) b then (-4, B) else if B 0 (4 * b + 41) = k then (-5, B) else (B 0 (4 * b + 41), upT (b_rec B) 0 (up (B 0) (4 * b + 41) k))
def c_mark (B : Nat → Int → Int) (b i : Int) : Int × (Nat → Int → Int) := if b < 0 ∨ 5 < b then (-1, B) else if P_free (B 0) b then (-4, B) else if B 0 (4 * b + 43) = i then (-5, B) else (r_marks (up (B 0) (4 * b + 43) i), upT (b_rec B) 0 (up (B 0) (4 * b + 43) i))
def c_write (B : Nat → Int → Int) (p : Int) : Int × (Nat → Int → Int) := act B (r_write (B 0) p)
def c_read (B : Nat → Int → Int) (p : Int) : Int × (Nat → Int → Int) := act B (r_read (B 0) p)
def s_placed (F : Int → Int) (b n : Int) : Int := n + r_cnt F b 0
def r_placed (F : Int → Int) : Int := fo 6 0 0 (s_placed F)
def r_forget (F : Int → Int) (p : Int) : Int → Int := r_leaves (up F (3 * r_placeOf F p + 65) (-2)) p
def c_forget (B : Nat → Int → Int) (p : Int) : Int × (Nat → Int → Int) := if p < 0 ∨ 23 < p ∨ r_placeOf (B 0) p = -5 then (-1, B) else (r_placed (r_forget (B 0) p), upT (b_rec B) 0 (r_forget (B 0) p))
def c_moveBlock (B : Nat → Int → Int) (b : Int) : Int × (Nat → Int → Int) := if b < 0 ∨ 5 < b then (-1, B) else if P_free (B 0) b then (-4, B) else act B (r_all (B 0) b)
def c_pass (B : Nat → Int → Int) (t : Int) : Int × (Nat → Int → Int) := act B (r_pass (B 0) t)
def c_type (B : Nat → Int → Int) (c : Int) : Int × (Nat → Int → Int) := if B 10 0 = 60 then (-3, B) else (B 10 0 + 1, upT (upT B 6 (up (B 6) (B 10 0) c)) 10 (fun _ => B 10 0 + 1))
def c_clear (B : Nat → Int → Int) : Int × (Nat → Int → Int) := (B 10 0, upT B 10 (fun _ => 0))
def c_undo (B : Nat → Int → Int) : Int × (Nat → Int → Int) := if B 8 0 = 0 then (-5, B) else (B 8 0 - 1, b_pop B)
def c_keep (B : Nat → Int → Int) : Int × (Nat → Int → Int) := (B 0 0, upT (upT B 5 (B 0)) 9 (fun _ => 1))
def c_restore (B : Nat → Int → Int) : Int × (Nat → Int → Int) := if B 9 0 = 0 then (-5, B) else (B 5 0, upT (b_rec B) 0 (B 5))
def c_refusal (B : Nat → Int → Int) (w : Int) : Int := if w < 0 ∨ 2 < w then -2 else if B 11 0 = 0 then -5 else B 7 w
def c_page (F : Int → Int) (p w : Int) : Int := if p < 0 ∨ 23 < p then -1 else if w < 0 ∨ 5 < w then -2 else if w = 4 then r_buf F p else if w = 5 then F (p + 209) else if r_placeOf F p = -5 then -5 else
  if w = 0 then r_placeOf F p else if w = 1 then F (3 * r_placeOf F p + 66) else if w = 2 then F 0 - F (3 * r_placeOf F p + 67) else r_left F (r_placeOf F p)
def c_block (F : Int → Int) (b w : Int) : Int := if b < 0 ∨ 5 < b then -1 else if w < 0 ∨ 9 < w then -2 else if w = 0 then F (4 * b + 41) else if w = 1 then F (4 * b + 42) else if w = 2 then r_bears F b else if w = 3 then r_cnt F b 0 else if w = 4 then r_cnt F b (-2) else if w = 5 then r_great F b else
  if w = 6 then (if P_marked F b then 1 else 0) else if w = 7 then (if P_free F b then 1 else 0) else if w = 8 then F (4 * b + 44) else F (4 * b + 43)
def c_place (F : Int → Int) (b k w : Int) : Int := if b < 0 ∨ 5 < b ∨ k < 0 ∨ 7 < k then -1 else if w < 0 ∨ 2 < w then -2 else if w = 2 then F (3 * k + 24 * b + 66) else if w = 0 then (if F (3 * k + 24 * b + 65) < 0 then -5 else F (3 * k + 24 * b + 65)) else
  if F (3 * k + 24 * b + 65) = -1 then 0 else if F (3 * k + 24 * b + 65) = -2 then 2 else 1
def c_marked (F : Int → Int) (r : Int) : Int := if r < 0 then -2 else r_markedAt F r
def r_quietL : Nat → (Int → Int) → Int → Int
  | 0, _, _ => -5
  | f + 1, F, t => if r_marks F = 0 then t else r_quietL f (r_tick F).2 (t + 1)
def c_quiet (F : Int → Int) : Int := r_quietL 301 F 0
def c_erasure (F : Int → Int) (k w : Int) : Int := if k < 0 ∨ w < 0 ∨ 2 < w then -2 else if k < F 16 then F (w + 3 * k + 17) else -5
def s_weak (F : Int → Int) (b n : Int) : Int := if n < r_hund F b then r_hund F b else n
def r_weakest (F : Int → Int) : Int := fo 6 0 0 (s_weak F)
def c_count (B : Nat → Int → Int) (w : Int) : Int := if w < 0 ∨ 12 < w then -2 else if w = 0 then B 0 0 else if w = 1 then r_placed (B 0) else if w = 2 then r_frees (B 0) else if w = 3 then B 0 6 else if w = 4 then r_marks (B 0) else if w < 10 then B 0 (w + 2) else if w = 10 then r_weakest (B 0) else if w = 11 then B 8 0 else B 10 0
def c_setting (F : Int → Int) (w : Int) : Int := if w < 0 ∨ 4 < w then -1 else F (w + 1)
/-! texts: t the signs, n how many -/
def d_at (t : Int → Int) (n i : Int) : Int := if i < n ∧ 48 ≤ t i ∧ t i ≤ 57 then t i - 48 else -1
abbrev N_two (t : Int → Int) (n a hi : Int) : Prop := 0 < d_at t n a ∧ 0 ≤ d_at t n (a + 1) ∧ 10 * d_at t n a + d_at t n (a + 1) ≤ hi
def n_val (t : Int → Int) (n a hi : Int) : Int := if N_two t n a hi then 10 * d_at t n a + d_at t n (a + 1) else d_at t n a
def n_end (t : Int → Int) (n a hi : Int) : Int := if N_two t n a hi then a + 2 else a + 1
abbrev O_let (t : Int → Int) (n a : Int) : Prop := a < n ∧ (t a = 114 ∨ t a = 119 ∨ t a = 116)
def o_lo (t : Int → Int) (a : Int) : Int := if t a = 116 then 1 else 0
def o_hi (t : Int → Int) (a : Int) : Int := if t a = 116 then 99 else 23
def o_e1 (t : Int → Int) (n a : Int) : Int := n_end t n (a + 1) (o_hi t a)
abbrev O_num (t : Int → Int) (n a : Int) : Prop := o_lo t a ≤ d_at t n (a + 1)
abbrev O_star (t : Int → Int) (n a : Int) : Prop := t a = 114 ∧ o_e1 t n a < n ∧ t (o_e1 t n a) = 42
abbrev O_rep (t : Int → Int) (n a : Int) : Prop := 1 ≤ d_at t n (o_e1 t n a + 1)
abbrev O_ok (t : Int → Int) (n a : Int) : Prop := O_let t n a ∧ O_num t n a ∧ (O_star t n a → O_rep t n a)
/-- where the order that begins at a ends, or its fault -/
def o_end (t : Int → Int) (n a : Int) : Int := if ¬ O_let t n a then a else if ¬ O_num t n a then a + 1 else if O_star t n a then (if O_rep t n a then n_end t n (o_e1 t n a + 1) 99 else o_e1 t n a + 1) else o_e1 t n a
def o_arg (t : Int → Int) (n a : Int) : Int := n_val t n (a + 1) (o_hi t a)
def o_rep (t : Int → Int) (n a : Int) : Int := if O_star t n a then n_val t n (o_e1 t n a + 1) 99 else 1
/-- the text from a on, k orders behind: (whether it is one, where it stopped, how many orders), and where each begins -/
def t_run (t : Int → Int) (n : Int) : Nat → Int → Int → Int × Int × Int
  | 0, a, k => (0, a, k)
  | f + 1, a, k => if ¬ O_ok t n a then (0, o_end t n a, k) else if o_end t n a < n ∧ t (o_end t n a) = 44 then t_run t n f (o_end t n a + 1) (k + 1) else ((if o_end t n a = n then 1 else 0), o_end t n a, k + 1)
/-- where order i begins -/
def t_at (t : Int → Int) (n : Int) : Nat → Int
  | 0 => 0
  | i + 1 => o_end t n (t_at t n i) + 1
def e_one (F : Int → Int) (c x : Int) : Int × (Int → Int) := if c = 114 then r_read F x else if c = 119 then r_write F x else r_pass F x
/-- an order done m times, d times done: (the error or 0, how often it was done, the state) -/
def e_reps (c x : Int) : Nat → Int → (Int → Int) → Int × Int × (Int → Int)
  | 0, d, F => (0, d, F)
  | m + 1, d, F => if (e_one F c x).1 < 0 then ((e_one F c x).1, d, F) else e_reps c x m (d + 1) (e_one F c x).2
/-- the orders from i on: (the error or 0, the order, how often it was done, the state) -/
def e_all (t : Int → Int) (n : Int) : Nat → Nat → (Int → Int) → Int × Int × Int × (Int → Int)
  | 0, i, F => (0, i, 0, F)
  | f + 1, i, F => if (e_reps (t (t_at t n i)) (o_arg t n (t_at t n i)) (o_rep t n (t_at t n i)).toNat 0 F).1 < 0 then ((e_reps (t (t_at t n i)) (o_arg t n (t_at t n i)) (o_rep t n (t_at t n i)).toNat 0 F).1, i, (e_reps (t (t_at t n i)) (o_arg t n (t_at t n i)) (o_rep t n (t_at t n i)).toNat 0 F).2.1, F)
      else e_all t n f (i + 1) (e_reps (t (t_at t n i)) (o_arg t n (t_at t n i)) (o_rep t n (t_at t n i)).toNat 0 F).2.2
def t_of (B : Nat → Int → Int) : Int × Int × Int := t_run (B 6) (B 10 0) 21 0 0
def p_of (B : Nat → Int → Int) : Int × Int × Int × (Int → Int) := e_all (B 6) (B 10 0) (t_of B).2.2.toNat 0 (B 0)
def c_perform (B : Nat → Int → Int) : Int × (Nat → Int → Int) := if (t_of B).1 = 0 then (-100 - (t_of B).2.1, B) else
  if (p_of B).1 < 0 then (-4, upT (upT B 7 (up (up (up (B 7) 0 (p_of B).2.1) 1 (p_of B).1) 2 (p_of B).2.2.1)) 11 (fun _ => 1)) else ((t_of B).2.2, upT (b_rec B) 0 (p_of B).2.2.2)
/-- what holds of a book -/
def WB (N : Int) (B : Nat → Int → Int) : Prop := WF N (B 0) ∧ (0 ≤ B 8 0 ∧ B 8 0 ≤ 4) ∧ (0 < B 8 0 → WF N (B 1)) ∧ (1 < B 8 0 → WF N (B 2)) ∧ (2 < B 8 0 → WF N (B 3)) ∧ (3 < B 8 0 → WF N (B 4)) ∧
  (B 9 0 = 0 ∨ B 9 0 = 1) ∧ (B 9 0 = 1 → WF N (B 5)) ∧ (0 ≤ B 10 0 ∧ B 10 0 ≤ 60) ∧ (∀ i, 0 ≤ B 6 i ∧ B 6 i ≤ 65535) ∧ (B 11 0 = 0 ∨ B 11 0 = 1) ∧ (∀ i, -300000000 ≤ B 7 i ∧ B 7 i ≤ 300000000)
/-- the history as the check's model lays it: the latest last -/
def h_of (B : Nat → Int → Int) (r : Int) : Int → Int := if r = 0 then B 1 else if r = 1 then B 2 else if r = 2 then B 3 else B 4
def PastOk (B : Nat → Int → Int) (P : Int → Int) : Prop := ∀ r i, 0 ≤ r → r < B 8 0 → 0 ≤ i → i < 233 → P (233 * (B 8 0 - 1 - r) + i) = h_of B r i
/-- the model's cells: X 0 then, 1 back, 2 past, 3 at, 4 value, 5 told, 6 tolds -/
def mo_ws (g : GG) (b : Nat → Nat) (B X : Nat → Int → Int) : va_W := [(b 0, .inr (6, [.ref (b 1), .ref (b 2), .ref (b 3), .ref (b 4), .int (iI (B 8 0)), .ref (b 5), .int (iI (B 9 0)), .ref (b 6), .int (iI (B 10 0)), .int (iI (X 3 0)), .int (iI (X 4 0)), .ref (b 7), .int (iI (X 6 0)), .ref (b 8), .int (iI (B 11 0))])),
  (b 1, eI g 233 (B 0)), (b 2, eI g 233 (X 0)), (b 3, eI g 233 (X 1)), (b 4, eI g 932 (X 2)), (b 5, eI g 233 (B 5)), (b 6, eI g 60 (B 6)), (b 7, eI g 93 (X 5)), (b 8, eI g 3 (B 7))]
/-- a row's content may be told otherwise beyond its places -/
theorem Wd.re {g : GG} {A : Nat → Prop} {ws : va_W} {s : State} {H : Heap} {locs : List Loc} (w : Wd g A ws s H locs) (q : Nat) {a n : Nat} {f f' : Int → Int} (hq : ws[q]? = some (a, eI g n f)) (h : ∀ j : Int, 0 ≤ j → j < n → f j = f' j) : Wd g A (ws.set q (a, eI g n f')) s H locs := by
  obtain ⟨hK, hP, hD, hS, hA, hN, hT⟩ := w
  refine ⟨hK, ?_, hD.set hq, hS, hA, hN, hT⟩
  refine hP.set hD hq ?_ (fun _ _ => rfl)
  have h0 := hP q _ hq
  show H[a]? = some (vp_cell g.2.1.1 (n, .inl (ar f')))
  rw [← ar_congr g.2.1.1 n h]
  exact h0
