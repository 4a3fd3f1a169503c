/-! an act of the law -/
def a_val (a b : Int) : Int := if x_low a 5 = 0 then 10 + x_low b 91 else if x_low a 5 = 1 then 1 + x_low b 60 else x_low b 2
def a_act (B : Nat → Int → Int) (t a b : Int) : Int × (Nat → Int → Int) := if t < 4 then c_write B (x_low a 14) else if t < 8 then c_read B (x_low a 14) else if t = 8 then c_forget B (x_low a 14) else if t = 9 then c_moveBlock B (x_low a 6) else if t < 12 then c_pass B (1 + x_low b 30) else
  if t = 12 then c_mark B (x_low a 6) (if x_low b 2 = 0 then 1 else 0) else if t = 13 then c_set B (x_low a 5) (a_val a b) else if t = 14 then c_setKind B (x_low a 6) (x_low b 3) else if x_low b 3 = 0 then c_undo B else if x_low b 3 = 1 then c_keep B else c_restore B
section AACT
variable {N t a b : Int} {B : Nat → Int → Int}
/-- what holds of each of the calls holds of the act -/
theorem a_all {P : Int × (Nat → Int → Int) → Prop} (h0 : ∀ v, P (c_write B v)) (h1 : ∀ v, P (c_read B v)) (h2 : ∀ v, P (c_forget B v)) (h3 : ∀ v, P (c_moveBlock B v)) (h4 : ∀ v, P (c_pass B v)) (h5 : ∀ v i, i = 0 ∨ i = 1 → P (c_mark B v i)) (h6 : ∀ v u, P (c_set B v u)) (h7 : ∀ v u, P (c_setKind B v u)) (h8 : P (c_undo B)) (h9 : P (c_keep B)) (h10 : P (c_restore B)) : P (a_act B t a b) := by
  unfold a_act
  split
  · exact h0 _
  · split
    · exact h1 _
    · split
      · exact h2 _
      · split
        · exact h3 _
        · split
          · exact h4 _
          · split
            · exact h5 _ _ (by split <;> omega)
            · split
              · exact h6 _ _
              · split
                · exact h7 _ _
                · split
                  · exact h8
                  · split
                    · exact h9
                    · exact h10
theorem a_wb (h : WB N B) (hN : N + 210000 ≤ 200000000) : WB (N + 210000) (a_act B t a b).2 :=
  a_all (P := fun x => WB (N + 210000) x.2) (fun _ => wb_write h hN) (fun _ => wb_read h hN) (fun _ => wb_forget h hN) (fun _ => wb_moveBlock h hN) (fun _ => wb_pass h hN) (fun _ _ hi => wb_mark h hi hN) (fun _ _ => wb_set h hN) (fun _ _ => wb_setKind h hN) (wb_undo h hN) (wb_keep h hN) (wb_restore h hN)
theorem bb_mark {v i : Int} (h : WB N B) (hb : BB B) : BB (c_mark B v i).2 := by
  unfold c_mark
  split
  · exact hb
  · split
    · exact hb
    · split
      · exact hb
      · exact bb_rec hb h.k (bi_up h.1 hb.1 (by omega))
theorem bb_setKind {v i : Int} (h : WB N B) (hb : BB B) : BB (c_setKind B v i).2 := by
  unfold c_setKind
  by_cases h1 : v < 0 ∨ 5 < v
  · rw [if_pos h1]; exact hb
  · rw [if_neg h1]
    split
    · exact hb
    · split
      · exact hb
      · split
        · exact hb
        · exact bb_rec hb h.k (bi_up h.1 hb.1 (by omega))
theorem bb_set {v i : Int} (h : WB N B) (hb : BB B) : BB (c_set B v i).2 := by
  unfold c_set
  split
  · exact hb
  · by_cases h2 : ¬ S_ok v i
    · rw [if_pos h2]; exact hb
    · rw [if_neg h2]
      split
      · exact hb
      · exact bb_rec hb h.k (bi_set h.1 hb.1 (by omega))
theorem bb_forget {v : Int} (h : WB N B) (hb : BB B) : BB (c_forget B v).2 := by
  unfold c_forget
  by_cases h1 : v < 0 ∨ 23 < v ∨ r_placeOf (B 0) v = -5
  · rw [if_pos h1]; exact hb
  · rw [if_neg h1]; exact bb_rec hb h.k (bi_forget h.1 hb.1 (by omega))
theorem bb_moveBlock {v : Int} (h : WB N B) (hb : BB B) (hN : N + 210000 ≤ 200000000) : BB (c_moveBlock B v).2 := by
  unfold c_moveBlock
  by_cases h1 : v < 0 ∨ 5 < v
  · rw [if_pos h1]; exact hb
  · rw [if_neg h1]
    split
    · exact hb
    · exact bb_act hb h.k (fun q => bi_all h.1 hb.1 (by omega) q (by omega))
theorem a_bb (h : WB N B) (hb : BB B) (hN : N + 210000 ≤ 200000000) : BB (a_act B t a b).2 :=
  a_all (P := fun x => BB x.2) (fun _ => bb_act hb h.k (fun q => bi_write h.1 hb.1 q)) (fun _ => bb_act hb h.k (fun q => bi_read h.1 hb.1 (by omega) q)) (fun _ => bb_forget h hb) (fun _ => bb_moveBlock h hb hN) (fun _ => bb_act hb h.k (fun _ => bi_pass h.1 hb.1 (by omega))) (fun _ _ _ => bb_mark h hb) (fun _ _ => bb_set h hb) (fun _ _ => bb_setKind h hb) (bb_undo hb h.k) (bb_keep hb) (bb_restore hb h.k h.j)
/-- an error changes nothing; what is told -/
def AErr (B : Nat → Int → Int) (x : Int × (Nat → Int → Int)) : Prop := (x.1 < 0 → x.2 = B) ∧ -300000000 ≤ x.1 ∧ x.1 ≤ 300000000
theorem ae_act {x : Int × (Int → Int)} (h : -300000000 ≤ x.1 ∧ x.1 ≤ 300000000) : AErr B (act B x) := ⟨act_err, by rw [act_1]; exact h⟩
theorem a_err (h : WB N B) (hb : BB B) : AErr B (a_act B t a b) := by
  have hk := h.k
  have b0 := h.1.bd 0
  refine a_all (P := AErr B) (fun v => ?_) (fun v => ?_) (fun v => ?_) (fun v => ?_) (fun v => ?_) (fun v i _ => ?_) (fun v u => ?_) (fun v u => ?_) ?_ ?_ ?_
  · exact ae_act (by have := write_rg h.1 v; omega)
  · exact ae_act (by have := read_rg h.1 v; omega)
  · rw [c_forget_eq]; exact ae_act (k_forget_rg h.1 v)
  · rw [c_moveB_eq]; exact ae_act (k_moveB_rg h.1 v)
  · exact ae_act (by have := pass_rg h.1 v; omega)
  · rw [c_mark_eq]; exact ae_act (k_mark_rg h.1 v i)
  · rw [c_set_eq h.1]; exact ae_act (k_set_rg h.1 v u)
  · rw [c_setKind_eq h.1]; exact ae_act (k_setKind_rg h.1 v u)
  · unfold c_undo
    split
    · exact ⟨fun _ => rfl, show (-300000000 : Int) ≤ -5 by decide, show (-5 : Int) ≤ 300000000 by decide⟩
    · exact ⟨fun q => absurd q (by show ¬ (B 8 0 - 1 < 0); omega), by show -300000000 ≤ B 8 0 - 1; omega, by show B 8 0 - 1 ≤ 300000000; omega⟩
  · have := hb.1.1
    exact ⟨fun q => absurd q (by show ¬ (B 0 0 < 0); omega), by show -300000000 ≤ B 0 0; omega, by show B 0 0 ≤ 300000000; omega⟩
  · have hj := h.j
    unfold c_restore
    by_cases h1 : B 9 0 = 0
    · rw [if_pos h1]; exact ⟨fun _ => rfl, show (-300000000 : Int) ≤ -5 by decide, show (-5 : Int) ≤ 300000000 by decide⟩
    · rw [if_neg h1]
      have h2 := (hb.2.2.2.2.2 (by omega)).1
      have h3 := (h.sh (by omega)).bd 0
      exact ⟨fun q => absurd q (by show ¬ (B 5 0 < 0); omega), by show -300000000 ≤ B 5 0; omega, by show B 5 0 ≤ 300000000; omega⟩
/-- a read that is done -/
theorem a_read (h : WB N B) (hN : N + 210000 ≤ 200000000) (ht : 4 ≤ t ∧ t < 8) {p : Int} (hp : p = x_low a 14) (hr : 0 ≤ (a_act B t a b).1) :
    (((a_act B t a b).1 = 0 ∧ 0 ≤ c_page (B 0) p 4 ∧ c_page ((a_act B t a b).2 0) p 1 = c_page (B 0) p 1) ∨ ((a_act B t a b).1 = 1 ∧ c_page (B 0) p 4 < 0 ∧ c_page ((a_act B t a b).2 0) p 1 = c_page (B 0) p 1 + 1) ∨ ((a_act B t a b).1 = 2 ∧ c_page (B 0) p 4 < 0 ∧ c_page ((a_act B t a b).2 0) p 1 = 1)) ∧ (c_setting ((a_act B t a b).2 0) 3 = 0 ∨ c_page ((a_act B t a b).2 0) p 4 = 0) := by
  have e : a_act B t a b = c_read B p := by
    unfold a_act
    rw [if_neg (by omega), if_pos (by omega), hp]
  have hlt := low_lt a (n := 14) (by omega)
  rw [e] at hr ⊢
  unfold c_read at hr ⊢
  rw [act_1] at hr
  rw [act_p hr]
  exact rd_fact h.1 (by omega) (by omega) hr
end AACT
