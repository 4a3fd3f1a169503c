/-! a read, as page() and setting() tell it -/
theorem page_4 {F : Int → Int} {p : Int} (hp : 0 ≤ p ∧ p ≤ 23) : c_page F p 4 = r_buf F p := by
  unfold c_page
  rw [if_neg (by omega), if_neg (by omega), if_pos rfl]
theorem page_0 {F : Int → Int} {p : Int} (hp : 0 ≤ p ∧ p ≤ 23) (hl : r_placeOf F p ≠ -5) : c_page F p 0 = r_placeOf F p := by
  unfold c_page
  rw [if_neg (by omega), if_neg (by omega), if_neg (by omega), if_neg (by omega), if_neg hl, if_pos rfl]
theorem page_1 {F : Int → Int} {p : Int} (hp : 0 ≤ p ∧ p ≤ 23) (hl : r_placeOf F p ≠ -5) : c_page F p 1 = F (3 * r_placeOf F p + 66) := by
  unfold c_page
  rw [if_neg (by omega), if_neg (by omega), if_neg (by omega), if_neg (by omega), if_neg hl, if_neg (by omega), if_pos rfl]
theorem page_5 {F : Int → Int} {p : Int} (hp : 0 ≤ p ∧ p ≤ 23) : c_page F p 5 = F (p + 209) := by
  unfold c_page
  rw [if_neg (by omega), if_neg (by omega), if_neg (by omega), if_pos rfl]
theorem read3_page1 {N : Int} {F : Int → Int} {p c : Int} (h : WF N F) (hp : 0 ≤ p ∧ p ≤ 23) (hl : r_placeOf F p ≠ -5) : c_page (r_read3 F p c) p 1 = F (3 * r_placeOf F p + 66) := by
  have hq := pl_hold hl
  rw [page_1 hp (by rw [read3_place h hp]; exact hl), read3_place h hp, read3_far h (by omega) hp]
theorem read3_front {N : Int} {F : Int → Int} {p c : Int} (h : WF N F) (hp : 0 ≤ p ∧ p ≤ 23) : c_setting (r_read3 F p c) 3 = 0 ∨ c_page (r_read3 F p c) p 4 = 0 := by
  have hs := h.se
  have e4 : r_read3 F p c 4 = F 4 := read3_far h (by omega) hp
  by_cases h0 : F 4 = 0
  · refine Or.inl ?_
    unfold c_setting
    rw [if_neg (by omega)]
    show r_read3 F p c 4 = 0
    rw [e4]; exact h0
  · refine Or.inr ?_
    have hf := fronts_12 (p := p) h.he (by omega) h0
    rw [page_4 hp]
    have e11 : r_read3 F p c 11 = r_fronts F p 11 := read3_buf (by omega) hp
    have e12 : r_read3 F p c 12 = r_fronts F p 12 := read3_buf (by omega) hp
    unfold r_buf
    refine fi_is (by omega) (by rw [e11]; omega) ?_ (fun j q0 q1 => by omega)
    simp only [p_buf, decide_eq_true_eq]
    show r_read3 F p c 12 = p
    rw [e12]; exact hf.1
theorem weaker_self (F : Int → Int) (k : Int) : r_weaker F k k = 1 := by
  unfold r_weaker
  rw [if_pos (by unfold r_far; split <;> omega)]
/-- a page of a block that is moved is young elsewhere, or waits in the block -/
def Yg (b p : Int) (F : Int → Int) : Prop := ∃ j, 0 ≤ j ∧ j < 48 ∧ F (3 * j + 65) = p ∧ (j / 8 = b ∨ F (3 * j + 66) = 0)
theorem moves_w {N : Int} {F : Int → Int} {b : Int} (h : WF N F) (hb : 0 ≤ b ∧ b < 6) (hl : r_low F b ≠ -5) (hm : P_moves (r_shut F b) b) (hN : N + 2 ≤ 200000000) : ∃ s, 0 ≤ s ∧ s < 48 ∧ s / 8 ≠ b ∧ F (3 * s + 65) = -1 ∧ (∀ k, 0 ≤ k → r_moves F b (3 * k + 65) = if k = s then F (3 * r_low F b + 65) else if k = r_low F b then -2 else F (3 * k + 65)) ∧ ∀ k, 0 ≤ k → k / 8 ≠ b → r_moves F b (3 * k + 66) = if k = s then 0 else F (3 * k + 66) := by
  obtain ⟨hW, hv, hr, hp, ho, hh⟩ := moves_facts h hb hl hm hN
  have hg := givesK_rg hW hv.1 hr
  have hlo := (low_rg F b).resolve_left hl
  refine ⟨r_givesK (r_reads (r_shut F b) (r_low F b)) (F (3 * r_low F b + 65)), by omega, by omega, by omega, by rw [← hh _ (by omega)]; exact hg.2.2.2.2.2.2.1, fun k hk => ?_, fun k hk hkb => ?_⟩
  · rw [moves_eq hl hb hm, up_ne (by omega), gives_h hW hv.1 hr hk, hp, hh k hk]
    by_cases h1 : k = r_givesK (r_reads (r_shut F b) (r_low F b)) (F (3 * r_low F b + 65))
    · rw [if_pos h1, if_pos h1]
    · rw [if_neg h1, if_neg h1]
      by_cases h2 : k = r_low F b
      · rw [if_pos ⟨hl, h2⟩, if_pos h2]
      · rw [if_neg (fun q => h2 q.2), if_neg h2]
  · rw [moves_eq hl hb hm, up_ne (by omega), gives_w hW hv.1 hr hk]
    by_cases h1 : k = r_givesK (r_reads (r_shut F b) (r_low F b)) (F (3 * r_low F b + 65))
    · rw [if_pos h1, if_pos h1]
    · rw [if_neg h1, if_neg h1, reads_w (by omega) hk, if_neg (fun q => by omega), shut_far (by omega)]
      omega
theorem yg_moves {N : Int} {F : Int → Int} {b p : Int} (h : WF N F) (hb : 0 ≤ b ∧ b < 6) (hl : r_low F b ≠ -5) (hm : P_moves (r_shut F b) b) (hN : N + 2 ≤ 200000000) (hp : 0 ≤ p) (hy : Yg b p F) : Yg b p (r_moves F b) := by
  obtain ⟨s, h0, h1, h2, h3, hh, hw⟩ := moves_w h hb hl hm hN
  obtain ⟨j, j0, j1, j2, j3⟩ := hy
  by_cases hj : j = r_low F b
  · refine ⟨s, h0, h1, ?_, Or.inr ?_⟩
    · rw [hh s h0, if_pos rfl, ← hj]; exact j2
    · rw [hw s h0 h2, if_pos rfl]
  · have hs : j ≠ s := fun q => by rw [q] at j2; omega
    refine ⟨j, j0, j1, ?_, ?_⟩
    · rw [hh j j0, if_neg hs, if_neg hj]; exact j2
    · by_cases hjb : j / 8 = b
      · exact Or.inl hjb
      · refine Or.inr ?_
        rw [hw j j0 hjb, if_neg hs]
        exact j3.resolve_left hjb
theorem yg_allL : ∀ (f : Nat) (N : Int) (F : Int → Int) (b n p : Int), WF N F → (0 ≤ b ∧ b < 6) → N + 2 * (f : Int) ≤ 200000000 → 0 ≤ p → 0 ≤ (r_allL f F b n).1 → Yg b p F → Yg b p (r_allL f F b n).2 := by
  intro f
  induction f with
  | zero => intro N F b n p _ _ _ _ _ hy; exact hy
  | succ f ih =>
    intro N F b n p h hb hN hp
    rw [allL_s]
    by_cases h1 : r_low F b = -5
    · rw [if_pos h1]; exact fun _ hy => hy
    · rw [if_neg h1]
      by_cases h2 : P_moves (r_shut F b) b
      · rw [if_pos h2]
        intro h3 hy
        exact ih (N + 2) _ b (n + 1) p (wf_moves h hb h1 h2 (by omega)) hb (by omega) hp h3 (yg_moves h hb h1 h2 (by omega) hp hy)
      · rw [if_neg h2]
        exact fun q => absurd q (by show ¬ ((0 : Int) ≤ -4); omega)
/-- behind the move of its block a page's weakening is 0 -/
theorem all_young {N : Int} {F : Int → Int} {b p : Int} (h : WF N F) (hb : 0 ≤ b ∧ b < 6) (hr : 0 ≤ (r_all F b).1) (hN : N + 20 ≤ 200000000) (hp : 0 ≤ p) (hpb : r_placeOf F p ≠ -5) (hpl : r_placeOf F p / 8 = b) : (r_all F b).2 (3 * r_placeOf (r_all F b).2 p + 66) = 0 := by
  have hW := (all_ok h hb hr hN).1
  have hnn : 0 ≤ (r_allL 9 (r_shut F b) b 0).1 := by
    unfold r_all at hr
    split at hr <;> first | omega | exact hr
  have hc : r_cnt (r_shut F b) b 0 < ((9 : Nat) : Int) := by have := cnt_rg (r_shut F b) b 0; omega
  obtain ⟨a1, a2, a3⟩ := allL_ok 9 N _ b 0 (wf_shut h b) hb (by omega) hc hnn
  have hq := pl_hold hpb
  have hy : Yg b p (r_shut F b) := ⟨r_placeOf F p, hq.1, hq.2.1, by rw [shut_far (by omega)]; exact hq.2.2, Or.inl hpl⟩
  obtain ⟨j, j0, j1, j2, j3⟩ := yg_allL 9 N _ b 0 p (wf_shut h b) hb (by omega) hp hnn hy
  have hjb : j / 8 ≠ b := fun q => by
    have := (low_none hb.1).mp a2 j (by omega) (by omega)
    omega
  have e : (r_all F b).2 = r_erases (r_allL 9 (r_shut F b) b 0).2 b := by
    unfold r_all
    rw [if_neg (by omega)]
  have eh : (r_all F b).2 (3 * j + 65) = p := by rw [e, er_h hb j0, if_neg hjb]; exact j2
  have ew : (r_all F b).2 (3 * j + 66) = 0 := by rw [e, er_w hb j0, if_neg hjb]; exact j3.resolve_left hjb
  have ep : r_placeOf (r_all F b).2 p = j := place_is j0 j1 eh (fun i i0 i1 i2 => hW.un i0 i1 j0 j1 (by omega) (i2.trans eh.symm))
  rw [ep]; exact ew
/-- what a read that is done tells -/
theorem rd_fact {N : Int} {F : Int → Int} {p : Int} (h : WF N F) (hp : 0 ≤ p ∧ p ≤ 23) (hN : N + 100 ≤ 200000000) (hr : 0 ≤ (r_read F p).1) :
    (((r_read F p).1 = 0 ∧ 0 ≤ c_page F p 4 ∧ c_page (r_read F p).2 p 1 = c_page F p 1) ∨ ((r_read F p).1 = 1 ∧ c_page F p 4 < 0 ∧ c_page (r_read F p).2 p 1 = c_page F p 1 + 1) ∨ ((r_read F p).1 = 2 ∧ c_page F p 4 < 0 ∧ c_page (r_read F p).2 p 1 = 1)) ∧ (c_setting (r_read F p).2 3 = 0 ∨ c_page (r_read F p).2 p 4 = 0) := by
  have hbr := buf_rg F p
  rw [page_4 hp]
  unfold r_read at hr ⊢
  by_cases h1 : p < 0 ∨ 23 < p ∨ r_placeOf F p = -5
  · rw [if_pos h1] at hr; exact absurd hr (by show ¬ ((0 : Int) ≤ -1); omega)
  · rw [if_neg h1] at hr ⊢
    have hl : r_placeOf F p ≠ -5 := by omega
    have hq := pl_hold hl
    by_cases h2 : r_buf F p ≠ -5
    · rw [if_pos h2]
      exact ⟨Or.inl ⟨rfl, by omega, by rw [page_1 hp hl]; exact read3_page1 h hp hl⟩, read3_front h hp⟩
    · rw [if_neg h2] at hr ⊢
      by_cases h3 : r_left F (r_placeOf F p) ≠ 0
      · rw [if_pos h3]
        have hW := wf_reads h ⟨hq.1, hq.2.1⟩ h3 (by omega)
        have ep : r_placeOf (r_reads F (r_placeOf F p)) p = r_placeOf F p := place_congr (fun k q0 _ => reads_h ⟨hq.1, hq.2.1⟩ q0)
        have e1 := read3_page1 (c := 1) hW hp (by rw [ep]; exact hl)
        rw [ep, reads_w ⟨hq.1, hq.2.1⟩ hq.1, if_pos ⟨rfl, by rw [hq.2.2]; exact hp.1⟩, weaker_self] at e1
        exact ⟨Or.inr (Or.inl ⟨rfl, by omega, by rw [page_1 hp hl]; exact e1⟩), read3_front hW hp⟩
      · rw [if_neg h3] at hr ⊢
        by_cases h4 : F 5 = 1 ∧ 0 ≤ (r_all F (r_placeOf F p / 8)).1 ∧ 0 < r_left (r_all F (r_placeOf F p / 8)).2 (r_placeOf (r_all F (r_placeOf F p / 8)).2 p)
        · rw [if_pos h4]
          have ha := all_ok h (b := r_placeOf F p / 8) (by omega) h4.2.1 (by omega)
          have hy := all_young h (b := r_placeOf F p / 8) (by omega) h4.2.1 (by omega) hp.1 hl rfl
          have hl2 := ha.2 p hp.1 hl
          have hp2 := pl_hold hl2
          have hW := wf_reads ha.1 ⟨hp2.1, hp2.2.1⟩ (by omega) (by omega)
          have ep : r_placeOf (r_reads (r_all F (r_placeOf F p / 8)).2 (r_placeOf (r_all F (r_placeOf F p / 8)).2 p)) p = r_placeOf (r_all F (r_placeOf F p / 8)).2 p := place_congr (fun k q0 _ => reads_h ⟨hp2.1, hp2.2.1⟩ q0)
          have e1 := read3_page1 (c := 2) hW hp (by rw [ep]; exact hl2)
          rw [ep, reads_w ⟨hp2.1, hp2.2.1⟩ hp2.1, if_pos ⟨rfl, by rw [hp2.2.2]; exact hp.1⟩, weaker_self, hy] at e1
          exact ⟨Or.inr (Or.inr ⟨rfl, by omega, e1⟩), read3_front hW hp⟩
        · rw [if_neg h4] at hr; exact absurd hr (by show ¬ ((0 : Int) ≤ -4); omega)
/-! the books -/
def BB (B : Nat → Int → Int) : Prop := BI (B 0) ∧ (0 < B 8 0 → BI (B 1)) ∧ (1 < B 8 0 → BI (B 2)) ∧ (2 < B 8 0 → BI (B 3)) ∧ (3 < B 8 0 → BI (B 4)) ∧ (B 9 0 = 1 → BI (B 5))
theorem bb_rec {B : Nat → Int → Int} {f : Int → Int} (h : BB B) (k : 0 ≤ B 8 0 ∧ B 8 0 ≤ 4) (hf : BI f) : BB (upT (b_rec B) 0 f) := by
  obtain ⟨a0, a1, a2, a3, a4, a5⟩ := h
  have e8 : upT (b_rec B) 0 f 8 0 = if B 8 0 = 4 then 4 else B 8 0 + 1 := rfl
  refine ⟨hf, fun _ => a0, fun q => ?_, fun q => ?_, fun q => ?_, a5⟩
  · rw [e8] at q; exact a1 (by omega)
  · rw [e8] at q; exact a2 (by omega)
  · rw [e8] at q; exact a3 (by omega)
theorem bb_act {B : Nat → Int → Int} {x : Int × (Int → Int)} (h : BB B) (k : 0 ≤ B 8 0 ∧ B 8 0 ≤ 4) (hx : 0 ≤ x.1 → BI x.2) : BB (act B x).2 := by
  by_cases hc : x.1 < 0
  · rw [act_n hc]; exact h
  · rw [act_p (by omega)]; exact bb_rec h k (hx (by omega))
theorem bb_undo {B : Nat → Int → Int} (h : BB B) (k : 0 ≤ B 8 0 ∧ B 8 0 ≤ 4) : BB (c_undo B).2 := by
  unfold c_undo
  by_cases h1 : B 8 0 = 0
  · rw [if_pos h1]; exact h
  · rw [if_neg h1]
    obtain ⟨a0, a1, a2, a3, a4, a5⟩ := h
    have e8 : b_pop B 8 0 = B 8 0 - 1 := rfl
    show BB (b_pop B)
    refine ⟨a1 (by omega), fun q => a2 (by rw [e8] at q; omega), fun q => a3 (by rw [e8] at q; omega), fun q => a4 (by rw [e8] at q; omega), fun q => ?_, a5⟩
    rw [e8] at q
    omega
theorem bb_keep {B : Nat → Int → Int} (h : BB B) : BB (c_keep B).2 := ⟨h.1, h.2.1, h.2.2.1, h.2.2.2.1, h.2.2.2.2.1, fun _ => h.1⟩
theorem bb_restore {B : Nat → Int → Int} (h : BB B) (k : 0 ≤ B 8 0 ∧ B 8 0 ≤ 4) (j : B 9 0 = 0 ∨ B 9 0 = 1) : BB (c_restore B).2 := by
  unfold c_restore
  by_cases h1 : B 9 0 = 0
  · rw [if_pos h1]; exact h
  · rw [if_neg h1]; exact bb_rec h k (h.2.2.2.2.2 (by omega))
theorem act_err {B : Nat → Int → Int} {x : Int × (Int → Int)} (h : (act B x).1 < 0) : (act B x).2 = B := by
  by_cases hc : x.1 < 0
  · rw [act_n hc]
  · rw [act_p (by omega)] at h; exact absurd h (by show ¬ (x.1 < 0); omega)
theorem act_1 (B : Nat → Int → Int) (x : Int × (Int → Int)) : (act B x).1 = x.1 := by unfold act; split <;> rfl
theorem bi_0 : BI f_0 := by
  refine ⟨by decide +kernel, by decide +kernel, by decide +kernel, ⟨fun k a b => ?_, fun i j a b c => ?_⟩⟩
  · have e : f_0 11 = 0 := by decide +kernel
    omega
  · have e : f_0 11 = 0 := by decide +kernel
    omega
theorem bb_0 : BB b_0 := ⟨bi_0, fun q => absurd q (by decide), fun q => absurd q (by decide), fun q => absurd q (by decide), fun q => absurd q (by decide), fun q => absurd q (by decide)⟩
