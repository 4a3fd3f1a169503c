/-! what every state keeps: its buffer holds unlike pages that have a place, its reads add up by pages, its tick isn't below 0 -/
def BJ (P : Int → Prop) (F : Int → Int) : Prop := (∀ k, 0 ≤ k → k < F 11 → 0 ≤ F (k + 12) ∧ F (k + 12) ≤ 23 ∧ P (F (k + 12))) ∧ (∀ i j, 0 ≤ i → i < j → j < F 11 → F (i + 12) ≠ F (j + 12))
theorem BJ.mono {P R : Int → Prop} {F : Int → Int} (h : BJ P F) (hp : ∀ v, 0 ≤ v → v ≤ 23 → P v → R v) : BJ R F := ⟨fun k a b => by have := h.1 k a b; exact ⟨this.1, this.2.1, hp _ this.1 this.2.1 this.2.2⟩, h.2⟩
theorem BJ.congr {P : Int → Prop} {F G : Int → Int} (h : BJ P F) (h4 : F 11 ≤ 4) (e : ∀ i, 11 ≤ i → i < 16 → G i = F i) : BJ P G := by
  have e11 := e 11 (by omega) (by omega)
  refine ⟨fun k a b => ?_, fun i j a b c => ?_⟩
  · rw [e11] at b
    rw [e (k + 12) (by omega) (by omega)]; exact h.1 k a b
  · rw [e11] at c
    rw [e (i + 12) (by omega) (by omega), e (j + 12) (by omega) (by omega)]; exact h.2 i j a b c
theorem BJ.cut {P : Int → Prop} {F G : Int → Int} (h : BJ P F) (h4 : F 11 ≤ 4) (e : ∀ i, 12 ≤ i → i < 16 → G i = F i) (h11 : G 11 ≤ F 11) : BJ P G := by
  refine ⟨fun k a b => ?_, fun i j a b c => ?_⟩
  · rw [e (k + 12) (by omega) (by omega)]; exact h.1 k a (by omega)
  · rw [e (i + 12) (by omega) (by omega), e (j + 12) (by omega) (by omega)]; exact h.2 i j a b (by omega)
theorem buf_no {F : Int → Int} {p : Int} (h : r_buf F p = -5) : ∀ k, 0 ≤ k → k < F 11 → F (k + 12) ≠ p := fun k a b => by
  unfold r_buf at h
  have := fi_no (by omega) h k a (by omega)
  simp only [p_buf, decide_eq_true_eq] at this
  exact this
theorem BJ.leaves {P : Int → Prop} {F : Int → Int} (h : BJ P F) (p : Int) : BJ (fun v => P v ∧ v ≠ p) (r_leaves F p) := by
  by_cases hq : r_buf F p = -5
  · have e : r_leaves F p = F := by unfold r_leaves; rw [if_pos hq]
    rw [e]
    exact ⟨fun k a b => by have := h.1 k a b; exact ⟨this.1, this.2.1, this.2.2, buf_no hq k a b⟩, h.2⟩
  · have hb := (buf_rg F p).resolve_left hq
    have e11 : r_leaves F p 11 = F 11 - 1 := by rw [leaves_11, if_neg hq]
    have e : ∀ k, 0 ≤ k → k < F 11 - 1 → r_leaves F p (k + 12) = if r_buf F p ≤ k then F (k + 1 + 12) else F (k + 12) := fun k a b => by
      rw [leaves_form, if_neg hq, if_neg (by omega)]
      by_cases c : r_buf F p ≤ k
      · rw [if_pos (by omega), if_pos c, show k + 12 + 1 = k + 1 + 12 from by omega]
      · rw [if_neg (by omega), if_neg c]
    refine ⟨fun k a b => ?_, fun i j a b c => ?_⟩
    · rw [e11] at b
      rw [e k a b]
      by_cases c : r_buf F p ≤ k
      · rw [if_pos c]
        have h1 := h.1 (k + 1) (by omega) (by omega)
        refine ⟨h1.1, h1.2.1, h1.2.2, fun q => ?_⟩
        exact h.2 (r_buf F p) (k + 1) hb.1 (by omega) (by omega) (by rw [q]; exact hb.2.2)
      · rw [if_neg c]
        have h1 := h.1 k a (by omega)
        refine ⟨h1.1, h1.2.1, h1.2.2, fun q => ?_⟩
        exact h.2 k (r_buf F p) a (by omega) hb.2.1 (by rw [q]; exact hb.2.2.symm)
    · rw [e11] at c
      rw [e i a (by omega), e j (by omega) (by omega)]
      by_cases ci : r_buf F p ≤ i
      · rw [if_pos ci, if_pos (by omega)]; exact h.2 (i + 1) (j + 1) (by omega) (by omega) (by omega)
      · rw [if_neg ci]
        by_cases cj : r_buf F p ≤ j
        · rw [if_pos cj]; exact h.2 i (j + 1) a (by omega) (by omega)
        · rw [if_neg cj]; exact h.2 i j a b (by omega)
theorem fronts_12 {F : Int → Int} {p : Int} (hh : 0 ≤ F 11 ∧ F 11 ≤ F 4) (h4 : F 4 ≤ 4) (h0 : F 4 ≠ 0) : r_fronts F p 12 = p ∧ 0 < r_fronts F p 11 := by
  have hf := frn_rg (p := p) hh (by omega)
  rw [fronts_form hh h4, if_neg h0, if_neg (by omega), if_pos rfl, fronts_form hh h4, if_neg h0, if_pos rfl]
  exact ⟨rfl, by omega⟩
theorem BJ.fronts {P : Int → Prop} {F : Int → Int} {p : Int} (h : BJ P F) (hp : 0 ≤ p ∧ p ≤ 23 ∧ P p) (hh : 0 ≤ F 11 ∧ F 11 ≤ F 4) (h4 : F 4 ≤ 4) : BJ P (r_fronts F p) := by
  have hl := h.leaves p
  by_cases c4 : F 4 = 0
  · have e : r_fronts F p = r_leaves F p := by funext i; rw [fronts_form hh h4, if_pos c4]
    rw [e]; exact hl.mono (fun v _ _ q => q.1)
  · have hf := frn_rg (p := p) hh (by omega)
    have e11 : r_fronts F p 11 = frn F p + 1 := by rw [fronts_form hh h4, if_neg c4, if_pos rfl]
    have e12 := (fronts_12 (p := p) hh h4 c4).1
    have hle : frn F p ≤ r_leaves F p 11 := by unfold frn; split <;> omega
    have e : ∀ k, 1 ≤ k → k < frn F p + 1 → r_fronts F p (k + 12) = r_leaves F p (k - 1 + 12) := fun k a b => by
      rw [fronts_form hh h4, if_neg c4, if_neg (by omega), if_neg (by omega), if_pos (by omega), show k + 12 - 1 = k - 1 + 12 from by omega]
    refine ⟨fun k a b => ?_, fun i j a b c => ?_⟩
    · rw [e11] at b
      by_cases ck : k = 0
      · rw [ck, show (0 : Int) + 12 = 12 from rfl, e12]; exact hp
      · rw [e k (by omega) b]
        have := hl.1 (k - 1) (by omega) (by omega)
        exact ⟨this.1, this.2.1, this.2.2.1⟩
    · rw [e11] at c
      rw [e j (by omega) c]
      by_cases ci : i = 0
      · rw [ci, show (0 : Int) + 12 = 12 from rfl, e12]
        have := hl.1 (j - 1) (by omega) (by omega)
        exact fun q => this.2.2.2 q.symm
      · rw [e i (by omega) (by omega)]
        exact hl.2 (i - 1) (j - 1) (by omega) (by omega) (by omega)
def BI (F : Int → Int) : Prop := 0 ≤ F 0 ∧ F 8 ≤ F 7 ∧ sm 24 209 F = F 7 ∧ BJ (fun v => r_placeOf F v ≠ -5) F
/-- what acts on places leave -/
def Keep (F G : Int → Int) : Prop := (∀ i, i = 0 ∨ i = 4 ∨ i = 7 ∨ i = 8 ∨ 11 ≤ i ∧ i < 16 ∨ 209 ≤ i → G i = F i) ∧ ∀ v, 0 ≤ v → r_placeOf F v ≠ -5 → r_placeOf G v ≠ -5
theorem Keep.rf {F : Int → Int} : Keep F F := ⟨fun _ _ => rfl, fun _ _ q => q⟩
theorem Keep.tr {F G H : Int → Int} (h : Keep F G) (k : Keep G H) : Keep F H := ⟨fun i q => (k.1 i q).trans (h.1 i q), fun v a b => k.2 v a (h.2 v a b)⟩
theorem BI.keep {F G : Int → Int} (h : BI F) (k : Keep F G) (h4 : F 11 ≤ 4) : BI G := by
  have e0 := k.1 0 (by omega)
  have e7 := k.1 7 (by omega)
  have e8 := k.1 8 (by omega)
  refine ⟨by rw [e0]; exact h.1, by rw [e7, e8]; exact h.2.1, by rw [e7, ← h.2.2.1]; exact sm_congr (fun j a b => k.1 j (by omega)), ?_⟩
  exact (h.2.2.2.congr h4 (fun i a b => k.1 i (by omega))).mono (fun v a b q => k.2 v a q)
theorem Keep.same {F G : Int → Int} (e : ∀ i, i = 0 ∨ i = 4 ∨ i = 7 ∨ i = 8 ∨ 11 ≤ i ∧ i < 16 ∨ 209 ≤ i → G i = F i) (hp : ∀ k, 0 ≤ k → k < 48 → G (3 * k + 65) = F (3 * k + 65)) : Keep F G := ⟨e, fun v _ q => by rw [place_congr hp]; exact q⟩
theorem Keep.moves {N : Int} {F : Int → Int} {b : Int} (h : WF N F) (hb : 0 ≤ b ∧ b < 6) (hl : r_low F b ≠ -5) (hm : P_moves (r_shut F b) b) (hN : N + 2 ≤ 200000000) : Keep F (r_moves F b) :=
  ⟨fun i q => moves_far h hb hl (by omega) (by omega) (by omega) (by omega) hN, fun v q0 q1 => moves_place h hb hl hm hN q0 q1⟩
theorem Keep.shut {F : Int → Int} {b : Int} : Keep F (r_shut F b) := Keep.same (fun i q => shut_far (by omega)) (fun k _ _ => shut_far (by omega))
theorem Keep.erases {F : Int → Int} {b : Int} (hb : 0 ≤ b ∧ b < 6) (hl : r_low F b = -5) : Keep F (r_erases F b) :=
  ⟨fun i q => er_far hb (by omega) (by omega) (by omega) (by omega) (by omega) (by omega), fun v q0 q1 => er_place hb hl q0 q1⟩
theorem Keep.gives {N : Int} {F : Int → Int} {v : Int} (hW : WF N F) (hv : 0 ≤ v) (hr : ¬ (P_full F ∧ r_best F = -5)) : Keep F (r_gives F v) := by
  refine ⟨fun i q => gives_far hW hv hr (by omega) (by omega), fun u q0 q1 q => ?_⟩
  have hg := givesK_rg hW hv hr
  have hq := pl_hold q1
  by_cases he : u = v
  · have := place_none.mp q (r_givesK F v) (by omega) (by omega)
    rw [gives_h hW hv hr (by omega), if_pos rfl] at this
    exact this he.symm
  · have := place_none.mp q _ hq.1 hq.2.1
    rw [gives_h hW hv hr hq.1] at this
    by_cases c1 : r_placeOf F u = r_givesK F v
    · rw [c1] at hq; omega
    · rw [if_neg c1] at this
      by_cases c2 : r_placeOf F v ≠ -5 ∧ r_placeOf F u = r_placeOf F v
      · have h2 := pl_hold c2.1
        rw [← c2.2] at h2
        exact he (hq.2.2.symm.trans h2.2.2)
      · rw [if_neg c2] at this
        exact this hq.2.2
theorem Keep.reads {F : Int → Int} {r : Int} (hr : 0 ≤ r ∧ r < 48) : Keep F (r_reads F r) := Keep.same (fun i q => reads_far hr (by omega) (by omega)) (fun k h0 _ => reads_h hr h0)
theorem Keep.leaves {F : Int → Int} (h : F 11 ≤ 4) (p : Int) : ∀ v, r_placeOf (r_leaves F p) v = r_placeOf F v := fun v => (same_leaves h p).place v
/-- the whole of a block is moved -/
theorem keep_allL : ∀ (f : Nat) (N : Int) (F : Int → Int) (b n : Int), WF N F → (0 ≤ b ∧ b < 6) → N + 2 * (f : Int) ≤ 200000000 → 0 ≤ (r_allL f F b n).1 → Keep F (r_allL f F b n).2 := by
  intro f
  induction f with
  | zero => intro N F b n _ _ _ _; exact Keep.rf
  | succ f ih =>
    intro N F b n h hb hN
    rw [allL_s]
    by_cases h1 : r_low F b = -5
    · rw [if_pos h1]; exact fun _ => Keep.rf
    · rw [if_neg h1]
      by_cases h2 : P_moves (r_shut F b) b
      · rw [if_pos h2]
        intro h3
        exact (Keep.moves h hb h1 h2 (by omega)).tr (ih (N + 2) _ b (n + 1) (wf_moves h hb h1 h2 (by omega)) hb (by omega) h3)
      · rw [if_neg h2]
        exact fun q => absurd q (by show ¬ ((0 : Int) ≤ -4); omega)
theorem keep_all {N : Int} {F : Int → Int} {b : Int} (h : WF N F) (hb : 0 ≤ b ∧ b < 6) (hr : 0 ≤ (r_all F b).1) (hN : N + 20 ≤ 200000000) : Keep F (r_all F b).2 := by
  have hnn : 0 ≤ (r_allL 9 (r_shut F b) b 0).1 := by
    unfold r_all at hr
    split at hr <;> first | omega | exact hr
  have hc : r_cnt (r_shut F b) b 0 < ((9 : Nat) : Int) := by have := cnt_rg (r_shut F b) b 0; omega
  obtain ⟨a1, a2, a3⟩ := allL_ok 9 N _ b 0 (wf_shut h b) hb (by omega) hc hnn
  have hk := keep_allL 9 N _ b 0 (wf_shut h b) hb (by omega) hnn
  unfold r_all
  rw [if_neg (by omega)]
  exact (Keep.shut.tr hk).tr (Keep.erases hb a2)
theorem keep_tickL : ∀ (f : Nat) (N : Int) (F : Int → Int) (n : Int), WF N F → N + 3 * (f : Int) ≤ 200000000 → Keep F (r_tickL f F n).2 := by
  intro f
  induction f with
  | zero => intro N F n _ _; exact Keep.rf
  | succ f ih =>
    intro N F n h hN
    rw [tickL_s]
    by_cases h1 : F 3 ≤ n ∨ r_markedAt F 0 = -5
    · rw [if_pos h1]; exact Keep.rf
    · rw [if_neg h1]
      have hat := at_ok (F := F) (r := 0) (fun q => h1 (Or.inr q))
      by_cases h2 : r_low F (r_markedAt F 0) = -5
      · rw [if_pos h2]
        exact (Keep.erases hat h2).tr (ih (N + 1) _ n (wf_erases h hat h2 (by omega)) (by omega))
      · rw [if_neg h2]
        by_cases h3 : P_moves (r_shut F (r_markedAt F 0)) (r_markedAt F 0)
        · rw [if_pos h3]
          have hm := wf_moves h hat h2 h3 (by omega)
          have hk := Keep.moves h hat h2 h3 (by omega)
          by_cases h4 : r_low (r_moves F (r_markedAt F 0)) (r_markedAt F 0) = -5
          · rw [if_pos h4]
            exact (hk.tr (Keep.erases hat h4)).tr (ih (N + 2 + 1) _ (n + 1) (wf_erases hm hat h4 (by omega)) (by omega))
          · rw [if_neg h4]
            exact hk.tr (ih (N + 2) _ (n + 1) hm (by omega))
        · rw [if_neg h3]
          show Keep F (r_moves F (r_markedAt F 0))
          unfold r_moves
          rw [if_neg h3]
          exact Keep.shut
theorem WF.h4 {N : Int} {F : Int → Int} (h : WF N F) : F 11 ≤ 4 := by have := h.he; have := h.se; omega
theorem bi_tick {N : Int} {F : Int → Int} (h : WF N F) (hb : BI F) (hN : N + 100 ≤ 200000000) : BI (r_tick F).2 := by
  have h0 : BI (up F 0 (F 0 + 1)) := by
    have e : ∀ i, i ≠ 0 → up F 0 (F 0 + 1) i = F i := fun i q => up_ne q
    refine ⟨by rw [up_eq rfl]; have := hb.1; omega, by rw [e 8 (by omega), e 7 (by omega)]; exact hb.2.1, by rw [e 7 (by omega), ← hb.2.2.1]; exact sm_congr (fun j a b => e j (by omega)), ?_⟩
    exact (hb.2.2.2.congr h.h4 (fun i a b => e i (by omega))).mono (fun v a b q => by rw [place_congr (fun k _ _ => e (3 * k + 65) (by omega))]; exact q)
  exact h0.keep (keep_tickL 32 (N + 1) _ 0 (wf_tick0 h (by omega)) (by omega)) (wf_tick0 h (by omega)).h4
theorem bi_passL : ∀ (f : Nat) (N : Int) (F : Int → Int) (n : Int), WF N F → BI F → N + 100 * (f : Int) ≤ 200000000 → BI (r_passL f F n).2 := by
  intro f
  induction f with
  | zero => intro N F n _ hb _; exact hb
  | succ f ih =>
    intro N F n h hb hN
    exact ih (N + 100) _ _ (wf_tick h (by omega)) (bi_tick h hb (by omega)) (by omega)
theorem bi_pass {N : Int} {F : Int → Int} {v : Int} (h : WF N F) (hb : BI F) (hN : N + 10000 ≤ 200000000) : BI (r_pass F v).2 := by
  unfold r_pass
  by_cases h1 : v < 1 ∨ 99 < v
  · rw [if_pos h1]; exact hb
  · rw [if_neg h1]
    by_cases h2 : 99999 < F 0 + v
    · rw [if_pos h2]; exact hb
    · rw [if_neg h2]; exact bi_passL v.toNat N F 0 h hb (by omega)
theorem bi_all {N : Int} {F : Int → Int} {b : Int} (h : WF N F) (hi : BI F) (hb : 0 ≤ b ∧ b < 6) (hr : 0 ≤ (r_all F b).1) (hN : N + 20 ≤ 200000000) : BI (r_all F b).2 := hi.keep (keep_all h hb hr hN) h.h4
theorem bi_write {N : Int} {F : Int → Int} {v : Int} (h : WF N F) (hi : BI F) (hr : 0 ≤ (r_write F v).1) : BI (r_write F v).2 := by
  unfold r_write at hr ⊢
  by_cases h1 : v < 0 ∨ 23 < v
  · rw [if_pos h1] at hr; exact absurd hr (by show ¬ ((0 : Int) ≤ -1); omega)
  · rw [if_neg h1] at hr ⊢
    by_cases h2 : r_frees F < (if P_full F then 2 else 1)
    · rw [if_pos h2] at hr; exact absurd hr (by show ¬ ((0 : Int) ≤ -3); omega)
    · rw [if_neg h2]
      have h4 := h.h4
      have e : ∀ i, i < 11 ∨ 16 ≤ i → r_leaves F v i = F i := fun i q => lvs_far h4 v q
      have hl : BI (r_leaves F v) := by
        refine ⟨by rw [e 0 (by omega)]; exact hi.1, by rw [e 8 (by omega), e 7 (by omega)]; exact hi.2.1, by rw [e 7 (by omega), ← hi.2.2.1]; exact sm_congr (fun j a b => e j (by omega)), ?_⟩
        exact (hi.2.2.2.leaves v).mono (fun u a b q => by rw [Keep.leaves h4 v u]; exact q.1)
      exact hl.keep (Keep.gives (wf_leaves h v) (by omega) (room_leaves h v (room_frees h (by omega)))) (wf_leaves h v).h4
theorem bi_set {N : Int} {F : Int → Int} {w v : Int} (h : WF N F) (hi : BI F) (hs : S_ok w v) : BI (r_set F w v) := by
  have h4 := h.h4
  have hw : 0 ≤ w ∧ w ≤ 4 := by omega
  have e : ∀ i, i ≠ w + 1 → i ≠ 11 → r_set F w v i = F i := fun i a b => by unfold r_set; rw [up_ne b, up_ne a]
  have e11 : r_set F w v 11 ≤ F 11 := by
    unfold r_set
    rw [up_eq rfl]
    have q : up F (w + 1) v 11 = F 11 := up_ne (by omega)
    split <;> omega
  refine ⟨by rw [e 0 (by omega) (by omega)]; exact hi.1, by rw [e 8 (by omega) (by omega), e 7 (by omega) (by omega)]; exact hi.2.1, by rw [e 7 (by omega) (by omega), ← hi.2.2.1]; exact sm_congr (fun j a b => e j (by omega) (by omega)), ?_⟩
  exact (hi.2.2.2.cut h4 (fun i a b => e i (by omega) (by omega)) e11).mono (fun u a b q => by rw [place_congr (fun k _ _ => e (3 * k + 65) (by omega) (by omega))]; exact q)
theorem bi_up {N : Int} {F : Int → Int} {i v : Int} (h : WF N F) (hb : BI F) (q : 41 ≤ i ∧ i < 65) : BI (up F i v) :=
  hb.keep (Keep.same (fun j a => up_ne (by omega)) (fun k _ _ => up_ne (by omega))) h.h4
theorem bi_forget {N : Int} {F : Int → Int} {p : Int} (h : WF N F) (hi : BI F) (hp : r_placeOf F p ≠ -5) : BI (r_forget F p) := by
  have h4 := h.h4
  have hq := pl_hold hp
  have e0 : ∀ i, i < 65 ∨ 209 ≤ i → up F (3 * r_placeOf F p + 65) (-2) i = F i := fun i q => up_ne (by omega)
  have hu4 : up F (3 * r_placeOf F p + 65) (-2) 11 ≤ 4 := by rw [e0 11 (by omega)]; exact h4
  have e : ∀ i, i < 11 ∨ 209 ≤ i → r_forget F p i = F i := fun i q => by unfold r_forget; rw [lvs_far hu4 p (by omega), e0 i (by omega)]
  refine ⟨by rw [e 0 (by omega)]; exact hi.1, by rw [e 8 (by omega), e 7 (by omega)]; exact hi.2.1, by rw [e 7 (by omega), ← hi.2.2.1]; exact sm_congr (fun j a b => e j (by omega)), ?_⟩
  have hj : BJ (fun v => r_placeOf F v ≠ -5) (up F (3 * r_placeOf F p + 65) (-2)) := hi.2.2.2.congr h4 (fun i a b => e0 i (by omega))
  refine (hj.leaves p).mono (fun v a b q => ?_)
  show r_placeOf (r_leaves (up F (3 * r_placeOf F p + 65) (-2)) p) v ≠ -5
  rw [Keep.leaves hu4 p v]
  intro z
  have hv := pl_hold q.1
  have := place_none.mp z _ hv.1 hv.2.1
  by_cases c : r_placeOf F v = r_placeOf F p
  · rw [c] at hv; exact q.2 (hv.2.2.symm.trans hq.2.2)
  · rw [up_ne (by omega)] at this; exact this hv.2.2
/-- a read, its counts -/
theorem read3_far {N : Int} {F : Int → Int} {p c i : Int} (h : WF N F) (q : i < 7 ∨ 9 ≤ i ∧ i < 11 ∨ 16 ≤ i ∧ i < 209) (hp : 0 ≤ p ∧ p ≤ 23) : r_read3 F p c i = F i := by
  unfold r_read3
  rw [up_ne (by omega), up_ne (by omega), up_ne (by omega)]
  have := h.se
  exact frs_far h.he (by omega) (by omega)
theorem read3_buf {F : Int → Int} {p c i : Int} (q : 11 ≤ i ∧ i < 16) (hp : 0 ≤ p ∧ p ≤ 23) : r_read3 F p c i = r_fronts F p i := by
  unfold r_read3
  rw [up_ne (by omega), up_ne (by omega), up_ne (by omega)]
theorem read3_place {N : Int} {F : Int → Int} {p c : Int} (h : WF N F) (hp : 0 ≤ p ∧ p ≤ 23) (v : Int) : r_placeOf (r_read3 F p c) v = r_placeOf F v := place_congr (fun k _ _ => read3_far h (by omega) hp)
theorem bi_read3 {N : Int} {F : Int → Int} {p c : Int} (h : WF N F) (hi : BI F) (hp : 0 ≤ p ∧ p ≤ 23) (hl : r_placeOf F p ≠ -5) : BI (r_read3 F p c) := by
  have h4 := h.h4
  have hs := h.se
  have ef : ∀ i, i < 11 ∨ 16 ≤ i → r_fronts F p i = F i := fun i q => frs_far h.he (by omega) q
  have e7 : r_read3 F p c 7 = F 7 + 1 := by unfold r_read3; rw [up_ne (by omega), up_ne (by omega), up_eq rfl, ef 7 (by omega)]
  have e8 : r_read3 F p c 8 = F 8 + (if c = 0 then 1 else 0) := by unfold r_read3; rw [up_ne (by omega), up_eq rfl, ef 8 (by omega)]
  have ep : r_read3 F p c (p + 209) = F (p + 209) + 1 := by unfold r_read3; rw [up_eq rfl, ef (p + 209) (by omega)]
  have er : ∀ i, 209 ≤ i → i ≠ p + 209 → r_read3 F p c i = F i := fun i q q2 => by unfold r_read3; rw [up_ne q2, up_ne (by omega), up_ne (by omega), ef i (by omega)]
  refine ⟨by rw [read3_far h (by omega) hp]; exact hi.1, ?_, ?_, ?_⟩
  · rw [e7, e8]
    have := hi.2.1
    split <;> omega
  · rw [e7, ← hi.2.2.1, sm_one (n := 24) (i := 209) (p + 209) (w := r_read3 F p c) (v := F) (by omega) (by omega) (fun j a b q => er j a q), ep]
    omega
  · have hf := hi.2.2.2.fronts (p := p) ⟨hp.1, hp.2, hl⟩ h.he (by omega)
    have h11 := fronts_11 (p := p) h.he (by omega)
    refine (hf.congr (by omega) (fun i a b => read3_buf (by omega) hp)).mono (fun v _ _ q => ?_)
    rw [read3_place h hp]; exact q
theorem bi_read {N : Int} {F : Int → Int} {v : Int} (h : WF N F) (hi : BI F) (hN : N + 100 ≤ 200000000) (hr : 0 ≤ (r_read F v).1) : BI (r_read F v).2 := by
  unfold r_read at hr ⊢
  by_cases h1 : v < 0 ∨ 23 < v ∨ r_placeOf F v = -5
  · rw [if_pos h1] at hr; exact absurd hr (by show ¬ ((0 : Int) ≤ -1); omega)
  · rw [if_neg h1] at hr ⊢
    have hp := pl_hold (F := F) (p := v) (by omega)
    by_cases h2 : r_buf F v ≠ -5
    · rw [if_pos h2]
      exact bi_read3 h hi (by omega) (by omega)
    · rw [if_neg h2] at hr ⊢
      by_cases h3 : r_left F (r_placeOf F v) ≠ 0
      · rw [if_pos h3]
        have hk := Keep.reads (F := F) ⟨hp.1, hp.2.1⟩
        exact bi_read3 (wf_reads h ⟨hp.1, hp.2.1⟩ h3 (by omega)) (hi.keep hk h.h4) (by omega) (hk.2 v (by omega) (by omega))
      · rw [if_neg h3] at hr ⊢
        by_cases h4 : F 5 = 1 ∧ 0 ≤ (r_all F (r_placeOf F v / 8)).1 ∧ 0 < r_left (r_all F (r_placeOf F v / 8)).2 (r_placeOf (r_all F (r_placeOf F v / 8)).2 v)
        · rw [if_pos h4]
          have ha := all_ok h (b := r_placeOf F v / 8) (by omega) h4.2.1 (by omega)
          have hka := keep_all h (b := r_placeOf F v / 8) (by omega) h4.2.1 (by omega)
          have hp2 := pl_hold (ha.2 v (by omega) (by omega))
          have hk := Keep.reads (F := (r_all F (r_placeOf F v / 8)).2) ⟨hp2.1, hp2.2.1⟩
          exact bi_read3 (wf_reads ha.1 ⟨hp2.1, hp2.2.1⟩ (by omega) (by omega)) ((hi.keep hka h.h4).keep hk ha.1.h4) (by omega) (hk.2 v (by omega) (ha.2 v (by omega) (by omega)))
        · rw [if_neg h4] at hr; exact absurd hr (by show ¬ ((0 : Int) ≤ -4); omega)
