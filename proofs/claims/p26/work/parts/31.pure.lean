/-! what a state tells of another -/
theorem up_self {f : Int → Int} {i : Int} : up f i (f i) = f := by
  funext j
  by_cases h : j = i
  · rw [up_eq h, h]
  · exact up_ne h
theorem target_room {N : Int} {F : Int → Int} (h : WF N F) (h0 : 0 ≤ r_target F) : r_cnt F (r_target F) (-1) ≠ 0 := by
  unfold r_target at h0 ⊢
  by_cases hf : P_full F
  · rw [if_neg (fun q => q hf)] at h0 ⊢
    by_cases hb : r_best F = -5
    · rw [if_pos hb] at h0; omega
    · rw [if_neg hb]
      rw [((best_rg F).resolve_left hb).2.2.2]; omega
  · rw [if_pos hf]
    exact fun q => hf (Or.inr q)
theorem wf_open {N : Int} {F : Int → Int} {v : Int} (h : WF N F) (hv : 0 ≤ v ∧ v ≤ 5) : WF N (up F 6 v) := wf_op6 h (Or.inr hv)
theorem cnt_up6 (F : Int → Int) (v b t : Int) : r_cnt (up F 6 v) b t = r_cnt F b t := cnt_congr (fun k _ _ => up_ne (by omega))
theorem cnt_stales {N : Int} {F : Int → Int} (_ : WF N F) (v b : Int) (hv : 0 ≤ v) : r_cnt (r_stales F v) b (-1) = r_cnt F b (-1) := cnt_stales0 hv b
theorem rel_stale0 {N : Int} {F : Int → Int} {T : Nat → Int → Int} {v : Int} (hW : WF N F) (hR : Rel F T) (hv : 0 ≤ v ∧ v ≤ 23) (h : r_placeOf F v = -5) : Rel (r_stales F v) (upT T 9 (up (T 9) v (-1))) := by
  have e : r_stales F v = F := by unfold r_stales; rw [if_pos h]
  rw [e]
  refine ⟨hR.1, hR.2.1, fun p q0 q1 => ?_, hR.2.2.2.1, hR.2.2.2.2.1, hR.2.2.2.2.2.1, hR.2.2.2.2.2.2⟩
  refine ⟨?_, (hR.2.2.1 p q0 q1).2⟩
  show up (T 9) v (-1) p = r_at F p
  by_cases hp : p = v
  · rw [up_eq hp, hp]; unfold r_at; rw [if_pos h]
  · rw [up_ne hp]; exact (hR.2.2.1 p q0 q1).1
/-- a page's place, where another page is told otherwise -/
theorem place_stales {F : Int → Int} {v p : Int} (hp : p ≠ v) (hp0 : 0 ≤ p) : r_placeOf (r_stales F v) p = r_placeOf F p := by
  refine fi_congr (fun j q0 q1 => ?_)
  unfold p_hold
  rw [stales_h]
  by_cases c : r_placeOf F v ≠ -5 ∧ j = r_placeOf F v
  · rw [if_pos c]
    have hh := pl_hold c.1
    rw [c.2, hh.2.2]
    exact decide_eq_decide.mpr ⟨fun q => by omega, fun q => absurd q.symm hp⟩
  · rw [if_neg c]
theorem stales_no {N : Int} {F : Int → Int} {v : Int} (hW : WF N F) (hv : 0 ≤ v) : ∀ j, 0 ≤ j → j < 48 → r_stales F v (3 * j + 65) ≠ v := fun j h0 h1 q => by
  rw [stales_h] at q
  by_cases hp : r_placeOf F v ≠ -5 ∧ j = r_placeOf F v
  · rw [if_pos hp] at q; omega
  · rw [if_neg hp] at q
    by_cases hp2 : r_placeOf F v = -5
    · exact place_none.mp hp2 j h0 h1 q
    · have hh := pl_hold hp2
      exact hp ⟨hp2, hW.un h0 h1 hh.1 hh.2.1 (by omega) (by omega)⟩
theorem rel_stale1 {N : Int} {F : Int → Int} {T : Nat → Int → Int} {v : Int} (hW : WF N F) (hR : Rel F T) (hv : 0 ≤ v ∧ v ≤ 23) (h : 0 ≤ r_placeOf F v) : Rel (r_stales F v) (upT (upT T 6 (up (T 6) (r_at F v) (-2))) 9 (up (T 9) v (-1))) := by
  have hk := pl_hold (F := F) (p := v) (by omega)
  have ea : r_at F v = r_placeOf F v := by unfold r_at; rw [if_neg (by omega)]
  have es : ∀ i, (i < 65 ∨ 209 ≤ i ∨ (i - 65) % 3 ≠ 0) → r_stales F v i = F i := fun i q => stales_far q
  rw [ea]
  refine ⟨fun b q0 q1 => ?_, fun k q0 q1 => ?_, fun p q0 q1 => ?_, fun i q0 q1 => ?_, fun i q0 q1 => ?_, fun i q0 q1 => ?_, ?_⟩
  · rw [es _ (by omega), es _ (by omega), es _ (by omega), es _ (by omega), cnt_stales0 hv.1]; exact hR.1 b q0 q1
  · rw [es (3 * k + 66) (by omega), es (3 * k + 67) (by omega)]
    have q := hR.2.1 k q0 q1
    refine ⟨?_, q.2.1, q.2.2⟩
    show up (T 6) (r_placeOf F v) (-2) k = _
    rw [stales_h]
    by_cases c : k = r_placeOf F v
    · rw [up_eq c, if_pos ⟨by omega, c⟩]
    · rw [up_ne c, if_neg (fun q => c q.2)]; exact q.1
  · rw [es (p + 209) (by omega)]
    have q := hR.2.2.1 p q0 q1
    refine ⟨?_, q.2⟩
    show up (T 9) v (-1) p = _
    by_cases c : p = v
    · rw [up_eq c, c]
      unfold r_at
      rw [if_pos (place_none.mpr (stales_no hW hv.1))]
    · rw [up_ne c, q.1]
      unfold r_at
      rw [place_stales c q0]
  · rw [es _ (by omega)]; exact hR.2.2.2.1 i q0 q1
  · rw [es _ (by omega)]; exact hR.2.2.2.2.1 i q0 q1
  · rw [es _ (by omega), es _ (by omega), es _ (by omega)]; exact hR.2.2.2.2.2.1 i q0 q1
  · have ho : r_open (r_stales F v) = r_open F := by unfold r_open; rw [es 6 (by omega)]
    rw [ho, es 0 (by omega), es 7 (by omega), es 8 (by omega), es 9 (by omega), es 11 (by omega), es 10 (by omega)]; exact hR.2.2.2.2.2.2
theorem upT_comm {T : Nat → Int → Int} {j k : Nat} {f h : Int → Int} (hne : j ≠ k) : upT (upT T j f) k h = upT (upT T k h) j f := by
  funext i
  unfold upT
  by_cases h1 : i = k
  · rw [if_pos h1, if_neg (fun q => hne (q.symm.trans h1)), if_pos h1]
  · rw [if_neg h1]
    by_cases h2 : i = j
    · rw [if_pos h2, if_pos h2]
    · rw [if_neg h2, if_neg h2, if_neg h1]
/-- a page is put where nothing lay -/
theorem rel_put {F : Int → Int} {T : Nat → Int → Int} {b v k : Int} (hR : Rel F T) (hk : 0 ≤ k ∧ k < 48) (hb : k / 8 = b) (hv : 0 ≤ v ∧ v ≤ 23) (he : F (3 * k + 65) = -1) (hno : ∀ j, 0 ≤ j → j < 48 → F (3 * j + 65) ≠ v) : Rel (up F (3 * k + 65) v) (upT (upT (upT T 5 (up (T 5) b (9 - r_cnt F b (-1)))) 6 (up (T 6) k v)) 9 (up (T 9) v k)) := by
  have es : ∀ i, i ≠ 3 * k + 65 → up F (3 * k + 65) v i = F i := fun i q => up_ne q
  refine ⟨fun d q0 q1 => ?_, fun j q0 q1 => ?_, fun p q0 q1 => ?_, fun i q0 q1 => ?_, fun i q0 q1 => ?_, fun i q0 q1 => ?_, ?_⟩
  · rw [es _ (by omega), es _ (by omega), es _ (by omega), es _ (by omega)]
    have q := hR.1 d q0 q1
    refine ⟨q.1, q.2.1, q.2.2.1, q.2.2.2.1, ?_⟩
    show up (T 5) b (9 - r_cnt F b (-1)) d = _
    by_cases c : d = b
    · rw [up_eq c, c, cnt_one (F := F) (G := up F (3 * k + 65) v) (b := b) (t := -1) k (by omega) (by omega) (fun j _ _ q2 => up_ne (by omega)), wc_e, wc_e, up_eq rfl, if_neg (by omega), if_pos he]
      omega
    · rw [up_ne c, cnt_congr (F := F) (G := up F (3 * k + 65) v) (b := d) (t := -1) (fun j _ _ => up_ne (by omega))]
      exact q.2.2.2.2
  · rw [es (3 * j + 66) (by omega), es (3 * j + 67) (by omega)]
    have q := hR.2.1 j q0 q1
    refine ⟨?_, q.2.1, q.2.2⟩
    show up (T 6) k v j = _
    exact up_row (by omega) q.1
  · rw [es (p + 209) (by omega)]
    have q := hR.2.2.1 p q0 q1
    refine ⟨?_, q.2⟩
    show up (T 9) v k p = _
    by_cases c : p = v
    · rw [up_eq c, c]
      unfold r_at
      rw [place_is (F := up F (3 * k + 65) v) (p := v) (k := k) hk.1 hk.2 (up_eq rfl) (fun j a0 a1 a2 => by
        by_cases cj : j = k
        · exact cj
        · rw [up_ne (by omega)] at a2
          exact absurd a2 (hno j a0 a1)), if_neg (by omega)]
    · rw [up_ne c, q.1]
      have e : r_placeOf (up F (3 * k + 65) v) p = r_placeOf F p := fi_congr (fun j a0 a1 => by
        unfold p_hold
        by_cases cj : j = k
        · rw [up_eq (by omega), cj, he]
          exact decide_eq_decide.mpr ⟨fun q => absurd q.symm c, fun q => by omega⟩
        · rw [up_ne (by omega)])
      unfold r_at
      rw [e]
  · rw [es _ (by omega)]; exact hR.2.2.2.1 i q0 q1
  · rw [es _ (by omega)]; exact hR.2.2.2.2.1 i q0 q1
  · rw [es _ (by omega), es _ (by omega), es _ (by omega)]; exact hR.2.2.2.2.2.1 i q0 q1
  · have ho : r_open (up F (3 * k + 65) v) = r_open F := by unfold r_open; rw [es 6 (by omega)]
    rw [ho, es 0 (by omega), es 7 (by omega), es 8 (by omega), es 9 (by omega), es 11 (by omega), es 10 (by omega)]; exact hR.2.2.2.2.2.2
/-- the lowest empty place, by how many are empty -/
theorem spot_cnt {N : Int} {F : Int → Int} (hW : WF N F) (h0 : 0 ≤ F 6 ∧ F 6 ≤ 5) (hs : r_spot F ≠ -5) : r_spot F = 8 * F 6 + 8 - r_cnt F (F 6) (-1) := by
  have hf := spot_first hs
  have ones : ∀ n : Nat, r_spot F + (n : Int) < 8 * F 6 + 8 → F (3 * (r_spot F + (n : Int)) + 65) = -1 := by
    intro n
    induction n with
    | zero => intro _; rw [show r_spot F + ((0 : Nat) : Int) = r_spot F from by omega]; exact hf.2.2.1
    | succ n ih =>
      intro hn
      have := hW.fl (k := r_spot F + (n : Int)) (by omega) (by omega) (ih (by omega)) (by omega)
      rw [show 3 * (r_spot F + ((n + 1 : Nat) : Int)) + 65 = 3 * (r_spot F + (n : Int)) + 68 from by omega]
      exact this
  have := sm_step (n := 8) (i := 8 * F 6) (r := r_spot F) (w := wc F (-1)) hf.1 (by omega) (fun j q0 q1 => by rw [wc_e, if_neg (hf.2.2.2 j q0 q1)]) (fun j q0 q1 => by
    have e := ones (j - r_spot F).toNat (by omega)
    rw [show r_spot F + ((j - r_spot F).toNat : Int) = j from by omega] at e
    rw [wc_e, if_pos e])
  rw [cnt_sm]
  omega
theorem opens_target {F : Int → Int} (h : 0 ≤ r_target F) : r_opens F = up F 6 (r_target F) := by
  by_cases hf : P_full F
  · have e : r_opens F = up F 6 (r_best F) := if_pos hf
    rw [e]
    unfold r_target at h ⊢
    rw [if_neg (fun q => q hf)] at h ⊢
    by_cases hb : r_best F = -5
    · rw [if_pos hb] at h; omega
    · rw [if_neg hb]
  · have e : r_opens F = F := if_neg hf
    unfold r_target
    rw [e, if_pos hf, up_self]
theorem rel_gives {N : Int} {F : Int → Int} {T : Nat → Int → Int} {b v k c : Int} (hW : WF N F) (hR : Rel (r_stales (up F 6 b) v) T) (hb0 : b = r_target F) (hb1 : 0 ≤ b) (hv : 0 ≤ v ∧ v ≤ 23) (hct : r_cnt F b (-1) ≠ 0) (hc : c = r_cnt (r_stales (up F 6 b) v) b (-1)) (hk : k = 8 * b - c + 8) :
  Rel (r_gives F v) (upT (upT (upT (upT (upT T 5 (up (T 5) b (9 - c))) 6 (up (T 6) k v)) 7 (up (T 7) k 0)) 8 (up (T 8) k (r_stales (up F 6 b) v 0))) 9 (up (T 9) v k)) := by
  have hbt := target_rg hW
  have eo : r_opens F = up F 6 b := by rw [opens_target (by omega), hb0]
  have hWo : WF N (up F 6 b) := wf_op6 hW (by omega)
  have hWS := wf_stales hWo v
  have e6 : r_stales (up F 6 b) v 6 = b := by rw [stales_far (by omega), up_eq rfl]
  have hno := stales_no hWo hv.1
  have hspot : r_spot (r_stales (up F 6 b) v) ≠ -5 := by
    rw [Ne, spot_no (by omega), e6, cnt_stales0 hv.1, cnt_up6]
    exact hct
  have hf := spot_first hspot
  have hsc := spot_cnt hWS (by omega) hspot
  rw [e6] at hf hsc
  rw [← hc] at hsc
  have ek : r_spot (r_stales (up F 6 b) v) = k := by omega
  rw [ek] at hf
  unfold r_gives r_puts
  rw [eo, ek]
  have hp := rel_put (b := b) (v := v) (k := k) hR (by omega) (by omega) hv hf.2.2.1 hno
  rw [← hc] at hp
  have h7 := (hp.u7 (x := k) (v := 0) (by omega) (by omega)).u8 (x := k) (v := r_stales (up F 6 b) v 0) (by omega) (by omega)
  rw [upT_comm (j := 9) (k := 7) (by decide), upT_comm (j := 9) (k := 8) (by decide)] at h7
  exact h7
