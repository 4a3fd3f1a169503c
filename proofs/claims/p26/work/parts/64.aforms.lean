/-! the law's two leaves -/
theorem t_L_low (l : Launch) (g : GG) (v n : Int) (hn : 0 < n ∧ n ≤ 2147483647) : Met l yL_low (wm yL_low cL_low 2 (some .int)) (rmm 0 0 0) (pR g [] [.int (iI v), .int (iI n)]) (qR (some (.int (iI (x_low v n))))) 0 0 (fun _ => False) := by
  refine met_r (by decide) (Nat.le_of_ble_eq_true rfl) ?_
  intro p e s m args below meth c Q ls hx hb hml hown hts hl w hend
  have hl : lv_has ls 2 [(0, .int (iI v)), (1, .int (iI n))] := hl
  refine lv_iload_n hx hb dL_low_0 rfl (lv_at hl 0 rfl) ?_
  refine ri_ldc (n := 2147483647) hx hb hown hts (W0_of k_const_RL_7 rfl) dL_low_1 (by decide) ?_
  refine ri_iand (t := (iI v &&& iI 2147483647).toInt) hx hb rfl dL_low_3 ?_
  refine lv_iload_n hx hb dL_low_4 rfl (lv_at hl 1 rfl) ?_
  refine ri_irem (z := x_low v n) hx hb dL_low_5 (and_rg _) hn rfl ?_
  exact hend.2 _ rfl ⟨_, rfl, rfl⟩ _ _ dL_low_6
theorem t_L_cell (l : Launch) (b L : Nat) (xs : Nat → Int32) (k : Int) (hk : 0 ≤ k ∧ k ≤ 10000) (hL : L ≤ 2048) : Met l yL_cell (wm yL_cell cL_cell 2 (some .int)) (rmm 0 0 0) (pS b L xs [.ref b, .int (iI k)]) (qR (some (.int (iI (x_cell L xs k))))) 0 0 (fun _ => False) := by
  refine met_s (by decide) (Nat.le_of_ble_eq_true rfl) ?_
  intro p e s m args below meth c Q ls hx hb hml hown hts hl hX hbl hend
  have hl : lv_has ls 2 [(0, .ref b), (1, .int (iI k))] := hl
  refine lv_iload_n hx hb dL_cell_0 rfl (lv_at hl 1 rfl) ?_
  refine lv_aload_n hx hb dL_cell_1 rfl (lv_at hl 0 rfl) ?_
  refine ri_slen (A := fun _ => False) hx hb hX hbl (fun q => q) va_S.rf dL_cell_2 ?_
  refine ri_icmp_ge (tgt := 12) hx hb dL_cell_3 (by decide) (by omega) (by omega) (fun c1 => ?_) (fun c1 => ?_)
  · refine ri_ldc (n := 40503) hx hb hown hts (W0_of k_const_RL_8 rfl) dL_cell_12 (by decide) ?_
    refine lv_iload_n hx hb dL_cell_14 rfl (lv_at hl 1 rfl) ?_
    refine ri_imul (z := 40503 * k) hx hb dL_cell_15 rfl ?_
    refine ri_sipush hx hb dL_cell_16 (by decide) ?_
    refine ri_iadd (z := 40503 * k + 977) hx hb dL_cell_19 rfl ?_
    have e : x_cell L xs k = (iI (40503 * k + 977)).toInt := if_neg (by omega)
    exact hend _ (by rw [e, ← iI_self]) ⟨_, rfl, rfl⟩ _ _ dL_cell_20
  · refine lv_aload_n hx hb dL_cell_6 rfl (lv_at hl 0 rfl) ?_
    refine lv_iload_n hx hb dL_cell_7 rfl (lv_at hl 1 rfl) ?_
    refine ri_sld (v := x_cell L xs k) (A := fun _ => False) hx hb hX hbl (fun q => q) va_S.rf hL (j := k) (by omega) (if_pos (by omega)) dL_cell_8 ?_
    refine lv_goto (tgt := 20) hx hb dL_cell_9 (by decide) ?_
    exact hend _ rfl ⟨_, rfl, rfl⟩ _ _ dL_cell_20
/-! what the questions tell -/
theorem cc_0 (B : Nat → Int → Int) : c_count B 0 = B 0 0 := rfl
theorem cc_1 (B : Nat → Int → Int) : c_count B 1 = r_placed (B 0) := rfl
theorem cc_2 (B : Nat → Int → Int) : c_count B 2 = r_frees (B 0) := rfl
theorem cc_3 (B : Nat → Int → Int) : c_count B 3 = B 0 6 := rfl
theorem cc_5 (B : Nat → Int → Int) : c_count B 5 = B 0 7 := rfl
theorem cc_6 (B : Nat → Int → Int) : c_count B 6 = B 0 8 := rfl
theorem cc_7 (B : Nat → Int → Int) : c_count B 7 = B 0 9 := rfl
theorem cc_8 (B : Nat → Int → Int) : c_count B 8 = B 0 10 := rfl
theorem cc_9 (B : Nat → Int → Int) : c_count B 9 = B 0 11 := rfl
theorem cc_10 (B : Nat → Int → Int) : c_count B 10 = r_weakest (B 0) := rfl
theorem cc_11 (B : Nat → Int → Int) : c_count B 11 = B 8 0 := rfl
theorem cs_3 (F : Int → Int) : c_setting F 3 = F 4 := rfl
section FORMS
variable {N : Int} {F : Int → Int} {b k : Int}
theorem cb_0 (hb : 0 ≤ b ∧ b < 6) : c_block F b 0 = F (4 * b + 41) := by unfold c_block; rw [if_neg (by omega), if_neg (by omega), if_pos rfl]
theorem cb_1 (hb : 0 ≤ b ∧ b < 6) : c_block F b 1 = F (4 * b + 42) := by unfold c_block; rw [if_neg (by omega), if_neg (by omega), if_neg (by omega), if_pos rfl]
theorem cb_2 (hb : 0 ≤ b ∧ b < 6) : c_block F b 2 = r_bears F b := by unfold c_block; rw [if_neg (by omega), if_neg (by omega), if_neg (by omega), if_neg (by omega), if_pos rfl]
theorem cb_3 (hb : 0 ≤ b ∧ b < 6) : c_block F b 3 = r_cnt F b 0 := by unfold c_block; rw [if_neg (by omega), if_neg (by omega), if_neg (by omega), if_neg (by omega), if_neg (by omega), if_pos rfl]
theorem cb_4 (hb : 0 ≤ b ∧ b < 6) : c_block F b 4 = r_cnt F b (-2) := by unfold c_block; rw [if_neg (by omega), if_neg (by omega), if_neg (by omega), if_neg (by omega), if_neg (by omega), if_neg (by omega), if_pos rfl]
theorem cb_5 (hb : 0 ≤ b ∧ b < 6) : c_block F b 5 = r_great F b := by unfold c_block; rw [if_neg (by omega), if_neg (by omega), if_neg (by omega), if_neg (by omega), if_neg (by omega), if_neg (by omega), if_neg (by omega), if_pos rfl]
theorem cb_7 (hb : 0 ≤ b ∧ b < 6) : c_block F b 7 = if P_free F b then 1 else 0 := by unfold c_block; rw [if_neg (by omega), if_neg (by omega), if_neg (by omega), if_neg (by omega), if_neg (by omega), if_neg (by omega), if_neg (by omega), if_neg (by omega), if_neg (by omega), if_pos rfl]
theorem pl_i (F : Int → Int) (b k i : Int) : F (3 * k + 24 * b + i) = F (3 * (8 * b + k) + i) := congrArg F (by omega)
theorem cp_2 (hb : 0 ≤ b ∧ b < 6) (hk : 0 ≤ k ∧ k < 8) : c_place F b k 2 = F (3 * (8 * b + k) + 66) := by unfold c_place; rw [if_neg (by omega), if_neg (by omega), if_pos rfl, pl_i F b k]
theorem cp_0 (hb : 0 ≤ b ∧ b < 6) (hk : 0 ≤ k ∧ k < 8) : c_place F b k 0 = if F (3 * (8 * b + k) + 65) < 0 then -5 else F (3 * (8 * b + k) + 65) := by unfold c_place; rw [if_neg (by omega), if_neg (by omega), if_neg (by omega), if_pos rfl, pl_i F b k]
theorem cp_1 (hb : 0 ≤ b ∧ b < 6) (hk : 0 ≤ k ∧ k < 8) : c_place F b k 1 = if F (3 * (8 * b + k) + 65) = -1 then 0 else if F (3 * (8 * b + k) + 65) = -2 then 2 else 1 := by unfold c_place; rw [if_neg (by omega), if_neg (by omega), if_neg (by omega), if_neg (by omega), pl_i F b k]
theorem great_le (h : WF N F) (hb : 0 ≤ b ∧ b < 6) : r_great F b ≤ r_bears F b := by
  have hr := bears_rg h hb.1 hb.2
  refine fo_inv (P := fun x => x ≤ r_bears F b) (by omega) (fun j x q0 q1 hx => ?_)
  show s_great F j x ≤ r_bears F b
  have hx : x ≤ r_bears F b := hx
  unfold s_great
  split
  · have := h.pl (k := j) (by omega) (by omega)
    rw [show j / 8 = b from by omega] at this
    exact this.2.2.2.2
  · exact hx
theorem free_iff (h : WF N F) (hb : 0 ≤ b ∧ b < 6) : P_free F b ↔ r_cnt F b 0 + r_cnt F b (-2) = 0 ∧ b ≠ F 6 := by
  have e := cnt_sum h hb
  have e0 := cnt_rg F b 0
  have e2 := cnt_rg F b (-2)
  constructor
  · intro q; have q1 := q.1; have q2 := q.2; exact ⟨by omega, by omega⟩
  · intro q; have q1 := q.1; have q2 := q.2; exact ⟨by omega, by omega⟩
/-- a place's page is at that place -/
theorem hold_at (h : WF N F) (hb : 0 ≤ b ∧ b < 6) (hk : 0 ≤ k ∧ k < 8) (hh : 0 ≤ F (3 * (8 * b + k) + 65)) : r_placeOf F (F (3 * (8 * b + k) + 65)) = 8 * b + k :=
  place_is (by omega) (by omega) rfl (fun j j0 j1 q => h.un j0 j1 (by omega) (by omega) (by omega) q)
end FORMS
/-! the buffer's ranks as bits -/
def bq (F : Int → Int) (i p : Int) : Int := if i < F 11 ∧ F (i + 12) < p then 1 else 0
theorem bq_rg (F : Int → Int) (i p : Int) : 0 ≤ bq F i p ∧ bq F i p ≤ 1 := by unfold bq; split <;> omega
def bt (F : Int → Int) (p : Int) : Int := bq F 0 p + 2 * bq F 1 p + 4 * bq F 2 p + 8 * bq F 3 p
def bm (F : Int → Int) (p : Int) : Int := bq F 0 p + bq F 1 p + bq F 2 p + bq F 3 p
theorem bq_no {F : Int → Int} {p i : Int} (h : r_buf F p = -5) (hi : 0 ≤ i) : bq F i (p + 1) = bq F i p := by
  unfold bq
  by_cases c : i < F 11
  · have := buf_no h i hi c
    split <;> split <;> omega
  · rw [if_neg (fun q => c q.1), if_neg (fun q => c q.1)]
theorem bq_at {P : Int → Prop} {F : Int → Int} {p : Int} (hj : BJ P F) (h : r_buf F p ≠ -5) : bq F (r_buf F p) p = 0 ∧ bq F (r_buf F p) (p + 1) = 1 ∧ ∀ i, 0 ≤ i → i ≠ r_buf F p → bq F i (p + 1) = bq F i p := by
  have hb := (buf_rg F p).resolve_left h
  refine ⟨?_, ?_, fun i hi hne => ?_⟩
  · unfold bq; rw [if_neg (by omega)]
  · unfold bq; rw [if_pos (by omega)]
  · unfold bq
    by_cases c : i < F 11
    · have hd : F (i + 12) ≠ p := fun q => by
        by_cases c2 : i < r_buf F p
        · exact hj.2 i (r_buf F p) hi c2 hb.2.1 (q.trans hb.2.2.symm)
        · exact hj.2 (r_buf F p) i hb.1 (by omega) c (hb.2.2.trans q.symm)
      split <;> split <;> omega
    · rw [if_neg (fun q => c q.1), if_neg (fun q => c q.1)]
theorem bits2 {b0 b1 b2 b3 a v : Int} (h0 : 0 ≤ b0 ∧ b0 ≤ 1) (h1 : 0 ≤ b1 ∧ b1 ≤ 1) (h2 : 0 ≤ b2 ∧ b2 ≤ 1) (h3 : 0 ≤ b3 ∧ b3 ≤ 1) (hv : v = b0 + 2 * b1 + 4 * b2 + 8 * b3) (ha : a = 0 ∧ b0 = 0 ∨ a = 1 ∧ b1 = 0 ∨ a = 2 ∧ b2 = 0 ∨ a = 3 ∧ b3 = 0) : (iI (iI v >>> (iI a &&& 31)).toInt &&& iI 1).toInt = 0 ∧ (iI v ||| iI (iI 1 <<< (iI a &&& 31)).toInt).toInt = v + (if a = 0 then 1 else if a = 1 then 2 else if a = 2 then 4 else 8) := by
  have e0 : b0 = 0 ∨ b0 = 1 := by omega
  have e1 : b1 = 0 ∨ b1 = 1 := by omega
  have e2 : b2 = 0 ∨ b2 = 1 := by omega
  have e3 : b3 = 0 ∨ b3 = 1 := by omega
  subst hv
  rcases e0 with rfl | rfl <;> rcases e1 with rfl | rfl <;> rcases e2 with rfl | rfl <;> rcases e3 with rfl | rfl <;> rcases ha with ⟨rfl, hz⟩ | ⟨rfl, hz⟩ | ⟨rfl, hz⟩ | ⟨rfl, hz⟩ <;> first | exact absurd hz (by decide) | decide +kernel
theorem bits0 {v : Int} (hv : 0 ≤ v ∧ v ≤ 15) : (iI (iI v >>> (iI 30 &&& 31)).toInt &&& iI 1).toInt = 0 ∧ (iI v ||| iI 0).toInt = v := by
  have h1 := bit_hi v.toNat (by omega)
  have h2 := bit_or0 v.toNat (by omega)
  rw [Int.toNat_of_nonneg hv.1] at h1 h2
  rw [← iI_self]
  exact ⟨h1, h2⟩
theorem bt_rg (F : Int → Int) (p : Int) : 0 ≤ bt F p ∧ bt F p ≤ 15 := by
  have := bq_rg F 0 p
  have := bq_rg F 1 p
  have := bq_rg F 2 p
  have := bq_rg F 3 p
  unfold bt
  omega
/-- a page that the buffer doesn't hold -/
theorem bt_no {F : Int → Int} {p : Int} (h : r_buf F p = -5) : bt F (p + 1) = bt F p ∧ bm F (p + 1) = bm F p := by
  unfold bt bm
  rw [bq_no h (by omega), bq_no h (by omega), bq_no h (by omega), bq_no h (by omega)]
  exact ⟨rfl, rfl⟩
theorem bt_at {P : Int → Prop} {F : Int → Int} {p : Int} (h4 : F 11 ≤ 4) (hj : BJ P F) (h : r_buf F p ≠ -5) : (iI (iI (bt F p) >>> (iI (r_buf F p) &&& 31)).toInt &&& iI 1).toInt = 0 ∧ (iI (bt F p) ||| iI (iI 1 <<< (iI (r_buf F p) &&& 31)).toInt).toInt = bt F (p + 1) ∧ bm F (p + 1) = bm F p + 1 := by
  have hb := (buf_rg F p).resolve_left h
  obtain ⟨q0, q1, q2⟩ := bq_at hj h
  have ha : r_buf F p = 0 ∨ r_buf F p = 1 ∨ r_buf F p = 2 ∨ r_buf F p = 3 := by omega
  have k := bits2 (a := r_buf F p) (v := bt F p) (bq_rg F 0 p) (bq_rg F 1 p) (bq_rg F 2 p) (bq_rg F 3 p) rfl (by
    rcases ha with e | e | e | e
    · rw [e] at q0; exact Or.inl ⟨e, q0⟩
    · rw [e] at q0; exact Or.inr (Or.inl ⟨e, q0⟩)
    · rw [e] at q0; exact Or.inr (Or.inr (Or.inl ⟨e, q0⟩))
    · rw [e] at q0; exact Or.inr (Or.inr (Or.inr ⟨e, q0⟩)))
  refine ⟨k.1, ?_, ?_⟩
  · rw [k.2]
    unfold bt
    rcases ha with e | e | e | e
    · rw [e] at q0 q1 q2 ⊢
      rw [q2 1 (by omega) (by omega), q2 2 (by omega) (by omega), q2 3 (by omega) (by omega), q0, q1, if_pos rfl]; omega
    · rw [e] at q0 q1 q2 ⊢
      rw [q2 0 (by omega) (by omega), q2 2 (by omega) (by omega), q2 3 (by omega) (by omega), q0, q1, if_neg (by omega), if_pos rfl]; omega
    · rw [e] at q0 q1 q2 ⊢
      rw [q2 0 (by omega) (by omega), q2 1 (by omega) (by omega), q2 3 (by omega) (by omega), q0, q1, if_neg (by omega), if_neg (by omega), if_pos rfl]; omega
    · rw [e] at q0 q1 q2 ⊢
      rw [q2 0 (by omega) (by omega), q2 1 (by omega) (by omega), q2 2 (by omega) (by omega), q0, q1, if_neg (by omega), if_neg (by omega), if_neg (by omega)]; omega
  · unfold bm
    rcases ha with e | e | e | e
    · rw [e] at q0 q1 q2
      rw [q2 1 (by omega) (by omega), q2 2 (by omega) (by omega), q2 3 (by omega) (by omega), q0, q1]; omega
    · rw [e] at q0 q1 q2
      rw [q2 0 (by omega) (by omega), q2 2 (by omega) (by omega), q2 3 (by omega) (by omega), q0, q1]; omega
    · rw [e] at q0 q1 q2
      rw [q2 0 (by omega) (by omega), q2 1 (by omega) (by omega), q2 3 (by omega) (by omega), q0, q1]; omega
    · rw [e] at q0 q1 q2
      rw [q2 0 (by omega) (by omega), q2 1 (by omega) (by omega), q2 2 (by omega) (by omega), q0, q1]; omega
theorem bq_all {P : Int → Prop} {F : Int → Int} (hj : BJ P F) {i : Int} (hi : 0 ≤ i) : bq F i 24 = if i < F 11 then 1 else 0 := by
  unfold bq
  by_cases c : i < F 11
  · have := hj.1 i hi c
    rw [if_pos ⟨c, by omega⟩, if_pos c]
  · rw [if_neg (fun q => c q.1), if_neg c]
theorem bm_all {P : Int → Prop} {F : Int → Int} (h4 : 0 ≤ F 11 ∧ F 11 ≤ 4) (hj : BJ P F) : bm F 24 = F 11 := by
  unfold bm
  rw [bq_all hj (by omega), bq_all hj (by omega), bq_all hj (by omega), bq_all hj (by omega)]
  omega
theorem bq_00 {P : Int → Prop} {F : Int → Int} (hj : BJ P F) {i : Int} (hi : 0 ≤ i) : bq F i 0 = 0 := by
  unfold bq
  refine if_neg (fun q => ?_)
  have := hj.1 i hi q.1
  omega
theorem bt_0 {P : Int → Prop} {F : Int → Int} (hj : BJ P F) : bt F 0 = 0 ∧ bm F 0 = 0 := by
  unfold bt bm
  rw [bq_00 hj (by omega), bq_00 hj (by omega), bq_00 hj (by omega), bq_00 hj (by omega)]
  exact ⟨rfl, rfl⟩
