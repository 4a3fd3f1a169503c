/-! counts and the buffer -/
theorem wf_counts0 {N : Int} {F : Int → Int} {v : Int} (h : WF N F) (hv : 0 ≤ v ∧ v ≤ 23) (hN : N + 1 ≤ 200000000) : WF (N + 1) (up (up (up F 8 (F 8 + 1)) 7 (F 7 + 1)) (v + 209) (F (v + 209) + 1)) := sorry
theorem wf_counts1 {N : Int} {F : Int → Int} {v : Int} (h : WF N F) (hv : 0 ≤ v ∧ v ≤ 23) (hN : N + 1 ≤ 200000000) : WF (N + 1) (up (up F 7 (F 7 + 1)) (v + 209) (F (v + 209) + 1)) := sorry
theorem read3_0 {N : Int} {F : Int → Int} {v : Int} (h : WF N F) (i : Int) : r_read3 F v 0 i = r_fronts (up (up (up F 8 (F 8 + 1)) 7 (F 7 + 1)) (v + 209) (F (v + 209) + 1)) v i := sorry
theorem read3_1 {N : Int} {F : Int → Int} {v : Int} (h : WF N F) (i : Int) : r_read3 F v 1 i = r_fronts (up (up F 7 (F 7 + 1)) (v + 209) (F (v + 209) + 1)) v i := sorry
theorem read3_2 {N : Int} {F : Int → Int} {v : Int} (h : WF N F) (i : Int) : r_read3 F v 2 i = r_fronts (up (up F 7 (F 7 + 1)) (v + 209) (F (v + 209) + 1)) v i := sorry
