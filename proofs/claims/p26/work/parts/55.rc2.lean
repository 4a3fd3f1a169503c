section RC2
variable {B T T3 : Nat → Int → Int} {K : Nat → Nat → Int → Int} {z : Int} {P : Nat → Int → Int} {C : Nat → Int}
theorem RelC.pop (h : RelC B T T3 K z P C) (hz : 0 < z ∧ z ≤ 4) : RelC (b_pop B) (K 0) T3 (tor K) (z - 1) P C := by
  have hzz := h.zz
  refine ⟨h.hi 0 (by omega), h.2.1, fun r hr => ?_, ?_, h.2.2.2.2⟩
  · have hr : (r : Int) < B 8 0 - 1 := hr
    match r with
    | 0 => exact h.hi 1 (by omega)
    | 1 => exact h.hi 2 (by omega)
    | 2 => exact h.hi 3 (by omega)
    | n + 3 => exact absurd hr (by omega)
  · show z - 1 = B 8 0 - 1
    omega
theorem RelC.his {B' : Nat → Int → Int} (h : RelC B T T3 K z P C) (hk : 0 ≤ B 8 0 ∧ B 8 0 ≤ 4) (e1 : B' 1 = B 1) (e2 : B' 2 = B 2) (e3 : B' 3 = B 3) (e4 : B' 4 = B 4) : ∀ r : Nat, (r : Int) < B 8 0 → Rel (B' (r + 1)) (K r) := by
  intro r hr
  have h1 := h.hi r hr
  match r with
  | 0 => show Rel (B' 1) _; rw [e1]; exact h1
  | 1 => show Rel (B' 2) _; rw [e2]; exact h1
  | 2 => show Rel (B' 3) _; rw [e3]; exact h1
  | 3 => show Rel (B' 4) _; rw [e4]; exact h1
  | n + 4 => exact absurd hr (by omega)
theorem RelC.keep (h : RelC B T T3 K z P C) (hk : 0 ≤ B 8 0 ∧ B 8 0 ≤ 4) : RelC (upT (upT B 5 (B 0)) 9 (fun _ => 1)) T T K z P (cf 1 (C 1) (C 2) (C 3) (C 4)) :=
  ⟨h.1, fun _ => h.1, h.his hk rfl rfl rfl rfl, h.zz, h.t, h.n, rfl, h.c0.2⟩
theorem RelC.typ {v : Int} (h : RelC B T T3 K z P C) (hk : 0 ≤ B 8 0 ∧ B 8 0 ≤ 4) : RelC (upT (upT B 6 (up (B 6) (B 10 0) v)) 10 (fun _ => B 10 0 + 1)) T T3 K z (upT (upT P 1 (up (P 1) (B 10 0) v)) 5 (fun _ => B 10 0 + 1)) C :=
  ⟨h.1, h.2.1, h.his hk rfl rfl rfl rfl, h.zz, (show up (P 1) (B 10 0) v = up (B 6) (B 10 0) v from by rw [h.t]), rfl, h.c0⟩
theorem RelC.clr (h : RelC B T T3 K z P C) (hk : 0 ≤ B 8 0 ∧ B 8 0 ≤ 4) : RelC (upT B 10 (fun _ => 0)) T T3 K z (upT P 5 (fun _ => 0)) C :=
  ⟨h.1, h.2.1, h.his hk rfl rfl rfl rfl, h.zz, h.t, rfl, h.c0⟩
end RC2
