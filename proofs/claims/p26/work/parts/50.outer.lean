/-! the class's object: now, before, trial, snapshot, the history, the orders; numbers C: 0 a snapshot is there, 1 refused, 2 order, 3 error, 4 times -/
def wp_ws (g : GG) (c0 : Nat) (na be tr sn x : Nat → Nat) (h : Nat → Nat → Nat) (o : Nat → Nat) (T T1 T2 T3 : Nat → Int → Int) (K : Nat → Nat → Int → Int) (z : Int) (P : Nat → Int → Int) (C : Nat → Int) : va_W :=
  List.flatten ([[(c0, .inr (5, [.ref (na 0), .ref (be 0), .ref (tr 0), .ref (sn 0), .int (iI (C 0)), .ref (x 0), .ref (o 0), .int (iI (C 1)), .int (iI (C 2)), .int (iI (C 3)), .int (iI (C 4))]))], st_ws g na T, st_ws g be T1, st_ws g tr T2, st_ws g sn T3, hi_ws g x h K z, or_ws g o P] : List va_W)
def cf (a b c d e : Int) : Nat → Int
  | 0 => a
  | 1 => b
  | 2 => c
  | 3 => d
  | _ => e
/-- the object and the book -/
def RelC (B T T3 : Nat → Int → Int) (K : Nat → Nat → Int → Int) (z : Int) (P : Nat → Int → Int) (C : Nat → Int) : Prop :=
  Rel (B 0) T ∧ (B 9 0 = 1 → Rel (B 5) T3) ∧ (∀ r : Nat, (r : Int) < B 8 0 → Rel (B (r + 1)) (K r)) ∧ z = B 8 0 ∧ P 1 = B 6 ∧ P 5 0 = B 10 0 ∧ C 0 = B 9 0 ∧ C 1 = B 11 0 ∧ C 2 = B 7 0 ∧ C 3 = B 7 1 ∧ C 4 = B 7 2
section RC
variable {B T T3 : Nat → Int → Int} {K : Nat → Nat → Int → Int} {z : Int} {P : Nat → Int → Int} {C : Nat → Int}
theorem RelC.sn (h : RelC B T T3 K z P C) (q : B 9 0 = 1) : Rel (B 5) T3 := h.2.1 q
theorem RelC.hi (h : RelC B T T3 K z P C) (r : Nat) (q : (r : Int) < B 8 0) : Rel (B (r + 1)) (K r) := h.2.2.1 r q
theorem RelC.zz (h : RelC B T T3 K z P C) : z = B 8 0 := h.2.2.2.1
theorem RelC.t (h : RelC B T T3 K z P C) : P 1 = B 6 := h.2.2.2.2.1
theorem RelC.n (h : RelC B T T3 K z P C) : P 5 0 = B 10 0 := h.2.2.2.2.2.1
theorem RelC.c0 (h : RelC B T T3 K z P C) : C 0 = B 9 0 ∧ C 1 = B 11 0 ∧ C 2 = B 7 0 ∧ C 3 = B 7 1 ∧ C 4 = B 7 2 := h.2.2.2.2.2.2
/-- an act that is recorded -/
theorem RelC.rec {F : Int → Int} {T' : Nat → Int → Int} (h : RelC B T T3 K z P C) (hz : 0 ≤ z ∧ z ≤ 4) (hR : Rel F T') : RelC (upT (b_rec B) 0 F) T' T3 (reK K T) (if 4 < z + 1 then 4 else z + 1) P C := by
  refine ⟨hR, h.2.1, ?_, ?_, h.2.2.2.2⟩
  · intro r hr
    have e8 : upT (b_rec B) 0 F 8 0 = if B 8 0 = 4 then 4 else B 8 0 + 1 := rfl
    rw [e8] at hr
    have hzz := h.zz
    match r with
    | 0 => exact h.1
    | 1 => exact h.hi 0 (by omega)
    | 2 => exact h.hi 1 (by omega)
    | 3 => exact h.hi 2 (by omega)
    | n + 4 => exact absurd hr (by omega)
  · have hzz := h.zz
    show _ = if B 8 0 = 4 then 4 else B 8 0 + 1
    omega
end RC
