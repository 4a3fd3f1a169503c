theorem WB.mono {N M : Int} {B : Nat → Int → Int} (h : WB N B) (h1 : N ≤ M) (h2 : M ≤ 200000000) : WB M B := by
  obtain ⟨a1, a2, a3, a4, a5, a6, a7, a8, a9⟩ := h
  exact ⟨a1.mono h1 h2, a2, fun q => (a3 q).mono h1 h2, fun q => (a4 q).mono h1 h2, fun q => (a5 q).mono h1 h2, fun q => (a6 q).mono h1 h2, a7, fun q => (a8 q).mono h1 h2, a9⟩
