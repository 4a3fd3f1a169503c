theorem Wd.three {g : GG} {A : Nat → Prop} {br : List va_W} {u v y : va_W} {s : State} {H : Heap} {locs : List Loc} (w : Wd g A (br ++ [List.flatten [u, v, y]]).flatten s H locs) : Wd g A (br ++ [u, v, y]).flatten s H locs := by
  rw [List.flatten_append] at w ⊢
  simpa using w
