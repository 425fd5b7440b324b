theorem tw_shop {l : Launch} {X : FX} {ii : Nat → Nat → Nat → Int32} {jj : Nat → Nat → Nat → Int64} {kd : Nat → Nat} (R : Rep ii jj kd) : Two l X 104 203 [] ii jj kd := by
  sorry
