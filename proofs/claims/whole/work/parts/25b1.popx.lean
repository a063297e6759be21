theorem byL_w {X : Nat} (h : X < 2 ^ 64) : wB (byL X) = X := by
  unfold byL wB
  simp only [wB, by_, Nat.shiftRight_eq_div_pow]
  omega
