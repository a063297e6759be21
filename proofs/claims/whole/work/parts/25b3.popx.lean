def hz (a0 a1 a2 a3 a4 a5 a6 a7 : Nat) : Nat := a0 + 256 * (a1 + 256 * (a2 + 256 * (a3 + 256 * (a4 + 256 * (a5 + 256 * (a6 + 256 * a7))))))
theorem hz_s (a0 a1 a2 a3 a4 a5 a6 a7 : Nat) : a0 + 256 * a1 + 65536 * a2 + 16777216 * a3 + 4294967296 * a4 + 1099511627776 * a5 + 281474976710656 * a6 + 72057594037927936 * a7 = hz a0 a1 a2 a3 a4 a5 a6 a7 := by
  unfold hz
  omega
theorem hz_d1 {a0 a1 a2 a3 a4 a5 a6 a7 : Nat} (ha0 : a0 ≤ 64) : hz a0 a1 a2 a3 a4 a5 a6 a7 / 256 = hz a1 a2 a3 a4 a5 a6 a7 0 := by
  unfold hz
  simp only [Nat.mul_zero, Nat.add_zero]
  generalize a1 + 256 * (a2 + 256 * (a3 + 256 * (a4 + 256 * (a5 + 256 * (a6 + 256 * a7))))) = X
  omega
theorem hz_d2 {a0 a1 a2 a3 a4 a5 a6 a7 : Nat} (ha0 : a0 ≤ 64) (ha1 : a1 ≤ 64) : hz a0 a1 a2 a3 a4 a5 a6 a7 / 65536 = hz a2 a3 a4 a5 a6 a7 0 0 := by
  unfold hz
  simp only [Nat.mul_zero, Nat.add_zero]
  generalize a2 + 256 * (a3 + 256 * (a4 + 256 * (a5 + 256 * (a6 + 256 * a7)))) = X
  omega
theorem hz_d4 {a0 a1 a2 a3 a4 a5 a6 a7 : Nat} (ha0 : a0 ≤ 64) (ha1 : a1 ≤ 64) (ha2 : a2 ≤ 64) (ha3 : a3 ≤ 64) : hz a0 a1 a2 a3 a4 a5 a6 a7 / 4294967296 = hz a4 a5 a6 a7 0 0 0 0 := by
  unfold hz
  simp only [Nat.mul_zero, Nat.add_zero]
  generalize a4 + 256 * (a5 + 256 * (a6 + 256 * a7)) = X
  omega
theorem hz_add {a0 a1 a2 a3 a4 a5 a6 a7 b0 b1 b2 b3 b4 b5 b6 b7 : Nat} : hz a0 a1 a2 a3 a4 a5 a6 a7 + hz b0 b1 b2 b3 b4 b5 b6 b7 = hz (a0 + b0) (a1 + b1) (a2 + b2) (a3 + b3) (a4 + b4) (a5 + b5) (a6 + b6) (a7 + b7) := by
  unfold hz
  omega
theorem hz_lt {a0 a1 a2 a3 a4 a5 a6 a7 : Nat} (ha0 : a0 ≤ 64) (ha1 : a1 ≤ 64) (ha2 : a2 ≤ 64) (ha3 : a3 ≤ 64) (ha4 : a4 ≤ 64) (ha5 : a5 ≤ 64) (ha6 : a6 ≤ 64) (ha7 : a7 ≤ 64) : hz a0 a1 a2 a3 a4 a5 a6 a7 < 18446744073709551616 := by
  unfold hz
  omega
theorem hz_m {a0 a1 a2 a3 a4 a5 a6 a7 : Nat} (h : a0 ≤ 64) : hz a0 a1 a2 a3 a4 a5 a6 a7 % 256 = a0 := by
  unfold hz
  generalize a1 + 256 * (a2 + 256 * (a3 + 256 * (a4 + 256 * (a5 + 256 * (a6 + 256 * a7))))) = X
  omega
theorem pop_tail {k0 k1 k2 k3 k4 k5 k6 k7 Y3 Y4 Y5 Y6 : Nat} (c0 : k0 ≤ 8) (c1 : k1 ≤ 8) (c2 : k2 ≤ 8) (c3 : k3 ≤ 8) (c4 : k4 ≤ 8) (c5 : k5 ≤ 8) (c6 : k6 ≤ 8) (c7 : k7 ≤ 8)
    (n3 : Y3 = k0 + 256 * k1 + 65536 * k2 + 16777216 * k3 + 4294967296 * k4 + 1099511627776 * k5 + 281474976710656 * k6 + 72057594037927936 * k7)
    (n4 : Y4 = (Y3 + Y3 / 256) % 18446744073709551616) (n5 : Y5 = (Y4 + Y4 / 65536) % 18446744073709551616) (n6 : Y6 = (Y5 + Y5 / 4294967296) % 18446744073709551616) : Y6 % 256 = k0 + k1 + k2 + k3 + k4 + k5 + k6 + k7 := by
  rw [hz_s] at n3
  rw [n3, hz_d1 (Nat.le_trans c0 (by decide)), hz_add] at n4
  have l4 := hz_lt (a0 := k0 + k1) (a1 := k1 + k2) (a2 := k2 + k3) (a3 := k3 + k4) (a4 := k4 + k5) (a5 := k5 + k6) (a6 := k6 + k7) (a7 := k7 + 0) (by omega) (by omega) (by omega) (by omega) (by omega) (by omega) (by omega) (by omega)
  rw [Nat.mod_eq_of_lt l4] at n4
  clear l4 n3
  rw [n4, hz_d2 (by omega) (by omega), hz_add] at n5
  clear n4
  have l5 := hz_lt (a0 := k0 + k1 + (k2 + k3)) (a1 := k1 + k2 + (k3 + k4)) (a2 := k2 + k3 + (k4 + k5)) (a3 := k3 + k4 + (k5 + k6)) (a4 := k4 + k5 + (k6 + k7)) (a5 := k5 + k6 + (k7 + 0)) (a6 := k6 + k7 + 0) (a7 := k7 + 0 + 0) (by omega) (by omega) (by omega) (by omega) (by omega) (by omega) (by omega) (by omega)
  rw [Nat.mod_eq_of_lt l5] at n5
  clear l5
  rw [n5, hz_d4 (by omega) (by omega) (by omega) (by omega), hz_add] at n6
  clear n5
  have l6 := hz_lt (a0 := k0 + k1 + (k2 + k3) + (k4 + k5 + (k6 + k7))) (a1 := k1 + k2 + (k3 + k4) + (k5 + k6 + (k7 + 0))) (a2 := k2 + k3 + (k4 + k5) + (k6 + k7 + 0)) (a3 := k3 + k4 + (k5 + k6) + (k7 + 0 + 0)) (a4 := k4 + k5 + (k6 + k7) + 0) (a5 := k5 + k6 + (k7 + 0) + 0) (a6 := k6 + k7 + 0 + 0) (a7 := k7 + 0 + 0 + 0) (by omega) (by omega) (by omega) (by omega) (by omega) (by omega) (by omega) (by omega)
  rw [Nat.mod_eq_of_lt l6] at n6
  clear l6
  rw [n6, hz_m (by omega)]
  clear n6
  omega
