theorem u_shr64 (n : Nat) (k : Int64) (x : Int64) (he : (((k.toUInt64 &&& Int64.toUInt64 63)).toBitVec % 64).toNat = n) : ((x.toUInt64 >>> (k.toUInt64 &&& Int64.toUInt64 63)).toInt64).toBitVec.toNat = x.toBitVec.toNat >>> n := by
  show ((x.toUInt64 >>> (k.toUInt64 &&& Int64.toUInt64 63)).toBitVec).toNat = x.toUInt64.toBitVec.toNat >>> n
  rw [UInt64.toBitVec_shiftRight]
  show (x.toUInt64.toBitVec >>> ((k.toUInt64 &&& Int64.toUInt64 63).toBitVec % 64).toNat).toNat = _
  rw [he, BitVec.toNat_ushiftRight]
theorem pop64 (X : Nat) : cntB (fun j => X.testBit j) 64 = cntB (fun j => (by_ X 0).testBit j) 8 + cntB (fun j => (by_ X 1).testBit j) 8 + cntB (fun j => (by_ X 2).testBit j) 8 + cntB (fun j => (by_ X 3).testBit j) 8 + cntB (fun j => (by_ X 4).testBit j) 8 + cntB (fun j => (by_ X 5).testBit j) 8 + cntB (fun j => (by_ X 6).testBit j) 8 + cntB (fun j => (by_ X 7).testBit j) 8 := by
  rw [← by_cnt X 0, ← by_cnt X 1, ← by_cnt X 2, ← by_cnt X 3, ← by_cnt X 4, ← by_cnt X 5, ← by_cnt X 6, ← by_cnt X 7]
  rw [show (64 : Nat) = 56 + 8 from rfl, cntB_add, show (56 : Nat) = 48 + 8 from rfl, cntB_add, show (48 : Nat) = 40 + 8 from rfl, cntB_add, show (40 : Nat) = 32 + 8 from rfl, cntB_add, show (32 : Nat) = 24 + 8 from rfl, cntB_add, show (24 : Nat) = 16 + 8 from rfl, cntB_add, show (16 : Nat) = 8 + 8 from rfl, cntB_add]
  simp only [Nat.mul_zero, Nat.zero_add]
theorem wc (X c : Nat) : wB ((byL X).map (fun _ => c)) = 72340172838076673 * c := by
  simp only [byL, List.map, wB]
  omega
