theorem pop_fin {Y c : Nat} (h : Y % 256 = c) (hc : c ≤ 64) : (Y % 2 ^ 32) % 2 ^ 7 = c % 2 ^ 32 := by omega
theorem pop_sub {A B X : Nat} (s : A + B = X) (h : X < 2 ^ 64) : (2 ^ 64 - A + X) % 2 ^ 64 = B := by omega
theorem pop_3 {V : Nat} (h : V ≤ 4919131752989213764) : V + V / 2 ^ 4 < 2 ^ 64 := by omega
theorem pop_h (c0 c1 c2 c3 c4 c5 c6 c7 : Nat) : 2 ^ 8 * (2 ^ 8 * (2 ^ 8 * (2 ^ 8 * (2 ^ 8 * (2 ^ 8 * (2 ^ 8 * (2 ^ 8 * 0 + c7) + c6) + c5) + c4) + c3) + c2) + c1) + c0 = c0 + 256 * c1 + 65536 * c2 + 16777216 * c3 + 4294967296 * c4 + 1099511627776 * c5 + 281474976710656 * c6 + 72057594037927936 * c7 := by omega
theorem pop_b {a : Nat} (h : a % 16 ≤ 4 ∧ a / 16 ≤ 4) : a < 2 ^ 8 := by omega
theorem pop_s {c : Nat} (h : c < 2 ^ 8) (d : Nat) : c - d < 2 ^ 8 := by omega
theorem pop_a {c d : Nat} (h : d ≤ c) : d + (c - d) = c := by omega
theorem pop_le : ∀ l : List Nat, (∀ a ∈ l, a % 16 ≤ 4 ∧ a / 16 ≤ 4) → wB l ≤ wB (l.map (fun _ => 68))
  | [], _ => Nat.le_refl _
  | a :: l, hh => by
    have h1 := pop_le l (fun b hb => hh b (List.mem_cons_of_mem _ hb))
    have h2 := hh a (List.mem_cons_self ..)
    show 2 ^ 8 * wB l + a ≤ 2 ^ 8 * wB (l.map (fun _ => 68)) + 68
    omega
theorem s_bitCount {G : GS} {x : Int64} {post : Int32 → GS → Prop} (h : post (nI (cntB (bl x) 64)) G) : wp_J13_bitCount_95d88 G x post := by
  unfold wp_J13_bitCount_95d88
  rintro y1 e1 y2 e2 y3 e3 y4 e4 y5 e5 y6 e6
  have X64 : x.toBitVec.toNat < 2 ^ 64 := x.toBitVec.isLt
  generalize hX : x.toBitVec.toNat = X at X64
  have hcnt : cntB (bl x) 64 = cntB (fun j => X.testBit j) 64 := cntB_congr (fun k hk => by
    unfold bl
    rw [← hX, BitVec.testBit_toNat])
  have add64 : ∀ a b : Int64, (a + b).toBitVec.toNat = (a.toBitVec.toNat + b.toBitVec.toNat) % 2 ^ 64 := fun a b => by rw [Int64.toBitVec_add, BitVec.toNat_add]
  have and64 : ∀ a b : Int64, (a &&& b).toBitVec.toNat = a.toBitVec.toNat &&& b.toBitVec.toNat := fun a b => by rw [Int64.toBitVec_and, BitVec.toNat_and]
  have hL := byL_lt X
  have hW := byL_w X64
  -- the first three rows, byte by byte
  have w1 : y1.toBitVec.toNat = wB ((byL X).map (fun a => a - ((a >>> 1) &&& 85))) := by
    have q : (((Int64.toUInt64 x >>> (Int64.toUInt64 (Int32.toInt64 1) &&& Int64.toUInt64 63)).toInt64) &&& 6148914691236517205).toBitVec.toNat = wB ((byL X).map (fun a => (a >>> 1) &&& 85)) := by
      rw [and64, u_shr64 1 _ x (by decide +kernel), hX, show (6148914691236517205 : Int64).toBitVec.toNat = wB ((byL X).map (fun _ => 85)) by rw [wc]; rfl, ← wB_and (s := 1) (c := 85) (by decide) (by decide) (byL X) hL, hW]
    have s : wB ((byL X).map (fun a => (a >>> 1) &&& 85)) + wB ((byL X).map (fun a => a - ((a >>> 1) &&& 85))) = X := by
      rw [wB_add]
      have : (byL X).map (fun a => ((a >>> 1) &&& 85) + (a - ((a >>> 1) &&& 85))) = byL X := by
        rw [List.map_congr_left (g := id) (fun a ha => ?_), List.map_id]
        exact pop_a (byte_pop a (hL a ha)).2.1
      rw [this, hW]
    rw [e1, Int64.toBitVec_sub, BitVec.toNat_sub, q, hX]
    exact pop_sub s X64
  have b1 : ∀ a ∈ (byL X).map (fun a => a - ((a >>> 1) &&& 85)), a < 2 ^ 8 := fun a ha => by
    obtain ⟨c, hc, rfl⟩ := List.mem_map.mp ha
    exact pop_s (hL c hc) _
  have w2 : y2.toBitVec.toNat = wB ((byL X).map (fun a => ((a - ((a >>> 1) &&& 85)) >>> 0 &&& 51) + ((a - ((a >>> 1) &&& 85)) >>> 2 &&& 51))) := by
    have c51 : (3689348814741910323 : Int64).toBitVec.toNat = wB (((byL X).map (fun a => a - ((a >>> 1) &&& 85))).map (fun _ => 51)) := by rw [List.map_map]; show _ = wB ((byL X).map (fun _ => 51)); rw [wc]; rfl
    have p0 := wB_and (s := 0) (c := 51) (by decide) (by decide) _ b1
    have p2 := wB_and (s := 2) (c := 51) (by decide) (by decide) _ b1
    have hl : wB ((byL X).map (fun a => ((a - ((a >>> 1) &&& 85)) >>> 0 &&& 51) + ((a - ((a >>> 1) &&& 85)) >>> 2 &&& 51))) < 2 ^ 64 := wB_lt _ (fun a ha => by
      obtain ⟨c, hc, rfl⟩ := List.mem_map.mp ha
      exact pop_b (byte_pop c (hL c hc)).2.2)
    rw [e2, add64, and64, and64, u_shr64 2 _ y1 (by decide +kernel), w1, c51, p2]
    rw [Nat.shiftRight_zero] at p0
    rw [p0, List.map_map, List.map_map]
    show (wB ((byL X).map (fun a => (a - ((a >>> 1) &&& 85)) >>> 0 &&& 51)) + wB ((byL X).map (fun a => (a - ((a >>> 1) &&& 85)) >>> 2 &&& 51))) % 2 ^ 64 = _
    rw [wB_add, Nat.mod_eq_of_lt hl]
  have b2 : ∀ a ∈ (byL X).map (fun a => ((a - ((a >>> 1) &&& 85)) >>> 0 &&& 51) + ((a - ((a >>> 1) &&& 85)) >>> 2 &&& 51)), a % 16 ≤ 4 ∧ a / 16 ≤ 4 := fun a ha => by
    obtain ⟨c, hc, rfl⟩ := List.mem_map.mp ha
    exact (byte_pop c (hL c hc)).2.2
  have w3 : y3.toBitVec.toNat = wB ((byL X).map (fun a => cntB (fun j => a.testBit j) 8)) := by
    have hl := wB_lt ((byL X).map (fun a => ((a - ((a >>> 1) &&& 85)) >>> 0 &&& 51) + ((a - ((a >>> 1) &&& 85)) >>> 2 &&& 51))) (fun a ha => pop_b (b2 a ha))
    have h3 := wB_three _ b2
    have hl5 : wB ((byL X).map (fun a => ((a - ((a >>> 1) &&& 85)) >>> 0 &&& 51) + ((a - ((a >>> 1) &&& 85)) >>> 2 &&& 51))) ≤ 4919131752989213764 := by
      have r := pop_le _ b2
      rw [List.map_map] at r
      have r2 : wB ((byL X).map (fun _ => 68)) = 4919131752989213764 := by rw [wc]
      exact Nat.le_trans r (Nat.le_of_eq r2)
    rw [e3, and64, add64, u_shr64 4 _ y2 (by decide +kernel), w2, Nat.shiftRight_eq_div_pow, show (1085102592571150095 : Int64).toBitVec.toNat = wB (((byL X).map (fun a => ((a - ((a >>> 1) &&& 85)) >>> 0 &&& 51) + ((a - ((a >>> 1) &&& 85)) >>> 2 &&& 51))).map (fun _ => 15)) by rw [List.map_map]; show _ = wB ((byL X).map (fun _ => 15)); rw [wc]; rfl]
    rw [Nat.mod_eq_of_lt (pop_3 hl5)]
    show _ &&& _ = _
    rw [show (2 : Nat) ^ 4 = 16 from rfl, h3, List.map_map]
    refine congrArg wB (List.map_congr_left (fun a ha => ?_))
    exact (byte_pop a (hL a ha)).1.symm
  have l8 : ∀ i, cntB (fun j => (by_ X i).testBit j) 8 ≤ 8 := fun i => cntB_le _ 8
  have n3 : y3.toBitVec.toNat = cntB (fun j => (by_ X 0).testBit j) 8 + 256 * cntB (fun j => (by_ X 1).testBit j) 8 + 65536 * cntB (fun j => (by_ X 2).testBit j) 8 + 16777216 * cntB (fun j => (by_ X 3).testBit j) 8 + 4294967296 * cntB (fun j => (by_ X 4).testBit j) 8 + 1099511627776 * cntB (fun j => (by_ X 5).testBit j) 8 + 281474976710656 * cntB (fun j => (by_ X 6).testBit j) 8 + 72057594037927936 * cntB (fun j => (by_ X 7).testBit j) 8 := by
    rw [w3]
    simp only [byL, List.map, wB]
    exact pop_h _ _ _ _ _ _ _ _
  have n4 : y4.toBitVec.toNat = (y3.toBitVec.toNat + y3.toBitVec.toNat / 256) % 18446744073709551616 := by rw [e4, add64, u_shr64 8 _ y3 (by decide +kernel), Nat.shiftRight_eq_div_pow]
  have n5 : y5.toBitVec.toNat = (y4.toBitVec.toNat + y4.toBitVec.toNat / 65536) % 18446744073709551616 := by rw [e5, add64, u_shr64 16 _ y4 (by decide +kernel), Nat.shiftRight_eq_div_pow]
  have n6 : y6.toBitVec.toNat = (y5.toBitVec.toNat + y5.toBitVec.toNat / 4294967296) % 18446744073709551616 := by rw [e6, add64, u_shr64 32 _ y5 (by decide +kernel), Nat.shiftRight_eq_div_pow]
  have n7 := pop_tail (l8 0) (l8 1) (l8 2) (l8 3) (l8 4) (l8 5) (l8 6) (l8 7) n3 n4 n5 n6
  have n8 : y6.toBitVec.toNat % 256 = cntB (bl x) 64 := by rw [hcnt, pop64, n7]
  have h64 : cntB (bl x) 64 ≤ 64 := cntB_le _ 64
  have fin : (Int64.toInt32 y6) &&& 127 = nI (cntB (bl x) 64) := by
    apply Int32.toBitVec_inj.mp
    apply BitVec.eq_of_toNat_eq
    rw [Int32.toBitVec_and, BitVec.toNat_and, Int64.toBitVec_toInt32, BitVec.signExtend_eq_setWidth_of_le _ (by decide), BitVec.toNat_setWidth]
    show (y6.toBitVec.toNat % 2 ^ 32) &&& 127 = (BitVec.ofNat 32 (cntB (bl x) 64)).toNat
    rw [BitVec.toNat_ofNat, show (127 : Nat) = 2 ^ 7 - 1 from rfl, Nat.and_two_pow_sub_one_eq_mod]
    exact pop_fin n8 h64
  rw [fin]
  exact h
