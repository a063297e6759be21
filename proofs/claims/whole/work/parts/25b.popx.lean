/-! Long.bitCount, byte by byte -/
def wB : List Nat → Nat
  | [] => 0
  | a :: l => 2 ^ 8 * wB l + a
theorem wB_and {s c : Nat} (hc : c < 2 ^ (8 - s)) (hs : s ≤ 8) : ∀ l : List Nat, (∀ a ∈ l, a < 2 ^ 8) → (wB l >>> s) &&& wB (l.map (fun _ => c)) = wB (l.map (fun a => (a >>> s) &&& c))
  | [], _ => by show (0 >>> s) &&& 0 = 0; rw [Nat.and_zero]
  | a :: l, h => by
    have ih := wB_and hc hs l (fun b hb => h b (List.mem_cons_of_mem _ hb))
    have ha : a < 2 ^ 8 := h a (List.mem_cons_self ..)
    have hc8 : c < 2 ^ 8 := Nat.lt_of_lt_of_le hc (Nat.pow_le_pow_right (by omega) (by omega))
    have hac : (a >>> s) &&& c < 2 ^ 8 := Nat.lt_of_le_of_lt Nat.and_le_right hc8
    show (2 ^ 8 * wB l + a) >>> s &&& (2 ^ 8 * wB (l.map (fun _ => c)) + c) = 2 ^ 8 * wB (l.map (fun a => (a >>> s) &&& c)) + ((a >>> s) &&& c)
    refine Nat.eq_of_testBit_eq (fun j => ?_)
    rw [Nat.testBit_and, Nat.testBit_shiftRight, Nat.testBit_two_pow_mul_add _ ha, Nat.testBit_two_pow_mul_add _ hc8, Nat.testBit_two_pow_mul_add _ hac, ← ih]
    by_cases e : j < 8
    · rw [if_pos e, if_pos e, Nat.testBit_and, Nat.testBit_shiftRight]
      by_cases e2 : s + j < 8
      · rw [if_pos e2]
      · have hf : c.testBit j = false := Nat.testBit_lt_two_pow (Nat.lt_of_lt_of_le hc (Nat.pow_le_pow_right (by omega) (by omega)))
        rw [hf, Bool.and_false, Bool.and_false]
    · rw [if_neg e, if_neg e, if_neg (by omega), Nat.testBit_and, Nat.testBit_shiftRight]
      rw [show s + j - 8 = s + (j - 8) by omega]
theorem wB_add (f g : Nat → Nat) : ∀ l : List Nat, wB (l.map f) + wB (l.map g) = wB (l.map (fun a => f a + g a))
  | [] => rfl
  | a :: l => by
    have ih := wB_add f g l
    show (2 ^ 8 * wB (l.map f) + f a) + (2 ^ 8 * wB (l.map g) + g a) = 2 ^ 8 * wB (l.map (fun a => f a + g a)) + (f a + g a)
    rw [← ih]; omega
theorem wB_lt : ∀ l : List Nat, (∀ a ∈ l, a < 2 ^ 8) → wB l < 2 ^ (8 * l.length)
  | [], _ => by show 0 < 1; omega
  | a :: l, h => by
    have ih := wB_lt l (fun b hb => h b (List.mem_cons_of_mem _ hb))
    have ha : a < 2 ^ 8 := h a (List.mem_cons_self ..)
    show 2 ^ 8 * wB l + a < 2 ^ (8 * (l.length + 1))
    rw [show 8 * (l.length + 1) = 8 * l.length + 8 by omega, Nat.pow_add]
    omega
theorem wB_nib : ∀ l : List Nat, (∀ a ∈ l, a % 16 ≤ 4 ∧ a / 16 ≤ 4) → wB l % 16 ≤ 4
  | [], _ => by show 0 % 16 ≤ 4; omega
  | a :: l, h => by
    have := (h a (List.mem_cons_self ..)).1
    show (2 ^ 8 * wB l + a) % 16 ≤ 4
    omega
theorem wB_three : ∀ l : List Nat, (∀ a ∈ l, a % 16 ≤ 4 ∧ a / 16 ≤ 4) → (wB l + wB l / 16) &&& wB (l.map (fun _ => 15)) = wB (l.map (fun a => a % 16 + a / 16))
  | [], _ => by decide
  | a :: l, h => by
    have ih := wB_three l (fun b hb => h b (List.mem_cons_of_mem _ hb))
    have ha := h a (List.mem_cons_self ..)
    have hn := wB_nib l (fun b hb => h b (List.mem_cons_of_mem _ hb))
    show ((2 ^ 8 * wB l + a) + (2 ^ 8 * wB l + a) / 16) &&& (2 ^ 8 * wB (l.map (fun _ => 15)) + 15) = 2 ^ 8 * wB (l.map (fun a => a % 16 + a / 16)) + (a % 16 + a / 16)
    rw [← ih]
    have e : (2 ^ 8 * wB l + a) + (2 ^ 8 * wB l + a) / 16 = 2 ^ 8 * (wB l + wB l / 16) + (((2 ^ 8 * wB l + a) + (2 ^ 8 * wB l + a) / 16) % 256) := by omega
    have hm : ((2 ^ 8 * wB l + a) + (2 ^ 8 * wB l + a) / 16) % 256 % 16 = a % 16 + a / 16 := by omega
    rw [e]
    generalize hz : ((2 ^ 8 * wB l + a) + (2 ^ 8 * wB l + a) / 16) % 256 = z at hm
    have hz8 : z < 2 ^ 8 := by omega
    have hr : a % 16 + a / 16 < 2 ^ 8 := by omega
    refine Nat.eq_of_testBit_eq (fun j => ?_)
    rw [Nat.testBit_and, Nat.testBit_two_pow_mul_add _ hz8, Nat.testBit_two_pow_mul_add _ (show 15 < 2 ^ 8 by omega), Nat.testBit_two_pow_mul_add _ hr]
    by_cases e2 : j < 8
    · rw [if_pos e2, if_pos e2, if_pos e2, ← Nat.testBit_and, ← hm]
      congr 1
      exact Nat.and_two_pow_sub_one_eq_mod z 4
    · rw [if_neg e2, if_neg e2, if_neg e2, Nat.testBit_and]
theorem byte_pop : ∀ a, a < 256 → cntB (fun j => a.testBit j) 8 = (((a - ((a >>> 1) &&& 85)) >>> 0 &&& 51) + ((a - ((a >>> 1) &&& 85)) >>> 2 &&& 51)) % 16 + (((a - ((a >>> 1) &&& 85)) >>> 0 &&& 51) + ((a - ((a >>> 1) &&& 85)) >>> 2 &&& 51)) / 16 ∧ ((a >>> 1) &&& 85) ≤ a ∧ (((a - ((a >>> 1) &&& 85)) >>> 0 &&& 51) + ((a - ((a >>> 1) &&& 85)) >>> 2 &&& 51)) % 16 ≤ 4 ∧ (((a - ((a >>> 1) &&& 85)) >>> 0 &&& 51) + ((a - ((a >>> 1) &&& 85)) >>> 2 &&& 51)) / 16 ≤ 4 := by decide +kernel
theorem cntB_add (p : Nat → Bool) (m : Nat) : ∀ k, cntB p (m + k) = cntB p m + cntB (fun j => p (m + j)) k
  | 0 => rfl
  | k + 1 => by
    show cntB p (m + k) + _ = cntB p m + (cntB (fun j => p (m + j)) k + _)
    rw [cntB_add p m k, Nat.add_assoc]; rfl
def by_ (X i : Nat) : Nat := (X >>> (8 * i)) % 2 ^ 8
theorem by_cnt (X i : Nat) : cntB (fun j => X.testBit (8 * i + j)) 8 = cntB (fun j => (by_ X i).testBit j) 8 := cntB_congr (fun k hk => by
  unfold by_
  rw [Nat.testBit_mod_two_pow, Nat.testBit_shiftRight, decide_eq_true hk, Bool.true_and])
def byL (X : Nat) : List Nat := [by_ X 0, by_ X 1, by_ X 2, by_ X 3, by_ X 4, by_ X 5, by_ X 6, by_ X 7]
theorem byL_lt (X : Nat) : ∀ a ∈ byL X, a < 2 ^ 8 := fun a ha => by
  unfold byL at ha
  simp only [List.mem_cons, List.not_mem_nil, or_false] at ha
  unfold by_ at ha
  omega
theorem byL_w {X : Nat} (h : X < 2 ^ 64) : wB (byL X) = X := by
  unfold byL wB
  simp only [wB, by_, Nat.shiftRight_eq_div_pow]
  omega
theorem u_shr64 (n : Nat) (k : Int64) (x : Int64) (he : (((k.toUInt64 &&& Int64.toUInt64 63)).toBitVec % 64).toNat = n) : ((x.toUInt64 >>> (k.toUInt64 &&& Int64.toUInt64 63)).toInt64).toBitVec.toNat = x.toBitVec.toNat >>> n := by
  show ((x.toUInt64 >>> (k.toUInt64 &&& Int64.toUInt64 63)).toBitVec).toNat = x.toUInt64.toBitVec.toNat >>> n
  rw [UInt64.toBitVec_shiftRight]
  show (x.toUInt64.toBitVec >>> ((k.toUInt64 &&& Int64.toUInt64 63).toBitVec % 64).toNat).toNat = _
  rw [he, BitVec.toNat_ushiftRight]
theorem pop64 (X : Nat) : cntB (fun j => X.testBit j) 64 = cntB (fun j => (by_ X 0).testBit j) 8 + cntB (fun j => (by_ X 1).testBit j) 8 + cntB (fun j => (by_ X 2).testBit j) 8 + cntB (fun j => (by_ X 3).testBit j) 8 + cntB (fun j => (by_ X 4).testBit j) 8 + cntB (fun j => (by_ X 5).testBit j) 8 + cntB (fun j => (by_ X 6).testBit j) 8 + cntB (fun j => (by_ X 7).testBit j) 8 := by
  rw [← by_cnt X 0, ← by_cnt X 1, ← by_cnt X 2, ← by_cnt X 3, ← by_cnt X 4, ← by_cnt X 5, ← by_cnt X 6, ← by_cnt X 7]
  rw [show (64 : Nat) = 56 + 8 from rfl, cntB_add, show (56 : Nat) = 48 + 8 from rfl, cntB_add, show (48 : Nat) = 40 + 8 from rfl, cntB_add, show (40 : Nat) = 32 + 8 from rfl, cntB_add, show (32 : Nat) = 24 + 8 from rfl, cntB_add, show (24 : Nat) = 16 + 8 from rfl, cntB_add, show (16 : Nat) = 8 + 8 from rfl, cntB_add]
  simp only [Nat.mul_zero, Nat.zero_add]
theorem wc (X c : Nat) : wB ((byL X).map (fun _ => c)) = 72340172838076673 * c := by
  simp only [byL, List.map, wB]
  omega
theorem pop_tail {k0 k1 k2 k3 k4 k5 k6 k7 Y3 Y4 Y5 Y6 : Nat} (c0 : k0 ≤ 8) (c1 : k1 ≤ 8) (c2 : k2 ≤ 8) (c3 : k3 ≤ 8) (c4 : k4 ≤ 8) (c5 : k5 ≤ 8) (c6 : k6 ≤ 8) (c7 : k7 ≤ 8)
    (n3 : Y3 = k0 + 256 * k1 + 65536 * k2 + 16777216 * k3 + 4294967296 * k4 + 1099511627776 * k5 + 281474976710656 * k6 + 72057594037927936 * k7)
    (n4 : Y4 = (Y3 + Y3 / 256) % 18446744073709551616) (n5 : Y5 = (Y4 + Y4 / 65536) % 18446744073709551616) (n6 : Y6 = (Y5 + Y5 / 4294967296) % 18446744073709551616) : Y6 % 256 = k0 + k1 + k2 + k3 + k4 + k5 + k6 + k7 := by
  have w4 : Y4 = (k0 + k1) + 256 * (k1 + k2) + 65536 * (k2 + k3) + 16777216 * (k3 + k4) + 4294967296 * (k4 + k5) + 1099511627776 * (k5 + k6) + 281474976710656 * (k6 + k7) + 72057594037927936 * k7 := by
    have d : Y3 / 256 = k1 + 256 * k2 + 65536 * k3 + 16777216 * k4 + 4294967296 * k5 + 1099511627776 * k6 + 281474976710656 * k7 := by omega
    rw [n4, d, n3, Nat.mod_eq_of_lt (by omega)]
    omega
  have w5 : Y5 = (k0 + k1 + k2 + k3) + 256 * (k1 + k2 + k3 + k4) + 65536 * (k2 + k3 + k4 + k5) + 16777216 * (k3 + k4 + k5 + k6) + 4294967296 * (k4 + k5 + k6 + k7) + 1099511627776 * (k5 + k6 + k7) + 281474976710656 * (k6 + k7) + 72057594037927936 * k7 := by
    have d : Y4 / 65536 = (k2 + k3) + 256 * (k3 + k4) + 65536 * (k4 + k5) + 16777216 * (k5 + k6) + 4294967296 * (k6 + k7) + 1099511627776 * k7 := by
      clear n3 n4 n5 n6
      omega
    rw [n5, d, w4, Nat.mod_eq_of_lt (by omega)]
    omega
  have d : Y5 / 4294967296 = (k4 + k5 + k6 + k7) + 256 * (k5 + k6 + k7) + 65536 * (k6 + k7) + 16777216 * k7 := by
    clear n3 n4 n5 n6 w4
    omega
  rw [n6, d, w5, Nat.mod_eq_of_lt (by omega)]
  omega
theorem s_bitCount {G : GS} {x : Int64} {post : Int32 → GS → Prop} (h : post (nI (cntB (bl x) 64)) G) : wp_J13_bitCount_95d88 G x post := by
  unfold wp_J13_bitCount_95d88
  rintro y1 e1 y2 e2 y3 e3 y4 e4 y5 e5 y6 e6
  have X64 : x.toBitVec.toNat < 2 ^ 64 := x.toBitVec.isLt
  generalize hX : x.toBitVec.toNat = X at X64
  have hcnt : cntB (bl x) 64 = cntB (fun j => X.testBit j) 64 := cntB_congr (fun k hk => by
    unfold bl
    rw [← hX, BitVec.testBit_toNat])
  have add64 : ∀ a b : Int64, (a + b).toBitVec.toNat = (a.toBitVec.toNat + b.toBitVec.toNat) % 2 ^ 64 := fun a b => by rw [Int64.toBitVec_add, BitVec.toNat_add]
  have and64 : ∀ a b : Int64, (a &&& b).toBitVec.toNat = a.toBitVec.toNat &&& b.toBitVec.toNat := fun a b => by rw [Int64.toBitVec_and, BitVec.toNat_and]
  have hL := byL_lt X
  have hW := byL_w X64
  -- the first three rows, byte by byte
  have w1 : y1.toBitVec.toNat = wB ((byL X).map (fun a => a - ((a >>> 1) &&& 85))) := by
    have q : (((Int64.toUInt64 x >>> (Int64.toUInt64 (Int32.toInt64 1) &&& Int64.toUInt64 63)).toInt64) &&& 6148914691236517205).toBitVec.toNat = wB ((byL X).map (fun a => (a >>> 1) &&& 85)) := by
      rw [and64, u_shr64 1 _ x (by decide +kernel), hX, show (6148914691236517205 : Int64).toBitVec.toNat = wB ((byL X).map (fun _ => 85)) by rw [wc]; rfl, ← wB_and (s := 1) (c := 85) (by decide) (by decide) (byL X) hL, hW]
    have s : wB ((byL X).map (fun a => (a >>> 1) &&& 85)) + wB ((byL X).map (fun a => a - ((a >>> 1) &&& 85))) = X := by
      rw [wB_add]
      have : (byL X).map (fun a => ((a >>> 1) &&& 85) + (a - ((a >>> 1) &&& 85))) = byL X := by
        rw [List.map_congr_left (g := id) (fun a ha => ?_), List.map_id]
        have := (byte_pop a (hL a ha)).2.1
        show ((a >>> 1) &&& 85) + (a - ((a >>> 1) &&& 85)) = a
        omega
      rw [this, hW]
    rw [e1, Int64.toBitVec_sub, BitVec.toNat_sub, q, hX]
    omega
  have b1 : ∀ a ∈ (byL X).map (fun a => a - ((a >>> 1) &&& 85)), a < 2 ^ 8 := fun a ha => by
    obtain ⟨c, hc, rfl⟩ := List.mem_map.mp ha
    have := hL c hc
    dsimp only
    omega
  have w2 : y2.toBitVec.toNat = wB ((byL X).map (fun a => ((a - ((a >>> 1) &&& 85)) >>> 0 &&& 51) + ((a - ((a >>> 1) &&& 85)) >>> 2 &&& 51))) := by
    have c51 : (3689348814741910323 : Int64).toBitVec.toNat = wB (((byL X).map (fun a => a - ((a >>> 1) &&& 85))).map (fun _ => 51)) := by rw [List.map_map]; show _ = wB ((byL X).map (fun _ => 51)); rw [wc]; rfl
    have p0 := wB_and (s := 0) (c := 51) (by decide) (by decide) _ b1
    have p2 := wB_and (s := 2) (c := 51) (by decide) (by decide) _ b1
    rw [List.map_map] at p0 p2
    have hl : wB ((byL X).map (fun a => ((a - ((a >>> 1) &&& 85)) >>> 0 &&& 51) + ((a - ((a >>> 1) &&& 85)) >>> 2 &&& 51))) < 2 ^ 64 := wB_lt _ (fun a ha => by
      obtain ⟨c, hc, rfl⟩ := List.mem_map.mp ha
      have := byte_pop c (hL c hc)
      dsimp only
      omega)
    rw [e2, add64, and64, and64, u_shr64 2 _ y1 (by decide +kernel), w1, c51, p2]
    rw [Nat.shiftRight_zero] at p0
    rw [p0]
    show (wB ((byL X).map (fun a => (a - ((a >>> 1) &&& 85)) >>> 0 &&& 51)) + wB ((byL X).map (fun a => (a - ((a >>> 1) &&& 85)) >>> 2 &&& 51))) % 2 ^ 64 = _
    rw [wB_add, Nat.mod_eq_of_lt hl]
  have b2 : ∀ a ∈ (byL X).map (fun a => ((a - ((a >>> 1) &&& 85)) >>> 0 &&& 51) + ((a - ((a >>> 1) &&& 85)) >>> 2 &&& 51)), a % 16 ≤ 4 ∧ a / 16 ≤ 4 := fun a ha => by
    obtain ⟨c, hc, rfl⟩ := List.mem_map.mp ha
    exact (byte_pop c (hL c hc)).2.2
  have w3 : y3.toBitVec.toNat = wB ((byL X).map (fun a => cntB (fun j => a.testBit j) 8)) := by
    have hl := wB_lt ((byL X).map (fun a => ((a - ((a >>> 1) &&& 85)) >>> 0 &&& 51) + ((a - ((a >>> 1) &&& 85)) >>> 2 &&& 51))) (fun a ha => by
      have := b2 a ha
      omega)
    have h3 := wB_three _ b2
    have hl5 : wB ((byL X).map (fun a => ((a - ((a >>> 1) &&& 85)) >>> 0 &&& 51) + ((a - ((a >>> 1) &&& 85)) >>> 2 &&& 51))) ≤ 4919131752989213764 := by
      have q : ∀ l : List Nat, (∀ a ∈ l, a % 16 ≤ 4 ∧ a / 16 ≤ 4) → wB l ≤ wB (l.map (fun _ => 68)) := fun l => by
        induction l with
        | nil => intro _; exact Nat.le_refl _
        | cons a l ih =>
          intro hh
          have h1 := ih (fun b hb => hh b (List.mem_cons_of_mem _ hb))
          have h2 := hh a (List.mem_cons_self ..)
          show 2 ^ 8 * wB l + a ≤ 2 ^ 8 * wB (l.map (fun _ => 68)) + 68
          omega
      have r := q _ b2
      rw [List.map_map] at r
      have r2 : wB ((byL X).map (fun _ => 68)) = 4919131752989213764 := by rw [wc]
      exact Nat.le_trans r (Nat.le_of_eq r2)
    rw [e3, and64, add64, u_shr64 4 _ y2 (by decide +kernel), w2, Nat.shiftRight_eq_div_pow, show (1085102592571150095 : Int64).toBitVec.toNat = wB (((byL X).map (fun a => ((a - ((a >>> 1) &&& 85)) >>> 0 &&& 51) + ((a - ((a >>> 1) &&& 85)) >>> 2 &&& 51))).map (fun _ => 15)) by rw [List.map_map]; show _ = wB ((byL X).map (fun _ => 15)); rw [wc]; rfl]
    rw [Nat.mod_eq_of_lt (by omega)]
    show _ &&& _ = _
    rw [show (2 : Nat) ^ 4 = 16 from rfl, h3, List.map_map]
    refine congrArg wB (List.map_congr_left (fun a ha => ?_))
    exact (byte_pop a (hL a ha)).1.symm
  have l8 : ∀ i, cntB (fun j => (by_ X i).testBit j) 8 ≤ 8 := fun i => cntB_le _ 8
  have n3 : y3.toBitVec.toNat = cntB (fun j => (by_ X 0).testBit j) 8 + 256 * cntB (fun j => (by_ X 1).testBit j) 8 + 65536 * cntB (fun j => (by_ X 2).testBit j) 8 + 16777216 * cntB (fun j => (by_ X 3).testBit j) 8 + 4294967296 * cntB (fun j => (by_ X 4).testBit j) 8 + 1099511627776 * cntB (fun j => (by_ X 5).testBit j) 8 + 281474976710656 * cntB (fun j => (by_ X 6).testBit j) 8 + 72057594037927936 * cntB (fun j => (by_ X 7).testBit j) 8 := by
    rw [w3]
    simp only [byL, List.map, wB]
    omega
  have n4 : y4.toBitVec.toNat = (y3.toBitVec.toNat + y3.toBitVec.toNat / 256) % 18446744073709551616 := by rw [e4, add64, u_shr64 8 _ y3 (by decide +kernel), Nat.shiftRight_eq_div_pow]
  have n5 : y5.toBitVec.toNat = (y4.toBitVec.toNat + y4.toBitVec.toNat / 65536) % 18446744073709551616 := by rw [e5, add64, u_shr64 16 _ y4 (by decide +kernel), Nat.shiftRight_eq_div_pow]
  have n6 : y6.toBitVec.toNat = (y5.toBitVec.toNat + y5.toBitVec.toNat / 4294967296) % 18446744073709551616 := by rw [e6, add64, u_shr64 32 _ y5 (by decide +kernel), Nat.shiftRight_eq_div_pow]
  have n7 := pop_tail (l8 0) (l8 1) (l8 2) (l8 3) (l8 4) (l8 5) (l8 6) (l8 7) n3 n4 n5 n6
  have n8 : y6.toBitVec.toNat % 256 = cntB (bl x) 64 := by rw [hcnt, pop64, n7]
  have h64 : cntB (bl x) 64 ≤ 64 := cntB_le _ 64
  have fin : (Int64.toInt32 y6) &&& 127 = nI (cntB (bl x) 64) := by
    apply Int32.toBitVec_inj.mp
    apply BitVec.eq_of_toNat_eq
    rw [Int32.toBitVec_and, BitVec.toNat_and, Int64.toBitVec_toInt32, BitVec.toNat_setWidth]
    show (y6.toBitVec.toNat % 2 ^ 32) &&& 127 = (BitVec.ofNat 32 (cntB (bl x) 64)).toNat
    rw [BitVec.toNat_ofNat, show (127 : Nat) = 2 ^ 7 - 1 from rfl, Nat.and_two_pow_sub_one_eq_mod]
    omega
  rw [fin]
  exact h
