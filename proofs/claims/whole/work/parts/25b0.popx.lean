/-! Long.bitCount, byte by byte -/
def wB : List Nat → Nat
  | [] => 0
  | a :: l => 2 ^ 8 * wB l + a
theorem wB_and {s c : Nat} (hc : c < 2 ^ (8 - s)) (hs : s ≤ 8) : ∀ l : List Nat, (∀ a ∈ l, a < 2 ^ 8) → (wB l >>> s) &&& wB (l.map (fun _ => c)) = wB (l.map (fun a => (a >>> s) &&& c))
  | [], _ => by show (0 >>> s) &&& 0 = 0; rw [Nat.and_zero]
  | a :: l, h => by
    have ih := wB_and hc hs l (fun b hb => h b (List.mem_cons_of_mem _ hb))
    have ha : a < 2 ^ 8 := h a (List.mem_cons_self ..)
    have hc8 : c < 2 ^ 8 := Nat.lt_of_lt_of_le hc (Nat.pow_le_pow_right (by omega) (by omega))
    have hac : (a >>> s) &&& c < 2 ^ 8 := Nat.lt_of_le_of_lt Nat.and_le_right hc8
    show (2 ^ 8 * wB l + a) >>> s &&& (2 ^ 8 * wB (l.map (fun _ => c)) + c) = 2 ^ 8 * wB (l.map (fun a => (a >>> s) &&& c)) + ((a >>> s) &&& c)
    refine Nat.eq_of_testBit_eq (fun j => ?_)
    rw [Nat.testBit_and, Nat.testBit_shiftRight, Nat.testBit_two_pow_mul_add _ ha, Nat.testBit_two_pow_mul_add _ hc8, Nat.testBit_two_pow_mul_add _ hac, ← ih]
    by_cases e : j < 8
    · rw [if_pos e, if_pos e, Nat.testBit_and, Nat.testBit_shiftRight]
      by_cases e2 : s + j < 8
      · rw [if_pos e2]
      · have hf : c.testBit j = false := Nat.testBit_lt_two_pow (Nat.lt_of_lt_of_le hc (Nat.pow_le_pow_right (by omega) (by omega)))
        rw [hf, Bool.and_false, Bool.and_false]
    · rw [if_neg e, if_neg e, if_neg (by omega), Nat.testBit_and, Nat.testBit_shiftRight]
      rw [show s + j - 8 = s + (j - 8) by omega]
theorem wB_add (f g : Nat → Nat) : ∀ l : List Nat, wB (l.map f) + wB (l.map g) = wB (l.map (fun a => f a + g a))
  | [] => rfl
  | a :: l => by
    have ih := wB_add f g l
    show (2 ^ 8 * wB (l.map f) + f a) + (2 ^ 8 * wB (l.map g) + g a) = 2 ^ 8 * wB (l.map (fun a => f a + g a)) + (f a + g a)
    rw [← ih]; omega
theorem wB_lt : ∀ l : List Nat, (∀ a ∈ l, a < 2 ^ 8) → wB l < 2 ^ (8 * l.length)
  | [], _ => by show 0 < 1; omega
  | a :: l, h => by
    have ih := wB_lt l (fun b hb => h b (List.mem_cons_of_mem _ hb))
    have ha : a < 2 ^ 8 := h a (List.mem_cons_self ..)
    show 2 ^ 8 * wB l + a < 2 ^ (8 * (l.length + 1))
    rw [show 8 * (l.length + 1) = 8 * l.length + 8 by omega, Nat.pow_add]
    omega
theorem wB_nib : ∀ l : List Nat, (∀ a ∈ l, a % 16 ≤ 4 ∧ a / 16 ≤ 4) → wB l % 16 ≤ 4
  | [], _ => by show 0 % 16 ≤ 4; omega
  | a :: l, h => by
    have := (h a (List.mem_cons_self ..)).1
    show (2 ^ 8 * wB l + a) % 16 ≤ 4
    omega
theorem wB_three : ∀ l : List Nat, (∀ a ∈ l, a % 16 ≤ 4 ∧ a / 16 ≤ 4) → (wB l + wB l / 16) &&& wB (l.map (fun _ => 15)) = wB (l.map (fun a => a % 16 + a / 16))
  | [], _ => by decide
  | a :: l, h => by
    have ih := wB_three l (fun b hb => h b (List.mem_cons_of_mem _ hb))
    have ha := h a (List.mem_cons_self ..)
    have hn := wB_nib l (fun b hb => h b (List.mem_cons_of_mem _ hb))
    show ((2 ^ 8 * wB l + a) + (2 ^ 8 * wB l + a) / 16) &&& (2 ^ 8 * wB (l.map (fun _ => 15)) + 15) = 2 ^ 8 * wB (l.map (fun a => a % 16 + a / 16)) + (a % 16 + a / 16)
    rw [← ih]
    have e : (2 ^ 8 * wB l + a) + (2 ^ 8 * wB l + a) / 16 = 2 ^ 8 * (wB l + wB l / 16) + (((2 ^ 8 * wB l + a) + (2 ^ 8 * wB l + a) / 16) % 256) := by omega
    have hm : ((2 ^ 8 * wB l + a) + (2 ^ 8 * wB l + a) / 16) % 256 % 16 = a % 16 + a / 16 := by omega
    rw [e]
    generalize hz : ((2 ^ 8 * wB l + a) + (2 ^ 8 * wB l + a) / 16) % 256 = z at hm
    have hz8 : z < 2 ^ 8 := by omega
    have hr : a % 16 + a / 16 < 2 ^ 8 := by omega
    refine Nat.eq_of_testBit_eq (fun j => ?_)
    rw [Nat.testBit_and, Nat.testBit_two_pow_mul_add _ hz8, Nat.testBit_two_pow_mul_add _ (show 15 < 2 ^ 8 by omega), Nat.testBit_two_pow_mul_add _ hr]
    by_cases e2 : j < 8
    · rw [if_pos e2, if_pos e2, if_pos e2, ← Nat.testBit_and, ← hm]
      congr 1
      exact Nat.and_two_pow_sub_one_eq_mod z 4
    · rw [if_neg e2, if_neg e2, if_neg e2, Nat.testBit_and]
theorem byte_pop : ∀ a, a < 256 → cntB (fun j => a.testBit j) 8 = (((a - ((a >>> 1) &&& 85)) >>> 0 &&& 51) + ((a - ((a >>> 1) &&& 85)) >>> 2 &&& 51)) % 16 + (((a - ((a >>> 1) &&& 85)) >>> 0 &&& 51) + ((a - ((a >>> 1) &&& 85)) >>> 2 &&& 51)) / 16 ∧ ((a >>> 1) &&& 85) ≤ a ∧ (((a - ((a >>> 1) &&& 85)) >>> 0 &&& 51) + ((a - ((a >>> 1) &&& 85)) >>> 2 &&& 51)) % 16 ≤ 4 ∧ (((a - ((a >>> 1) &&& 85)) >>> 0 &&& 51) + ((a - ((a >>> 1) &&& 85)) >>> 2 &&& 51)) / 16 ≤ 4 := by decide +kernel
theorem cntB_add (p : Nat → Bool) (m : Nat) : ∀ k, cntB p (m + k) = cntB p m + cntB (fun j => p (m + j)) k
  | 0 => rfl
  | k + 1 => by
    show cntB p (m + k) + _ = cntB p m + (cntB (fun j => p (m + j)) k + _)
    rw [cntB_add p m k, Nat.add_assoc]; rfl
def by_ (X i : Nat) : Nat := (X >>> (8 * i)) % 2 ^ 8
theorem by_cnt (X i : Nat) : cntB (fun j => X.testBit (8 * i + j)) 8 = cntB (fun j => (by_ X i).testBit j) 8 := cntB_congr (fun k hk => by
  unfold by_
  rw [Nat.testBit_mod_two_pow, Nat.testBit_shiftRight, decide_eq_true hk, Bool.true_and])
def byL (X : Nat) : List Nat := [by_ X 0, by_ X 1, by_ X 2, by_ X 3, by_ X 4, by_ X 5, by_ X 6, by_ X 7]
theorem byL_lt (X : Nat) : ∀ a ∈ byL X, a < 2 ^ 8 := fun a ha => by
  unfold byL at ha
  simp only [List.mem_cons, List.not_mem_nil, or_false] at ha
  unfold by_ at ha
  omega
