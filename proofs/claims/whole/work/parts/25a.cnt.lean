/-! counting -/
def cntB (p : Nat → Bool) : Nat → Nat
  | 0 => 0
  | n + 1 => cntB p n + (if p n then 1 else 0)
theorem cntB_le (p : Nat → Bool) : ∀ n, cntB p n ≤ n
  | 0 => Nat.le_refl _
  | n + 1 => by
    have h := cntB_le p n
    show cntB p n + (if p n then 1 else 0) ≤ n + 1
    split <;> omega
theorem cntB_congr {p p' : Nat → Bool} : ∀ {n : Nat}, (∀ k, k < n → p k = p' k) → cntB p n = cntB p' n
  | 0, _ => rfl
  | n + 1, h => by
    show cntB p n + _ = cntB p' n + _
    rw [cntB_congr (n := n) (fun k hk => h k (by omega)), h n (by omega)]
theorem cntB_more {p : Nat → Bool} {n : Nat} : ∀ {m : Nat}, n ≤ m → (∀ k, n ≤ k → k < m → p k = false) → cntB p m = cntB p n
  | 0, h, _ => by rw [show n = 0 by omega]
  | m + 1, h, h2 => by
    by_cases e : n = m + 1
    · rw [e]
    · show cntB p m + _ = _
      rw [cntB_more (n := n) (m := m) (by omega) (fun k h3 h4 => h2 k h3 (by omega)), h2 m (by omega) (by omega)]
      rfl
