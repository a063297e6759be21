/-! counting -/
def cntB (p : Nat → Bool) : Nat → Nat
  | 0 => 0
  | n + 1 => cntB p n + (if p n then 1 else 0)
theorem cntB_le (p : Nat → Bool) : ∀ n, cntB p n ≤ n
  | 0 => Nat.le_refl _
  | n + 1 => by
    have h := cntB_le p n
    show cntB p n + (if p n then 1 else 0) ≤ n + 1
    split <;> omega
theorem cntB_congr {p p' : Nat → Bool} : ∀ {n : Nat}, (∀ k, k < n → p k = p' k) → cntB p n = cntB p' n
  | 0, _ => rfl
  | n + 1, h => by
    show cntB p n + _ = cntB p' n + _
    rw [cntB_congr (n := n) (fun k hk => h k (by omega)), h n (by omega)]
theorem cntB_more {p : Nat → Bool} {n : Nat} : ∀ {m : Nat}, n ≤ m → (∀ k, n ≤ k → k < m → p k = false) → cntB p m = cntB p n
  | 0, h, _ => by rw [show n = 0 by omega]
  | m + 1, h, h2 => by
    by_cases e : n = m + 1
    · rw [e]
    · show cntB p m + _ = _
      rw [cntB_more (n := n) (m := m) (by omega) (fun k h3 h4 => h2 k h3 (by omega)), h2 m (by omega) (by omega)]
      rfl
theorem s_bitCount {G : GS} {x : Int64} {post : Int32 → GS → Prop} (h : post (nI (cntB (bl x) 64)) G) : wp_J13_bitCount_95d88 G x post := by
  sorry
def orB (p : Nat → Bool) : Nat → Bool
  | 0 => false
  | n + 1 => orB p n || p n
theorem orB_iff {p : Nat → Bool} : ∀ {n : Nat}, orB p n = true ↔ ∃ k, k < n ∧ p k = true
  | 0 => ⟨fun h => (Bool.noConfusion (h : false = true)), fun ⟨k, h, _⟩ => absurd h (by omega)⟩
  | n + 1 => by
    show (orB p n || p n) = true ↔ _
    rw [Bool.or_eq_true, orB_iff]
    constructor
    · rintro (⟨k, h1, h2⟩ | h)
      · exact ⟨k, by omega, h2⟩
      · exact ⟨n, by omega, h⟩
    · rintro ⟨k, h1, h2⟩
      by_cases e : k = n
      · exact Or.inr (by rw [← e]; exact h2)
      · exact Or.inl ⟨k, by omega, h2⟩
theorem orB_congr {p p' : Nat → Bool} : ∀ {n : Nat}, (∀ k, k < n → p k = p' k) → orB p n = orB p' n
  | 0, _ => rfl
  | n + 1, h => by
    show (orB p n || p n) = (orB p' n || p' n)
    rw [orB_congr (n := n) (fun k hk => h k (by omega)), h n (by omega)]
theorem orB_f {p : Nat → Bool} {n : Nat} (h : ∀ k, k < n → p k = false) : orB p n = false := by
  cases hb : orB p n with
  | false => rfl
  | true =>
    obtain ⟨k, h1, h2⟩ := orB_iff.mp hb
    rw [h k h1] at h2; cases h2
theorem orB_t {p : Nat → Bool} {n k : Nat} (hk : k < n) (h : p k = true) : orB p n = true := orB_iff.mpr ⟨k, hk, h⟩
/-- what the machine adds of a truth -/
theorem cnt_step {p : Nat → Bool} {n : Nat} (h : p n = true) : nI (cntB p n) + 1 = nI (cntB p (n + 1)) := by
  rw [nI_1]
  show _ = nI (cntB p n + (if p n then 1 else 0))
  rw [h]; rfl
theorem cnt_stay {p : Nat → Bool} {n : Nat} (h : p n = false) : cntB p n = cntB p (n + 1) := by
  show _ = cntB p n + (if p n then 1 else 0)
  rw [h]; rfl
