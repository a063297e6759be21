def orB (p : Nat → Bool) : Nat → Bool
  | 0 => false
  | n + 1 => orB p n || p n
theorem orB_iff {p : Nat → Bool} : ∀ {n : Nat}, orB p n = true ↔ ∃ k, k < n ∧ p k = true
  | 0 => ⟨fun h => (Bool.noConfusion (h : false = true)), fun ⟨k, h, _⟩ => absurd h (by omega)⟩
  | n + 1 => by
    show (orB p n || p n) = true ↔ _
    rw [Bool.or_eq_true, orB_iff]
    constructor
    · rintro (⟨k, h1, h2⟩ | h)
      · exact ⟨k, by omega, h2⟩
      · exact ⟨n, by omega, h⟩
    · rintro ⟨k, h1, h2⟩
      by_cases e : k = n
      · exact Or.inr (by rw [← e]; exact h2)
      · exact Or.inl ⟨k, by omega, h2⟩
theorem orB_congr {p p' : Nat → Bool} : ∀ {n : Nat}, (∀ k, k < n → p k = p' k) → orB p n = orB p' n
  | 0, _ => rfl
  | n + 1, h => by
    show (orB p n || p n) = (orB p' n || p' n)
    rw [orB_congr (n := n) (fun k hk => h k (by omega)), h n (by omega)]
theorem orB_f {p : Nat → Bool} {n : Nat} (h : ∀ k, k < n → p k = false) : orB p n = false := by
  cases hb : orB p n with
  | false => rfl
  | true =>
    obtain ⟨k, h1, h2⟩ := orB_iff.mp hb
    rw [h k h1] at h2; cases h2
theorem orB_t {p : Nat → Bool} {n k : Nat} (hk : k < n) (h : p k = true) : orB p n = true := orB_iff.mpr ⟨k, hk, h⟩
/-- what the machine adds of a truth -/
theorem cnt_step {p : Nat → Bool} {n : Nat} (h : p n = true) : nI (cntB p n) + 1 = nI (cntB p (n + 1)) := by
  rw [nI_1]
  show _ = nI (cntB p n + (if p n then 1 else 0))
  rw [h]; rfl
theorem cnt_stay {p : Nat → Bool} {n : Nat} (h : p n = false) : cntB p n = cntB p (n + 1) := by
  show _ = cntB p n + (if p n then 1 else 0)
  rw [h]; rfl
