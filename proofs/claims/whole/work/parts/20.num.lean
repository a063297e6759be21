/-! numbers, frames, first hits -/
theorem pk_ne {x y : Int32} {A B : Prop} (a b : Nat) (f : a ≠ b → A) (g : a = b → B) (hx : x = nI a := by rfl) (hy : y = nI b := by rfl) (ha : a < 2 ^ 31 := by omega) (hb : b < 2 ^ 31 := by omega) : (¬ x = y → A) ∧ (x = y → B) := by
  subst hx hy
  rw [nI_eq ha hb]
  exact ⟨f, g⟩
/-- truth as the machine has it -/
def bI (b : Bool) : Int32 := if b then 1 else 0
theorem bI_01 (b : Bool) : bI b = 0 ∨ bI b = 1 := by cases b <;> simp [bI]
theorem bI_t : bI true = 1 := rfl
theorem bI_f : bI false = 0 := rfl
theorem bI_eq0 {b : Bool} : bI b = 0 ↔ b = false := by cases b <;> simp [bI]
/-- a branch on a truth -/
theorem bI_br {b : Bool} {A B : Prop} (f : b = false → A) (g : b = true → B) : (bI b = 0 → A) ∧ (¬ bI b = 0 → B) := by
  cases b
  · exact ⟨fun _ => f rfl, fun h => absurd rfl h⟩
  · exact ⟨fun h => absurd h (by decide), fun _ => g rfl⟩
theorem bI_brn {b : Bool} {A B : Prop} (f : b = true → A) (g : b = false → B) : (¬ bI b = 0 → A) ∧ (bI b = 0 → B) := ⟨(bI_br g f).2, (bI_br g f).1⟩
/-- what has stayed: all rows but those of P -/
def fr (P : Nat → Prop) (G G' : GS) : Prop := ∀ a, ¬ P a → G'.1 a = G.1 a ∧ G'.2 a = G.2 a
theorem fr.rf {P : Nat → Prop} {G : GS} : fr P G G := fun _ _ => ⟨rfl, rfl⟩
theorem fr.tr {P : Nat → Prop} {G G1 G2 : GS} (h : fr P G G1) (h2 : fr P G1 G2) : fr P G G2 := fun a ha => ⟨(h2 a ha).1.trans (h a ha).1, (h2 a ha).2.trans (h a ha).2⟩
theorem fr.mono {P P' : Nat → Prop} {G G1 : GS} (h : fr P G G1) (hp : ∀ a, P a → P' a) : fr P' G G1 := fun a ha => h a (fun z => ha (hp a z))
theorem fr.sI {P : Nat → Prop} {G : GS} {a j : Nat} {v : Int32} (h : P a) : fr P G (sI G a j v) := fun b hb => ⟨sI_oth G a j v (fun e => hb (e ▸ h)), rfl⟩
theorem fr.sL {P : Nat → Prop} {G : GS} {a j : Nat} {v : Int64} (h : P a) : fr P G (sL G a j v) := fun b hb => ⟨rfl, sL_oth G a j v (fun e => hb (e ▸ h))⟩
theorem fr.i {P : Nat → Prop} {G G1 : GS} (h : fr P G G1) {a : Nat} (ha : ¬ P a) (j : Nat) : G1.1 a j = G.1 a j := by rw [(h a ha).1]
theorem fr.l {P : Nat → Prop} {G G1 : GS} (h : fr P G G1) {a : Nat} (ha : ¬ P a) (j : Nat) : G1.2 a j = G.2 a j := by rw [(h a ha).2]
theorem sI_same (G : GS) (a j : Nat) (v : Int32) : (sI G a j v).1 a j = v := by rw [sI_get, if_pos ⟨rfl, rfl⟩]
theorem sI_ne1 (G : GS) (a j : Nat) (v : Int32) {b k : Nat} (h : b ≠ a) : (sI G a j v).1 b k = G.1 b k := by rw [sI_oth G a j v h]
theorem sI_ne2 (G : GS) (a j : Nat) (v : Int32) {b k : Nat} (h : k ≠ j) : (sI G a j v).1 b k = G.1 b k := by rw [sI_get, if_neg (fun z => h z.2)]
/-- the first place below n with p -/
def lst (p : Nat → Bool) : Nat → Option Nat
  | 0 => none
  | n + 1 => match lst p n with
    | some k => some k
    | none => if p n then some n else none
theorem lst_none {p : Nat → Bool} : ∀ {n : Nat}, (∀ k, k < n → p k = false) → lst p n = none
  | 0, _ => rfl
  | n + 1, h => by
    have h1 := lst_none (n := n) (fun k hk => h k (by omega))
    simp [lst, h1, h n (by omega)]
theorem lst_some {p : Nat → Bool} : ∀ {n k : Nat}, k < n → p k = true → (∀ j, j < k → p j = false) → lst p n = some k
  | 0, k, hk, _, _ => absurd hk (by omega)
  | n + 1, k, hk, h1, h2 => by
    by_cases e : k = n
    · subst e
      have h3 := lst_none (n := k) h2
      simp [lst, h3, h1]
    · have h3 := lst_some (n := n) (k := k) (by omega) h1 h2
      simp [lst, h3]
theorem lst_spec {p : Nat → Bool} : ∀ {n : Nat}, (lst p n = none ∧ ∀ k, k < n → p k = false) ∨ (∃ k, lst p n = some k ∧ k < n ∧ p k = true ∧ ∀ j, j < k → p j = false)
  | 0 => Or.inl ⟨rfl, fun k hk => absurd hk (by omega)⟩
  | n + 1 => by
    rcases lst_spec (p := p) (n := n) with ⟨h1, h2⟩ | ⟨k, h1, h2, h3, h4⟩
    · by_cases e : p n = true
      · exact Or.inr ⟨n, lst_some (by omega) e h2, by omega, e, h2⟩
      · have e' : p n = false := by simpa using e
        refine Or.inl ⟨lst_none (fun k hk => ?_), fun k hk => ?_⟩
        · by_cases e2 : k = n
          · rw [e2]; exact e'
          · exact h2 k (by omega)
        · by_cases e2 : k = n
          · rw [e2]; exact e'
          · exact h2 k (by omega)
    · exact Or.inr ⟨k, lst_some (by omega) h3 h4, by omega, h3, h4⟩
/-- whole numbers with a sign -/
def iI (z : Int) : Int32 := Int32.ofInt z
theorem iI_add (a b : Int) : iI a + iI b = iI (a + b) := (Int32.ofInt_add a b).symm
theorem iI_sub (a b : Int) : iI a - iI b = iI (a - b) := (Int32.ofInt_sub a b).symm
theorem iI_neg (a : Int) : -iI a = iI (-a) := (Int32.ofInt_neg a).symm
theorem iI_n (n : Nat) : nI n = iI (n : Int) := Int32.ofInt_eq_ofNat.symm
theorem iI_toInt {z : Int} (h : -2147483648 ≤ z) (h2 : z < 2147483648) : (iI z).toInt = z := Int32.toInt_ofInt_of_le h h2
theorem iI_lt {a b : Int} (ha : -2147483648 ≤ a ∧ a < 2147483648) (hb : -2147483648 ≤ b ∧ b < 2147483648) : iI a < iI b ↔ a < b := by
  rw [Int32.lt_iff_toInt_lt, iI_toInt ha.1 ha.2, iI_toInt hb.1 hb.2]
theorem iI_le {a b : Int} (ha : -2147483648 ≤ a ∧ a < 2147483648) (hb : -2147483648 ≤ b ∧ b < 2147483648) : iI a ≤ iI b ↔ a ≤ b := by
  rw [Int32.le_iff_toInt_le, iI_toInt ha.1 ha.2, iI_toInt hb.1 hb.2]
theorem iI_eq {a b : Int} (ha : -2147483648 ≤ a ∧ a < 2147483648) (hb : -2147483648 ≤ b ∧ b < 2147483648) : iI a = iI b ↔ a = b := by
  rw [← Int32.toInt_inj, iI_toInt ha.1 ha.2, iI_toInt hb.1 hb.2]
/-- a number that a script gives: below 0, too large, or a place -/
theorem ix_cases (x : Int32) {n : Nat} (hn : n < 2 ^ 31) : (x < 0) ∨ (¬ x < 0 ∧ nI n ≤ x) ∨ (∃ j : Nat, j < n ∧ x = nI j ∧ ¬ x < 0 ∧ ¬ nI n ≤ x) := by
  rcases pk_ix x hn with h | h | ⟨j, hj, rfl⟩
  · exact Or.inl h
  · refine Or.inr (Or.inl ⟨fun h2 => ?_, h⟩)
    have h3 := nI_pos (n := n) hn
    exact h3 (by rw [Int32.lt_iff_toInt_lt] at h2 ⊢; rw [Int32.le_iff_toInt_le] at h; omega)
  · refine Or.inr (Or.inr ⟨j, hj, rfl, nI_pos (by omega), nI_ge hj (by omega)⟩)
