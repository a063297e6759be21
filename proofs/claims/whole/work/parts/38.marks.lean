/-! MARKS -/
theorem lg0 {x y : Int64} : lg_cmp x y = 0 ↔ x = y := by
  unfold lg_cmp
  constructor
  · intro h
    by_cases h1 : x > y
    · rw [if_pos h1] at h; exact absurd h (by decide)
    · rw [if_neg h1] at h
      by_cases h2 : x = y
      · exact h2
      · rw [if_neg h2] at h; exact absurd h (by decide)
  · intro h
    subst h
    have : ¬ x > x := by rw [gt_iff_lt, Int64.lt_iff_toInt_lt]; omega
    rw [if_neg this, if_pos rfl]
/-- a FRAME of all ROWS of HEAP h; FRAMES that are no other's -/
def shP (n : Nat) (sz : Nat → Nat) (rw_ : Nat → Nat → Nat) (hp : Nat → Nat) (h f : Nat) : Bool := !(orB (fun i => decide (hp i = h) && !(stB sz rw_ f i)) n)
def mB (n : Nat) (sz : Nat → Nat) (rw_ : Nat → Nat → Nat) (hp : Nat → Nat) (h : Nat) (fs : List Nat) : Bool := !(orB (fun r => !(decide (hp r = h)) && fs.all (fun f => stB sz rw_ f r)) n)
theorem shP_iff {n : Nat} {sz : Nat → Nat} {rw_ : Nat → Nat → Nat} {hp : Nat → Nat} {h f : Nat} : shP n sz rw_ hp h f = true ↔ ∀ i, i < n → hp i = h → stB sz rw_ f i = true := by
  unfold shP
  rw [Bool.not_eq_true']
  constructor
  · intro q i hi hh
    cases hs : stB sz rw_ f i with
    | true => rfl
    | false =>
      have := orB_t (p := fun i => decide (hp i = h) && !(stB sz rw_ f i)) hi (by simp [hh, hs])
      rw [this] at q; cases q
  · intro q
    refine orB_f (fun k hk => ?_)
    by_cases hh : hp k = h
    · simp [q k hk hh]
    · simp [hh]
theorem mB_iff {n : Nat} {sz : Nat → Nat} {rw_ : Nat → Nat → Nat} {hp : Nat → Nat} {h : Nat} {fs : List Nat} : mB n sz rw_ hp h fs = true ↔ ∀ r, r < n → hp r ≠ h → fs.all (fun f => stB sz rw_ f r) = false := by
  unfold mB
  rw [Bool.not_eq_true']
  constructor
  · intro q r hr hh
    cases hs : fs.all (fun f => stB sz rw_ f r) with
    | false => rfl
    | true =>
      have := orB_t (p := fun r => !(decide (hp r = h)) && fs.all (fun f => stB sz rw_ f r)) hr (by rw [hs]; simp [hh])
      rw [this] at q; cases q
  · intro q
    refine orB_f (fun k hk => ?_)
    by_cases hh : hp k = h
    · simp [hh]
    · rw [q k hk hh, Bool.and_false]
/-- the first 12 FRAMES below i with p -/
def shL (p : Nat → Bool) : Nat → List Nat
  | 0 => []
  | i + 1 => if (decide (1 ≤ i) && p i && decide ((shL p i).length < 12)) = true then shL p i ++ [i] else shL p i
theorem shL_t {p : Nat → Bool} {i : Nat} (h1 : 1 ≤ i) (h2 : p i = true) (h3 : (shL p i).length < 12) : shL p (i + 1) = shL p i ++ [i] := by
  show (if (decide (1 ≤ i) && p i && decide ((shL p i).length < 12)) = true then shL p i ++ [i] else shL p i) = _
  rw [if_pos (by simp [h1, h2, h3])]
theorem shL_f {p : Nat → Bool} {i : Nat} (h : i = 0 ∨ p i = false ∨ 12 ≤ (shL p i).length) : shL p (i + 1) = shL p i := by
  show (if (decide (1 ≤ i) && p i && decide ((shL p i).length < 12)) = true then shL p i ++ [i] else shL p i) = _
  rw [if_neg]
  rcases h with h | h | h
  · subst h; simp
  · rw [h]; simp
  · simp; omega
theorem shL_len (p : Nat → Bool) : ∀ i, (shL p i).length ≤ 12
  | 0 => by show 0 ≤ 12; omega
  | i + 1 => by
    have := shL_len p i
    by_cases h : (decide (1 ≤ i) && p i && decide ((shL p i).length < 12)) = true
    · have h2 : (shL p i).length < 12 := by
        rw [Bool.and_eq_true] at h
        exact of_decide_eq_true h.2
      show (if (decide (1 ≤ i) && p i && decide ((shL p i).length < 12)) = true then shL p i ++ [i] else shL p i).length ≤ 12
      rw [if_pos h, List.length_append, List.length_singleton]; omega
    · show (if (decide (1 ≤ i) && p i && decide ((shL p i).length < 12)) = true then shL p i ++ [i] else shL p i).length ≤ 12
      rw [if_neg h]; exact this
theorem shL_full {p : Nat → Bool} {i : Nat} (h : 12 ≤ (shL p i).length) : ∀ d, shL p (i + d) = shL p i
  | 0 => rfl
  | d + 1 => by
    have e := shL_full h d
    show shL p ((i + d) + 1) = _
    rw [shL_f (Or.inr (Or.inr (by rw [e]; exact h))), e]
theorem shL_mem {p : Nat → Bool} : ∀ {i k : Nat}, k < (shL p i).length → (shL p i).getD k 0 < i ∧ 1 ≤ (shL p i).getD k 0 ∧ p ((shL p i).getD k 0) = true
  | 0, k, hk => absurd hk (by show ¬ k < 0; omega)
  | i + 1, k, hk => by
    by_cases h : 1 ≤ i ∧ p i = true ∧ (shL p i).length < 12
    · rw [shL_t h.1 h.2.1 h.2.2] at hk ⊢
      rw [List.length_append, List.length_singleton] at hk
      by_cases e : k = (shL p i).length
      · rw [e, getD_eq]; exact ⟨by omega, h.1, h.2.1⟩
      · rw [getD_lt (by omega)]
        have := shL_mem (p := p) (i := i) (k := k) (by omega)
        exact ⟨by omega, this.2⟩
    · have e : shL p (i + 1) = shL p i := shL_f (by
        by_cases h1 : i = 0
        · exact Or.inl h1
        · by_cases h2 : p i = true
          · exact Or.inr (Or.inr (by
              rcases Nat.lt_or_ge (shL p i).length 12 with z | z
              · exact absurd ⟨by omega, h2, z⟩ h
              · exact z))
          · exact Or.inr (Or.inl (by simpa using h2)))
      rw [e] at hk ⊢
      have := shL_mem (p := p) (i := i) (k := k) hk
      exact ⟨by omega, this.2⟩
/-! the first MARK: how many, and which places of the shared ones; 4: none -/
abbrev MR : Type := Nat × Nat × Nat × Nat
def no1 (m : List Nat → Bool) (L : List Nat) : Prop := ∀ i, i < L.length → m [L.getD i 0] = false
def no2 (m : List Nat → Bool) (L : List Nat) : Prop := ∀ i j, i < j → j < L.length → m [L.getD i 0, L.getD j 0] = false
def no3 (m : List Nat → Bool) (L : List Nat) : Prop := ∀ i j k, i < j → j < k → k < L.length → m [L.getD i 0, L.getD j 0, L.getD k 0] = false
def F1 (m : List Nat → Bool) (L : List Nat) (i : Nat) : Prop := i < L.length ∧ m [L.getD i 0] = true ∧ ∀ i', i' < i → m [L.getD i' 0] = false
def F2 (m : List Nat → Bool) (L : List Nat) (i j : Nat) : Prop := i < j ∧ j < L.length ∧ m [L.getD i 0, L.getD j 0] = true ∧ (∀ i' j', i' < i → i' < j' → j' < L.length → m [L.getD i' 0, L.getD j' 0] = false) ∧ ∀ j', i < j' → j' < j → m [L.getD i 0, L.getD j' 0] = false
def F3 (m : List Nat → Bool) (L : List Nat) (i j k : Nat) : Prop := i < j ∧ j < k ∧ k < L.length ∧ m [L.getD i 0, L.getD j 0, L.getD k 0] = true ∧ (∀ i' j' k', i' < i → i' < j' → j' < k' → k' < L.length → m [L.getD i' 0, L.getD j' 0, L.getD k' 0] = false) ∧ (∀ j' k', i < j' → j' < j → j' < k' → k' < L.length → m [L.getD i 0, L.getD j' 0, L.getD k' 0] = false) ∧ ∀ k', j < k' → k' < k → m [L.getD i 0, L.getD j 0, L.getD k' 0] = false
def mkR (m : List Nat → Bool) (L : List Nat) (x : MR) : Prop :=
  (m [] = true ∧ x = (0, 0, 0, 0)) ∨ (m [] = false ∧ ∃ i, F1 m L i ∧ x = (1, i, 0, 0)) ∨ (m [] = false ∧ no1 m L ∧ ∃ i j, F2 m L i j ∧ x = (2, i, j, 0)) ∨ (m [] = false ∧ no1 m L ∧ no2 m L ∧ ∃ i j k, F3 m L i j k ∧ x = (3, i, j, k)) ∨ (m [] = false ∧ no1 m L ∧ no2 m L ∧ no3 m L ∧ x = (4, 0, 0, 0))
theorem F1_u {m : List Nat → Bool} {L : List Nat} {i i' : Nat} (h : F1 m L i) (h' : F1 m L i') : i = i' := by
  rcases Nat.lt_trichotomy i i' with z | z | z
  · have := h'.2.2 i z; rw [h.2.1] at this; cases this
  · exact z
  · have := h.2.2 i' z; rw [h'.2.1] at this; cases this
theorem F2_u {m : List Nat → Bool} {L : List Nat} {i i' j j' : Nat} (h : F2 m L i j) (h' : F2 m L i' j') : i = i' ∧ j = j' := by
  have e : i = i' := by
    rcases Nat.lt_trichotomy i i' with z | z | z
    · have := h'.2.2.2.1 i j z h.1 h.2.1; rw [h.2.2.1] at this; cases this
    · exact z
    · have := h.2.2.2.1 i' j' z h'.1 h'.2.1; rw [h'.2.2.1] at this; cases this
  subst e
  refine ⟨rfl, ?_⟩
  rcases Nat.lt_trichotomy j j' with z | z | z
  · have := h'.2.2.2.2 j h.1 z; rw [h.2.2.1] at this; cases this
  · exact z
  · have := h.2.2.2.2 j' h'.1 z; rw [h'.2.2.1] at this; cases this
theorem F3_u {m : List Nat → Bool} {L : List Nat} {i i' j j' k k' : Nat} (h : F3 m L i j k) (h' : F3 m L i' j' k') : i = i' ∧ j = j' ∧ k = k' := by
  obtain ⟨a1, a2, a3, a4, a5, a6, a7⟩ := h
  obtain ⟨b1, b2, b3, b4, b5, b6, b7⟩ := h'
  have e : i = i' := by
    rcases Nat.lt_trichotomy i i' with z | z | z
    · have := b5 i j k z a1 a2 a3; rw [a4] at this; cases this
    · exact z
    · have := a5 i' j' k' z b1 b2 b3; rw [b4] at this; cases this
  subst e
  have e : j = j' := by
    rcases Nat.lt_trichotomy j j' with z | z | z
    · have := b6 j k a1 z a2 a3; rw [a4] at this; cases this
    · exact z
    · have := a6 j' k' b1 z b2 b3; rw [b4] at this; cases this
  subst e
  refine ⟨rfl, rfl, ?_⟩
  rcases Nat.lt_trichotomy k k' with z | z | z
  · have := b7 k a2 z; rw [a4] at this; cases this
  · exact z
  · have := a7 k' b2 z; rw [b4] at this; cases this
theorem mkR_u {m : List Nat → Bool} {L : List Nat} {x y : MR} (h : mkR m L x) (h' : mkR m L y) : x = y := by
  rcases h with ⟨a, rfl⟩ | ⟨a, i, f, rfl⟩ | ⟨a, n1, i, j, f, rfl⟩ | ⟨a, n1, n2, i, j, k, f, rfl⟩ | ⟨a, n1, n2, n3, rfl⟩ <;>
  rcases h' with ⟨a', rfl⟩ | ⟨a', i', f', rfl⟩ | ⟨a', n1', i', j', f', rfl⟩ | ⟨a', n1', n2', i', j', k', f', rfl⟩ | ⟨a', n1', n2', n3', rfl⟩
  all_goals first
    | rfl
    | (exact absurd (a.symm.trans a') (by decide))
    | (rw [F1_u f f'])
    | (obtain ⟨rfl, rfl⟩ := F2_u f f'; rfl)
    | (obtain ⟨rfl, rfl, rfl⟩ := F3_u f f'; rfl)
    | (have z := n1' i f.1; rw [f.2.1] at z; cases z)
    | (have z := n1 i' f'.1; rw [f'.2.1] at z; cases z)
    | (have z := n2' i j f.1 f.2.1; rw [f.2.2.1] at z; cases z)
    | (have z := n2 i' j' f'.1 f'.2.1; rw [f'.2.2.1] at z; cases z)
    | (have z := n3' i j k f.1 f.2.1 f.2.2.1; rw [f.2.2.2.1] at z; cases z)
    | (have z := n3 i' j' k' f'.1 f'.2.1 f'.2.2.1; rw [f'.2.2.2.1] at z; cases z)
noncomputable def mkv (m : List Nat → Bool) (L : List Nat) : MR := Classical.epsilon (mkR m L)
theorem mkv_eq {m : List Nat → Bool} {L : List Nat} {x : MR} (h : mkR m L x) : mkv m L = x := mkR_u (Classical.epsilon_spec (p := mkR m L) ⟨x, h⟩) h
/-- FRAME t of the MARK -/
def mkF (L : List Nat) (x : MR) (t : Nat) : Nat := L.getD (if t = 0 then x.2.1 else if t = 1 then x.2.2.1 else x.2.2.2) 0
def mkA (x : MR) : Int32 := if x.1 = 4 then -1 else nI x.1
