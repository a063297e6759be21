/-! a number of a script against how many there are -/
def inR (x : Int32) (n : Nat) : Bool := decide (0 ≤ x.toInt ∧ x.toInt < n)
theorem inR_nI {j n : Nat} (h : j < n) (hn : n < 2 ^ 31) : inR (nI j) n = true := by
  unfold inR
  rw [nI_toInt (by omega)]
  exact decide_eq_true ⟨by omega, by omega⟩
theorem inR_of {x : Int32} {n : Nat} (h : inR x n = true) : ∃ j, j < n ∧ x = nI j := by
  have h1 := of_decide_eq_true h
  refine ⟨x.toInt.toNat, by omega, ?_⟩
  rw [iI_n, show ((x.toInt.toNat : Nat) : Int) = x.toInt by omega]
  exact (Int32.ofInt_toInt x).symm
theorem inR_lt {x : Int32} {n : Nat} (h : x < 0) : inR x n = false := by
  rw [Int32.lt_iff_toInt_lt] at h
  have h0 : (0 : Int32).toInt = 0 := rfl
  exact decide_eq_false (by omega)
theorem inR_ge {x N : Int32} {n : Nat} (hN : N.toInt = n) (h : N ≤ x) : inR x n = false := by
  rw [Int32.le_iff_toInt_le] at h
  exact decide_eq_false (by omega)
theorem inR_in {x N : Int32} {n : Nat} (hN : N.toInt = n) (h0 : ¬ x < 0) (h : ¬ N ≤ x) : inR x n = true := by
  rw [Int32.lt_iff_toInt_lt] at h0
  rw [Int32.le_iff_toInt_le] at h
  have hz : (0 : Int32).toInt = 0 := rfl
  exact decide_eq_true (by omega)
theorem has_wp {x N : Int32} {n : Nat} (hN : N = nI n) (hn : n < 2 ^ 31) {post : Int32 → Prop} (h : post (bI (inR x n))) : (x < 0 → (post 0)) ∧ (¬ (x < 0) → ((N ≤ x → (post 0)) ∧ (¬ (N ≤ x) → (post 1)))) := by
  have hT : N.toInt = n := by rw [hN]; exact nI_toInt hn
  refine ⟨fun c => ?_, fun c => ⟨fun c2 => ?_, fun c2 => ?_⟩⟩
  · rw [inR_lt c] at h; exact h
  · rw [inR_ge hT c2] at h; exact h
  · rw [inR_in hT c c2] at h; exact h
/-- a number against a largest one -/
theorem rng (x : Int32) {M : Int32} {n : Nat} (hM : M.toInt = n) : (x < 0 ∧ inR x (n + 1) = false) ∨ (¬ x < 0 ∧ M < x ∧ inR x (n + 1) = false) ∨ (∃ j, j ≤ n ∧ x = nI j ∧ ¬ x < 0 ∧ ¬ M < x ∧ inR x (n + 1) = true) := by
  by_cases c : x < 0
  · exact Or.inl ⟨c, inR_lt c⟩
  · by_cases c2 : M < x
    · refine Or.inr (Or.inl ⟨c, c2, ?_⟩)
      rw [Int32.lt_iff_toInt_lt] at c2
      exact decide_eq_false (by omega)
    · have h : inR x (n + 1) = true := by
        rw [Int32.lt_iff_toInt_lt] at c c2
        have hz : (0 : Int32).toInt = 0 := rfl
        exact decide_eq_true (by omega)
      obtain ⟨j, hj, rfl⟩ := inR_of h
      exact Or.inr (Or.inr ⟨j, by omega, rfl, c, c2, h⟩)
/-! VERSIONS -/
def vOK (nv : Nat) (par : Nat → Nat) (beh : Nat → Nat → Bool) : Prop := 1 ≤ nv ∧ nv ≤ 30 ∧ (∀ v, 0 < v → v < nv → par v < v) ∧ ∀ v, v < nv → ∀ w, beh v w = (decide (v = w) || (decide (v ≠ 0) && beh (par v) w))
def vC (nv : Nat) (beh : Nat → Nat → Bool) (G : GS) : Prop := G.1 2 1 = nI nv ∧ ∀ v, v < nv → ∀ w, w < 32 → bt (G.1 9 v) w = beh v w
def vM (nv : Nat) (par : Nat → Nat) (G : GS) : Prop := G.1 7 1 = nI nv ∧ G.1 20 0 = -1 ∧ ∀ v, 0 < v → v < nv → G.1 20 v = nI (par v)
theorem vC.fr {P : Nat → Prop} {G G' : GS} {nv : Nat} {beh : Nat → Nat → Bool} (h : vC nv beh G) (hf : fr P G G') (h2 : ¬ P 2) (h9 : ¬ P 9) : vC nv beh G' := ⟨by rw [hf.i h2]; exact h.1, fun v hv w hw => by rw [hf.i h9]; exact h.2 v hv w hw⟩
theorem vM.fr {P : Nat → Prop} {G G' : GS} {nv : Nat} {par : Nat → Nat} (h : vM nv par G) (hf : fr P G G') (h7 : G'.1 7 1 = G.1 7 1) (h20 : ¬ P 20) : vM nv par G' := ⟨by rw [h7]; exact h.1, by rw [hf.i h20]; exact h.2.1, fun v h0 hv => by rw [hf.i h20]; exact h.2.2 v h0 hv⟩
/-- one more VERSION -/
def vGo (nv : Nat) (x : Int32) : Bool := inR x nv && decide (nv < 30)
def vN (nv : Nat) (x : Int32) : Nat := if vGo nv x then nv + 1 else nv
def vPar (nv : Nat) (par : Nat → Nat) (x : Int32) : Nat → Nat := if vGo nv x then (fun v => if v = nv then x.toNatClampNeg else par v) else par
def vBeh (nv : Nat) (beh : Nat → Nat → Bool) (x : Int32) : Nat → Nat → Bool := if vGo nv x then (fun v w => if v = nv then (decide (v = w) || beh x.toNatClampNeg w) else beh v w) else beh
def vAns (nv : Nat) (x : Int32) : Int32 := if vGo nv x then nI nv else -1
theorem vOK.step {nv : Nat} {par : Nat → Nat} {beh : Nat → Nat → Bool} (h : vOK nv par beh) (x : Int32) : vOK (vN nv x) (vPar nv par x) (vBeh nv beh x) := by
  unfold vN vPar vBeh
  by_cases hg : vGo nv x = true
  · obtain ⟨h1, h2, h3, h4⟩ := h
    have hg2 := hg
    unfold vGo at hg2
    rw [Bool.and_eq_true] at hg2
    obtain ⟨j, hj, rfl⟩ := inR_of hg2.1
    have h30 := of_decide_eq_true hg2.2
    simp only [hg, if_true]
    rw [nI_clamp (by omega)]
    refine ⟨by omega, by omega, fun v h0 hv => ?_, fun v hv w => ?_⟩
    · dsimp only
      by_cases e : v = nv
      · rw [if_pos e]; omega
      · rw [if_neg e]; exact h3 v h0 (by omega)
    · dsimp only
      by_cases e : v = nv
      · rw [if_pos e, if_pos e, if_neg (show j ≠ nv by omega), decide_eq_true (show v ≠ 0 by omega), Bool.true_and]
      · rw [if_neg e, if_neg e, h4 v (by omega) w]
        by_cases e0 : v = 0
        · simp [e0]
        · have hp := h3 v (by omega) (by omega)
          rw [if_neg (show par v ≠ nv by omega)]
  · simp only [hg, if_false]
    exact h
/-- Versions.has, isVersion -/
theorem s_X5_has {G : GS} {nv : Nat} {x : Int32} (hN : G.1 2 1 = nI nv) (hn : nv < 2 ^ 31) {post : Int32 → GS → Prop} (h : post (bI (inR x nv)) G) : wp_X5_has G x post := has_wp (post := fun r => post r G) hN hn h
theorem s_X7_isVersion {G : GS} {nv : Nat} {x : Int32} (hN : G.1 7 1 = nI nv) (hn : nv < 2 ^ 31) {post : Int32 → GS → Prop} (h : post (bI (inR x nv)) G) : wp_X7_isVersion G x post := has_wp (post := fun r => post r G) hN hn h
theorem s_X5_make {G : GS} {nv : Nat} {par : Nat → Nat} {beh : Nat → Nat → Bool} (hV : vOK nv par beh) (hC : vC nv beh G) {x : Int32} {post : Int32 → GS → Prop} (h : ∀ G', vC (vN nv x) (vBeh nv beh x) G' → fr (fun a => a = 2 ∨ a = 9) G G' → post (vAns nv x) G') : wp_X5_make G x post := by
  obtain ⟨h1, h2, h3, h4⟩ := hV
  unfold wp_X5_make
  refine s_X5_has hC.1 (by omega) (bI_br (fun hb => ?_) (fun hb => ?_))
  · have hg : vGo nv x = false := by unfold vGo; rw [hb, Bool.false_and]
    have h5 := h G (by unfold vN vBeh; simp only [hg]; exact hC) fr.rf
    unfold vAns at h5; rw [hg] at h5; exact h5
  · refine pk_lt nv 30 (fun c => ?_) (fun c => ?_) hC.1
    · have hg : vGo nv x = true := by unfold vGo; rw [hb, Bool.true_and]; exact decide_eq_true c
      obtain ⟨j, hj, rfl⟩ := inR_of hb
      rintro y5 rfl
      refine ⟨j, by omega, rfl, nv, by omega, hC.1, ?_⟩
      rintro G8 rfl G9 rfl
      have h5 := h (sI (sI G 9 nv (G.1 9 j ||| 1 <<< (G.1 2 1 &&& 31))) 2 1 ((sI G 9 nv (G.1 9 j ||| 1 <<< (G.1 2 1 &&& 31))).1 2 1 + 1)) ?_ ((fr.sI (Or.inr rfl)).tr (fr.sI (Or.inl rfl)))
      · unfold vAns at h5
        rw [hg, if_pos rfl, ← hC.1] at h5
        exact h5
      · unfold vN vBeh
        simp only [hg, if_true]
        rw [nI_clamp (by omega)]
        refine ⟨?_, fun v hv w hw => ?_⟩
        · rw [sI_same, sI_ne1 _ _ _ _ (by decide), hC.1]
          exact nI_1 _
        · dsimp only
          rw [sI_ne1 _ _ _ _ (by decide), sI_get]
          by_cases e : v = nv
          · rw [if_pos ⟨rfl, e⟩, if_pos e, b_or, hC.2 j hj w hw, hC.1, bt_sh1 (by omega) hw, Bool.or_comm]
            congr 1
            by_cases e2 : w = nv
            · simp [e, e2]
            · simp [e, e2, Ne.symm e2]
          · rw [if_neg (fun z => e z.2), if_neg e]
            exact hC.2 v (by omega) w hw
    · have hg : vGo nv x = false := by unfold vGo; rw [decide_eq_false (by omega), Bool.and_false]
      have h5 := h G (by unfold vN vBeh; simp only [hg]; exact hC) fr.rf
      unfold vAns at h5; rw [hg] at h5; exact h5
theorem s_X5_isOr {G : GS} {nv : Nat} {beh : Nat → Nat → Bool} (hC : vC nv beh G) (h30 : nv ≤ 30) {v w : Nat} (hv : v < nv) (hw : w < nv) {post : Int32 → GS → Prop} (h : post (bI (beh v w)) G) : wp_X5_isOrIsBehind G (nI v) (nI w) post := by
  unfold wp_X5_isOrIsBehind
  refine ⟨v, by omega, rfl, ?_⟩
  rw [bt_test _ (show w < 32 by omega), hC.2 v hv w (by omega)]
  refine ⟨fun c => ?_, fun c => ?_⟩
  · rw [show beh v w = false by simpa using c] at h; exact h
  · rw [c] at h; exact h
/-- the walk up the line -/
theorem s_X7_isBehind {G : GS} {nv : Nat} {par : Nat → Nat} {beh : Nat → Nat → Bool} (hV : vOK nv par beh) (hM : vM nv par G) {v w : Nat} (hv : v < nv) (hw : w < nv) {post : Int32 → GS → Prop} (h : post (bI (beh v w)) G) : wp_X7_isBehind G (nI v) (nI w) post := by
  obtain ⟨h1, h2, h3, h4⟩ := hV
  unfold wp_X7_isBehind
  refine ⟨fun m x => (∃ u, u < nv ∧ m = u + 1 ∧ x = nI u ∧ beh u w = beh v w) ∨ (m = 0 ∧ x = -1 ∧ beh v w = false), ⟨v + 1, Or.inl ⟨v, hv, rfl, rfl, rfl⟩⟩, ?_⟩
  rintro m x (⟨u, hu, rfl, rfl, hb⟩ | ⟨rfl, rfl, hb⟩)
  · refine ⟨fun c => absurd c (nI_pos (by omega)), fun _ => ?_⟩
    refine pk_eq u w (fun c => ?_) (fun c => ?_)
    · refine pk_ne u w (fun c2 => absurd c c2) (fun _ => ?_)
      rw [← hb, h4 u hu w, decide_eq_true c, Bool.true_or] at h
      exact h
    · refine ⟨u, by omega, rfl, ?_⟩
      rintro y rfl
      have hb2 := hb
      rw [h4 u hu w, decide_eq_false c, Bool.false_or] at hb2
      by_cases e : u = 0
      · subst e
        refine ⟨0, by omega, Or.inr ⟨rfl, hM.2.1, ?_⟩⟩
        rw [← hb2]
        rfl
      · rw [decide_eq_true e, Bool.true_and] at hb2
        have hp := h3 u (by omega) hu
        exact ⟨par u + 1, by omega, Or.inl ⟨par u, by omega, rfl, hM.2.2 u (by omega) hu, hb2⟩⟩
  · refine ⟨fun _ => ?_, fun c => absurd (by decide) c⟩
    have hne : ¬ (-1 : Int32) = nI w := fun e => nI_pos (n := w) (by omega) (by rw [← e]; decide)
    refine ⟨fun _ => ?_, fun c => absurd c hne⟩
    rw [hb] at h
    exact h
