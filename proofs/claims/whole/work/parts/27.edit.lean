/-! the least cost of turning one ROW into another -/
def e1 (f : Nat) : Nat := if f = 0 then 1 else 2
def eC (f g : Nat) : Nat := if f = g then 0 else if f = 0 ∨ g = 0 then 2 else 3
def ed0 (b : Nat → Nat) : Nat → Nat
  | 0 => 0
  | j + 1 => ed0 b j + e1 (b j)
def edR (prev : Nat → Nat) (x : Nat) (b : Nat → Nat) : Nat → Nat
  | 0 => prev 0 + e1 x
  | j + 1 => min (prev j + eC x (b j)) (min (prev (j + 1) + e1 x) (edR prev x b j + e1 (b j)))
def ed (a b : Nat → Nat) : Nat → Nat → Nat
  | 0 => ed0 b
  | i + 1 => edR (ed a b i) (a i) b
theorem e1_le (f : Nat) : e1 f ≤ 2 := by unfold e1; split <;> omega
theorem eC_le (f g : Nat) : eC f g ≤ 3 := by unfold eC; split; omega; split <;> omega
theorem eC_symm (f g : Nat) : eC f g = eC g f := by
  unfold eC
  by_cases h : f = g
  · rw [if_pos h, if_pos h.symm]
  · rw [if_neg h, if_neg (Ne.symm h)]
    by_cases h2 : f = 0 ∨ g = 0
    · rw [if_pos h2, if_pos (Or.comm.mp h2)]
    · rw [if_neg h2, if_neg (fun z => h2 (Or.comm.mp z))]
theorem eC_self (f : Nat) : eC f f = 0 := by unfold eC; rw [if_pos rfl]
theorem ed_00 (a b : Nat → Nat) : ed a b 0 0 = 0 := rfl
theorem ed_0s (a b : Nat → Nat) (j : Nat) : ed a b 0 (j + 1) = ed a b 0 j + e1 (b j) := rfl
theorem ed_s0 (a b : Nat → Nat) (i : Nat) : ed a b (i + 1) 0 = ed a b i 0 + e1 (a i) := rfl
theorem ed_ss (a b : Nat → Nat) (i j : Nat) : ed a b (i + 1) (j + 1) = min (ed a b i j + eC (a i) (b j)) (min (ed a b i (j + 1) + e1 (a i)) (ed a b (i + 1) j + e1 (b j))) := rfl
theorem ed_le (a b : Nat → Nat) : ∀ i j, ed a b i j ≤ 2 * (i + j)
  | 0, 0 => Nat.le_refl _
  | 0, j + 1 => by
    have := ed_le a b 0 j
    have := e1_le (b j)
    rw [ed_0s]; omega
  | i + 1, 0 => by
    have := ed_le a b i 0
    have := e1_le (a i)
    rw [ed_s0]; omega
  | i + 1, j + 1 => by
    have := ed_le a b i (j + 1)
    have := e1_le (a i)
    rw [ed_ss]; omega
theorem ed_symm (a b : Nat → Nat) : ∀ i j, ed a b i j = ed b a j i
  | 0, 0 => rfl
  | 0, j + 1 => by rw [ed_0s, ed_s0, ed_symm a b 0 j]
  | i + 1, 0 => by rw [ed_s0, ed_0s, ed_symm a b i 0]
  | i + 1, j + 1 => by
    rw [ed_ss, ed_ss, ed_symm a b i j, ed_symm a b i (j + 1), ed_symm a b (i + 1) j, eC_symm]
    omega
theorem ed_self (a : Nat → Nat) : ∀ i, ed a a i i = 0
  | 0 => rfl
  | i + 1 => by rw [ed_ss, ed_self a i, eC_self]; omega
theorem ed_congr {a a' b b' : Nat → Nat} : ∀ {i j : Nat}, (∀ k, k < i → a k = a' k) → (∀ k, k < j → b k = b' k) → ed a b i j = ed a' b' i j
  | 0, 0, _, _ => rfl
  | 0, j + 1, ha, hb => by rw [ed_0s, ed_0s, ed_congr (i := 0) (j := j) ha (fun k hk => hb k (by omega)), hb j (by omega)]
  | i + 1, 0, ha, hb => by rw [ed_s0, ed_s0, ed_congr (i := i) (j := 0) (fun k hk => ha k (by omega)) hb, ha i (by omega)]
  | i + 1, j + 1, ha, hb => by
    rw [ed_ss, ed_ss, ed_congr (i := i) (j := j) (fun k hk => ha k (by omega)) (fun k hk => hb k (by omega)), ed_congr (i := i) (j := j + 1) (fun k hk => ha k (by omega)) hb, ed_congr (i := i + 1) (j := j) ha (fun k hk => hb k (by omega)), ha i (by omega), hb j (by omega)]
theorem mnI {a b : Nat} (ha : a < 2 ^ 31) (hb : b < 2 ^ 31) : (if nI b < nI a then nI b else nI a) = nI (min a b) := by
  by_cases h : b < a
  · rw [if_pos ((nI_ltI hb ha).mpr h), show min a b = b by omega]
  · rw [if_neg (fun z => h ((nI_ltI hb ha).mp z)), show min a b = a by omega]
theorem s_X0_costOfOne {G : GS} {x : Int32} {f : Nat} (hx : x = nI f) (hf : f < 2 ^ 31) {post : Int32 → GS → Prop} (h : post (nI (e1 f)) G) : wp_X0_costOfOne G x post := by
  unfold wp_X0_costOfOne
  unfold e1 at h
  refine pk_ne f 0 (fun c => ?_) (fun c => ?_) hx
  · rw [if_neg c] at h; exact h
  · rw [if_pos c] at h; exact h
theorem s_X0_costOfChange {G : GS} {x y : Int32} {f g : Nat} (hx : x = nI f) (hy : y = nI g) (hf : f < 2 ^ 31) (hg : g < 2 ^ 31) {post : Int32 → GS → Prop} (h : post (nI (eC f g)) G) : wp_X0_costOfChange G x y post := by
  unfold wp_X0_costOfChange
  unfold eC at h
  refine pk_ne f g (fun c => ?_) (fun c => ?_) hx hy
  · rw [if_neg c] at h
    refine pk_eq f 0 (fun c2 => ?_) (fun c2 => ?_) hx
    · rw [if_pos (Or.inl c2)] at h; exact h
    · refine pk_ne g 0 (fun c3 => ?_) (fun c3 => ?_) hy
      · rw [if_neg (by omega)] at h; exact h
      · rw [if_pos (Or.inr c3)] at h; exact h
  · rw [if_pos c] at h; exact h
theorem s_X7_alone {G : GS} {x : Int32} {f : Nat} (hx : x = nI f) (hf : f < 2 ^ 31) {post : Int32 → GS → Prop} (h : post (nI (e1 f)) G) : wp_X7_alone G x post := s_X0_costOfOne (post := post) hx hf h
theorem s_X7_change {G : GS} {x y : Int32} {f g : Nat} (hx : x = nI f) (hy : y = nI g) (hf : f < 2 ^ 31) (hg : g < 2 ^ 31) {post : Int32 → GS → Prop} (h : post (nI (eC f g)) G) : wp_X7_change G x y post := s_X0_costOfChange (post := post) hx hy hf hg h
theorem s_X7_least {G : GS} {x y : Int32} {f g : Nat} (hx : x = nI f) (hy : y = nI g) (hf : f < 2 ^ 31) (hg : g < 2 ^ 31) {post : Int32 → GS → Prop} (h : post (nI (min f g)) G) : wp_X7_least G x y post := by
  unfold wp_X7_least
  refine pk_le g f (fun c => ?_) (fun c => ?_) hy hx
  · rw [show min f g = g by omega] at h; rw [hy]; exact h
  · rw [show min f g = f by omega] at h; rw [hx]; exact h
/-- a ROW as it lies: l FRAMES x 0 .. -/
def rowAt (G : GS) (a : Nat) (l : Nat) (x : Nat → Nat) : Prop := l ≤ 12 ∧ ∀ k, k < l → x k ≤ 500 ∧ G.1 a k = nI (x k)
/-- Distances.measure -/
theorem s_X0_measure {G : GS} {a b la lb : Nat} {x y : Nat → Nat} (ha : a < 40) (hb : b < 40) (hla : G.1 13 a = nI la) (hlb : G.1 13 b = nI lb) (hxa : rowAt G (88 + a) la x) (hyb : rowAt G (88 + b) lb y) {post : Int32 → GS → Prop} (h : ∀ G', fr (fun r => 288 ≤ r) G G' → post (nI (ed x y la lb)) G') : wp_X0_measure G (nI a) (nI b) post := by
  have h12a := hxa.1
  have h12b := hyb.1
  unfold wp_X0_measure
  refine ⟨a, ha, rfl, b, hb, rfl, 0, by omega, rfl, 0, by omega, rfl, ?_⟩
  rintro G5 rfl
  refine ⟨fun m v G1 => ∃ j, j ≤ lb ∧ m = lb - j ∧ v = nI (j + 1) ∧ fr (fun r => 288 ≤ r) G G1 ∧ ∀ t, t ≤ j → G1.1 288 t = nI (ed x y 0 t), ⟨lb, 0, by omega, by omega, rfl, fr.sI (by omega), fun t ht => ?_⟩, ?_⟩
  · have e : t = 0 := by omega
    subst e
    rw [sI_same]; rfl
  rintro m v G1 ⟨j, hj, rfl, rfl, hfr, hrow⟩
  refine ⟨b, hb, rfl, ?_⟩
  refine pk_lt lb (j + 1) (fun c => ?_) (fun c => ?_) (by rw [hfr.i (by omega)]; exact hlb)
  · -- the other rows
    have e : j = lb := by omega
    subst e
    refine ⟨fun m v G2 => ∃ s, s ≤ la ∧ m = la - s ∧ v = nI (s + 1) ∧ fr (fun r => 288 ≤ r) G G2 ∧ ∀ i, i ≤ s → ∀ t, t ≤ j → G2.1 (288 + i) t = nI (ed x y i t), ⟨la, 0, by omega, by omega, rfl, hfr, fun i hi t ht => ?_⟩, ?_⟩
    · have e : i = 0 := by omega
      subst e
      exact hrow t ht
    rintro m2 v2 G2 ⟨s, hs, rfl, rfl, hfr2, hrows⟩
    refine ⟨a, ha, rfl, ?_⟩
    have hla2 : G2.1 13 a = nI la := by rw [hfr2.i (by omega)]; exact hla
    have hlb2 : G2.1 13 b = nI j := by rw [hfr2.i (by omega)]; exact hlb
    refine pk_lt la (s + 1) (fun c2 => ?_) (fun c2 => ?_) hla2
    · have e : s = la := by omega
      subst e
      refine ⟨a, ha, rfl, s, by omega, hla2, b, hb, rfl, j, by omega, hlb2, ?_⟩
      rw [hrows s (Nat.le_refl _) j (Nat.le_refl _)]
      exact h G2 hfr2
    · have hs2 : s < la := by omega
      obtain ⟨hx5, hxs⟩ := hxa.2 s hs2
      refine ⟨s, by omega, nI_pred _, ?_⟩
      rintro y17 rfl
      have ey : G2.1 (88 + a) s = nI (x s) := by rw [hfr2.i (by omega)]; exact hxs
      refine ⟨s + 1, by omega, rfl, s, by omega, nI_pred _, 0, by omega, rfl, ?_⟩
      refine s_X0_costOfOne ey (by omega) ?_
      refine ⟨0, by omega, rfl, ?_⟩
      rintro G24 rfl
      refine ⟨fun m v G3 => ∃ t, t ≤ j ∧ m = j - t ∧ v = nI (t + 1) ∧ fr (fun r => 288 ≤ r) G G3 ∧ (∀ i, i ≤ s → ∀ t, t ≤ j → G3.1 (288 + i) t = nI (ed x y i t)) ∧ ∀ u, u ≤ t → G3.1 (288 + (s + 1)) u = nI (ed x y (s + 1) u), ⟨j, 0, by omega, by omega, rfl, hfr2.tr (fr.sI (by omega)), fun i hi t ht => ?_, fun u hu => ?_⟩, ?_⟩
      · rw [sI_ne1 _ _ _ _ (by omega)]
        exact hrows i hi t ht
      · have e : u = 0 := by omega
        subst e
        rw [sI_same, hrows s (Nat.le_refl _) 0 (by omega), nI_add]
        rfl
      rintro m3 v3 G3 ⟨t, ht, rfl, rfl, hfr3, hr3, hl3⟩
      refine ⟨b, hb, rfl, ?_⟩
      refine pk_lt j (t + 1) (fun c3 => ?_) (fun c3 => ?_) (by rw [hfr3.i (by omega)]; exact hlb)
      · have e : t = j := by omega
        subst e
        refine ⟨la - (s + 1), by omega, s + 1, by omega, rfl, nI_1 _, hfr3, fun i hi u hu => ?_⟩
        by_cases e : i = s + 1
        · rw [e]; exact hl3 u hu
        · exact hr3 i (by omega) u hu
      · obtain ⟨hy5, hys⟩ := hyb.2 t (by omega)
        have eyt : G3.1 (88 + b) t = nI (y t) := by rw [hfr3.i (by omega)]; exact hys
        have exs : G2.1 (88 + a) s = nI (x s) := ey
        have b1 := ed_le x y s t
        have b2 := ed_le x y s (t + 1)
        have b3 := ed_le x y (s + 1) t
        have q1 := eC_le (x s) (y t)
        have q2 := e1_le (x s)
        have q3 := e1_le (y t)
        refine ⟨t, by omega, nI_pred _, ?_⟩
        rintro y31 rfl
        refine ⟨s, by omega, nI_pred _, t, by omega, nI_pred _, ?_⟩
        refine s_X0_costOfChange exs eyt (by omega) (by omega) ?_
        rintro y36 rfl
        refine ⟨s, by omega, nI_pred _, t + 1, by omega, rfl, ?_⟩
        refine s_X0_costOfOne exs (by omega) ?_
        rintro y41 rfl
        refine ⟨s + 1, by omega, rfl, t, by omega, nI_pred _, ?_⟩
        refine s_X0_costOfOne eyt (by omega) ?_
        rintro y46 rfl
        refine ⟨s + 1, by omega, rfl, t + 1, by omega, rfl, ?_⟩
        rw [hr3 s (Nat.le_refl _) t (by omega), hr3 s (Nat.le_refl _) (t + 1) (by omega), hl3 t (Nat.le_refl _), nI_add, nI_add, nI_add, mnI (by omega) (by omega), mnI (by omega) (by omega), ← ed_ss]
        rintro G49 rfl
        refine ⟨j - (t + 1), by omega, t + 1, by omega, rfl, nI_1 _, hfr3.tr (fr.sI (by omega)), fun i hi u hu => ?_, fun u hu => ?_⟩
        · rw [sI_ne1 _ _ _ _ (by omega)]
          exact hr3 i hi u hu
        · by_cases e : u = t + 1
          · rw [e, sI_same]
          · rw [sI_ne2 _ _ _ _ e]
            exact hl3 u (by omega)
  · -- the first row goes on
    obtain ⟨hy5, hyj⟩ := hyb.2 j (by omega)
    refine ⟨0, by omega, rfl, 0, by omega, rfl, j, by omega, nI_pred _, j, by omega, nI_pred _, ?_⟩
    refine s_X0_costOfOne (f := y j) (by rw [hfr.i (by omega)]; exact hyj) (by omega) ?_
    refine ⟨j + 1, by omega, rfl, ?_⟩
    rintro G59 rfl
    refine ⟨lb - (j + 1), by omega, j + 1, by omega, rfl, nI_1 _, hfr.tr (fr.sI (by omega)), fun t ht => ?_⟩
    by_cases e : t = j + 1
    · subst e
      have e2 : (sI G1 (288 + 0) (j + 1) (G1.1 (288 + 0) j + nI (e1 (y j)))).1 288 (j + 1) = G1.1 (288 + 0) j + nI (e1 (y j)) := sI_same _ _ _ _
      rw [e2, show G1.1 (288 + 0) j = nI (ed x y 0 j) from hrow j (Nat.le_refl _), nI_add]
      rfl
    · rw [sI_ne2 _ _ _ _ e]
      exact hrow t (by omega)
