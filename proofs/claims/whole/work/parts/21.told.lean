/-! the ROW told, and its folding -/
/-- n FRAMES f 0, f 1, .. told: the number at (o, s), the FRAMES in row a -/
def tR (o s a n : Nat) (f : Nat → Nat) (G : GS) : Prop := n ≤ 12 ∧ (∀ k, k < n → f k ≤ 500) ∧ G.1 o s = nI n ∧ ∀ k, k < n → G.1 a k = nI (f k)
theorem tR.fr {P : Nat → Prop} {G G' : GS} {o s a n : Nat} {f : Nat → Nat} (h : tR o s a n f G) (hf : fr P G G') (ho : ¬ P o) (ha : ¬ P a) : tR o s a n f G' := ⟨h.1, h.2.1, by rw [hf.i ho]; exact h.2.2.1, fun k hk => by rw [hf.i ha]; exact h.2.2.2 k hk⟩
/-- the part of k FRAMES at t stands twice -/
def twB (n : Nat) (f : Nat → Nat) (t k : Nat) : Bool := decide (t + 2 * k ≤ n) && (List.range k).all (fun i => decide (f (t + i) = f (t + k + i)))
theorem twB_t {n : Nat} {f : Nat → Nat} {t k : Nat} (h : t + 2 * k ≤ n) (h2 : ∀ i, i < k → f (t + i) = f (t + k + i)) : twB n f t k = true := by
  unfold twB
  rw [decide_eq_true h, Bool.true_and, List.all_eq_true]
  intro i hi
  exact decide_eq_true (h2 i (List.mem_range.mp hi))
theorem twB_f1 {n : Nat} {f : Nat → Nat} {t k : Nat} (h : n < t + 2 * k) : twB n f t k = false := by
  unfold twB
  rw [decide_eq_false (by omega), Bool.false_and]
theorem twB_f2 {n : Nat} {f : Nat → Nat} {t k i : Nat} (hi : i < k) (h : f (t + i) ≠ f (t + k + i)) : twB n f t k = false := by
  cases hb : twB n f t k with
  | false => rfl
  | true =>
    unfold twB at hb
    rw [Bool.and_eq_true, List.all_eq_true] at hb
    exact absurd (of_decide_eq_true (hb.2 i (List.mem_range.mpr hi))) h
def cutF (f : Nat → Nat) (t k : Nat) : Nat → Nat := fun i => if i < t then f i else f (i + k)
/-- place 20 k + t: the part of k at t -/
def fP (n : Nat) (f : Nat → Nat) (i : Nat) : Bool := decide (20 ≤ i) && twB n f (i % 20) (i / 20)
def fold1 (n : Nat) (f : Nat → Nat) : Option Nat := lst (fP n f) 80
def foldO (s : Nat × (Nat → Nat)) (o : Option Nat) : Nat × (Nat → Nat) := match o with
  | none => s
  | some i => (s.1 - i / 20, cutF s.2 (i % 20) (i / 20))
def foldS (s : Nat × (Nat → Nat)) : Nat × (Nat → Nat) := foldO s (fold1 s.1 s.2)
def foldK : Nat → Nat × (Nat → Nat) → Nat × (Nat → Nat)
  | 0, s => s
  | k + 1, s => foldK k (foldS s)
theorem fP_at {n : Nat} {f : Nat → Nat} {t k : Nat} (ht : t < 20) (hk : 1 ≤ k) : fP n f (20 * k + t) = twB n f t k := by
  have h1 : (20 * k + t) % 20 = t := by omega
  have h2 : (20 * k + t) / 20 = k := by omega
  unfold fP
  rw [h1, h2, decide_eq_true (by omega), Bool.true_and]
theorem fP_all {n : Nat} {f : Nat → Nat} (hn : n ≤ 12) (k t : Nat) (hk : k ≤ 4) (ht : t ≤ 20) (h : ∀ k', 1 ≤ k' → k' < k → ∀ t', twB n f t' k' = false) (h2 : ∀ t', t' < t → twB n f t' k = false) : ∀ j, j < 20 * k + t → fP n f j = false := by
  intro j hj
  by_cases h20 : 20 ≤ j
  · have e : j = 20 * (j / 20) + j % 20 := by omega
    rw [e, fP_at (by omega) (by omega)]
    by_cases hq : j / 20 = k
    · rw [hq]; exact h2 _ (by omega)
    · exact h _ (by omega) (by omega) _
  · unfold fP
    rw [decide_eq_false h20, Bool.false_and]
theorem fold1_none {n : Nat} {f : Nat → Nat} (hn : n ≤ 12) (h : ∀ k', 1 ≤ k' → k' < 4 → ∀ t', twB n f t' k' = false) : fold1 n f = none := lst_none (fun k hk => fP_all hn 4 0 (by omega) (by omega) h (fun t' ht => absurd ht (by omega)) k (by omega))
theorem fold1_some {n : Nat} {f : Nat → Nat} (hn : n ≤ 12) {k t : Nat} (hk : 1 ≤ k) (hk4 : k < 4) (ht : t < 20) (h : ∀ k', 1 ≤ k' → k' < k → ∀ t', twB n f t' k' = false) (h2 : ∀ t', t' < t → twB n f t' k = false) (h3 : twB n f t k = true) : fold1 n f = some (20 * k + t) := lst_some (by omega) (by rw [fP_at ht hk]; exact h3) (fP_all hn k t (by omega) (by omega) h h2)
theorem foldS_none {n : Nat} {f : Nat → Nat} (h : fold1 n f = none) : foldS (n, f) = (n, f) := by
  show foldO (n, f) (fold1 n f) = _
  rw [h]
  rfl
theorem foldS_some {n k t : Nat} {f : Nat → Nat} (h : fold1 n f = some (20 * k + t)) (ht : t < 20) : foldS (n, f) = (n - k, cutF f t k) := by
  have h1 : (20 * k + t) % 20 = t := by omega
  have h2 : (20 * k + t) / 20 = k := by omega
  show foldO (n, f) (fold1 n f) = _
  rw [h]
  show (n - (20 * k + t) / 20, cutF f ((20 * k + t) % 20) ((20 * k + t) / 20)) = _
  rw [h1, h2]
theorem fold1_len {n : Nat} {f : Nat → Nat} {i : Nat} (h : fold1 n f = some i) : 1 ≤ i / 20 ∧ i % 20 + 2 * (i / 20) ≤ n := by
  rcases lst_spec (p := fP n f) (n := 80) with ⟨h1, -⟩ | ⟨k, h1, h2, h3, -⟩
  · unfold fold1 at h; rw [h1] at h; cases h
  · unfold fold1 at h
    rw [h1] at h
    cases h
    unfold fP at h3
    rw [Bool.and_eq_true] at h3
    have h20 := of_decide_eq_true h3.1
    have h5 := h3.2
    unfold twB at h5
    rw [Bool.and_eq_true] at h5
    exact ⟨by omega, of_decide_eq_true h5.1⟩
theorem foldS_le (s : Nat × (Nat → Nat)) : (foldS s).1 ≤ s.1 := by
  unfold foldS
  cases fold1 s.1 s.2 with
  | none => exact Nat.le_refl _
  | some i => exact Nat.sub_le _ _
theorem foldK_fix {s : Nat × (Nat → Nat)} (h : fold1 s.1 s.2 = none) : ∀ k, foldK k s = s
  | 0 => rfl
  | k + 1 => by
    show foldK k (foldS s) = s
    have e : foldS s = s := foldS_none h
    rw [e]
    exact foldK_fix h k
theorem foldK_add : ∀ (a b : Nat) (s : Nat × (Nat → Nat)), foldK b (foldK a s) = foldK (a + b) s
  | 0, b, s => by rw [Nat.zero_add]; rfl
  | a + 1, b, s => by
    show foldK b (foldK a (foldS s)) = _
    rw [foldK_add a b (foldS s), show a + 1 + b = (a + b) + 1 by omega]
    rfl
/-- FRAMES stay FRAMES -/
theorem foldS_500 {s : Nat × (Nat → Nat)} (h : ∀ k, k < s.1 → s.2 k ≤ 500) : ∀ k, k < (foldS s).1 → (foldS s).2 k ≤ 500 := by
  unfold foldS
  cases hi : fold1 s.1 s.2 with
  | none => exact h
  | some i =>
    have hl := fold1_len hi
    intro k hk
    have hk : k < s.1 - i / 20 := hk
    show cutF s.2 (i % 20) (i / 20) k ≤ 500
    unfold cutF
    split
    · exact h k (by omega)
    · exact h _ (by omega)
/-- ToldRow.standsTwice -/
theorem s_X4_standsTwice {G : GS} {n : Nat} {f : Nat → Nat} (hT : tR 1 1 8 n f G) {t k : Nat} (h2 : t + 2 * k ≤ n) {post : Int32 → GS → Prop} (h : post (bI (twB n f t k)) G) : wp_X4_standsTwice G (nI t) (nI k) post := by
  obtain ⟨hn, h5, hl, hf⟩ := hT
  unfold wp_X4_standsTwice
  refine ⟨fun m v => ∃ i, i ≤ k ∧ m = k - i ∧ v = nI (t + i) ∧ ∀ j, j < i → f (t + j) = f (t + k + j), ⟨k, 0, by omega, by omega, rfl, fun j hj => absurd hj (by omega)⟩, ?_⟩
  rintro m v ⟨i, hi, rfl, rfl, hall⟩
  refine pk_le (t + k) (t + i) (fun c => ?_) (fun c => ?_) (nI_add t k) rfl (by omega) (by omega)
  · have e : i = k := by omega
    subst e
    rw [twB_t h2 hall] at h
    exact h
  · refine ⟨t + i, by omega, rfl, t + i + k, by omega, nI_add _ _, ?_⟩
    refine pk_eq (f (t + i)) (f (t + k + i)) (fun c2 => ?_) (fun c2 => ?_) (hf _ (by omega)) (by rw [hf _ (by omega), show t + i + k = t + k + i by omega]) (by have := h5 (t + i) (by omega); omega) (by have := h5 (t + k + i) (by omega); omega)
    · refine ⟨k - (i + 1), by omega, i + 1, by omega, rfl, nI_1 _, fun j hj => ?_⟩
      by_cases e : j = i
      · rw [e]; exact c2
      · exact hall j (by omega)
    · rw [twB_f2 (by omega) c2] at h
      exact h
/-- ToldRow.cut -/
theorem s_X4_cut {G : GS} {n : Nat} {f : Nat → Nat} (hT : tR 1 1 8 n f G) {t k : Nat} (h2 : t + k ≤ n) {post : GS → Prop} (h : ∀ G', tR 1 1 8 (n - k) (cutF f t k) G' → fr (fun a => a = 1 ∨ a = 8) G G' → post G') : wp_X4_cut G (nI t) (nI k) post := by
  obtain ⟨hn, h5, hl, hf⟩ := hT
  unfold wp_X4_cut
  refine ⟨fun m v G1 => ∃ i, t ≤ i ∧ i ≤ n - k ∧ m = n - k - i ∧ v = nI i ∧ fr (fun a => a = 8) G G1 ∧ (∀ j, j < i → G1.1 8 j = nI (cutF f t k j)) ∧ (∀ j, i ≤ j → j < n → G1.1 8 j = nI (f j)), ⟨n - k - t, t, by omega, by omega, rfl, rfl, fr.rf, fun j hj => by unfold cutF; rw [if_pos hj]; exact hf j (by omega), fun j _ hj => hf j hj⟩, ?_⟩
  rintro m v G1 ⟨i, hti, hi, rfl, rfl, hfr, hlo, hhi⟩
  have hl1 : G1.1 1 1 = nI n := by rw [hfr.i (by omega)]; exact hl
  refine pk_le n (i + k) (fun c => ?_) (fun c => ?_) hl1 (nI_add _ _) (by omega) (by omega)
  · rintro G3 rfl
    refine h _ ⟨by omega, fun j hj => ?_, ?_, fun j hj => ?_⟩ ((hfr.mono (fun a ha => Or.inr ha)).tr (fr.sI (Or.inl rfl)))
    · unfold cutF
      split
      · exact h5 _ (by omega)
      · exact h5 _ (by omega)
    · rw [sI_same, hl1]
      exact pk_sub (by omega)
    · rw [sI_ne1 _ _ _ _ (by decide)]
      exact hlo j (by omega)
  · refine ⟨i + k, by omega, nI_add _ _, i, by omega, rfl, ?_⟩
    rintro G6 rfl
    refine ⟨n - k - (i + 1), by omega, i + 1, by omega, by omega, rfl, nI_1 _, hfr.tr (fr.sI rfl), fun j hj => ?_, fun j hj hj2 => ?_⟩
    · by_cases e : j = i
      · subst e
        rw [sI_same, hhi _ (by omega) (by omega)]
        unfold cutF
        rw [if_neg (by omega)]
      · rw [sI_ne2 _ _ _ _ e]
        exact hlo j (by omega)
    · rw [sI_ne2 _ _ _ _ (by omega)]
      exact hhi j (by omega) hj2
/-- ToldRow.foldOnce -/
theorem s_X4_foldOnce {G : GS} {n : Nat} {f : Nat → Nat} (hT : tR 1 1 8 n f G) {post : Int32 → GS → Prop} (h : ∀ G', tR 1 1 8 (foldS (n, f)).1 (foldS (n, f)).2 G' → fr (fun a => a = 1 ∨ a = 8) G G' → post (bI (fold1 n f).isSome) G') : wp_X4_foldOnce G post := by
  have hn := hT.1
  have hl := hT.2.2.1
  unfold wp_X4_foldOnce
  refine ⟨fun m v G1 => ∃ k, 1 ≤ k ∧ k ≤ 4 ∧ m = 4 - k ∧ v = nI k ∧ G1 = G ∧ ∀ k', 1 ≤ k' → k' < k → ∀ t', twB n f t' k' = false, ⟨3, 1, by omega, by omega, by omega, rfl, rfl, fun k' h1 h2 => absurd h2 (by omega)⟩, ?_⟩
  rintro m v G1 ⟨k, hk1, hk4, rfl, rfl, rfl, hno⟩
  refine pk_lt 3 k (fun c => ?_) (fun c => ?_)
  · have e : fold1 n f = none := fold1_none hn (fun k' h1 h2 => hno k' h1 (by omega))
    have h2 := h G1 (by rw [foldS_none e]; exact hT) fr.rf
    rw [e] at h2
    exact h2
  · refine ⟨fun m v G2 => ∃ t, t ≤ n ∧ m = n - t ∧ v = nI t ∧ G2 = G1 ∧ ∀ t', t' < t → twB n f t' k = false, ⟨n, 0, by omega, by omega, rfl, rfl, fun t' ht => absurd ht (by omega)⟩, ?_⟩
    rintro m2 v2 G2 ⟨t, ht, rfl, rfl, rfl, hno2⟩
    refine pk_lt n (t + 2 * k) (fun c2 => ?_) (fun c2 => ?_) hl (by rw [show (2 : Int32) * nI k = nI (2 * k) from pk_mul 2 k]; exact nI_add _ _)
    · refine ⟨4 - (k + 1), by omega, k + 1, by omega, by omega, rfl, nI_1 _, rfl, fun k' h1 h2 t' => ?_⟩
      by_cases e : k' = k
      · subst e
        by_cases e2 : t' < t
        · exact hno2 t' e2
        · exact twB_f1 (by omega)
      · exact hno k' h1 (by omega) t'
    · refine s_X4_standsTwice hT (by omega) (bI_br (fun hb => ?_) (fun hb => ?_))
      · refine ⟨n - (t + 1), by omega, t + 1, by omega, rfl, nI_1 _, rfl, fun t' h1 => ?_⟩
        by_cases e : t' = t
        · rw [e]; exact hb
        · exact hno2 t' (by omega)
      · have e := fold1_some hn hk1 (by omega) (show t < 20 by omega) hno hno2 hb
        refine s_X4_cut hT (by omega) (fun G' hT' hfr => ?_)
        have h2 := h G' (by rw [foldS_some e (by omega)]; exact hT') hfr
        rw [e] at h2
        exact h2
/-- ToldRow.fold -/
theorem s_X4_fold {G : GS} {n : Nat} {f : Nat → Nat} (hT : tR 1 1 8 n f G) {post : GS → Prop} (h : ∀ G', tR 1 1 8 (foldK 12 (n, f)).1 (foldK 12 (n, f)).2 G' → fr (fun a => a = 1 ∨ a = 8) G G' → post G') : wp_X4_fold G post := by
  unfold wp_X4_fold
  refine ⟨fun m v G1 => ∃ i, i ≤ 12 ∧ m = 12 - i ∧ v = nI i ∧ tR 1 1 8 (foldK i (n, f)).1 (foldK i (n, f)).2 G1 ∧ fr (fun a => a = 1 ∨ a = 8) G G1, ⟨12, 0, by omega, by omega, rfl, hT, fr.rf⟩, ?_⟩
  rintro m v G1 ⟨i, hi, rfl, rfl, hT1, hfr⟩
  refine pk_le 12 i (fun c => ?_) (fun c => ?_)
  · have e : i = 12 := by omega
    subst e
    exact h G1 hT1 hfr
  · have es : foldS (foldK i (n, f)) = foldK (i + 1) (n, f) := foldK_add i 1 (n, f)
    refine s_X4_foldOnce hT1 (fun G' hT' hfr' => bI_brn (fun hb => ?_) (fun hb => ?_))
    · exact ⟨12 - (i + 1), by omega, i + 1, by omega, rfl, nI_1 _, by rw [← es]; exact hT', hfr.tr hfr'⟩
    · have e1 : fold1 (foldK i (n, f)).1 (foldK i (n, f)).2 = none := by simpa using hb
      have e2 : foldK 12 (n, f) = foldK i (n, f) := by
        rw [show 12 = i + (12 - i) by omega, ← foldK_add, foldK_fix e1]
      refine h G' ?_ (hfr.tr hfr')
      rw [e2]
      have e3 : foldS (foldK i (n, f)) = foldK i (n, f) := foldS_none e1
      have hT' : tR 1 1 8 (foldS (foldK i (n, f))).1 (foldS (foldK i (n, f))).2 G' := hT'
      rw [e3] at hT'
      exact hT'
