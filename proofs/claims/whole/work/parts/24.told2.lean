/-! what has stayed, place by place -/
def fe (P : Nat → Nat → Prop) (G G' : GS) : Prop := ∀ a k, ¬ P a k → G'.1 a k = G.1 a k ∧ G'.2 a k = G.2 a k
theorem fe.rf {P : Nat → Nat → Prop} {G : GS} : fe P G G := fun _ _ _ => ⟨rfl, rfl⟩
theorem fe.tr {P : Nat → Nat → Prop} {G G1 G2 : GS} (h : fe P G G1) (h2 : fe P G1 G2) : fe P G G2 := fun a k ha => ⟨(h2 a k ha).1.trans (h a k ha).1, (h2 a k ha).2.trans (h a k ha).2⟩
theorem fe.mono {P P' : Nat → Nat → Prop} {G G1 : GS} (h : fe P G G1) (hp : ∀ a k, P a k → P' a k) : fe P' G G1 := fun a k ha => h a k (fun z => ha (hp a k z))
theorem fe.sI {P : Nat → Nat → Prop} {G : GS} {a j : Nat} {v : Int32} (h : P a j) : fe P G (sI G a j v) := fun b k hb => ⟨by rw [sI_get, if_neg (fun e => hb (by rw [e.1, e.2]; exact h))], rfl⟩
theorem fe.sL {P : Nat → Nat → Prop} {G : GS} {a j : Nat} {v : Int64} (h : P a j) : fe P G (sL G a j v) := fun b k hb => ⟨rfl, by rw [sL_get, if_neg (fun e => hb (by rw [e.1, e.2]; exact h))]⟩
theorem fe.i {P : Nat → Nat → Prop} {G G1 : GS} (h : fe P G G1) {a k : Nat} (ha : ¬ P a k) : G1.1 a k = G.1 a k := (h a k ha).1
theorem fe.l {P : Nat → Nat → Prop} {G G1 : GS} (h : fe P G G1) {a k : Nat} (ha : ¬ P a k) : G1.2 a k = G.2 a k := (h a k ha).2
theorem fr.e {P : Nat → Prop} {G G1 : GS} (h : fr P G G1) : fe (fun a _ => P a) G G1 := fun a k ha => ⟨h.i ha k, h.l ha k⟩
theorem fe.r {P : Nat → Nat → Prop} {Q : Nat → Prop} {G G1 : GS} (h : fe P G G1) (hq : ∀ a k, P a k → Q a) : fr Q G G1 := fun a ha => ⟨funext fun k => h.i (fun z => ha (hq a k z)), funext fun k => h.l (fun z => ha (hq a k z))⟩
theorem tR.fe {P : Nat → Nat → Prop} {G G' : GS} {o s a n : Nat} {f : Nat → Nat} (h : tR o s a n f G) (hf : fe P G G') (ho : ¬ P o s) (ha : ∀ k, ¬ P a k) : tR o s a n f G' := ⟨h.1, h.2.1, by rw [hf.i ho]; exact h.2.2.1, fun k hk => by rw [hf.i (ha k)]; exact h.2.2.2 k hk⟩
/-! a FRAME more -/
def tGo (n : Nat) (x : Int32) : Bool := inR x 501 && decide (n < 12)
def tN (n : Nat) (x : Int32) : Nat := if tGo n x then n + 1 else n
def tF (n : Nat) (f : Nat → Nat) (x : Int32) : Nat → Nat := if tGo n x then (fun k => if k = n then x.toNatClampNeg else f k) else f
def tAns (n : Nat) (x : Int32) : Int32 := if tGo n x then nI (n + 1) else -1
theorem tR.no {o s a n : Nat} {f : Nat → Nat} {x : Int32} {G : GS} (h : tR o s a n f G) (hg : tGo n x = false) : tR o s a (tN n x) (tF n f x) G := by
  unfold tN tF
  simp only [hg]
  exact h
theorem tR.put {o s a n : Nat} {f : Nat → Nat} {x : Int32} {G : GS} (hoa : o ≠ a) (h : tR o s a n f G) (hg : tGo n x = true) : tR o s a (tN n x) (tF n f x) (sI (sI G a n x) o s (nI (n + 1))) := by
  obtain ⟨hn, h5, hl, hf⟩ := h
  have hg2 := hg
  unfold tGo at hg2
  rw [Bool.and_eq_true] at hg2
  obtain ⟨j, hj, rfl⟩ := inR_of hg2.1
  have h12 := of_decide_eq_true hg2.2
  unfold tN tF
  simp only [hg, if_true]
  rw [nI_clamp (by omega)]
  refine ⟨by omega, fun k hk => ?_, sI_same _ _ _ _, fun k hk => ?_⟩
  · dsimp only
    split
    · omega
    · exact h5 k (by omega)
  · dsimp only
    rw [sI_ne1 _ _ _ _ (Ne.symm hoa), sI_get]
    by_cases e : k = n
    · rw [if_pos ⟨rfl, e⟩, if_pos e]
    · rw [if_neg (fun z => e z.2), if_neg e]
      exact hf k (by omega)
/-- ToldRow.put -/
theorem s_X4_put {G : GS} {n : Nat} {f : Nat → Nat} (hT : tR 1 1 8 n f G) {x : Int32} {post : Int32 → GS → Prop} (h : ∀ G', tR 1 1 8 (tN n x) (tF n f x) G' → fr (fun a => a = 1 ∨ a = 8) G G' → post (tAns n x) G') : wp_X4_put G x post := by
  have hl := hT.2.2.1
  have hn := hT.1
  unfold wp_X4_put
  have no : tGo n x = false → post (-1) G := fun hg => by
    have h5 := h G (hT.no hg) fr.rf
    unfold tAns at h5; rw [hg] at h5; exact h5
  rcases rng x (M := 500) (n := 500) rfl with ⟨c, hr⟩ | ⟨c, c2, hr⟩ | ⟨j, hj, rfl, c, c2, hr⟩
  · exact ⟨fun _ => no (by unfold tGo; rw [hr, Bool.false_and]), fun z => absurd c z⟩
  · exact ⟨fun z => absurd z c, fun _ => ⟨fun _ => no (by unfold tGo; rw [hr, Bool.false_and]), fun z => absurd c2 z⟩⟩
  · refine ⟨fun z => absurd z c, fun _ => ⟨fun z => absurd z c2, fun _ => ?_⟩⟩
    refine pk_lt n 12 (fun c3 => ?_) (fun c3 => ?_) hl
    · have hg : tGo n (nI j) = true := by unfold tGo; rw [hr, Bool.true_and]; exact decide_eq_true c3
      refine ⟨n, c3, hl, ?_⟩
      rintro G5 rfl G6 rfl
      have e1 : (sI G 8 n (nI j)).1 1 1 + 1 = nI (n + 1) := by rw [sI_ne1 _ _ _ _ (by decide), hl]; exact nI_1 _
      rw [e1]
      have h5 := h _ (tR.put (by decide) hT hg) ((fr.sI (Or.inr rfl)).tr (fr.sI (Or.inl rfl)))
      unfold tAns at h5
      rw [hg, if_pos rfl] at h5
      rw [sI_same]
      exact h5
    · exact no (by unfold tGo; rw [decide_eq_false (by omega), Bool.and_false])
/-- the reference's frame -/
theorem s_X7_frame {G : GS} {n : Nat} {f : Nat → Nat} (hT : tR 7 3 21 n f G) {x : Int32} {post : Int32 → GS → Prop} (h : ∀ G', tR 7 3 21 (tN n x) (tF n f x) G' → fe (fun a k => (a = 7 ∧ (k = 0 ∨ k = 3)) ∨ a = 21) G G' → post (tAns n x) G') : wp_X7_frame G x post := by
  unfold wp_X7_frame
  rintro G1 rfl
  have hf0 : fe (fun a k => (a = 7 ∧ (k = 0 ∨ k = 3)) ∨ a = 21) G (sI G 7 0 0) := fe.sI (Or.inl ⟨rfl, Or.inl rfl⟩)
  have hT1 : tR 7 3 21 n f (sI G 7 0 0) := hT.fe (P := fun a k => a = 7 ∧ k = 0) (fe.sI ⟨rfl, rfl⟩) (by omega) (fun k => by omega)
  generalize sI G 7 0 0 = G1 at hf0 hT1 ⊢
  have hl := hT1.2.2.1
  have hn := hT1.1
  have no : tGo n x = false → post (-1) G1 := fun hg => by
    have h5 := h G1 (hT1.no hg) hf0
    unfold tAns at h5; rw [hg] at h5; exact h5
  rcases rng x (M := 500) (n := 500) rfl with ⟨c, hr⟩ | ⟨c, c2, hr⟩ | ⟨j, hj, rfl, c, c2, hr⟩
  · exact ⟨fun _ => no (by unfold tGo; rw [hr, Bool.false_and]), fun z => absurd c z⟩
  · exact ⟨fun z => absurd z c, fun _ => ⟨fun _ => no (by unfold tGo; rw [hr, Bool.false_and]), fun z => absurd c2 z⟩⟩
  · refine ⟨fun z => absurd z c, fun _ => ⟨fun z => absurd z c2, fun _ => ?_⟩⟩
    refine pk_ne n 12 (fun c3 => ?_) (fun c3 => ?_) hl
    · have hg : tGo n (nI j) = true := by unfold tGo; rw [hr, Bool.true_and]; exact decide_eq_true (by omega)
      refine ⟨n, by omega, hl, ?_⟩
      rintro G5 rfl G6 rfl
      have e1 : (sI G1 21 n (nI j)).1 7 3 + 1 = nI (n + 1) := by rw [sI_ne1 _ _ _ _ (by decide), hl]; exact nI_1 _
      rw [e1]
      have h5 := h _ (tR.put (by decide) hT1 hg) ((hf0.tr (fe.sI (Or.inr rfl))).tr (fe.sI (Or.inl ⟨rfl, Or.inr rfl⟩)))
      unfold tAns at h5
      rw [hg, if_pos rfl] at h5
      rw [sI_same]
      exact h5
    · exact no (by unfold tGo; rw [decide_eq_false (by omega), Bool.and_false])
theorem s_X7_isTwice {G : GS} {n : Nat} {f : Nat → Nat} (hT : tR 7 3 21 n f G) {t k : Nat} (ht : t < 12) (hk : k < 4) {post : Int32 → GS → Prop} (h : post (bI (twB n f t k)) G) : wp_X7_isTwice G (nI t) (nI k) post := by
  obtain ⟨hn, h5, hl, hf⟩ := hT
  have e2 : (nI t) + (2 * (nI k)) = nI (t + 2 * k) := by rw [show (2 : Int32) * nI k = nI (2 * k) from pk_mul 2 k]; exact nI_add _ _
  unfold wp_X7_isTwice
  refine ⟨fun w => w = bI (decide (t + 2 * k ≤ n)), ?_, ?_⟩
  · rintro w rfl
    refine ⟨fun m is v => ∃ i, i ≤ k ∧ m = k - i ∧ v = nI (t + i) ∧ ((is = 1 ∧ t + 2 * k ≤ n ∧ ∀ j, j < i → f (t + j) = f (t + k + j)) ∨ (is = 0 ∧ twB n f t k = false)), ⟨k, 0, by omega, by omega, rfl, ?_⟩, ?_⟩
    · by_cases c : t + 2 * k ≤ n
      · exact Or.inl ⟨by rw [decide_eq_true c]; rfl, c, fun j hj => absurd hj (by omega)⟩
      · exact Or.inr ⟨by rw [decide_eq_false c]; rfl, twB_f1 (by omega)⟩
    · rintro m is v ⟨i, hi, rfl, rfl, hor⟩
      refine pk_le (t + k) (t + i) (fun c => ?_) (fun c => ?_) (nI_add t k) rfl (by omega) (by omega)
      · rcases hor with ⟨rfl, hc, hall⟩ | ⟨rfl, hb⟩
        · have e : i = k := by omega
          subst e
          rw [twB_t hc hall] at h
          exact ⟨Or.inr rfl, h⟩
        · rw [hb] at h
          exact ⟨Or.inl rfl, h⟩
      · rcases hor with ⟨rfl, hc, hall⟩ | ⟨rfl, hb⟩
        · refine ⟨fun z => absurd z (by decide), fun _ => ?_⟩
          refine ⟨t + i, by omega, rfl, t + i + k, by omega, nI_add _ _, ?_⟩
          refine pk_ne (f (t + i)) (f (t + k + i)) (fun c2 => ?_) (fun c2 => ?_) (hf _ (by omega)) (by rw [hf _ (by omega), show t + i + k = t + k + i by omega]) (by have := h5 (t + i) (by omega); omega) (by have := h5 (t + k + i) (by omega); omega)
          · exact ⟨k - (i + 1), by omega, i + 1, by omega, rfl, nI_1 _, Or.inr ⟨rfl, twB_f2 (by omega) c2⟩⟩
          · refine ⟨k - (i + 1), by omega, i + 1, by omega, rfl, nI_1 _, Or.inl ⟨rfl, hc, fun j hj => ?_⟩⟩
            by_cases e : j = i
            · rw [e]; exact c2
            · exact hall j (by omega)
        · refine ⟨fun _ => ?_, fun z => absurd rfl z⟩
          rw [hb] at h
          exact ⟨Or.inl rfl, h⟩
  · refine pk_lt n (t + 2 * k) (fun c => ?_) (fun c => ?_) hl e2
    · show (0 : Int32) = _
      rw [decide_eq_false (by omega)]; rfl
    · show (1 : Int32) = _
      rw [decide_eq_true c]; rfl
theorem s_X7_folds {G : GS} {n : Nat} {f : Nat → Nat} (hT : tR 7 3 21 n f G) {post : Int32 → GS → Prop} (h : ∀ G', tR 7 3 21 (foldS (n, f)).1 (foldS (n, f)).2 G' → fe (fun a k => (a = 7 ∧ k = 3) ∨ a = 21) G G' → post (bI (fold1 n f).isSome) G') : wp_X7_folds G post := by
  have hn := hT.1
  have hl := hT.2.2.1
  unfold wp_X7_folds
  refine ⟨fun m v G1 => ∃ k, 1 ≤ k ∧ k ≤ 4 ∧ m = 4 - k ∧ v = nI k ∧ G1 = G ∧ ∀ k', 1 ≤ k' → k' < k → ∀ t', twB n f t' k' = false, ⟨3, 1, by omega, by omega, by omega, rfl, rfl, fun k' h1 h2 => absurd h2 (by omega)⟩, ?_⟩
  rintro m v G1 ⟨k, hk1, hk4, rfl, rfl, rfl, hno⟩
  refine pk_lt 3 k (fun c => ?_) (fun c => ?_)
  · have e : fold1 n f = none := fold1_none hn (fun k' h1 h2 => hno k' h1 (by omega))
    have h2 := h G1 (by rw [foldS_none e]; exact hT) fe.rf
    rw [e] at h2
    exact h2
  · refine ⟨fun m v G2 => ∃ t, t ≤ n ∧ m = n - t ∧ v = nI t ∧ G2 = G1 ∧ ∀ t', t' < t → twB n f t' k = false, ⟨n, 0, by omega, by omega, rfl, rfl, fun t' ht => absurd ht (by omega)⟩, ?_⟩
    rintro m2 v2 G2 ⟨t, ht, rfl, rfl, rfl, hno2⟩
    refine pk_le n t (fun c2 => ?_) (fun c2 => ?_) hl
    · refine ⟨4 - (k + 1), by omega, k + 1, by omega, by omega, rfl, nI_1 _, rfl, fun k' h1 h2 t' => ?_⟩
      by_cases e : k' = k
      · subst e
        by_cases e2 : t' < t
        · exact hno2 t' e2
        · exact twB_f1 (by omega)
      · exact hno k' h1 (by omega) t'
    · refine s_X7_isTwice hT (by omega) (by omega) (bI_br (fun hb => ?_) (fun hb => ?_))
      · refine ⟨n - (t + 1), by omega, t + 1, by omega, rfl, nI_1 _, rfl, fun t' h1 => ?_⟩
        by_cases e : t' = t
        · rw [e]; exact hb
        · exact hno2 t' (by omega)
      · have e := fold1_some hn hk1 (by omega) (show t < 20 by omega) hno hno2 hb
        have hle : t + 2 * k ≤ n := by
          rcases Nat.lt_or_ge n (t + 2 * k) with z | z
          · rw [twB_f1 z] at hb; cases hb
          · exact z
        obtain ⟨-, h5, -, hf⟩ := hT
        have es : (G2.1 7 3) - nI k = nI (n - k) := by rw [hl]; exact pk_sub (by omega)
        rintro G12 rfl
        rw [es]
        refine ⟨fun m v G3 => ∃ i, t ≤ i ∧ i ≤ n - k ∧ m = n - k - i ∧ v = nI i ∧ fe (fun a k => (a = 7 ∧ k = 3) ∨ a = 21) G2 G3 ∧ G3.1 7 3 = nI (n - k) ∧ (∀ j, j < i → G3.1 21 j = nI (cutF f t k j)) ∧ (∀ j, i ≤ j → j < n → G3.1 21 j = nI (f j)), ⟨n - k - t, t, by omega, by omega, rfl, rfl, fe.sI (Or.inl ⟨rfl, rfl⟩), sI_same _ _ _ _, fun j hj => by rw [sI_ne1 _ _ _ _ (by decide)]; unfold cutF; rw [if_pos hj]; exact hf j (by omega), fun j _ hj => by rw [sI_ne1 _ _ _ _ (by decide)]; exact hf j hj⟩, ?_⟩
        rintro m3 v3 G3 ⟨i, hti, hi, rfl, rfl, hfr, hl1, hlo, hhi⟩
        refine pk_le (n - k) i (fun c => ?_) (fun c => ?_) hl1
        · have h2 := h G3 ?_ hfr
          · rw [e] at h2
            exact h2
          · rw [foldS_some e (by omega)]
            refine ⟨by show n - k ≤ 12; omega, fun j hj => ?_, hl1, fun j hj => hlo j (by have : j < n - k := hj; omega)⟩
            have hj : j < n - k := hj
            show cutF f t k j ≤ 500
            unfold cutF
            split
            · exact h5 _ (by omega)
            · exact h5 _ (by omega)
        · refine ⟨i + k, by omega, nI_add _ _, i, by omega, rfl, ?_⟩
          rintro G6 rfl
          refine ⟨n - k - (i + 1), by omega, i + 1, by omega, by omega, rfl, nI_1 _, hfr.tr (fe.sI (Or.inr rfl)), by rw [sI_ne1 _ _ _ _ (by decide)]; exact hl1, fun j hj => ?_, fun j hj hj2 => ?_⟩
          · by_cases e : j = i
            · subst e
              rw [sI_same, hhi _ (by omega) (by omega)]
              unfold cutF
              rw [if_neg (by omega)]
            · rw [sI_ne2 _ _ _ _ e]
              exact hlo j (by omega)
          · rw [sI_ne2 _ _ _ _ (by omega)]
            exact hhi j (by omega) hj2
