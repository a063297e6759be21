/-! the class's HEAPS -/
def hC (n : Nat) (hp : Nat → Nat) (G : GS) : Prop := G.1 5 7 = nI n ∧ G.1 5 8 = nI (rk hp n) ∧ (∀ r, r < n → G.1 14 r = nI (rk hp (hp r))) ∧ ∀ h, h < n → hp h = h → G.1 15 (rk hp h) = nI h ∧ G.1 16 (rk hp h) = nI (cnH n hp h)
theorem hC.fe {P : Nat → Nat → Prop} {G G' : GS} {n : Nat} {hp : Nat → Nat} (h : hC n hp G) (hf : fe P G G') (h7 : ¬ P 5 7) (h8 : ¬ P 5 8) (ha : ∀ a k, 14 ≤ a → a ≤ 16 → ¬ P a k) : hC n hp G' := ⟨by rw [hf.i h7]; exact h.1, by rw [hf.i h8]; exact h.2.1, fun r hr => by rw [hf.i (ha 14 _ (by omega) (by omega))]; exact h.2.2.1 r hr, fun x hx hh => ⟨by rw [hf.i (ha 15 _ (by omega) (by omega))]; exact (h.2.2.2 x hx hh).1, by rw [hf.i (ha 16 _ (by omega) (by omega))]; exact (h.2.2.2 x hx hh).2⟩⟩
theorem hC.congr {G : GS} {n : Nat} {hp hp' : Nat → Nat} (h : hC n hp G) (hO : hOK n hp) (e : ∀ r, r < n → hp r = hp' r) : hC n hp' G := by
  refine ⟨h.1, by rw [← rk_congr e]; exact h.2.1, fun r hr => ?_, fun x hx hh => ?_⟩
  · have h1 := (hO.2 r hr).1
    rw [← e r hr, ← rk_congr (fun x hx => e x (by omega))]
    exact h.2.2.1 r hr
  · have hh' : hp x = x := by rw [e x hx]; exact hh
    obtain ⟨h1, h2⟩ := h.2.2.2 x hx hh'
    rw [← rk_congr (fun y hy => e y (by omega))]
    refine ⟨h1, ?_⟩
    have ec : cnH n hp' x = cnH n hp x := cntB_congr (fun k hk => by rw [e k hk])
    rw [ec]; exact h2
theorem s_fill {G : GS} {a : Nat} {v : Int32} (ha : gI a) {post : GS → Prop} (h : ∀ G', (∀ k, k < gLen a → G'.1 a k = v) → fr (fun b => b = a) G G' → post G') : wp_J7_fill_53178 G a v post := by
  have h31 := gLen_31 a
  unfold wp_J7_fill_53178
  refine ⟨ha, ?_⟩
  rintro y rfl
  refine ⟨fun m x G1 => ∃ i, i ≤ gLen a ∧ m = gLen a - i ∧ x = nI i ∧ fr (fun b => b = a) G G1 ∧ ∀ k, k < i → G1.1 a k = v, ⟨gLen a, 0, by omega, by omega, rfl, fr.rf, fun k hk => absurd hk (by omega)⟩, ?_⟩
  rintro m x G1 ⟨i, hi, rfl, rfl, hfr, hd⟩
  refine pk_le (gLen a) i (fun c => ?_) (fun c => ?_)
  · exact h G1 (fun k hk => hd k (by omega)) hfr
  · refine ⟨i, c, rfl, ?_⟩
    rintro G5 rfl
    refine ⟨gLen a - (i + 1), by omega, i + 1, by omega, rfl, nI_1 _, hfr.tr (fr.sI rfl), fun k hk => ?_⟩
    by_cases e : k = i
    · rw [e, sI_same]
    · rw [sI_ne2 _ _ _ _ e]; exact hd k (by omega)
theorem nI_m1 {k : Nat} (h : k < 2 ^ 31) : ¬ nI k = -1 := fun e => nI_pos h (by rw [e]; decide)
section HCs
variable {G : GS} {n : Nat}
theorem cnt1 {p : Nat → Bool} {n : Nat} (h : p n = true) : cntB p (n + 1) = cntB p n + 1 := by
  show cntB p n + (if p n then 1 else 0) = _
  rw [h]; rfl
/-- Heaps.numberAnew -/
theorem s_X1_numberAnew {f : Nat → Nat} (hN : G.1 5 7 = nI n) (hn : n ≤ 40) (hH : ∀ r, r < n → G.1 14 r = nI (f r)) (hf : ∀ r, r < n → f r ≤ 40) {post : GS → Prop} (h : ∀ G', hC n (canon f) G' → fe (fun a k => (a = 5 ∧ k = 8) ∨ (14 ≤ a ∧ a ≤ 17)) G G' → post G') : wp_X1_numberAnew G post := by
  unfold wp_X1_numberAnew
  refine s_fill (Or.inr ⟨by decide, by decide⟩) (fun G1 hm1 hfr1 => ?_)
  have hm1 : ∀ k, k < 41 → G1.1 17 k = -1 := hm1
  rintro G3 rfl
  -- hp is canon f
  have hcs := canon_spec f
  have hci := canon_idem f
  have hcf := canon_iff f
  generalize hhp : canon f = hp at h hcs hci hcf
  refine ⟨fun m v G4 => ∃ i, i ≤ n ∧ m = n - i ∧ v = nI i ∧ fe (fun a k => (a = 5 ∧ k = 8) ∨ (14 ≤ a ∧ a ≤ 17)) G G4 ∧ G4.1 5 8 = nI (rk hp i) ∧ (∀ r, r < i → G4.1 14 r = nI (rk hp (hp r)) ∧ G4.1 17 (f r) = nI (rk hp (hp r))) ∧ (∀ r, i ≤ r → r < n → G4.1 14 r = nI (f r)) ∧ (∀ y, y < 41 → (∀ k, k < i → f k ≠ y) → G4.1 17 y = -1) ∧ (∀ x, x < i → hp x = x → G4.1 15 (rk hp x) = nI x ∧ G4.1 16 (rk hp x) = nI (cnH i hp x)), ⟨n, 0, by omega, by omega, rfl, (hfr1.e.mono (fun a k z => by omega)).tr (fe.sI (by omega)), sI_same _ _ _ _, fun r hr => absurd hr (by omega), fun r _ hr => ?_, fun y hy _ => ?_, fun x hx => absurd hx (by omega)⟩, ?_⟩
  · rw [sI_ne1 _ _ _ _ (by decide), hfr1.i (by omega)]; exact hH r hr
  · rw [sI_ne1 _ _ _ _ (by decide)]; exact hm1 y hy
  rintro m v G4 ⟨i, hi, rfl, rfl, hfe, hnum, hdone, hrest, hfresh, hleast⟩
  have hri := rk_bd hp i
  refine pk_le n i (fun c => ?_) (fun c => ?_) (by rw [hfe.i (by omega)]; exact hN)
  · have e : i = n := by omega
    subst e
    exact h G4 ⟨by rw [hfe.i (by omega)]; exact hN, hnum, fun r hr => (hdone r hr).1, hleast⟩ hfe
  · have hfi := hf i (by omega)
    have hold : G4.1 14 i = nI (f i) := hrest i (Nat.le_refl _) (by omega)
    refine ⟨i, by omega, rfl, ?_⟩
    rintro y7 rfl
    refine ⟨f i, by omega, hold, ?_⟩
    obtain ⟨s1, s2, s3⟩ := hcs i
    -- the head of i's HEAP has its number
    refine ⟨fun G10 => fe (fun a k => (a = 5 ∧ k = 8) ∨ (14 ≤ a ∧ a ≤ 17)) G G10 ∧ G10.1 5 8 = nI (rk hp (i + 1)) ∧ (∀ r, r < i → G10.1 14 r = nI (rk hp (hp r)) ∧ G10.1 17 (f r) = nI (rk hp (hp r))) ∧ G10.1 17 (f i) = nI (rk hp (hp i)) ∧ (∀ r, i ≤ r → r < n → G10.1 14 r = nI (f r)) ∧ (∀ y, y < 41 → (∀ k, k < i + 1 → f k ≠ y) → G10.1 17 y = -1) ∧ (∀ x, x < i + 1 → hp x = x → G10.1 15 (rk hp x) = nI x ∧ G10.1 16 (rk hp x) = nI (cnH i hp x)), ?_, ?_⟩
    · rintro G10 ⟨g1, g2, g3, g4, g5, g6, g7⟩
      have hrk : rk hp (hp i) ≤ hp i := rk_bd hp _
      refine ⟨f i, by omega, hold, i, by omega, rfl, ?_⟩
      rintro G13 rfl
      rw [g4]
      refine ⟨i, by omega, rfl, rk hp (hp i), by omega, sI_same _ _ _ _, rk hp (hp i), by omega, sI_same _ _ _ _, ?_⟩
      rintro G17 rfl
      refine ⟨n - (i + 1), by omega, i + 1, by omega, rfl, nI_1 _, (g1.tr (fe.sI (by omega))).tr (fe.sI (by omega)), ?_, fun r hr => ?_, fun r h1 h2 => ?_, fun y hy hk => ?_, fun x hx hh => ?_⟩
      · rw [sI_ne1 _ _ _ _ (by decide), sI_ne1 _ _ _ _ (by decide)]; exact g2
      · by_cases e : r = i
        · subst e
          exact ⟨by rw [sI_ne1 _ _ _ _ (by decide), sI_same], by rw [sI_ne1 _ _ _ _ (by decide), sI_ne1 _ _ _ _ (by decide)]; exact g4⟩
        · exact ⟨by rw [sI_ne1 _ _ _ _ (by decide), sI_ne2 _ _ _ _ e]; exact (g3 r (by omega)).1, by rw [sI_ne1 _ _ _ _ (by decide), sI_ne1 _ _ _ _ (by decide)]; exact (g3 r (by omega)).2⟩
      · rw [sI_ne1 _ _ _ _ (by decide), sI_ne2 _ _ _ _ (by omega)]; exact g5 r (by omega) h2
      · rw [sI_ne1 _ _ _ _ (by decide), sI_ne1 _ _ _ _ (by decide)]; exact g6 y hy hk
      · obtain ⟨q1, q2⟩ := g7 x hx hh
        refine ⟨by rw [sI_ne1 _ _ _ _ (by decide), sI_ne1 _ _ _ _ (by decide)]; exact q1, ?_⟩
        by_cases e : x = hp i
        · subst e
          rw [sI_same, sI_ne1 _ _ _ _ (by decide), q2, nI_1]
          show _ = nI (cntB _ (i + 1))
          rw [cnt1 (decide_eq_true rfl)]; rfl
        · have ne : rk hp x ≠ rk hp (hp i) := fun z => e (rk_inj hh (hci i) z)
          rw [sI_ne2 _ _ _ _ ne, sI_ne1 _ _ _ _ (by decide), q2]
          show nI (cntB _ i) = nI (cntB _ (i + 1))
          rw [← cnt_stay (p := fun k => decide (hp k = x)) (decide_eq_false (Ne.symm e))]
    · by_cases hnew : hp i = i
      · -- a new HEAP
        have hno : ∀ k, k < i → f k ≠ f i := fun k hk => s3 k (by omega)
        have em : G4.1 17 (f i) = -1 := hfresh (f i) (by omega) hno
        refine ⟨fun z => absurd em z, fun _ => ⟨f i, by omega, hold, ?_⟩⟩
        rintro G22 rfl
        rw [hnum]
        refine ⟨rk hp i, by omega, by rw [sI_ne1 _ _ _ _ (by decide)]; exact hnum, ?_⟩
        rintro G24 rfl
        refine ⟨rk hp i, by omega, by rw [sI_ne1 _ _ _ _ (by decide), sI_ne1 _ _ _ _ (by decide)]; exact hnum, ?_⟩
        rintro G26 rfl G27 rfl
        refine ⟨(((hfe.tr (fe.sI (by omega))).tr (fe.sI (by omega))).tr (fe.sI (by omega))).tr (fe.sI (by omega)), ?_, fun r hr => ?_, ?_, fun r h1 h2 => ?_, fun y hy hk => ?_, fun x hx hh => ?_⟩
        · rw [sI_same, sI_ne1 _ _ _ _ (by decide), sI_ne1 _ _ _ _ (by decide), sI_ne1 _ _ _ _ (by decide), hnum, rk_t hnew]
          exact nI_1 _
        · rw [sI_ne1 _ _ _ _ (by decide), sI_ne1 _ _ _ _ (by decide), sI_ne1 _ _ _ _ (by decide), sI_ne1 _ _ _ _ (by decide)]
          refine ⟨(hdone r hr).1, ?_⟩
          rw [sI_ne1 _ _ _ _ (by decide), sI_ne1 _ _ _ _ (by decide), sI_ne1 _ _ _ _ (by decide), sI_ne2 _ _ _ _ (hno r hr)]
          exact (hdone r hr).2
        · rw [sI_ne1 _ _ _ _ (by decide), sI_ne1 _ _ _ _ (by decide), sI_ne1 _ _ _ _ (by decide), sI_same, hnew]
        · rw [sI_ne1 _ _ _ _ (by decide), sI_ne1 _ _ _ _ (by decide), sI_ne1 _ _ _ _ (by decide), sI_ne1 _ _ _ _ (by decide)]
          exact hrest r h1 h2
        · rw [sI_ne1 _ _ _ _ (by decide), sI_ne1 _ _ _ _ (by decide), sI_ne1 _ _ _ _ (by decide), sI_ne2 _ _ _ _ (fun z => hk i (by omega) z.symm)]
          exact hfresh y hy (fun k hk2 => hk k (by omega))
        · by_cases e : x = i
          · subst e
            refine ⟨by rw [sI_ne1 _ _ _ _ (by decide), sI_ne1 _ _ _ _ (by decide), sI_same], ?_⟩
            rw [sI_ne1 _ _ _ _ (by decide), sI_same]
            have e0 : cnH x hp x = 0 := by
              show cntB _ x = 0
              rw [cntB_more (n := 0) (m := x) (by omega) (fun k _ hk => decide_eq_false (fun z => by
                have := (hcs k).1
                omega))]
              rfl
            rw [e0]; rfl
          · have ne : rk hp x ≠ rk hp i := fun z => e (rk_inj hh hnew z)
            obtain ⟨q1, q2⟩ := hleast x (by omega) hh
            exact ⟨by rw [sI_ne1 _ _ _ _ (by decide), sI_ne1 _ _ _ _ (by decide), sI_ne2 _ _ _ _ ne, sI_ne1 _ _ _ _ (by decide)]; exact q1, by rw [sI_ne1 _ _ _ _ (by decide), sI_ne2 _ _ _ _ ne, sI_ne1 _ _ _ _ (by decide), sI_ne1 _ _ _ _ (by decide)]; exact q2⟩
      · -- a known one
        have hlt : hp i < i := by omega
        have ek : G4.1 17 (f i) = nI (rk hp (hp i)) := by
          have h1 := (hdone (hp i) hlt).2
          rw [s2, hci i] at h1
          exact h1
        have hrk := rk_bd hp (hp i)
        refine ⟨fun _ => ⟨hfe, by rw [rk_f hnew]; exact hnum, hdone, ek, hrest, fun y hy hk => hfresh y hy (fun k hk2 => hk k (by omega)), fun x hx hh => ?_⟩, fun z => absurd (by rw [← ek]; exact z) (nI_m1 (k := rk hp (hp i)) (by omega))⟩
        have ne : x ≠ i := fun z => hnew (by rw [← z]; exact hh)
        exact hleast x (by omega) hh
end HCs
