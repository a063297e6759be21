/-! how long settling may take, and where it ends -/
def W2 (n : Nat) (D : Nat → Nat → Nat) (T : Nat) (mu : Nat → Nat → Nat) (hp : Nat → Nat) : Int := sm (fun a => sm (fun b => if a = b then 0 else if hp a = hp b then (cT D T mu a b : Int) else (cA D T mu a b : Int)) n) n
def CC (n : Nat) (D : Nat → Nat → Nat) (T : Nat) (mu : Nat → Nat → Nat) : Int := sm (fun a => sm (fun b => if a = b then 0 else (cA D T mu a b : Int)) n) n
theorem W2_OO (n : Nat) (D : Nat → Nat → Nat) (T : Nat) (mu : Nat → Nat → Nat) (hp : Nat → Nat) : W2 n D T mu hp = CC n D T mu + OO n (gn D T mu) hp := by
  unfold W2 CC OO
  rw [← sm_add]
  refine sm_congr (fun a _ => ?_)
  rw [← sm_add]
  refine sm_congr (fun b _ => ?_)
  unfold tO gn
  by_cases e : a = b
  · rw [if_pos e, if_pos e, if_pos e]; rfl
  · rw [if_neg e, if_neg e, if_neg e]
    by_cases e2 : hp a = hp b
    · rw [if_pos e2, if_pos e2]; omega
    · rw [if_neg e2, if_neg e2]; omega
theorem W2_bd {n : Nat} {D : Nat → Nat → Nat} {T : Nat} {mu : Nat → Nat → Nat} (hE : eOK n D T mu) (hp : Nat → Nat) : 0 ≤ W2 n D T mu hp ∧ W2 n D T mu hp ≤ 1676800 := by
  have hn := hE.1
  refine ⟨sm_nn (fun a _ => sm_nn (fun b _ => ?_)), ?_⟩
  · split
    · omega
    · split <;> omega
  · have h1 := sm_bd (f := fun a => sm (fun b => if a = b then 0 else if hp a = hp b then (cT D T mu a b : Int) else (cA D T mu a b : Int)) n) (B := 41920) (n := n) (fun a ha => by
      have h2 := sm_bd (f := fun b => if a = b then 0 else if hp a = hp b then (cT D T mu a b : Int) else (cA D T mu a b : Int)) (B := 1048) (n := n) (fun b hb => by
        have := cT_le hE ha hb
        have := cA_le (a := a) (b := b) hE
        split
        · omega
        · split <;> omega)
      omega)
    unfold W2
    omega
theorem W2_nxt {n : Nat} {D : Nat → Nat → Nat} {T : Nat} {mu : Nat → Nat → Nat} (hE : eOK n D T mu) {hp : Nat → Nat} (hO : hOK n hp) (hb : (best n (gn D T mu) hp).1 < 0) : W2 n D T mu (nxt n (gn D T mu) hp) = W2 n D T mu hp + 2 * (best n (gn D T mu) hp).1 := by
  rw [W2_OO, W2_OO, OO_nxt (g := gn D T mu) hO (fun a b ha hb => gn_symm hE ha hb) hb]
  omega
def itN (n : Nat) (g : Nat → Nat → Int) : Nat → (Nat → Nat) → (Nat → Nat)
  | 0, hp => hp
  | k + 1, hp => nxt n g (itN n g k hp)
def stl (n : Nat) (g : Nat → Nat → Int) (hp hp' : Nat → Nat) (c : Nat) : Prop := itN n g c hp = hp' ∧ (∀ i, i < c → (best n g (itN n g i hp)).1 < 0) ∧ ¬ (best n g hp').1 < 0
theorem stl_uniq {n : Nat} {g : Nat → Nat → Int} {hp h1 h2 : Nat → Nat} {c1 c2 : Nat} (s1 : stl n g hp h1 c1) (s2 : stl n g hp h2 c2) : h1 = h2 ∧ c1 = c2 := by
  have e : c1 = c2 := by
    rcases Nat.lt_trichotomy c1 c2 with h | h | h
    · exact absurd (s2.2.1 c1 h) (by rw [s1.1]; exact s1.2.2)
    · exact h
    · exact absurd (s1.2.1 c2 h) (by rw [s2.1]; exact s2.2.2)
  subst e
  exact ⟨s1.1.symm.trans s2.1, rfl⟩
noncomputable def setl (n : Nat) (g : Nat → Nat → Int) (hp : Nat → Nat) : (Nat → Nat) × Nat := Classical.epsilon (fun p : (Nat → Nat) × Nat => stl n g hp p.1 p.2)
theorem setl_eq {n : Nat} {g : Nat → Nat → Int} {hp hp' : Nat → Nat} {c : Nat} (h : stl n g hp hp' c) : setl n g hp = (hp', c) := by
  have h1 : stl n g hp (setl n g hp).1 (setl n g hp).2 := Classical.epsilon_spec (p := fun p : (Nat → Nat) × Nat => stl n g hp p.1 p.2) ⟨(hp', c), h⟩
  obtain ⟨e1, e2⟩ := stl_uniq h1 h
  exact Prod.ext e1 e2
theorem nxt_hOK {n : Nat} {g : Nat → Nat → Int} {hp : Nat → Nat} (hn : n ≤ 40) : hOK n (nxt n g hp) := canon_hOK _ hn
theorem itN_hOK {n : Nat} {g : Nat → Nat → Int} {hp : Nat → Nat} (h : hOK n hp) : ∀ k, hOK n (itN n g k hp)
  | 0 => h
  | k + 1 => nxt_hOK h.1
section HS
variable {G : GS} {n : Nat} {D : Nat → Nat → Nat} {T : Nat} {mu : Nat → Nat → Nat} {hp : Nat → Nat}
theorem s_X7_findBest (hE : eOK n D T mu) (hM : eM n D T mu G) (hH : hpM n hp G) (hO : hOK n hp) {post : GS → Prop} (h : ∀ G', bM (best n (gn D T mu) hp) G' → fe (fun a k => a = 7 ∧ 22 ≤ k ∧ k ≤ 25) G G' → post G') : wp_X7_findBest G post := by
  have hn := hE.1
  unfold wp_X7_findBest
  rintro G1 rfl
  refine ⟨fun m v G2 => ∃ i, i ≤ n ∧ m = n - i ∧ v = nI i ∧ fe (fun a k => a = 7 ∧ 22 ≤ k ∧ k ≤ 25) G G2 ∧ bM (lp (stA n (gn D T mu) hp) i (0, 0, 0, false)) G2, ⟨n, 0, by omega, by omega, rfl, fe.sI ⟨rfl, by omega, by omega⟩, ⟨by rw [sI_same]; rfl, fun hc => absurd hc (by show ¬ (0 : Int) < 0; omega)⟩⟩, ?_⟩
  rintro m v G2 ⟨i, hi, rfl, rfl, hfe, hB⟩
  have hM2 : eM n D T mu G2 := hM.fe hfe (by omega) (by omega) (fun k => by omega) (fun k => by omega)
  have hH2 : hpM n hp G2 := hH.fe hfe (fun k => by omega)
  refine pk_le n i (fun c => ?_) (fun c => ?_) hM2.1
  · have e : i = n := by omega
    subst e
    -- MELTINGS
    refine ⟨fun m v G3 => ∃ a, a ≤ i ∧ m = i - a ∧ v = nI a ∧ fe (fun a k => a = 7 ∧ 22 ≤ k ∧ k ≤ 25) G G3 ∧ bM (lp (stL i (gn D T mu) hp) a (lp (stA i (gn D T mu) hp) i (0, 0, 0, false))) G3, ⟨i, 0, by omega, by omega, rfl, hfe, hB⟩, ?_⟩
    rintro m3 v3 G3 ⟨a, ha, rfl, rfl, hfe3, hB3⟩
    have hM3 : eM i D T mu G3 := hM.fe hfe3 (by omega) (by omega) (fun k => by omega) (fun k => by omega)
    refine pk_le i a (fun c2 => ?_) (fun c2 => ?_) hM3.1
    · have e : a = i := by omega
      subst e
      exact h G3 hB3 hfe3
    · rintro y rfl
      have hV3 : bV i (gn D T mu) hp (lp (stL i (gn D T mu) hp) a (lp (stA i (gn D T mu) hp) i (0, 0, 0, false))) := lp_inv (lpA_V (Nat.le_refl _)) (fun k hk c hc => lp_inv hc (fun j hj d hd => stG_V hj hd))
      generalize hb0 : lp (stL i (gn D T mu) hp) a (lp (stA i (gn D T mu) hp) i (0, 0, 0, false)) = b0 at hB3 hV3
      refine ⟨fun m v G4 => ∃ j, a < j ∧ j ≤ i ∧ m = i - j ∧ v = nI j ∧ fe (fun a k => a = 7 ∧ 22 ≤ k ∧ k ≤ 25) G G4 ∧ bM (lp (stG i (gn D T mu) hp a) j b0) G4, ⟨i - (a + 1), a + 1, by omega, by omega, rfl, nI_1 _, hfe3, ?_⟩, ?_⟩
      · rw [lp_skip (h := 0) (by omega) (fun x _ hx c => by unfold stG; rw [if_neg (by omega)])]
        exact hB3
      · rintro m4 v4 G4 ⟨j, haj, hj, rfl, rfl, hfe4, hB4⟩
        have hM4 : eM i D T mu G4 := hM.fe hfe4 (by omega) (by omega) (fun k => by omega) (fun k => by omega)
        have hH4 : hpM i hp G4 := hH.fe hfe4 (fun k => by omega)
        have hV4 : bV i (gn D T mu) hp (lp (stG i (gn D T mu) hp a) j b0) := lp_inv hV3 (fun k hk d hd => stG_V (by omega) hd)
        refine pk_le i j (fun c3 => ?_) (fun c3 => ?_) hM4.1
        · have e : j = i := by omega
          subst e
          refine ⟨j - (a + 1), by omega, a + 1, by omega, rfl, nI_1 _, hfe4, ?_⟩
          rw [lp_s, hb0]
          exact hB4
        · have skip : ¬ (a < j ∧ hp a = a ∧ hp j = j) → ∃ k, k < i - j ∧ ∃ j', a < j' ∧ j' ≤ i ∧ k = i - j' ∧ nI j + 1 = nI j' ∧ fe (fun a k => a = 7 ∧ 22 ≤ k ∧ k ≤ 25) G G4 ∧ bM (lp (stG i (gn D T mu) hp a) j' b0) G4 := fun hc => ⟨i - (j + 1), by omega, j + 1, by omega, by omega, rfl, nI_1 _, hfe4, by
            rw [lp_s]
            unfold stG
            rw [if_neg hc]
            exact hB4⟩
          have hpa := (hO.2 a (by omega)).1
          have hpj := (hO.2 j (by omega)).1
          refine ⟨a, by omega, rfl, ?_⟩
          refine pk_ne (hp a) a (fun c4 => ?_) (fun c4 => ?_) (hH4 a (by omega))
          · exact skip (fun z => c4 z.2.1)
          · refine ⟨j, by omega, rfl, ?_⟩
            refine pk_ne (hp j) j (fun c5 => ?_) (fun c5 => ?_) (hH4 j (by omega))
            · exact skip (fun z => c5 z.2.2)
            · refine s_X7_melted hE hM4 hH4 hO (show a < i by omega) (show j < i by omega) ?_
              refine s_X7_asks hB4 (bV_bd hE hV4) (ml_bd hE) (w := a) (t := j) (m := true) rfl rfl rfl (fun G5 hB5 hfe5 => ?_)
              refine ⟨i - (j + 1), by omega, j + 1, by omega, by omega, rfl, nI_1 _, hfe4.tr hfe5, ?_⟩
              rw [lp_s]
              unfold stG
              rw [if_pos ⟨haj, c4, c5⟩]
              exact hB5
  · -- MOVES of REPORT i
    have hV : bV n (gn D T mu) hp (lp (stA n (gn D T mu) hp) i (0, 0, 0, false)) := lpA_V hi
    generalize hb0 : lp (stA n (gn D T mu) hp) i (0, 0, 0, false) = b0 at hB hV
    have hpi := (hO.2 i (by omega)).1
    refine ⟨fun m v G4 => ∃ j, j ≤ n ∧ m = n - j ∧ v = nI j ∧ fe (fun a k => a = 7 ∧ 22 ≤ k ∧ k ≤ 25) G G4 ∧ bM (lp (stM n (gn D T mu) hp i) j b0) G4, ⟨n, 0, by omega, by omega, rfl, hfe, hB⟩, ?_⟩
    rintro m4 v4 G4 ⟨j, hj, rfl, rfl, hfe4, hB4⟩
    have hM4 : eM n D T mu G4 := hM.fe hfe4 (by omega) (by omega) (fun k => by omega) (fun k => by omega)
    have hH4 : hpM n hp G4 := hH.fe hfe4 (fun k => by omega)
    have hV4 : bV n (gn D T mu) hp (lp (stM n (gn D T mu) hp i) j b0) := lp_inv hV (fun k hk d hd => stM_V (by omega) (by omega) hd)
    refine pk_le n j (fun c3 => ?_) (fun c3 => ?_) hM4.1
    · have e : j = n := by omega
      subst e
      refine ⟨i, by omega, rfl, ?_⟩
      rw [hH4 i (by omega)]
      have hcn := cntB_le (fun k => decide (hp k = hp i)) j
      refine s_X7_inHeap hM4.1 hn hH4 (fun r hr => by have := (hO.2 r hr).1; omega) (show hp i ≤ 100 by omega) ?_
      refine pk_le (cnH j hp (hp i)) 1 (fun c4 => ?_) (fun c4 => ?_) rfl rfl (by unfold cnH; omega)
      · refine ⟨j - (i + 1), by omega, i + 1, by omega, rfl, nI_1 _, hfe4, ?_⟩
        rw [lp_s, hb0]
        unfold stA
        rw [if_neg (by omega)]
        exact hB4
      · refine s_X7_moved hE hM4 hH4 hO (show i < j by omega) (h := 100) (by omega) ?_
        refine s_X7_asks hB4 (bV_bd hE hV4) (by have := mv_bd (hp := hp) (h := 100) hE (show i < j by omega); omega) (w := i) (t := 100) (m := false) rfl rfl rfl (fun G5 hB5 hfe5 => ?_)
        refine ⟨j - (i + 1), by omega, i + 1, by omega, rfl, nI_1 _, hfe4.tr hfe5, ?_⟩
        rw [lp_s, hb0]
        unfold stA
        rw [if_pos c4]
        exact hB5
    · have skip : ¬ (hp j = j ∧ j ≠ hp i) → ∃ k, k < n - j ∧ ∃ j', j' ≤ n ∧ k = n - j' ∧ nI j + 1 = nI j' ∧ fe (fun a k => a = 7 ∧ 22 ≤ k ∧ k ≤ 25) G G4 ∧ bM (lp (stM n (gn D T mu) hp i) j' b0) G4 := fun hc => ⟨n - (j + 1), by omega, j + 1, by omega, rfl, nI_1 _, hfe4, by
        rw [lp_s]
        unfold stM
        rw [if_neg hc]
        exact hB4⟩
      have hpj := (hO.2 j (by omega)).1
      refine ⟨j, by omega, rfl, ?_⟩
      refine pk_ne (hp j) j (fun c4 => ?_) (fun c4 => ?_) (hH4 j (by omega))
      · exact skip (fun z => c4 z.1)
      · refine ⟨i, by omega, rfl, ?_⟩
        refine pk_eq j (hp i) (fun c5 => ?_) (fun c5 => ?_) rfl (hH4 i (by omega))
        · exact skip (fun z => z.2 c5)
        · refine s_X7_moved hE hM4 hH4 hO (show i < n by omega) (h := j) (by omega) ?_
          refine s_X7_asks hB4 (bV_bd hE hV4) (by have := mv_bd (hp := hp) (h := j) hE (show i < n by omega); omega) (w := i) (t := j) (m := false) rfl rfl rfl (fun G5 hB5 hfe5 => ?_)
          refine ⟨n - (j + 1), by omega, j + 1, by omega, rfl, nI_1 _, hfe4.tr hfe5, ?_⟩
          rw [lp_s]
          unfold stM
          rw [if_pos ⟨c4, c5⟩]
          exact hB5
/-- the names put right -/
theorem s_X7_names {f : Nat → Nat} (hN : G.1 7 5 = nI n) (hn : n ≤ 40) (hH : hpM n f G) (hf : ∀ r, r < n → f r ≤ 100) {post : GS → Prop} (h : ∀ G', hpM n (canon f) G' → fe (fun a _ => a = 26 ∨ a = 32) G G' → post G') : wp_X7_names G post := by
  unfold wp_X7_names
  refine ⟨fun m v G1 => ∃ i, i ≤ n ∧ m = n - i ∧ v = nI i ∧ fe (fun a _ => a = 32) G G1 ∧ ∀ r, r < i → G1.1 32 r = nI (canon f r), ⟨n, 0, by omega, by omega, rfl, fe.rf, fun r hr => absurd hr (by omega)⟩, ?_⟩
  rintro m v G1 ⟨i, hi, rfl, rfl, hfe, hdone⟩
  have hH1 : hpM n f G1 := hH.fe hfe (fun k => by omega)
  refine pk_le n i (fun c => ?_) (fun c => ?_) (by rw [hfe.i (by omega)]; exact hN)
  · have e : i = n := by omega
    subst e
    refine ⟨fun m v G2 => ∃ j, j ≤ i ∧ m = i - j ∧ v = nI j ∧ fe (fun a _ => a = 26) G1 G2 ∧ ∀ r, r < j → G2.1 26 r = nI (canon f r), ⟨i, 0, by omega, by omega, rfl, fe.rf, fun r hr => absurd hr (by omega)⟩, ?_⟩
    rintro m2 v2 G2 ⟨j, hj, rfl, rfl, hfe2, hd2⟩
    refine pk_le i j (fun c2 => ?_) (fun c2 => ?_) (by rw [hfe2.i (by omega), hfe.i (by omega)]; exact hN)
    · exact h G2 (fun r hr => hd2 r (by omega)) ((hfe.mono (fun a k z => Or.inr z)).tr (hfe2.mono (fun a k z => Or.inl z)))
    · refine ⟨j, by omega, rfl, j, by omega, rfl, ?_⟩
      rintro G7 rfl
      refine ⟨i - (j + 1), by omega, j + 1, by omega, rfl, nI_1 _, hfe2.tr (fe.sI rfl), fun r hr => ?_⟩
      by_cases e : r = j
      · rw [e, sI_same, hfe2.i (by omega)]
        exact hdone j (by omega)
      · rw [sI_ne2 _ _ _ _ e]
        exact hd2 r (by omega)
  · obtain ⟨k1, k2, k3⟩ := canon_spec f i
    refine ⟨fun m v => ∃ k, k ≤ canon f i ∧ m = canon f i - k ∧ v = nI k, ⟨canon f i, 0, by omega, by omega, rfl⟩, ?_⟩
    rintro m2 v2 ⟨k, hk, rfl, rfl⟩
    have f1 := hf k (by omega)
    have f2 := hf i (by omega)
    refine ⟨k, by omega, rfl, i, by omega, rfl, ?_⟩
    refine pk_eq (f k) (f i) (fun c2 => ?_) (fun c2 => ?_) (hH1 k (by omega)) (hH1 i (by omega))
    · have e : canon f i = k := canon_of c2 (fun j hj => k3 j (by omega))
      refine ⟨i, by omega, rfl, ?_⟩
      rintro G15 rfl
      refine ⟨n - (i + 1), by omega, i + 1, by omega, rfl, nI_1 _, hfe.tr (fe.sI rfl), fun r hr => ?_⟩
      by_cases e2 : r = i
      · rw [e2, sI_same, e]
      · rw [sI_ne2 _ _ _ _ e2]
        exact hdone r (by omega)
    · have hne : k ≠ canon f i := fun z => c2 (by rw [z]; exact k2)
      exact ⟨canon f i - (k + 1), by omega, k + 1, by omega, rfl, nI_1 _⟩
end HS
