/-! the reference settles -/
section HT
variable {G : GS} {n : Nat} {sz : Nat → Nat} {rw_ : Nat → Nat → Nat} {ver : Nat → Nat} {fx : Nat → Int32} {T : Nat} {mu : Nat → Nat → Nat} {hp : Nat → Nat}
theorem dist_eOK (hR : rOK n sz rw_) (hT : T ≤ 40) (hmu : ∀ a b, mu a b ≤ 2 ∧ mu a b = mu b a) : eOK n (dist n sz rw_) T mu := ⟨hR.1, hT, fun a b ha hb => ⟨dist_le hR ha hb, dL_symm _ _⟩, hmu⟩
theorem app_le {D : Nat → Nat → Nat} {b : BS} (hO : hOK n hp) (hV : bV n (gn D T mu) hp b) (hb : b.1 < 0) {r : Nat} (hr : r < n) : app b hp r ≤ 100 := by
  have h1 := (hO.2 r hr).1
  have h2 := hO.1
  unfold app
  rcases hV.2 hb with ⟨e1, e2, -, e3⟩ | ⟨e1, e2, e3, -⟩
  · rw [e1]
    show (if r = b.2.1 then b.2.2.1 else hp r) ≤ 100
    split <;> omega
  · rw [e1]
    show (if hp r = b.2.2.1 then b.2.1 else hp r) ≤ 100
    split <;> omega
def mP (a k : Nat) : Prop := (a = 7 ∧ (k = 13 ∨ k = 14 ∨ k = 20 ∨ (22 ≤ k ∧ k ≤ 25))) ∨ (26 ≤ a ∧ a ≤ 30) ∨ a = 32 ∨ a = 37
theorem s_X7_settles (hM : rM n sz rw_ ver fx G) (hR : rOK n sz rw_) (hT : T ≤ 40) (hT18 : G.1 7 18 = nI T) (hmu : ∀ a b, mu a b ≤ 2 ∧ mu a b = mu b a) (h31 : ∀ a b, a < 40 → b < 40 → G.1 31 (40 * a + b) = nI (mu a b)) (hH : hpM n hp G) (hO : hOK n hp) {post : GS → Prop} (h : ∀ G', dM n sz rw_ G' → hpM n (setl n (gn (dist n sz rw_) T mu) hp).1 G' → hOK n (setl n (gn (dist n sz rw_) T mu) hp).1 → G'.1 7 20 = G.1 7 20 + nI (setl n (gn (dist n sz rw_) T mu) hp).2 → fe mP G G' → post G') : wp_X7_settles G post := by
  have hE : eOK n (dist n sz rw_) T mu := dist_eOK hR hT hmu
  have hn := hR.1
  unfold wp_X7_settles
  refine s_X7_findDistances hM hR (fun G1 hd1 hfe1 => ?_)
  have hfm1 : fe mP G G1 := hfe1.mono (fun a k z => by unfold mP; omega)
  have hM1 : eM n (dist n sz rw_) T mu G1 := ⟨by rw [hfe1.i (by omega)]; exact hM.1, by rw [hfe1.i (by omega)]; exact hT18, hd1, fun a b ha hb => by rw [hfe1.i (by omega)]; exact h31 a b ha hb⟩
  have hH1 : hpM n hp G1 := hH.fe hfe1 (fun k => by omega)
  have h20 : G1.1 7 20 = G.1 7 20 := hfe1.i (by omega)
  generalize hg : gn (dist n sz rw_) T mu = g at h
  refine s_X7_findBest hE hM1 hH1 hO (fun G3 hB3 hfe3 => ?_)
  rw [hg] at hB3
  refine ⟨fun m G5 => ∃ k, m = (W2 n (dist n sz rw_) T mu (itN n g k hp)).toNat ∧ (∀ i, i < k → (best n g (itN n g i hp)).1 < 0) ∧ hpM n (itN n g k hp) G5 ∧ bM (best n g (itN n g k hp)) G5 ∧ G5.1 7 20 = G.1 7 20 + nI k ∧ fe (fun a k => (a = 7 ∧ (k = 20 ∨ (22 ≤ k ∧ k ≤ 25))) ∨ a = 26 ∨ a = 32) G1 G5, ⟨_, 0, rfl, fun i hi => absurd hi (by omega), hH1.fe hfe3 (fun k => by omega), hB3, ?_, hfe3.mono (fun a k z => by omega)⟩, ?_⟩
  · rw [hfe3.i (by omega), h20]
    exact (Int32.add_zero _).symm
  rintro m G5 ⟨k, rfl, hneg, hHk, hBk, hck, hfe5⟩
  have hOk : hOK n (itN n g k hp) := itN_hOK hO k
  have hVk : bV n g (itN n g k hp) (best n g (itN n g k hp)) := best_V n g _
  have hM5 : eM n (dist n sz rw_) T mu G5 := hM1.fe hfe5 (by omega) (by omega) (fun k => by omega) (fun k => by omega)
  have hbd := bV_bd (n := n) (D := dist n sz rw_) (T := T) (mu := mu) (hp := itN n g k hp) hE (by rw [hg]; exact hVk)
  rw [hBk.1, show (0 : Int32) = iI 0 from rfl, iI_le (by omega) (by omega)]
  refine ⟨fun c => ?_, fun c => ?_⟩
  · have hst : stl n g hp (itN n g k hp) k := ⟨rfl, hneg, by omega⟩
    rw [setl_eq hst] at h
    exact h G5 (fun a b ha hb => hM5.2.2.1 a b ha hb) hHk hOk hck (hfm1.tr (hfe5.mono (fun a k z => by unfold mP; omega)))
  · have hb : (best n g (itN n g k hp)).1 < 0 := by omega
    obtain ⟨b1, b2, b3⟩ := hBk.2 hb
    have hle : ∀ r, r < n → app (best n g (itN n g k hp)) (itN n g k hp) r ≤ 100 := fun r hr => app_le (D := dist n sz rw_) (T := T) (mu := mu) hOk (by rw [hg]; exact hVk) hb hr
    have hV2 := hVk.2 hb
    have hit : itN n g (k + 1) hp = canon (app (best n g (itN n g k hp)) (itN n g k hp)) := rfl
    have hW := W2_nxt (n := n) (D := dist n sz rw_) (T := T) (mu := mu) hE hOk (by rw [hg]; exact hb)
    rw [hg] at hW
    have hW : W2 n (dist n sz rw_) T mu (itN n g (k + 1) hp) = W2 n (dist n sz rw_) T mu (itN n g k hp) + 2 * (best n g (itN n g k hp)).1 := hW
    have hw1 := W2_bd hE (itN n g k hp)
    have hw2 := W2_bd hE (itN n g (k + 1) hp)
    have hnegk : ∀ i, i < k + 1 → (best n g (itN n g i hp)).1 < 0 := fun i hi => by
      by_cases e : i = k
      · rw [e]; exact hb
      · exact hneg i (by omega)
    have hmt : (W2 n (dist n sz rw_) T mu (itN n g (k + 1) hp)).toNat < (W2 n (dist n sz rw_) T mu (itN n g k hp)).toNat := by omega
    clear hW hw1 hw2 hbd hVk hneg
    generalize hbb : best n g (itN n g k hp) = b at hb b1 b2 b3 hle hV2 hit
    generalize hhk : itN n g k hp = hk at hHk hOk hle hV2 hit hmt
    refine ⟨fun m v G7 => ∃ i, i ≤ n ∧ m = n - i ∧ v = nI i ∧ fe (fun a _ => a = 26) G5 G7 ∧ (∀ r, r < i → G7.1 26 r = nI (app b hk r)) ∧ ∀ r, i ≤ r → r < n → G7.1 26 r = nI (hk r), ⟨n, 0, by omega, by omega, rfl, fe.rf, fun r hr => absurd hr (by omega), fun r _ hr => hHk r hr⟩, ?_⟩
    rintro m7 v7 G7 ⟨i, hi, rfl, rfl, hfe7, hlo, hhi⟩
    refine pk_le n i (fun c7 => ?_) (fun c7 => ?_) (by rw [hfe7.i (by omega)]; exact hM5.1)
    · have e : i = n := by omega
      subst e
      refine s_X7_names (f := app b hk) (by rw [hfe7.i (by omega)]; exact hM5.1) hn (fun r hr => hlo r hr) hle (fun G9 hH9 hfe9 => ?_)
      rintro G11 rfl
      have hfe11 : fe (fun a k => (a = 7 ∧ (k = 20 ∨ (22 ≤ k ∧ k ≤ 25))) ∨ a = 26 ∨ a = 32) G1 (sI G9 7 20 (G9.1 7 20 + 1)) := ((hfe5.tr (hfe7.mono (fun a k z => by omega))).tr (hfe9.mono (fun a k z => by omega))).tr (fe.sI (by omega))
      have hM11 : eM i (dist i sz rw_) T mu (sI G9 7 20 (G9.1 7 20 + 1)) := hM1.fe hfe11 (by omega) (by omega) (fun k => by omega) (fun k => by omega)
      have hH11 : hpM i (canon (app b hk)) (sI G9 7 20 (G9.1 7 20 + 1)) := hH9.fe (P := fun a k => a = 7 ∧ k = 20) (fe.sI ⟨rfl, rfl⟩) (fun k => by omega)
      refine s_X7_findBest hE hM11 hH11 (canon_hOK _ hn) (fun G12 hB12 hfe12 => ?_)
      rw [hg] at hB12
      refine ⟨_, hmt, k + 1, rfl, hnegk, by rw [hit]; exact hH11.fe hfe12 (fun k => by omega), by rw [hit]; exact hB12, ?_, hfe11.tr (hfe12.mono (fun a k z => by omega))⟩
      rw [hfe12.i (by omega), sI_same, hfe9.i (by omega), hfe7.i (by omega), hck, Int32.add_assoc, nI_1]
    · have e23 : G7.1 7 23 = nI b.2.1 := by rw [hfe7.i (by omega)]; exact b1
      have e24 : G7.1 7 24 = nI b.2.2.1 := by rw [hfe7.i (by omega)]; exact b2
      have e25 : G7.1 7 25 = bI b.2.2.2 := by rw [hfe7.i (by omega)]; exact b3
      have stay : app b hk i = hk i → ∃ k_18, k_18 < n - i ∧ ∃ i', i' ≤ n ∧ k_18 = n - i' ∧ nI i + 1 = nI i' ∧ fe (fun a _ => a = 26) G5 G7 ∧ (∀ r, r < i' → G7.1 26 r = nI (app b hk r)) ∧ ∀ r, i' ≤ r → r < n → G7.1 26 r = nI (hk r) := fun e => ⟨n - (i + 1), by omega, i + 1, by omega, rfl, nI_1 _, hfe7, fun r hr => by
          by_cases e2 : r = i
          · rw [e2, e]; exact hhi i (by omega) (by omega)
          · exact hlo r (by omega), fun r h1 h2 => hhi r (by omega) h2⟩
      have put : ∀ x, x = nI (app b hk i) → ∃ j79 : Nat, j79 < 40 ∧ nI i = nI j79 ∧ (∀ G_21 : GS, G_21 = sI G7 26 j79 x → ∃ k_18, k_18 < n - i ∧ ∃ i', i' ≤ n ∧ k_18 = n - i' ∧ nI i + 1 = nI i' ∧ fe (fun a _ => a = 26) G5 G_21 ∧ (∀ r, r < i' → G_21.1 26 r = nI (app b hk r)) ∧ ∀ r, i' ≤ r → r < n → G_21.1 26 r = nI (hk r)) := fun x hx => by
        refine ⟨i, by omega, rfl, ?_⟩
        rintro G21 rfl
        refine ⟨n - (i + 1), by omega, i + 1, by omega, rfl, nI_1 _, hfe7.tr (fe.sI rfl), fun r hr => ?_, fun r h1 h2 => ?_⟩
        · by_cases e2 : r = i
          · rw [e2, sI_same]; exact hx
          · rw [sI_ne2 _ _ _ _ e2]; exact hlo r (by omega)
        · rw [sI_ne2 _ _ _ _ (by omega)]; exact hhi r (by omega) h2
      have hki := (hOk.2 i (by omega)).1
      rw [e25]
      rcases hV2 with ⟨m0, w0, -, t0⟩ | ⟨m0, w0, t0, -⟩
      · rw [m0]
        refine ⟨fun _ => ?_, fun z => absurd rfl z⟩
        refine pk_ne i b.2.1 (fun c8 => ?_) (fun c8 => ?_) rfl e23
        · refine stay ?_
          unfold app
          rw [m0]
          show (if i = b.2.1 then b.2.2.1 else hk i) = _
          rw [if_neg c8]
        · refine ⟨fun _ => put _ ?_, fun z => absurd rfl z⟩
          rw [e24]
          unfold app
          rw [m0]
          show _ = nI (if i = b.2.1 then b.2.2.1 else hk i)
          rw [if_pos c8]
      · rw [m0]
        refine ⟨fun z => absurd z (by decide), fun _ => ?_⟩
        refine ⟨i, by omega, rfl, ?_⟩
        refine pk_ne (hk i) b.2.2.1 (fun c8 => ?_) (fun c8 => ?_) (hhi i (Nat.le_refl _) (by omega)) e24
        · refine stay ?_
          unfold app
          rw [m0]
          show (if hk i = b.2.2.1 then b.2.1 else hk i) = _
          rw [if_neg c8]
        · refine ⟨fun z => absurd z (by decide), fun _ => put _ ?_⟩
          rw [e23]
          unfold app
          rw [m0]
          show _ = nI (if hk i = b.2.2.1 then b.2.1 else hk i)
          rw [if_pos c8]
end HT
