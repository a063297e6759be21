section OP5
variable {G : GS} {nv : Nat} {par : Nat → Nat} {beh : Nat → Nat → Bool} {tn : Nat} {tf : Nat → Nat} {n : Nat} {sz : Nat → Nat} {rw_ : Nat → Nat → Nat} {ver : Nat → Nat} {fx : Nat → Int32} {T : Nat} {mu : Nat → Nat → Nat} {hp : Nat → Nat} {ch : Int32} {sn : Nat} {sf : Nat → Nat}
theorem foldS_dec {s : Nat × (Nat → Nat)} (h : (fold1 s.1 s.2).isSome = true) : (foldS s).1 + 1 ≤ s.1 := by
  obtain ⟨i, hi⟩ := Option.isSome_iff_exists.mp h
  have := fold1_len hi
  unfold foldS
  rw [hi]
  show s.1 - i / 20 + 1 ≤ s.1
  omega
theorem foldS_no {s : Nat × (Nat → Nat)} (h : (fold1 s.1 s.2).isSome = false) : foldS s = s ∧ fold1 s.1 s.2 = none := by
  have e : fold1 s.1 s.2 = none := by simpa using h
  exact ⟨by unfold foldS; rw [e]; rfl, e⟩
/-- a REPORT more: the reference's ROW and its rows -/
theorem KA.more {m : Nat} {f : Nat → Nat} {v : Nat} (hA : KA nv par beh n sz rw_ ver fx T mu hp) (hn : n < 40) (hm : m ≤ 12) (hf : ∀ k, k < m → f k ≤ 500) (hv : v < nv) : KA nv par beh (n + 1) (xt n sz m) (xt n rw_ f) (xt n ver v) (xt n fx (-1)) T mu (xt n hp n) := by
  obtain ⟨k1, k2, k3, k4, k5, k6⟩ := hA
  refine ⟨k1, ⟨by omega, fun r hr => ?_⟩, fun r hr => ?_, k4, k5, by omega, fun r hr => ?_⟩
  · by_cases e : r = n
    · subst e; rw [xt_n, xt_n]; exact ⟨hm, hf⟩
    · rw [xt_o e, xt_o e]; exact k2.2 r (by omega)
  · by_cases e : r = n
    · subst e; rw [xt_n, xt_n]; exact ⟨hv, Or.inl rfl⟩
    · rw [xt_o e, xt_o e]; exact k3 r (by omega)
  · by_cases e : r = n
    · subst e; rw [xt_n, xt_n]; exact ⟨Nat.le_refl _, rfl⟩
    · have := (k6.2 r (by omega)).1
      rw [xt_o e, xt_o (by omega)]; exact k6.2 r (by omega)
theorem op_report (hI : Inv G) (x : Int32) : wp_X6_report G x (fun r G1 => wp_X7_report G1 x (fun r' G2 => r = r' ∧ Inv G2)) := by
  obtain ⟨nv, par, beh, tn, tf, n, sz, rw_, ver, fx, T, mu, hp, ch, sn, sf, hA, hC, hM⟩ := hI
  have hn := hA.2.1.1
  have h30 := hA.1.2.1
  have hM0 := hM.t0 0
  have fin := Inv.mk0 hA hC hM 0
  have h12 := hC.2.1.1
  unfold wp_X6_report wp_X4_isEmpty
  refine pk_ne tn 0 (fun c => ?_) (fun c => ?_) hC.2.1.2.2.1
  rotate_left
  · refine ⟨fun _ => ?_, fun z => absurd z (by decide)⟩
    unfold wp_X7_report
    rintro G1 rfl
    rw [hM0.2.1.2.2.1, c]
    exact ⟨fun _ => ⟨rfl, fin⟩, fun z => absurd rfl z⟩
  refine ⟨fun z => absurd rfl z, fun _ => ?_⟩
  refine s_X5_has hC.1.1 (by omega) (bI_br (fun hb => ?_) (fun hb => ?_))
  · unfold wp_X7_report
    rintro G1 rfl
    refine ⟨fun z => absurd ((nI_eq (b := 0) (by omega) (by omega)).mp (hM0.2.1.2.2.1.symm.trans z)) c, fun _ => ?_⟩
    refine s_X7_isVersion hM0.1.1 (by omega) ?_
    rw [hb]
    exact ⟨fun _ => ⟨rfl, fin⟩, fun z => absurd rfl z⟩
  refine s_X3_isFull hC.2.2.1.1 hn (bI_br (fun hb2 => ?_) (fun hb2 => ?_))
  rotate_left
  · have e40 := of_decide_eq_true hb2
    unfold wp_X7_report
    rintro G1 rfl
    refine ⟨fun z => absurd ((nI_eq (b := 0) (by omega) (by omega)).mp (hM0.2.1.2.2.1.symm.trans z)) c, fun _ => ?_⟩
    refine s_X7_isVersion hM0.1.1 (by omega) ?_
    rw [hb]
    refine ⟨fun z => absurd z (by decide), fun _ => ?_⟩
    rw [hM0.2.2.1.1, e40]
    exact ⟨fun z => absurd rfl z, fun _ => ⟨rfl, fin⟩⟩
  have hn40 : n < 40 := by have := of_decide_eq_false hb2; omega
  obtain ⟨v, hv, rfl⟩ := inR_of hb
  refine s_X4_fold hC.2.1 (fun G1 hT1 hf1 => ?_)
  generalize hs : foldK 12 (tn, tf) = s at hT1
  obtain ⟨m, f⟩ := s
  dsimp only at hT1
  have hR2 : KA nv par beh (n + 1) (xt n sz m) (xt n rw_ f) (xt n ver v) (xt n fx (-1)) T mu (xt n hp n) := hA.more hn40 hT1.1 hT1.2.1 hv
  obtain ⟨a1, a2, a3, a4, a5, a6, a7, a8, a9⟩ := hC
  have a3' := a3.fe hn hf1.e (by omega) (fun a k h1 h2 => by omega) (fun k => by omega) (fun a k h1 h2 => by omega)
  refine s_X3_add a3' hA.2.1 hn40 hT1 (fun G2 hr2 hf2 => ?_)
  unfold wp_X4_clear
  rintro G3 rfl
  have hf3 : fe (fun a k => a = 1 ∧ k = 1) G2 (sI G2 1 1 0) := fe.sI ⟨rfl, rfl⟩
  have hr3 := hr2.fe hR2.2.1.1 hf3 (by omega) (fun a k h1 h2 => by omega) (fun k => by omega) (fun a k h1 h2 => by omega)
  have hd3 := ((a4.fe hn hf1.e (fun k => by omega) (fun a k h1 h2 => by omega)).fe hn hf2 (fun k => by omega) (fun a k h1 h2 => by omega)).fe hn hf3 (fun k => by omega) (fun a k h1 h2 => by omega)
  refine s_X0_renew hr3 hR2.2.1 (by omega) hd3 (fun G4 hd4 hf4 => ?_)
  have hh4 := (((a5.fe hf1.e (by omega) (by omega) (fun a k h1 h2 => by omega)).fe hf2 (by omega) (by omega) (fun a k h1 h2 => by omega)).fe hf3 (by omega) (by omega) (fun a k h1 h2 => by omega)).fe hf4.e (by omega) (by omega) (fun a k h1 h2 => by omega)
  refine s_X1_addAlone hh4 hA.2.2.2.2.2 hn40 (fun G5 hh5 hf5 => ?_)
  let P : Nat → Nat → Prop := fun a k => a = 1 ∨ a = 8 ∨ (a = 3 ∧ k = 5) ∨ (10 ≤ a ∧ a ≤ 12) ∨ a = 38 ∨ (48 ≤ a ∧ a < 88) ∨ a = 13 ∨ a = 36 ∨ (88 ≤ a ∧ a < 168) ∨ 288 ≤ a ∨ (a = 5 ∧ (k = 7 ∨ k = 8)) ∨ (14 ≤ a ∧ a ≤ 17)
  have hf : fe P G G5 := (((((hf1.e.mono (fun a k z => by show P a k; omega)).tr (hf2.mono (fun a k z => by show P a k; omega))).tr (hf3.mono (fun a k z => by show P a k; omega))).tr (hf4.e.mono (fun a k z => by show P a k; omega))).tr (hf5.mono (fun a k z => by show P a k; omega)))
  have hM5 := hM.keep hf (fun a k z => by unfold pC; have z : a = 1 ∨ a = 8 ∨ (a = 3 ∧ k = 5) ∨ (10 ≤ a ∧ a ≤ 12) ∨ a = 38 ∨ (48 ≤ a ∧ a < 88) ∨ a = 13 ∨ a = 36 ∨ (88 ≤ a ∧ a < 168) ∨ 288 ≤ a ∨ (a = 5 ∧ (k = 7 ∨ k = 8)) ∨ (14 ≤ a ∧ a ≤ 17) := z; omega)
  have hn1 := hR2.2.1.1
  have nP : ∀ a k, ¬ (a = 1 ∨ a = 8 ∨ (a = 3 ∧ k = 5) ∨ (10 ≤ a ∧ a ≤ 12) ∨ a = 38 ∨ (48 ≤ a ∧ a < 88) ∨ a = 13 ∨ a = 36 ∨ (88 ≤ a ∧ a < 168) ∨ 288 ≤ a ∨ (a = 5 ∧ (k = 7 ∨ k = 8)) ∨ (14 ≤ a ∧ a ≤ 17)) → ¬ P a k := fun a k z => z
  have hC5 : KC nv beh 0 tf (n + 1) (xt n sz m) (xt n rw_ f) (xt n ver v) (xt n fx (-1)) T mu (xt n hp n) ch sn sf G5 := by
    refine ⟨a1.fe hf (nP _ _ (by omega)) (fun k => nP _ _ (by omega)), ⟨by omega, fun k hk => absurd hk (by omega), ?_, fun k hk => absurd hk (by omega)⟩, (hr3.fe hn1 hf4.e (by omega) (fun a k h1 h2 => by omega) (fun k => by omega) (fun a k h1 h2 => by omega)).fe hn1 hf5 (by omega) (fun a k h1 h2 => by omega) (fun k => by omega) (fun a k h1 h2 => by omega), hd4.fe hn1 hf5 (fun k => by omega) (fun a k h1 h2 => by omega), hh5, (hf.i (nP _ _ (by omega))).trans a6, a7.fe hf (fun a k h1 h2 => nP _ _ (by omega)), (hf.i (nP _ _ (by omega))).trans a8, a9.fe hf (nP _ _ (by omega)) (fun k => nP _ _ (by omega))⟩
    rw [hf5.i (by omega), hf4.e.i (by omega)]
    exact sI_same _ _ _ _
  refine s_setC hR2 hC5 (fun G6 hC6 hf6 => ?_)
  have hM6 := (hM5.keep hf6 (fun a k z => cP_pC z)).t0 0
  have hC7 := hC6.keep hn1 (t0_pM (v := 0)) (fun a k z => by unfold pM; omega)
  unfold wp_X7_report
  rintro G7 rfl
  generalize sI G6 7 0 0 = G7 at hM6 hC7
  obtain ⟨b1, b2, b3, b4, b5, b6, b7, b8, b9⟩ := hM6
  refine ⟨fun z => absurd ((nI_eq (b := 0) (by omega) (by omega)).mp (b2.2.2.1.symm.trans z)) c, fun _ => ?_⟩
  refine s_X7_isVersion b1.1 (by omega) ?_
  rw [hb]
  refine ⟨fun z => absurd z (by decide), fun _ => ?_⟩
  refine pk_ne n 40 (fun _ => ?_) (fun z => absurd z (by omega)) b3.1
  refine ⟨fun mm w G8 => ∃ (i : Nat) (b : Bool), w = bI b ∧ mm = 2 * (foldK i (tn, tf)).1 + (if b then 1 else 0) ∧ tR 7 3 21 (foldK i (tn, tf)).1 (foldK i (tn, tf)).2 G8 ∧ fe (fun a k => (a = 7 ∧ k = 3) ∨ a = 21) G7 G8 ∧ (b = false → fold1 (foldK i (tn, tf)).1 (foldK i (tn, tf)).2 = none) ∧ (foldK i (tn, tf)).1 + i ≤ tn, ⟨_, 0, true, rfl, rfl, b2, fe.rf, fun z => absurd z (by decide), Nat.le_refl _⟩, ?_⟩
  rintro mm w G8 ⟨i, b, rfl, rfl, hT8, hf8, hno, hin⟩
  refine bI_br (fun hb3 => ?_) (fun hb3 => ?_)
  rotate_left
  · subst hb3
    refine s_X7_folds hT8 (fun G9 hT9 hf9 => ?_)
    cases hsm : (fold1 (foldK i (tn, tf)).1 (foldK i (tn, tf)).2).isSome
    · obtain ⟨e1, e2⟩ := foldS_no hsm
      refine ⟨_, ?_, i, false, rfl, rfl, ?_, hf8.tr hf9, fun _ => e2, hin⟩
      · simp
      · have e1' : foldS ((foldK i (tn, tf)).1, (foldK i (tn, tf)).2) = foldK i (tn, tf) := e1
        rw [e1'] at hT9
        exact hT9
    · have hd := foldS_dec hsm
      have e1 : foldS ((foldK i (tn, tf)).1, (foldK i (tn, tf)).2) = foldK (i + 1) (tn, tf) := (foldK_add i 1 (tn, tf))
      have hd : (foldK (i + 1) (tn, tf)).1 + 1 ≤ (foldK i (tn, tf)).1 := by rw [← e1]; exact hd
      rw [e1] at hT9
      refine ⟨_, ?_, i + 1, true, rfl, rfl, hT9, hf8.tr hf9, fun z => absurd z (by decide), by omega⟩
      simp only [if_true]
      omega
  · have e12 : foldK i (tn, tf) = (m, f) := by
      have h1 := foldK_add i (12 - i) (tn, tf)
      rw [show i + (12 - i) = 12 by omega, hs, foldK_fix (hno hb3)] at h1
      exact h1
    rw [e12] at hT8
    obtain ⟨d1, d2, d3, d4⟩ := hT8
    dsimp only at d1 d2 d3 d4
    have b3' := b3.fe hf8 (by omega) (fun a k h1 h2 => by omega)
    refine ⟨fun mm w G9 => ∃ k, k ≤ m ∧ mm = m - k ∧ w = nI k ∧ fe (fun a k => a = 22 ∧ 12 * n ≤ k) G8 G9 ∧ ∀ j, j < k → G9.1 22 (12 * n + j) = nI (f j), ⟨m, 0, by omega, by omega, rfl, fe.rf, fun j hj => absurd hj (by omega)⟩, ?_⟩
    rintro mm w G9 ⟨k, hk, rfl, rfl, hf9, h9⟩
    have e75 : G9.1 7 5 = nI n := (hf9.i (by omega)).trans b3'.1
    have e73 : G9.1 7 3 = nI m := (hf9.i (by omega)).trans d3
    refine pk_le m k (fun c2 => ?_) (fun c2 => ?_) e73
    · have e : k = m := by omega
      subst e
      refine ⟨n, by omega, e75, ?_⟩
      rintro G10 rfl
      refine ⟨n, by omega, by rw [sI_ne1 _ _ _ _ (by decide)]; exact e75, ?_⟩
      rintro G11 rfl
      refine ⟨n, by omega, by rw [sI_ne1 _ _ _ _ (by decide), sI_ne1 _ _ _ _ (by decide)]; exact e75, ?_⟩
      rintro G12 rfl
      refine ⟨n, by omega, by rw [sI_ne1 _ _ _ _ (by decide), sI_ne1 _ _ _ _ (by decide), sI_ne1 _ _ _ _ (by decide)]; exact e75, ?_⟩
      rintro G13 rfl G14 rfl G15 rfl
      have e75' : (sI (sI (sI G9 23 n (G9.1 7 3)) 24 n (nI v)) 25 n (-1)).1 7 5 = nI n := by rw [sI_ne1 _ _ _ _ (by decide), sI_ne1 _ _ _ _ (by decide), sI_ne1 _ _ _ _ (by decide)]; exact e75
      have e76 : (sI (sI (sI (sI (sI G9 23 n (G9.1 7 3)) 24 n (nI v)) 25 n (-1)) 26 n ((sI (sI (sI G9 23 n (G9.1 7 3)) 24 n (nI v)) 25 n (-1)).1 7 5)) 7 3 0).1 7 5 + 1 = nI (n + 1) := by
        rw [sI_ne2 _ _ _ _ (by decide), sI_ne1 _ _ _ _ (by decide), e75']; exact nI_1 _
      rw [e76, e75', e73]
      have hf10 : fe (fun a k => (a = 22 ∧ 12 * n ≤ k) ∨ (23 ≤ a ∧ a ≤ 26 ∧ k = n) ∨ (a = 7 ∧ (k = 3 ∨ k = 5)) ∨ a = 21) G7 (sI (sI (sI (sI (sI (sI G9 23 n (nI k)) 24 n (nI v)) 25 n (-1)) 26 n (nI n)) 7 3 0) 7 5 (nI (n + 1))) := (((((((hf8.mono (fun a k z => by omega)).tr (hf9.mono (fun a k z => by omega))).tr (fe.sI (by omega))).tr (fe.sI (by omega))).tr (fe.sI (by omega))).tr (fe.sI (by omega))).tr (fe.sI (by omega))).tr (fe.sI (by omega))
      refine s_setM (tn := 0) (tf := tf) hR2 (b1.fe hf10 (by omega) (fun k => by omega)) ⟨by omega, fun k hk => absurd hk (by omega), by rw [sI_ne2 _ _ _ _ (by decide), sI_same]; rfl, fun k hk => absurd hk (by omega)⟩ ⟨sI_same _ _ _ _, fun r hr => ?_⟩ (fun r hr => ?_) ((hf10.i (by omega)).trans b6) (b7.fe hf10 (fun k => by omega)) ((hf10.i (by omega)).trans b8) (b9.fe hf10 (by omega) (fun k => by omega)) (fun G16 hA16 hM16 hf16 => ⟨?_, ?_⟩)
      · by_cases e : r = n
        · subst e
          rw [xt_n, xt_n, xt_n, xt_n]
          refine ⟨?_, ?_, ?_, fun j hj => ?_⟩
          · rw [sI_ne1 _ _ _ _ (by decide), sI_ne1 _ _ _ _ (by decide), sI_ne1 _ _ _ _ (by decide), sI_ne1 _ _ _ _ (by decide), sI_ne1 _ _ _ _ (by decide), sI_same]
          · rw [sI_ne1 _ _ _ _ (by decide), sI_ne1 _ _ _ _ (by decide), sI_ne1 _ _ _ _ (by decide), sI_ne1 _ _ _ _ (by decide), sI_same]
          · rw [sI_ne1 _ _ _ _ (by decide), sI_ne1 _ _ _ _ (by decide), sI_ne1 _ _ _ _ (by decide), sI_same]
          · rw [sI_ne1 _ _ _ _ (by decide), sI_ne1 _ _ _ _ (by decide), sI_ne1 _ _ _ _ (by decide), sI_ne1 _ _ _ _ (by decide), sI_ne1 _ _ _ _ (by decide), sI_ne1 _ _ _ _ (by decide)]
            exact h9 j hj
        · obtain ⟨c1, c2, c3, c4⟩ := b3.2 r (by omega)
          have h12r := (hA.2.1.2 r (by omega)).1
          rw [xt_o e, xt_o e, xt_o e, xt_o e]
          exact ⟨(hf10.i (by omega)).trans c1, (hf10.i (by omega)).trans c2, (hf10.i (by omega)).trans c3, fun j hj => (hf10.i (by omega)).trans (c4 j hj)⟩
      · by_cases e : r = n
        · subst e
          rw [xt_n, sI_ne1 _ _ _ _ (by decide), sI_ne1 _ _ _ _ (by decide), sI_same]
        · rw [xt_o e]
          exact (hf10.i (by omega)).trans (b5 r (by omega))
      · rw [hM16.2.2.1.1, nI_pred]
      · exact ⟨nv, par, beh, 0, tf, n + 1, _, _, _, _, T, mu, _, _, sn, sf, hA16, (hC7.keep hn1 hf10 (fun a k z => by unfold pM; omega)).keep hn1 hf16 (fun a k z => mP_pM z), hM16⟩
    · refine ⟨k, by omega, rfl, 12 * n + k, by omega, by rw [e75, show (12 : Int32) * nI n = nI (12 * n) from pk_mul 12 n]; exact nI_add _ _, ?_⟩
      rintro G10 rfl
      rw [show G9.1 21 k = nI (f k) by rw [hf9.i (by omega)]; exact d4 k (by omega)]
      refine ⟨m - (k + 1), by omega, k + 1, by omega, rfl, nI_1 _, hf9.tr (fe.sI ⟨rfl, by omega⟩), fun j hj => ?_⟩
      by_cases e : j = k
      · rw [e, sI_same]
      · rw [sI_ne2 _ _ _ _ (by omega)]; exact h9 j (by omega)
end OP5
