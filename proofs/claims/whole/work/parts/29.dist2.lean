/-! the reference's DISTANCES -/
section DM
variable {G : GS} {n : Nat} {sz : Nat → Nat} {rw_ : Nat → Nat → Nat} {ver : Nat → Nat} {fx : Nat → Int32}
theorem nI_p1 {i : Nat} (h : 1 ≤ i) : nI i - 1 = nI (i - 1) := by
  obtain ⟨k, rfl⟩ : ∃ k, i = k + 1 := ⟨i - 1, by omega⟩
  exact nI_pred k
def cmM (n : Nat) (sz : Nat → Nat) (rw_ : Nat → Nat → Nat) (G : GS) : Prop := ∀ f, f ≤ 500 → G.1 37 f = bI (coB n sz rw_ f)
theorem s_X7_findCommon (hM : rM n sz rw_ ver fx G) (hR : rOK n sz rw_) {post : GS → Prop} (h : ∀ G', cmM n sz rw_ G' → fr (fun a => a = 37) G G' → post G') : wp_X7_findCommon G post := by
  unfold wp_X7_findCommon
  refine ⟨fun m v G1 => ∃ i, i ≤ 501 ∧ m = 501 - i ∧ v = nI i ∧ fr (fun a => a = 37) G G1 ∧ ∀ f, f < i → G1.1 37 f = bI (coB n sz rw_ f), ⟨501, 0, by omega, by omega, rfl, fr.rf, fun f hf => absurd hf (by omega)⟩, ?_⟩
  rintro m v G1 ⟨i, hi, rfl, rfl, hfr, hdone⟩
  refine pk_lt 500 i (fun c => ?_) (fun c => ?_)
  · exact h G1 (fun f hf => hdone f (by omega)) hfr
  · refine s_X7_isCommon (hM.fe hfr.e (by omega) (fun a k h1 h2 => by omega)) hR ?_
    rw [coX_nI (by omega)]
    refine ⟨i, by omega, rfl, bI_01 _, ?_⟩
    rintro G6 rfl
    refine ⟨501 - (i + 1), by omega, i + 1, by omega, rfl, nI_1 _, hfr.tr (fr.sI rfl), fun f hf => ?_⟩
    by_cases e : f = i
    · rw [e, sI_same]
    · rw [sI_ne2 _ _ _ _ e]
      exact hdone f (by omega)
theorem s_X7_withoutCommon (hM : rM n sz rw_ ver fx G) (hR : rOK n sz rw_) (hcm : cmM n sz rw_ G) {r to : Nat} (hr : r < n) (hto : to = 27 ∨ to = 28) {post : Int32 → GS → Prop} (h : ∀ G', listAt G' to (bR n sz rw_ r) → fr (fun a => a = to) G G' → post (nI (bR n sz rw_ r).length) G') : wp_X7_withoutCommon G (nI r) to post := by
  have hn := hR.1
  have h12 := (hR.2 r hr).1
  have hgl : gLen to = 12 := by rcases hto with rfl | rfl <;> rfl
  obtain ⟨c1, -, -, c4⟩ := hM.2 r hr
  unfold wp_X7_withoutCommon
  refine ⟨by rcases hto with rfl | rfl <;> exact Or.inr ⟨by decide, by decide⟩, ?_⟩
  refine ⟨fun m kept v G2 => ∃ i, i ≤ sz r ∧ m = sz r - i ∧ kept = nI (bare (coB n sz rw_) (rw_ r) i).length ∧ v = nI i ∧ fr (fun a => a = to) G G2 ∧ listAt G2 to (bare (coB n sz rw_) (rw_ r) i), ⟨sz r, 0, by omega, by omega, rfl, rfl, fr.rf, fun k hk => absurd hk (by show ¬ k < 0; omega)⟩, ?_⟩
  rintro m kept v G2 ⟨i, hi, rfl, rfl, rfl, hfr, hat⟩
  have hlen := bare_len (coB n sz rw_) (rw_ r) i
  refine ⟨r, by omega, rfl, ?_⟩
  refine pk_le (sz r) i (fun c => ?_) (fun c => ?_) (by rw [hfr.i (by omega)]; exact c1)
  · have e : i = sz r := by omega
    subst e
    exact h G2 hat hfr
  · have h5 := (hR.2 r hr).2 i (by omega)
    refine ⟨12 * r + i, by omega, by rw [show (12 : Int32) * nI r = nI (12 * r) from pk_mul 12 r]; exact nI_add _ _, ?_⟩
    rintro y rfl
    have ey : G2.1 22 (12 * r + i) = nI (rw_ r i) := by rw [hfr.i (by omega)]; exact c4 i (by omega)
    rw [ey]
    refine ⟨rw_ r i, by omega, rfl, ?_⟩
    rw [show G2.1 37 (rw_ r i) = bI (coB n sz rw_ (rw_ r i)) by rw [hfr.i (by omega)]; exact hcm _ h5]
    refine bI_brn (fun hb => ?_) (fun hb => ?_)
    · have eb := bare_t (cm := coB n sz rw_) (row := rw_ r) hb
      exact ⟨sz r - (i + 1), by omega, i + 1, by omega, rfl, by rw [eb], nI_1 _, hfr, by rw [eb]; exact hat⟩
    · have eb := bare_f (cm := coB n sz rw_) (row := rw_ r) hb
      have el : (bare (coB n sz rw_) (rw_ r) (i + 1)).length = (bare (coB n sz rw_) (rw_ r) i).length + 1 := by rw [eb, List.length_append, List.length_singleton]
      refine ⟨(bare (coB n sz rw_) (rw_ r) i).length, by rw [hgl]; omega, rfl, ?_⟩
      rintro G11 rfl
      refine ⟨sz r - (i + 1), by omega, i + 1, by omega, rfl, by rw [el]; exact nI_1 _, nI_1 _, hfr.tr (fr.sI rfl), fun k hk => ?_⟩
      rw [el] at hk
      rw [eb]
      by_cases e : k = (bare (coB n sz rw_) (rw_ r) i).length
      · rw [e, sI_same, getD_eq]
      · rw [sI_ne2 _ _ _ _ e, getD_lt (by omega)]
        exact hat k (by omega)
/-- the least as the reference finds it -/
def tw0 (i j : Nat) : Nat := if i + j = 0 then 0 else 1000
def tw1 (x y : Nat → Nat) (i j : Nat) : Nat := if i = 0 then tw0 i j else min (tw0 i j) (ed x y (i - 1) j + e1 (x (i - 1)))
def tw2 (x y : Nat → Nat) (i j : Nat) : Nat := if j = 0 then tw1 x y i j else min (tw1 x y i j) (ed x y i (j - 1) + e1 (y (j - 1)))
theorem tw_le (x y : Nat → Nat) (i j : Nat) : tw0 i j ≤ 1000 ∧ tw1 x y i j ≤ 1000 ∧ tw2 x y i j ≤ 1000 := by
  unfold tw2 tw1 tw0
  split <;> split <;> split <;> omega
theorem tw_i0 (x y : Nat → Nat) {j : Nat} (hj : j ≤ 12) : tw2 x y 0 j = ed x y 0 j := by
  unfold tw2 tw1 tw0
  rcases j with _ | j
  · rfl
  · rw [if_neg (by omega), if_pos rfl, if_neg (by omega), ed_0s]
    have := ed_le x y 0 j
    have := e1_le (y j)
    show min 1000 (ed x y 0 j + e1 (y j)) = _
    omega
theorem tw_j0 (x y : Nat → Nat) {i : Nat} (hi : i ≤ 12) : tw2 x y i 0 = ed x y i 0 := by
  unfold tw2 tw1 tw0
  rcases i with _ | i
  · rfl
  · rw [if_pos rfl, if_neg (by omega), if_neg (by omega), ed_s0]
    have := ed_le x y i 0
    have := e1_le (x i)
    show min 1000 (ed x y i 0 + e1 (x i)) = _
    omega
theorem tw_ij (x y : Nat → Nat) {i j : Nat} (hi : i + 1 ≤ 12) (hj : j + 1 ≤ 12) : min (tw2 x y (i + 1) (j + 1)) (ed x y i j + eC (x i) (y j)) = ed x y (i + 1) (j + 1) := by
  unfold tw2 tw1 tw0
  rw [if_neg (by omega), if_neg (by omega), if_neg (by omega), ed_ss]
  have := ed_le x y i (j + 1)
  have := e1_le (x i)
  show min (min (min 1000 (ed x y i (j + 1) + e1 (x i))) (ed x y (i + 1) j + e1 (y j))) _ = _
  omega
/-- the table of the reference, once both ROWS lie there -/
theorem turns_core {G_6 : GS} {la lb : Nat} {x y : Nat → Nat} (hx : rowAt G_6 27 la x) (hy : rowAt G_6 28 lb y) (h13 : G_6.1 7 13 = nI la) (h14 : G_6.1 7 14 = nI lb) {post : Int32 → GS → Prop} (h : ∀ G', fr (fun a => a = 29) G_6 G' → post (nI (ed x y la lb)) G') : (∃ j32_6 : Nat, j32_6 < 169 ∧ 0 = nI j32_6 ∧ (∀ G_8 : GS, G_8 = sI G_6 29 j32_6 0 → (∃ I35_9 : Nat → Int32 → GS → Prop, (∃ n_9 : Nat, I35_9 n_9 0 G_8) ∧ ∀ (n_9 : Nat) (v3_9 : Int32) (G_9 : GS), I35_9 n_9 v3_9 G_9 → (((G_9.1 7 13) < v3_9 → (∃ j242_10 : Nat, j242_10 < 169 ∧ (13 * (G_9.1 7 13)) + (G_9.1 7 14) = nI j242_10 ∧ (post (G_9.1 29 j242_10) G_9))) ∧ (¬ ((G_9.1 7 13) < v3_9) → (∃ I46_12 : Nat → Int32 → GS → Prop, (∃ n_12 : Nat, I46_12 n_12 0 G_9) ∧ ∀ (n_12 : Nat) (v4_12 : Int32) (G_12 : GS), I46_12 n_12 v4_12 G_12 → (((G_12.1 7 14) < v4_12 → (∃ k_15 : Nat, k_15 < n_9 ∧ I35_9 k_15 (v3_9 + 1) G_12)) ∧ (¬ ((G_12.1 7 14) < v4_12) → (∃ J69_16 : Int32 → Prop, (∀ (w0_16 : Int32), J69_16 w0_16 → (∃ J108_17 : Int32 → GS → Prop, (∀ (z5_17 : Int32) (G_18 : GS), J108_17 z5_17 G_18 → (∃ J147_19 : Int32 → GS → Prop, (∀ (z5_19 : Int32) (G_20 : GS), J147_19 z5_19 G_20 → ((v3_9 ≤ 0 → (∃ j213_21 : Nat, j213_21 < 169 ∧ (13 * v3_9) + v4_12 = nI j213_21 ∧ (∀ G_23 : GS, G_23 = sI G_20 29 j213_21 z5_19 → (∃ k_25 : Nat, k_25 < n_12 ∧ I46_12 k_25 (v4_12 + 1) G_23)))) ∧ (¬ (v3_9 ≤ 0) → ((v4_12 ≤ 0 → (∃ j213_26 : Nat, j213_26 < 169 ∧ (13 * v3_9) + v4_12 = nI j213_26 ∧ (∀ G_28 : GS, G_28 = sI G_20 29 j213_26 z5_19 → (∃ k_30 : Nat, k_30 < n_12 ∧ I46_12 k_30 (v4_12 + 1) G_28)))) ∧ (¬ (v4_12 ≤ 0) → (∃ j173_30 : Nat, j173_30 < 169 ∧ ((13 * (v3_9 - 1)) + v4_12) - 1 = nI j173_30 ∧ (∃ j181_31 : Nat, j181_31 < 12 ∧ v3_9 - 1 = nI j181_31 ∧ (∃ j190_32 : Nat, j190_32 < 12 ∧ v4_12 - 1 = nI j190_32 ∧ (wp_X7_change G_20 (G_20.1 27 j181_31) (G_20.1 28 j190_32) (fun r_35 G_34 => wp_X7_least G_34 z5_19 ((G_20.1 29 j173_30) + r_35) (fun r_37 G_36 => ∃ j213_37 : Nat, j213_37 < 169 ∧ (13 * v3_9) + v4_12 = nI j213_37 ∧ (∀ G_39 : GS, G_39 = sI G_36 29 j213_37 r_37 → (∃ k_41 : Nat, k_41 < n_12 ∧ I46_12 k_41 (v4_12 + 1) G_39))))))))))))) ∧ ((v4_12 ≤ 0 → (J147_19 z5_17 G_18)) ∧ (¬ (v4_12 ≤ 0) → (∃ j128_42 : Nat, j128_42 < 169 ∧ ((13 * v3_9) + v4_12) - 1 = nI j128_42 ∧ (∃ j137_43 : Nat, j137_43 < 12 ∧ v4_12 - 1 = nI j137_43 ∧ (wp_X7_alone G_18 (G_18.1 28 j137_43) (fun r_46 G_45 => wp_X7_least G_45 z5_17 ((G_18.1 29 j128_42) + r_46) (fun r_48 G_47 => J147_19 r_48 G_47))))))))) ∧ ((v3_9 ≤ 0 → (J108_17 w0_16 G_12)) ∧ (¬ (v3_9 ≤ 0) → (∃ j90_49 : Nat, j90_49 < 169 ∧ (13 * (v3_9 - 1)) + v4_12 = nI j90_49 ∧ (∃ j98_50 : Nat, j98_50 < 12 ∧ v3_9 - 1 = nI j98_50 ∧ (wp_X7_alone G_12 (G_12.1 27 j98_50) (fun r_53 G_52 => wp_X7_least G_52 w0_16 ((G_12.1 29 j90_49) + r_53) (fun r_55 G_54 => J108_17 r_55 G_54))))))))) ∧ ((¬ (v3_9 + v4_12) = 0 → (J69_16 1000)) ∧ ((v3_9 + v4_12) = 0 → (J69_16 0)))))))))))) := by
  have ha := hx.1
  have hb := hy.1
  refine ⟨0, by omega, rfl, ?_⟩
  rintro G8 rfl
  refine ⟨fun m v G1 => ∃ i, i ≤ la + 1 ∧ m = la + 1 - i ∧ v = nI i ∧ fr (fun a => a = 29) G_6 G1 ∧ ∀ s, s < i → ∀ t, t ≤ lb → G1.1 29 (13 * s + t) = nI (ed x y s t), ⟨la + 1, 0, by omega, by omega, rfl, fr.sI rfl, fun s hs => absurd hs (by omega)⟩, ?_⟩
  rintro m v G1 ⟨i, hi, rfl, rfl, hfr, hrows⟩
  refine pk_lt la i (fun c => ?_) (fun c => ?_) (by rw [hfr.i (by omega)]; exact h13)
  · have e : i = la + 1 := by omega
    subst e
    refine ⟨13 * la + lb, by omega, ?_, ?_⟩
    · rw [hfr.i (by omega), hfr.i (by omega), h13, h14, show (13 : Int32) * nI la = nI (13 * la) from pk_mul 13 la]
      exact nI_add _ _
    · rw [hrows la (by omega) lb (Nat.le_refl _)]
      exact h G1 hfr
  · refine ⟨fun m v G2 => ∃ j, j ≤ lb + 1 ∧ m = lb + 1 - j ∧ v = nI j ∧ fr (fun a => a = 29) G_6 G2 ∧ (∀ s, s < i → ∀ t, t ≤ lb → G2.1 29 (13 * s + t) = nI (ed x y s t)) ∧ ∀ t, t < j → G2.1 29 (13 * i + t) = nI (ed x y i t), ⟨lb + 1, 0, by omega, by omega, rfl, hfr, hrows, fun t ht => absurd ht (by omega)⟩, ?_⟩
    rintro m2 v2 G2 ⟨j, hj, rfl, rfl, hfr2, hr2, hl2⟩
    refine pk_lt lb j (fun c2 => ?_) (fun c2 => ?_) (by rw [hfr2.i (by omega)]; exact h14)
    · have e : j = lb + 1 := by omega
      subst e
      refine ⟨la + 1 - (i + 1), by omega, i + 1, by omega, rfl, nI_1 _, hfr2, fun s hs t ht => ?_⟩
      by_cases e : s = i
      · rw [e]; exact hl2 t (by omega)
      · exact hr2 s (by omega) t ht
    · have htw := tw_le x y i j
      have ixy : (13 * nI i) + nI j = nI (13 * i + j) := by rw [show (13 : Int32) * nI i = nI (13 * i) from pk_mul 13 i]; exact nI_add _ _
      -- the place is stored
      have store : ∀ v, v = ed x y i j → ∃ j213 : Nat, j213 < 169 ∧ (13 * nI i) + nI j = nI j213 ∧ (∀ G_23 : GS, G_23 = sI G2 29 j213 (nI v) → (∃ k_25 : Nat, k_25 < lb + 1 - j ∧ ∃ j', j' ≤ lb + 1 ∧ k_25 = lb + 1 - j' ∧ nI j + 1 = nI j' ∧ fr (fun a => a = 29) G_6 G_23 ∧ (∀ s, s < i → ∀ t, t ≤ lb → G_23.1 29 (13 * s + t) = nI (ed x y s t)) ∧ ∀ t, t < j' → G_23.1 29 (13 * i + t) = nI (ed x y i t))) := by
        rintro v rfl
        refine ⟨13 * i + j, by omega, ixy, ?_⟩
        rintro G23 rfl
        refine ⟨lb + 1 - (j + 1), by omega, j + 1, by omega, rfl, nI_1 _, hfr2.tr (fr.sI rfl), fun s hs t ht => ?_, fun t ht => ?_⟩
        · rw [sI_ne2 _ _ _ _ (by omega)]
          exact hr2 s hs t ht
        · by_cases e : t = j
          · rw [e, sI_same]
          · rw [sI_ne2 _ _ _ _ (by omega)]
            exact hl2 t (by omega)
      refine ⟨fun w => w = nI (tw0 i j), ?_, ?_⟩
      · rintro w rfl
        refine ⟨fun z G3 => z = nI (tw1 x y i j) ∧ G3 = G2, ?_, ?_⟩
        · rintro z G3 ⟨rfl, rfl⟩
          refine ⟨fun z G4 => z = nI (tw2 x y i j) ∧ G4 = G3, ?_, ?_⟩
          · rintro z G4 ⟨rfl, rfl⟩
            refine pk_le i 0 (fun d => ?_) (fun d => ?_)
            · have e : i = 0 := by omega
              subst e
              exact store _ (tw_i0 x y (by omega))
            · refine pk_le j 0 (fun d2 => ?_) (fun d2 => ?_)
              · have e : j = 0 := by omega
                subst e
                exact store _ (tw_j0 x y (by omega))
              · obtain ⟨i', rfl⟩ : ∃ k, i = k + 1 := ⟨i - 1, by omega⟩
                obtain ⟨j', rfl⟩ : ∃ k, j = k + 1 := ⟨j - 1, by omega⟩
                obtain ⟨hx5, hxe⟩ := hx.2 i' (by omega)
                obtain ⟨hy5, hye⟩ := hy.2 j' (by omega)
                have q1 := eC_le (x i') (y j')
                have q2 := ed_le x y i' j'
                refine ⟨13 * i' + j', by omega, ?_, i', by omega, nI_pred _, j', by omega, nI_pred _, ?_⟩
                · rw [nI_pred, show (13 : Int32) * nI i' = nI (13 * i') from pk_mul 13 i', nI_add, nI_p1 (by omega)]
                  rfl
                · refine s_X7_change (f := x i') (g := y j') (by rw [hfr2.i (by omega)]; exact hxe) (by rw [hfr2.i (by omega)]; exact hye) (by omega) (by omega) ?_
                  refine s_X7_least (f := tw2 x y (i' + 1) (j' + 1)) (g := ed x y i' j' + eC (x i') (y j')) rfl (by rw [hr2 i' (by omega) j' (by omega)]; exact nI_add _ _) (by omega) (by omega) ?_
                  exact store _ (tw_ij x y (by omega) (by omega))
          · refine pk_le j 0 (fun d => ?_) (fun d => ?_)
            · refine ⟨?_, rfl⟩
              unfold tw2
              rw [if_pos (by omega)]
            · have hy9 := hy.2 (j - 1) (by omega)
              have q2 := ed_le x y i (j - 1)
              have q3 := e1_le (y (j - 1))
              refine ⟨13 * i + (j - 1), by omega, ?_, j - 1, by omega, nI_p1 (by omega), ?_⟩
              · rw [ixy, nI_p1 (by omega), show 13 * i + j - 1 = 13 * i + (j - 1) by omega]
              · refine s_X7_alone (f := y (j - 1)) (by rw [hfr2.i (by omega)]; exact hy9.2) (by omega) ?_
                refine s_X7_least (f := tw1 x y i j) (g := ed x y i (j - 1) + e1 (y (j - 1))) rfl (by rw [hl2 (j - 1) (by omega)]; exact nI_add _ _) (by omega) (by omega) ?_
                refine ⟨?_, rfl⟩
                unfold tw2
                rw [if_neg (by omega)]
        · refine pk_le i 0 (fun d => ?_) (fun d => ?_)
          · refine ⟨?_, rfl⟩
            unfold tw1
            rw [if_pos (by omega)]
          · have hx9 := hx.2 (i - 1) (by omega)
            have q2 := ed_le x y (i - 1) j
            have q3 := e1_le (x (i - 1))
            refine ⟨13 * (i - 1) + j, by omega, ?_, i - 1, by omega, nI_p1 (by omega), ?_⟩
            · rw [nI_p1 (by omega), show (13 : Int32) * nI (i - 1) = nI (13 * (i - 1)) from pk_mul 13 (i - 1)]
              exact nI_add _ _
            · refine s_X7_alone (f := x (i - 1)) (by rw [hfr2.i (by omega)]; exact hx9.2) (by omega) ?_
              refine s_X7_least (f := tw0 i j) (g := ed x y (i - 1) j + e1 (x (i - 1))) rfl (by rw [hr2 (i - 1) (by omega) j (by omega)]; exact nI_add _ _) (by omega) (by omega) ?_
              refine ⟨?_, rfl⟩
              unfold tw1
              rw [if_neg (by omega)]
      · refine pk_ne (i + j) 0 (fun d => ?_) (fun d => ?_) (nI_add _ _)
        · show (1000 : Int32) = nI (tw0 i j)
          unfold tw0
          rw [if_neg d]; rfl
        · show (0 : Int32) = nI (tw0 i j)
          unfold tw0
          rw [if_pos d]; rfl
theorem s_X7_turns (hM : rM n sz rw_ ver fx G) (hR : rOK n sz rw_) (hcm : cmM n sz rw_ G) {a b : Nat} (ha : a < n) (hb : b < n) {post : Int32 → GS → Prop} (h : ∀ G', fe (fun a k => (a = 7 ∧ (k = 13 ∨ k = 14)) ∨ a = 27 ∨ a = 28 ∨ a = 29) G G' → post (nI (dist n sz rw_ a b)) G') : wp_X7_turns G (nI a) (nI b) post := by
  have hn := hR.1
  unfold wp_X7_turns
  refine s_X7_withoutCommon hM hR hcm ha (Or.inl rfl) (fun G1 hl1 hfr1 => ?_)
  rintro G3 rfl
  have hfe3 : fe (fun a k => (a = 7 ∧ (k = 13 ∨ k = 14)) ∨ a = 27 ∨ a = 28 ∨ a = 29) G (sI G1 7 13 (nI (bR n sz rw_ a).length)) := (hfr1.e.mono (fun a k h => by omega)).tr (fe.sI (by omega))
  refine s_X7_withoutCommon (hM.fe hfe3 (by omega) (fun a k h1 h2 => by omega)) hR (fun f hf => by rw [hfe3.i (by omega)]; exact hcm f hf) hb (Or.inr rfl) (fun G4 hl4 hfr4 => ?_)
  rintro G6 rfl
  have hx12 := bR_len hR ha
  have hy12 := bR_len hR hb
  have hx5 := bR_500 hR ha
  have hy5 := bR_500 hR hb
  have k27 : listAt G4 27 (bR n sz rw_ a) := fun k hk => by rw [hfr4.i (by omega), sI_ne1 _ _ _ _ (by omega)]; exact hl1 k hk
  have k713 : G4.1 7 13 = nI (bR n sz rw_ a).length := by rw [hfr4.i (by omega), sI_same]
  have hfe4 : fe (fun a k => (a = 7 ∧ (k = 13 ∨ k = 14)) ∨ a = 27 ∨ a = 28 ∨ a = 29) G G4 := hfe3.tr (hfr4.e.mono (fun a k h => by omega))
  refine turns_core (x := fun k => (bR n sz rw_ a).getD k 0) (y := fun k => (bR n sz rw_ b).getD k 0) (la := (bR n sz rw_ a).length) (lb := (bR n sz rw_ b).length) ⟨hx12, fun k hk => ⟨hx5 k hk, by rw [sI_ne1 _ _ _ _ (by omega)]; exact k27 k hk⟩⟩ ⟨hy12, fun k hk => ⟨hy5 k hk, by rw [sI_ne1 _ _ _ _ (by omega)]; exact hl4 k hk⟩⟩ (by rw [sI_ne2 _ _ _ _ (by omega)]; exact k713) (sI_same _ _ _ _) (fun G' hfr' => ?_)
  exact h G' ((hfe4.tr (fe.sI (by omega))).tr (hfr'.e.mono (fun a k h => by omega)))
/-- the reference knows all DISTANCES -/
def dM (n : Nat) (sz : Nat → Nat) (rw_ : Nat → Nat → Nat) (G : GS) : Prop := ∀ a b, a < n → b < n → G.1 30 (40 * a + b) = nI (dist n sz rw_ a b)
theorem s_X7_findDistances (hM : rM n sz rw_ ver fx G) (hR : rOK n sz rw_) {post : GS → Prop} (h : ∀ G', dM n sz rw_ G' → fe (fun a k => (a = 7 ∧ (k = 13 ∨ k = 14)) ∨ (27 ≤ a ∧ a ≤ 30) ∨ a = 37) G G' → post G') : wp_X7_findDistances G post := by
  have hn := hR.1
  unfold wp_X7_findDistances
  refine s_X7_findCommon hM hR (fun G1 hcm hfr1 => ?_)
  have hfe1 : fe (fun a k => (a = 7 ∧ (k = 13 ∨ k = 14)) ∨ (27 ≤ a ∧ a ≤ 30) ∨ a = 37) G G1 := hfr1.e.mono (fun a k h => by omega)
  refine ⟨fun m v G2 => ∃ i, i ≤ n ∧ m = n - i ∧ v = nI i ∧ fe (fun a k => (a = 7 ∧ (k = 13 ∨ k = 14)) ∨ (27 ≤ a ∧ a ≤ 30)) G1 G2 ∧ ∀ a b, a < i → b < n → G2.1 30 (40 * a + b) = nI (dist n sz rw_ a b), ⟨n, 0, by omega, by omega, rfl, fe.rf, fun a b ha => absurd ha (by omega)⟩, ?_⟩
  rintro m v G2 ⟨i, hi, rfl, rfl, hfe2, hdone⟩
  have hfe02 := hfe1.tr (hfe2.mono (fun a k h => by omega))
  refine pk_le n i (fun c => ?_) (fun c => ?_) (by rw [hfe02.i (by omega)]; exact hM.1)
  · exact h G2 (fun a b ha hb => hdone a b (by omega) hb) hfe02
  · refine ⟨fun m v G3 => ∃ j, j ≤ n ∧ m = n - j ∧ v = nI j ∧ fe (fun a k => (a = 7 ∧ (k = 13 ∨ k = 14)) ∨ (27 ≤ a ∧ a ≤ 30)) G1 G3 ∧ (∀ a b, a < i → b < n → G3.1 30 (40 * a + b) = nI (dist n sz rw_ a b)) ∧ ∀ b, b < j → G3.1 30 (40 * i + b) = nI (dist n sz rw_ i b), ⟨n, 0, by omega, by omega, rfl, hfe2, hdone, fun b hb => absurd hb (by omega)⟩, ?_⟩
    rintro m3 v3 G3 ⟨j, hj, rfl, rfl, hfe3, hd3, hl3⟩
    have hfe03 := hfe1.tr (hfe3.mono (fun a k h => by omega))
    refine pk_le n j (fun c2 => ?_) (fun c2 => ?_) (by rw [hfe03.i (by omega)]; exact hM.1)
    · refine ⟨n - (i + 1), by omega, i + 1, by omega, rfl, nI_1 _, hfe3, fun a b ha hb => ?_⟩
      by_cases e : a = i
      · rw [e]; exact hl3 b (by omega)
      · exact hd3 a b (by omega) hb
    · refine s_X7_turns (hM.fe hfe03 (by omega) (fun a k h1 h2 => by omega)) hR (fun f hf => by rw [hfe3.i (by omega)]; exact hcm f hf) (show i < n by omega) (show j < n by omega) (fun G9 hfe9 => ?_)
      refine ⟨40 * i + j, by omega, by rw [show (40 : Int32) * nI i = nI (40 * i) from pk_mul 40 i]; exact nI_add _ _, ?_⟩
      rintro G12 rfl
      refine ⟨n - (j + 1), by omega, j + 1, by omega, rfl, nI_1 _, (hfe3.tr (hfe9.mono (fun a k h => by omega))).tr (fe.sI (by omega)), fun a b ha hb => ?_, fun b hb => ?_⟩
      · rw [sI_ne2 _ _ _ _ (by omega), hfe9.i (by omega)]
        exact hd3 a b ha hb
      · by_cases e : b = j
        · rw [e, sI_same]
        · rw [sI_ne2 _ _ _ _ (by omega), hfe9.i (by omega)]
          exact hl3 b (by omega)
end DM
