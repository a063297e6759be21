/-! the ROWS without COMMON ones, and all DISTANCES -/
def bare (cm : Nat → Bool) (row : Nat → Nat) : Nat → List Nat
  | 0 => []
  | i + 1 => if cm (row i) then bare cm row i else bare cm row i ++ [row i]
theorem bare_t {cm : Nat → Bool} {row : Nat → Nat} {i : Nat} (h : cm (row i) = true) : bare cm row (i + 1) = bare cm row i := by
  show (if cm (row i) then bare cm row i else bare cm row i ++ [row i]) = _
  rw [h]; rfl
theorem bare_f {cm : Nat → Bool} {row : Nat → Nat} {i : Nat} (h : cm (row i) = false) : bare cm row (i + 1) = bare cm row i ++ [row i] := by
  show (if cm (row i) then bare cm row i else bare cm row i ++ [row i]) = _
  rw [h]; rfl
theorem bare_len (cm : Nat → Bool) (row : Nat → Nat) : ∀ i, (bare cm row i).length ≤ i
  | 0 => Nat.le_refl _
  | i + 1 => by
    have := bare_len cm row i
    cases h : cm (row i) with
    | true => rw [bare_t h]; omega
    | false => rw [bare_f h, List.length_append, List.length_singleton]; omega
theorem getD_lt {L : List Nat} {x k : Nat} (h : k < L.length) : (L ++ [x]).getD k 0 = L.getD k 0 := by
  simp [List.getD, List.getElem?_append_left h]
theorem getD_eq {L : List Nat} {x : Nat} : (L ++ [x]).getD L.length 0 = x := by
  simp [List.getD]
theorem bare_500 {cm : Nat → Bool} {row : Nat → Nat} : ∀ {i : Nat}, (∀ k, k < i → row k ≤ 500) → ∀ k, k < (bare cm row i).length → (bare cm row i).getD k 0 ≤ 500
  | 0, _, k, hk => absurd hk (by show ¬ k < 0; omega)
  | i + 1, h, k, hk => by
    cases hc : cm (row i) with
    | true =>
      rw [bare_t hc] at hk ⊢
      exact bare_500 (fun k hk => h k (by omega)) k hk
    | false =>
      rw [bare_f hc] at hk ⊢
      rw [List.length_append, List.length_singleton] at hk
      by_cases e : k = (bare cm row i).length
      · rw [e, getD_eq]; exact h i (by omega)
      · rw [getD_lt (by omega)]
        exact bare_500 (fun k hk => h k (by omega)) k (by omega)
/-- the ROW of REPORT r without COMMON ones -/
def bR (n : Nat) (sz : Nat → Nat) (rw_ : Nat → Nat → Nat) (r : Nat) : List Nat := bare (coB n sz rw_) (rw_ r) (sz r)
def dL (a b : List Nat) : Nat := ed (fun k => a.getD k 0) (fun k => b.getD k 0) a.length b.length
def dist (n : Nat) (sz : Nat → Nat) (rw_ : Nat → Nat → Nat) (a b : Nat) : Nat := dL (bR n sz rw_ a) (bR n sz rw_ b)
theorem dL_symm (a b : List Nat) : dL a b = dL b a := ed_symm _ _ _ _
theorem dL_self (a : List Nat) : dL a a = 0 := ed_self _ _
def listAt (G : GS) (a : Nat) (L : List Nat) : Prop := ∀ k, k < L.length → G.1 a k = nI (L.getD k 0)
section DS
variable {G : GS} {n : Nat} {sz : Nat → Nat} {rw_ : Nat → Nat → Nat} {ver : Nat → Nat} {fx : Nat → Int32}
theorem bR_len (hR : rOK n sz rw_) {r : Nat} (hr : r < n) : (bR n sz rw_ r).length ≤ 12 := Nat.le_trans (bare_len _ _ _) (hR.2 r hr).1
theorem bR_500 (hR : rOK n sz rw_) {r : Nat} (hr : r < n) : ∀ k, k < (bR n sz rw_ r).length → (bR n sz rw_ r).getD k 0 ≤ 500 := bare_500 (hR.2 r hr).2
theorem dist_le (hR : rOK n sz rw_) {a b : Nat} (ha : a < n) (hb : b < n) : dist n sz rw_ a b ≤ 48 := by
  have h := ed_le (fun k => (bR n sz rw_ a).getD k 0) (fun k => (bR n sz rw_ b).getD k 0) (bR n sz rw_ a).length (bR n sz rw_ b).length
  have h1 := bR_len hR ha
  have h2 := bR_len hR hb
  unfold dist dL
  omega
theorem s_X3_lengthOf {r : Nat} (hr : r < 40) {post : Int32 → GS → Prop} (h : post (G.1 10 r) G) : wp_X3_lengthOf G (nI r) post := by unfold wp_X3_lengthOf; exact ⟨r, hr, rfl, h⟩
theorem s_X3_frameAt {r k : Nat} (hr : r < 40) (hk : k < 12) {post : Int32 → GS → Prop} (h : post (G.1 (48 + r) k) G) : wp_X3_frameAt G (nI r) (nI k) post := by unfold wp_X3_frameAt; exact ⟨r, hr, rfl, k, hk, rfl, h⟩
/-- Distances.strip -/
theorem s_X0_strip (hC : rC n sz rw_ ver fx G) (hR : rOK n sz rw_) {r : Nat} (hr : r < n) {post : Int32 → GS → Prop} (h : ∀ (ch : Bool) (G' : GS), listAt G' (88 + r) (bR n sz rw_ r) → G'.1 13 r = nI (bR n sz rw_ r).length → fe (fun a k => (a = 13 ∧ k = r) ∨ a = 88 + r) G G' → (ch = false → G.1 13 r = nI (bR n sz rw_ r).length ∧ listAt G (88 + r) (bR n sz rw_ r)) → post (bI ch) G') : wp_X0_strip G (nI r) post := by
  have hn := hR.1
  have h12 := (hR.2 r hr).1
  obtain ⟨c1, -, -, c4⟩ := hC.2.1 r hr
  unfold wp_X0_strip
  refine ⟨r, by omega, rfl, ?_⟩
  refine ⟨fun m kept chd v G2 => ∃ i ch, i ≤ sz r ∧ m = sz r - i ∧ kept = nI (bare (coB n sz rw_) (rw_ r) i).length ∧ chd = bI ch ∧ v = nI i ∧ fr (fun a => a = 88 + r) G G2 ∧ listAt G2 (88 + r) (bare (coB n sz rw_) (rw_ r) i) ∧ (∀ k, (bare (coB n sz rw_) (rw_ r) i).length ≤ k → G2.1 (88 + r) k = G.1 (88 + r) k) ∧ (ch = false → listAt G (88 + r) (bare (coB n sz rw_) (rw_ r) i)), ⟨sz r, 0, false, by omega, by omega, rfl, rfl, rfl, fr.rf, fun k hk => absurd hk (by show ¬ k < 0; omega), fun _ _ => rfl, fun _ k hk => absurd hk (by show ¬ k < 0; omega)⟩, ?_⟩
  rintro m kept chd v G2 ⟨i, ch, hi, rfl, rfl, rfl, rfl, hfr, hat, hold, hsame⟩
  have hlen := bare_len (coB n sz rw_) (rw_ r) i
  have hC2 : rC n sz rw_ ver fx G2 := hC.fr hn hfr (by omega) (fun a h1 h2 => by omega) (by omega) (fun a h1 h2 => by omega)
  refine s_X3_lengthOf (by omega) ?_
  refine pk_le (sz r) i (fun c => ?_) (fun c => ?_) (hC2.2.1 r hr).1
  · have e : i = sz r := by omega
    subst e
    have h13 : G2.1 13 r = G.1 13 r := hfr.i (by omega) r
    have fin : ∀ ch', (ch' = false → G.1 13 r = nI (bR n sz rw_ r).length ∧ listAt G (88 + r) (bR n sz rw_ r)) → post (bI ch') (sI G2 13 r (nI (bare (coB n sz rw_) (rw_ r) (sz r)).length)) := fun ch' h' => by
      refine h ch' _ (fun k hk => ?_) (sI_same _ _ _ _) ?_ h'
      · rw [sI_ne1 _ _ _ _ (by omega)]
        exact hat k hk
      · exact (hfr.e.mono (fun a k ha => Or.inr ha)).tr (fe.sI (Or.inl ⟨rfl, rfl⟩))
    refine bI_brn (fun hb => ?_) (fun hb => ?_)
    · refine ⟨r, by omega, rfl, ?_⟩
      rintro G8 rfl
      exact fin true (fun z => by cases z)
    · refine ⟨r, by omega, rfl, ?_⟩
      refine ⟨fun c2 => ⟨r, by omega, rfl, ?_⟩, fun c2 => ⟨r, by omega, rfl, ?_⟩⟩
      · rintro G8 rfl
        exact fin false (fun _ => ⟨by rw [← h13]; exact c2.symm, hsame hb⟩)
      · rintro G8 rfl
        exact fin true (fun z => by cases z)
  · have h5 := (hR.2 r hr).2 i (by omega)
    refine s_X3_frameAt (by omega) (by omega) ?_
    rw [(hC2.2.1 r hr).2.2.2 i (by omega)]
    refine s_X3_isCommon hC2 hR ?_
    rw [coX_nI h5]
    refine bI_brn (fun hb => ?_) (fun hb => ?_)
    · have eb := bare_t (cm := coB n sz rw_) (row := rw_ r) hb
      exact ⟨sz r - (i + 1), by omega, i + 1, ch, by omega, rfl, by rw [eb], rfl, nI_1 _, hfr, by rw [eb]; exact hat, by rw [eb]; exact hold, by rw [eb]; exact hsame⟩
    · have eb := bare_f (cm := coB n sz rw_) (row := rw_ r) hb
      have el : (bare (coB n sz rw_) (rw_ r) (i + 1)).length = (bare (coB n sz rw_) (rw_ r) i).length + 1 := by rw [eb, List.length_append, List.length_singleton]
      have go : ∀ ch', (ch' = false → listAt G (88 + r) (bare (coB n sz rw_) (rw_ r) (i + 1))) → ∃ k, k < sz r - i ∧ ∃ i' ch'', i' ≤ sz r ∧ k = sz r - i' ∧ nI (bare (coB n sz rw_) (rw_ r) i).length + 1 = nI (bare (coB n sz rw_) (rw_ r) i').length ∧ bI ch' = bI ch'' ∧ nI i + 1 = nI i' ∧ fr (fun a => a = 88 + r) G (sI G2 (88 + r) (bare (coB n sz rw_) (rw_ r) i).length (nI (rw_ r i))) ∧ listAt (sI G2 (88 + r) (bare (coB n sz rw_) (rw_ r) i).length (nI (rw_ r i))) (88 + r) (bare (coB n sz rw_) (rw_ r) i') ∧ (∀ k, (bare (coB n sz rw_) (rw_ r) i').length ≤ k → (sI G2 (88 + r) (bare (coB n sz rw_) (rw_ r) i).length (nI (rw_ r i))).1 (88 + r) k = G.1 (88 + r) k) ∧ (ch'' = false → listAt G (88 + r) (bare (coB n sz rw_) (rw_ r) i')) := fun ch' h' => by
        refine ⟨sz r - (i + 1), by omega, i + 1, ch', by omega, rfl, by rw [el]; exact nI_1 _, rfl, nI_1 _, hfr.tr (fr.sI rfl), fun k hk => ?_, fun k hk => ?_, h'⟩
        · rw [el] at hk
          rw [eb]
          by_cases e : k = (bare (coB n sz rw_) (rw_ r) i).length
          · rw [e, sI_same, getD_eq]
          · rw [sI_ne2 _ _ _ _ e, getD_lt (by omega)]
            exact hat k (by omega)
        · rw [el] at hk
          rw [sI_ne2 _ _ _ _ (by omega)]
          exact hold k (by omega)
      refine bI_brn (fun hb2 => ?_) (fun hb2 => ?_)
      · refine ⟨(bare (coB n sz rw_) (rw_ r) i).length, by omega, rfl, ?_⟩
        rintro G24 rfl
        exact go true (fun z => by cases z)
      · refine ⟨(bare (coB n sz rw_) (rw_ r) i).length, by omega, rfl, ?_⟩
        have hs0 := hsame hb2
        refine ⟨fun c2 => ⟨(bare (coB n sz rw_) (rw_ r) i).length, by omega, rfl, ?_⟩, fun c2 => ⟨(bare (coB n sz rw_) (rw_ r) i).length, by omega, rfl, ?_⟩⟩
        · rintro G31 rfl
          refine go false (fun _ k hk => ?_)
          rw [el] at hk
          rw [eb]
          by_cases e : k = (bare (coB n sz rw_) (rw_ r) i).length
          · rw [e, getD_eq, ← c2, hold _ (Nat.le_refl _)]
          · rw [getD_lt (by omega)]
            exact hs0 k (by omega)
        · rintro G36 rfl
          exact go true (fun z => by cases z)
/-- Distances: the bare ROWS as they were told last, and their DISTANCES -/
def dC (n : Nat) (B : Nat → List Nat) (G : GS) : Prop := (∀ r, r < n → (B r).length ≤ 12 ∧ (∀ k, k < (B r).length → (B r).getD k 0 ≤ 500) ∧ G.1 13 r = nI (B r).length ∧ listAt G (88 + r) (B r)) ∧ (∀ r, n ≤ r → r < 40 → G.1 13 r = -1) ∧ (∀ a b, a < n → b < n → G.1 (128 + a) b = nI (dL (B a) (B b))) ∧ ∀ a, a < 40 → G.1 (128 + a) a = 0
theorem dC.fr {P : Nat → Prop} {G' : GS} {B : Nat → List Nat} (h : dC n B G) (hn : n ≤ 40) (hf : fr P G G') (h13 : ¬ P 13) (hb : ∀ a, 88 ≤ a → a < 168 → ¬ P a) : dC n B G' := by
  refine ⟨fun r hr => ?_, fun r h1 h2 => by rw [hf.i h13]; exact h.2.1 r h1 h2, fun a b h1 h2 => by rw [hf.i (hb _ (by omega) (by omega))]; exact h.2.2.1 a b h1 h2, fun a ha => by rw [hf.i (hb _ (by omega) (by omega))]; exact h.2.2.2 a ha⟩
  obtain ⟨a1, a2, a3, a4⟩ := h.1 r hr
  exact ⟨a1, a2, by rw [hf.i h13]; exact a3, fun k hk => by rw [hf.i (hb _ (by omega) (by omega))]; exact a4 k hk⟩
theorem s_X0_between {a b : Nat} (ha : a < 40) (hb : b < 40) {post : Int32 → GS → Prop} (h : post (G.1 (128 + a) b) G) : wp_X0_between G (nI a) (nI b) post := by unfold wp_X0_between; exact ⟨a, ha, rfl, b, hb, rfl, h⟩
/-- Distances.renew: there is one REPORT more than the DISTANCES know of -/
theorem s_X0_renew {k0 : Nat} {B : Nat → List Nat} (hC : rC n sz rw_ ver fx G) (hR : rOK n sz rw_) (hk0 : k0 ≤ n) (hD : dC k0 B G) {post : GS → Prop} (h : ∀ G', dC n (bR n sz rw_) G' → fr (fun a => a = 13 ∨ a = 36 ∨ (88 ≤ a ∧ a < 168) ∨ 288 ≤ a) G G' → post G') : wp_X0_renew G post := by
  have hn := hR.1
  unfold wp_X0_renew
  show wp_X3_howMany G _
  unfold wp_X3_howMany
  rw [hC.1]
  -- the ROWS are stripped
  refine ⟨fun m v G1 => ∃ i, i ≤ n ∧ m = n - i ∧ v = nI i ∧ fr (fun a => a = 13 ∨ a = 36 ∨ (88 ≤ a ∧ a < 128)) G G1 ∧ (∀ r, r < i → G1.1 13 r = nI (bR n sz rw_ r).length ∧ listAt G1 (88 + r) (bR n sz rw_ r) ∧ ∃ ch : Bool, G1.1 36 r = bI ch ∧ (ch = false → r < k0 ∧ (B r).length = (bR n sz rw_ r).length ∧ ∀ k, k < (bR n sz rw_ r).length → (B r).getD k 0 = (bR n sz rw_ r).getD k 0)) ∧ (∀ r, i ≤ r → r < 40 → G1.1 13 r = G.1 13 r ∧ ∀ k, G1.1 (88 + r) k = G.1 (88 + r) k), ⟨n, 0, by omega, by omega, rfl, fr.rf, fun r hr => absurd hr (by omega), fun _ _ _ => ⟨rfl, fun _ => rfl⟩⟩, ?_⟩
  rintro m v G1 ⟨i, hi, rfl, rfl, hfr, hdone, hrest⟩
  refine pk_le n i (fun c => ?_) (fun c => ?_)
  · have e : i = n := by omega
    subst e
    -- the pairs
    refine ⟨fun m v G2 => ∃ a, a ≤ i ∧ m = i - a ∧ v = nI a ∧ fr (fun a => (128 ≤ a ∧ a < 168) ∨ 288 ≤ a) G1 G2 ∧ (∀ x y, x < a → y < a → G2.1 (128 + x) y = nI (dist i sz rw_ x y)) ∧ (∀ x y, x < 40 → y < 40 → (a ≤ x ∨ a ≤ y) → G2.1 (128 + x) y = G.1 (128 + x) y) ∧ ∀ x, x < 40 → G2.1 (128 + x) x = 0, ⟨i, 0, by omega, by omega, rfl, fr.rf, fun x y hx => absurd hx (by omega), fun x y hx hy _ => hfr.i (by omega) _, fun x hx => by rw [hfr.i (by omega)]; exact hD.2.2.2 x hx⟩, ?_⟩
    rintro m2 v2 G2 ⟨a, ha, rfl, rfl, hfr2, hkn, hold, hself⟩
    refine pk_le i a (fun c2 => ?_) (fun c2 => ?_)
    · have e : a = i := by omega
      subst e
      refine h G2 ⟨fun r hr => ?_, fun r h1 h2 => ?_, fun x y hx hy => hkn x y hx hy, hself⟩ ?_
      · obtain ⟨d1, d2, -⟩ := hdone r hr
        exact ⟨bR_len hR hr, bR_500 hR hr, by rw [hfr2.i (by omega)]; exact d1, fun k hk => by rw [hfr2.i (by omega)]; exact d2 k hk⟩
      · rw [hfr2.i (by omega), (hrest r h1 h2).1]
        exact hD.2.1 r (by omega) h2
      · exact (hfr.mono (fun a ha => by omega)).tr (hfr2.mono (fun a ha => by omega))
    · refine ⟨fun m v G3 => ∃ b, b ≤ a ∧ m = a - b ∧ v = nI b ∧ fr (fun a => (128 ≤ a ∧ a < 168) ∨ 288 ≤ a) G1 G3 ∧ (∀ x y, x < a → y < a → G3.1 (128 + x) y = nI (dist i sz rw_ x y)) ∧ (∀ y, y < b → G3.1 (128 + a) y = nI (dist i sz rw_ a y) ∧ G3.1 (128 + y) a = nI (dist i sz rw_ y a)) ∧ (∀ x y, x < 40 → y < 40 → (a < x ∨ a < y ∨ (x = a ∧ b ≤ y) ∨ (y = a ∧ b ≤ x)) → G3.1 (128 + x) y = G.1 (128 + x) y) ∧ ∀ x, x < 40 → G3.1 (128 + x) x = 0, ⟨a, 0, by omega, by omega, rfl, hfr2, hkn, fun y hy => absurd hy (by omega), fun x y hx hy hor => hold x y hx hy (by omega), hself⟩, ?_⟩
      rintro m3 v3 G3 ⟨b, hb, rfl, rfl, hfr3, hkn3, hnew3, hold3, hself3⟩
      refine pk_le a b (fun c3 => ?_) (fun c3 => ?_)
      · have e : b = a := by omega
        subst e
        refine ⟨i - (b + 1), by omega, b + 1, by omega, rfl, nI_1 _, hfr3, fun x y hx hy => ?_, fun x y hx hy hor => hold3 x y hx hy (by omega), hself3⟩
        by_cases ex : x = b
        · by_cases ey : y = b
          · rw [ex, ey, hself3 b (by omega)]
            unfold dist
            rw [dL_self]; rfl
          · rw [ex]; exact (hnew3 y (by omega)).1
        · by_cases ey : y = b
          · rw [ey]; exact (hnew3 x (by omega)).2
          · exact hkn3 x y (by omega) (by omega)
      · obtain ⟨da1, da2, cha, dz1, dz2⟩ := hdone a (by omega)
        obtain ⟨db1, db2, chb, ez1, ez2⟩ := hdone b (by omega)
        have m13a : G3.1 13 a = nI (bR i sz rw_ a).length := by rw [hfr3.i (by omega)]; exact da1
        have m13b : G3.1 13 b = nI (bR i sz rw_ b).length := by rw [hfr3.i (by omega)]; exact db1
        have mra : rowAt G3 (88 + a) (bR i sz rw_ a).length (fun k => (bR i sz rw_ a).getD k 0) := ⟨bR_len hR (by omega), fun k hk => ⟨bR_500 hR (show a < i by omega) k hk, by rw [hfr3.i (by omega)]; exact da2 k hk⟩⟩
        have mrb : rowAt G3 (88 + b) (bR i sz rw_ b).length (fun k => (bR i sz rw_ b).getD k 0) := ⟨bR_len hR (by omega), fun k hk => ⟨bR_500 hR (show b < i by omega) k hk, by rw [hfr3.i (by omega)]; exact db2 k hk⟩⟩
        have go : wp_X0_measure G3 (nI a) (nI b) (fun r_14 G_13 => ∃ j79_14 : Nat, j79_14 < 40 ∧ nI a = nI j79_14 ∧ (∃ j84_15 : Nat, j84_15 < 40 ∧ nI b = nI j84_15 ∧ (∀ G_17 : GS, G_17 = sI G_13 (128 + j79_14) j84_15 r_14 → (∃ j91_17 : Nat, j91_17 < 40 ∧ nI b = nI j91_17 ∧ (∃ j95_18 : Nat, j95_18 < 40 ∧ nI a = nI j95_18 ∧ (∀ G_20 : GS, G_20 = sI G_17 (128 + j91_17) j95_18 r_14 → (∃ k_22 : Nat, k_22 < a - b ∧ ∃ b', b' ≤ a ∧ k_22 = a - b' ∧ nI b + 1 = nI b' ∧ fr (fun a => (128 ≤ a ∧ a < 168) ∨ 288 ≤ a) G1 G_20 ∧ (∀ x y, x < a → y < a → G_20.1 (128 + x) y = nI (dist i sz rw_ x y)) ∧ (∀ y, y < b' → G_20.1 (128 + a) y = nI (dist i sz rw_ a y) ∧ G_20.1 (128 + y) a = nI (dist i sz rw_ y a)) ∧ (∀ x y, x < 40 → y < 40 → (a < x ∨ a < y ∨ (x = a ∧ b' ≤ y) ∨ (y = a ∧ b' ≤ x)) → G_20.1 (128 + x) y = G.1 (128 + x) y) ∧ ∀ x, x < 40 → G_20.1 (128 + x) x = 0))))))) := by
          refine s_X0_measure (by omega) (by omega) m13a m13b mra mrb (fun G4 hfr4 => ?_)
          refine ⟨a, by omega, rfl, b, by omega, rfl, ?_⟩
          rintro G17 rfl
          refine ⟨b, by omega, rfl, a, by omega, rfl, ?_⟩
          rintro G20 rfl
          refine ⟨a - (b + 1), by omega, b + 1, by omega, rfl, nI_1 _, ((hfr3.tr (hfr4.mono (fun a ha => Or.inr ha))).tr (fr.sI (by omega))).tr (fr.sI (by omega)), fun x y hx hy => ?_, fun y hy => ?_, fun x y hx hy hor => ?_, fun x hx => ?_⟩
          · rw [sI_get, if_neg (by omega), sI_get, if_neg (by omega), hfr4.i (by omega)]
            exact hkn3 x y hx hy
          · by_cases e : y = b
            · subst e
              refine ⟨?_, ?_⟩
              · rw [sI_get, if_neg (by omega), sI_same]; rfl
              · rw [sI_same, show dist i sz rw_ y a = dist i sz rw_ a y from dL_symm _ _]; rfl
            · obtain ⟨n1, n2⟩ := hnew3 y (by omega)
              refine ⟨?_, ?_⟩
              · rw [sI_get, if_neg (by omega), sI_get, if_neg (by omega), hfr4.i (by omega)]; exact n1
              · rw [sI_get, if_neg (by omega), sI_get, if_neg (by omega), hfr4.i (by omega)]; exact n2
          · rw [sI_get, if_neg (by omega), sI_get, if_neg (by omega), hfr4.i (by omega)]
            exact hold3 x y hx hy (by omega)
          · rw [sI_get, if_neg (by omega), sI_get, if_neg (by omega), hfr4.i (by omega)]
            exact hself3 x hx
        refine ⟨a, by omega, rfl, ?_⟩
        rw [show G3.1 36 a = bI cha by rw [hfr3.i (by omega)]; exact dz1]
        refine bI_brn (fun _ => go) (fun hza => ?_)
        refine ⟨b, by omega, rfl, ?_⟩
        rw [show G3.1 36 b = bI chb by rw [hfr3.i (by omega)]; exact ez1]
        refine bI_br (fun hzb => ?_) (fun _ => go)
        obtain ⟨ka, la, xa⟩ := dz2 hza
        obtain ⟨kb, lb, xb⟩ := ez2 hzb
        have ed1 : ∀ x y, (x = a ∧ y = b) ∨ (x = b ∧ y = a) → dL (B x) (B y) = dist i sz rw_ x y := by
          rintro x y (⟨rfl, rfl⟩ | ⟨rfl, rfl⟩)
          · unfold dist dL
            rw [la, lb]
            exact ed_congr (fun k hk => xa k hk) (fun k hk => xb k hk)
          · unfold dist dL
            rw [la, lb]
            exact ed_congr (fun k hk => xb k hk) (fun k hk => xa k hk)
        refine ⟨a - (b + 1), by omega, b + 1, by omega, rfl, nI_1 _, hfr3, hkn3, fun y hy => ?_, fun x y hx hy hor => hold3 x y hx hy (by omega), hself3⟩
        by_cases e : y = b
        · subst e
          refine ⟨?_, ?_⟩
          · rw [hold3 a y (by omega) (by omega) (by omega), hD.2.2.1 a y ka kb, ed1 a y (Or.inl ⟨rfl, rfl⟩)]
          · rw [hold3 y a (by omega) (by omega) (by omega), hD.2.2.1 y a kb ka, ed1 y a (Or.inr ⟨rfl, rfl⟩)]
        · exact hnew3 y (by omega)
  · have hC1 : rC n sz rw_ ver fx G1 := hC.fr hn hfr (by omega) (fun a h1 h2 => by omega) (by omega) (fun a h1 h2 => by omega)
    refine s_X0_strip hC1 hR (show i < n by omega) (fun ch G' hl h13 hfe hsame => ?_)
    refine ⟨i, by omega, rfl, bI_01 _, ?_⟩
    rintro G40 rfl
    refine ⟨n - (i + 1), by omega, i + 1, by omega, rfl, nI_1 _, (hfr.tr (hfe.r (fun a k h => by omega))).tr (fr.sI (by omega)), fun r hr => ?_, fun r h1 h2 => ?_⟩
    · by_cases e : r = i
      · subst e
        refine ⟨by rw [sI_ne1 _ _ _ _ (by omega)]; exact h13, fun k hk => by rw [sI_ne1 _ _ _ _ (by omega)]; exact hl k hk, ch, sI_same _ _ _ _, fun hc => ?_⟩
        obtain ⟨s1, s2⟩ := hsame hc
        have hrk : r < k0 := by
          rcases Nat.lt_or_ge r k0 with z | z
          · exact z
          · have h9 := hD.2.1 r z (by omega)
            rw [← (hrest r (Nat.le_refl _) (by omega)).1, s1] at h9
            have hl12 := bR_len hR (show r < n by omega)
            exact absurd (by rw [h9]; decide) (nI_pos (n := (bR n sz rw_ r).length) (by omega))
        obtain ⟨b1, b2, b3, b4⟩ := hD.1 r hrk
        have hl12 := bR_len hR (show r < n by omega)
        have el : (B r).length = (bR n sz rw_ r).length := by
          have e9 : nI (B r).length = nI (bR n sz rw_ r).length := by rw [← b3, ← (hrest r (Nat.le_refl _) (by omega)).1]; exact s1
          exact (nI_eq (by omega) (by omega)).mp e9
        refine ⟨hrk, el, fun k hk => ?_⟩
        have e9 : nI ((B r).getD k 0) = nI ((bR n sz rw_ r).getD k 0) := by rw [← b4 k (by omega), ← (hrest r (Nat.le_refl _) (by omega)).2 k]; exact s2 k hk
        have h1 := b2 k (by omega)
        have h2 := bR_500 hR (show r < n by omega) k hk
        exact (nI_eq (by omega) (by omega)).mp e9
      · obtain ⟨d1, d2, ch2, d3, d4⟩ := hdone r (by omega)
        refine ⟨by rw [sI_ne1 _ _ _ _ (by omega), hfe.i (by omega)]; exact d1, fun k hk => by rw [sI_ne1 _ _ _ _ (by omega), hfe.i (by omega)]; exact d2 k hk, ch2, by rw [sI_ne2 _ _ _ _ e, hfe.i (by omega)]; exact d3, d4⟩
    · obtain ⟨r1, r2⟩ := hrest r (by omega) h2
      refine ⟨by rw [sI_ne1 _ _ _ _ (by omega), hfe.i (by omega)]; exact r1, fun k => by rw [sI_ne1 _ _ _ _ (by omega), hfe.i (by omega)]; exact r2 k⟩
end DS
