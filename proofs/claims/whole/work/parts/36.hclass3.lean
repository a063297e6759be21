/-! the class's best change, and settling -/
section HF
variable {G : GS} {n : Nat} {D : Nat → Nat → Nat} {T : Nat} {mu : Nat → Nat → Nat} {hp : Nat → Nat}
theorem lp_id {β : Type} {st : Nat → β → β} {b : β} : ∀ {n : Nat}, (∀ x, x < n → ∀ c, st x c = c) → lp st n b = b
  | 0, _ => rfl
  | n + 1, h => by rw [lp_s, h n (by omega)]; exact lp_id (fun x hx => h x (by omega))
theorem stG_t {g : Nat → Nat → Int} {a x : Nat} {b : BS} (c : a < x ∧ hp a = a ∧ hp x = x) : stG n g hp a x b = ask (ml n g hp a x) a x true b := by unfold stG; rw [if_pos c]
theorem ask_f {v : Int} {w t : Nat} {m : Bool} {b : BS} (c : ¬ v < b.1) : ask v w t m b = b := by unfold ask; rw [if_neg c]
theorem ask_t {v : Int} {w t : Nat} {m : Bool} {b : BS} (c : v < b.1) : ask v w t m b = (v, w, t, m) := by unfold ask; rw [if_pos c]
theorem s_X1_findBest (hE : eOK n D T mu) (hH : hC n hp G) (hO : hOK n hp) (hJ : ∀ r j, r < n → j < 40 → G.1 (208 + r) j = iI (jn n (gn D T mu) hp r j)) (hL : ∀ a b, a < rk hp n → b < rk hp n → G.1 (248 + a) b = iI (jm n (gn D T mu) hp a b)) {post : GS → Prop} (h : ∀ G', bC n hp (best n (gn D T mu) hp) G' → fe (fun a k => a = 5 ∧ 11 ≤ k) G G' → post G') : wp_X1_findBest G post := by
  have hn := hE.1
  have hrn := rk_bd hp n
  unfold wp_X1_findBest
  rintro G1 rfl
  refine ⟨fun m v G2 => ∃ i, i ≤ n ∧ m = n - i ∧ v = nI i ∧ fe (fun a k => a = 5 ∧ 11 ≤ k) G G2 ∧ bC n hp (lp (stA n (gn D T mu) hp) i (0, 0, 0, false)) G2, ⟨n, 0, by omega, by omega, rfl, fe.sI ⟨rfl, by omega⟩, ⟨by rw [sI_same]; rfl, fun hc => absurd hc (by show ¬ (0 : Int) < 0; omega)⟩⟩, ?_⟩
  rintro m v G2 ⟨i, hi, rfl, rfl, hfe, hB⟩
  have hH2 : hC n hp G2 := hH.fe hfe (by omega) (by omega) (fun a k h1 h2 => by omega)
  refine pk_le n i (fun c => ?_) (fun c => ?_) hH2.1
  · have e : i = n := by omega
    subst e
    refine ⟨fun m v G3 => ∃ a, a ≤ i ∧ m = rk hp i - rk hp a ∧ v = nI (rk hp a) ∧ fe (fun a k => a = 5 ∧ 11 ≤ k) G G3 ∧ bC i hp (lp (stL i (gn D T mu) hp) a (lp (stA i (gn D T mu) hp) i (0, 0, 0, false))) G3, ⟨_, 0, by omega, rfl, rfl, hfe, hB⟩, ?_⟩
    rintro m3 v3 G3 ⟨a, ha, rfl, rfl, hfe3, hB3⟩
    have hH3 : hC i hp G3 := hH.fe hfe3 (by omega) (by omega) (fun a k h1 h2 => by omega)
    have hle := rk_le (hp := hp) ha
    refine pk_le (rk hp i) (rk hp a) (fun c2 => ?_) (fun c2 => ?_) hH3.2.1
    · have es : lp (stL i (gn D T mu) hp) i (lp (stA i (gn D T mu) hp) i (0, 0, 0, false)) = lp (stL i (gn D T mu) hp) a (lp (stA i (gn D T mu) hp) i (0, 0, 0, false)) := lp_skip ha (fun z h1 h2 c => lp_id (fun y hy d => by unfold stG; rw [if_neg (fun q => nohead (n := i) (by omega) h1 h2 q.2.1)]))
      refine h G3 ?_ hfe3
      unfold best
      rw [es]
      exact hB3
    · rintro y rfl
      obtain ⟨a', a1, a2, a3, a4, a5⟩ := rk_next (i - a) a (by omega) rfl c2
      have es : lp (stL i (gn D T mu) hp) a' (lp (stA i (gn D T mu) hp) i (0, 0, 0, false)) = lp (stL i (gn D T mu) hp) a (lp (stA i (gn D T mu) hp) i (0, 0, 0, false)) := lp_skip a1 (fun z h1 h2 c => lp_id (fun y hy d => by unfold stG; rw [if_neg (fun q => a5 z h1 h2 q.2.1)]))
      rw [← es] at hB3
      have hV3 : bV i (gn D T mu) hp (lp (stL i (gn D T mu) hp) a' (lp (stA i (gn D T mu) hp) i (0, 0, 0, false))) := lp_inv (lpA_V (Nat.le_refl _)) (fun k hk c hc => lp_inv hc (fun j hj d hd => stG_V hj hd))
      generalize hb0 : lp (stL i (gn D T mu) hp) a' (lp (stA i (gn D T mu) hp) i (0, 0, 0, false)) = b0 at hB3 hV3
      have er : rk hp (a' + 1) = rk hp a + 1 := by rw [rk_t a3, a4]
      refine ⟨fun m v G4 => ∃ x, a' < x ∧ x ≤ i ∧ m = rk hp i - rk hp x ∧ v = nI (rk hp x) ∧ fe (fun a k => a = 5 ∧ 11 ≤ k) G G4 ∧ bC i hp (lp (stG i (gn D T mu) hp a') x b0) G4, ⟨_, a' + 1, by omega, by omega, rfl, by rw [er]; exact nI_1 _, hfe3, ?_⟩, ?_⟩
      · rw [lp_skip (h := 0) (by omega) (fun x _ hx c => by unfold stG; rw [if_neg (by omega)])]
        exact hB3
      · rintro m4 v4 G4 ⟨x, hax, hx, rfl, rfl, hfe4, hB4⟩
        have hH4 : hC i hp G4 := hH.fe hfe4 (by omega) (by omega) (fun a k h1 h2 => by omega)
        have hV4 : bV i (gn D T mu) hp (lp (stG i (gn D T mu) hp a') x b0) := lp_inv hV3 (fun k hk d hd => stG_V (by omega) hd)
        have hle4 := rk_le (hp := hp) hx
        refine pk_le (rk hp i) (rk hp x) (fun c3 => ?_) (fun c3 => ?_) hH4.2.1
        · have es4 : lp (stG i (gn D T mu) hp a') i b0 = lp (stG i (gn D T mu) hp a') x b0 := lp_skip hx (fun z h1 h2 c => by unfold stG; rw [if_neg (fun q => nohead (n := i) (by omega) h1 h2 q.2.2)])
          refine ⟨rk hp i - rk hp (a' + 1), by omega, a' + 1, by omega, rfl, by rw [er]; exact nI_1 _, hfe4, ?_⟩
          rw [lp_s, hb0]
          unfold stL
          rw [es4]
          exact hB4
        · obtain ⟨x', d1, d2, d3, d4, d5⟩ := rk_next (i - x) x (by omega) rfl c3
          have es4 : lp (stG i (gn D T mu) hp a') x' b0 = lp (stG i (gn D T mu) hp a') x b0 := lp_skip d1 (fun z h1 h2 c => by unfold stG; rw [if_neg (fun q => d5 z h1 h2 q.2.2)])
          have er4 : rk hp (x' + 1) = rk hp x + 1 := by rw [rk_t d3, d4]
          have emel : G4.1 (248 + rk hp a) (rk hp x) = iI (ml i (gn D T mu) hp a' x') := by rw [hfe4.i (by omega), hL _ _ c2 c3, ← a4, ← d4, ml_jm hO a3 d3 (by omega)]
          have hmb := ml_bd (hp := hp) (a := a') (b := x') hE
          have hbb := bV_bd hE hV4
          refine ⟨rk hp a, by omega, rfl, rk hp x, by omega, rfl, ?_⟩
          rw [emel, hB4.1, iI_le (by omega) (by omega)]
          refine ⟨fun c5 => ?_, fun c5 => ?_⟩
          · refine ⟨rk hp i - rk hp (x' + 1), by omega, x' + 1, by omega, by omega, rfl, by rw [er4]; exact nI_1 _, hfe4, ?_⟩
            rw [lp_s, es4, stG_t ⟨by omega, a3, d3⟩, ask_f (by omega)]
            exact hB4
          · refine ⟨rk hp a, by omega, rfl, rk hp x, by omega, rfl, ?_⟩
            rintro G18 rfl G19 rfl G20 rfl G21 rfl
            refine ⟨rk hp i - rk hp (x' + 1), by omega, x' + 1, by omega, by omega, rfl, by rw [er4]; exact nI_1 _, (((hfe4.tr (fe.sI ⟨rfl, by omega⟩)).tr (fe.sI ⟨rfl, by omega⟩)).tr (fe.sI ⟨rfl, by omega⟩)).tr (fe.sI ⟨rfl, by omega⟩), ?_⟩
            rw [lp_s, es4, stG_t ⟨by omega, a3, d3⟩, ask_t (by omega)]
            refine ⟨?_, fun _ => ⟨fun _ => ⟨?_, ?_, ?_⟩, fun z => (by cases z)⟩⟩
            · rw [sI_ne2 _ _ _ _ (by decide), sI_ne2 _ _ _ _ (by decide), sI_ne2 _ _ _ _ (by decide), sI_same]; exact emel
            · rw [sI_ne2 _ _ _ _ (by decide), sI_ne2 _ _ _ _ (by decide), sI_same]
            · rw [sI_ne2 _ _ _ _ (by decide), sI_same]; show _ = nI (rk hp x'); rw [d4]
            · rw [sI_same]; show _ = nI (rk hp a'); rw [a4]
  · refine s_X1_findBestMove hE hH2 hO (fun r j hr hj => by rw [hfe.i (by omega)]; exact hJ r j hr hj) (show i < n by omega) hB (lpA_V hi) (fun G4 hB4 hfe4 => ?_)
    exact ⟨n - (i + 1), by omega, i + 1, by omega, rfl, nI_1 _, hfe.tr hfe4, hB4⟩
/-- Heaps.doBest -/
theorem s_X1_doBest (hn : n ≤ 40) (hH : hC n hp G) (hO : hOK n hp) {g : Nat → Nat → Int} {b : BS} (hB : bC n hp b G) (hV : bV n g hp b) (hb : b.1 < 0) {post : GS → Prop} (h : ∀ G', hC n (canon (app b hp)) G' → fe (fun a k => (a = 5 ∧ k = 8) ∨ (14 ≤ a ∧ a ≤ 17)) G G' → post G') : wp_X1_doBest G post := by
  have hrn := rk_bd hp n
  have hlt : ∀ r, r < n → rk hp (hp r) < rk hp n := fun r hr => rk_lt (hO.2 r hr).2 (by have := (hO.2 r hr).1; omega)
  obtain ⟨hm, hf⟩ := hB.2 hb
  unfold wp_X1_doBest
  rcases hV.2 hb with ⟨m0, w0, -, t0⟩ | ⟨m0, w0, t0, hw, ht, -⟩
  · obtain ⟨e12, e14⟩ := hf m0
    rw [e12]
    refine ⟨fun z => absurd z (nI_m1 (by omega)), fun _ => ⟨b.2.1, by omega, rfl, ?_⟩⟩
    rintro G15 rfl
    have htl : (if b.2.2.1 = 100 then rk hp n else rk hp b.2.2.1) ≤ rk hp n := by
      split
      · exact Nat.le_refl _
      · rcases t0 with t0 | t0
        · exact rk_le (by omega)
        · omega
    generalize hf0 : (fun r => if r = b.2.1 then (if b.2.2.1 = 100 then rk hp n else rk hp b.2.2.1) else rk hp (hp r)) = f
    have hfr : ∀ r, f r = if r = b.2.1 then (if b.2.2.1 = 100 then rk hp n else rk hp b.2.2.1) else rk hp (hp r) := fun r => by rw [← hf0]
    refine s_X1_numberAnew (n := n) (f := f) (by rw [sI_ne1 _ _ _ _ (by decide)]; exact hH.1) hn (fun r hr => ?_) (fun r hr => ?_) (fun G' hC' hfe' => ?_)
    · rw [hfr]
      by_cases e : r = b.2.1
      · rw [e, sI_same, if_pos rfl]; exact e14
      · rw [sI_ne2 _ _ _ _ e, if_neg e]; exact hH.2.2.1 r hr
    · rw [hfr]
      have := hlt r hr
      split <;> omega
    · refine h G' (hC'.congr (canon_hOK _ hn) (fun r hr => canon_congr (n := n) (fun x y hx hy => ?_) hr)) ((fe.sI (by omega)).tr hfe')
      have ax : ∀ z, app b hp z = if z = b.2.1 then b.2.2.1 else hp z := fun z => by unfold app; rw [m0]; rfl
      rw [hfr, hfr, ax, ax]
      have key : ∀ z, z < n → (rk hp (hp z) = (if b.2.2.1 = 100 then rk hp n else rk hp b.2.2.1) ↔ hp z = b.2.2.1) := fun z hz => by
        have l1 := hlt z hz
        have l2 := (hO.2 z hz).1
        by_cases e : b.2.2.1 = 100
        · rw [if_pos e]
          exact ⟨fun q => absurd q (by omega), fun q => absurd q (by omega)⟩
        · rw [if_neg e]
          rcases t0 with t0 | t0
          · exact rk_eq hO hz t0.2.1
          · exact absurd t0 e
      by_cases ex : x = b.2.1
      · by_cases ey : y = b.2.1
        · rw [if_pos ex, if_pos ey, if_pos ex, if_pos ey]
          exact ⟨fun _ => rfl, fun _ => rfl⟩
        · rw [if_pos ex, if_neg ey, if_pos ex, if_neg ey]
          exact ⟨fun q => ((key y hy).mp q.symm).symm, fun q => ((key y hy).mpr q.symm).symm⟩
      · by_cases ey : y = b.2.1
        · rw [if_neg ex, if_pos ey, if_neg ex, if_pos ey]
          exact key x hx
        · rw [if_neg ex, if_neg ey, if_neg ex, if_neg ey]
          exact rk_eq hO hx (hO.2 y hy).2
  · obtain ⟨e12, e13, e14⟩ := hm m0
    rw [e12]
    refine ⟨fun _ => ?_, fun z => absurd rfl z⟩
    generalize hf0 : (fun r => if rk hp (hp r) = rk hp b.2.2.1 then rk hp b.2.1 else rk hp (hp r)) = f
    have hfr : ∀ r, f r = if rk hp (hp r) = rk hp b.2.2.1 then rk hp b.2.1 else rk hp (hp r) := fun r => by rw [← hf0]
    have hwn : rk hp b.2.1 < rk hp n := rk_lt hw (by omega)
    have htn : rk hp b.2.2.1 < rk hp n := rk_lt ht (by omega)
    refine ⟨fun m v G2 => ∃ i, i ≤ n ∧ m = n - i ∧ v = nI i ∧ fe (fun a _ => a = 14) G G2 ∧ (∀ r, r < i → G2.1 14 r = nI (f r)) ∧ ∀ r, i ≤ r → r < n → G2.1 14 r = nI (rk hp (hp r)), ⟨n, 0, by omega, by omega, rfl, fe.rf, fun r hr => absurd hr (by omega), fun r _ hr => hH.2.2.1 r hr⟩, ?_⟩
    rintro m v G2 ⟨i, hi, rfl, rfl, hfe2, hlo, hhi⟩
    refine pk_le n i (fun c => ?_) (fun c => ?_) (by rw [hfe2.i (by omega)]; exact hH.1)
    · refine s_X1_numberAnew (n := n) (f := f) (by rw [hfe2.i (by omega)]; exact hH.1) hn (fun r hr => hlo r (by omega)) (fun r hr => ?_) (fun G' hC' hfe' => ?_)
      · rw [hfr]
        have := hlt r hr
        split <;> omega
      · refine h G' (hC'.congr (canon_hOK _ hn) (fun r hr => canon_congr (n := n) (fun x y hx hy => ?_) hr)) ((hfe2.mono (fun a k z => by omega)).tr hfe')
        have ax : ∀ z, app b hp z = if hp z = b.2.2.1 then b.2.1 else hp z := fun z => by unfold app; rw [m0]; rfl
        have fx : ∀ z, z < n → f z = rk hp (app b hp z) := fun z hz => by
          rw [hfr, ax]
          by_cases e : hp z = b.2.2.1
          · rw [if_pos e, if_pos (by rw [e])]
          · rw [if_neg e, if_neg (fun q => e ((rk_eq hO hz ht).mp q))]
        have hd : ∀ z, z < n → hp (app b hp z) = app b hp z := fun z hz => by
          rw [ax]
          by_cases e : hp z = b.2.2.1
          · rw [if_pos e]; exact hw
          · rw [if_neg e]; exact (hO.2 z hz).2
        rw [fx x hx, fx y hy]
        exact ⟨fun q => rk_inj (hd x hx) (hd y hy) q, fun q => by rw [q]⟩
    · have hli := hlt i (by omega)
      refine ⟨i, by omega, rfl, ?_⟩
      refine pk_ne (rk hp (hp i)) (rk hp b.2.2.1) (fun c2 => ?_) (fun c2 => ?_) (hhi i (Nat.le_refl _) (by omega)) (by rw [hfe2.i (by omega)]; exact e13)
      · refine ⟨n - (i + 1), by omega, i + 1, by omega, rfl, nI_1 _, hfe2, fun r hr => ?_, fun r h1 h2 => hhi r (by omega) h2⟩
        by_cases e : r = i
        · rw [e, hfr, if_neg c2]; exact hhi i (Nat.le_refl _) (by omega)
        · exact hlo r (by omega)
      · refine ⟨i, by omega, rfl, ?_⟩
        rintro G11 rfl
        refine ⟨n - (i + 1), by omega, i + 1, by omega, rfl, nI_1 _, hfe2.tr (fe.sI rfl), fun r hr => ?_, fun r h1 h2 => by rw [sI_ne2 _ _ _ _ (by omega)]; exact hhi r (by omega) h2⟩
        by_cases e : r = i
        · rw [e, sI_same, hfr, if_pos c2, hfe2.i (by omega)]; exact e14
        · rw [sI_ne2 _ _ _ _ e]; exact hlo r (by omega)
/-- what settling may change in the class -/
def cP (a k : Nat) : Prop := (a = 5 ∧ (k = 8 ∨ 10 ≤ k)) ∨ (14 ≤ a ∧ a ≤ 17) ∨ (208 ≤ a ∧ a < 288)
/-- Heaps.settle -/
theorem s_X1_settle (hE : eOK n D T mu) (hM : eC_ n D T mu G) (hH : hC n hp G) (hO : hOK n hp) {post : GS → Prop} (h : ∀ G', hC n (setl n (gn D T mu) hp).1 G' → G'.1 5 10 = G.1 5 10 + nI (setl n (gn D T mu) hp).2 → fe cP G G' → post G') : wp_X1_settle G post := by
  have hn := hE.1
  unfold wp_X1_settle
  generalize hg : gn D T mu = g at h
  refine ⟨fun m v G1 => ∃ k, v = nI k ∧ 2 * (k : Int) + W2 n D T mu (itN n g k hp) ≤ 1676800 ∧ m = (W2 n D T mu (itN n g k hp)).toNat ∧ (∀ i, i < k → (best n g (itN n g i hp)).1 < 0) ∧ hC n (itN n g k hp) G1 ∧ G1.1 5 10 = G.1 5 10 + nI k ∧ fe cP G G1, ⟨_, 0, rfl, ?_, rfl, fun i hi => absurd hi (by omega), hH, (Int32.add_zero _).symm, fe.rf⟩, ?_⟩
  · have := (W2_bd hE (itN n g 0 hp)).2
    omega
  rintro m v G1 ⟨k, rfl, hbud, rfl, hneg, hHk, hck, hfe1⟩
  have hw1 := W2_bd hE (itN n g k hp)
  have hOk : hOK n (itN n g k hp) := itN_hOK hO k
  refine pk_le 1000000 k (fun c => absurd c (by omega)) (fun c => ?_) rfl rfl (by omega) (by omega)
  have hM1 : eC_ n D T mu G1 := hM.fe hn hfe1 (by unfold cP; omega) (fun a k h1 h2 => by unfold cP; omega)
  refine s_X1_weighJoining hE hM1 hHk hOk (fun G3 hJ3 hfr3 => ?_)
  have hH3 : hC n (itN n g k hp) G3 := hHk.fe hfr3.e (by omega) (by omega) (fun a k h1 h2 => by omega)
  refine s_X1_weighMelting hn hH3 hOk hJ3 (fun G5 hL5 hfr5 => ?_)
  have hH5 : hC n (itN n g k hp) G5 := hH3.fe hfr5.e (by omega) (by omega) (fun a k h1 h2 => by omega)
  refine s_X1_findBest hE hH5 hOk (fun r j hr hj => by rw [hfr5.i (by omega)]; exact hJ3 r j hr hj) hL5 (fun G7 hB7 hfe7 => ?_)
  have hH7 : hC n (itN n g k hp) G7 := hH5.fe hfe7 (by omega) (by omega) (fun a k h1 h2 => by omega)
  have hVk : bV n g (itN n g k hp) (best n g (itN n g k hp)) := best_V n g _
  rw [hg] at hB7
  have hbd := bV_bd (n := n) (D := D) (T := T) (mu := mu) (hp := itN n g k hp) hE (by rw [hg]; exact hVk)
  have hfe17 : fe cP G G7 := ((hfe1.tr (hfr3.e.mono (fun a k z => by unfold cP; omega))).tr (hfr5.e.mono (fun a k z => by unfold cP; omega))).tr (hfe7.mono (fun a k z => by unfold cP; omega))
  have hc7 : G7.1 5 10 = G.1 5 10 + nI k := by rw [hfe7.i (by omega), hfr5.i (by omega), hfr3.i (by omega)]; exact hck
  rw [hB7.1, show (0 : Int32) = iI 0 from rfl, iI_lt (by omega) (by omega)]
  refine ⟨fun c7 => ?_, fun c7 => ?_⟩
  · have hW := W2_nxt (n := n) (D := D) (T := T) (mu := mu) hE hOk (by rw [hg]; exact c7)
    rw [hg] at hW
    have hW : W2 n D T mu (itN n g (k + 1) hp) = W2 n D T mu (itN n g k hp) + 2 * (best n g (itN n g k hp)).1 := hW
    have hw2 := W2_bd hE (itN n g (k + 1) hp)
    refine s_X1_doBest hn hH7 hOk hB7 hVk c7 (fun G10 hH10 hfe10 => ?_)
    rintro G12 rfl
    refine ⟨(W2 n D T mu (itN n g (k + 1) hp)).toNat, by omega, k + 1, nI_1 _, by omega, rfl, fun i hi => ?_, ?_, ?_, (hfe17.tr (hfe10.mono (fun a k z => by unfold cP; omega))).tr (fe.sI (by unfold cP; omega))⟩
    · by_cases e : i = k
      · rw [e]; exact c7
      · exact hneg i (by omega)
    · exact hH10.fe (P := fun a k => a = 5 ∧ k = 10) (fe.sI ⟨rfl, rfl⟩) (by omega) (by omega) (fun a k h1 h2 => by omega)
    · rw [sI_same, hfe10.i (by omega), hc7, Int32.add_assoc, nI_1]
  · have hst : stl n g hp (itN n g k hp) k := ⟨rfl, hneg, c7⟩
    rw [setl_eq hst] at h
    exact h G7 hH7 hc7 hfe17
end HF
