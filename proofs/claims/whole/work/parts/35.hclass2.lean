/-! what a change costs, as the class weighs it -/
def wz (m : Nat) : Int := if m = 1 then -1000 else if m = 2 then 1000 else 0
theorem gn_wz {D : Nat → Nat → Nat} {T : Nat} {mu : Nat → Nat → Nat} {a b : Nat} : gn D T mu a b = (D a b : Int) - T + wz (mu a b) := by
  unfold gn cT cA wz
  by_cases h1 : mu a b = 1
  · rw [if_neg (by omega), if_pos h1, if_pos h1]; omega
  · by_cases h2 : mu a b = 2
    · rw [if_pos h2, if_neg h1, if_neg h1, if_pos h2]; omega
    · rw [if_neg h2, if_neg h1, if_neg h1, if_neg h2]; omega
def eC_ (n : Nat) (D : Nat → Nat → Nat) (T : Nat) (mu : Nat → Nat → Nat) (G : GS) : Prop := G.1 5 9 = nI T ∧ (∀ a b, a < n → b < n → G.1 (128 + a) b = nI (D a b)) ∧ ∀ a b, a < 40 → b < 40 → G.1 (168 + a) b = iI (wz (mu a b))
theorem eC_.fe {P : Nat → Nat → Prop} {G G' : GS} {n : Nat} {D : Nat → Nat → Nat} {T : Nat} {mu : Nat → Nat → Nat} (h : eC_ n D T mu G) (hn : n ≤ 40) (hf : fe P G G') (h9 : ¬ P 5 9) (ha : ∀ a k, 128 ≤ a → a < 208 → ¬ P a k) : eC_ n D T mu G' := ⟨by rw [hf.i h9]; exact h.1, fun a b h1 h2 => by rw [hf.i (ha _ _ (by omega) (by omega))]; exact h.2.1 a b h1 h2, fun a b h1 h2 => by rw [hf.i (ha _ _ (by omega) (by omega))]; exact h.2.2 a b h1 h2⟩
/-- what it adds that REPORT r is with those of HEAP number j -/
def jT (g : Nat → Nat → Int) (hp : Nat → Nat) (r j k : Nat) : Int := if k = r then 0 else if rk hp (hp k) = j then g r k else 0
def jn (n : Nat) (g : Nat → Nat → Int) (hp : Nat → Nat) (r j : Nat) : Int := sm (jT g hp r j) n
def jm (n : Nat) (g : Nat → Nat → Int) (hp : Nat → Nat) (a b : Nat) : Int := sm (fun r => if rk hp (hp r) = a then jn n g hp r b else 0) n
theorem sm_sub (f g : Nat → Int) : ∀ n : Nat, sm (fun k => f k - g k) n = sm f n - sm g n
  | 0 => rfl
  | n + 1 => by rw [sm_s, sm_s, sm_s, sm_sub f g n]; omega
theorem rk_eq {n : Nat} {hp : Nat → Nat} (hO : hOK n hp) {k h : Nat} (hk : k < n) (hh : hp h = h) : rk hp (hp k) = rk hp h ↔ hp k = h := ⟨fun e => rk_inj (hO.2 k hk).2 hh e, fun e => by rw [e]⟩
theorem mv_jn {n : Nat} {g : Nat → Nat → Int} {hp : Nat → Nat} (hO : hOK n hp) {r h : Nat} (hr : r < n) (hh : hp h = h) (hne : h ≠ hp r) : mv n g hp r h = -jn n g hp r (rk hp (hp r)) + jn n g hp r (rk hp h) := by
  have e : mv n g hp r h = sm (fun k => jT g hp r (rk hp h) k - jT g hp r (rk hp (hp r)) k) n := sm_congr (fun k hk => by
    unfold mvT jT
    by_cases e1 : k = r
    · rw [if_pos e1, if_pos e1, if_pos e1]; rfl
    · rw [if_neg e1, if_neg e1, if_neg e1]
      by_cases e2 : hp k = h
      · rw [if_pos e2, if_pos ((rk_eq hO hk hh).mpr e2), if_neg (fun z => hne (by rw [← e2]; exact (rk_eq hO hk (hO.2 r hr).2).mp z))]
        omega
      · rw [if_neg e2, if_neg (fun z => e2 ((rk_eq hO hk hh).mp z))]
        by_cases e3 : hp k = hp r
        · rw [if_pos e3, if_pos ((rk_eq hO hk (hO.2 r hr).2).mpr e3)]; omega
        · rw [if_neg e3, if_neg (fun z => e3 ((rk_eq hO hk (hO.2 r hr).2).mp z))]; rfl)
  rw [e, sm_sub]
  unfold jn
  omega
theorem mv_jn100 {n : Nat} {g : Nat → Nat → Int} {hp : Nat → Nat} (hO : hOK n hp) {r : Nat} (hr : r < n) : mv n g hp r 100 = -jn n g hp r (rk hp (hp r)) := by
  have e : mv n g hp r 100 = sm (fun k => 0 - jT g hp r (rk hp (hp r)) k) n := sm_congr (fun k hk => by
    have h1 := (hO.2 k hk).1
    have h2 := hO.1
    unfold mvT jT
    by_cases e1 : k = r
    · rw [if_pos e1, if_pos e1]; rfl
    · rw [if_neg e1, if_neg e1, if_neg (by omega)]
      by_cases e3 : hp k = hp r
      · rw [if_pos e3, if_pos ((rk_eq hO hk (hO.2 r hr).2).mpr e3)]; omega
      · rw [if_neg e3, if_neg (fun z => e3 ((rk_eq hO hk (hO.2 r hr).2).mp z))]; rfl)
  rw [e, sm_sub, sm_zero (fun k _ => rfl)]
  unfold jn
  omega
theorem ml_jm {n : Nat} {g : Nat → Nat → Int} {hp : Nat → Nat} (hO : hOK n hp) {a b : Nat} (ha : hp a = a) (hb : hp b = b) (hab : a ≠ b) : jm n g hp (rk hp a) (rk hp b) = ml n g hp a b := by
  refine sm_congr (fun x hx => ?_)
  by_cases e1 : hp x = a
  · rw [if_pos ((rk_eq hO hx ha).mpr e1), if_pos e1]
    refine sm_congr (fun y hy => ?_)
    unfold jT
    by_cases e2 : hp y = b
    · rw [if_neg (fun z => hab (by rw [← e1, ← e2, z])), if_pos ((rk_eq hO hy hb).mpr e2), if_pos e2]
    · rw [if_neg e2]
      by_cases e3 : y = x
      · rw [if_pos e3]
      · rw [if_neg e3, if_neg (fun z => e2 ((rk_eq hO hy hb).mp z))]
  · rw [if_neg (fun z => e1 ((rk_eq hO hx ha).mp z)), if_neg e1]
section HD
variable {G : GS} {n : Nat} {D : Nat → Nat → Nat} {T : Nat} {mu : Nat → Nat → Nat} {hp : Nat → Nat}
theorem s_X1_weighJoining (hE : eOK n D T mu) (hM : eC_ n D T mu G) (hH : hC n hp G) (hO : hOK n hp) {post : GS → Prop} (h : ∀ G', (∀ r j, r < n → j < 40 → G'.1 (208 + r) j = iI (jn n (gn D T mu) hp r j)) → fr (fun a => 208 ≤ a ∧ a < 248) G G' → post G') : wp_X1_weighJoining G post := by
  have hn := hE.1
  unfold wp_X1_weighJoining
  refine ⟨fun m v G1 => ∃ i, i ≤ n ∧ m = n - i ∧ v = nI i ∧ fr (fun a => 208 ≤ a ∧ a < 248) G G1 ∧ ∀ r j, r < i → j < 40 → G1.1 (208 + r) j = iI (jn n (gn D T mu) hp r j), ⟨n, 0, by omega, by omega, rfl, fr.rf, fun r j hr => absurd hr (by omega)⟩, ?_⟩
  rintro m v G1 ⟨i, hi, rfl, rfl, hfr, hd⟩
  refine pk_le n i (fun c => ?_) (fun c => ?_) (by rw [hfr.i (by omega)]; exact hH.1)
  · exact h G1 (fun r j hr hj => hd r j (by omega) hj) hfr
  · refine ⟨i, by omega, rfl, ?_⟩
    refine s_fill (Or.inl ⟨by omega, by omega⟩) (fun G4 hz4 hfr4 => ?_)
    rw [gLen_40 (by omega) (by omega)] at hz4
    refine ⟨fun m v G6 => ∃ k, k ≤ n ∧ m = n - k ∧ v = nI k ∧ fr (fun a => 208 ≤ a ∧ a < 248) G G6 ∧ (∀ r j, r < i → j < 40 → G6.1 (208 + r) j = iI (jn n (gn D T mu) hp r j)) ∧ ∀ j, j < 40 → G6.1 (208 + i) j = iI (sm (jT (gn D T mu) hp i j) k), ⟨n, 0, by omega, by omega, rfl, hfr.tr (hfr4.mono (fun a ha => by omega)), fun r j hr hj => by rw [hfr4.i (by omega)]; exact hd r j hr hj, fun j hj => hz4 j hj⟩, ?_⟩
    rintro m6 v6 G6 ⟨k, hk, rfl, rfl, hfr6, hd6, hl6⟩
    refine pk_le n k (fun c6 => ?_) (fun c6 => ?_) (by rw [hfr6.i (by omega)]; exact hH.1)
    · have e : k = n := by omega
      subst e
      refine ⟨k - (i + 1), by omega, i + 1, by omega, rfl, nI_1 _, hfr6, fun r j hr hj => ?_⟩
      by_cases e : r = i
      · rw [e]; exact hl6 j hj
      · exact hd6 r j (by omega) hj
    · have hkl := (hO.2 k (by omega)).1
      have hrk := rk_bd hp (hp k)
      refine pk_eq k i (fun c7 => ?_) (fun c7 => ?_)
      · refine ⟨n - (k + 1), by omega, k + 1, by omega, rfl, nI_1 _, hfr6, hd6, fun j hj => ?_⟩
        rw [hl6 j hj, sm_s]
        unfold jT
        rw [if_pos c7, Int.add_zero]
      · have e14 : G6.1 14 k = nI (rk hp (hp k)) := by rw [hfr6.i (by omega)]; exact hH.2.2.1 k (by omega)
        refine ⟨i, by omega, rfl, k, by omega, rfl, rk hp (hp k), by omega, e14, ?_⟩
        refine s_X0_between (by omega) (by omega) ?_
        refine ⟨i, by omega, rfl, k, by omega, rfl, rk hp (hp k), by omega, e14, ?_⟩
        have eg : G6.1 (128 + i) k - G6.1 5 9 + G6.1 (168 + i) k = iI (gn D T mu i k) := by
          rw [hfr6.i (by omega), hfr6.i (by omega), hfr6.i (by omega), hM.1, hM.2.1 i k (by omega) (by omega), hM.2.2 i k (by omega) (by omega), gn_wz, iI_n, iI_n, iI_sub, iI_add]
        rintro G21 rfl
        refine ⟨n - (k + 1), by omega, k + 1, by omega, rfl, nI_1 _, hfr6.tr (fr.sI (by omega)), fun r j hr hj => ?_, fun j hj => ?_⟩
        · rw [sI_ne1 _ _ _ _ (by omega)]; exact hd6 r j hr hj
        · rw [sm_s]
          unfold jT
          rw [if_neg c7]
          by_cases e : rk hp (hp k) = j
          · subst e
            rw [sI_same, hl6 _ hj, eg, iI_add, if_pos rfl]
            rfl
          · rw [sI_ne2 _ _ _ _ (Ne.symm e), hl6 j hj, if_neg e, Int.add_zero]
            rfl
theorem s_X1_weighMelting (hn : n ≤ 40) {g : Nat → Nat → Int} (hH : hC n hp G) (hO : hOK n hp) (hJ : ∀ r j, r < n → j < 40 → G.1 (208 + r) j = iI (jn n g hp r j)) {post : GS → Prop} (h : ∀ G', (∀ a b, a < rk hp n → b < rk hp n → G'.1 (248 + a) b = iI (jm n g hp a b)) → fr (fun a => 248 ≤ a ∧ a < 288) G G' → post G') : wp_X1_weighMelting G post := by
  have hrn := rk_bd hp n
  unfold wp_X1_weighMelting
  refine ⟨fun m v G1 => ∃ i, i ≤ rk hp n ∧ m = rk hp n - i ∧ v = nI i ∧ fr (fun a => 248 ≤ a ∧ a < 288) G G1 ∧ ∀ a b, a < i → b < 40 → G1.1 (248 + a) b = 0, ⟨rk hp n, 0, by omega, by omega, rfl, fr.rf, fun a b ha => absurd ha (by omega)⟩, ?_⟩
  rintro m v G1 ⟨i, hi, rfl, rfl, hfr, hz⟩
  refine pk_le (rk hp n) i (fun c => ?_) (fun c => ?_) (by rw [hfr.i (by omega)]; exact hH.2.1)
  · have e : i = rk hp n := by omega
    subst e
    refine ⟨fun m v G3 => ∃ r, r ≤ n ∧ m = n - r ∧ v = nI r ∧ fr (fun a => 248 ≤ a ∧ a < 288) G G3 ∧ ∀ a b, a < rk hp n → b < rk hp n → G3.1 (248 + a) b = iI (sm (fun r => if rk hp (hp r) = a then jn n g hp r b else 0) r), ⟨n, 0, by omega, by omega, rfl, hfr, fun a b ha hb => hz a b ha (by omega)⟩, ?_⟩
    rintro m3 v3 G3 ⟨r, hr, rfl, rfl, hfr3, hd3⟩
    refine pk_le n r (fun c3 => ?_) (fun c3 => ?_) (by rw [hfr3.i (by omega)]; exact hH.1)
    · have e : r = n := by omega
      subst e
      exact h G3 hd3 hfr3
    · have hrl := (hO.2 r (by omega)).1
      have hlt : rk hp (hp r) < rk hp n := rk_lt (hO.2 r (by omega)).2 (by omega)
      refine ⟨fun m v G5 => ∃ j, j ≤ rk hp n ∧ m = rk hp n - j ∧ v = nI j ∧ fr (fun a => 248 ≤ a ∧ a < 288) G G5 ∧ (∀ a b, a < rk hp n → b < rk hp n → a ≠ rk hp (hp r) → G5.1 (248 + a) b = iI (sm (fun r => if rk hp (hp r) = a then jn n g hp r b else 0) r)) ∧ (∀ b, b < j → G5.1 (248 + rk hp (hp r)) b = iI (sm (fun r' => if rk hp (hp r') = rk hp (hp r) then jn n g hp r' b else 0) (r + 1))) ∧ (∀ b, j ≤ b → b < rk hp n → G5.1 (248 + rk hp (hp r)) b = iI (sm (fun r' => if rk hp (hp r') = rk hp (hp r) then jn n g hp r' b else 0) r)), ⟨rk hp n, 0, by omega, by omega, rfl, hfr3, fun a b ha hb _ => hd3 a b ha hb, fun b hb => absurd hb (by omega), fun b _ hb => hd3 _ b hlt hb⟩, ?_⟩
      rintro m5 v5 G5 ⟨j, hj, rfl, rfl, hfr5, ho5, hl5, hh5⟩
      refine pk_le (rk hp n) j (fun c5 => ?_) (fun c5 => ?_) (by rw [hfr5.i (by omega)]; exact hH.2.1)
      · refine ⟨n - (r + 1), by omega, r + 1, by omega, rfl, nI_1 _, hfr5, fun a b ha hb => ?_⟩
        by_cases e : a = rk hp (hp r)
        · subst e; exact hl5 b (by omega)
        · rw [ho5 a b ha hb e, sm_s, if_neg (Ne.symm e), Int.add_zero]
      · have e14 : G5.1 14 r = nI (rk hp (hp r)) := by rw [hfr5.i (by omega)]; exact hH.2.2.1 r (by omega)
        refine ⟨r, by omega, rfl, rk hp (hp r), by omega, e14, j, by omega, rfl, r, by omega, rfl, j, by omega, rfl, j, by omega, rfl, ?_⟩
        rintro G15 rfl
        refine ⟨rk hp n - (j + 1), by omega, j + 1, by omega, rfl, nI_1 _, hfr5.tr (fr.sI (by omega)), fun a b ha hb hne => ?_, fun b hb => ?_, fun b h1 h2 => ?_⟩
        · rw [sI_ne1 _ _ _ _ (by omega)]; exact ho5 a b ha hb hne
        · by_cases e : b = j
          · subst e
            rw [sI_same, hh5 b (Nat.le_refl _) (by omega), hfr5.i (by omega), hJ r b (by omega) (by omega), iI_add, sm_s, if_pos rfl]
          · rw [sI_ne2 _ _ _ _ e]; exact hl5 b (by omega)
        · rw [sI_ne2 _ _ _ _ (by omega)]; exact hh5 b (by omega) h2
  · refine ⟨i, by omega, rfl, ?_⟩
    refine s_fill (Or.inl ⟨by omega, by omega⟩) (fun G4 hz4 hfr4 => ?_)
    rw [gLen_40 (by omega) (by omega)] at hz4
    refine ⟨rk hp n - (i + 1), by omega, i + 1, by omega, rfl, nI_1 _, hfr.tr (hfr4.mono (fun a ha => by omega)), fun a b ha hb => ?_⟩
    by_cases e : a = i
    · rw [e]; exact hz4 b hb
    · rw [hfr4.i (by omega)]; exact hz a b (by omega) hb
/-- the best change found so far, in the class's numbers -/
def bC (n : Nat) (hp : Nat → Nat) (b : BS) (G : GS) : Prop := G.1 5 11 = iI b.1 ∧ (b.1 < 0 → (b.2.2.2 = true → G.1 5 12 = -1 ∧ G.1 5 13 = nI (rk hp b.2.2.1) ∧ G.1 5 14 = nI (rk hp b.2.1)) ∧ (b.2.2.2 = false → G.1 5 12 = nI b.2.1 ∧ G.1 5 14 = nI (if b.2.2.1 = 100 then rk hp n else rk hp b.2.2.1)))
theorem s_X1_weighMove {b : BS} (hB : bC n hp b G) (hb : -1676800 ≤ b.1 ∧ b.1 ≤ 0) {v : Int} (hv : -1676800 ≤ v ∧ v ≤ 1676800) {w t : Nat} {x1 x2 x3 : Int32} (h1 : x1 = nI w) (h2 : x2 = nI (if t = 100 then rk hp n else rk hp t)) (h3 : x3 = iI v) {post : GS → Prop} (h : ∀ G', bC n hp (ask v w t false b) G' → fe (fun a k => a = 5 ∧ 11 ≤ k) G G' → post G') : wp_X1_weighMove G x1 x2 x3 post := by
  unfold wp_X1_weighMove
  rw [hB.1, h3, iI_le (by omega) (by omega)]
  unfold ask at h
  refine ⟨fun c => ?_, fun c => ?_⟩
  · rw [if_neg (by omega)] at h
    exact h G hB fe.rf
  · rw [if_pos (by omega)] at h
    rintro G2 rfl G3 rfl G4 rfl
    refine h _ ⟨?_, fun _ => ⟨fun z => (by cases z), fun _ => ⟨?_, ?_⟩⟩⟩ (((fe.sI ⟨rfl, by omega⟩).tr (fe.sI ⟨rfl, by omega⟩)).tr (fe.sI ⟨rfl, by omega⟩))
    · rw [sI_ne2 _ _ _ _ (by decide), sI_ne2 _ _ _ _ (by decide), sI_same]
    · rw [sI_ne2 _ _ _ _ (by decide), sI_same]; exact h1
    · rw [sI_same]; exact h2
theorem nohead {h : Nat} (e : rk hp h = rk hp n) {x : Nat} (h1 : h ≤ x) (h2 : x < n) : hp x ≠ x := fun z => by
  have := rk_lt z h2
  have := rk_le (hp := hp) h1
  omega
theorem s_X1_findBestMove (hE : eOK n D T mu) (hH : hC n hp G) (hO : hOK n hp) (hJ : ∀ r j, r < n → j < 40 → G.1 (208 + r) j = iI (jn n (gn D T mu) hp r j)) {r : Nat} (hr : r < n) {b : BS} (hB : bC n hp b G) (hV : bV n (gn D T mu) hp b) {post : GS → Prop} (h : ∀ G', bC n hp (stA n (gn D T mu) hp r b) G' → fe (fun a k => a = 5 ∧ 11 ≤ k) G G' → post G') : wp_X1_findBestMove G (nI r) post := by
  have hn := hE.1
  have hrl := (hO.2 r hr).1
  have hrr := (hO.2 r hr).2
  have hrn := rk_bd hp n
  have hlt : rk hp (hp r) < rk hp n := rk_lt hrr (by omega)
  unfold wp_X1_findBestMove
  refine ⟨r, by omega, rfl, ?_⟩
  rintro y2 rfl
  rw [hH.2.2.1 r hr]
  refine ⟨r, by omega, rfl, rk hp (hp r), by omega, rfl, ?_⟩
  rintro y5 rfl
  rw [hJ r _ hr (by omega), iI_neg]
  refine ⟨fun m v G6 => ∃ x, x ≤ n ∧ m = rk hp n - rk hp x ∧ v = nI (rk hp x) ∧ fe (fun a k => a = 5 ∧ 11 ≤ k) G G6 ∧ bC n hp (lp (stM n (gn D T mu) hp r) x b) G6, ⟨_, 0, by omega, rfl, rfl, fe.rf, hB⟩, ?_⟩
  rintro m v G6 ⟨x, hx, rfl, rfl, hfe6, hB6⟩
  have hH6 : hC n hp G6 := hH.fe hfe6 (by omega) (by omega) (fun a k h1 h2 => by omega)
  have hV6 : bV n (gn D T mu) hp (lp (stM n (gn D T mu) hp r) x b) := lp_inv hV (fun k hk c hc => stM_V hr (by omega) hc)
  have hle := rk_le (hp := hp) hx
  refine pk_le (rk hp n) (rk hp x) (fun c => ?_) (fun c => ?_) hH6.2.1
  · have es : lp (stM n (gn D T mu) hp r) n b = lp (stM n (gn D T mu) hp r) x b := lp_skip hx (fun z h1 h2 c => by unfold stM; rw [if_neg (fun q => nohead (n := n) (by omega) h1 h2 q.1)])
    have hcn := cntB_le (fun k => decide (hp k = hp r)) n
    have h16 := (hH6.2.2.2 (hp r) (by omega) hrr).2
    refine ⟨rk hp (hp r), by omega, rfl, ?_⟩
    refine pk_le (cnH n hp (hp r)) 1 (fun c2 => ?_) (fun c2 => ?_) h16 rfl (by unfold cnH; omega)
    · refine h G6 ?_ hfe6
      unfold stA
      rw [if_neg (by omega), es]
      exact hB6
    · refine s_X1_weighMove hB6 (bV_bd hE hV6) (v := mv n (gn D T mu) hp r 100) (by have := mv_bd (hp := hp) (h := 100) hE hr; omega) (w := r) (t := 100) rfl (by rw [if_pos rfl]; exact hH6.2.1) (by rw [mv_jn100 hO hr]) (fun G7 hB7 hfe7 => ?_)
      refine h G7 ?_ (hfe6.tr hfe7)
      unfold stA
      rw [if_pos c2, es]
      exact hB7
  · obtain ⟨x', a1, a2, a3, a4, a5⟩ := rk_next (n - x) x (by omega) rfl c
    have es : lp (stM n (gn D T mu) hp r) x' b = lp (stM n (gn D T mu) hp r) x b := lp_skip a1 (fun z h1 h2 c => by unfold stM; rw [if_neg (fun q => a5 z h1 h2 q.1)])
    have er : rk hp (x' + 1) = rk hp x + 1 := by rw [rk_t a3, a4]
    refine pk_eq (rk hp x) (rk hp (hp r)) (fun c2 => ?_) (fun c2 => ?_)
    · have ex : x' = hp r := rk_inj a3 hrr (by rw [a4]; exact c2)
      refine ⟨rk hp n - rk hp (x' + 1), by omega, x' + 1, by omega, rfl, by rw [er]; exact nI_1 _, hfe6, ?_⟩
      rw [lp_s, es]
      unfold stM
      rw [if_neg (fun q => q.2 ex)]
      exact hB6
    · have ex : x' ≠ hp r := fun z => c2 (by rw [← a4, z])
      refine ⟨r, by omega, rfl, rk hp x, by omega, rfl, ?_⟩
      refine s_X1_weighMove hB6 (bV_bd hE hV6) (v := mv n (gn D T mu) hp r x') (by have := mv_bd (hp := hp) (h := x') hE hr; omega) (w := r) (t := x') rfl (by rw [if_neg (by omega), a4]) (by rw [hfe6.i (by omega), hJ r _ hr (by omega), iI_add, mv_jn hO hr a3 ex, a4]) (fun G7 hB7 hfe7 => ?_)
      refine ⟨rk hp n - rk hp (x' + 1), by omega, x' + 1, by omega, rfl, by rw [er]; exact nI_1 _, hfe6.tr hfe7, ?_⟩
      rw [lp_s, es]
      unfold stM
      rw [if_pos ⟨a3, ex⟩]
      exact hB7
end HD
