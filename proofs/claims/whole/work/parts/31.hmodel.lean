/-! the reference's HEAPS -/
def cT (D : Nat → Nat → Nat) (T : Nat) (mu : Nat → Nat → Nat) (a b : Nat) : Nat := (D a b - T) + (if mu a b = 2 then 1000 else 0)
def cA (D : Nat → Nat → Nat) (T : Nat) (mu : Nat → Nat → Nat) (a b : Nat) : Nat := (T - D a b) + (if mu a b = 1 then 1000 else 0)
def gn (D : Nat → Nat → Nat) (T : Nat) (mu : Nat → Nat → Nat) (a b : Nat) : Int := (cT D T mu a b : Int) - (cA D T mu a b : Int)
/-- what the numbers are -/
def eOK (n : Nat) (D : Nat → Nat → Nat) (T : Nat) (mu : Nat → Nat → Nat) : Prop := n ≤ 40 ∧ T ≤ 40 ∧ (∀ a b, a < n → b < n → D a b ≤ 48 ∧ D a b = D b a) ∧ ∀ a b, mu a b ≤ 2 ∧ mu a b = mu b a
def eM (n : Nat) (D : Nat → Nat → Nat) (T : Nat) (mu : Nat → Nat → Nat) (G : GS) : Prop := G.1 7 5 = nI n ∧ G.1 7 18 = nI T ∧ (∀ a b, a < n → b < n → G.1 30 (40 * a + b) = nI (D a b)) ∧ ∀ a b, a < 40 → b < 40 → G.1 31 (40 * a + b) = nI (mu a b)
def hpM (n : Nat) (hp : Nat → Nat) (G : GS) : Prop := ∀ r, r < n → G.1 26 r = nI (hp r)
theorem eM.fe {P : Nat → Nat → Prop} {G G' : GS} {n : Nat} {D : Nat → Nat → Nat} {T : Nat} {mu : Nat → Nat → Nat} (h : eM n D T mu G) (hf : fe P G G') (h5 : ¬ P 7 5) (h18 : ¬ P 7 18) (h30 : ∀ k, ¬ P 30 k) (h31 : ∀ k, ¬ P 31 k) : eM n D T mu G' := ⟨by rw [hf.i h5]; exact h.1, by rw [hf.i h18]; exact h.2.1, fun a b ha hb => by rw [hf.i (h30 _)]; exact h.2.2.1 a b ha hb, fun a b ha hb => by rw [hf.i (h31 _)]; exact h.2.2.2 a b ha hb⟩
theorem hpM.fe {P : Nat → Nat → Prop} {G G' : GS} {n : Nat} {hp : Nat → Nat} (h : hpM n hp G) (hf : fe P G G') (h26 : ∀ k, ¬ P 26 k) : hpM n hp G' := fun r hr => by rw [hf.i (h26 _)]; exact h r hr
section HM
variable {G : GS} {n : Nat} {D : Nat → Nat → Nat} {T : Nat} {mu : Nat → Nat → Nat} {hp : Nat → Nat}
theorem cT_le (hE : eOK n D T mu) {a b : Nat} (ha : a < n) (hb : b < n) : cT D T mu a b ≤ 1048 := by
  have := (hE.2.2.1 a b ha hb).1
  unfold cT
  split <;> omega
theorem cA_le (hE : eOK n D T mu) {a b : Nat} : cA D T mu a b ≤ 1040 := by
  have := hE.2.1
  unfold cA
  split <;> omega
theorem gn_bd (hE : eOK n D T mu) {a b : Nat} (ha : a < n) (hb : b < n) : -1048 ≤ gn D T mu a b ∧ gn D T mu a b ≤ 1048 := by
  have h1 := cT_le hE ha hb
  have h2 := cA_le (a := a) (b := b) hE
  unfold gn
  omega
theorem gn_symm (hE : eOK n D T mu) {a b : Nat} (ha : a < n) (hb : b < n) : gn D T mu a b = gn D T mu b a := by
  unfold gn cT cA
  rw [(hE.2.2.1 a b ha hb).2, (hE.2.2.2 a b).2]
theorem mv_bd (hE : eOK n D T mu) {r h : Nat} (hr : r < n) : -41920 ≤ mv n (gn D T mu) hp r h ∧ mv n (gn D T mu) hp r h ≤ 41920 := by
  have h1 := sm_bd (f := mvT (gn D T mu) hp r h) (B := 1048) (n := n) (fun k hk => by
    have := gn_bd hE hr hk
    unfold mvT
    split
    · omega
    · split
      · omega
      · split <;> omega)
  have h2 := hE.1
  unfold mv
  omega
theorem ml_bd (hE : eOK n D T mu) {a b : Nat} : -1676800 ≤ ml n (gn D T mu) hp a b ∧ ml n (gn D T mu) hp a b ≤ 1676800 := by
  have h2 := hE.1
  have h1 := sm_bd (f := fun x => if hp x = a then mlR n (gn D T mu) hp b x else 0) (B := 41920) (n := n) (fun k hk => by
    have h3 := sm_bd (f := fun y => if hp y = b then gn D T mu k y else 0) (B := 1048) (n := n) (fun y hy => by
      have := gn_bd hE hk hy
      split <;> omega)
    unfold mlR
    split <;> omega)
  unfold ml
  omega
theorem bV_bd (hE : eOK n D T mu) {b : BS} (h : bV n (gn D T mu) hp b) : -1676800 ≤ b.1 ∧ b.1 ≤ 0 := by
  refine ⟨?_, h.1⟩
  by_cases c : b.1 < 0
  · rcases h.2 c with ⟨-, h1, h2, -⟩ | ⟨-, -, -, -, -, h5⟩
    · have := mv_bd (hp := hp) (h := b.2.2.1) hE h1; omega
    · have := ml_bd (hp := hp) (a := b.2.1) (b := b.2.2.1) hE; omega
  · omega
theorem s_X7_pairCost (hE : eOK n D T mu) (hM : eM n D T mu G) {a b : Nat} (ha : a < n) (hb : b < n) {t : Bool} {x : Int32} (hx : x = bI t) {post : Int32 → GS → Prop} (h : post (nI (if t then cT D T mu a b else cA D T mu a b)) G) : wp_X7_pairCost G (nI a) (nI b) x post := by
  have hn := hE.1
  have hT := hE.2.1
  have hD := (hE.2.2.1 a b ha hb).1
  have hmu := (hE.2.2.2 a b).1
  have ix : (40 * nI a) + nI b = nI (40 * a + b) := by rw [show (40 : Int32) * nI a = nI (40 * a) from pk_mul 40 a]; exact nI_add _ _
  unfold wp_X7_pairCost
  refine ⟨40 * a + b, by omega, ix, ?_⟩
  rintro y2 rfl
  refine ⟨40 * a + b, by omega, ix, ?_⟩
  rintro y4 rfl
  rw [hM.2.2.1 a b ha hb, hM.2.2.2 a b (by omega) (by omega), hM.2.1, hx]
  refine bI_br (fun ht => ?_) (fun ht => ?_)
  · rw [ht] at h
    have h : post (nI (cA D T mu a b)) G := h
    unfold cA at h
    refine pk_le T (D a b) (fun c => ?_) (fun c => ?_)
    · rw [show T - D a b = 0 by omega] at h
      refine pk_ne (mu a b) 1 (fun c2 => ?_) (fun c2 => ?_)
      · rw [if_neg c2] at h; exact h
      · rw [if_pos c2] at h; exact h
    · rw [pk_sub (show D a b ≤ T by omega)]
      refine pk_ne (mu a b) 1 (fun c2 => ?_) (fun c2 => ?_)
      · rw [if_neg c2, ← nI_add] at h; exact h
      · rw [if_pos c2, ← nI_add] at h; exact h
  · rw [ht] at h
    have h : post (nI (cT D T mu a b)) G := h
    unfold cT at h
    refine pk_le (D a b) T (fun c => ?_) (fun c => ?_)
    · rw [show D a b - T = 0 by omega] at h
      refine pk_ne (mu a b) 2 (fun c2 => ?_) (fun c2 => ?_)
      · rw [if_neg c2] at h; exact h
      · rw [if_pos c2] at h; exact h
    · rw [pk_sub (show T ≤ D a b by omega)]
      refine pk_ne (mu a b) 2 (fun c2 => ?_) (fun c2 => ?_)
      · rw [if_neg c2, ← nI_add] at h; exact h
      · rw [if_pos c2, ← nI_add] at h; exact h
theorem s_X7_gain (hE : eOK n D T mu) (hM : eM n D T mu G) {a b : Nat} (ha : a < n) (hb : b < n) {post : Int32 → GS → Prop} (h : post (iI (gn D T mu a b)) G) : wp_X7_gain G (nI a) (nI b) post := by
  unfold wp_X7_gain
  refine s_X7_pairCost hE hM ha hb (t := true) rfl (s_X7_pairCost hE hM ha hb (t := false) rfl ?_)
  rw [iI_n, iI_n, iI_sub]
  exact h
theorem s_X7_moved (hE : eOK n D T mu) (hM : eM n D T mu G) (hH : hpM n hp G) (hO : hOK n hp) {r h : Nat} (hr : r < n) (hh : h ≤ 100) {post : Int32 → GS → Prop} (hk : post (iI (mv n (gn D T mu) hp r h)) G) : wp_X7_moved G (nI r) (nI h) post := by
  have hn := hE.1
  have hpr := (hO.2 r hr).1
  unfold wp_X7_moved
  refine ⟨fun m d v G1 => ∃ i, i ≤ n ∧ m = n - i ∧ v = nI i ∧ G1 = G ∧ d = iI (sm (mvT (gn D T mu) hp r h) i), ⟨n, 0, by omega, by omega, rfl, rfl, rfl⟩, ?_⟩
  rintro m d v G1 ⟨i, hi, rfl, rfl, rfl, rfl⟩
  refine pk_le n i (fun c => ?_) (fun c => ?_) hM.1
  · have e : i = n := by omega
    subst e
    exact hk
  · have hpi := (hO.2 i (by omega)).1
    have nx : ∀ z : Int, mvT (gn D T mu) hp r h i = z → ∃ k, k < n - i ∧ ∃ i', i' ≤ n ∧ k = n - i' ∧ nI i + 1 = nI i' ∧ G1 = G1 ∧ iI (sm (mvT (gn D T mu) hp r h) i) + iI z = iI (sm (mvT (gn D T mu) hp r h) i') := fun z hz => ⟨n - (i + 1), by omega, i + 1, by omega, rfl, nI_1 _, rfl, by rw [iI_add, sm_s, hz]⟩
    refine pk_eq i r (fun c2 => ?_) (fun c2 => ?_)
    · exact ⟨n - (i + 1), by omega, i + 1, by omega, rfl, nI_1 _, rfl, by rw [sm_s]; unfold mvT; rw [if_pos c2, Int.add_zero]⟩
    · refine ⟨i, by omega, rfl, ?_⟩
      refine pk_ne (hp i) h (fun c3 => ?_) (fun c3 => ?_) (hH i (by omega))
      · refine ⟨i, by omega, rfl, r, by omega, rfl, ?_⟩
        refine pk_ne (hp i) (hp r) (fun c4 => ?_) (fun c4 => ?_) (hH i (by omega)) (hH r hr)
        · rintro y rfl
          exact nx 0 (by unfold mvT; rw [if_neg c2, if_neg c3, if_neg c4])
        · refine s_X7_gain hE hM hr (show i < n by omega) ?_
          rintro y rfl
          rw [iI_neg]
          exact nx _ (by unfold mvT; rw [if_neg c2, if_neg c3, if_pos c4])
      · refine s_X7_gain hE hM hr (show i < n by omega) ?_
        rintro y rfl
        exact nx _ (by unfold mvT; rw [if_neg c2, if_pos c3])
theorem s_X7_melted (hE : eOK n D T mu) (hM : eM n D T mu G) (hH : hpM n hp G) (hO : hOK n hp) {a b : Nat} (ha : a < n) (hb : b < n) {post : Int32 → GS → Prop} (hk : post (iI (ml n (gn D T mu) hp a b)) G) : wp_X7_melted G (nI a) (nI b) post := by
  have hn := hE.1
  unfold wp_X7_melted
  refine ⟨fun m d v G1 => ∃ i, i ≤ n ∧ m = n - i ∧ v = nI i ∧ G1 = G ∧ d = iI (sm (fun x => if hp x = a then mlR n (gn D T mu) hp b x else 0) i), ⟨n, 0, by omega, by omega, rfl, rfl, rfl⟩, ?_⟩
  rintro m d v G1 ⟨i, hi, rfl, rfl, rfl, rfl⟩
  refine pk_le n i (fun c => ?_) (fun c => ?_) hM.1
  · have e : i = n := by omega
    subst e
    exact hk
  · have hpi := (hO.2 i (by omega)).1
    refine ⟨fun m d v G2 => ∃ j, j ≤ n ∧ m = n - j ∧ v = nI j ∧ G2 = G1 ∧ ((hp i = a ∧ d = iI (sm (fun x => if hp x = a then mlR n (gn D T mu) hp b x else 0) i + sm (fun y => if hp y = b then gn D T mu i y else 0) j)) ∨ (hp i ≠ a ∧ j = 0 ∧ d = iI (sm (fun x => if hp x = a then mlR n (gn D T mu) hp b x else 0) i))), ⟨n, 0, by omega, by omega, rfl, rfl, ?_⟩, ?_⟩
    · by_cases e : hp i = a
      · exact Or.inl ⟨e, by show _ = iI (_ + 0); rw [Int.add_zero]⟩
      · exact Or.inr ⟨e, rfl, rfl⟩
    · rintro m2 d2 v2 G2 ⟨j, hj, rfl, rfl, rfl, hor⟩
      have fin : d2 = iI (sm (fun x => if hp x = a then mlR n (gn D T mu) hp b x else 0) (i + 1)) → ∃ k, k < n - i ∧ ∃ i', i' ≤ n ∧ k = n - i' ∧ nI i + 1 = nI i' ∧ G2 = G2 ∧ d2 = iI (sm (fun x => if hp x = a then mlR n (gn D T mu) hp b x else 0) i') := fun e => ⟨n - (i + 1), by omega, i + 1, by omega, rfl, nI_1 _, rfl, e⟩
      refine pk_le n j (fun c2 => ?_) (fun c2 => ?_) hM.1
      · rcases hor with ⟨h1, h2⟩ | ⟨h1, h2, h3⟩
        · have e : j = n := by omega
          subst e
          refine fin ?_
          rw [h2, sm_s, if_pos h1]; rfl
        · omega
      · refine ⟨i, by omega, rfl, ?_⟩
        refine pk_ne (hp i) a (fun c3 => ?_) (fun c3 => ?_) (hH i (by omega))
        · rcases hor with ⟨h1, h2⟩ | ⟨h1, h2, h3⟩
          · exact absurd h1 c3
          · refine fin ?_
            rw [h3, sm_s, if_neg h1, Int.add_zero]
        · rcases hor with ⟨h1, h2⟩ | ⟨h1, h2, h3⟩
          · have hpj := (hO.2 j (by omega)).1
            refine ⟨j, by omega, rfl, ?_⟩
            refine pk_ne (hp j) b (fun c4 => ?_) (fun c4 => ?_) (hH j (by omega))
            · rintro y rfl
              refine ⟨n - (j + 1), by omega, j + 1, by omega, rfl, nI_1 _, rfl, Or.inl ⟨h1, ?_⟩⟩
              rw [h2, sm_s, if_neg c4, Int.add_zero]
              exact iI_add _ 0 |>.trans (by rw [Int.add_zero])
            · refine s_X7_gain hE hM (show i < n by omega) (show j < n by omega) ?_
              rintro y rfl
              refine ⟨n - (j + 1), by omega, j + 1, by omega, rfl, nI_1 _, rfl, Or.inl ⟨h1, ?_⟩⟩
              rw [h2, sm_s, if_pos c4, iI_add, Int.add_assoc]
          · exact absurd c3 h1
theorem s_X7_inHeap (hM : G.1 7 5 = nI n) (hn : n ≤ 40) (hH : hpM n hp G) (hb : ∀ r, r < n → hp r ≤ 100) {h : Nat} (hh : h ≤ 100) {post : Int32 → GS → Prop} (hk : post (nI (cnH n hp h)) G) : wp_X7_inHeap G (nI h) post := by
  unfold wp_X7_inHeap
  refine ⟨fun m d v => ∃ i, i ≤ n ∧ m = n - i ∧ v = nI i ∧ d = nI (cntB (fun k => decide (hp k = h)) i), ⟨n, 0, by omega, by omega, rfl, rfl⟩, ?_⟩
  rintro m d v ⟨i, hi, rfl, rfl, rfl⟩
  refine pk_le n i (fun c => ?_) (fun c => ?_) hM
  · have e : i = n := by omega
    subst e
    exact hk
  · have := hb i (by omega)
    refine ⟨i, by omega, rfl, ?_⟩
    refine pk_ne (hp i) h (fun c2 => ?_) (fun c2 => ?_) (hH i (by omega))
    · rintro y rfl
      exact ⟨n - (i + 1), by omega, i + 1, by omega, rfl, nI_1 _, by rw [← cnt_stay (p := fun k => decide (hp k = h)) (decide_eq_false c2)]; exact nI_add _ 0⟩
    · rintro y rfl
      exact ⟨n - (i + 1), by omega, i + 1, by omega, rfl, nI_1 _, cnt_step (p := fun k => decide (hp k = h)) (decide_eq_true c2)⟩
theorem s_X7_heaps (hM : G.1 7 5 = nI n) (hO : hOK n hp) (hH : hpM n hp G) {post : Int32 → GS → Prop} (hk : post (nI (rk hp n)) G) : wp_X7_heaps G post := by
  have hn := hO.1
  unfold wp_X7_heaps
  refine ⟨fun m d v => ∃ i, i ≤ n ∧ m = n - i ∧ v = nI i ∧ d = nI (rk hp i), ⟨n, 0, by omega, by omega, rfl, rfl⟩, ?_⟩
  rintro m d v ⟨i, hi, rfl, rfl, rfl⟩
  refine pk_le n i (fun c => ?_) (fun c => ?_) hM
  · have e : i = n := by omega
    subst e
    exact hk
  · have := (hO.2 i (by omega)).1
    refine ⟨i, by omega, rfl, ?_⟩
    refine pk_ne (hp i) i (fun c2 => ?_) (fun c2 => ?_) (hH i (by omega))
    · rintro y rfl
      exact ⟨n - (i + 1), by omega, i + 1, by omega, rfl, nI_1 _, by rw [rk_f c2]; exact nI_add _ 0⟩
    · rintro y rfl
      exact ⟨n - (i + 1), by omega, i + 1, by omega, rfl, nI_1 _, by rw [rk_t c2]; exact nI_1 _⟩
/-- the best change found so far -/
def bM (b : BS) (G : GS) : Prop := G.1 7 22 = iI b.1 ∧ (b.1 < 0 → G.1 7 23 = nI b.2.1 ∧ G.1 7 24 = nI b.2.2.1 ∧ G.1 7 25 = bI b.2.2.2)
theorem s_X7_asks {b : BS} (hB : bM b G) (hb : -1676800 ≤ b.1 ∧ b.1 ≤ 0) {v : Int} (hv : -1676800 ≤ v ∧ v ≤ 1676800) {w t : Nat} {m : Bool} {x2 x3 x4 : Int32} (h2 : x2 = nI w) (h3 : x3 = nI t) (h4 : x4 = bI m) {post : GS → Prop} (h : ∀ G', bM (ask v w t m b) G' → fe (fun a k => a = 7 ∧ 22 ≤ k ∧ k ≤ 25) G G' → post G') : wp_X7_asks G (iI v) x2 x3 x4 post := by
  unfold wp_X7_asks
  rw [hB.1, iI_le (by omega) (by omega)]
  unfold ask at h
  refine ⟨fun c => ?_, fun c => ?_⟩
  · rw [if_neg (by omega)] at h
    exact h G hB fe.rf
  · rw [if_pos (by omega)] at h
    rintro G2 rfl G3 rfl G4 rfl
    refine ⟨by rw [h4]; exact bI_01 m, ?_⟩
    rintro G5 rfl
    refine h _ ⟨?_, fun _ => ⟨?_, ?_, ?_⟩⟩ ((((fe.sI ⟨rfl, by omega, by omega⟩).tr (fe.sI ⟨rfl, by omega, by omega⟩)).tr (fe.sI ⟨rfl, by omega, by omega⟩)).tr (fe.sI ⟨rfl, by omega, by omega⟩))
    · rw [sI_ne2 _ _ _ _ (by decide), sI_ne2 _ _ _ _ (by decide), sI_ne2 _ _ _ _ (by decide), sI_same]
    · rw [sI_ne2 _ _ _ _ (by decide), sI_ne2 _ _ _ _ (by decide), sI_same]; exact h2
    · rw [sI_ne2 _ _ _ _ (by decide), sI_same]; exact h3
    · rw [sI_same]; exact h4
end HM
