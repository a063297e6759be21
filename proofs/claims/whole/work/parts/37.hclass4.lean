/-! the class's other methods on HEAPS -/
def sN (f : Nat → Nat) : Nat → Nat
  | 0 => 0
  | n + 1 => sN f n + f n
theorem sN_s (f : Nat → Nat) (n : Nat) : sN f (n + 1) = sN f n + f n := rfl
/-- the COST of a pair as it is, of all -/
def pcF (D : Nat → Nat → Nat) (T : Nat) (mu : Nat → Nat → Nat) (hp : Nat → Nat) (a b : Nat) : Nat := if hp a = hp b then cT D T mu a b else cA D T mu a b
def allF (n : Nat) (D : Nat → Nat → Nat) (T : Nat) (mu : Nat → Nat → Nat) (hp : Nat → Nat) : Nat := sN (fun a => sN (pcF D T mu hp a) a) n
theorem pos_iI {z : Int} (hz : -2000000 ≤ z ∧ z ≤ 2000000) : (if iI z < 0 then 0 else iI z) = nI z.toNat := by
  show (if iI z < iI 0 then (0 : Int32) else iI z) = _
  by_cases h : z < 0
  · rw [if_pos ((iI_lt (b := 0) (by omega) (by omega)).mpr h), show z.toNat = 0 by omega]; rfl
  · rw [if_neg (fun q => h ((iI_lt (b := 0) (by omega) (by omega)).mp q)), iI_n, show ((z.toNat : Nat) : Int) = z by omega]
section HK
variable {G : GS} {n : Nat} {D : Nat → Nat → Nat} {T : Nat} {mu : Nat → Nat → Nat} {hp : Nat → Nat}
theorem s_X1_addAlone (hH : hC n hp G) (hO : hOK n hp) (hn : n < 40) {post : GS → Prop} (h : ∀ G', hC (n + 1) (fun r => if r = n then n else hp r) G' → fe (fun a k => (a = 5 ∧ (k = 7 ∨ k = 8)) ∨ (14 ≤ a ∧ a ≤ 17)) G G' → post G') : wp_X1_addAlone G post := by
  have hrn := rk_bd hp n
  unfold wp_X1_addAlone
  refine pk_le 40 n (fun c => absurd c (by omega)) (fun c => ?_) rfl hH.1
  refine ⟨n, hn, hH.1, ?_⟩
  rintro G3 rfl G4 rfl
  have e7 : (sI G 14 n (G.1 5 8)).1 5 7 + 1 = nI (n + 1) := by rw [sI_ne1 _ _ _ _ (by decide), hH.1]; exact nI_1 _
  rw [e7]
  generalize hf0 : (fun r => if r = n then rk hp n else rk hp (hp r)) = f
  have hf : ∀ r, f r = if r = n then rk hp n else rk hp (hp r) := fun r => by rw [← hf0]
  have hlt : ∀ r, r < n → rk hp (hp r) < rk hp n := fun r hr => rk_lt (hO.2 r hr).2 (by have := (hO.2 r hr).1; omega)
  refine s_X1_numberAnew (n := n + 1) (f := f) (sI_same _ _ _ _) (by omega) (fun r hr => ?_) (fun r hr => ?_) (fun G' hC' hfe' => ?_)
  · rw [sI_ne1 _ _ _ _ (by decide), hf]
    by_cases e : r = n
    · rw [e, sI_same, if_pos rfl]; exact hH.2.1
    · rw [sI_ne2 _ _ _ _ e, if_neg e]; exact hH.2.2.1 r (by omega)
  · rw [hf]
    by_cases e : r = n
    · rw [if_pos e]; omega
    · have := hlt r (by omega)
      rw [if_neg e]; omega
  · have hO' : hOK (n + 1) (fun r => if r = n then n else hp r) := ⟨by omega, fun r hr => by
      dsimp only
      by_cases e : r = n
      · rw [if_pos e, if_pos rfl]; omega
      · have h1 := hO.2 r (by omega)
        rw [if_neg e, if_neg (by omega)]
        exact h1⟩
    refine h G' (hC'.congr (canon_hOK _ (by omega)) (fun r hr => ?_)) (((fe.sI (by omega)).tr (fe.sI (by omega))).tr (hfe'.mono (fun a k z => by omega)))
    rw [← canon_self hO' hr]
    refine canon_congr (n := n + 1) (fun x y hx hy => ?_) hr
    rw [hf, hf]
    by_cases ex : x = n
    · by_cases ey : y = n
      · rw [if_pos ex, if_pos ey, if_pos ex, if_pos ey]; exact ⟨fun _ => rfl, fun _ => rfl⟩
      · have h1 := hlt y (by omega)
        have h2 := (hO.2 y (by omega)).1
        rw [if_pos ex, if_neg ey, if_pos ex, if_neg ey]
        exact ⟨fun q => absurd q (by omega), fun q => absurd q (by omega)⟩
    · by_cases ey : y = n
      · have h1 := hlt x (by omega)
        have h2 := (hO.2 x (by omega)).1
        rw [if_neg ex, if_pos ey, if_neg ex, if_pos ey]
        exact ⟨fun q => absurd q (by omega), fun q => absurd q (by omega)⟩
      · rw [if_neg ex, if_neg ey, if_neg ex, if_neg ey]
        exact rk_eq hO (show x < n by omega) (hO.2 y (by omega)).2
theorem s_X1_partAll (hN : G.1 5 7 = nI n) (hn : n ≤ 40) {post : GS → Prop} (h : ∀ G', hC n (fun r => r) G' → fe (fun a k => (a = 5 ∧ k = 8) ∨ (14 ≤ a ∧ a ≤ 17)) G G' → post G') : wp_X1_partAll G post := by
  unfold wp_X1_partAll
  refine ⟨fun m v G1 => ∃ i, i ≤ n ∧ m = n - i ∧ v = nI i ∧ fe (fun a _ => a = 14) G G1 ∧ ∀ r, r < i → G1.1 14 r = nI r, ⟨n, 0, by omega, by omega, rfl, fe.rf, fun r hr => absurd hr (by omega)⟩, ?_⟩
  rintro m v G1 ⟨i, hi, rfl, rfl, hfe, hd⟩
  refine pk_le n i (fun c => ?_) (fun c => ?_) (by rw [hfe.i (by omega)]; exact hN)
  · refine s_X1_numberAnew (n := n) (f := fun r => r) (by rw [hfe.i (by omega)]; exact hN) hn (fun r hr => hd r (by omega)) (fun r hr => by show r ≤ 40; omega) (fun G' hC' hfe' => ?_)
    refine h G' (hC'.congr (canon_hOK _ hn) (fun r hr => canon_self (n := n) (hp := fun r => r) ⟨hn, fun r _ => ⟨Nat.le_refl r, rfl⟩⟩ hr)) ((hfe.mono (fun a k z => by omega)).tr hfe')
  · refine ⟨i, by omega, rfl, ?_⟩
    rintro G6 rfl
    refine ⟨n - (i + 1), by omega, i + 1, by omega, rfl, nI_1 _, hfe.tr (fe.sI rfl), fun r hr => ?_⟩
    by_cases e : r = i
    · rw [e, sI_same]
    · rw [sI_ne2 _ _ _ _ e]; exact hd r (by omega)
theorem s_X1_areTogether (hH : hC n hp G) (hO : hOK n hp) {a b : Nat} (ha : a < n) (hb : b < n) {post : Int32 → GS → Prop} (h : post (bI (decide (hp a = hp b))) G) : wp_X1_areTogether G (nI a) (nI b) post := by
  have hn := hO.1
  have h1 := rk_bd hp (hp a)
  have h2 := rk_bd hp (hp b)
  have h3 := (hO.2 a ha).1
  have h4 := (hO.2 b hb).1
  unfold wp_X1_areTogether
  refine ⟨a, by omega, rfl, b, by omega, rfl, ?_⟩
  refine pk_ne (rk hp (hp a)) (rk hp (hp b)) (fun c => ?_) (fun c => ?_) (hH.2.2.1 a ha) (hH.2.2.1 b hb)
  · rw [decide_eq_false (fun q => c (by rw [q]))] at h; exact h
  · rw [decide_eq_true ((rk_eq hO ha (hO.2 b hb).2).mp c)] at h; exact h
theorem s_X1_leastBeside (hH : hC n hp G) (hO : hOK n hp) {a : Nat} (ha : a < n) {post : Int32 → GS → Prop} (h : post (nI (hp a)) G) : wp_X1_leastBeside G (nI a) post := by
  have hn := hO.1
  have h1 := rk_bd hp (hp a)
  have h3 := hO.2 a ha
  unfold wp_X1_leastBeside
  refine ⟨a, by omega, rfl, rk hp (hp a), by omega, hH.2.2.1 a ha, ?_⟩
  rw [(hH.2.2.2 (hp a) (by omega) h3.2).1]
  exact h
theorem s_X1_sizeBeside (hH : hC n hp G) (hO : hOK n hp) {a : Nat} (ha : a < n) {post : Int32 → GS → Prop} (h : post (nI (cnH n hp (hp a))) G) : wp_X1_sizeBeside G (nI a) post := by
  have hn := hO.1
  have h1 := rk_bd hp (hp a)
  have h3 := hO.2 a ha
  unfold wp_X1_sizeBeside
  refine ⟨a, by omega, rfl, rk hp (hp a), by omega, hH.2.2.1 a ha, ?_⟩
  rw [(hH.2.2.2 (hp a) (by omega) h3.2).2]
  exact h
theorem s_X1_setBeside (hH : hC n hp G) (hO : hOK n hp) {a : Nat} (ha : a < n) {post : Int64 → GS → Prop} (h : ∀ x : Int64, (∀ i, i < 64 → bl x i = decide (i < n ∧ hp i = hp a)) → post x G) : wp_X1_setBeside G (nI a) post := by
  have hn := hO.1
  unfold wp_X1_setBeside
  refine ⟨fun m x v G1 => ∃ k, k ≤ n ∧ m = n - k ∧ v = nI k ∧ G1 = G ∧ ∀ i, i < 64 → bl x i = decide (i < k ∧ hp i = hp a), ⟨n, 0, by omega, by omega, rfl, rfl, fun i hi => by rw [bl_0, decide_eq_false (by omega)]⟩, ?_⟩
  rintro m x v G1 ⟨k, hk, rfl, rfl, rfl, hx⟩
  refine pk_le n k (fun c => ?_) (fun c => ?_) hH.1
  · have e : k = n := by omega
    subst e
    exact h x hx
  · refine s_X1_areTogether hH hO (show k < n by omega) ha (bI_br (fun hb => ?_) (fun hb => ?_))
    · have hne := of_decide_eq_false hb
      refine ⟨n - (k + 1), by omega, k + 1, by omega, rfl, nI_1 _, rfl, fun i hi => ?_⟩
      rw [hx i hi]
      refine decide_eq_decide.mpr ⟨fun q => ⟨by omega, q.2⟩, fun q => ⟨?_, q.2⟩⟩
      have : i ≠ k := fun z => hne (by rw [← z]; exact q.2)
      omega
    · have heq := of_decide_eq_true hb
      rintro y rfl
      refine ⟨n - (k + 1), by omega, k + 1, by omega, rfl, nI_1 _, rfl, fun i hi => ?_⟩
      rw [bl_or, hx i hi, bl_one (by omega)]
      by_cases e : i = k
      · rw [decide_eq_true e, Bool.or_true, decide_eq_true ⟨by omega, by rw [e]; exact heq⟩]
      · rw [decide_eq_false e, Bool.or_false]
        exact decide_eq_decide.mpr ⟨fun q => ⟨by omega, q.2⟩, fun q => ⟨by omega, q.2⟩⟩
theorem s_X1_costOfPair (hE : eOK n D T mu) (hM : eC_ n D T mu G) (hH : hC n hp G) (hO : hOK n hp) {a b : Nat} (ha : a < n) (hb : b < n) {post : Int32 → GS → Prop} (h : post (nI (pcF D T mu hp a b)) G) : wp_X1_costOfPair G (nI a) (nI b) post := by
  have hn := hE.1
  have hT := hE.2.1
  have hD := (hE.2.2.1 a b ha hb).1
  have hmu := (hE.2.2.2 a b).1
  unfold wp_X1_costOfPair
  refine s_X0_between (by omega) (by omega) ?_
  rintro y3 rfl
  refine ⟨a, by omega, rfl, b, by omega, rfl, ?_⟩
  rintro y6 rfl
  rw [hM.2.1 a b ha hb, hM.1, hM.2.2 a b (by omega) (by omega), iI_n (D a b), iI_n T, iI_sub, iI_neg, iI_neg]
  have hw : wz (mu a b) = 0 ∨ wz (mu a b) = 1000 ∨ wz (mu a b) = -1000 := by
    unfold wz
    split
    · omega
    · split <;> omega
  rw [pos_iI (by omega), pos_iI (by omega), pos_iI (by omega), pos_iI (by omega), nI_add, nI_add]
  unfold pcF at h
  refine s_X1_areTogether hH hO ha hb (bI_br (fun q => ?_) (fun q => ?_))
  · rw [if_neg (of_decide_eq_false q)] at h
    have e : (-((D a b : Int) - T)).toNat + (-wz (mu a b)).toNat = cA D T mu a b := by
      unfold cA wz
      by_cases h1 : mu a b = 1
      · rw [if_pos h1, if_pos h1]; omega
      · rw [if_neg h1, if_neg h1]
        split <;> omega
    rw [e]; exact h
  · rw [if_pos (of_decide_eq_true q)] at h
    have e : ((D a b : Int) - T).toNat + (wz (mu a b)).toNat = cT D T mu a b := by
      unfold cT wz
      by_cases h1 : mu a b = 1
      · rw [if_pos h1, if_neg (by omega)]; omega
      · rw [if_neg h1]
        by_cases h2 : mu a b = 2
        · rw [if_pos h2, if_pos h2]; omega
        · rw [if_neg h2, if_neg h2]; omega
    rw [e]; exact h
theorem s_X1_costOfAll (hE : eOK n D T mu) (hM : eC_ n D T mu G) (hH : hC n hp G) (hO : hOK n hp) {post : Int32 → GS → Prop} (h : post (nI (allF n D T mu hp)) G) : wp_X1_costOfAll G post := by
  have hn := hE.1
  unfold wp_X1_costOfAll
  refine ⟨fun m d v G1 => ∃ i, i ≤ n ∧ m = n - i ∧ v = nI i ∧ G1 = G ∧ d = nI (sN (fun a => sN (pcF D T mu hp a) a) i), ⟨n, 0, by omega, by omega, rfl, rfl, rfl⟩, ?_⟩
  rintro m d v G1 ⟨i, hi, rfl, rfl, rfl, rfl⟩
  refine pk_le n i (fun c => ?_) (fun c => ?_) hH.1
  · have e : i = n := by omega
    subst e
    exact h
  · refine ⟨fun m d v G2 => ∃ j, j ≤ i ∧ m = i - j ∧ v = nI j ∧ G2 = G1 ∧ d = nI (sN (fun a => sN (pcF D T mu hp a) a) i + sN (pcF D T mu hp i) j), ⟨i, 0, by omega, by omega, rfl, rfl, rfl⟩, ?_⟩
    rintro m2 d2 v2 G2 ⟨j, hj, rfl, rfl, rfl, rfl⟩
    refine pk_le i j (fun c2 => ?_) (fun c2 => ?_)
    · have e : j = i := by omega
      subst e
      exact ⟨n - (j + 1), by omega, j + 1, by omega, rfl, nI_1 _, rfl, rfl⟩
    · refine s_X1_costOfPair hE hM hH hO (show i < n by omega) (show j < n by omega) ?_
      rintro y rfl
      refine ⟨i - (j + 1), by omega, j + 1, by omega, rfl, nI_1 _, rfl, ?_⟩
      rw [nI_add, sN_s, Nat.add_assoc]
/-- the reference's cost of all, and of a pair -/
theorem s_X7_pairNow (hE : eOK n D T mu) (hM : eM n D T mu G) (hH : hpM n hp G) (hO : hOK n hp) {a b : Nat} (ha : a < n) (hb : b < n) {post : Int32 → GS → Prop} (h : post (nI (pcF D T mu hp a b)) G) : (¬ (G.1 26 a) = (G.1 26 b) → wp_X7_pairCost G (nI a) (nI b) 0 post) ∧ ((G.1 26 a) = (G.1 26 b) → wp_X7_pairCost G (nI a) (nI b) 1 post) := by
  have h1 := (hO.2 a ha).1
  have h2 := (hO.2 b hb).1
  have hn := hE.1
  unfold pcF at h
  refine pk_ne (hp a) (hp b) (fun c => ?_) (fun c => ?_) (hH a ha) (hH b hb)
  · rw [if_neg c] at h
    exact s_X7_pairCost hE hM ha hb (t := false) rfl h
  · rw [if_pos c] at h
    exact s_X7_pairCost hE hM ha hb (t := true) rfl h
end HK
