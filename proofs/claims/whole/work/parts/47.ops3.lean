section OP3
variable {G : GS} {nv : Nat} {par : Nat → Nat} {beh : Nat → Nat → Bool} {tn : Nat} {tf : Nat → Nat} {n : Nat} {sz : Nat → Nat} {rw_ : Nat → Nat → Nat} {ver : Nat → Nat} {fx : Nat → Int32} {T : Nat} {mu : Nat → Nat → Nat} {hp : Nat → Nat} {ch : Int32} {sn : Nat} {sf : Nat → Nat}
/-- SETTLED: the class -/
theorem s_setC (hA : KA nv par beh n sz rw_ ver fx T mu hp) (hC : KC nv beh tn tf n sz rw_ ver fx T mu hp ch sn sf G) {post : GS → Prop} (h : ∀ G', KC nv beh tn tf n sz rw_ ver fx T mu (setl n (gn (dist n sz rw_) T mu) hp).1 (ch + nI (setl n (gn (dist n sz rw_) T mu) hp).2) sn sf G' → fe cP G G' → post G') : wp_X1_settle G post := by
  have hn := hA.2.1.1
  refine s_X1_settle hA.eK hC.eC hC.2.2.2.2.1 hA.2.2.2.2.2 (fun G' h1 h2 hf => h G' ?_ hf)
  obtain ⟨a1, a2, a3, a4, a5, a6, a7, a8, a9⟩ := hC
  exact ⟨a1.fe hf (by unfold cP; omega) (fun k => by unfold cP; omega), a2.fe hf (by unfold cP; omega) (fun k => by unfold cP; omega), a3.fe hn hf (by unfold cP; omega) (fun a k h1 h2 => by unfold cP; omega) (fun k => by unfold cP; omega) (fun a k h1 h2 => by unfold cP; omega), a4.fe hn hf (fun k => by unfold cP; omega) (fun a k h1 h2 => by unfold cP; omega), h1, by rw [hf.i (by unfold cP; omega)]; exact a6, a7.fe hf (fun a k h1 h2 => by unfold cP; omega), by rw [h2, a8], a9.fe hf (by unfold cP; omega) (fun k => by unfold cP; omega)⟩
theorem cP_pC {a k : Nat} (h : cP a k) : pC a := by unfold cP at h; unfold pC; omega
theorem mP_pM {a k : Nat} (h : mP a k) : pM a := by unfold mP at h; unfold pM; omega
/-- SETTLED: the reference -/
theorem s_setM (hA : KA nv par beh n sz rw_ ver fx T mu hp) (b1 : vM nv par G) (b2 : tR 7 3 21 tn tf G) (b3 : rM n sz rw_ ver fx G) (b5 : hpM n hp G) (b6 : G.1 7 18 = nI T) (b7 : wiM mu G) (b8 : G.1 7 20 = ch) (b9 : sgM sn sf G) {post : GS → Prop} (h : ∀ G', KA nv par beh n sz rw_ ver fx T mu (setl n (gn (dist n sz rw_) T mu) hp).1 → KM nv par tn tf n sz rw_ ver fx T mu (setl n (gn (dist n sz rw_) T mu) hp).1 (ch + nI (setl n (gn (dist n sz rw_) T mu) hp).2) sn sf G' → fe mP G G' → post G') : wp_X7_settles G post := by
  obtain ⟨k1, k2, k3, k4, k5, k6⟩ := hA
  refine s_X7_settles b3 k2 k4 b6 k5 b7 b5 k6 (fun G' h1 h2 h3 h4 hf => h G' ⟨k1, k2, k3, k4, k5, h3⟩ ?_ hf)
  exact ⟨b1.fe hf (by unfold mP; omega) (fun k => by unfold mP; omega), b2.fe hf (by unfold mP; omega) (fun k => by unfold mP; omega), b3.fe hf (by unfold mP; omega) (fun a k h1 h2 => by unfold mP; omega), h1, h2, by rw [hf.i (by unfold mP; omega)]; exact b6, b7.fe hf (fun k => by unfold mP; omega), by rw [h4, b8], b9.fe hf (by unfold mP; omega) (fun k => by unfold mP; omega)⟩
theorem op_mark (hI : Inv G) (x : Int32) : wp_X6_mark G x (fun r G1 => wp_X7_mark G1 x (fun r' G2 => r = r' ∧ Inv G2)) := by
  obtain ⟨nv, par, beh, tn, tf, n, sz, rw_, ver, fx, T, mu, hp, ch, sn, sf, hA, hC, hM⟩ := hI
  have hn := hA.2.1.1
  have fin := Inv.mk0 hA hC hM 0
  unfold wp_X6_mark wp_X1_setT
  rcases rng x (M := 40) (n := 40) (by decide) with ⟨c, _⟩ | ⟨c, c2, _⟩ | ⟨j, hj, rfl, c, c2, _⟩
  · refine ⟨fun _ => ⟨fun z => absurd rfl z, fun _ => ?_⟩, fun z => absurd c z⟩
    unfold wp_X7_mark
    rintro G1 rfl
    exact ⟨fun _ => ⟨rfl, fin⟩, fun z => absurd c z⟩
  · refine ⟨fun z => absurd z c, fun _ => ⟨fun z => absurd c2 (Int32.not_lt.mpr z), fun _ => ⟨fun z => absurd rfl z, fun _ => ?_⟩⟩⟩
    unfold wp_X7_mark
    rintro G1 rfl
    exact ⟨fun z => absurd z c, fun _ => ⟨fun z => absurd c2 (Int32.not_lt.mpr z), fun _ => ⟨rfl, fin⟩⟩⟩
  · refine ⟨fun z => absurd z c, fun _ => ⟨fun _ => ?_, fun z => absurd (Int32.not_lt.mp c2) z⟩⟩
    rintro G1 rfl
    refine ⟨fun _ => ?_, fun z => absurd z (by decide)⟩
    have hf1 : fe (fun a k => a = 5 ∧ k = 9) G (sI G 5 9 (nI j)) := fe.sI ⟨rfl, rfl⟩
    have hM1 := hM.keep hf1 (fun a k z => by unfold pC; omega)
    have hA1 : KA nv par beh n sz rw_ ver fx j mu hp := ⟨hA.1, hA.2.1, hA.2.2.1, hj, hA.2.2.2.2⟩
    obtain ⟨a1, a2, a3, a4, a5, a6, a7, a8, a9⟩ := hC
    have hC1 : KC nv beh tn tf n sz rw_ ver fx j mu hp ch sn sf (sI G 5 9 (nI j)) := ⟨a1.fe hf1 (by omega) (fun k => by omega), a2.fe hf1 (by omega) (fun k => by omega), a3.fe hn hf1 (by omega) (fun a k h1 h2 => by omega) (fun k => by omega) (fun a k h1 h2 => by omega), a4.fe hn hf1 (fun k => by omega) (fun a k h1 h2 => by omega), a5.fe hf1 (by omega) (by omega) (fun a k h1 h2 => by omega), sI_same _ _ _ _, a7.fe hf1 (fun a k h1 h2 => by omega), by rw [hf1.i (by omega)]; exact a8, a9.fe hf1 (by omega) (fun k => by omega)⟩
    refine s_setC hA1 hC1 (fun G2 hC2 hf2 => ?_)
    have hM2 := (hM1.keep hf2 (fun a k z => cP_pC z)).t0 0
    unfold wp_X7_mark
    rintro G3 rfl
    refine ⟨fun z => absurd z c, fun _ => ⟨fun _ => ?_, fun z => absurd (Int32.not_lt.mp c2) z⟩⟩
    rintro G4 rfl
    have hf4 : fe (fun a k => a = 7 ∧ k = 18) (sI G2 7 0 0) (sI (sI G2 7 0 0) 7 18 (nI j)) := fe.sI ⟨rfl, rfl⟩
    obtain ⟨b1, b2, b3, b4, b5, b6, b7, b8, b9⟩ := hM2
    refine s_setM hA1 (b1.fe hf4 (by omega) (fun k => by omega)) (b2.fe hf4 (by omega) (fun k => by omega)) (b3.fe hf4 (by omega) (fun a k h1 h2 => by omega)) (b5.fe hf4 (fun k => by omega)) (sI_same _ _ _ _) (b7.fe hf4 (fun k => by omega)) ((hf4.i (by omega)).trans b8) (b9.fe hf4 (by omega) (fun k => by omega)) (fun G5 hA5 hM5 hf5 => ⟨rfl, ?_⟩)
    exact ⟨nv, par, beh, tn, tf, n, sz, rw_, ver, fx, j, mu, _, _, sn, sf, hA5, ((hC2.keep hn t0_pM (fun a k z => by unfold pM; omega)).keep hn hf4 (fun a k z => by unfold pM; omega)).keep hn hf5 (fun a k z => mP_pM z), hM5⟩
theorem op_resettle (hI : Inv G) : wp_X6_resettle G (fun r G1 => wp_X7_resettle G1 (fun r' G2 => r = r' ∧ Inv G2)) := by
  obtain ⟨nv, par, beh, tn, tf, n, sz, rw_, ver, fx, T, mu, hp, ch, sn, sf, hA, hC, hM⟩ := hI
  have hn := hA.2.1.1
  unfold wp_X6_resettle
  refine s_X1_partAll hC.2.2.2.2.1.1 hn (fun G1 h1 hf1 => ?_)
  have hM1 := hM.keep hf1 (fun a k z => by unfold pC; omega)
  have hA1 : KA nv par beh n sz rw_ ver fx T mu (fun r => r) := ⟨hA.1, hA.2.1, hA.2.2.1, hA.2.2.2.1, hA.2.2.2.2.1, hn, fun r hr => ⟨Nat.le_refl _, rfl⟩⟩
  obtain ⟨a1, a2, a3, a4, a5, a6, a7, a8, a9⟩ := hC
  have hC1 : KC nv beh tn tf n sz rw_ ver fx T mu (fun r => r) ch sn sf G1 := ⟨a1.fe hf1 (by omega) (fun k => by omega), a2.fe hf1 (by omega) (fun k => by omega), a3.fe hn hf1 (by omega) (fun a k h1 h2 => by omega) (fun k => by omega) (fun a k h1 h2 => by omega), a4.fe hn hf1 (fun k => by omega) (fun a k h1 h2 => by omega), h1, (hf1.i (by omega)).trans a6, a7.fe hf1 (fun a k h1 h2 => by omega), (hf1.i (by omega)).trans a8, a9.fe hf1 (by omega) (fun k => by omega)⟩
  refine s_setC hA1 hC1 (fun G2 hC2 hf2 => ?_)
  have hM2 := (hM1.keep hf2 (fun a k z => cP_pC z)).t0 0
  unfold wp_X1_howMany
  rw [hC2.2.2.2.2.1.2.1]
  unfold wp_X7_resettle
  rintro G3 rfl
  have hC3 := hC2.keep hn (t0_pM (v := 0)) (fun a k z => by unfold pM; omega)
  generalize sI G2 7 0 0 = G3 at hM2 hC3
  refine ⟨fun m v G4 => ∃ i, i ≤ n ∧ m = n - i ∧ v = nI i ∧ fe (fun a _ => a = 26) G3 G4 ∧ ∀ k, k < i → G4.1 26 k = nI k, ⟨n, 0, by omega, by omega, rfl, fe.rf, fun k hk => absurd hk (by omega)⟩, ?_⟩
  rintro m v G4 ⟨i, hi, rfl, rfl, hf4, h4⟩
  refine pk_le n i (fun c => ?_) (fun c => ?_) ((hf4.i (by omega)).trans hM2.2.2.1.1)
  · have e : i = n := by omega
    subst e
    obtain ⟨b1, b2, b3, b4, b5, b6, b7, b8, b9⟩ := hM2
    refine s_setM hA1 (b1.fe hf4 (by omega) (fun k => by omega)) (b2.fe hf4 (by omega) (fun k => by omega)) (b3.fe hf4 (by omega) (fun a k h1 h2 => by omega)) h4 ((hf4.i (by omega)).trans b6) (b7.fe hf4 (fun k => by omega)) ((hf4.i (by omega)).trans b8) (b9.fe hf4 (by omega) (fun k => by omega)) (fun G5 hA5 hM5 hf5 => ?_)
    refine s_X7_heaps hM5.2.2.1.1 hA5.2.2.2.2.2 hM5.2.2.2.2.1 ⟨rfl, ?_⟩
    exact ⟨nv, par, beh, tn, tf, i, sz, rw_, ver, fx, T, mu, _, _, sn, sf, hA5, (hC3.keep hn hf4 (fun a k z => by unfold pM; omega)).keep hn hf5 (fun a k z => mP_pM z), hM5⟩
  · refine ⟨i, by omega, rfl, ?_⟩
    rintro G5 rfl
    refine ⟨n - (i + 1), by omega, i + 1, by omega, rfl, nI_1 _, hf4.tr (fe.sI rfl), fun k hk => ?_⟩
    by_cases e : k = i
    · rw [e, sI_same]
    · rw [sI_ne2 _ _ _ _ e]; exact h4 k (by omega)
/-- what is told of a pair -/
def muU (mu : Nat → Nat → Nat) (a b m : Nat) : Nat → Nat → Nat := fun c d => if (c = a ∧ d = b) ∨ (c = b ∧ d = a) then m else mu c d
theorem muU_ok {a b m : Nat} (hm : m ≤ 2) (h : ∀ a b, mu a b ≤ 2 ∧ mu a b = mu b a) : ∀ c d, muU mu a b m c d ≤ 2 ∧ muU mu a b m c d = muU mu a b m d c := fun c d => by
  unfold muU
  refine ⟨?_, ?_⟩
  · split
    · exact hm
    · exact (h c d).1
  · by_cases e : (c = a ∧ d = b) ∨ (c = b ∧ d = a)
    · rw [if_pos e, if_pos (by omega)]
    · rw [if_neg e, if_neg (by omega)]; exact (h c d).2
theorem s_X1_wish (hW : wiC mu G) {a b m : Nat} (ha : a < 40) (hb : b < 40) {z : Int32} (hz : z = iI (wz m)) {post : GS → Prop} (h : ∀ G', wiC (muU mu a b m) G' → fe (fun a _ => 168 ≤ a ∧ a < 208) G G' → post G') : wp_X1_wish G (nI a) (nI b) z post := by
  subst hz
  unfold wp_X1_wish
  refine ⟨a, ha, rfl, b, hb, rfl, ?_⟩
  rintro G3 rfl
  refine ⟨b, hb, rfl, a, ha, rfl, ?_⟩
  rintro G6 rfl
  refine h _ (fun c d hc hd => ?_) ((fe.sI (by omega)).tr (fe.sI (by omega)))
  rw [sI_get, sI_get]
  unfold muU
  by_cases e1 : c = b ∧ d = a
  · rw [if_pos ⟨by omega, e1.2⟩, if_pos (Or.inr e1)]
  · rw [if_neg (fun q => e1 ⟨by omega, q.2⟩)]
    by_cases e2 : c = a ∧ d = b
    · rw [if_pos ⟨by omega, e2.2⟩, if_pos (Or.inl e2)]
    · rw [if_neg (fun q => e2 ⟨by omega, q.2⟩), if_neg (by omega)]; exact hW c d hc hd
/-- a pair is told: class, then reference -/
theorem op_tell (hA : KA nv par beh n sz rw_ ver fx T mu hp) (hC : KC nv beh tn tf n sz rw_ ver fx T mu hp ch sn sf G) (hM : KM nv par tn tf n sz rw_ ver fx T mu hp ch sn sf G) {a b m : Nat} (hm : m ≤ 2) (ha : a < n) (hb : b < n) {z : Int32} (hz : z = iI (wz m)) {post : GS → Prop} (h : ∀ G', KM nv par tn tf n sz rw_ ver fx T mu hp ch sn sf (sI G' 7 0 0) → (∀ (post' : GS → Prop), (∀ G2, Inv G2 → post' G2) → wp_X7_tells (sI G' 7 0 0) (nI a) (nI b) (nI m) post') → post G') : wp_X1_wish G (nI a) (nI b) z (fun G_5 => wp_X1_settle G_5 post) := by
  have hn := hA.2.1.1
  have hA1 : KA nv par beh n sz rw_ ver fx T (muU mu a b m) hp := ⟨hA.1, hA.2.1, hA.2.2.1, hA.2.2.2.1, muU_ok hm hA.2.2.2.2.1, hA.2.2.2.2.2⟩
  refine s_X1_wish hC.2.2.2.2.2.2.1 (by omega) (by omega) hz (fun G1 hW1 hf1 => ?_)
  have hM1 := hM.keep hf1 (fun a k z => by unfold pC; omega)
  obtain ⟨a1, a2, a3, a4, a5, a6, a7, a8, a9⟩ := hC
  have hC1 : KC nv beh tn tf n sz rw_ ver fx T (muU mu a b m) hp ch sn sf G1 := ⟨a1.fe hf1 (by omega) (fun k => by omega), a2.fe hf1 (by omega) (fun k => by omega), a3.fe hn hf1 (by omega) (fun a k h1 h2 => by omega) (fun k => by omega) (fun a k h1 h2 => by omega), a4.fe hn hf1 (fun k => by omega) (fun a k h1 h2 => by omega), a5.fe hf1 (by omega) (by omega) (fun a k h1 h2 => by omega), (hf1.i (by omega)).trans a6, hW1, (hf1.i (by omega)).trans a8, a9.fe hf1 (by omega) (fun k => by omega)⟩
  refine s_setC hA1 hC1 (fun G2 hC2 hf2 => ?_)
  have hM2 := (hM1.keep hf2 (fun a k z => cP_pC z)).t0 0
  refine h G2 hM2 (fun post' hp' => ?_)
  have hC3 := hC2.keep hn (t0_pM (v := 0)) (fun a k z => by unfold pM; omega)
  generalize sI G2 7 0 0 = G3 at hM2 hC3
  unfold wp_X7_tells
  refine ⟨40 * a + b, by omega, by rw [show (40 : Int32) * nI a = nI (40 * a) from pk_mul 40 a]; exact nI_add _ _, ?_⟩
  rintro G4 rfl
  refine ⟨40 * b + a, by omega, by rw [show (40 : Int32) * nI b = nI (40 * b) from pk_mul 40 b]; exact nI_add _ _, ?_⟩
  rintro G5 rfl
  have hf4 : fe (fun a _ => a = 31) G3 (sI (sI G3 31 (40 * a + b) (nI m)) 31 (40 * b + a) (nI m)) := fe.tr (P := fun a _ => a = 31) (fe.sI rfl) (fe.sI rfl)
  obtain ⟨b1, b2, b3, b4, b5, b6, b7, b8, b9⟩ := hM2
  refine s_setM hA1 (b1.fe hf4 (by omega) (fun k => by omega)) (b2.fe hf4 (by omega) (fun k => by omega)) (b3.fe hf4 (by omega) (fun a k h1 h2 => by omega)) (b5.fe hf4 (fun k => by omega)) ((hf4.i (by omega)).trans b6) (fun c d hc hd => ?_) ((hf4.i (by omega)).trans b8) (b9.fe hf4 (by omega) (fun k => by omega)) (fun G5 hA5 hM5 hf5 => hp' _ ?_)
  · rw [sI_get, sI_get]
    unfold muU
    by_cases e1 : c = b ∧ d = a
    · rw [if_pos ⟨rfl, by omega⟩, if_pos (Or.inr e1)]
    · rw [if_neg (fun q => e1 (by omega))]
      by_cases e2 : c = a ∧ d = b
      · rw [if_pos ⟨rfl, by omega⟩, if_pos (Or.inl e2)]
      · rw [if_neg (fun q => e2 (by omega)), if_neg (by omega)]; exact b7 c d hc hd
  · exact ⟨nv, par, beh, tn, tf, n, sz, rw_, ver, fx, T, _, _, _, sn, sf, hA5, (hC3.keep hn hf4 (fun a k z => by unfold pM; omega)).keep hn hf5 (fun a k z => mP_pM z), hM5⟩
theorem twoR_of {x y : Int32} {n : Nat} (h : twoR x y n = true) : ∃ a b, a < n ∧ b < n ∧ x = nI a ∧ y = nI b := by
  obtain ⟨hb1, hb2⟩ := Bool.and_eq_true_iff.mp h
  obtain ⟨hb4, hb3⟩ := Bool.and_eq_true_iff.mp hb2
  obtain ⟨a, ha, e1⟩ := inR_of hb1
  obtain ⟨b, hb', e2⟩ := inR_of hb4
  exact ⟨a, b, ha, hb', e1, e2⟩
theorem op_pair (hI : Inv G) (x y w : Int32) : wp_X6_pair G x y w (fun r G1 => wp_X7_pair G1 x y w (fun r' G2 => r = r' ∧ Inv G2)) := by
  obtain ⟨nv, par, beh, tn, tf, n, sz, rw_, ver, fx, T, mu, hp, ch, sn, sf, hA, hC, hM⟩ := hI
  have hn := hA.2.1.1
  have hM0 := hM.t0 0
  have fin := Inv.mk0 hA hC hM 0
  unfold wp_X6_pair
  refine s_X3_hasTwo hC.2.2.1.1 hn (bI_brn (fun hb => ?_) (fun hb => ?_))
  · obtain ⟨a, b, ha, hb', rfl, rfl⟩ := twoR_of hb
    refine ⟨fun c => ?_, fun c => ?_⟩
    · refine op_tell hA hC hM (m := 2) (by omega) ha hb' (by decide) (fun G1 hM1 hk => ?_)
      unfold wp_X7_pair
      rintro G2 rfl
      refine s_X7_areTwo hM1.2.2.1.1 hn ?_
      rw [hb]
      refine ⟨fun _ => ⟨fun _ => hk _ (fun G3 h3 => ⟨rfl, h3⟩), fun z => absurd c z⟩, fun z => absurd z (by decide)⟩
    · refine op_tell hA hC hM (m := 1) (by omega) ha hb' (by decide) (fun G1 hM1 hk => ?_)
      unfold wp_X7_pair
      rintro G2 rfl
      refine s_X7_areTwo hM1.2.2.1.1 hn ?_
      rw [hb]
      refine ⟨fun _ => ⟨fun z => absurd z c, fun _ => hk _ (fun G3 h3 => ⟨rfl, h3⟩)⟩, fun z => absurd z (by decide)⟩
  · unfold wp_X7_pair
    rintro G2 rfl
    refine s_X7_areTwo hM0.2.2.1.1 hn ?_
    rw [hb]
    exact ⟨fun z => absurd rfl z, fun _ => ⟨rfl, fin⟩⟩
theorem wz_0 {m : Nat} (h : m ≤ 2) : iI (wz m) = 0 ↔ m = 0 := by
  unfold wz
  by_cases e1 : m = 1
  · subst e1; decide
  · by_cases e2 : m = 2
    · subst e2; decide
    · have e : m = 0 := by omega
      subst e; decide
theorem op_free (hI : Inv G) (x y : Int32) : wp_X6_free G x y (fun r G1 => wp_X7_free G1 x y (fun r' G2 => r = r' ∧ Inv G2)) := by
  obtain ⟨nv, par, beh, tn, tf, n, sz, rw_, ver, fx, T, mu, hp, ch, sn, sf, hA, hC, hM⟩ := hI
  have hn := hA.2.1.1
  have hM0 := hM.t0 0
  have fin := Inv.mk0 hA hC hM 0
  unfold wp_X6_free
  refine s_X3_hasTwo hC.2.2.1.1 hn (bI_br (fun hb => ?_) (fun hb => ?_))
  · unfold wp_X7_free
    rintro G2 rfl
    refine s_X7_areTwo hM0.2.2.1.1 hn ?_
    rw [hb]
    exact ⟨fun _ => ⟨rfl, fin⟩, fun z => absurd rfl z⟩
  · obtain ⟨a, b, ha, hb', rfl, rfl⟩ := twoR_of hb
    have hmu := (hA.2.2.2.2.1 a b).1
    unfold wp_X1_hasWish
    refine ⟨a, by omega, rfl, b, by omega, rfl, ?_⟩
    rw [hC.2.2.2.2.2.2.1 a b (by omega) (by omega), wz_0 hmu]
    have ix : (40 : Int32) * nI a + nI b = nI (40 * a + b) := by rw [show (40 : Int32) * nI a = nI (40 * a) from pk_mul 40 a]; exact nI_add _ _
    refine ⟨fun c => ⟨fun z => absurd rfl z, fun _ => ?_⟩, fun c => ⟨fun _ => ?_, fun z => absurd z (by decide)⟩⟩
    · unfold wp_X7_free
      rintro G2 rfl
      refine s_X7_areTwo hM0.2.2.1.1 hn ?_
      rw [hb]
      refine ⟨fun z => absurd z (by decide), fun _ => ⟨40 * a + b, by omega, ix, ?_⟩⟩
      rw [hM0.2.2.2.2.2.2.1 a b (by omega) (by omega), c]
      exact ⟨fun z => absurd rfl z, fun _ => ⟨rfl, fin⟩⟩
    · refine op_tell hA hC hM (m := 0) (by omega) ha hb' (by decide) (fun G1 hM1 hk => ?_)
      unfold wp_X7_free
      rintro G2 rfl
      refine s_X7_areTwo hM1.2.2.1.1 hn ?_
      rw [hb]
      refine ⟨fun z => absurd z (by decide), fun _ => ⟨40 * a + b, by omega, ix, ?_⟩⟩
      rw [hM1.2.2.2.2.2.2.1 a b (by omega) (by omega)]
      refine ⟨fun _ => hk _ (fun G3 h3 => ⟨rfl, h3⟩), fun z => absurd ((nI_eq (b := 0) (by omega) (by omega)).mp z) c⟩
end OP3
