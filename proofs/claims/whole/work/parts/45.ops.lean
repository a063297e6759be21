/-! the law's calls, one by one -/
section OP
variable {G : GS} {nv : Nat} {par : Nat → Nat} {beh : Nat → Nat → Bool} {tn : Nat} {tf : Nat → Nat} {n : Nat} {sz : Nat → Nat} {rw_ : Nat → Nat → Nat} {ver : Nat → Nat} {fx : Nat → Int32} {T : Nat} {mu : Nat → Nat → Nat} {hp : Nat → Nat} {ch : Int32} {sn : Nat} {sf : Nat → Nat}
theorem Inv.mk0 (hA : KA nv par beh n sz rw_ ver fx T mu hp) (hC : KC nv beh tn tf n sz rw_ ver fx T mu hp ch sn sf G) (hM : KM nv par tn tf n sz rw_ ver fx T mu hp ch sn sf G) (v : Int32) : Inv (sI G 7 0 v) := ⟨nv, par, beh, tn, tf, n, sz, rw_, ver, fx, T, mu, hp, ch, sn, sf, hA, hC.keep hA.2.1.1 t0_pM (fun a k z => by unfold pM; omega), hM.t0 v⟩
theorem s_X7_version (hV : vOK nv par beh) (hv : vM nv par G) {x : Int32} {post : Int32 → GS → Prop} (h : ∀ G', vM (vN nv x) (vPar nv par x) G' → fe (fun a k => (a = 7 ∧ (k = 0 ∨ k = 1)) ∨ a = 20) G G' → post (vAns nv x) G') : wp_X7_version G x post := by
  obtain ⟨h1, h2, h3, h4⟩ := hV
  unfold wp_X7_version
  rintro G1 rfl
  have hf1 : fe (fun a k => (a = 7 ∧ (k = 0 ∨ k = 1)) ∨ a = 20) G (sI G 7 0 0) := fe.sI (by omega)
  have hv1 : vM nv par (sI G 7 0 0) := hv.fe (P := fun a k => a = 7 ∧ k = 0) (fe.sI ⟨rfl, rfl⟩) (by omega) (fun k => by omega)
  generalize sI G 7 0 0 = G1 at hf1 hv1
  have no : vGo nv x = false → post (-1) G1 := fun hg => by
    have h5 := h G1 (by unfold vN vPar; simp only [hg]; exact hv1) hf1
    unfold vAns at h5; rw [hg] at h5; exact h5
  refine s_X7_isVersion hv1.1 (by omega) (bI_br (fun hb => ?_) (fun hb => ?_))
  · exact no (by unfold vGo; rw [hb, Bool.false_and])
  · refine pk_ne nv 30 (fun c => ?_) (fun c => ?_) hv1.1
    · have hg : vGo nv x = true := by unfold vGo; rw [hb, Bool.true_and]; exact decide_eq_true (by omega)
      obtain ⟨j, hj, rfl⟩ := inR_of hb
      refine ⟨nv, by omega, hv1.1, ?_⟩
      rintro G7 rfl G8 rfl
      have e1 : (sI G1 20 nv (nI j)).1 7 1 + 1 = nI (nv + 1) := by rw [sI_ne1 _ _ _ _ (by decide), hv1.1]; exact nI_1 _
      rw [e1, sI_same, nI_pred]
      have h5 := h (sI (sI G1 20 nv (nI j)) 7 1 (nI (nv + 1))) ?_ ((hf1.tr (fe.sI (by omega))).tr (fe.sI (by omega)))
      · unfold vAns at h5
        rw [hg, if_pos rfl] at h5
        exact h5
      · unfold vN vPar
        simp only [hg, if_true]
        rw [nI_clamp (by omega)]
        refine ⟨sI_same _ _ _ _, ?_, fun v h0 hvv => ?_⟩
        · rw [sI_ne1 _ _ _ _ (by decide), sI_ne2 _ _ _ _ (by omega)]; exact hv1.2.1
        · dsimp only
          rw [sI_ne1 _ _ _ _ (by decide), sI_get]
          by_cases e : v = nv
          · rw [if_pos ⟨rfl, e⟩, if_pos e]
          · rw [if_neg (fun z => e z.2), if_neg e]; exact hv1.2.2 v h0 (by omega)
    · exact no (by unfold vGo; rw [decide_eq_false (by omega), Bool.and_false])
theorem vN_ge (nv : Nat) (x : Int32) : nv ≤ vN nv x := by unfold vN; split <;> omega
theorem op_version (hI : Inv G) (x : Int32) : wp_X6_version G x (fun r G1 => wp_X7_version G1 x (fun r' G2 => r = r' ∧ Inv G2)) := by
  obtain ⟨nv, par, beh, tn, tf, n, sz, rw_, ver, fx, T, mu, hp, ch, sn, sf, hA, hC, hM⟩ := hI
  have hn := hA.2.1.1
  have hge := vN_ge nv x
  unfold wp_X6_version
  refine s_X5_make hA.1 hC.1 (fun G1 hv1 hf1 => ?_)
  have hM1 := hM.keep hf1.e (fun a k z => by unfold pC; omega)
  refine s_X7_version hA.1 hM1.1 (fun G2 hv2 hf2 => ⟨rfl, ?_⟩)
  obtain ⟨a1, a2, a3, a4, a5, a6, a7, a8, a9⟩ := hC
  have hC1 : KC (vN nv x) (vBeh nv beh x) tn tf n sz rw_ ver fx T mu hp ch sn sf G1 := ⟨hv1, a2.fe hf1.e (by omega) (fun k => by omega), a3.fe hn hf1.e (by omega) (fun a k h1 h2 => by omega) (fun k => by omega) (fun a k h1 h2 => by omega), a4.fe hn hf1.e (fun k => by omega) (fun a k h1 h2 => by omega), a5.fe hf1.e (by omega) (by omega) (fun a k h1 h2 => by omega), by rw [hf1.i (by omega)]; exact a6, a7.fe hf1.e (fun a k h1 h2 => by omega), by rw [hf1.i (by omega)]; exact a8, a9.fe hf1.e (by omega) (fun k => by omega)⟩
  obtain ⟨b1, b2, b3, b4, b5, b6, b7, b8, b9⟩ := hM1
  obtain ⟨k1, k2, k3, k4, k5, k6⟩ := hA
  exact ⟨vN nv x, vPar nv par x, vBeh nv beh x, tn, tf, n, sz, rw_, ver, fx, T, mu, hp, ch, sn, sf, ⟨k1.step x, k2, fun r hr => ⟨by have := (k3 r hr).1; omega, (k3 r hr).2.imp id (fun ⟨v, q1, q2⟩ => ⟨v, by omega, q2⟩)⟩, k4, k5, k6⟩, hC1.keep hn hf2 (fun a k z => by unfold pM; omega), hv2, b2.fe hf2 (by omega) (fun k => by omega), b3.fe hf2 (by omega) (fun a k h1 h2 => by omega), b4.fe hf2 (fun k => by omega), b5.fe hf2 (fun k => by omega), by rw [hf2.i (by omega)]; exact b6, b7.fe hf2 (fun k => by omega), by rw [hf2.i (by omega)]; exact b8, b9.fe hf2 (by omega) (fun k => by omega)⟩
theorem op_behind (hI : Inv G) (x y : Int32) : wp_X6_behind G x y (fun r G1 => wp_X7_behind G1 x y (fun r' G2 => r = r' ∧ Inv G2)) := by
  obtain ⟨nv, par, beh, tn, tf, n, sz, rw_, ver, fx, T, mu, hp, ch, sn, sf, hA, hC, hM⟩ := hI
  have h30 := hA.1.2.1
  have hM0 := hM.t0 0
  have fin := Inv.mk0 hA hC hM 0
  unfold wp_X6_behind
  have mod : ∀ r : Int32, (inR x nv = false → r = -1) → (inR x nv = true → inR y nv = false → r = -1) → (∀ v w, x = nI v → y = nI w → v < nv → w < nv → r = bI (beh v w)) → wp_X7_behind G x y (fun r' G2 => r = r' ∧ Inv G2) := fun r q1 q2 q3 => by
    unfold wp_X7_behind
    rintro G1 rfl
    refine s_X7_isVersion hM0.1.1 (by omega) (bI_br (fun hb => ⟨q1 hb, fin⟩) (fun hb => ?_))
    refine s_X7_isVersion hM0.1.1 (by omega) (bI_brn (fun hb2 => ?_) (fun hb2 => ⟨q2 hb hb2, fin⟩))
    obtain ⟨v, hv, rfl⟩ := inR_of hb
    obtain ⟨w, hw, rfl⟩ := inR_of hb2
    refine s_X7_isBehind hA.1 hM0.1 hv hw (bI_br (fun hb3 => ⟨?_, fin⟩) (fun hb3 => ⟨?_, fin⟩))
    · rw [q3 v w rfl rfl hv hw, hb3]; rfl
    · rw [q3 v w rfl rfl hv hw, hb3]; rfl
  refine s_X5_has hC.1.1 (by omega) (bI_br (fun hb => mod _ (fun _ => rfl) (fun z => by rw [hb] at z; cases z) (fun v w e1 _ hv _ => ?_)) (fun hb => ?_))
  · rw [e1, inR_nI hv (by omega)] at hb; cases hb
  refine s_X5_has hC.1.1 (by omega) (bI_brn (fun hb2 => ?_) (fun hb2 => mod _ (fun z => absurd (hb.symm.trans z) (by decide)) (fun _ _ => rfl) (fun v w _ e2 _ hw => ?_)))
  · obtain ⟨v, hv, rfl⟩ := inR_of hb
    obtain ⟨w, hw, rfl⟩ := inR_of hb2
    have uq : ∀ v' w', nI v = nI v' → nI w = nI w' → v' < nv → w' < nv → v = v' ∧ w = w' := fun v' w' e1 e2 h1 h2 => ⟨(nI_eq (by omega) (by omega)).mp e1, (nI_eq (by omega) (by omega)).mp e2⟩
    refine s_X5_isOr hC.1 h30 hv hw (bI_br (fun hb3 => mod _ (fun z => by rw [hb] at z; cases z) (fun _ z => by rw [hb2] at z; cases z) (fun v' w' e1 e2 h1 h2 => ?_)) (fun hb3 => mod _ (fun z => by rw [hb] at z; cases z) (fun _ z => by rw [hb2] at z; cases z) (fun v' w' e1 e2 h1 h2 => ?_)))
    · obtain ⟨rfl, rfl⟩ := uq v' w' e1 e2 h1 h2
      rw [hb3]; rfl
    · obtain ⟨rfl, rfl⟩ := uq v' w' e1 e2 h1 h2
      rw [hb3]; rfl
  · rw [e2, inR_nI hw (by omega)] at hb2; cases hb2
theorem op_distance (hI : Inv G) (x y : Int32) : wp_X6_distance G x y (fun r G1 => wp_X7_distance G1 x y (fun r' G2 => r = r' ∧ Inv G2)) := by
  obtain ⟨nv, par, beh, tn, tf, n, sz, rw_, ver, fx, T, mu, hp, ch, sn, sf, hA, hC, hM⟩ := hI
  have hn := hA.2.1.1
  have hM0 := hM.t0 0
  have fin := Inv.mk0 hA hC hM 0
  unfold wp_X6_distance
  have mod : ∀ r : Int32, (inR x n = false → r = -1) → (inR y n = false → r = -1) → (∀ a b, a < n → b < n → x = nI a → y = nI b → r = nI (dist n sz rw_ a b)) → wp_X7_distance G x y (fun r' G2 => r = r' ∧ Inv G2) := fun r q1 q2 q3 => by
    unfold wp_X7_distance
    rintro G1 rfl
    refine s_X7_isReport hM0.2.2.1.1 hn (bI_br (fun hb => ⟨q1 hb, fin⟩) (fun hb => ?_))
    refine s_X7_isReport hM0.2.2.1.1 hn (bI_br (fun hb2 => ⟨q2 hb2, fin⟩) (fun hb2 => ?_))
    obtain ⟨a, ha, rfl⟩ := inR_of hb
    obtain ⟨b, hb', rfl⟩ := inR_of hb2
    refine ⟨40 * a + b, by omega, by rw [show (40 : Int32) * nI a = nI (40 * a) from pk_mul 40 a]; exact nI_add _ _, ?_, fin⟩
    rw [hM0.2.2.2.1 a b ha hb']
    exact q3 a b ha hb' rfl rfl
  refine s_X3_has hC.2.2.1.1 hn (bI_br (fun hb => mod _ (fun _ => rfl) (fun _ => rfl) (fun a b ha _ e1 _ => ?_)) (fun hb => ?_))
  · rw [e1, inR_nI ha (by omega)] at hb; cases hb
  refine s_X3_has hC.2.2.1.1 hn (bI_br (fun hb2 => mod _ (fun _ => rfl) (fun _ => rfl) (fun a b _ hb' _ e2 => ?_)) (fun hb2 => ?_))
  · rw [e2, inR_nI hb' (by omega)] at hb2; cases hb2
  · obtain ⟨a, ha, rfl⟩ := inR_of hb
    obtain ⟨b, hb', rfl⟩ := inR_of hb2
    refine s_X0_between (by omega) (by omega) (mod _ (fun z => by rw [hb] at z; cases z) (fun z => by rw [hb2] at z; cases z) (fun a' b' h1 h2 e1 e2 => ?_))
    have e1 := (nI_eq (by omega) (by omega)).mp e1
    have e2 := (nI_eq (by omega) (by omega)).mp e2
    subst e1
    subst e2
    exact hC.2.2.2.1.2.2.1 a b ha hb'
theorem op_heap (hI : Inv G) (x : Int32) : wp_X6_heap G x (fun r G1 => wp_X7_heap G1 x (fun r' G2 => r = r' ∧ Inv G2)) := by
  obtain ⟨nv, par, beh, tn, tf, n, sz, rw_, ver, fx, T, mu, hp, ch, sn, sf, hA, hC, hM⟩ := hI
  have hn := hA.2.1.1
  have hM0 := hM.t0 0
  have fin := Inv.mk0 hA hC hM 0
  unfold wp_X6_heap
  refine s_X3_has hC.2.2.1.1 hn (bI_br (fun hb => ?_) (fun hb => ?_))
  · unfold wp_X7_heap
    rintro G1 rfl
    refine s_X7_isReport hM0.2.2.1.1 hn ?_
    rw [hb]
    exact ⟨fun _ => ⟨rfl, fin⟩, fun z => absurd rfl z⟩
  · obtain ⟨a, ha, rfl⟩ := inR_of hb
    refine s_X1_leastBeside hC.2.2.2.2.1 hA.2.2.2.2.2 ha ?_
    unfold wp_X7_heap
    rintro G1 rfl
    refine s_X7_isReport hM0.2.2.1.1 hn ?_
    rw [hb]
    refine ⟨fun z => absurd z (by decide), fun _ => ⟨a, by omega, rfl, ?_, fin⟩⟩
    rw [hM0.2.2.2.2.1 a ha]
theorem op_common (hI : Inv G) (x : Int32) : wp_X6_common G x (fun r G1 => wp_X7_common G1 x (fun r' G2 => r = r' ∧ Inv G2)) := by
  obtain ⟨nv, par, beh, tn, tf, n, sz, rw_, ver, fx, T, mu, hp, ch, sn, sf, hA, hC, hM⟩ := hI
  have hM0 := hM.t0 0
  have fin := Inv.mk0 hA hC hM 0
  unfold wp_X6_common
  have mod : ∀ r : Int32, r = bI (coX n sz rw_ x) → wp_X7_common G x (fun r' G2 => r = r' ∧ Inv G2) := fun r hr => by
    unfold wp_X7_common
    rintro G1 rfl
    refine s_X7_isCommon hM0.2.2.1 hA.2.1 (bI_br (fun hb => ⟨?_, fin⟩) (fun hb => ⟨?_, fin⟩))
    · rw [hr, hb]; rfl
    · rw [hr, hb]; rfl
  refine s_X3_isCommon hC.2.2.1 hA.2.1 (bI_br (fun hb => mod _ ?_) (fun hb => mod _ ?_))
  · rw [hb]; rfl
  · rw [hb]; rfl
theorem op_signed (hI : Inv G) (x : Int32) : wp_X6_signed G x (fun r G1 => wp_X7_signed G1 x (fun r' G2 => r = r' ∧ Inv G2)) := by
  obtain ⟨nv, par, beh, tn, tf, n, sz, rw_, ver, fx, T, mu, hp, ch, sn, sf, hA, hC, hM⟩ := hI
  have hM0 := hM.t0 0
  have fin := Inv.mk0 hA hC hM 0
  obtain ⟨s1, s2, s3⟩ := hC.2.2.2.2.2.2.2.2
  obtain ⟨t1, t2, t3⟩ := hM0.2.2.2.2.2.2.2.2
  unfold wp_X6_signed wp_X2_latestAt
  unfold wp_X7_signed
  rw [s2]
  rcases ix_cases x (n := sn) (by omega) with c | ⟨c, c2⟩ | ⟨j, hj, rfl, c, c2⟩
  · refine ⟨fun _ => ?_, fun z => absurd c z⟩
    rintro G1 rfl
    exact ⟨fun _ => ⟨rfl, fin⟩, fun z => absurd c z⟩
  · refine ⟨fun z => absurd z c, fun _ => ⟨fun _ => ?_, fun z => absurd c2 z⟩⟩
    rintro G1 rfl
    rw [t2]
    refine ⟨fun z => absurd z c, fun _ => ⟨fun z => ?_, fun _ => ⟨rfl, fin⟩⟩⟩
    exact absurd (Int32.lt_iff_toInt_lt.mp z) (by have := Int32.le_iff_toInt_le.mp c2; omega)
  · refine ⟨fun z => absurd z c, fun _ => ⟨fun z => absurd z c2, fun _ => ⟨j, by omega, rfl, ?_⟩⟩⟩
    rintro G1 rfl
    rw [t2]
    refine ⟨fun z => absurd z c, fun _ => ?_⟩
    refine pk_lt j sn (fun _ => ⟨j, by omega, rfl, ?_, fin⟩) (fun z => absurd z (by omega))
    rw [s3 j hj, t3 j hj]
end OP
