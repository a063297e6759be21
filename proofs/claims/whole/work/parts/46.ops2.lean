section OP2
variable {G : GS} {nv : Nat} {par : Nat → Nat} {beh : Nat → Nat → Bool} {tn : Nat} {tf : Nat → Nat} {n : Nat} {sz : Nat → Nat} {rw_ : Nat → Nat → Nat} {ver : Nat → Nat} {fx : Nat → Int32} {T : Nat} {mu : Nat → Nat → Nat} {hp : Nat → Nat} {ch : Int32} {sn : Nat} {sf : Nat → Nat}
theorem op_row (hI : Inv G) (x y : Int32) : wp_X6_row G x y (fun r G1 => wp_X7_row G1 x y (fun r' G2 => r = r' ∧ Inv G2)) := by
  obtain ⟨nv, par, beh, tn, tf, n, sz, rw_, ver, fx, T, mu, hp, ch, sn, sf, hA, hC, hM⟩ := hI
  have hn := hA.2.1.1
  have hM0 := hM.t0 0
  have fin := Inv.mk0 hA hC hM 0
  have mod : ∀ r : Int32, (inR x n = false → r = -1) → (∀ a, a < n → x = nI a → inR y (sz a) = false → r = -1) → (∀ a b, a < n → x = nI a → b < sz a → y = nI b → r = nI (rw_ a b)) → wp_X7_row G x y (fun r' G2 => r = r' ∧ Inv G2) := fun r q1 q2 q3 => by
    unfold wp_X7_row
    rintro G1 rfl
    refine s_X7_isReport hM0.2.2.1.1 hn (bI_br (fun hb => ⟨q1 hb, fin⟩) (fun hb => ?_))
    obtain ⟨a, ha, rfl⟩ := inR_of hb
    have h12 := (hA.2.1.2 a ha).1
    obtain ⟨e1, e2, e3, e4⟩ := hM0.2.2.1.2 a ha
    rcases ix_cases y (n := sz a) (by omega) with c | ⟨c, c2⟩ | ⟨j, hj, rfl, c, c2⟩
    · exact ⟨fun _ => ⟨q2 a ha rfl (inR_lt c), fin⟩, fun z => absurd c z⟩
    · refine ⟨fun z => absurd z c, fun _ => ⟨a, by omega, rfl, fun z => ?_, fun _ => ⟨q2 a ha rfl (inR_ge (nI_toInt (by omega)) c2), fin⟩⟩⟩
      rw [e1] at z
      exact absurd c2 (Int32.not_le.mpr z)
    · refine ⟨fun z => absurd z c, fun _ => ⟨a, by omega, rfl, fun _ => ?_, fun z => ?_⟩⟩
      · refine ⟨12 * a + j, by omega, by rw [show (12 : Int32) * nI a = nI (12 * a) from pk_mul 12 a]; exact nI_add _ _, ?_, fin⟩
        rw [e4 j hj]
        exact q3 a j ha rfl hj rfl
      · rw [e1] at z
        exact absurd (Int32.not_lt.mp z) c2
  unfold wp_X6_row
  refine s_X3_hasFrame hC.2.2.1 hA.2.1 (bI_br (fun hb => mod _ (fun _ => rfl) (fun _ _ _ _ => rfl) (fun a b ha e1 hb' e2 => ?_)) (fun hb => ?_))
  · subst e1; subst e2
    have h12 := (hA.2.1.2 a ha).1
    unfold frR at hb
    rw [inR_nI ha (by omega), nI_clamp (by omega), inR_nI hb' (by omega)] at hb
    cases hb
  · unfold frR at hb
    obtain ⟨hb1, hb2⟩ := Bool.and_eq_true_iff.mp hb
    obtain ⟨a, ha, rfl⟩ := inR_of hb1
    rw [nI_clamp (by omega)] at hb2
    have h12 := (hA.2.1.2 a ha).1
    obtain ⟨b, hb', rfl⟩ := inR_of hb2
    refine s_X3_frameAt (by omega) (by omega) (mod _ (fun z => absurd (hb1.symm.trans z) (by decide)) (fun a' h1 e z => ?_) (fun a' b' h1 e h2 e' => ?_))
    · have e := (nI_eq (by omega) (by omega)).mp e
      subst e
      exact absurd (hb2.symm.trans z) (by decide)
    · have e := (nI_eq (by omega) (by omega)).mp e
      subst e
      have e' := (nI_eq (by omega) (by omega)).mp e'
      subst e'
      exact (hC.2.2.1.2.1 a ha).2.2.2 b hb'
theorem op_fix (hI : Inv G) (x y : Int32) : wp_X6_fix G x y (fun r G1 => wp_X7_fix G1 x y (fun r' G2 => r = r' ∧ Inv G2)) := by
  obtain ⟨nv, par, beh, tn, tf, n, sz, rw_, ver, fx, T, mu, hp, ch, sn, sf, hA, hC, hM⟩ := hI
  have hn := hA.2.1.1
  have h30 := hA.1.2.1
  have hM0 := hM.t0 0
  have fin := Inv.mk0 hA hC hM 0
  unfold wp_X6_fix
  refine s_X3_has hC.2.2.1.1 hn (bI_br (fun hb => ?_) (fun hb => ?_))
  · unfold wp_X7_fix
    rintro G1 rfl
    refine s_X7_isReport hM0.2.2.1.1 hn ?_
    rw [hb]
    exact ⟨fun _ => ⟨rfl, fin⟩, fun z => absurd rfl z⟩
  refine s_X5_has hC.1.1 (by omega) (bI_brn (fun hb2 => ?_) (fun hb2 => ?_))
  · obtain ⟨a, ha, rfl⟩ := inR_of hb
    obtain ⟨v, hv, rfl⟩ := inR_of hb2
    unfold wp_X3_setFixedAt
    refine ⟨a, by omega, rfl, ?_⟩
    rintro G1 rfl
    have hf1 : fe (fun b k => b = 12 ∧ k = a) G (sI G 12 a (nI v)) := fe.sI ⟨rfl, rfl⟩
    have hM1 := (hM.keep hf1 (fun b k z => by unfold pC; omega)).t0 0
    obtain ⟨a1, a2, a3, a4, a5, a6, a7, a8, a9⟩ := hC
    have hC1 : KC nv beh tn tf n sz rw_ ver (fun r => if r = a then nI v else fx r) T mu hp ch sn sf (sI G 12 a (nI v)) := ⟨a1.fe hf1 (by omega) (fun k => by omega), a2.fe hf1 (by omega) (fun k => by omega), ⟨by rw [hf1.i (by omega)]; exact a3.1, fun r hr => ?_, fun f hf' i hi => by rw [hf1.l (by omega)]; exact a3.2.2 f hf' i hi⟩, a4.fe hn hf1 (fun k => by omega) (fun a k h1 h2 => by omega), a5.fe hf1 (by omega) (by omega) (fun a k h1 h2 => by omega), by rw [hf1.i (by omega)]; exact a6, a7.fe hf1 (fun a k h1 h2 => by omega), by rw [hf1.i (by omega)]; exact a8, a9.fe hf1 (by omega) (fun k => by omega)⟩
    · unfold wp_X7_fix
      rintro G2 rfl
      refine s_X7_isReport hM1.2.2.1.1 hn ?_
      rw [hb]
      refine ⟨fun z => absurd z (by decide), fun _ => ?_⟩
      refine s_X7_isVersion hM1.1.1 (by omega) ?_
      rw [hb2]
      refine ⟨fun _ => ⟨a, by omega, rfl, ?_⟩, fun z => absurd z (by decide)⟩
      rintro G3 rfl
      refine ⟨rfl, ?_⟩
      have hf3 : fe (fun b k => b = 25 ∧ k = a) (sI (sI G 12 a (nI v)) 7 0 0) (sI (sI (sI G 12 a (nI v)) 7 0 0) 25 a (nI v)) := fe.sI ⟨rfl, rfl⟩
      obtain ⟨b1, b2, b3, b4, b5, b6, b7, b8, b9⟩ := hM1
      obtain ⟨k1, k2, k3, k4, k5, k6⟩ := hA
      refine ⟨nv, par, beh, tn, tf, n, sz, rw_, ver, fun r => if r = a then nI v else fx r, T, mu, hp, ch, sn, sf, ⟨k1, k2, fun r hr => ⟨(k3 r hr).1, ?_⟩, k4, k5, k6⟩, (hC1.keep hn t0_pM (fun a k z => by unfold pM; omega)).keep hn hf3 (fun a k z => by unfold pM; omega), b1.fe hf3 (by omega) (fun k => by omega), b2.fe hf3 (by omega) (fun k => by omega), ⟨by rw [hf3.i (by omega)]; exact b3.1, fun r hr => ?_⟩, b4.fe hf3 (fun k => by omega), b5.fe hf3 (fun k => by omega), by rw [hf3.i (by omega)]; exact b6, b7.fe hf3 (fun k => by omega), by rw [hf3.i (by omega)]; exact b8, b9.fe hf3 (by omega) (fun k => by omega)⟩
      · dsimp only
        by_cases e : r = a
        · rw [if_pos e]; exact Or.inr ⟨v, hv, rfl⟩
        · rw [if_neg e]; exact (k3 r hr).2
      · obtain ⟨c1, c2, c3, c4⟩ := b3.2 r hr
        refine ⟨by rw [hf3.i (by omega)]; exact c1, by rw [hf3.i (by omega)]; exact c2, ?_, fun k hk => by rw [hf3.i (by omega)]; exact c4 k hk⟩
        show _ = if r = a then nI v else fx r
        by_cases e : r = a
        · rw [if_pos e, e, sI_same]
        · rw [if_neg e, hf3.i (by omega)]; exact c3
    · obtain ⟨c1, c2, c3, c4⟩ := a3.2.1 r hr
      refine ⟨by rw [hf1.i (by omega)]; exact c1, by rw [hf1.i (by omega)]; exact c2, ?_, fun k hk => by rw [hf1.i (by omega)]; exact c4 k hk⟩
      show _ = if r = a then nI v else fx r
      by_cases e : r = a
      · rw [if_pos e, e, sI_same]
      · rw [if_neg e, hf1.i (by omega)]; exact c3
  · unfold wp_X7_fix
    rintro G1 rfl
    refine s_X7_isReport hM0.2.2.1.1 hn ?_
    rw [hb]
    refine ⟨fun z => absurd z (by decide), fun _ => ?_⟩
    refine s_X7_isVersion hM0.1.1 (by omega) ?_
    rw [hb2]
    exact ⟨fun z => absurd rfl z, fun _ => ⟨rfl, fin⟩⟩
theorem KM.eM (hM : KM nv par tn tf n sz rw_ ver fx T mu hp ch sn sf G) : eM n (dist n sz rw_) T mu G := ⟨hM.2.2.1.1, hM.2.2.2.2.2.1, hM.2.2.2.1, hM.2.2.2.2.2.2.1⟩
theorem KC.eC (hC : KC nv beh tn tf n sz rw_ ver fx T mu hp ch sn sf G) : eC_ n (dist n sz rw_) T mu G := ⟨hC.2.2.2.2.2.1, hC.2.2.2.1.2.2.1, hC.2.2.2.2.2.2.1⟩
theorem KA.eK (hA : KA nv par beh n sz rw_ ver fx T mu hp) : eOK n (dist n sz rw_) T mu := dist_eOK hA.2.1 hA.2.2.2.1 hA.2.2.2.2.1
theorem op_cost (hI : Inv G) (x y : Int32) : wp_X6_cost G x y (fun r G1 => wp_X7_cost G1 x y (fun r' G2 => r = r' ∧ Inv G2)) := by
  obtain ⟨nv, par, beh, tn, tf, n, sz, rw_, ver, fx, T, mu, hp, ch, sn, sf, hA, hC, hM⟩ := hI
  have hn := hA.2.1.1
  have hM0 := hM.t0 0
  have fin := Inv.mk0 hA hC hM 0
  have hO := hA.2.2.2.2.2
  unfold wp_X6_cost
  refine ⟨fun hy => ?_, fun hy => ?_⟩
  · refine s_X3_hasTwo hC.2.2.1.1 hn (bI_br (fun hb => ?_) (fun hb => ?_))
    · unfold wp_X7_cost
      rintro G1 rfl
      refine ⟨fun z => absurd z hy, fun _ => ?_⟩
      refine s_X7_areTwo hM0.2.2.1.1 hn ?_
      rw [hb]
      exact ⟨fun _ => ⟨rfl, fin⟩, fun z => absurd rfl z⟩
    · obtain ⟨hb1, hb2⟩ := Bool.and_eq_true_iff.mp hb
      obtain ⟨hb4, hb3⟩ := Bool.and_eq_true_iff.mp hb2
      obtain ⟨a, ha, rfl⟩ := inR_of hb1
      obtain ⟨b, hb', rfl⟩ := inR_of hb4
      refine s_X1_costOfPair hA.eK hC.eC hC.2.2.2.2.1 hO ha hb' ?_
      unfold wp_X7_cost
      rintro G1 rfl
      refine ⟨fun z => absurd z hy, fun _ => ?_⟩
      refine s_X7_areTwo hM0.2.2.1.1 hn ?_
      rw [hb]
      refine ⟨fun z => absurd z (by decide), fun _ => ⟨a, by omega, rfl, b, by omega, rfl, ?_⟩⟩
      exact s_X7_pairNow hA.eK hM0.eM hM0.2.2.2.2.1 hO ha hb' ⟨rfl, fin⟩
  · refine s_X1_costOfAll hA.eK hC.eC hC.2.2.2.2.1 hO ?_
    unfold wp_X7_cost
    rintro G1 rfl
    refine ⟨fun _ => ?_, fun z => absurd hy z⟩
    generalize hD : dist n sz rw_ = D
    have hE := hA.eK
    have hEM := hM0.eM
    rw [hD] at hE hEM
    have hN := hM0.2.2.1.1
    have hH := hM0.2.2.2.2.1
    generalize sI G 7 0 0 = G1 at hN hH hEM fin
    refine ⟨fun m d v G2 => ∃ i, i ≤ n ∧ m = n - i ∧ v = nI i ∧ G2 = G1 ∧ d = nI (sN (fun a => sN (pcF D T mu hp a) a) i), ⟨n, 0, by omega, by omega, rfl, rfl, rfl⟩, ?_⟩
    rintro m d v G2 ⟨i, hi, rfl, rfl, rfl, rfl⟩
    refine pk_le n i (fun c => ?_) (fun c => ?_) hN
    · have e : i = n := by omega
      subst e
      exact ⟨rfl, fin⟩
    · refine ⟨fun m d v G3 => ∃ j, j ≤ i ∧ m = i - j ∧ v = nI j ∧ G3 = G2 ∧ d = nI (sN (fun a => sN (pcF D T mu hp a) a) i + sN (pcF D T mu hp i) j), ⟨i, 0, by omega, by omega, rfl, rfl, rfl⟩, ?_⟩
      rintro m2 d2 v2 G3 ⟨j, hj, rfl, rfl, rfl, rfl⟩
      refine pk_le i j (fun c2 => ?_) (fun c2 => ?_)
      · have e : j = i := by omega
        subst e
        exact ⟨n - (j + 1), by omega, j + 1, by omega, rfl, nI_1 _, rfl, rfl⟩
      · refine ⟨i, by omega, rfl, j, by omega, rfl, ?_⟩
        refine s_X7_pairNow hE hEM hH hO (show i < n by omega) (show j < n by omega) ?_
        rintro y rfl
        refine ⟨i - (j + 1), by omega, j + 1, by omega, rfl, nI_1 _, rfl, ?_⟩
        rw [nI_add, sN_s, Nat.add_assoc]
end OP2
