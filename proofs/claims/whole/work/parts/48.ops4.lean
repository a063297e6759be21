section OP4
variable {G : GS} {nv : Nat} {par : Nat → Nat} {beh : Nat → Nat → Bool} {tn : Nat} {tf : Nat → Nat} {n : Nat} {sz : Nat → Nat} {rw_ : Nat → Nat → Nat} {ver : Nat → Nat} {fx : Nat → Int32} {T : Nat} {mu : Nat → Nat → Nat} {hp : Nat → Nat} {ch : Int32} {sn : Nat} {sf : Nat → Nat}
theorem s_X6_howManyCameBack (hA : KA nv par beh n sz rw_ ver fx T mu hp) (hC : KC nv beh tn tf n sz rw_ ver fx T mu hp ch sn sf G) {post : Int32 → GS → Prop} (h : post (nI (cntB (cbK n beh ver fx hp) n)) G) : wp_X6_howManyCameBack G post := by
  have hn := hA.2.1.1
  unfold wp_X6_howManyCameBack
  refine ⟨fun m a v G1 => ∃ i, i ≤ n ∧ m = n - i ∧ v = nI i ∧ G1 = G ∧ a = nI (cntB (cbK n beh ver fx hp) i), ⟨n, 0, by omega, by omega, rfl, rfl, rfl⟩, ?_⟩
  rintro m a v G1 ⟨i, hi, rfl, rfl, rfl, rfl⟩
  refine s_X3_howMany ?_
  refine pk_le n i (fun c => ?_) (fun c => ?_) hC.2.2.1.1
  · have e : i = n := by omega
    subst e
    exact h
  · refine s_X6_cameBack hA.1 hC.1 hC.2.2.1 hA.2.2.1 hC.2.2.2.2.1 hA.2.2.2.2.2 (show i < n by omega) (bI_br (fun hb => ?_) (fun hb => ?_))
    · exact ⟨n - (i + 1), by omega, i + 1, by omega, rfl, nI_1 _, rfl, by rw [← cnt_stay hb]⟩
    · exact ⟨n - (i + 1), by omega, i + 1, by omega, rfl, nI_1 _, rfl, cnt_step hb⟩
theorem op_count (hI : Inv G) (x : Int32) : wp_X6_count G x (fun r G1 => wp_X7_count G1 x (fun r' G2 => r = r' ∧ Inv G2)) := by
  obtain ⟨nv, par, beh, tn, tf, n, sz, rw_, ver, fx, T, mu, hp, ch, sn, sf, hA, hC, hM⟩ := hI
  have hn := hA.2.1.1
  have hM0 := hM.t0 0
  have fin := Inv.mk0 hA hC hM 0
  have mod : ∀ r : Int32, (x = 0 → r = nI n) → (x = 1 → r = nI (rk hp n)) → (x = 2 → r = nI nv) → (x = 3 → r = nI T) → (x = 4 → r = nI tn) → (x = 5 → r = nI (cntB (coB n sz rw_) 501)) → (x = 6 → r = ch) → (x = 7 → r = nI (cntB (cbK n beh ver fx hp) n)) → (¬ x = 0 → ¬ x = 1 → ¬ x = 2 → ¬ x = 3 → ¬ x = 4 → ¬ x = 5 → ¬ x = 6 → ¬ x = 7 → r = -1) → wp_X7_count G x (fun r' G2 => r = r' ∧ Inv G2) := fun r q0 q1 q2 q3 q4 q5 q6 q7 q8 => by
    unfold wp_X7_count
    rintro G1 rfl
    generalize sI G 7 0 0 = G1 at hM0 fin
    refine ⟨fun e => ⟨?_, fin⟩, fun e => ?_, fun e => ⟨?_, fin⟩, fun e => ⟨?_, fin⟩, fun e => ⟨?_, fin⟩, fun e => ?_, fun e => ⟨?_, fin⟩, fun e => ?_, fun e0 e1 e2 e3 e4 e5 e6 e7 => ⟨q8 e0 e1 e2 e3 e4 e5 e6 e7, fin⟩⟩
    · rw [q0 e]; exact hM0.2.2.1.1.symm
    · exact s_X7_heaps hM0.2.2.1.1 hA.2.2.2.2.2 hM0.2.2.2.2.1 ⟨q1 e, fin⟩
    · rw [q2 e]; exact hM0.1.1.symm
    · rw [q3 e]; exact hM0.2.2.2.2.2.1.symm
    · rw [q4 e]; exact hM0.2.1.2.2.1.symm
    · refine ⟨fun m a v G2 => ∃ i, 1 ≤ i ∧ i ≤ 501 ∧ m = 501 - i ∧ v = nI i ∧ G2 = G1 ∧ a = nI (cntB (coB n sz rw_) i), ⟨500, 1, by omega, by omega, by omega, rfl, rfl, ?_⟩, ?_⟩
      · have e : coB n sz rw_ 0 = false := decide_eq_false (by omega)
        show (0 : Int32) = nI (0 + (if coB n sz rw_ 0 then 1 else 0))
        rw [e]; rfl
      · rintro m a v G2 ⟨i, hi1, hi, rfl, rfl, rfl, rfl⟩
        refine pk_lt 500 i (fun d => ?_) (fun d => ?_)
        · have e' : i = 501 := by omega
          subst e'
          exact ⟨q5 e, fin⟩
        · refine s_X7_isCommon hM0.2.2.1 hA.2.1 ?_
          rw [coX_nI (by omega)]
          refine bI_br (fun hb => ?_) (fun hb => ?_)
          · rintro y rfl
            exact ⟨501 - (i + 1), by omega, i + 1, by omega, by omega, rfl, nI_1 _, rfl, by rw [← cnt_stay hb]; exact nI_add _ 0⟩
          · rintro y rfl
            exact ⟨501 - (i + 1), by omega, i + 1, by omega, by omega, rfl, nI_1 _, rfl, cnt_step hb⟩
    · rw [q6 e]; exact hM0.2.2.2.2.2.2.2.1.symm
    · refine ⟨fun m a v G2 => ∃ i, i ≤ n ∧ m = n - i ∧ v = nI i ∧ G2 = G1 ∧ a = nI (cntB (cbK n beh ver fx hp) i), ⟨n, 0, by omega, by omega, rfl, rfl, rfl⟩, ?_⟩
      rintro m a v G2 ⟨i, hi, rfl, rfl, rfl, rfl⟩
      refine pk_le n i (fun c => ?_) (fun c => ?_) hM0.2.2.1.1
      · have e' : i = n := by omega
        subst e'
        exact ⟨q7 e, fin⟩
      · refine s_X7_cameBack hA.1 hM0.1 hM0.2.2.1 hA.2.2.1 hM0.2.2.2.2.1 hA.2.2.2.2.2 (show i < n by omega) (bI_br (fun hb => ?_) (fun hb => ?_))
        · rintro y rfl
          exact ⟨n - (i + 1), by omega, i + 1, by omega, rfl, nI_1 _, rfl, by rw [← cnt_stay hb]; exact nI_add _ 0⟩
        · rintro y rfl
          exact ⟨n - (i + 1), by omega, i + 1, by omega, rfl, nI_1 _, rfl, cnt_step hb⟩
  have no : ∀ {a b : Int32} {P : Prop}, x = a → a ≠ b → x = b → P := fun e1 e2 e3 => absurd (e1.symm.trans e3) e2
  unfold wp_X6_count
  refine ⟨fun e => ?_, fun e => ?_, fun e => ?_, fun e => ?_, fun e => ?_, fun e => ?_, fun e => ?_, fun e => ?_, fun e0 e1 e2 e3 e4 e5 e6 e7 => ?_⟩
  · unfold wp_X3_howMany
    rw [hC.2.2.1.1]
    exact mod _ (fun _ => rfl) (no e (by decide)) (no e (by decide)) (no e (by decide)) (no e (by decide)) (no e (by decide)) (no e (by decide)) (no e (by decide)) (fun z => absurd e z)
  · unfold wp_X1_howMany
    rw [hC.2.2.2.2.1.2.1]
    exact mod _ (no e (by decide)) (fun _ => rfl) (no e (by decide)) (no e (by decide)) (no e (by decide)) (no e (by decide)) (no e (by decide)) (no e (by decide)) (fun _ z => absurd e z)
  · unfold wp_X5_howMany
    rw [hC.1.1]
    exact mod _ (no e (by decide)) (no e (by decide)) (fun _ => rfl) (no e (by decide)) (no e (by decide)) (no e (by decide)) (no e (by decide)) (no e (by decide)) (fun _ _ z => absurd e z)
  · unfold wp_X1_getT
    rw [hC.2.2.2.2.2.1]
    exact mod _ (no e (by decide)) (no e (by decide)) (no e (by decide)) (fun _ => rfl) (no e (by decide)) (no e (by decide)) (no e (by decide)) (no e (by decide)) (fun _ _ _ z => absurd e z)
  · unfold wp_X4_howMany
    rw [hC.2.1.2.2.1]
    exact mod _ (no e (by decide)) (no e (by decide)) (no e (by decide)) (no e (by decide)) (fun _ => rfl) (no e (by decide)) (no e (by decide)) (no e (by decide)) (fun _ _ _ _ z => absurd e z)
  · refine s_X3_howManyCommon hC.2.2.1 hA.2.1 ?_
    exact mod _ (no e (by decide)) (no e (by decide)) (no e (by decide)) (no e (by decide)) (no e (by decide)) (fun _ => rfl) (no e (by decide)) (no e (by decide)) (fun _ _ _ _ _ z => absurd e z)
  · unfold wp_X1_changesDone
    rw [hC.2.2.2.2.2.2.2.1]
    exact mod _ (no e (by decide)) (no e (by decide)) (no e (by decide)) (no e (by decide)) (no e (by decide)) (no e (by decide)) (fun _ => rfl) (no e (by decide)) (fun _ _ _ _ _ _ z => absurd e z)
  · refine s_X6_howManyCameBack hA hC ?_
    exact mod _ (no e (by decide)) (no e (by decide)) (no e (by decide)) (no e (by decide)) (no e (by decide)) (no e (by decide)) (no e (by decide)) (fun _ => rfl) (fun _ _ _ _ _ _ _ z => absurd e z)
  · exact mod _ (fun z => absurd z e0) (fun z => absurd z e1) (fun z => absurd z e2) (fun z => absurd z e3) (fun z => absurd z e4) (fun z => absurd z e5) (fun z => absurd z e6) (fun z => absurd z e7) (fun _ _ _ _ _ _ _ _ => rfl)
theorem fst_ex {p : Nat → Prop} (h : ∃ i, p i) : ∃ i, p i ∧ ∀ j, j < i → ¬ p j := by
  obtain ⟨i, hi⟩ := h
  induction i using Nat.strongRecOn with
  | ind i ih =>
    by_cases e : ∃ j, j < i ∧ p j
    · obtain ⟨j, hj, hp⟩ := e
      exact ih j hj hp
    · exact ⟨i, hi, fun j hj hp => e ⟨j, hj, hp⟩⟩
theorem mkR_ex (m : List Nat → Bool) (L : List Nat) : ∃ x, mkR m L x ∧ x.1 ≤ 4 := by
  unfold mkR
  by_cases c0 : m [] = true
  · exact ⟨_, Or.inl ⟨c0, rfl⟩, by decide⟩
  have c0 : m [] = false := by simpa using c0
  by_cases c1 : ∃ i, i < L.length ∧ m [L.getD i 0] = true
  · obtain ⟨i, hi, hl⟩ := fst_ex c1
    refine ⟨_, Or.inr (Or.inl ⟨c0, i, ⟨hi.1, hi.2, fun i' h' => ?_⟩, rfl⟩), by simp⟩
    have := hl i' h'
    cases e : m [L.getD i' 0]
    · rfl
    · exact absurd ⟨by omega, e⟩ this
  have n1 : no1 m L := fun i hi => by
    cases e : m [L.getD i 0]
    · rfl
    · exact absurd ⟨i, hi, e⟩ c1
  by_cases c2 : ∃ i, ∃ j, i < j ∧ j < L.length ∧ m [L.getD i 0, L.getD j 0] = true
  · obtain ⟨i, hi, hl⟩ := fst_ex c2
    obtain ⟨j, hj, hl2⟩ := fst_ex hi
    refine ⟨_, Or.inr (Or.inr (Or.inl ⟨c0, n1, i, j, ⟨hj.1, hj.2.1, hj.2.2, fun i' j' h1 h2 h3 => ?_, fun j' h1 h2 => ?_⟩, rfl⟩)), by simp⟩
    · cases e : m [L.getD i' 0, L.getD j' 0]
      · rfl
      · exact absurd ⟨j', h2, h3, e⟩ (hl i' h1)
    · cases e : m [L.getD i 0, L.getD j' 0]
      · rfl
      · exact absurd ⟨h1, by omega, e⟩ (hl2 j' h2)
  have n2 : no2 m L := fun i j h1 h2 => by
    cases e : m [L.getD i 0, L.getD j 0]
    · rfl
    · exact absurd ⟨i, j, h1, h2, e⟩ c2
  by_cases c3 : ∃ i, ∃ j, ∃ k, i < j ∧ j < k ∧ k < L.length ∧ m [L.getD i 0, L.getD j 0, L.getD k 0] = true
  · obtain ⟨i, hi, hl⟩ := fst_ex c3
    obtain ⟨j, hj, hl2⟩ := fst_ex hi
    obtain ⟨k, hk, hl3⟩ := fst_ex hj
    refine ⟨_, Or.inr (Or.inr (Or.inr (Or.inl ⟨c0, n1, n2, i, j, k, ⟨hk.1, hk.2.1, hk.2.2.1, hk.2.2.2, fun i' j' k' h1 h2 h3 h4 => ?_, fun j' k' h1 h2 h3 h4 => ?_, fun k' h1 h2 => ?_⟩, rfl⟩))), by simp⟩
    · cases e : m [L.getD i' 0, L.getD j' 0, L.getD k' 0]
      · rfl
      · exact absurd ⟨j', k', h2, h3, h4, e⟩ (hl i' h1)
    · cases e : m [L.getD i 0, L.getD j' 0, L.getD k' 0]
      · rfl
      · exact absurd ⟨k', h1, h3, h4, e⟩ (hl2 j' h2)
    · cases e : m [L.getD i 0, L.getD j 0, L.getD k' 0]
      · rfl
      · exact absurd ⟨hk.1, h1, by omega, e⟩ (hl3 k' h2)
  have n3 : no3 m L := fun i j k h1 h2 h3 => by
    cases e : m [L.getD i 0, L.getD j 0, L.getD k 0]
    · rfl
    · exact absurd ⟨i, j, k, h1, h2, h3, e⟩ c3
  exact ⟨_, Or.inr (Or.inr (Or.inr (Or.inr ⟨c0, n1, n2, n3, rfl⟩))), by simp⟩
theorem mkv_le (m : List Nat → Bool) (L : List Nat) : (mkv m L).1 ≤ 4 := by
  obtain ⟨x, h1, h2⟩ := mkR_ex m L
  rw [mkv_eq h1]; exact h2
theorem op_sign (hI : Inv G) (x : Int32) : wp_X6_sign G x (fun r G1 => wp_X7_sign G1 x (fun r' G2 => r = r' ∧ Inv G2)) := by
  obtain ⟨nv, par, beh, tn, tf, n, sz, rw_, ver, fx, T, mu, hp, ch, sn, sf, hA, hC, hM⟩ := hI
  have hn := hA.2.1.1
  have hO := hA.2.2.2.2.2
  unfold wp_X6_sign
  refine s_X3_has hC.2.2.1.1 hn (bI_br (fun hb => ?_) (fun hb => ?_))
  · refine s_X7_sign hM.2.2.1 hA.2.1 hM.2.2.2.2.1 hO (fun _ G' hf => ⟨rfl, ?_⟩) (fun r hr e => ?_)
    · have hM1 : KM nv par tn tf n sz rw_ ver fx T mu hp ch sn sf G' := by
        obtain ⟨b1, b2, b3, b4, b5, b6, b7, b8, b9⟩ := hM
        exact ⟨b1.fe hf (by omega) (fun k => by omega), b2.fe hf (by omega) (fun k => by omega), b3.fe hf (by omega) (fun a k h1 h2 => by omega), b4.fe hf (fun k => by omega), b5.fe hf (fun k => by omega), (hf.i (by omega)).trans b6, b7.fe hf (fun k => by omega), (hf.i (by omega)).trans b8, b9.fe hf (by omega) (fun k => by omega)⟩
      exact ⟨nv, par, beh, tn, tf, n, sz, rw_, ver, fx, T, mu, hp, ch, sn, sf, hA, hC.keep hn hf (fun a k z => by unfold pM; omega), hM1⟩
    · rw [e, inR_nI hr (by omega)] at hb; cases hb
  · obtain ⟨a, ha, rfl⟩ := inR_of hb
    refine s_X1_setBeside hC.2.2.2.2.1 hO ha (fun X hX => ?_)
    refine s_X2_tell hC.2.2.1 hn hX (fun G1 c1 c2 hf1 => ?_)
    have hM1 := hM.keep hf1 (fun a k z => by unfold pC; omega)
    refine s_X7_sign hM1.2.2.1 hA.2.1 hM1.2.2.2.2.1 hO (fun z => absurd (hb.symm.trans z) (by decide)) (fun r hr e => ?_)
    have e := (nI_eq (by omega) (by omega)).mp e
    subst e
    intro G2 d1 d2 hf2
    refine ⟨rfl, ?_⟩
    generalize hv : mkv (mB n sz rw_ hp (hp a)) (shL (shP n sz rw_ hp (hp a)) 501) = v at c1 c2 d1 d2
    generalize hL : shL (shP n sz rw_ hp (hp a)) 501 = L at c1 c2 d1 d2
    have fin : ∀ sn' sf', sgC sn' sf' G1 → sgM sn' sf' G2 → Inv G2 := fun sn' sf' s1 s2 => by
      obtain ⟨a1, a2, a3, a4, a5, a6, a7, a8, a9⟩ := hC
      have hC1 : KC nv beh tn tf n sz rw_ ver fx T mu hp ch sn' sf' G1 := ⟨a1.fe hf1 (by omega) (fun k => by omega), a2.fe hf1 (by omega) (fun k => by omega), a3.fe hn hf1 (by omega) (fun a k h1 h2 => by omega) (fun k => by omega) (fun a k h1 h2 => by omega), a4.fe hn hf1 (fun k => by omega) (fun a k h1 h2 => by omega), a5.fe hf1 (by omega) (by omega) (fun a k h1 h2 => by omega), (hf1.i (by omega)).trans a6, a7.fe hf1 (fun a k h1 h2 => by omega), (hf1.i (by omega)).trans a8, s1⟩
      obtain ⟨b1, b2, b3, b4, b5, b6, b7, b8, b9⟩ := hM1
      exact ⟨nv, par, beh, tn, tf, n, sz, rw_, ver, fx, T, mu, hp, ch, sn', sf', hA, hC1.keep hn hf2 (fun a k z => by unfold pM; omega), b1.fe hf2 (by omega) (fun k => by omega), b2.fe hf2 (by omega) (fun k => by omega), b3.fe hf2 (by omega) (fun a k h1 h2 => by omega), b4.fe hf2 (fun k => by omega), b5.fe hf2 (fun k => by omega), (hf2.i (by omega)).trans b6, b7.fe hf2 (fun k => by omega), (hf2.i (by omega)).trans b8, s2⟩
    obtain ⟨q1, q2, q3⟩ := hC.2.2.2.2.2.2.2.2
    obtain ⟨p1, p2, p3⟩ := hM1.2.2.2.2.2.2.2.2
    by_cases e4 : v.1 = 4
    · exact fin sn sf ⟨q1, (c1 e4).1.trans q2, fun k hk => ((c1 e4).2 k).trans (q3 k hk)⟩ ⟨p1, (d1 e4).1.trans p2, fun k hk => ((d1 e4).2 k).trans (p3 k hk)⟩
    · by_cases e3 : v.1 ≤ 3
      · exact fin v.1 (mkF L v) ⟨e3, (c2 e3).1, (c2 e3).2⟩ ⟨e3, (d2 e3).1, (d2 e3).2⟩
      · exact absurd (mkv_le (mB n sz rw_ hp (hp a)) (shL (shP n sz rw_ hp (hp a)) 501)) (by rw [hv]; omega)
end OP4
