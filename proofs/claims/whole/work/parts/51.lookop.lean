/-! look: class, law's catching, reference -/
section OPL
variable {G : GS} {nv : Nat} {par : Nat → Nat} {beh : Nat → Nat → Bool} {tn : Nat} {tf : Nat → Nat} {n : Nat} {sz : Nat → Nat} {rw_ : Nat → Nat → Nat} {ver : Nat → Nat} {fx : Nat → Int32} {T : Nat} {mu : Nat → Nat → Nat} {hp : Nat → Nat} {ch : Int32} {sn : Nat} {sf : Nat → Nat}
theorem y_four {y : Int32} (hy0 : ¬ y < 0) (hy4 : ¬ 4 < y) : y = 0 ∨ y = 1 ∨ y = 2 ∨ y = 3 ∨ y = 4 := by
  rcases ix_cases y (n := 5) (by omega) with c | ⟨c, c2⟩ | ⟨j, hj, rfl, c, c2⟩
  · exact absurd c hy0
  · refine absurd (Int32.lt_iff_toInt_lt.mpr ?_) hy4
    have h1 := Int32.le_iff_toInt_le.mp c2
    rw [nI_toInt (by omega)] at h1
    have h2 : (4 : Int32).toInt = 4 := by decide
    omega
  · rcases (show j = 0 ∨ j = 1 ∨ j = 2 ∨ j = 3 ∨ j = 4 by omega) with rfl | rfl | rfl | rfl | rfl
    · exact Or.inl (by decide)
    · exact Or.inr (Or.inl (by decide))
    · exact Or.inr (Or.inr (Or.inl (by decide)))
    · exact Or.inr (Or.inr (Or.inr (Or.inl (by decide))))
    · exact Or.inr (Or.inr (Or.inr (Or.inr (by decide))))
theorem op_look (hI : Inv G) (x y : Int32) : wp_L_look G x y (fun k G1 => wp_X7_look G1 x y (fun b G2 => wp_X7_thrown G2 (fun th G3 => th = k ∧ (k = 0 → G3.2 40 0 = Int32.toInt64 b) ∧ Inv G3))) := by
  obtain ⟨nv, par, beh, tn, tf, n, sz, rw_, ver, fx, T, mu, hp, ch, sn, sf, hA, hC, hM⟩ := hI
  have hn := hA.2.1.1
  have hO := hA.2.2.2.2.2
  have thr : (inR x n = false ∨ (y < 0 ∨ 4 < y)) → wp_X7_look G x y (fun b G2 => wp_X7_thrown G2 (fun th G3 => th = 1 ∧ ((1 : Int32) = 0 → G3.2 40 0 = Int32.toInt64 b) ∧ Inv G3)) := fun hbad => by
    unfold wp_X7_look
    refine s_X7_isReport hM.2.2.1.1 hn ⟨fun w => w = 1, ?_, bI_br (fun hb => rfl) (fun hb => ?_)⟩
    · rintro w rfl G4 rfl
      refine ⟨fun z => absurd z (by rw [sI_same]; decide), fun _ => ?_⟩
      unfold wp_X7_thrown
      exact ⟨sI_same _ _ _ _, fun z => absurd z (by decide), Inv.mk0 hA hC hM 1⟩
    · rcases hbad with z | z
      · rw [z] at hb; cases hb
      · exact ⟨fun _ => rfl, fun c => ⟨fun _ => rfl, fun c2 => (z.elim c c2).elim⟩⟩
  have ret : ∀ (a : Nat) (r : Int32), a < n → x = nI a → (y = 0 → r = nI (ver a)) → (y = 1 → r = nI (sz a)) → (y = 2 → r = fx a) → (y = 3 → r = bI (cbK n beh ver fx hp a)) → (y = 4 → r = nI (cnH n hp (hp a))) → ¬ y < 0 → ¬ 4 < y → wp_X7_look (sL G 40 0 (Int32.toInt64 r)) x y (fun b G2 => wp_X7_thrown G2 (fun th G3 => th = 0 ∧ ((0 : Int32) = 0 → G3.2 40 0 = Int32.toInt64 b) ∧ Inv G3)) := fun a r ha ex q0 q1 q2 q3 q4 hy0 hy4 => by
    have hf : fe (fun a _ => a = 40) G (sL G 40 0 (Int32.toInt64 r)) := fe.sL rfl
    have hC1 := hC.keep hn hf (fun a k z => by unfold pM; omega)
    have hM1 := hM.keep hf (fun a k z => by unfold pC; omega)
    have h40 : (sI (sL G 40 0 (Int32.toInt64 r)) 7 0 0).2 40 0 = Int32.toInt64 r := by rw [sI_2, sL_get, if_pos ⟨rfl, rfl⟩]
    have fin := Inv.mk0 hA hC1 hM1 0
    have hM0 := hM1.t0 0
    have e0 : (sI (sL G 40 0 (Int32.toInt64 r)) 7 0 0).1 7 0 = 0 := sI_same _ _ _ _
    unfold wp_X7_look
    refine s_X7_isReport hM1.2.2.1.1 hn ⟨fun w => w = 0, ?_, bI_br (fun hb => ?_) (fun hb => ⟨fun z => absurd z hy0, fun _ => ⟨fun z => absurd z hy4, fun _ => rfl⟩⟩)⟩
    · rintro w rfl G4 rfl
      generalize sI (sL G 40 0 (Int32.toInt64 r)) 7 0 0 = G4 at h40 fin hM0 e0 ⊢
      have ok : ∀ b : Int32, b = r → wp_X7_thrown G4 (fun th G3 => th = 0 ∧ ((0 : Int32) = 0 → G3.2 40 0 = Int32.toInt64 b) ∧ Inv G3) := fun b hb => by
        unfold wp_X7_thrown
        exact ⟨e0, fun _ => by rw [h40, hb], fin⟩
      obtain ⟨m1, m2, m3, m4⟩ := hM0.2.2.1.2 a ha
      refine ⟨fun _ => ⟨fun n0 => ⟨fun n1 => ⟨fun n2 => ⟨fun n3 => ?_, fun c3 => ?_⟩, fun c2 => ⟨a, by omega, ex, ok _ ?_⟩⟩, fun c1 => ⟨a, by omega, ex, ok _ ?_⟩⟩, fun c0 => ⟨a, by omega, ex, ok _ ?_⟩⟩, fun z => absurd (by rw [e0]; decide) z⟩
      · have e4 : y = 4 := by
          rcases y_four hy0 hy4 with e | e | e | e | e
          · exact absurd e n0
          · exact absurd e n1
          · exact absurd e n2
          · exact absurd e n3
          · exact e
        refine ⟨a, by omega, ex, ?_⟩
        rw [hM0.2.2.2.2.1 a ha]
        exact s_X7_inHeap hM0.2.2.1.1 hn hM0.2.2.2.2.1 (fun r hr => by have := (hO.2 r hr).1; omega) (by have := (hO.2 a ha).1; omega) (ok _ (q4 e4).symm)
      · rw [ex]
        exact s_X7_cameBack hA.1 hM0.1 hM0.2.2.1 hA.2.2.1 hM0.2.2.2.2.1 hO ha (bI_br (fun hb => ok _ (by rw [q3 c3, hb]; rfl)) (fun hb => ok _ (by rw [q3 c3, hb]; rfl)))
      · rw [m3, q2 c2]
      · rw [m1, q1 c1]
      · rw [m2, q0 c0]
    · rw [ex, inR_nI ha (by omega)] at hb; cases hb
  unfold wp_L_look wp_X6_look
  refine s_X3_has hC.2.2.1.1 hn (bI_brn (fun hb => ?_) (fun hb => thr (Or.inl hb)))
  obtain ⟨a, ha, ex⟩ := inR_of hb
  obtain ⟨c1, c2, c3, c4⟩ := hC.2.2.1.2.1 a ha
  have no : ∀ {a b : Int32} {P : Prop}, y = a → a ≠ b → y = b → P := fun e1 e2 e3 => absurd (e1.symm.trans e3) e2
  have lo : ∀ {a : Int32}, y = a → ¬ a < 0 → ¬ y < 0 := fun e h => by rw [e]; exact h
  have hi : ∀ {a : Int32}, y = a → ¬ 4 < a → ¬ 4 < y := fun e h => by rw [e]; exact h
  refine ⟨fun e => ?_, fun e => ?_, fun e => ?_, fun e => ?_, fun e => ?_, fun e0 e1 e2 e3 e4 => thr (Or.inr ?_)⟩
  · unfold wp_X3_versionOf
    exact ⟨a, by omega, ex, ret a _ ha ex (fun _ => c2) (no e (by decide)) (no e (by decide)) (no e (by decide)) (no e (by decide)) (lo e (by decide)) (hi e (by decide))⟩
  · unfold wp_X3_lengthOf
    exact ⟨a, by omega, ex, ret a _ ha ex (no e (by decide)) (fun _ => c1) (no e (by decide)) (no e (by decide)) (no e (by decide)) (lo e (by decide)) (hi e (by decide))⟩
  · unfold wp_X3_fixedAt
    exact ⟨a, by omega, ex, ret a _ ha ex (no e (by decide)) (no e (by decide)) (fun _ => c3) (no e (by decide)) (no e (by decide)) (lo e (by decide)) (hi e (by decide))⟩
  · have h3 : ∀ b, cbK n beh ver fx hp a = b → wp_X7_look (sL G 40 0 (Int32.toInt64 (bI b))) x y (fun b G2 => wp_X7_thrown G2 (fun th G3 => th = 0 ∧ ((0 : Int32) = 0 → G3.2 40 0 = Int32.toInt64 b) ∧ Inv G3)) := fun b hb => ret a _ ha ex (no e (by decide)) (no e (by decide)) (no e (by decide)) (fun _ => by rw [hb]) (no e (by decide)) (lo e (by decide)) (hi e (by decide))
    subst ex
    exact s_X6_cameBack hA.1 hC.1 hC.2.2.1 hA.2.2.1 hC.2.2.2.2.1 hO ha (bI_br (fun hb => h3 false hb) (fun hb => h3 true hb))
  · have h4 := ret a (nI (cnH n hp (hp a))) ha ex (no e (by decide)) (no e (by decide)) (no e (by decide)) (no e (by decide)) (fun _ => rfl) (lo e (by decide)) (hi e (by decide))
    subst ex
    exact s_X1_sizeBeside hC.2.2.2.2.1 hO ha h4
  · rcases Decidable.em (y < 0) with z | z
    · exact Or.inl z
    · rcases Decidable.em (4 < y) with z2 | z2
      · exact Or.inr z2
      · rcases y_four z z2 with e | e | e | e | e
        · exact absurd e e0
        · exact absurd e e1
        · exact absurd e e2
        · exact absurd e e3
        · exact absurd e e4
end OPL
