/-! Marks.tell -/
theorem all_bits : ∀ n, n < 41 → ∀ i, i < 64 → bl (((1 : Int64) <<< (Int32.toInt64 (nI n) &&& 63)) - 1) i = decide (i < n) := by decide +kernel
section MT
variable {G : GS} {n : Nat} {sz : Nat → Nat} {rw_ : Nat → Nat → Nat} {ver : Nat → Nat} {fx : Nat → Int32} {hp : Nat → Nat} {h : Nat}
theorem all_mB (hn : n ≤ 40) {x : Int64} (hx : ∀ i, i < 64 → bl x i = decide (i < n ∧ hp i = h)) : x = ((1 : Int64) <<< (Int32.toInt64 (nI n) &&& 63)) - 1 ↔ mB n sz rw_ hp h [] = true := by
  rw [mB_iff]
  constructor
  · intro e r hr hne
    have h1 := hx r (by omega)
    rw [e, all_bits n (by omega) r (by omega), decide_eq_true hr] at h1
    exact absurd (of_decide_eq_true h1.symm).2 hne
  · intro q
    refine bl_ext (fun i hi => ?_)
    rw [hx i hi, all_bits n (by omega) i hi]
    refine decide_eq_decide.mpr ⟨fun z => z.1, fun z => ⟨z, ?_⟩⟩
    by_cases hh : hp i = h
    · exact hh
    · have := q i z hh
      simp at this
theorem s_X2_tell (hC : rC n sz rw_ ver fx G) (hn : n ≤ 40) {x : Int64} (hx : ∀ i, i < 64 → bl x i = decide (i < n ∧ hp i = h)) {post : Int32 → GS → Prop} (hk : ∀ G', ((mkv (mB n sz rw_ hp h) (shL (shP n sz rw_ hp h) 501)).1 = 4 → G'.1 6 4 = G.1 6 4 ∧ ∀ t, G'.1 19 t = G.1 19 t) → ((mkv (mB n sz rw_ hp h) (shL (shP n sz rw_ hp h) 501)).1 ≤ 3 → G'.1 6 4 = nI (mkv (mB n sz rw_ hp h) (shL (shP n sz rw_ hp h) 501)).1 ∧ ∀ t, t < (mkv (mB n sz rw_ hp h) (shL (shP n sz rw_ hp h) 501)).1 → G'.1 19 t = nI (mkF (shL (shP n sz rw_ hp h) 501) (mkv (mB n sz rw_ hp h) (shL (shP n sz rw_ hp h) 501)) t)) → fe (fun a k => (a = 6 ∧ (k = 2 ∨ k = 4)) ∨ a = 18 ∨ a = 19 ∨ a = 39) G G' → post (mkA (mkv (mB n sz rw_ hp h) (shL (shP n sz rw_ hp h) 501))) G') : wp_X2_tell G x post := by
  have hL := shL_len (shP n sz rw_ hp h) 501
  have hLm : ∀ k, k < (shL (shP n sz rw_ hp h) 501).length → shP n sz rw_ hp h ((shL (shP n sz rw_ hp h) 501).getD k 0) = true := fun k hk => (shL_mem hk).2.2
  unfold wp_X2_tell
  show wp_X3_howMany G _
  unfold wp_X3_howMany
  rw [hC.1]
  rintro y rfl
  rw [lg0, all_mB (sz := sz) (rw_ := rw_) hn hx]
  refine ⟨fun c => ?_, fun c => ?_⟩
  · have hm0 : mB n sz rw_ hp h [] = false := by simpa using c
    refine s_X2_gatherShared hC hn hx (fun G5 hS5 hfe5 => ?_)
    generalize hLL : shL (shP n sz rw_ hp h) 501 = L at hk hL hLm hS5
    have f5 : fe (fun a k => (a = 6 ∧ (k = 2 ∨ k = 4)) ∨ a = 18 ∨ a = 19 ∨ a = 39) G G5 := hfe5.mono (fun a k z => by omega)
    refine s_X2_findOne hn hL hLm hS5 hx (fun n1 => ?_) (fun i G7 hF e4 e0 hfe7 => ?_)
    · refine ⟨fun z => absurd rfl z, fun _ => ?_⟩
      refine s_X2_findTwo hn hL hLm hS5 hx (fun n2 => ?_) (fun i j G7 hF e4 e0 e1 hfe7 => ?_)
      · refine ⟨fun z => absurd rfl z, fun _ => ?_⟩
        refine s_X2_findThree hn hL hLm hS5 hx (fun n3 => ?_) (fun i j k G7 hF e4 e0 e1 e2 hfe7 => ?_)
        · refine ⟨fun _ => ?_, fun z => absurd rfl z⟩
          have e := mkv_eq (m := mB n sz rw_ hp h) (L := L) (x := (4, 0, 0, 0)) (Or.inr (Or.inr (Or.inr (Or.inr ⟨hm0, n1, n2, n3, rfl⟩))))
          rw [e] at hk
          exact hk G5 (fun _ => ⟨hfe5.i (by omega), fun t => hfe5.i (by omega)⟩) (fun z => absurd z (by show ¬ 4 ≤ 3; omega)) f5
        · refine ⟨fun z => absurd z (by decide), fun _ => ?_⟩
          have e := mkv_eq (m := mB n sz rw_ hp h) (L := L) (x := (3, i, j, k)) (Or.inr (Or.inr (Or.inr (Or.inl ⟨hm0, n1, n2, i, j, k, hF, rfl⟩))))
          rw [e] at hk
          rw [e4]
          refine hk G7 (fun z => absurd z (by show ¬ 3 = 4; omega)) (fun _ => ⟨e4, fun t ht => ?_⟩) (f5.tr (hfe7.mono (fun a k z => by omega)))
          have ht : t < 3 := ht
          rcases (show t = 0 ∨ t = 1 ∨ t = 2 by omega) with rfl | rfl | rfl
          · exact e0
          · exact e1
          · exact e2
      · refine ⟨fun _ => ?_, fun z => absurd z (by decide)⟩
        have e := mkv_eq (m := mB n sz rw_ hp h) (L := L) (x := (2, i, j, 0)) (Or.inr (Or.inr (Or.inl ⟨hm0, n1, i, j, hF, rfl⟩)))
        rw [e] at hk
        rw [e4]
        refine hk G7 (fun z => absurd z (by show ¬ 2 = 4; omega)) (fun _ => ⟨e4, fun t ht => ?_⟩) (f5.tr (hfe7.mono (fun a k z => by omega)))
        have ht : t < 2 := ht
        rcases (show t = 0 ∨ t = 1 by omega) with rfl | rfl
        · exact e0
        · exact e1
    · refine ⟨fun _ => ?_, fun z => absurd z (by decide)⟩
      have e := mkv_eq (m := mB n sz rw_ hp h) (L := L) (x := (1, i, 0, 0)) (Or.inr (Or.inl ⟨hm0, i, hF, rfl⟩))
      rw [e] at hk
      rw [e4]
      refine hk G7 (fun z => absurd z (by show ¬ 1 = 4; omega)) (fun _ => ⟨e4, fun t ht => ?_⟩) (f5.tr (hfe7.mono (fun a k z => by omega)))
      have ht : t < 1 := ht
      have : t = 0 := by omega
      subst this
      exact e0
  · rintro G16 rfl
    have e := mkv_eq (m := mB n sz rw_ hp h) (L := shL (shP n sz rw_ hp h) 501) (x := (0, 0, 0, 0)) (Or.inl ⟨c, rfl⟩)
    rw [e] at hk
    rw [sI_same]
    exact hk _ (fun z => absurd z (by show ¬ 0 = 4; omega)) (fun _ => ⟨sI_same _ _ _ _, fun t ht => absurd ht (by show ¬ t < 0; omega)⟩) (fe.sI (by omega))
end MT
