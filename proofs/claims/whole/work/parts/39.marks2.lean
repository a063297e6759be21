/-! the class's MARKS -/
section MC
variable {G : GS} {n : Nat} {sz : Nat → Nat} {rw_ : Nat → Nat → Nat} {ver : Nat → Nat} {fx : Nat → Int32} {hp : Nat → Nat}
/-- bits against FRAMES that are shared -/
theorem bits_mB (hn : n ≤ 40) {h : Nat} {fs : List Nat} {X x : Int64} (hX : ∀ i, i < 64 → bl X i = (decide (i < n) && fs.all (fun f => stB sz rw_ f i))) (hx : ∀ i, i < 64 → bl x i = decide (i < n ∧ hp i = h)) (hs : ∀ i, i < n → hp i = h → fs.all (fun f => stB sz rw_ f i) = true) : X = x ↔ mB n sz rw_ hp h fs = true := by
  rw [mB_iff]
  constructor
  · intro e r hr hne
    have h1 := hX r (by omega)
    rw [e, hx r (by omega), decide_eq_false (fun z => hne z.2), decide_eq_true hr, Bool.true_and] at h1
    exact h1.symm
  · intro q
    refine bl_ext (fun i hi => ?_)
    rw [hX i hi, hx i hi]
    by_cases hin : i < n
    · rw [decide_eq_true hin, Bool.true_and]
      by_cases hh : hp i = h
      · rw [hs i hin hh, decide_eq_true ⟨hin, hh⟩]
      · rw [q i hin hh, decide_eq_false (fun z => hh z.2)]
    · rw [decide_eq_false hin, Bool.false_and, decide_eq_false (fun z => hin z.1)]
theorem and_shP {h f : Nat} (hn : n ≤ 40) {X x : Int64} (hX : ∀ i, i < 64 → bl X i = (decide (i < n) && stB sz rw_ f i)) (hx : ∀ i, i < 64 → bl x i = decide (i < n ∧ hp i = h)) : (X &&& x) = x ↔ shP n sz rw_ hp h f = true := by
  rw [shP_iff]
  constructor
  · intro e i hi hh
    have h1 : bl (X &&& x) i = bl x i := by rw [e]
    rw [bl_and, hX i (by omega), hx i (by omega), decide_eq_true (show i < n ∧ hp i = h from ⟨hi, hh⟩), decide_eq_true hi, Bool.true_and, Bool.and_true] at h1
    exact h1
  · intro q
    refine bl_ext (fun i hi => ?_)
    rw [bl_and, hX i hi, hx i hi]
    by_cases c : i < n ∧ hp i = h
    · rw [decide_eq_true c, Bool.and_true, decide_eq_true c.1, q i c.1 c.2]; rfl
    · rw [decide_eq_false c, Bool.and_false]
/-- the shared ones lie there, with who has them -/
def shC (n : Nat) (sz : Nat → Nat) (rw_ : Nat → Nat → Nat) (L : List Nat) (G : GS) : Prop := G.1 6 2 = nI L.length ∧ ∀ k, k < L.length → G.1 18 k = nI (L.getD k 0) ∧ ∀ i, i < 64 → bl (G.2 39 k) i = (decide (i < n) && stB sz rw_ (L.getD k 0) i)
theorem s_X3_holdersOf {f : Nat} (hf : f ≤ 500) {post : Int64 → GS → Prop} (h : post (G.2 38 f) G) : wp_X3_holdersOf G (nI f) post := by unfold wp_X3_holdersOf; exact ⟨f, by omega, rfl, h⟩
theorem s_X2_gatherShared (hC : rC n sz rw_ ver fx G) (hn : n ≤ 40) {h : Nat} {x : Int64} (hx : ∀ i, i < 64 → bl x i = decide (i < n ∧ hp i = h)) {post : GS → Prop} (hk : ∀ G', shC n sz rw_ (shL (shP n sz rw_ hp h) 501) G' → fe (fun a k => (a = 6 ∧ k = 2) ∨ a = 18 ∨ a = 39) G G' → post G') : wp_X2_gatherShared G x post := by
  unfold wp_X2_gatherShared
  rintro G1 rfl
  refine ⟨fun m v G2 => ∃ i, 1 ≤ i ∧ i ≤ 501 ∧ m = 501 - i ∧ v = nI i ∧ shC n sz rw_ (shL (shP n sz rw_ hp h) i) G2 ∧ fe (fun a k => (a = 6 ∧ k = 2) ∨ a = 18 ∨ a = 39) G G2, ⟨500, 1, by omega, by omega, by omega, rfl, ?_, fe.sI (Or.inl ⟨rfl, rfl⟩)⟩, ?_⟩
  · rw [show shL (shP n sz rw_ hp h) 1 = [] from shL_f (i := 0) (Or.inl rfl)]
    exact ⟨sI_same _ _ _ _, fun k hk => absurd hk (by show ¬ k < 0; omega)⟩
  · rintro m v G2 ⟨i, hi1, hi, rfl, rfl, hS, hfe⟩
    have hlen := shL_len (shP n sz rw_ hp h) i
    refine pk_lt 500 i (fun c => ?_) (fun c => ?_)
    · have e : i = 501 := by omega
      subst e
      exact hk G2 hS hfe
    · refine pk_le 12 (shL (shP n sz rw_ hp h) i).length (fun c2 => ?_) (fun c2 => ?_) rfl hS.1
      · refine hk G2 ?_ hfe
        rw [show 501 = i + (501 - i) by omega, shL_full c2]
        exact hS
      · refine s_X3_holdersOf (by omega) ?_
        rw [show G2.2 38 i = G.2 38 i from hfe.l (by omega)]
        rw [lg0, and_shP hn (hC.2.2 i (by omega)) hx]
        refine ⟨fun c3 => ?_, fun c3 => ?_⟩
        · have e := shL_f (p := shP n sz rw_ hp h) (i := i) (Or.inr (Or.inl (by simpa using c3)))
          exact ⟨501 - (i + 1), by omega, i + 1, by omega, by omega, rfl, nI_1 _, by rw [e]; exact hS, hfe⟩
        · have e := shL_t (p := shP n sz rw_ hp h) (i := i) hi1 c3 c2
          refine ⟨(shL (shP n sz rw_ hp h) i).length, c2, hS.1, ?_⟩
          rintro G11 rfl
          refine ⟨(shL (shP n sz rw_ hp h) i).length, c2, by rw [sI_ne1 _ _ _ _ (by decide)]; exact hS.1, ?_⟩
          rintro G13 rfl G14 rfl
          refine ⟨501 - (i + 1), by omega, i + 1, by omega, by omega, rfl, nI_1 _, ⟨?_, fun k hkk => ⟨?_, fun j hj => ?_⟩⟩, ((hfe.tr (fe.sI (by omega))).tr (fe.sL (by omega))).tr (fe.sI (by omega))⟩
          · rw [sI_same, sL_1, sI_ne1 _ _ _ _ (by decide), hS.1, e, List.length_append, List.length_singleton]
            exact nI_1 _
          · rw [e, List.length_append, List.length_singleton] at hkk
            rw [e, sI_ne1 _ _ _ _ (by decide), sL_1]
            by_cases ek : k = (shL (shP n sz rw_ hp h) i).length
            · rw [ek, sI_same, getD_eq]
            · rw [sI_ne2 _ _ _ _ ek, getD_lt (by omega)]; exact (hS.2 k (by omega)).1
          · rw [e, List.length_append, List.length_singleton] at hkk
            rw [e, sI_2, sL_get]
            by_cases ek : k = (shL (shP n sz rw_ hp h) i).length
            · rw [if_pos ⟨rfl, ek⟩, ek, getD_eq]; exact hC.2.2 i (by omega) j hj
            · rw [if_neg (fun z => ek z.2), getD_lt (by omega), sI_2]; exact (hS.2 k (by omega)).2 j hj
theorem all1 {h a : Nat} (ha : shP n sz rw_ hp h a = true) : ∀ i, i < n → hp i = h → [a].all (fun f => stB sz rw_ f i) = true := fun i hi hh => by simp [shP_iff.mp ha i hi hh]
theorem all2 {h a b : Nat} (ha : shP n sz rw_ hp h a = true) (hb : shP n sz rw_ hp h b = true) : ∀ i, i < n → hp i = h → [a, b].all (fun f => stB sz rw_ f i) = true := fun i hi hh => by simp [shP_iff.mp ha i hi hh, shP_iff.mp hb i hi hh]
theorem all3 {h a b c : Nat} (ha : shP n sz rw_ hp h a = true) (hb : shP n sz rw_ hp h b = true) (hc : shP n sz rw_ hp h c = true) : ∀ i, i < n → hp i = h → [a, b, c].all (fun f => stB sz rw_ f i) = true := fun i hi hh => by simp [shP_iff.mp ha i hi hh, shP_iff.mp hb i hi hh, shP_iff.mp hc i hi hh]
variable {h : Nat} {L : List Nat} {x : Int64}
theorem s_X2_findOne (hn : n ≤ 40) (hL : L.length ≤ 12) (hLm : ∀ k, k < L.length → shP n sz rw_ hp h (L.getD k 0) = true) (hS : shC n sz rw_ L G) (hx : ∀ i, i < 64 → bl x i = decide (i < n ∧ hp i = h)) {post : Int32 → GS → Prop} (k0 : no1 (mB n sz rw_ hp h) L → post 0 G) (k1 : ∀ i G', F1 (mB n sz rw_ hp h) L i → G'.1 6 4 = nI 1 → G'.1 19 0 = nI (L.getD i 0) → fe (fun a k => (a = 6 ∧ k = 4) ∨ a = 19) G G' → post 1 G') : wp_X2_findOne G x post := by
  unfold wp_X2_findOne
  refine ⟨fun m v G1 => ∃ i, i ≤ L.length ∧ m = L.length - i ∧ v = nI i ∧ G1 = G ∧ ∀ i', i' < i → mB n sz rw_ hp h [L.getD i' 0] = false, ⟨L.length, 0, by omega, by omega, rfl, rfl, fun i' hi => absurd hi (by omega)⟩, ?_⟩
  rintro m v G1 ⟨i, hi, rfl, rfl, rfl, hno⟩
  refine pk_le L.length i (fun c => ?_) (fun c => ?_) hS.1
  · exact k0 (fun j hj => hno j (by omega))
  · refine ⟨i, by omega, rfl, ?_⟩
    rw [lg0, bits_mB (fs := [L.getD i 0]) hn (fun j hj => by rw [(hS.2 i c).2 j hj]; simp) hx (all1 (hLm i c))]
    refine ⟨fun c2 => ?_, fun c2 => ⟨i, by omega, rfl, 0, by omega, rfl, ?_⟩⟩
    · refine ⟨L.length - (i + 1), by omega, i + 1, by omega, rfl, nI_1 _, rfl, fun i' hi' => ?_⟩
      by_cases e : i' = i
      · rw [e]; simpa using c2
      · exact hno i' (by omega)
    · rintro G9 rfl G10 rfl
      exact k1 i _ ⟨c, c2, hno⟩ (sI_same _ _ _ _) (by rw [sI_ne1 _ _ _ _ (by decide), sI_same]; exact (hS.2 i c).1) ((fe.sI (Or.inr rfl)).tr (fe.sI (Or.inl ⟨rfl, rfl⟩)))
theorem s_X2_findTwo (hn : n ≤ 40) (hL : L.length ≤ 12) (hLm : ∀ k, k < L.length → shP n sz rw_ hp h (L.getD k 0) = true) (hS : shC n sz rw_ L G) (hx : ∀ i, i < 64 → bl x i = decide (i < n ∧ hp i = h)) {post : Int32 → GS → Prop} (k0 : no2 (mB n sz rw_ hp h) L → post 0 G) (k1 : ∀ i j G', F2 (mB n sz rw_ hp h) L i j → G'.1 6 4 = nI 2 → G'.1 19 0 = nI (L.getD i 0) → G'.1 19 1 = nI (L.getD j 0) → fe (fun a k => (a = 6 ∧ k = 4) ∨ a = 19) G G' → post 1 G') : wp_X2_findTwo G x post := by
  unfold wp_X2_findTwo
  refine ⟨fun m v G1 => ∃ i, i ≤ L.length ∧ m = L.length - i ∧ v = nI i ∧ G1 = G ∧ ∀ i' j', i' < i → i' < j' → j' < L.length → mB n sz rw_ hp h [L.getD i' 0, L.getD j' 0] = false, ⟨L.length, 0, by omega, by omega, rfl, rfl, fun i' j' hi => absurd hi (by omega)⟩, ?_⟩
  rintro m v G1 ⟨i, hi, rfl, rfl, rfl, hno⟩
  refine pk_le L.length i (fun c => ?_) (fun c => ?_) hS.1
  · exact k0 (fun i' j' h1 h2 => hno i' j' (by omega) h1 h2)
  · rintro y rfl
    refine ⟨fun m v G2 => ∃ j, i < j ∧ j ≤ L.length ∧ m = L.length - j ∧ v = nI j ∧ G2 = G1 ∧ ∀ j', i < j' → j' < j → mB n sz rw_ hp h [L.getD i 0, L.getD j' 0] = false, ⟨L.length - (i + 1), i + 1, by omega, by omega, rfl, nI_1 _, rfl, fun j' h1 h2 => absurd h2 (by omega)⟩, ?_⟩
    rintro m2 v2 G2 ⟨j, hij, hj, rfl, rfl, rfl, hno2⟩
    refine pk_le L.length j (fun c2 => ?_) (fun c2 => ?_) hS.1
    · refine ⟨L.length - (i + 1), by omega, i + 1, by omega, rfl, nI_1 _, rfl, fun i' j' h1 h2 h3 => ?_⟩
      by_cases e : i' = i
      · subst e; exact hno2 j' h2 (by omega)
      · exact hno i' j' (by omega) h2 h3
    · refine ⟨i, by omega, rfl, j, by omega, rfl, ?_⟩
      rw [lg0, bits_mB (fs := [L.getD i 0, L.getD j 0]) hn (fun t ht => by rw [bl_and, (hS.2 i (by omega)).2 t ht, (hS.2 j c2).2 t ht]; cases decide (t < n) <;> simp) hx (all2 (hLm i (by omega)) (hLm j c2))]
      refine ⟨fun c3 => ?_, fun c3 => ⟨i, by omega, rfl, 0, by omega, rfl, ?_⟩⟩
      · refine ⟨L.length - (j + 1), by omega, j + 1, by omega, by omega, rfl, nI_1 _, rfl, fun j' h1 h2 => ?_⟩
        by_cases e : j' = j
        · rw [e]; simpa using c3
        · exact hno2 j' h1 (by omega)
      · rintro G15 rfl
        refine ⟨j, by omega, rfl, 1, by omega, rfl, ?_⟩
        rintro G18 rfl G19 rfl
        refine k1 i j _ ⟨hij, c2, c3, hno, hno2⟩ (sI_same _ _ _ _) ?_ ?_ (((fe.sI (Or.inr rfl)).tr (fe.sI (Or.inr rfl))).tr (fe.sI (Or.inl ⟨rfl, rfl⟩)))
        · rw [sI_ne1 _ _ _ _ (by decide), sI_ne2 _ _ _ _ (by decide), sI_same]; exact (hS.2 i (by omega)).1
        · rw [sI_ne1 _ _ _ _ (by decide), sI_same, sI_ne1 _ _ _ _ (by decide)]; exact (hS.2 j c2).1
theorem s_X2_findThree (hn : n ≤ 40) (hL : L.length ≤ 12) (hLm : ∀ k, k < L.length → shP n sz rw_ hp h (L.getD k 0) = true) (hS : shC n sz rw_ L G) (hx : ∀ i, i < 64 → bl x i = decide (i < n ∧ hp i = h)) {post : Int32 → GS → Prop} (k0 : no3 (mB n sz rw_ hp h) L → post 0 G) (k1 : ∀ i j k G', F3 (mB n sz rw_ hp h) L i j k → G'.1 6 4 = nI 3 → G'.1 19 0 = nI (L.getD i 0) → G'.1 19 1 = nI (L.getD j 0) → G'.1 19 2 = nI (L.getD k 0) → fe (fun a k => (a = 6 ∧ k = 4) ∨ a = 19) G G' → post 1 G') : wp_X2_findThree G x post := by
  unfold wp_X2_findThree
  refine ⟨fun m v G1 => ∃ i, i ≤ L.length ∧ m = L.length - i ∧ v = nI i ∧ G1 = G ∧ ∀ i' j' k', i' < i → i' < j' → j' < k' → k' < L.length → mB n sz rw_ hp h [L.getD i' 0, L.getD j' 0, L.getD k' 0] = false, ⟨L.length, 0, by omega, by omega, rfl, rfl, fun i' j' k' hi => absurd hi (by omega)⟩, ?_⟩
  rintro m v G1 ⟨i, hi, rfl, rfl, rfl, hno⟩
  refine pk_le L.length i (fun c => ?_) (fun c => ?_) hS.1
  · exact k0 (fun i' j' k' h1 h2 h3 => hno i' j' k' (by omega) h1 h2 h3)
  · rintro y rfl
    refine ⟨fun m v G2 => ∃ j, i < j ∧ j ≤ L.length ∧ m = L.length - j ∧ v = nI j ∧ G2 = G1 ∧ ∀ j' k', i < j' → j' < j → j' < k' → k' < L.length → mB n sz rw_ hp h [L.getD i 0, L.getD j' 0, L.getD k' 0] = false, ⟨L.length - (i + 1), i + 1, by omega, by omega, rfl, nI_1 _, rfl, fun j' k' h1 h2 => absurd h2 (by omega)⟩, ?_⟩
    rintro m2 v2 G2 ⟨j, hij, hj, rfl, rfl, rfl, hno2⟩
    refine pk_le L.length j (fun c2 => ?_) (fun c2 => ?_) hS.1
    · refine ⟨L.length - (i + 1), by omega, i + 1, by omega, rfl, nI_1 _, rfl, fun i' j' k' h1 h2 h3 h4 => ?_⟩
      by_cases e : i' = i
      · subst e; exact hno2 j' k' h2 (by omega) h3 h4
      · exact hno i' j' k' (by omega) h2 h3 h4
    · rintro y8 rfl
      refine ⟨fun m v G3 => ∃ k, j < k ∧ k ≤ L.length ∧ m = L.length - k ∧ v = nI k ∧ G3 = G2 ∧ ∀ k', j < k' → k' < k → mB n sz rw_ hp h [L.getD i 0, L.getD j 0, L.getD k' 0] = false, ⟨L.length - (j + 1), j + 1, by omega, by omega, rfl, nI_1 _, rfl, fun k' h1 h2 => absurd h2 (by omega)⟩, ?_⟩
      rintro m3 v3 G3 ⟨k, hjk, hk, rfl, rfl, rfl, hno3⟩
      refine pk_le L.length k (fun c3 => ?_) (fun c3 => ?_) hS.1
      · refine ⟨L.length - (j + 1), by omega, j + 1, by omega, by omega, rfl, nI_1 _, rfl, fun j' k' h1 h2 h3 h4 => ?_⟩
        by_cases e : j' = j
        · subst e; exact hno3 k' h3 (by omega)
        · exact hno2 j' k' h1 (by omega) h3 h4
      · refine ⟨i, by omega, rfl, j, by omega, rfl, k, by omega, rfl, ?_⟩
        rw [lg0, bits_mB (fs := [L.getD i 0, L.getD j 0, L.getD k 0]) hn (fun t ht => by rw [bl_and, bl_and, (hS.2 i (by omega)).2 t ht, (hS.2 j c2).2 t ht, (hS.2 k c3).2 t ht]; cases decide (t < n) <;> simp [Bool.and_assoc]) hx (all3 (hLm i (by omega)) (hLm j c2) (hLm k c3))]
        refine ⟨fun c4 => ?_, fun c4 => ⟨i, by omega, rfl, 0, by omega, rfl, ?_⟩⟩
        · refine ⟨L.length - (k + 1), by omega, k + 1, by omega, by omega, rfl, nI_1 _, rfl, fun k' h1 h2 => ?_⟩
          by_cases e : k' = k
          · rw [e]; simpa using c4
          · exact hno3 k' h1 (by omega)
        · rintro G21 rfl
          refine ⟨j, by omega, rfl, 1, by omega, rfl, ?_⟩
          rintro G24 rfl
          refine ⟨k, by omega, rfl, 2, by omega, rfl, ?_⟩
          rintro G27 rfl G28 rfl
          refine k1 i j k _ ⟨hij, hjk, c3, c4, hno, hno2, hno3⟩ (sI_same _ _ _ _) ?_ ?_ ?_ ((((fe.sI (Or.inr rfl)).tr (fe.sI (Or.inr rfl))).tr (fe.sI (Or.inr rfl))).tr (fe.sI (Or.inl ⟨rfl, rfl⟩)))
          · rw [sI_ne1 _ _ _ _ (by decide), sI_ne2 _ _ _ _ (by decide), sI_ne2 _ _ _ _ (by decide), sI_same]; exact (hS.2 i (by omega)).1
          · rw [sI_ne1 _ _ _ _ (by decide), sI_ne2 _ _ _ _ (by decide), sI_same, sI_ne1 _ _ _ _ (by decide)]; exact (hS.2 j c2).1
          · rw [sI_ne1 _ _ _ _ (by decide), sI_same, sI_ne1 _ _ _ _ (by decide), sI_ne1 _ _ _ _ (by decide)]; exact (hS.2 k c3).1
end MC
