/-! the reference's sign -/
section MS
variable {G : GS} {n : Nat} {sz : Nat → Nat} {rw_ : Nat → Nat → Nat} {ver : Nat → Nat} {fx : Nat → Int32} {hp : Nat → Nat} {h : Nat} {L : List Nat}
/-- what the search needs: it stays the same while places of the draft are tried -/
def skE (n : Nat) (sz : Nat → Nat) (rw_ : Nat → Nat → Nat) (ver : Nat → Nat) (fx : Nat → Int32) (hp : Nat → Nat) (h : Nat) (L : List Nat) (G : GS) : Prop := rM n sz rw_ ver fx G ∧ rOK n sz rw_ ∧ hpM n hp G ∧ hOK n hp ∧ h ≤ 100 ∧ L.length ≤ 12 ∧ (∀ k, k < L.length → L.getD k 0 ≤ 500) ∧ shM L G
theorem skE.fe {P : Nat → Nat → Prop} {G' : GS} (hE : skE n sz rw_ ver fx hp h L G) (hf : fe P G G') (hP : ∀ a k, P a k → a = 34) : skE n sz rw_ ver fx hp h L G' := by
  obtain ⟨a1, a2, a3, a4, a5, a6, a7, a8⟩ := hE
  refine ⟨a1.fe hf (fun z => by have := hP _ _ z; omega) (fun a k h1 h2 z => by have := hP _ _ z; omega), a2, a3.fe hf (fun k z => by have := hP _ _ z; omega), a4, a5, a6, a7, ?_, fun k hk => ?_⟩
  · rw [hf.i (fun z => by have := hP _ _ z; omega)]; exact a8.1
  · rw [hf.i (fun z => by have := hP _ _ z; omega)]; exact a8.2 k hk
theorem mark_call (hE : skE n sz rw_ ver fx hp h L G) {fs : List Nat} (h3 : fs.length ≤ 3) (hfs : ∀ t, t < fs.length → fs.getD t 0 ≤ 500 ∧ G.1 34 t = nI (fs.getD t 0)) {post : Int32 → GS → Prop} (hk : post (bI (mB n sz rw_ hp h fs)) G) : wp_X7_isMark G (nI h) (nI fs.length) (fun r G' => (r = 0 ∨ r = 1) ∧ post r G') := s_X7_isMark hE.1 hE.2.1 hE.2.2.1 hE.2.2.2.1 hE.2.2.2.2.1 h3 hfs ⟨bI_01 _, hk⟩
/-- one place -/
theorem sk_one (hE : skE n sz rw_ ver fx hp h L G) {post : Int32 → GS → Prop} (k0 : no1 (mB n sz rw_ hp h) L → ∀ G', fe (fun a _ => a = 34) G G' → post 0 G') (k1 : ∀ i G', F1 (mB n sz rw_ hp h) L i → G'.1 34 0 = nI (L.getD i 0) → fe (fun a _ => a = 34) G G' → post 1 G') : wp_X7_seeks_d3 G (nI h) (nI 1) (nI 0) (nI 0) post := by
  rw [sk3]
  refine sk_step (by omega) (by omega) hE.2.2.2.2.2.1 hE.2.2.2.2.2.2.2 (by omega) (fun i => mB n sz rw_ hp h [L.getD i 0] = false) (fun i G2 => mB n sz rw_ hp h [L.getD i 0] = true ∧ G2.1 34 0 = nI (L.getD i 0)) (fun i G1 q1 q2 hf1 e0 post' p0 p1 => ?_) (fun hn G' hf => k0 (fun i hi => hn i (by omega) hi) G' (hf.mono (fun a k z => z.1))) (fun i G' q1 q2 hn hY hf => k1 i G' ⟨q2, hY.1, fun i' hi' => hn i' (by omega) hi'⟩ hY.2 (hf.mono (fun a k z => z.1)))
  rw [sk2]
  have hE1 := hE.fe hf1 (fun a k z => z.1)
  refine sk_end (mark_call (fs := [L.getD i 0]) hE1 (by show 1 ≤ 3; omega) (fun t ht => ?_) ?_)
  · have ht : t < 1 := ht
    have : t = 0 := by omega
    subst this
    exact ⟨hE.2.2.2.2.2.2.1 i q2, e0⟩
  · cases hb : mB n sz rw_ hp h [L.getD i 0] with
    | false => exact p0 hb G1 hf1
    | true => exact p1 G1 ⟨hb, e0⟩ hf1
theorem sk_two (hE : skE n sz rw_ ver fx hp h L G) {post : Int32 → GS → Prop} (k0 : no2 (mB n sz rw_ hp h) L → ∀ G', fe (fun a _ => a = 34) G G' → post 0 G') (k1 : ∀ i j G', F2 (mB n sz rw_ hp h) L i j → G'.1 34 0 = nI (L.getD i 0) → G'.1 34 1 = nI (L.getD j 0) → fe (fun a _ => a = 34) G G' → post 1 G') : wp_X7_seeks_d3 G (nI h) (nI 2) (nI 0) (nI 0) post := by
  rw [sk3]
  refine sk_step (by omega) (by omega) hE.2.2.2.2.2.1 hE.2.2.2.2.2.2.2 (by omega) (fun i => ∀ j, i < j → j < L.length → mB n sz rw_ hp h [L.getD i 0, L.getD j 0] = false) (fun i G2 => ∃ j, i < j ∧ j < L.length ∧ mB n sz rw_ hp h [L.getD i 0, L.getD j 0] = true ∧ (∀ j', i < j' → j' < j → mB n sz rw_ hp h [L.getD i 0, L.getD j' 0] = false) ∧ G2.1 34 0 = nI (L.getD i 0) ∧ G2.1 34 1 = nI (L.getD j 0)) (fun i G1 q1 q2 hf1 e0 post' p0 p1 => ?_) (fun hn G' hf => k0 (fun i j h1 h2 => hn i (by omega) (by omega) j h1 h2) G' (hf.mono (fun a k z => z.1))) (fun i G' q1 q2 hn hY hf => ?_)
  · rw [sk2]
    have hE1 := hE.fe hf1 (fun a k z => z.1)
    refine sk_step (k := 1) (by omega) (by omega) hE.2.2.2.2.2.1 hE1.2.2.2.2.2.2.2 (by omega) (fun j => mB n sz rw_ hp h [L.getD i 0, L.getD j 0] = false) (fun j G2 => mB n sz rw_ hp h [L.getD i 0, L.getD j 0] = true ∧ G2.1 34 1 = nI (L.getD j 0)) (fun j G2 r1 r2 hf2 e1 post2 s0 s1 => ?_) (fun hn G' hf => p0 (fun j h1 h2 => hn j (by omega) h2) G' (hf1.tr (hf.mono (fun a k z => ⟨z.1, by omega⟩)))) (fun j G' r1 r2 hn hY hf => p1 G' ⟨j, by omega, r2, hY.1, fun j' h1 h2 => hn j' (by omega) h2, by rw [hf.i (by omega)]; exact e0, hY.2⟩ (hf1.tr (hf.mono (fun a k z => ⟨z.1, by omega⟩))))
    rw [sk1]
    have hE2 := hE1.fe hf2 (fun a k z => z.1)
    refine sk_end (mark_call (fs := [L.getD i 0, L.getD j 0]) hE2 (by show 2 ≤ 3; omega) (fun t ht => ?_) ?_)
    · have ht : t < 2 := ht
      rcases (show t = 0 ∨ t = 1 by omega) with rfl | rfl
      · exact ⟨hE.2.2.2.2.2.2.1 i q2, by rw [hf2.i (by omega)]; exact e0⟩
      · exact ⟨hE.2.2.2.2.2.2.1 j r2, e1⟩
    · cases hb : mB n sz rw_ hp h [L.getD i 0, L.getD j 0] with
      | false => exact s0 hb G2 hf2
      | true => exact s1 G2 ⟨hb, e1⟩ hf2
  · obtain ⟨j, y1, y2, y3, y4, y5, y6⟩ := hY
    exact k1 i j G' ⟨y1, y2, y3, fun i' j' h1 h2 h3 => hn i' (by omega) h1 j' h2 h3, y4⟩ y5 y6 (hf.mono (fun a k z => z.1))
theorem sk_three (hE : skE n sz rw_ ver fx hp h L G) {post : Int32 → GS → Prop} (k0 : no3 (mB n sz rw_ hp h) L → ∀ G', fe (fun a _ => a = 34) G G' → post 0 G') (k1 : ∀ i j k G', F3 (mB n sz rw_ hp h) L i j k → G'.1 34 0 = nI (L.getD i 0) → G'.1 34 1 = nI (L.getD j 0) → G'.1 34 2 = nI (L.getD k 0) → fe (fun a _ => a = 34) G G' → post 1 G') : wp_X7_seeks_d3 G (nI h) (nI 3) (nI 0) (nI 0) post := by
  rw [sk3]
  refine sk_step (by omega) (by omega) hE.2.2.2.2.2.1 hE.2.2.2.2.2.2.2 (by omega) (fun i => ∀ j k, i < j → j < k → k < L.length → mB n sz rw_ hp h [L.getD i 0, L.getD j 0, L.getD k 0] = false) (fun i G2 => ∃ j k, i < j ∧ j < k ∧ k < L.length ∧ mB n sz rw_ hp h [L.getD i 0, L.getD j 0, L.getD k 0] = true ∧ (∀ j' k', i < j' → j' < j → j' < k' → k' < L.length → mB n sz rw_ hp h [L.getD i 0, L.getD j' 0, L.getD k' 0] = false) ∧ (∀ k', j < k' → k' < k → mB n sz rw_ hp h [L.getD i 0, L.getD j 0, L.getD k' 0] = false) ∧ G2.1 34 0 = nI (L.getD i 0) ∧ G2.1 34 1 = nI (L.getD j 0) ∧ G2.1 34 2 = nI (L.getD k 0)) (fun i G1 q1 q2 hf1 e0 post' p0 p1 => ?_) (fun hn G' hf => k0 (fun i j k h1 h2 h3 => hn i (by omega) (by omega) j k h1 h2 h3) G' (hf.mono (fun a k z => z.1))) (fun i G' q1 q2 hn hY hf => ?_)
  · rw [sk2]
    have hE1 := hE.fe hf1 (fun a k z => z.1)
    refine sk_step (k := 1) (by omega) (by omega) hE.2.2.2.2.2.1 hE1.2.2.2.2.2.2.2 (by omega) (fun j => ∀ k, j < k → k < L.length → mB n sz rw_ hp h [L.getD i 0, L.getD j 0, L.getD k 0] = false) (fun j G2 => ∃ k, j < k ∧ k < L.length ∧ mB n sz rw_ hp h [L.getD i 0, L.getD j 0, L.getD k 0] = true ∧ (∀ k', j < k' → k' < k → mB n sz rw_ hp h [L.getD i 0, L.getD j 0, L.getD k' 0] = false) ∧ G2.1 34 1 = nI (L.getD j 0) ∧ G2.1 34 2 = nI (L.getD k 0)) (fun j G2 r1 r2 hf2 e1 post2 s0 s1 => ?_) (fun hn G' hf => p0 (fun j k h1 h2 h3 => hn j (by omega) (by omega) k h2 h3) G' (hf1.tr (hf.mono (fun a k z => ⟨z.1, by omega⟩)))) (fun j G' r1 r2 hn hY hf => ?_)
    · rw [sk1]
      have hE2 := hE1.fe hf2 (fun a k z => z.1)
      refine sk_step (k := 2) (by omega) (by omega) hE.2.2.2.2.2.1 hE2.2.2.2.2.2.2.2 (by omega) (fun k => mB n sz rw_ hp h [L.getD i 0, L.getD j 0, L.getD k 0] = false) (fun k G3 => mB n sz rw_ hp h [L.getD i 0, L.getD j 0, L.getD k 0] = true ∧ G3.1 34 2 = nI (L.getD k 0)) (fun k G3 t1 t2 hf3 e2 post3 u0 u1 => ?_) (fun hn G' hf => s0 (fun k h1 h2 => hn k (by omega) h2) G' (hf2.tr (hf.mono (fun a k z => ⟨z.1, by omega⟩)))) (fun k G' t1 t2 hn hY hf => s1 G' ⟨k, by omega, t2, hY.1, fun k' h1 h2 => hn k' (by omega) h2, by rw [hf.i (by omega)]; exact e1, hY.2⟩ (hf2.tr (hf.mono (fun a k z => ⟨z.1, by omega⟩))))
      refine sk0 _ _ _ _ _ _ (sk_end (mark_call (fs := [L.getD i 0, L.getD j 0, L.getD k 0]) (hE2.fe hf3 (fun a k z => z.1)) (by show 3 ≤ 3; omega) (fun t ht => ?_) ?_))
      · have ht : t < 3 := ht
        rcases (show t = 0 ∨ t = 1 ∨ t = 2 by omega) with rfl | rfl | rfl
        · exact ⟨hE.2.2.2.2.2.2.1 i q2, by rw [hf3.i (by omega), hf2.i (by omega)]; exact e0⟩
        · exact ⟨hE.2.2.2.2.2.2.1 j r2, by rw [hf3.i (by omega)]; exact e1⟩
        · exact ⟨hE.2.2.2.2.2.2.1 k t2, e2⟩
      · cases hb : mB n sz rw_ hp h [L.getD i 0, L.getD j 0, L.getD k 0] with
        | false => exact u0 hb G3 hf3
        | true => exact u1 G3 ⟨hb, e2⟩ hf3
    · obtain ⟨k, y1, y2, y3, y4, y5, y6⟩ := hY
      exact p1 G' ⟨j, k, by omega, y1, y2, y3, fun j' k' h1 h2 h3 h4 => hn j' (by omega) h2 k' h3 h4, y4, by rw [hf.i (by omega)]; exact e0, y5, y6⟩ (hf1.tr (hf.mono (fun a k z => ⟨z.1, by omega⟩)))
  · obtain ⟨j, k, y1, y2, y3, y4, y5, y6, y7, y8, y9⟩ := hY
    exact k1 i j k G' ⟨y1, y2, y3, y4, fun i' j' k' h1 h2 h3 h4 => hn i' (by omega) h1 j' k' h2 h3 h4, y5, y6⟩ y7 y8 y9 (hf.mono (fun a k z => z.1))
/-- once the search is over, the draft becomes the latest MARK -/
theorem s_X7_sign (hM : rM n sz rw_ ver fx G) (hR : rOK n sz rw_) (hH : hpM n hp G) (hO : hOK n hp) {x : Int32} {post : Int32 → GS → Prop} (hno : inR x n = false → ∀ G', fe (fun a k => a = 7 ∧ k = 0) G G' → post (-1) G') (hk : ∀ r, r < n → x = nI r → ∀ G', ((mkv (mB n sz rw_ hp (hp r)) (shL (shP n sz rw_ hp (hp r)) 501)).1 = 4 → G'.1 7 26 = G.1 7 26 ∧ ∀ t, G'.1 33 t = G.1 33 t) → ((mkv (mB n sz rw_ hp (hp r)) (shL (shP n sz rw_ hp (hp r)) 501)).1 ≤ 3 → G'.1 7 26 = nI (mkv (mB n sz rw_ hp (hp r)) (shL (shP n sz rw_ hp (hp r)) 501)).1 ∧ ∀ t, t < (mkv (mB n sz rw_ hp (hp r)) (shL (shP n sz rw_ hp (hp r)) 501)).1 → G'.1 33 t = nI (mkF (shL (shP n sz rw_ hp (hp r)) 501) (mkv (mB n sz rw_ hp (hp r)) (shL (shP n sz rw_ hp (hp r)) 501)) t)) → fe (fun a k => (a = 7 ∧ (k = 0 ∨ k = 26 ∨ k = 29)) ∨ (33 ≤ a ∧ a ≤ 35)) G G' → post (mkA (mkv (mB n sz rw_ hp (hp r)) (shL (shP n sz rw_ hp (hp r)) 501))) G') : wp_X7_sign G x post := by
  have hn := hR.1
  unfold wp_X7_sign
  rintro G1 rfl
  have hf1 : fe (fun a k => a = 7 ∧ k = 0) G (sI G 7 0 0) := fe.sI ⟨rfl, rfl⟩
  have hM1 : rM n sz rw_ ver fx (sI G 7 0 0) := hM.fe hf1 (by omega) (fun a k h1 h2 => by omega)
  have hH1 : hpM n hp (sI G 7 0 0) := hH.fe hf1 (fun k => by omega)
  generalize sI G 7 0 0 = G1 at hf1 hM1 hH1
  refine s_X7_isReport hM1.1 hn (bI_brn (fun hb => ?_) (fun hb => hno hb G1 hf1))
  obtain ⟨r, hr, rfl⟩ := inR_of hb
  have hk := hk r hr rfl
  have hpr := (hO.2 r hr).1
  refine ⟨r, by omega, rfl, ?_⟩
  rw [hH1 r hr]
  refine s_X7_findShared hM1 hR hH1 hO (show hp r ≤ 100 by omega) (fun G6 hS6 hf6 => ?_)
  have hL := shL_len (shP n sz rw_ hp (hp r)) 501
  have hL5 : ∀ k, k < (shL (shP n sz rw_ hp (hp r)) 501).length → (shL (shP n sz rw_ hp (hp r)) 501).getD k 0 ≤ 500 := fun k hk => by have := (shL_mem hk).1; omega
  have hE6 : skE n sz rw_ ver fx hp (hp r) (shL (shP n sz rw_ hp (hp r)) 501) G6 := ⟨hM1.fe hf6 (by omega) (fun a k h1 h2 => by omega), hR, hH1.fe hf6 (fun k => by omega), hO, by omega, hL, hL5, hS6⟩
  generalize hLL : shL (shP n sz rw_ hp (hp r)) 501 = L at hk hL hL5 hE6
  have hf06 : fe (fun a k => (a = 7 ∧ (k = 0 ∨ k = 26 ∨ k = 29)) ∨ (33 ≤ a ∧ a ≤ 35)) G G6 := (hf1.mono (fun a k z => by omega)).tr (hf6.mono (fun a k z => by omega))
  -- what is left once c FRAMES were found
  have fin : ∀ (c : Nat) (mr : MR) (G11 : GS), c ≤ 3 → mkv (mB n sz rw_ hp (hp r)) L = mr → mr.1 = c → (∀ t, t < c → G11.1 34 t = nI (mkF L mr t)) → fe (fun a _ => a = 34) G6 G11 → (∀ G_16 : GS, G_16 = sI G11 7 26 (nI c) → (∃ I55_17 : Nat → Int32 → GS → Prop, (∃ n_17 : Nat, I55_17 n_17 0 G_16) ∧ ∀ (n_17 : Nat) (v3_17 : Int32) (G_17 : GS), I55_17 n_17 v3_17 G_17 → ((nI c ≤ v3_17 → (post (nI c) G_17)) ∧ (¬ (nI c ≤ v3_17) → (∃ j70_18 : Nat, j70_18 < 3 ∧ v3_17 = nI j70_18 ∧ (∃ j71_19 : Nat, j71_19 < 3 ∧ v3_17 = nI j71_19 ∧ (∀ G_21 : GS, G_21 = sI G_17 33 j71_19 (G_17.1 34 j70_18) → (∃ k_23 : Nat, k_23 < n_17 ∧ I55_17 k_23 (v3_17 + 1) G_21)))))))) := by
    intro c mr G11 hc emr ec hd hf11
    rintro G16 rfl
    refine ⟨fun m v G17 => ∃ t, t ≤ c ∧ m = c - t ∧ v = nI t ∧ fe (fun a k => (a = 7 ∧ k = 26) ∨ a = 33) G11 G17 ∧ G17.1 7 26 = nI c ∧ ∀ u, u < t → G17.1 33 u = nI (mkF L mr u), ⟨c, 0, by omega, by omega, rfl, fe.sI (Or.inl ⟨rfl, rfl⟩), sI_same _ _ _ _, fun u hu => absurd hu (by omega)⟩, ?_⟩
    rintro m v G17 ⟨t, ht, rfl, rfl, hf17, h26, hdone⟩
    refine pk_le c t (fun c1 => ?_) (fun c1 => ?_)
    · rw [emr] at hk
      have hA : mkA mr = nI c := by unfold mkA; rw [ec, if_neg (by omega)]
      have hk := hk G17 (fun z => absurd z (by omega)) (fun _ => ⟨by rw [ec]; exact h26, fun u hu => hdone u (by omega)⟩) ((hf06.tr (hf11.mono (fun a k z => by omega))).tr (hf17.mono (fun a k z => by omega)))
      rw [hA] at hk
      exact hk
    · refine ⟨t, by omega, rfl, t, by omega, rfl, ?_⟩
      rintro G21 rfl
      refine ⟨c - (t + 1), by omega, t + 1, by omega, rfl, nI_1 _, hf17.tr (fe.sI (Or.inr rfl)), by rw [sI_ne1 _ _ _ _ (by decide)]; exact h26, fun u hu => ?_⟩
      by_cases e : u = t
      · rw [e, sI_same, hf17.i (by omega)]; exact hd t c1
      · rw [sI_ne2 _ _ _ _ e]; exact hdone u (by omega)
  refine ⟨fun m v G8 => ∃ c, c ≤ 4 ∧ m = 4 - c ∧ v = nI c ∧ fe (fun a _ => a = 34) G6 G8 ∧ (1 ≤ c → mB n sz rw_ hp (hp r) [] = false) ∧ (2 ≤ c → no1 (mB n sz rw_ hp (hp r)) L) ∧ (3 ≤ c → no2 (mB n sz rw_ hp (hp r)) L) ∧ (4 ≤ c → no3 (mB n sz rw_ hp (hp r)) L), ⟨4, 0, by omega, by omega, rfl, fe.rf, fun z => absurd z (by omega), fun z => absurd z (by omega), fun z => absurd z (by omega), fun z => absurd z (by omega)⟩, ?_⟩
  rintro m v G8 ⟨c, hc, rfl, rfl, hf8, m0, m1, m2, m3⟩
  have hE8 := hE6.fe hf8 (fun a k z => z)
  refine pk_lt 3 c (fun c1 => ?_) (fun c1 => ?_)
  · have e := mkv_eq (m := mB n sz rw_ hp (hp r)) (L := L) (x := (4, 0, 0, 0)) (Or.inr (Or.inr (Or.inr (Or.inr ⟨m0 (by omega), m1 (by omega), m2 (by omega), m3 (by omega), rfl⟩))))
    rw [e] at hk
    exact hk G8 (fun _ => ⟨by rw [hf8.i (by omega), hf6.i (by omega), hf1.i (by omega)], fun t => by rw [hf8.i (by omega), hf6.i (by omega), hf1.i (by omega)]⟩) (fun z => absurd z (by show ¬ 4 ≤ 3; omega)) (hf06.tr (hf8.mono (fun a k z => by omega)))
  · refine ⟨r, by omega, rfl, ?_⟩
    rw [hE8.2.2.1 r hr]
    rcases (show c = 0 ∨ c = 1 ∨ c = 2 ∨ c = 3 by omega) with rfl | rfl | rfl | rfl
    · rw [sk3]
      refine sk_end (k := 0) (j := 0) (mark_call (fs := []) hE8 (by show 0 ≤ 3; omega) (fun t ht => absurd ht (by show ¬ t < 0; omega)) ?_)
      refine bI_br (fun hb2 => ?_) (fun hb2 => ?_)
      · exact ⟨4 - 1, by omega, 1, by omega, rfl, rfl, hf8, fun _ => hb2, fun z => absurd z (by omega), fun z => absurd z (by omega), fun z => absurd z (by omega)⟩
      · exact fin 0 (0, 0, 0, 0) G8 (by omega) (mkv_eq (Or.inl ⟨hb2, rfl⟩)) rfl (fun t ht => absurd ht (by omega)) hf8
    · refine sk_one hE8 (fun n1 G' hf => ?_) (fun i G' hF e0 hf => ?_)
      · exact ⟨fun _ => ⟨4 - 2, by omega, 2, by omega, rfl, rfl, hf8.tr hf, fun _ => m0 (by omega), fun _ => n1, fun z => absurd z (by omega), fun z => absurd z (by omega)⟩, fun z => absurd rfl z⟩
      · refine ⟨fun z => absurd z (by decide), fun _ => fin 1 (1, i, 0, 0) G' (by omega) (mkv_eq (Or.inr (Or.inl ⟨m0 (by omega), i, hF, rfl⟩))) rfl (fun t ht => ?_) (hf8.tr hf)⟩
        have : t = 0 := by omega
        subst this
        exact e0
    · refine sk_two hE8 (fun n2 G' hf => ?_) (fun i j G' hF e0 e1 hf => ?_)
      · exact ⟨fun _ => ⟨4 - 3, by omega, 3, by omega, rfl, rfl, hf8.tr hf, fun _ => m0 (by omega), fun _ => m1 (by omega), fun _ => n2, fun z => absurd z (by omega)⟩, fun z => absurd rfl z⟩
      · refine ⟨fun z => absurd z (by decide), fun _ => fin 2 (2, i, j, 0) G' (by omega) (mkv_eq (Or.inr (Or.inr (Or.inl ⟨m0 (by omega), m1 (by omega), i, j, hF, rfl⟩)))) rfl (fun t ht => ?_) (hf8.tr hf)⟩
        rcases (show t = 0 ∨ t = 1 by omega) with rfl | rfl
        · exact e0
        · exact e1
    · refine sk_three hE8 (fun n3 G' hf => ?_) (fun i j k G' hF e0 e1 e2 hf => ?_)
      · exact ⟨fun _ => ⟨4 - 4, by omega, 4, by omega, rfl, rfl, hf8.tr hf, fun _ => m0 (by omega), fun _ => m1 (by omega), fun _ => m2 (by omega), fun _ => n3⟩, fun z => absurd rfl z⟩
      · refine ⟨fun z => absurd z (by decide), fun _ => fin 3 (3, i, j, k) G' (by omega) (mkv_eq (Or.inr (Or.inr (Or.inr (Or.inl ⟨m0 (by omega), m1 (by omega), m2 (by omega), i, j, k, hF, rfl⟩))))) rfl (fun t ht => ?_) (hf8.tr hf)⟩
        rcases (show t = 0 ∨ t = 1 ∨ t = 2 by omega) with rfl | rfl | rfl
        · exact e0
        · exact e1
        · exact e2
end MS
