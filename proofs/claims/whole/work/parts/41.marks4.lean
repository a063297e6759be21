/-! the reference's MARKS -/
section MM
variable {G : GS} {n : Nat} {sz : Nat → Nat} {rw_ : Nat → Nat → Nat} {ver : Nat → Nat} {fx : Nat → Int32} {hp : Nat → Nat} {h : Nat}
def shM (L : List Nat) (G : GS) : Prop := G.1 7 29 = nI L.length ∧ ∀ k, k < L.length → G.1 35 k = nI (L.getD k 0)
theorem s_X7_findShared (hM : rM n sz rw_ ver fx G) (hR : rOK n sz rw_) (hH : hpM n hp G) (hO : hOK n hp) (hh : h ≤ 100) {post : GS → Prop} (hk : ∀ G', shM (shL (shP n sz rw_ hp h) 501) G' → fe (fun a k => (a = 7 ∧ k = 29) ∨ a = 35) G G' → post G') : wp_X7_findShared G (nI h) post := by
  have hn := hR.1
  unfold wp_X7_findShared
  rintro G1 rfl
  refine ⟨fun m v G2 => ∃ i, 1 ≤ i ∧ i ≤ 501 ∧ m = 501 - i ∧ v = nI i ∧ shM (shL (shP n sz rw_ hp h) i) G2 ∧ fe (fun a k => (a = 7 ∧ k = 29) ∨ a = 35) G G2, ⟨500, 1, by omega, by omega, by omega, rfl, ?_, fe.sI (Or.inl ⟨rfl, rfl⟩)⟩, ?_⟩
  · rw [show shL (shP n sz rw_ hp h) 1 = [] from shL_f (i := 0) (Or.inl rfl)]
    exact ⟨sI_same _ _ _ _, fun k hk => absurd hk (by show ¬ k < 0; omega)⟩
  · rintro m v G2 ⟨i, hi1, hi, rfl, rfl, hS, hfe⟩
    have hlen := shL_len (shP n sz rw_ hp h) i
    have hM2 : rM n sz rw_ ver fx G2 := hM.fe hfe (by omega) (fun a k h1 h2 => by omega)
    have hH2 : hpM n hp G2 := hH.fe hfe (fun k => by omega)
    refine pk_lt 500 i (fun c => ?_) (fun c => ?_)
    · have e : i = 501 := by omega
      subst e
      exact hk G2 hS hfe
    · refine ⟨fun m a v G4 => ∃ r, r ≤ n ∧ m = n - r ∧ v = nI r ∧ G4 = G2 ∧ a = bI (!(orB (fun j => decide (hp j = h) && !(stB sz rw_ i j)) r)), ⟨n, 0, by omega, by omega, rfl, rfl, rfl⟩, ?_⟩
      rintro m4 a4 v4 G4 ⟨r, hr, rfl, rfl, rfl, rfl⟩
      refine ⟨fun z G6 => z = bI (shP n sz rw_ hp h i) ∧ G6 = G4, ?_, ?_⟩
      · rintro z G6 ⟨rfl, rfl⟩
        refine bI_br (fun hb => ?_) (fun hb => ?_)
        · have e := shL_f (p := shP n sz rw_ hp h) (i := i) (Or.inr (Or.inl hb))
          exact ⟨501 - (i + 1), by omega, i + 1, by omega, by omega, rfl, nI_1 _, by rw [e]; exact hS, hfe⟩
        · refine pk_le 12 (shL (shP n sz rw_ hp h) i).length (fun c2 => ?_) (fun c2 => ?_) rfl hS.1
          · have e := shL_f (p := shP n sz rw_ hp h) (i := i) (Or.inr (Or.inr c2))
            exact ⟨501 - (i + 1), by omega, i + 1, by omega, by omega, rfl, nI_1 _, by rw [e]; exact hS, hfe⟩
          · have e := shL_t (p := shP n sz rw_ hp h) (i := i) hi1 hb c2
            refine ⟨(shL (shP n sz rw_ hp h) i).length, c2, hS.1, ?_⟩
            rintro G14 rfl G15 rfl
            refine ⟨501 - (i + 1), by omega, i + 1, by omega, by omega, rfl, nI_1 _, ⟨?_, fun k hkk => ?_⟩, (hfe.tr (fe.sI (by omega))).tr (fe.sI (by omega))⟩
            · rw [sI_same, sI_ne1 _ _ _ _ (by decide), hS.1, e, List.length_append, List.length_singleton]
              exact nI_1 _
            · rw [e, List.length_append, List.length_singleton] at hkk
              rw [e, sI_ne1 _ _ _ _ (by decide)]
              by_cases ek : k = (shL (shP n sz rw_ hp h) i).length
              · rw [ek, sI_same, getD_eq]
              · rw [sI_ne2 _ _ _ _ ek, getD_lt (by omega)]; exact hS.2 k (by omega)
      · have full : orB (fun j => decide (hp j = h) && !(stB sz rw_ i j)) r = true → shP n sz rw_ hp h i = false := fun q => by
          obtain ⟨j, h1, h2⟩ := orB_iff.mp q
          unfold shP
          rw [orB_t (show j < n by omega) h2]; rfl
        refine pk_le n r (fun c2 => ?_) (fun c2 => ?_) hM2.1
        · have e : r = n := by omega
          subst e
          exact ⟨rfl, rfl⟩
        · refine bI_br (fun hb => ?_) (fun hb => ?_)
          · have q : orB (fun j => decide (hp j = h) && !(stB sz rw_ i j)) r = true := by simpa using hb
            refine ⟨?_, rfl⟩
            rw [hb, full q]
          · have q : orB (fun j => decide (hp j = h) && !(stB sz rw_ i j)) r = false := by simpa using hb
            have hpr := (hO.2 r (by omega)).1
            have nx : ∀ b : Bool, (decide (hp r = h) && !(stB sz rw_ i r)) = !b → ∃ k, k < n - r ∧ ∃ r', r' ≤ n ∧ k = n - r' ∧ nI r + 1 = nI r' ∧ G4 = G4 ∧ bI b = bI (!(orB (fun j => decide (hp j = h) && !(stB sz rw_ i j)) r')) := fun b hb2 => ⟨n - (r + 1), by omega, r + 1, by omega, rfl, nI_1 _, rfl, by
              show bI b = bI (!(orB _ r || (decide (hp r = h) && !(stB sz rw_ i r))))
              rw [q, Bool.false_or, hb2, Bool.not_not]⟩
            refine ⟨r, by omega, rfl, ?_⟩
            refine pk_ne (hp r) h (fun c3 => ?_) (fun c3 => ?_) (hH2 r (by omega))
            · exact nx true (by simp [c3])
            · refine s_X7_stands hM2 hR (show r < n by omega) ?_
              rw [stx_nI hR (show i ≤ 500 by omega) (show r < n by omega)]
              refine bI_br (fun hb2 => ?_) (fun hb2 => ?_)
              · exact nx false (by simp [c3, hb2])
              · exact nx true (by simp [c3, hb2])
theorem getD_el {L : List Nat} {k : Nat} (h : k < L.length) : L.getD k 0 = L[k] := by simp [List.getD, h]
theorem all_orB {p : Nat → Bool} (fs : List Nat) : fs.all p = !(orB (fun t => !(p (fs.getD t 0))) fs.length) := by
  cases h : orB (fun t => !(p (fs.getD t 0))) fs.length with
  | true =>
    obtain ⟨k, h1, h2⟩ := orB_iff.mp h
    rw [Bool.not_true, List.all_eq_false]
    refine ⟨fs.getD k 0, ?_, by simpa using h2⟩
    rw [getD_el h1]
    exact List.getElem_mem h1
  | false =>
    rw [Bool.not_false, List.all_eq_true]
    intro x hx
    obtain ⟨k, h1, rfl⟩ := List.getElem_of_mem hx
    cases hp : p fs[k] with
    | true => rfl
    | false =>
      have := orB_t (p := fun t => !(p (fs.getD t 0))) h1 (by rw [getD_el h1, hp]; rfl)
      rw [h] at this; cases this
theorem s_X7_isMark (hM : rM n sz rw_ ver fx G) (hR : rOK n sz rw_) (hH : hpM n hp G) (hO : hOK n hp) (hh : h ≤ 100) {fs : List Nat} (h3 : fs.length ≤ 3) (hfs : ∀ t, t < fs.length → fs.getD t 0 ≤ 500 ∧ G.1 34 t = nI (fs.getD t 0)) {post : Int32 → GS → Prop} (hk : post (bI (mB n sz rw_ hp h fs)) G) : wp_X7_isMark G (nI h) (nI fs.length) post := by
  have hn := hR.1
  unfold wp_X7_isMark
  refine ⟨fun m is v G1 => ∃ r, r ≤ n ∧ m = n - r ∧ v = nI r ∧ G1 = G ∧ is = bI (!(orB (fun r => !(decide (hp r = h)) && fs.all (fun f => stB sz rw_ f r)) r)), ⟨n, 0, by omega, by omega, rfl, rfl, rfl⟩, ?_⟩
  rintro m is v G1 ⟨r, hr, rfl, rfl, rfl, rfl⟩
  refine pk_le n r (fun c => ?_) (fun c => ?_) hM.1
  · have e : r = n := by omega
    subst e
    exact ⟨bI_01 _, hk⟩
  · refine bI_br (fun hb => ?_) (fun hb => ?_)
    · have q : orB (fun r => !(decide (hp r = h)) && fs.all (fun f => stB sz rw_ f r)) r = true := by simpa using hb
      obtain ⟨j, h1, h2⟩ := orB_iff.mp q
      have e : mB n sz rw_ hp h fs = false := by
        unfold mB
        rw [orB_t (show j < n by omega) h2]; rfl
      rw [e] at hk
      rw [hb]
      exact ⟨Or.inl rfl, hk⟩
    · have q : orB (fun r => !(decide (hp r = h)) && fs.all (fun f => stB sz rw_ f r)) r = false := by simpa using hb
      have hpr := (hO.2 r (by omega)).1
      have nx : ∀ b : Bool, (!(decide (hp r = h)) && fs.all (fun f => stB sz rw_ f r)) = !b → ∃ k, k < n - r ∧ ∃ r', r' ≤ n ∧ k = n - r' ∧ nI r + 1 = nI r' ∧ G1 = G1 ∧ bI b = bI (!(orB (fun r => !(decide (hp r = h)) && fs.all (fun f => stB sz rw_ f r)) r')) := fun b hb2 => ⟨n - (r + 1), by omega, r + 1, by omega, rfl, nI_1 _, rfl, by
        show bI b = bI (!(orB _ r || (!(decide (hp r = h)) && fs.all (fun f => stB sz rw_ f r))))
        rw [q, Bool.false_or, hb2, Bool.not_not]⟩
      refine ⟨r, by omega, rfl, ?_⟩
      refine pk_eq (hp r) h (fun c3 => ?_) (fun c3 => ?_) (hH r (by omega))
      · have := nx true (by simp [c3])
        rw [hb]; exact this
      · refine ⟨fun m a v G8 => ∃ t, t ≤ fs.length ∧ m = fs.length - t ∧ v = nI t ∧ G8 = G1 ∧ a = bI (!(orB (fun t => !(stB sz rw_ (fs.getD t 0) r)) t)), ⟨fs.length, 0, by omega, by omega, rfl, rfl, rfl⟩, ?_⟩
        rintro m8 a8 v8 G8 ⟨t, ht, rfl, rfl, rfl, rfl⟩
        refine pk_le fs.length t (fun c4 => ?_) (fun c4 => ?_)
        · have e : t = fs.length := by omega
          subst e
          rw [← all_orB (p := fun f => stB sz rw_ f r) fs]
          refine bI_brn (fun hb4 => ?_) (fun hb4 => ?_)
          · exact nx false (by simp only [hb4, decide_eq_false c3]; rfl)
          · exact nx true (by simp only [hb4, decide_eq_false c3]; rfl)
        · obtain ⟨f5, f6⟩ := hfs t c4
          have nt : ∀ b : Bool, (orB (fun t => !(stB sz rw_ (fs.getD t 0) r)) t || !(stB sz rw_ (fs.getD t 0) r)) = !b → ∃ k, k < fs.length - t ∧ ∃ t', t' ≤ fs.length ∧ k = fs.length - t' ∧ nI t + 1 = nI t' ∧ G8 = G8 ∧ bI b = bI (!(orB (fun t => !(stB sz rw_ (fs.getD t 0) r)) t')) := fun b hb2 => ⟨fs.length - (t + 1), by omega, t + 1, by omega, rfl, nI_1 _, rfl, by
            show bI b = bI (!(orB _ t || !(stB sz rw_ (fs.getD t 0) r)))
            rw [hb2, Bool.not_not]⟩
          refine bI_br (fun hb4 => ?_) (fun hb4 => ?_)
          · have q4 : orB (fun t => !(stB sz rw_ (fs.getD t 0) r)) t = true := by simpa using hb4
            exact nt false (by rw [q4]; rfl)
          · have q4 : orB (fun t => !(stB sz rw_ (fs.getD t 0) r)) t = false := by simpa using hb4
            refine ⟨t, by omega, rfl, ?_⟩
            rw [f6]
            refine s_X7_stands hM hR (show r < n by omega) ?_
            rw [stx_nI hR f5 (show r < n by omega)]
            refine bI_br (fun hb5 => ?_) (fun hb5 => ?_)
            · exact nt false (by rw [q4, hb5]; rfl)
            · exact nt true (by rw [q4, hb5]; rfl)
end MM
/-- the search, whatever is called for the next place -/
def skB (C : GS → Int32 → Int32 → Int32 → Int32 → (Int32 → GS → Prop) → Prop) (G : GS) (x1 : Int32) (x2 : Int32) (x3 : Int32) (x4 : Int32) (post : Int32 → GS → Prop) : Prop := (¬ x3 = x2 → (∃ I16_2 : Nat → Int32 → GS → Prop, (∃ n_2 : Nat, I16_2 n_2 x4 G) ∧ ∀ (n_2 : Nat) (v5_2 : Int32) (G_2 : GS), I16_2 n_2 v5_2 G_2 → (((G_2.1 7 29) ≤ v5_2 → (post 0 G_2)) ∧ (¬ ((G_2.1 7 29) ≤ v5_2) → (∃ j36_3 : Nat, j36_3 < 12 ∧ v5_2 = nI j36_3 ∧ (∃ j37_4 : Nat, j37_4 < 3 ∧ x3 = nI j37_4 ∧ (∀ G_6 : GS, G_6 = sI G_2 34 j37_4 (G_2.1 35 j36_3) → (C G_6 x1 x2 (x3 + 1) (v5_2 + 1) (fun r_8 G_7 => (r_8 = 0 → (∃ k_11 : Nat, k_11 < n_2 ∧ I16_2 k_11 (v5_2 + 1) G_7)) ∧ (¬ (r_8 = 0) → (post 1 G_7))))))))))) ∧ (x3 = x2 → (wp_X7_isMark G x1 x2 (fun r_13 G_12 => (r_13 = 0 ∨ r_13 = 1) ∧ post r_13 G_12)))
theorem sk3 (G : GS) (x1 x2 x3 x4 : Int32) (post : Int32 → GS → Prop) : wp_X7_seeks_d3 G x1 x2 x3 x4 post = skB wp_X7_seeks_d2 G x1 x2 x3 x4 post := rfl
theorem sk2 (G : GS) (x1 x2 x3 x4 : Int32) (post : Int32 → GS → Prop) : wp_X7_seeks_d2 G x1 x2 x3 x4 post = skB wp_X7_seeks_d1 G x1 x2 x3 x4 post := rfl
theorem sk1 (G : GS) (x1 x2 x3 x4 : Int32) (post : Int32 → GS → Prop) : wp_X7_seeks_d1 G x1 x2 x3 x4 post = skB wp_X7_seeks_d0 G x1 x2 x3 x4 post := rfl
theorem sk0 (G : GS) (x1 x2 x3 x4 : Int32) (post : Int32 → GS → Prop) (h : skB (fun _ _ _ _ _ _ => False) G x1 x2 x3 x4 post) : wp_X7_seeks_d0 G x1 x2 x3 x4 post := h
section SK
variable {G : GS} {L : List Nat} {C : GS → Int32 → Int32 → Int32 → Int32 → (Int32 → GS → Prop) → Prop}
theorem sk_end {h k j : Nat} {post : Int32 → GS → Prop} (hm : wp_X7_isMark G (nI h) (nI k) (fun r G' => (r = 0 ∨ r = 1) ∧ post r G')) : skB C G (nI h) (nI k) (nI k) (nI j) post := by
  unfold skB
  exact ⟨fun z => absurd rfl z, fun _ => hm⟩
theorem sk_step {h k nn from_ : Nat} (hk : k < nn) (h3 : nn ≤ 3) (hL : L.length ≤ 12) (hS : shM L G) (hfr : from_ ≤ L.length) (N : Nat → Prop) (Y : Nat → GS → Prop) {post : Int32 → GS → Prop}
    (call : ∀ i G1, from_ ≤ i → i < L.length → fe (fun a t => a = 34 ∧ k ≤ t) G G1 → G1.1 34 k = nI (L.getD i 0) → ∀ post' : Int32 → GS → Prop, (N i → ∀ G2, fe (fun a t => a = 34 ∧ k ≤ t) G G2 → post' 0 G2) → (∀ G2, Y i G2 → fe (fun a t => a = 34 ∧ k ≤ t) G G2 → post' 1 G2) → C G1 (nI h) (nI nn) (nI (k + 1)) (nI (i + 1)) post')
    (k0 : (∀ i, from_ ≤ i → i < L.length → N i) → ∀ G', fe (fun a t => a = 34 ∧ k ≤ t) G G' → post 0 G') (k1 : ∀ i G', from_ ≤ i → i < L.length → (∀ i', from_ ≤ i' → i' < i → N i') → Y i G' → fe (fun a t => a = 34 ∧ k ≤ t) G G' → post 1 G') : skB C G (nI h) (nI nn) (nI k) (nI from_) post := by
  unfold skB
  refine pk_ne k nn (fun _ => ?_) (fun z => absurd z (by omega))
  refine ⟨fun m v G2 => ∃ i, from_ ≤ i ∧ i ≤ L.length ∧ m = L.length - i ∧ v = nI i ∧ fe (fun a t => a = 34 ∧ k ≤ t) G G2 ∧ ∀ i', from_ ≤ i' → i' < i → N i', ⟨L.length - from_, from_, by omega, by omega, rfl, rfl, fe.rf, fun i' h1 h2 => absurd h2 (by omega)⟩, ?_⟩
  rintro m v G2 ⟨i, h1, h2, rfl, rfl, hfe, hno⟩
  refine pk_le L.length i (fun c => ?_) (fun c => ?_) (by rw [hfe.i (by omega)]; exact hS.1)
  · exact k0 (fun i' q1 q2 => hno i' q1 (by omega)) G2 hfe
  · refine ⟨i, by omega, rfl, k, by omega, rfl, ?_⟩
    rintro G6 rfl
    have e35 : G2.1 35 i = nI (L.getD i 0) := by rw [hfe.i (by omega)]; exact hS.2 i c
    rw [e35, nI_1, nI_1]
    refine call i _ h1 c (hfe.tr (fe.sI ⟨rfl, Nat.le_refl _⟩)) (sI_same _ _ _ _) _ (fun hN G7 hfe7 => ?_) (fun G7 hY hfe7 => ?_)
    · refine ⟨fun _ => ⟨L.length - (i + 1), by omega, i + 1, by omega, by omega, rfl, rfl, hfe7, fun i' q1 q2 => ?_⟩, fun z => absurd rfl z⟩
      by_cases e : i' = i
      · rw [e]; exact hN
      · exact hno i' q1 (by omega)
    · exact ⟨fun z => absurd z (by decide), fun _ => k1 i G7 h1 c hno hY hfe7⟩
end SK
