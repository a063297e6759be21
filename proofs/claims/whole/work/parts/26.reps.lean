/-! REPORTS: n of them, REPORT r with sz r FRAMES rw r 0 .. -/
def stB (sz : Nat → Nat) (rw_ : Nat → Nat → Nat) (f r : Nat) : Bool := orB (fun k => decide (rw_ r k = f)) (sz r)
def coB (n : Nat) (sz : Nat → Nat) (rw_ : Nat → Nat → Nat) (f : Nat) : Bool := decide (1 ≤ f ∧ 5 ≤ n ∧ 4 * n ≤ 5 * cntB (stB sz rw_ f) n)
def coX (n : Nat) (sz : Nat → Nat) (rw_ : Nat → Nat → Nat) (x : Int32) : Bool := inR x 501 && coB n sz rw_ x.toNatClampNeg
def rOK (n : Nat) (sz : Nat → Nat) (rw_ : Nat → Nat → Nat) : Prop := n ≤ 40 ∧ ∀ r, r < n → sz r ≤ 12 ∧ ∀ k, k < sz r → rw_ r k ≤ 500
def rC (n : Nat) (sz : Nat → Nat) (rw_ : Nat → Nat → Nat) (ver : Nat → Nat) (fx : Nat → Int32) (G : GS) : Prop :=
  G.1 3 5 = nI n ∧ (∀ r, r < n → G.1 10 r = nI (sz r) ∧ G.1 11 r = nI (ver r) ∧ G.1 12 r = fx r ∧ ∀ k, k < sz r → G.1 (48 + r) k = nI (rw_ r k)) ∧ ∀ f, f ≤ 500 → ∀ i, i < 64 → bl (G.2 38 f) i = (decide (i < n) && stB sz rw_ f i)
def rM (n : Nat) (sz : Nat → Nat) (rw_ : Nat → Nat → Nat) (ver : Nat → Nat) (fx : Nat → Int32) (G : GS) : Prop :=
  G.1 7 5 = nI n ∧ ∀ r, r < n → G.1 23 r = nI (sz r) ∧ G.1 24 r = nI (ver r) ∧ G.1 25 r = fx r ∧ ∀ k, k < sz r → G.1 22 (12 * r + k) = nI (rw_ r k)
theorem rC.fr {P : Nat → Prop} {G G' : GS} {n : Nat} {sz : Nat → Nat} {rw_ : Nat → Nat → Nat} {ver : Nat → Nat} {fx : Nat → Int32} (h : rC n sz rw_ ver fx G) (hn : n ≤ 40) (hf : fr P G G') (h3 : ¬ P 3) (ha : ∀ a, 10 ≤ a → a ≤ 12 → ¬ P a) (h38 : ¬ P 38) (hg : ∀ a, 48 ≤ a → a < 88 → ¬ P a) : rC n sz rw_ ver fx G' := by
  refine ⟨by rw [hf.i h3]; exact h.1, fun r hr => ?_, fun f hf' i hi => by rw [hf.l h38]; exact h.2.2 f hf' i hi⟩
  obtain ⟨a1, a2, a3, a4⟩ := h.2.1 r hr
  exact ⟨by rw [hf.i (ha 10 (by omega) (by omega))]; exact a1, by rw [hf.i (ha 11 (by omega) (by omega))]; exact a2, by rw [hf.i (ha 12 (by omega) (by omega))]; exact a3, fun k hk => by rw [hf.i (hg _ (by omega) (by omega))]; exact a4 k hk⟩
theorem rM.fe {P : Nat → Nat → Prop} {G G' : GS} {n : Nat} {sz : Nat → Nat} {rw_ : Nat → Nat → Nat} {ver : Nat → Nat} {fx : Nat → Int32} (h : rM n sz rw_ ver fx G) (hf : fe P G G') (h7 : ¬ P 7 5) (ha : ∀ a k, 22 ≤ a → a ≤ 25 → ¬ P a k) : rM n sz rw_ ver fx G' := by
  refine ⟨by rw [hf.i h7]; exact h.1, fun r hr => ?_⟩
  obtain ⟨a1, a2, a3, a4⟩ := h.2 r hr
  exact ⟨by rw [hf.i (ha 23 _ (by omega) (by omega))]; exact a1, by rw [hf.i (ha 24 _ (by omega) (by omega))]; exact a2, by rw [hf.i (ha 25 _ (by omega) (by omega))]; exact a3, fun k hk => by rw [hf.i (ha 22 _ (by omega) (by omega))]; exact a4 k hk⟩
section RS
variable {G : GS} {n : Nat} {sz : Nat → Nat} {rw_ : Nat → Nat → Nat} {ver : Nat → Nat} {fx : Nat → Int32}
theorem s_X3_has {x : Int32} (hN : G.1 3 5 = nI n) (hn : n ≤ 40) {post : Int32 → GS → Prop} (h : post (bI (inR x n)) G) : wp_X3_has G x post := has_wp (post := fun r => post r G) hN (by omega) h
theorem s_X7_isReport {x : Int32} (hN : G.1 7 5 = nI n) (hn : n ≤ 40) {post : Int32 → GS → Prop} (h : post (bI (inR x n)) G) : wp_X7_isReport G x post := has_wp (post := fun r => post r G) hN (by omega) h
def twoR (x y : Int32) (n : Nat) : Bool := inR x n && (inR y n && decide (x ≠ y))
theorem s_X3_hasTwo {x y : Int32} (hN : G.1 3 5 = nI n) (hn : n ≤ 40) {post : Int32 → GS → Prop} (h : post (bI (twoR x y n)) G) : wp_X3_hasTwo G x y post := by
  unfold wp_X3_hasTwo
  unfold twoR at h
  refine s_X3_has hN hn (bI_br (fun hb => ?_) (fun hb => ?_))
  · rw [hb, Bool.false_and] at h; exact h
  · refine s_X3_has hN hn (bI_br (fun hb2 => ?_) (fun hb2 => ?_))
    · rw [hb, hb2, Bool.false_and] at h; exact h
    · rw [hb, hb2, Bool.true_and, Bool.true_and] at h
      refine ⟨fun c => ?_, fun c => ?_⟩
      · rw [decide_eq_false (by simpa using c)] at h; exact h
      · rw [decide_eq_true (by simpa using c)] at h; exact h
theorem s_X7_areTwo {x y : Int32} (hN : G.1 7 5 = nI n) (hn : n ≤ 40) {post : Int32 → GS → Prop} (h : post (bI (twoR x y n)) G) : wp_X7_areTwo G x y post := by
  unfold wp_X7_areTwo
  unfold twoR at h
  refine s_X7_isReport hN hn (bI_br (fun hb => ?_) (fun hb => ?_))
  · rw [hb, Bool.false_and] at h; exact h
  · refine s_X7_isReport hN hn (bI_br (fun hb2 => ?_) (fun hb2 => ?_))
    · rw [hb, hb2, Bool.false_and] at h; exact h
    · rw [hb, hb2, Bool.true_and, Bool.true_and] at h
      refine ⟨fun c => ?_, fun c => ?_⟩
      · rw [decide_eq_false (by simpa using c)] at h; exact h
      · rw [decide_eq_true (by simpa using c)] at h; exact h
def frR (x y : Int32) (n : Nat) (sz : Nat → Nat) : Bool := inR x n && inR y (sz x.toNatClampNeg)
theorem s_X3_hasFrame {x y : Int32} (hC : rC n sz rw_ ver fx G) (hR : rOK n sz rw_) {post : Int32 → GS → Prop} (h : post (bI (frR x y n sz)) G) : wp_X3_hasFrame G x y post := by
  unfold wp_X3_hasFrame
  unfold frR at h
  have hn := hR.1
  refine s_X3_has hC.1 hR.1 (bI_br (fun hb => ?_) (fun hb => ?_))
  · rw [hb, Bool.false_and] at h; exact h
  · obtain ⟨r, hr, rfl⟩ := inR_of hb
    rw [hb, Bool.true_and, nI_clamp (by omega)] at h
    have h1 := (hC.2.1 r hr).1
    have h12 := (hR.2 r hr).1
    have hT : (G.1 10 r).toInt = sz r := by rw [h1]; exact nI_toInt (by omega)
    refine ⟨fun c => ?_, fun c => ⟨r, by omega, rfl, fun c2 => ?_, fun c2 => ?_⟩⟩
    · rw [inR_lt c] at h; exact h
    · rw [inR_ge hT c2] at h; exact h
    · rw [inR_in hT c c2] at h; exact h
theorem s_X3_isFull (hN : G.1 3 5 = nI n) (hn : n ≤ 40) {post : Int32 → GS → Prop} (h : post (bI (decide (n = 40))) G) : wp_X3_isFull G post := by
  unfold wp_X3_isFull
  refine pk_lt n 40 (fun c => ?_) (fun c => ?_) hN
  · rw [decide_eq_false (by omega)] at h; exact h
  · rw [decide_eq_true (by omega)] at h; exact h
/-- whether a FRAME stands in a ROW -/
def stx (sz : Nat → Nat) (rw_ : Nat → Nat → Nat) (x : Int32) (r : Nat) : Bool := orB (fun k => decide (nI (rw_ r k) = x)) (sz r)
theorem stx_nI (hR : rOK n sz rw_) {j r : Nat} (hj : j ≤ 500) (hr : r < n) : stx sz rw_ (nI j) r = stB sz rw_ j r := by
  unfold stx stB
  refine orB_congr (fun k hk => ?_)
  have h5 := (hR.2 r hr).2 k hk
  have e : (nI (rw_ r k) = nI j) = (rw_ r k = j) := propext (nI_eq (by omega) (by omega))
  exact decide_eq_decide.mpr (by rw [e])
theorem stx_big (hR : rOK n sz rw_) {x : Int32} {r : Nat} (hx : 500 < x) (hr : r < n) : stx sz rw_ x r = false := by
  unfold stx
  refine orB_f (fun k hk => decide_eq_false (fun e => ?_))
  have h5 := (hR.2 r hr).2 k hk
  rw [← e] at hx
  exact nI_nlt (a := 500) (b := rw_ r k) h5 (by omega) hx
theorem s_X7_stands (hM : rM n sz rw_ ver fx G) (hR : rOK n sz rw_) {x : Int32} {r : Nat} (hr : r < n) {post : Int32 → GS → Prop} (h : post (bI (stx sz rw_ x r)) G) : wp_X7_stands G x (nI r) post := by
  obtain ⟨a1, -, -, a4⟩ := hM.2 r hr
  have h12 := (hR.2 r hr).1
  have hn := hR.1
  unfold wp_X7_stands
  unfold stx at h
  refine ⟨fun m is v => ∃ i, i ≤ sz r ∧ m = sz r - i ∧ v = nI i ∧ is = bI (orB (fun k => decide (nI (rw_ r k) = x)) i), ⟨sz r, 0, by omega, by omega, rfl, rfl⟩, ?_⟩
  rintro m is v ⟨i, hi, rfl, rfl, rfl⟩
  refine ⟨r, by omega, rfl, ?_⟩
  refine pk_le (sz r) i (fun c => ?_) (fun c => ?_) a1
  · have e : i = sz r := by omega
    subst e
    exact ⟨bI_01 _, h⟩
  · refine bI_brn (fun hb => ?_) (fun hb => ?_)
    · refine ⟨sz r - (i + 1), by omega, i + 1, by omega, rfl, nI_1 _, ?_⟩
      show (1 : Int32) = bI (orB _ i || _)
      rw [hb]; rfl
    · refine ⟨12 * r + i, by omega, by rw [show (12 : Int32) * nI r = nI (12 * r) from pk_mul 12 r]; exact nI_add _ _, ?_⟩
      rw [a4 i (by omega)]
      refine ⟨fun c2 => ?_, fun c2 => ?_⟩
      · refine ⟨sz r - (i + 1), by omega, i + 1, by omega, rfl, nI_1 _, ?_⟩
        show (0 : Int32) = bI (orB _ i || decide (nI (rw_ r i) = x))
        rw [hb, decide_eq_false c2]; rfl
      · refine ⟨sz r - (i + 1), by omega, i + 1, by omega, rfl, nI_1 _, ?_⟩
        show (1 : Int32) = bI (orB _ i || decide (nI (rw_ r i) = x))
        rw [hb, decide_eq_true c2]; rfl
/-- the test of 4 in 5, as the machine has it -/
theorem five {c : Nat} (hn : n ≤ 40) (hc : c ≤ 40) {N C : Int32} (hN : N = nI n) (hC : C = nI c) {A B : Prop} (f : 5 * c < 4 * n → A) (g : 4 * n ≤ 5 * c → B) : ((5 * C) < (4 * N) → A) ∧ (¬ ((5 * C) < (4 * N)) → B) := by
  refine pk_lt (5 * c) (4 * n) f g ?_ ?_
  · rw [hC]; exact pk_mul 5 c
  · rw [hN]; exact pk_mul 4 n
theorem coX_f1 {x : Int32} (h : x ≤ 0) : coX n sz rw_ x = false := by
  unfold coX
  cases hr : inR x 501 with
  | false => rfl
  | true =>
    obtain ⟨j, hj, rfl⟩ := inR_of hr
    have h0 : j ≤ 0 := (nI_leI (a := j) (b := 0) (by omega) (by omega)).mp h
    rw [Bool.true_and, nI_clamp (by omega)]
    exact decide_eq_false (by omega)
theorem coX_f5 {x : Int32} (h : n < 5) : coX n sz rw_ x = false := by
  unfold coX coB
  rw [decide_eq_false (by omega), Bool.and_false]
theorem coX_nI {j : Nat} (hj : j ≤ 500) : coX n sz rw_ (nI j) = coB n sz rw_ j := by
  unfold coX
  rw [inR_nI (by omega) (by omega), Bool.true_and, nI_clamp (by omega)]
theorem s_X3_isCommon (hC : rC n sz rw_ ver fx G) (hR : rOK n sz rw_) {x : Int32} {post : Int32 → GS → Prop} (h : post (bI (coX n sz rw_ x)) G) : wp_X3_isCommon G x post := by
  have hn := hR.1
  unfold wp_X3_isCommon
  refine ⟨fun c => ?_, fun c => ?_⟩
  · rw [coX_f1 c] at h; exact h
  · refine ⟨fun c2 => ?_, fun c2 => ?_⟩
    · unfold coX at h
      rw [inR_ge (N := nI 501) (n := 501) rfl (by rw [Int32.lt_iff_toInt_lt] at c2; rw [Int32.le_iff_toInt_le]; have : (500 : Int32).toInt = 500 := rfl; have : (nI 501).toInt = 501 := rfl; omega)] at h
      exact h
    · refine pk_le 5 n (fun c3 => ?_) (fun c3 => ?_) rfl hC.1
      · rcases rng x (M := 500) (n := 500) rfl with ⟨d, -⟩ | ⟨-, d, -⟩ | ⟨j, hj, rfl, -, -, -⟩
        · exact absurd (by rw [Int32.lt_iff_toInt_lt] at d; rw [Int32.le_iff_toInt_le]; omega) c
        · exact absurd d c2
        · have hj0 : 1 ≤ j := by
            rcases Nat.eq_zero_or_pos j with e | e
            · subst e; exact absurd (by decide) c
            · exact e
          refine ⟨j, by omega, rfl, ?_⟩
          rw [coX_nI hj] at h
          have ec : cntB (bl (G.2 38 j)) 64 = cntB (stB sz rw_ j) n := by
            rw [cntB_congr (p' := fun i => decide (i < n) && stB sz rw_ j i) (fun i hi => hC.2.2 j hj i hi)]
            rw [cntB_more (n := n) (m := 64) (by omega) (fun k h1 h2 => by rw [decide_eq_false (by omega), Bool.false_and])]
            exact cntB_congr (fun k hk => by rw [decide_eq_true hk, Bool.true_and])
          refine s_bitCount ?_
          rw [ec]
          have hcl := cntB_le (stB sz rw_ j) n
          unfold coB at h
          refine five hn (c := cntB (stB sz rw_ j) n) (by omega) hC.1 rfl (fun d => ?_) (fun d => ?_)
          · rw [decide_eq_false (by omega)] at h; exact h
          · rw [decide_eq_true (by omega)] at h; exact h
      · rw [coX_f5 c3] at h; exact h
theorem s_X7_isCommon (hM : rM n sz rw_ ver fx G) (hR : rOK n sz rw_) {x : Int32} {post : Int32 → GS → Prop} (h : post (bI (coX n sz rw_ x)) G) : wp_X7_isCommon G x post := by
  have hn := hR.1
  unfold wp_X7_isCommon
  refine ⟨fun c => ?_, fun c => ?_⟩
  · rw [coX_f1 c] at h; exact h
  · refine pk_le 5 n (fun c3 => ?_) (fun c3 => ?_) rfl hM.1
    · refine ⟨fun m a v G1 => ∃ i, i ≤ n ∧ m = n - i ∧ v = nI i ∧ G1 = G ∧ a = nI (cntB (stx sz rw_ x) i), ⟨n, 0, by omega, by omega, rfl, rfl, rfl⟩, ?_⟩
      rintro m a v G1 ⟨i, hi, rfl, rfl, rfl, rfl⟩
      refine pk_le n i (fun d => ?_) (fun d => ?_) hM.1
      · have e : i = n := by omega
        subst e
        have hcl := cntB_le (stx sz rw_ x) i
        rcases rng x (M := 500) (n := 500) rfl with ⟨d, -⟩ | ⟨-, d, hr⟩ | ⟨j, hj, rfl, -, -, -⟩
        · exact absurd (by rw [Int32.lt_iff_toInt_lt] at d; rw [Int32.le_iff_toInt_le]; omega) c
        · have e0 : cntB (stx sz rw_ x) i = 0 := by
            rw [cntB_more (n := 0) (m := i) (by omega) (fun k _ hk => stx_big hR d hk)]; rfl
          rw [e0]
          unfold coX at h
          rw [hr] at h
          exact five hn (c := 0) (by omega) hM.1 rfl (fun _ => h) (fun d => absurd d (by omega))
        · have hj0 : 1 ≤ j := by
            rcases Nat.eq_zero_or_pos j with e | e
            · subst e; exact absurd (by decide) c
            · exact e
          rw [coX_nI hj] at h
          have ec : cntB (stx sz rw_ (nI j)) i = cntB (stB sz rw_ j) i := cntB_congr (fun k hk => stx_nI hR hj hk)
          rw [ec] at hcl ⊢
          unfold coB at h
          refine five hn (c := cntB (stB sz rw_ j) i) (by omega) hM.1 rfl (fun d => ?_) (fun d => ?_)
          · rw [decide_eq_false (by omega)] at h; exact h
          · rw [decide_eq_true (by omega)] at h; exact h
      · refine s_X7_stands hM hR (show i < n by omega) (bI_br (fun hb => ?_) (fun hb => ?_))
        · rintro y rfl
          exact ⟨n - (i + 1), by omega, i + 1, by omega, rfl, nI_1 _, rfl, by rw [← cnt_stay hb]; exact nI_add _ 0⟩
        · rintro y rfl
          exact ⟨n - (i + 1), by omega, i + 1, by omega, rfl, nI_1 _, rfl, cnt_step hb⟩
    · rw [coX_f5 c3] at h; exact h
theorem s_X3_howManyCommon (hC : rC n sz rw_ ver fx G) (hR : rOK n sz rw_) {post : Int32 → GS → Prop} (h : post (nI (cntB (coB n sz rw_) 501)) G) : wp_X3_howManyCommon G post := by
  unfold wp_X3_howManyCommon
  refine ⟨fun m a v G1 => ∃ i, 1 ≤ i ∧ i ≤ 501 ∧ m = 501 - i ∧ v = nI i ∧ G1 = G ∧ a = nI (cntB (coB n sz rw_) i), ⟨500, 1, by omega, by omega, by omega, rfl, rfl, ?_⟩, ?_⟩
  · have e : coB n sz rw_ 0 = false := decide_eq_false (by omega)
    show (0 : Int32) = nI (0 + (if coB n sz rw_ 0 then 1 else 0))
    rw [e]; rfl
  · rintro m a v G1 ⟨i, hi1, hi, rfl, rfl, rfl, rfl⟩
    refine pk_lt 500 i (fun d => ?_) (fun d => ?_)
    · have e : i = 501 := by omega
      subst e
      exact h
    · refine s_X3_isCommon hC hR ?_
      rw [coX_nI (by omega)]
      refine bI_br (fun hb => ?_) (fun hb => ?_)
      · exact ⟨501 - (i + 1), by omega, i + 1, by omega, by omega, rfl, nI_1 _, rfl, by rw [← cnt_stay hb]⟩
      · exact ⟨501 - (i + 1), by omega, i + 1, by omega, by omega, rfl, nI_1 _, rfl, cnt_step hb⟩
end RS
