/-! a REPORT more; what CAME BACK -/
def xt {α : Type} (n : Nat) (f : Nat → α) (v : α) : Nat → α := fun r => if r = n then v else f r
theorem xt_n {α : Type} {n : Nat} {f : Nat → α} {v : α} : xt n f v n = v := if_pos rfl
theorem xt_o {α : Type} {n : Nat} {f : Nat → α} {v : α} {r : Nat} (h : r ≠ n) : xt n f v r = f r := if_neg h
section AD
variable {G : GS} {n : Nat} {sz : Nat → Nat} {rw_ : Nat → Nat → Nat} {ver : Nat → Nat} {fx : Nat → Int32} {m : Nat} {tf : Nat → Nat}
theorem s_X4_howMany {post : Int32 → GS → Prop} (h : post (G.1 1 1) G) : wp_X4_howMany G post := by unfold wp_X4_howMany; exact h
theorem s_X4_at {k : Nat} (hk : k < 12) {post : Int32 → GS → Prop} (h : post (G.1 8 k) G) : wp_X4_at G (nI k) post := by unfold wp_X4_at; exact ⟨k, hk, rfl, h⟩
theorem s_X3_howMany {post : Int32 → GS → Prop} (h : post (G.1 3 5) G) : wp_X3_howMany G post := by unfold wp_X3_howMany; exact h
theorem stB_o {r f : Nat} (h : r ≠ n) : stB (xt n sz m) (xt n rw_ tf) f r = stB sz rw_ f r := by
  unfold stB
  rw [xt_o h, xt_o h]
theorem stB_n {f : Nat} : stB (xt n sz m) (xt n rw_ tf) f n = orB (fun k => decide (tf k = f)) m := by
  unfold stB
  rw [xt_n, xt_n]
theorem s_X3_add (hC : rC n sz rw_ ver fx G) (hR : rOK n sz rw_) (hn : n < 40) (hT : tR 1 1 8 m tf G) {v : Nat} {post : Int32 → GS → Prop} (h : ∀ G', rC (n + 1) (xt n sz m) (xt n rw_ tf) (xt n ver v) (xt n fx (-1)) G' → fe (fun a k => (a = 3 ∧ k = 5) ∨ (10 ≤ a ∧ a ≤ 12) ∨ a = 38 ∨ (48 ≤ a ∧ a < 88)) G G' → post (nI n) G') : wp_X3_add G (nI v) post := by
  obtain ⟨hm, h5, hl, hf⟩ := hT
  unfold wp_X3_add
  rintro y1 rfl
  refine s_X4_howMany ?_
  refine ⟨n, hn, hC.1, ?_⟩
  rintro G5 rfl
  rw [hl]
  refine ⟨fun q w G6 => ∃ i, i ≤ m ∧ q = m - i ∧ w = nI i ∧ fe (fun a k => (a = 10 ∧ k = n) ∨ a = 38 ∨ a = 48 + n) G G6 ∧ G6.1 10 n = nI m ∧ (∀ k, k < i → G6.1 (48 + n) k = nI (tf k)) ∧ ∀ f, f ≤ 500 → ∀ j, j < 64 → bl (G6.2 38 f) j = ((decide (j < n) && stB sz rw_ f j) || (decide (j = n) && orB (fun k => decide (tf k = f)) i)), ⟨m, 0, by omega, by omega, rfl, fe.sI (Or.inl ⟨rfl, rfl⟩), sI_same _ _ _ _, fun k hk => absurd hk (by omega), fun f hf5 j hj => ?_⟩, ?_⟩
  · rw [sI_2, hC.2.2 f hf5 j hj]
    show _ = (_ || (decide (j = n) && false))
    rw [Bool.and_false, Bool.or_false]
  rintro q w G6 ⟨i, hi, rfl, rfl, hfe, h10, hrow, hbits⟩
  have e11 : G6.1 1 1 = nI m := by rw [hfe.i (by omega)]; exact hl
  have e35 : G6.1 3 5 = nI n := by rw [hfe.i (by omega)]; exact hC.1
  refine s_X4_howMany ?_
  refine pk_le m i (fun c => ?_) (fun c => ?_) e11
  · have e : i = m := by omega
    subst e
    refine ⟨n, hn, hC.1, ?_⟩
    rintro G11 rfl
    refine ⟨n, hn, hC.1, ?_⟩
    rintro G13 rfl G14 rfl
    have e5 : (sI (sI G6 11 n (nI v)) 12 n (-1)).1 3 5 + 1 = nI (n + 1) := by rw [sI_ne1 _ _ _ _ (by decide), sI_ne1 _ _ _ _ (by decide), e35]; exact nI_1 _
    rw [e5, hC.1]
    refine h _ ⟨sI_same _ _ _ _, fun r hr => ?_, fun f hf5 j hj => ?_⟩ (((hfe.mono (fun a k z => by omega)).tr (fe.sI (by omega))).tr (fe.sI (by omega)) |>.tr (fe.sI (by omega)))
    · by_cases e : r = n
      · subst e
        rw [xt_n, xt_n, xt_n, xt_n]
        refine ⟨?_, ?_, ?_, fun k hk => ?_⟩
        · rw [sI_ne1 _ _ _ _ (by decide), sI_ne1 _ _ _ _ (by decide), sI_ne1 _ _ _ _ (by decide)]; exact h10
        · rw [sI_ne1 _ _ _ _ (by decide), sI_ne1 _ _ _ _ (by decide), sI_same]
        · rw [sI_ne1 _ _ _ _ (by decide), sI_same]
        · rw [sI_ne1 _ _ _ _ (by omega), sI_ne1 _ _ _ _ (by omega), sI_ne1 _ _ _ _ (by omega)]; exact hrow k hk
      · obtain ⟨c1, c2, c3, c4⟩ := hC.2.1 r (by omega)
        rw [xt_o e, xt_o e, xt_o e, xt_o e]
        refine ⟨?_, ?_, ?_, fun k hk => ?_⟩
        · rw [sI_ne1 _ _ _ _ (by decide), sI_ne1 _ _ _ _ (by decide), sI_ne1 _ _ _ _ (by decide), hfe.i (by omega)]; exact c1
        · rw [sI_ne1 _ _ _ _ (by decide), sI_ne1 _ _ _ _ (by decide), sI_ne2 _ _ _ _ e, hfe.i (by omega)]; exact c2
        · rw [sI_ne1 _ _ _ _ (by decide), sI_ne2 _ _ _ _ e, sI_ne1 _ _ _ _ (by decide), hfe.i (by omega)]; exact c3
        · rw [sI_ne1 _ _ _ _ (by omega), sI_ne1 _ _ _ _ (by omega), sI_ne1 _ _ _ _ (by omega), hfe.i (by omega)]; exact c4 k hk
    · rw [sI_2, sI_2, sI_2, hbits f hf5 j hj]
      by_cases e : j = n
      · subst e
        rw [stB_n, decide_eq_false (by omega), Bool.false_and, Bool.false_or, decide_eq_true rfl, Bool.true_and, decide_eq_true (by omega), Bool.true_and]
      · rw [stB_o e, decide_eq_false e, Bool.false_and, Bool.or_false]
        congr 1
        exact decide_eq_decide.mpr (by omega)
  · have h5i := h5 i (by omega)
    refine s_X4_at (by omega) ?_
    rw [show G6.1 8 i = nI (tf i) by rw [hfe.i (by omega)]; exact hf i (by omega)]
    refine ⟨n, hn, hC.1, i, by omega, rfl, ?_⟩
    rintro G19 rfl
    refine ⟨tf i, by omega, rfl, tf i, by omega, rfl, ?_⟩
    rintro G22 rfl
    refine ⟨m - (i + 1), by omega, i + 1, by omega, rfl, nI_1 _, (hfe.tr (fe.sI (by omega))).tr (fe.sL (by omega)), ?_, fun k hk => ?_, fun f hf5 j hj => ?_⟩
    · rw [sL_1, sI_ne1 _ _ _ _ (by omega)]; exact h10
    · rw [sL_1]
      by_cases e : k = i
      · rw [e, sI_same]
      · rw [sI_ne2 _ _ _ _ e]; exact hrow k (by omega)
    · show _ = (_ || (decide (j = n) && (orB (fun k => decide (tf k = f)) i || decide (tf i = f))))
      rw [sL_get]
      by_cases e : f = tf i
      · subst e
        rw [if_pos ⟨rfl, rfl⟩, sI_2, bl_or, hbits _ hf5 j hj, hC.1, bl_one (by omega), decide_eq_true rfl, Bool.or_true, Bool.and_true]
        cases decide (j = n) <;> simp
      · rw [if_neg (fun z => e z.2), sI_2, hbits f hf5 j hj, decide_eq_false (Ne.symm e), Bool.or_false]
end AD
/-! CAME BACK -/
def cbB (n : Nat) (beh : Nat → Nat → Bool) (ver : Nat → Nat) (fx : Nat → Int32) (hp : Nat → Nat) (r k : Nat) : Bool := decide (hp k = hp r) && (decide (¬ fx k < 0) && beh (ver r) (fx k).toNatClampNeg)
def cbK (n : Nat) (beh : Nat → Nat → Bool) (ver : Nat → Nat) (fx : Nat → Int32) (hp : Nat → Nat) (r : Nat) : Bool := orB (cbB n beh ver fx hp r) n
section CB
variable {G : GS} {n : Nat} {sz : Nat → Nat} {rw_ : Nat → Nat → Nat} {ver : Nat → Nat} {fx : Nat → Int32} {hp : Nat → Nat} {nv : Nat} {par : Nat → Nat} {beh : Nat → Nat → Bool}
def fxOK (nv n : Nat) (ver : Nat → Nat) (fx : Nat → Int32) : Prop := ∀ r, r < n → ver r < nv ∧ (fx r = -1 ∨ ∃ v, v < nv ∧ fx r = nI v)
theorem s_X6_cameBack (hV : vOK nv par beh) (hv : vC nv beh G) (hc : rC n sz rw_ ver fx G) (hX : fxOK nv n ver fx) (hH : hC n hp G) (hO : hOK n hp) {r : Nat} (hr : r < n) {post : Int32 → GS → Prop} (h : post (bI (cbK n beh ver fx hp r)) G) : wp_X6_cameBack G (nI r) post := by
  have hn := hO.1
  have h30 := hV.2.1
  unfold wp_X6_cameBack
  show wp_X3_versionOf G (nI r) _
  unfold wp_X3_versionOf
  refine ⟨r, by omega, rfl, ?_⟩
  rw [(hc.2.1 r hr).2.1]
  refine ⟨fun m v G1 => ∃ i, i ≤ n ∧ m = n - i ∧ v = nI i ∧ G1 = G ∧ orB (cbB n beh ver fx hp r) i = false, ⟨n, 0, by omega, by omega, rfl, rfl, rfl⟩, ?_⟩
  rintro m v G1 ⟨i, hi, rfl, rfl, rfl, hno⟩
  refine s_X3_howMany ?_
  refine pk_le n i (fun c => ?_) (fun c => ?_) hc.1
  · have e : i = n := by omega
    subst e
    unfold cbK at h
    rw [hno] at h
    exact h
  · have nx : cbB n beh ver fx hp r i = false → ∃ k, k < n - i ∧ ∃ i', i' ≤ n ∧ k = n - i' ∧ nI i + 1 = nI i' ∧ G1 = G1 ∧ orB (cbB n beh ver fx hp r) i' = false := fun q => ⟨n - (i + 1), by omega, i + 1, by omega, rfl, nI_1 _, rfl, by show (orB _ i || _) = false; rw [hno, q]; rfl⟩
    show wp_X3_fixedAt G1 (nI i) _
    unfold wp_X3_fixedAt
    refine ⟨i, by omega, rfl, ?_⟩
    rw [(hc.2.1 i (by omega)).2.2.1]
    obtain ⟨hvi, hfx⟩ := hX i (by omega)
    refine ⟨fun c2 => ?_, fun c2 => ?_⟩
    · refine nx ?_
      unfold cbB
      rw [c2, decide_eq_false (show ¬ ¬ (-1 : Int32) < 0 by decide), Bool.false_and, Bool.and_false]
    · rcases hfx with hfx | ⟨u, hu, hfx⟩
      · exact absurd hfx c2
      · have hnn : ¬ fx i < 0 := by rw [hfx]; exact nI_pos (by omega)
        refine s_X1_areTogether hH hO hr (show i < n by omega) (bI_br (fun hb => ?_) (fun hb => ?_))
        · refine nx ?_
          unfold cbB
          rw [decide_eq_false (fun z => (of_decide_eq_false hb) z.symm), Bool.false_and]
        · rw [hfx]
          refine s_X5_isOr hv h30 (hX r hr).1 hu (bI_br (fun hb2 => ?_) (fun hb2 => ?_))
          · refine nx ?_
            unfold cbB
            rw [hfx, nI_clamp (by omega), hb2, Bool.and_false, Bool.and_false]
          · have e : cbK n beh ver fx hp r = true := orB_t (show i < n by omega) (by
              unfold cbB
              rw [decide_eq_true (of_decide_eq_true hb).symm, decide_eq_true hnn, hfx, nI_clamp (by omega), hb2]; rfl)
            rw [e] at h
            exact h
theorem s_X7_cameBack (hV : vOK nv par beh) (hv : vM nv par G) (hM : rM n sz rw_ ver fx G) (hX : fxOK nv n ver fx) (hH : hpM n hp G) (hO : hOK n hp) {r : Nat} (hr : r < n) {post : Int32 → GS → Prop} (h : post (bI (cbK n beh ver fx hp r)) G) : wp_X7_cameBack G (nI r) post := by
  have hn := hO.1
  have h30 := hV.2.1
  unfold wp_X7_cameBack
  refine ⟨fun m is v G1 => ∃ i, i ≤ n ∧ m = n - i ∧ v = nI i ∧ G1 = G ∧ is = bI (orB (cbB n beh ver fx hp r) i), ⟨n, 0, by omega, by omega, rfl, rfl, rfl⟩, ?_⟩
  rintro m is v G1 ⟨i, hi, rfl, rfl, rfl, rfl⟩
  refine pk_le n i (fun c => ?_) (fun c => ?_) hM.1
  · have e : i = n := by omega
    subst e
    exact ⟨bI_01 _, h⟩
  · have nx : ∀ b : Bool, (orB (cbB n beh ver fx hp r) i || cbB n beh ver fx hp r i) = b → ∃ k, k < n - i ∧ ∃ i', i' ≤ n ∧ k = n - i' ∧ nI i + 1 = nI i' ∧ G1 = G1 ∧ bI b = bI (orB (cbB n beh ver fx hp r) i') := fun b q => ⟨n - (i + 1), by omega, i + 1, by omega, rfl, nI_1 _, rfl, by show bI b = bI (orB _ i || _); rw [q]⟩
    obtain ⟨hvi, hfx⟩ := hX i (by omega)
    have hpi := (hO.2 i (by omega)).1
    have hpr := (hO.2 r hr).1
    refine bI_brn (fun hb => ?_) (fun hb => ?_)
    · exact nx true (by rw [hb]; rfl)
    · refine ⟨i, by omega, rfl, r, by omega, rfl, ?_⟩
      refine pk_ne (hp i) (hp r) (fun c2 => ?_) (fun c2 => ?_) (hH i (by omega)) (hH r hr)
      · exact nx false (by rw [hb]; unfold cbB; rw [decide_eq_false c2]; rfl)
      · refine ⟨i, by omega, rfl, ?_⟩
        rw [(hM.2 i (by omega)).2.2.1]
        refine ⟨fun c3 => ?_, fun c3 => ?_⟩
        · exact nx false (by rw [hb]; unfold cbB; rw [decide_eq_false (show ¬ ¬ fx i < 0 from fun z => z c3)]; simp)
        · refine ⟨r, by omega, rfl, i, by omega, rfl, ?_⟩
          rw [(hM.2 r hr).2.1, (hM.2 i (by omega)).2.2.1]
          rcases hfx with hfx | ⟨u, hu, hfx⟩
          · exact absurd (by rw [hfx]; decide) c3
          · rw [hfx]
            refine s_X7_isBehind hV hv (hX r hr).1 hu (bI_br (fun hb2 => ?_) (fun hb2 => ?_))
            · exact nx false (by rw [hb]; unfold cbB; rw [hfx, nI_clamp (by omega), hb2]; simp)
            · exact nx true (by rw [hb]; unfold cbB; rw [decide_eq_true c2, decide_eq_true c3, hfx, nI_clamp (by omega), hb2]; rfl)
end CB
