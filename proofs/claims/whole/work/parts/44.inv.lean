/-! the state of class and reference, tied to one value -/
def KA (nv : Nat) (par : Nat → Nat) (beh : Nat → Nat → Bool) (n : Nat) (sz : Nat → Nat) (rw_ : Nat → Nat → Nat) (ver : Nat → Nat) (fx : Nat → Int32) (T : Nat) (mu : Nat → Nat → Nat) (hp : Nat → Nat) : Prop := vOK nv par beh ∧ rOK n sz rw_ ∧ fxOK nv n ver fx ∧ T ≤ 40 ∧ (∀ a b, mu a b ≤ 2 ∧ mu a b = mu b a) ∧ hOK n hp
def sgC (sn : Nat) (sf : Nat → Nat) (G : GS) : Prop := sn ≤ 3 ∧ G.1 6 4 = nI sn ∧ ∀ k, k < sn → G.1 19 k = nI (sf k)
def sgM (sn : Nat) (sf : Nat → Nat) (G : GS) : Prop := sn ≤ 3 ∧ G.1 7 26 = nI sn ∧ ∀ k, k < sn → G.1 33 k = nI (sf k)
def wiC (mu : Nat → Nat → Nat) (G : GS) : Prop := ∀ a b, a < 40 → b < 40 → G.1 (168 + a) b = iI (wz (mu a b))
def wiM (mu : Nat → Nat → Nat) (G : GS) : Prop := ∀ a b, a < 40 → b < 40 → G.1 31 (40 * a + b) = nI (mu a b)
def KC (nv : Nat) (beh : Nat → Nat → Bool) (tn : Nat) (tf : Nat → Nat) (n : Nat) (sz : Nat → Nat) (rw_ : Nat → Nat → Nat) (ver : Nat → Nat) (fx : Nat → Int32) (T : Nat) (mu : Nat → Nat → Nat) (hp : Nat → Nat) (ch : Int32) (sn : Nat) (sf : Nat → Nat) (G : GS) : Prop := vC nv beh G ∧ tR 1 1 8 tn tf G ∧ rC n sz rw_ ver fx G ∧ dC n (bR n sz rw_) G ∧ hC n hp G ∧ G.1 5 9 = nI T ∧ wiC mu G ∧ G.1 5 10 = ch ∧ sgC sn sf G
def KM (nv : Nat) (par : Nat → Nat) (tn : Nat) (tf : Nat → Nat) (n : Nat) (sz : Nat → Nat) (rw_ : Nat → Nat → Nat) (ver : Nat → Nat) (fx : Nat → Int32) (T : Nat) (mu : Nat → Nat → Nat) (hp : Nat → Nat) (ch : Int32) (sn : Nat) (sf : Nat → Nat) (G : GS) : Prop := vM nv par G ∧ tR 7 3 21 tn tf G ∧ rM n sz rw_ ver fx G ∧ dM n sz rw_ G ∧ hpM n hp G ∧ G.1 7 18 = nI T ∧ wiM mu G ∧ G.1 7 20 = ch ∧ sgM sn sf G
def pM (a : Nat) : Prop := a = 7 ∨ (20 ≤ a ∧ a < 36) ∨ a = 37 ∨ a = 40
def pC (a : Nat) : Prop := a < 7 ∨ (8 ≤ a ∧ a < 20) ∨ a = 36 ∨ a = 38 ∨ a = 39 ∨ a = 40 ∨ 41 ≤ a
section KL
variable {G G' : GS} {P : Nat → Nat → Prop} {nv : Nat} {par : Nat → Nat} {beh : Nat → Nat → Bool} {tn : Nat} {tf : Nat → Nat} {n : Nat} {sz : Nat → Nat} {rw_ : Nat → Nat → Nat} {ver : Nat → Nat} {fx : Nat → Int32} {T : Nat} {mu : Nat → Nat → Nat} {hp : Nat → Nat} {ch : Int32} {sn : Nat} {sf : Nat → Nat}
theorem vC.fe (h : vC nv beh G) (hf : fe P G G') (h2 : ¬ P 2 1) (h9 : ∀ k, ¬ P 9 k) : vC nv beh G' := ⟨by rw [hf.i h2]; exact h.1, fun v hv w hw => by rw [hf.i (h9 v)]; exact h.2 v hv w hw⟩
theorem rC.fe (h : rC n sz rw_ ver fx G) (hn : n ≤ 40) (hf : fe P G G') (h3 : ¬ P 3 5) (ha : ∀ a k, 10 ≤ a → a ≤ 12 → ¬ P a k) (h38 : ∀ k, ¬ P 38 k) (hg : ∀ a k, 48 ≤ a → a < 88 → ¬ P a k) : rC n sz rw_ ver fx G' := by
  refine ⟨by rw [hf.i h3]; exact h.1, fun r hr => ?_, fun f hf' i hi => by rw [hf.l (h38 f)]; exact h.2.2 f hf' i hi⟩
  obtain ⟨a1, a2, a3, a4⟩ := h.2.1 r hr
  exact ⟨by rw [hf.i (ha 10 _ (by omega) (by omega))]; exact a1, by rw [hf.i (ha 11 _ (by omega) (by omega))]; exact a2, by rw [hf.i (ha 12 _ (by omega) (by omega))]; exact a3, fun k hk => by rw [hf.i (hg _ _ (by omega) (by omega))]; exact a4 k hk⟩
theorem dC.fe {B : Nat → List Nat} (h : dC n B G) (hn : n ≤ 40) (hf : fe P G G') (h13 : ∀ k, ¬ P 13 k) (hb : ∀ a k, 88 ≤ a → a < 168 → ¬ P a k) : dC n B G' := by
  refine ⟨fun r hr => ?_, fun r h1 h2 => by rw [hf.i (h13 r)]; exact h.2.1 r h1 h2, fun a b h1 h2 => by rw [hf.i (hb _ _ (by omega) (by omega))]; exact h.2.2.1 a b h1 h2, fun a ha => by rw [hf.i (hb _ _ (by omega) (by omega))]; exact h.2.2.2 a ha⟩
  obtain ⟨a1, a2, a3, a4⟩ := h.1 r hr
  exact ⟨a1, a2, by rw [hf.i (h13 r)]; exact a3, fun k hk => by rw [hf.i (hb _ _ (by omega) (by omega))]; exact a4 k hk⟩
theorem wiC.fe (h : wiC mu G) (hf : fe P G G') (hb : ∀ a k, 168 ≤ a → a < 208 → ¬ P a k) : wiC mu G' := fun a b ha hb' => by rw [hf.i (hb _ _ (by omega) (by omega))]; exact h a b ha hb'
theorem wiM.fe (h : wiM mu G) (hf : fe P G G') (hb : ∀ k, ¬ P 31 k) : wiM mu G' := fun a b ha hb' => by rw [hf.i (hb _)]; exact h a b ha hb'
theorem sgC.fe (h : sgC sn sf G) (hf : fe P G G') (h6 : ¬ P 6 4) (h19 : ∀ k, ¬ P 19 k) : sgC sn sf G' := ⟨h.1, by rw [hf.i h6]; exact h.2.1, fun k hk => by rw [hf.i (h19 k)]; exact h.2.2 k hk⟩
theorem sgM.fe (h : sgM sn sf G) (hf : fe P G G') (h6 : ¬ P 7 26) (h33 : ∀ k, ¬ P 33 k) : sgM sn sf G' := ⟨h.1, by rw [hf.i h6]; exact h.2.1, fun k hk => by rw [hf.i (h33 k)]; exact h.2.2 k hk⟩
theorem vM.fe (h : vM nv par G) (hf : fe P G G') (h1 : ¬ P 7 1) (h20 : ∀ k, ¬ P 20 k) : vM nv par G' := ⟨by rw [hf.i h1]; exact h.1, by rw [hf.i (h20 0)]; exact h.2.1, fun v h0 hv => by rw [hf.i (h20 v)]; exact h.2.2 v h0 hv⟩
theorem dM.fe (h : dM n sz rw_ G) (hf : fe P G G') (h30 : ∀ k, ¬ P 30 k) : dM n sz rw_ G' := fun a b ha hb => by rw [hf.i (h30 _)]; exact h a b ha hb
/-- the class's part stays where only the reference's changes, and the other way round -/
theorem KC.keep (h : KC nv beh tn tf n sz rw_ ver fx T mu hp ch sn sf G) (hn : n ≤ 40) (hf : fe P G G') (hP : ∀ a k, P a k → pM a) : KC nv beh tn tf n sz rw_ ver fx T mu hp ch sn sf G' := by
  obtain ⟨a1, a2, a3, a4, a5, a6, a7, a8, a9⟩ := h
  have no : ∀ a k, ¬ pM a → ¬ P a k := fun a k q z => q (hP a k z)
  refine ⟨a1.fe hf (no _ _ (by unfold pM; omega)) (fun k => no _ _ (by unfold pM; omega)), a2.fe hf (no _ _ (by unfold pM; omega)) (fun k => no _ _ (by unfold pM; omega)), a3.fe hn hf (no _ _ (by unfold pM; omega)) (fun a k h1 h2 => no _ _ (by unfold pM; omega)) (fun k => no _ _ (by unfold pM; omega)) (fun a k h1 h2 => no _ _ (by unfold pM; omega)), a4.fe hn hf (fun k => no _ _ (by unfold pM; omega)) (fun a k h1 h2 => no _ _ (by unfold pM; omega)), a5.fe hf (no _ _ (by unfold pM; omega)) (no _ _ (by unfold pM; omega)) (fun a k h1 h2 => no _ _ (by unfold pM; omega)), by rw [hf.i (no _ _ (by unfold pM; omega))]; exact a6, a7.fe hf (fun a k h1 h2 => no _ _ (by unfold pM; omega)), by rw [hf.i (no _ _ (by unfold pM; omega))]; exact a8, a9.fe hf (no _ _ (by unfold pM; omega)) (fun k => no _ _ (by unfold pM; omega))⟩
theorem KM.keep (h : KM nv par tn tf n sz rw_ ver fx T mu hp ch sn sf G) (hf : fe P G G') (hP : ∀ a k, P a k → pC a) : KM nv par tn tf n sz rw_ ver fx T mu hp ch sn sf G' := by
  obtain ⟨a1, a2, a3, a4, a5, a6, a7, a8, a9⟩ := h
  have no : ∀ a k, ¬ pC a → ¬ P a k := fun a k q z => q (hP a k z)
  refine ⟨a1.fe hf (no _ _ (by unfold pC; omega)) (fun k => no _ _ (by unfold pC; omega)), a2.fe hf (no _ _ (by unfold pC; omega)) (fun k => no _ _ (by unfold pC; omega)), a3.fe hf (no _ _ (by unfold pC; omega)) (fun a k h1 h2 => no _ _ (by unfold pC; omega)), a4.fe hf (fun k => no _ _ (by unfold pC; omega)), a5.fe hf (fun k => no _ _ (by unfold pC; omega)), by rw [hf.i (no _ _ (by unfold pC; omega))]; exact a6, a7.fe hf (fun k => no _ _ (by unfold pC; omega)), by rw [hf.i (no _ _ (by unfold pC; omega))]; exact a8, a9.fe hf (no _ _ (by unfold pC; omega)) (fun k => no _ _ (by unfold pC; omega))⟩
/-- the reference's first act: thrown = 0 -/
theorem KM.t0 (h : KM nv par tn tf n sz rw_ ver fx T mu hp ch sn sf G) (v : Int32) : KM nv par tn tf n sz rw_ ver fx T mu hp ch sn sf (sI G 7 0 v) := by
  obtain ⟨a1, a2, a3, a4, a5, a6, a7, a8, a9⟩ := h
  have hf : fe (fun a k => a = 7 ∧ k = 0) G (sI G 7 0 v) := fe.sI ⟨rfl, rfl⟩
  exact ⟨a1.fe hf (by omega) (fun k => by omega), a2.fe hf (by omega) (fun k => by omega), a3.fe hf (by omega) (fun a k h1 h2 => by omega), a4.fe hf (fun k => by omega), a5.fe hf (fun k => by omega), by rw [hf.i (by omega)]; exact a6, a7.fe hf (fun k => by omega), by rw [hf.i (by omega)]; exact a8, a9.fe hf (by omega) (fun k => by omega)⟩
end KL
/-- what holds between two calls of the law -/
def Inv (G : GS) : Prop := ∃ (nv : Nat) (par : Nat → Nat) (beh : Nat → Nat → Bool) (tn : Nat) (tf : Nat → Nat) (n : Nat) (sz : Nat → Nat) (rw_ : Nat → Nat → Nat) (ver : Nat → Nat) (fx : Nat → Int32) (T : Nat) (mu : Nat → Nat → Nat) (hp : Nat → Nat) (ch : Int32) (sn : Nat) (sf : Nat → Nat), KA nv par beh n sz rw_ ver fx T mu hp ∧ KC nv beh tn tf n sz rw_ ver fx T mu hp ch sn sf G ∧ KM nv par tn tf n sz rw_ ver fx T mu hp ch sn sf G
theorem t0_pM {G : GS} {v : Int32} : fe (fun a k => a = 7 ∧ k = 0) G (sI G 7 0 v) := fe.sI ⟨rfl, rfl⟩
theorem op_frame {G : GS} (hI : Inv G) (x : Int32) : wp_X6_frame G x (fun r G1 => wp_X7_frame G1 x (fun r' G2 => r = r' ∧ Inv G2)) := by
  obtain ⟨nv, par, beh, tn, tf, n, sz, rw_, ver, fx, T, mu, hp, ch, sn, sf, hA, hC, hM⟩ := hI
  have hn := hA.2.1.1
  unfold wp_X6_frame
  refine s_X4_put hC.2.1 (fun G1 hT1 hf1 => ?_)
  have hM1 := hM.keep hf1.e (fun a k z => by unfold pC; omega)
  refine s_X7_frame hM1.2.1 (fun G2 hT2 hf2 => ⟨rfl, ?_⟩)
  obtain ⟨a1, a2, a3, a4, a5, a6, a7, a8, a9⟩ := hC
  have hC1 : KC nv beh (tN tn x) (tF tn tf x) n sz rw_ ver fx T mu hp ch sn sf G1 := ⟨a1.fe hf1.e (by omega) (fun k => by omega), hT1, a3.fe hn hf1.e (by omega) (fun a k h1 h2 => by omega) (fun k => by omega) (fun a k h1 h2 => by omega), a4.fe hn hf1.e (fun k => by omega) (fun a k h1 h2 => by omega), a5.fe hf1.e (by omega) (by omega) (fun a k h1 h2 => by omega), by rw [hf1.i (by omega)]; exact a6, a7.fe hf1.e (fun a k h1 h2 => by omega), by rw [hf1.i (by omega)]; exact a8, a9.fe hf1.e (by omega) (fun k => by omega)⟩
  obtain ⟨b1, b2, b3, b4, b5, b6, b7, b8, b9⟩ := hM1
  exact ⟨nv, par, beh, tN tn x, tF tn tf x, n, sz, rw_, ver, fx, T, mu, hp, ch, sn, sf, hA, hC1.keep hn hf2 (fun a k z => by unfold pM; omega), b1.fe hf2 (by omega) (fun k => by omega), hT2, b3.fe hf2 (by omega) (fun a k h1 h2 => by omega), b4.fe hf2 (fun k => by omega), b5.fe hf2 (fun k => by omega), by rw [hf2.i (by omega)]; exact b6, b7.fe hf2 (fun k => by omega), by rw [hf2.i (by omega)]; exact b8, b9.fe hf2 (by omega) (fun k => by omega)⟩
