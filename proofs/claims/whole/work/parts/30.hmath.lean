/-! sums -/
def sm (f : Nat → Int) : Nat → Int
  | 0 => 0
  | n + 1 => sm f n + f n
theorem sm_s (f : Nat → Int) (n : Nat) : sm f (n + 1) = sm f n + f n := rfl
theorem sm_congr {f g : Nat → Int} : ∀ {n : Nat}, (∀ k, k < n → f k = g k) → sm f n = sm g n
  | 0, _ => rfl
  | n + 1, h => by rw [sm_s, sm_s, sm_congr (n := n) (fun k hk => h k (by omega)), h n (by omega)]
theorem sm_add (f g : Nat → Int) : ∀ n : Nat, sm (fun k => f k + g k) n = sm f n + sm g n
  | 0 => rfl
  | n + 1 => by rw [sm_s, sm_s, sm_s, sm_add f g n]; omega
theorem sm_zero {f : Nat → Int} : ∀ {n : Nat}, (∀ k, k < n → f k = 0) → sm f n = 0
  | 0, _ => rfl
  | n + 1, h => by rw [sm_s, sm_zero (n := n) (fun k hk => h k (by omega)), h n (by omega)]; rfl
theorem sm_upd {f g : Nat → Int} {r : Nat} : ∀ {n : Nat}, r < n → (∀ k, k < n → k ≠ r → f k = g k) → sm f n = sm g n + (f r - g r)
  | 0, hr, _ => absurd hr (by omega)
  | n + 1, hr, h => by
    rw [sm_s, sm_s]
    by_cases e : r = n
    · subst e
      rw [sm_congr (f := f) (g := g) (n := r) (fun k hk => h k (by omega) (by omega))]
      omega
    · rw [sm_upd (n := n) (by omega) (fun k hk hk2 => h k (by omega) hk2), h n (by omega) (Ne.symm e)]
      omega
theorem sm_swap (u : Nat → Nat → Int) (m : Nat) : ∀ n : Nat, sm (fun a => sm (u a) m) n = sm (fun b => sm (fun a => u a b) n) m
  | 0 => by
    exact (sm_zero (fun k _ => rfl)).symm
  | n + 1 => by
    rw [sm_s, sm_swap u m n, ← sm_add]
    exact sm_congr (fun k _ => rfl)
theorem sm_bd {f : Nat → Int} {B : Int} : ∀ {n : Nat}, (∀ k, k < n → -B ≤ f k ∧ f k ≤ B) → -(B * n) ≤ sm f n ∧ sm f n ≤ B * n
  | 0, _ => by constructor <;> simp [sm]
  | n + 1, h => by
    have h1 := sm_bd (n := n) (fun k hk => h k (by omega))
    have h2 := h n (by omega)
    have e : B * ((n + 1 : Nat) : Int) = B * n + B := by rw [Int.natCast_add, Int.mul_add]; simp
    rw [sm_s, e]
    omega
theorem sm_nn {f : Nat → Int} : ∀ {n : Nat}, (∀ k, k < n → 0 ≤ f k) → 0 ≤ sm f n
  | 0, _ => Int.le_refl _
  | n + 1, h => by
    have h1 := sm_nn (n := n) (fun k hk => h k (by omega))
    have h2 := h n (by omega)
    rw [sm_s]; omega
/-! HEAPS by their least REPORTS -/
def hOK (n : Nat) (hp : Nat → Nat) : Prop := n ≤ 40 ∧ ∀ r, r < n → hp r ≤ r ∧ hp (hp r) = hp r
def rk (hp : Nat → Nat) (h : Nat) : Nat := cntB (fun x => decide (hp x = x)) h
theorem rk_t {hp : Nat → Nat} {x : Nat} (h : hp x = x) : rk hp (x + 1) = rk hp x + 1 := by
  show cntB _ x + (if decide (hp x = x) then 1 else 0) = _
  rw [decide_eq_true h]; rfl
theorem rk_f {hp : Nat → Nat} {x : Nat} (h : hp x ≠ x) : rk hp (x + 1) = rk hp x := by
  show cntB _ x + (if decide (hp x = x) then 1 else 0) = _
  rw [decide_eq_false h]; rfl
theorem rk_s (hp : Nat → Nat) (x : Nat) : rk hp x ≤ rk hp (x + 1) := by
  by_cases h : hp x = x
  · rw [rk_t h]; omega
  · rw [rk_f h]; omega
theorem rk_le {hp : Nat → Nat} {a : Nat} : ∀ {b : Nat}, a ≤ b → rk hp a ≤ rk hp b
  | 0, h => by rw [show a = 0 by omega]; exact Nat.le_refl _
  | b + 1, h => by
    by_cases e : a = b + 1
    · rw [e]; exact Nat.le_refl _
    · exact Nat.le_trans (rk_le (b := b) (by omega)) (rk_s hp b)
theorem rk_lt {hp : Nat → Nat} {a b : Nat} (ha : hp a = a) (h : a < b) : rk hp a < rk hp b := by
  have h1 := rk_le (hp := hp) (a := a + 1) (b := b) (by omega)
  rw [rk_t ha] at h1
  omega
theorem rk_inj {hp : Nat → Nat} {a b : Nat} (ha : hp a = a) (hb : hp b = b) (e : rk hp a = rk hp b) : a = b := by
  rcases Nat.lt_trichotomy a b with h | h | h
  · have := rk_lt ha h; omega
  · exact h
  · have := rk_lt hb h; omega
theorem rk_bd (hp : Nat → Nat) (h : Nat) : rk hp h ≤ h := cntB_le _ _
theorem rk_next {hp : Nat → Nat} {n j : Nat} : ∀ (d h : Nat), h + d = n → rk hp h = j → j < rk hp n → ∃ h', h ≤ h' ∧ h' < n ∧ hp h' = h' ∧ rk hp h' = j ∧ ∀ x, h ≤ x → x < h' → hp x ≠ x
  | 0, h, hd, e, hj => by
    rw [show n = h by omega] at hj
    omega
  | d + 1, h, hd, e, hj => by
    by_cases hh : hp h = h
    · exact ⟨h, Nat.le_refl _, by omega, hh, e, fun x h1 h2 => absurd h2 (by omega)⟩
    · obtain ⟨h', a1, a2, a3, a4, a5⟩ := rk_next d (h + 1) (by omega) (by rw [rk_f hh]; exact e) hj
      refine ⟨h', by omega, a2, a3, a4, fun x h1 h2 => ?_⟩
      by_cases ex : x = h
      · rw [ex]; exact hh
      · exact a5 x (by omega) h2
theorem rk_congr {hp hp' : Nat → Nat} {h : Nat} (e : ∀ x, x < h → hp x = hp' x) : rk hp h = rk hp' h := cntB_congr (fun k hk => by rw [e k hk])
/-! loops -/
def lp {β : Type} (st : Nat → β → β) : Nat → β → β
  | 0, b => b
  | n + 1, b => st n (lp st n b)
theorem lp_s {β : Type} (st : Nat → β → β) (n : Nat) (b : β) : lp st (n + 1) b = st n (lp st n b) := rfl
theorem lp_skip {β : Type} {st : Nat → β → β} {h : Nat} {b : β} : ∀ {h' : Nat}, h ≤ h' → (∀ x, h ≤ x → x < h' → ∀ c, st x c = c) → lp st h' b = lp st h b
  | 0, hle, _ => by rw [show h = 0 by omega]
  | h' + 1, hle, hs => by
    by_cases e : h = h' + 1
    · rw [e]
    · rw [lp_s, hs h' (by omega) (by omega)]
      exact lp_skip (by omega) (fun x h1 h2 => hs x h1 (by omega))
theorem lp_inv {β : Type} {st : Nat → β → β} {P : β → Prop} {b : β} (h0 : P b) : ∀ {n : Nat}, (∀ k, k < n → ∀ c, P c → P (st k c)) → P (lp st n b)
  | 0, _ => h0
  | n + 1, hs => hs n (by omega) _ (lp_inv h0 (fun k hk => hs k (by omega)))
/-! the best change -/
abbrev BS : Type := Int × Nat × Nat × Bool
def ask (v : Int) (w t : Nat) (m : Bool) (b : BS) : BS := if v < b.1 then (v, w, t, m) else b
def mvT (g : Nat → Nat → Int) (hp : Nat → Nat) (r h k : Nat) : Int := if k = r then 0 else if hp k = h then g r k else if hp k = hp r then -g r k else 0
def mv (n : Nat) (g : Nat → Nat → Int) (hp : Nat → Nat) (r h : Nat) : Int := sm (mvT g hp r h) n
def mlR (n : Nat) (g : Nat → Nat → Int) (hp : Nat → Nat) (b x : Nat) : Int := sm (fun y => if hp y = b then g x y else 0) n
def ml (n : Nat) (g : Nat → Nat → Int) (hp : Nat → Nat) (a b : Nat) : Int := sm (fun x => if hp x = a then mlR n g hp b x else 0) n
def cnH (n : Nat) (hp : Nat → Nat) (h : Nat) : Nat := cntB (fun k => decide (hp k = h)) n
def stM (n : Nat) (g : Nat → Nat → Int) (hp : Nat → Nat) (r h : Nat) (b : BS) : BS := if hp h = h ∧ h ≠ hp r then ask (mv n g hp r h) r h false b else b
def stA (n : Nat) (g : Nat → Nat → Int) (hp : Nat → Nat) (r : Nat) (b : BS) : BS := if 1 < cnH n hp (hp r) then ask (mv n g hp r 100) r 100 false (lp (stM n g hp r) n b) else lp (stM n g hp r) n b
def stG (n : Nat) (g : Nat → Nat → Int) (hp : Nat → Nat) (a h : Nat) (b : BS) : BS := if a < h ∧ hp a = a ∧ hp h = h then ask (ml n g hp a h) a h true b else b
def stL (n : Nat) (g : Nat → Nat → Int) (hp : Nat → Nat) (a : Nat) (b : BS) : BS := lp (stG n g hp a) n b
def best (n : Nat) (g : Nat → Nat → Int) (hp : Nat → Nat) : BS := lp (stL n g hp) n (lp (stA n g hp) n (0, 0, 0, false))
/-- a change that may be: a MOVE, or a MELTING -/
def bV (n : Nat) (g : Nat → Nat → Int) (hp : Nat → Nat) (b : BS) : Prop := b.1 ≤ 0 ∧ (b.1 < 0 → (b.2.2.2 = false ∧ b.2.1 < n ∧ b.1 = mv n g hp b.2.1 b.2.2.1 ∧ ((b.2.2.1 < n ∧ hp b.2.2.1 = b.2.2.1 ∧ b.2.2.1 ≠ hp b.2.1) ∨ b.2.2.1 = 100)) ∨ (b.2.2.2 = true ∧ b.2.1 < b.2.2.1 ∧ b.2.2.1 < n ∧ hp b.2.1 = b.2.1 ∧ hp b.2.2.1 = b.2.2.1 ∧ b.1 = ml n g hp b.2.1 b.2.2.1))
theorem ask_V {n : Nat} {g : Nat → Nat → Int} {hp : Nat → Nat} {v : Int} {w t : Nat} {m : Bool} {b : BS} (h : bV n g hp b) (hv : bV n g hp (v, w, t, m) ∨ 0 ≤ v) : bV n g hp (ask v w t m b) := by
  unfold ask
  by_cases c : v < b.1
  · rw [if_pos c]
    rcases hv with hv | hv
    · exact hv
    · have := h.1; omega
  · rw [if_neg c]; exact h
theorem mk_V {n : Nat} {g : Nat → Nat → Int} {hp : Nat → Nat} {v : Int} {w t : Nat} {m : Bool} (h : v < 0 → (m = false ∧ w < n ∧ v = mv n g hp w t ∧ ((t < n ∧ hp t = t ∧ t ≠ hp w) ∨ t = 100)) ∨ (m = true ∧ w < t ∧ t < n ∧ hp w = w ∧ hp t = t ∧ v = ml n g hp w t)) : bV n g hp (v, w, t, m) ∨ 0 ≤ v := by
  by_cases c : v < 0
  · exact Or.inl ⟨by show v ≤ 0; omega, fun _ => h c⟩
  · exact Or.inr (by omega)
theorem stM_V {n : Nat} {g : Nat → Nat → Int} {hp : Nat → Nat} {r h : Nat} {b : BS} (hr : r < n) (hh : h < n) (hb : bV n g hp b) : bV n g hp (stM n g hp r h b) := by
  unfold stM
  by_cases c : hp h = h ∧ h ≠ hp r
  · rw [if_pos c]
    exact ask_V hb (mk_V (fun _ => Or.inl ⟨rfl, hr, rfl, Or.inl ⟨hh, c.1, c.2⟩⟩))
  · rw [if_neg c]; exact hb
theorem stA_V {n : Nat} {g : Nat → Nat → Int} {hp : Nat → Nat} {r : Nat} {b : BS} (hr : r < n) (hb : bV n g hp b) : bV n g hp (stA n g hp r b) := by
  have h1 : bV n g hp (lp (stM n g hp r) n b) := lp_inv hb (fun k hk c hc => stM_V hr hk hc)
  unfold stA
  by_cases c : 1 < cnH n hp (hp r)
  · rw [if_pos c]
    exact ask_V h1 (mk_V (fun _ => Or.inl ⟨rfl, hr, rfl, Or.inr rfl⟩))
  · rw [if_neg c]; exact h1
theorem stG_V {n : Nat} {g : Nat → Nat → Int} {hp : Nat → Nat} {a h : Nat} {b : BS} (hh : h < n) (hb : bV n g hp b) : bV n g hp (stG n g hp a h b) := by
  unfold stG
  by_cases c : a < h ∧ hp a = a ∧ hp h = h
  · rw [if_pos c]
    exact ask_V hb (mk_V (fun _ => Or.inr ⟨rfl, c.1, hh, c.2.1, c.2.2, rfl⟩))
  · rw [if_neg c]; exact hb
theorem lpA_V {n : Nat} {g : Nat → Nat → Int} {hp : Nat → Nat} {k : Nat} (hk : k ≤ n) : bV n g hp (lp (stA n g hp) k (0, 0, 0, false)) := lp_inv ⟨Int.le_refl 0, fun h => absurd h (by show ¬ (0 : Int) < 0; omega)⟩ (fun j hj c hc => stA_V (by omega) hc)
theorem best_V (n : Nat) (g : Nat → Nat → Int) (hp : Nat → Nat) : bV n g hp (best n g hp) := lp_inv (lpA_V (Nat.le_refl _)) (fun k hk c hc => lp_inv hc (fun j hj d hd => stG_V hj hd))
/-! the change done, and the names put right -/
def app (b : BS) (hp : Nat → Nat) : Nat → Nat := fun r => if b.2.2.2 then (if hp r = b.2.2.1 then b.2.1 else hp r) else (if r = b.2.1 then b.2.2.1 else hp r)
def canon (f : Nat → Nat) (r : Nat) : Nat := (lst (fun k => decide (f k = f r)) (r + 1)).getD r
theorem canon_spec (f : Nat → Nat) (r : Nat) : canon f r ≤ r ∧ f (canon f r) = f r ∧ ∀ k, k < canon f r → f k ≠ f r := by
  unfold canon
  rcases lst_spec (p := fun k => decide (f k = f r)) (n := r + 1) with ⟨-, h⟩ | ⟨k, h1, h2, h3, h4⟩
  · have := h r (by omega)
    simp at this
  · rw [h1]
    exact ⟨by show k ≤ r; omega, of_decide_eq_true h3, fun j hj => of_decide_eq_false (h4 j hj)⟩
theorem canon_of {f : Nat → Nat} {r k : Nat} (h : f k = f r) (h2 : ∀ j, j < k → f j ≠ f r) : canon f r = k := by
  obtain ⟨a1, a2, a3⟩ := canon_spec f r
  rcases Nat.lt_trichotomy (canon f r) k with h9 | h9 | h9
  · exact absurd a2 (h2 _ h9)
  · exact h9
  · exact absurd h (a3 _ h9)
theorem canon_iff (f : Nat → Nat) (a b : Nat) : canon f a = canon f b ↔ f a = f b := by
  obtain ⟨a1, a2, a3⟩ := canon_spec f a
  obtain ⟨b1, b2, b3⟩ := canon_spec f b
  constructor
  · intro h
    rw [← a2, ← b2, h]
  · intro h
    exact canon_of (by rw [b2, h]) (fun j hj => by rw [h]; exact b3 j hj)
theorem canon_idem (f : Nat → Nat) (r : Nat) : canon f (canon f r) = canon f r := (canon_iff f _ _).mpr (canon_spec f r).2.1
theorem canon_hOK {n : Nat} (f : Nat → Nat) (hn : n ≤ 40) : hOK n (canon f) := ⟨hn, fun r _ => ⟨(canon_spec f r).1, canon_idem f r⟩⟩
theorem canon_congr {n : Nat} {f f' : Nat → Nat} (h : ∀ a b, a < n → b < n → (f a = f b ↔ f' a = f' b)) {r : Nat} (hr : r < n) : canon f r = canon f' r := by
  obtain ⟨b1, b2, b3⟩ := canon_spec f' r
  exact canon_of ((h _ _ (by omega) hr).mpr b2) (fun j hj e => b3 j hj ((h _ _ (by omega) hr).mp e))
theorem canon_self {n : Nat} {hp : Nat → Nat} (h : hOK n hp) {r : Nat} (hr : r < n) : canon hp r = hp r := by
  refine canon_of (h.2 r hr).2 (fun j hj e => ?_)
  have h1 := (h.2 r hr).1
  have h2 := (h.2 j (by omega)).1
  omega
def nxt (n : Nat) (g : Nat → Nat → Int) (hp : Nat → Nat) : Nat → Nat := canon (app (best n g hp) hp)
/-! what a change saves -/
def tO (g : Nat → Nat → Int) (hp : Nat → Nat) (a b : Nat) : Int := if a = b then 0 else if hp a = hp b then g a b else 0
def OO (n : Nat) (g : Nat → Nat → Int) (hp : Nat → Nat) : Int := sm (fun a => sm (tO g hp a) n) n
theorem OO_kernel {n : Nat} {g : Nat → Nat → Int} {f f' : Nat → Nat} (h : ∀ a b, a < n → b < n → (f a = f b ↔ f' a = f' b)) : OO n g f = OO n g f' := by
  refine sm_congr (fun a ha => sm_congr (fun b hb => ?_))
  unfold tO
  by_cases e : a = b
  · rw [if_pos e, if_pos e]
  · rw [if_neg e, if_neg e]
    by_cases e2 : f a = f b
    · rw [if_pos e2, if_pos ((h a b ha hb).mp e2)]
    · rw [if_neg e2, if_neg (fun z => e2 ((h a b ha hb).mpr z))]
theorem OO_move {n : Nat} {g : Nat → Nat → Int} {hp : Nat → Nat} (hg : ∀ a b, a < n → b < n → g a b = g b a) {r h : Nat} (hr : r < n) (hh : h ≠ hp r) : OO n g (fun k => if k = r then h else hp k) = OO n g hp + 2 * mv n g hp r h := by
  have ho : ∀ k, k ≠ r → (fun k => if k = r then h else hp k) k = hp k := fun k hk => if_neg hk
  have hrr : (fun k => if k = r then h else hp k) r = h := if_pos rfl
  generalize (fun k => if k = r then h else hp k) = f at ho hrr
  have e1 : ∀ a, a < n → a ≠ r → sm (tO g f a) n = sm (tO g hp a) n + (tO g f a r - tO g hp a r) := fun a ha har => sm_upd hr (fun k hk hkr => by
    unfold tO
    by_cases e : a = k
    · rw [if_pos e, if_pos e]
    · rw [if_neg e, if_neg e, ho a har, ho k hkr])
  have d0 : ∀ k, k < n → tO g f r k - tO g hp r k = mvT g hp r h k := fun k hk => by
    unfold tO mvT
    by_cases e : k = r
    · rw [if_pos e.symm, if_pos e.symm, if_pos e]; rfl
    · rw [if_neg (Ne.symm e), if_neg (Ne.symm e), if_neg e, hrr, ho k e]
      by_cases e2 : hp k = h
      · rw [if_pos e2.symm, if_neg (fun z => hh (by rw [← e2, ← z])), if_pos e2]
        omega
      · rw [if_neg (Ne.symm e2), if_neg e2]
        by_cases e3 : hp k = hp r
        · rw [if_pos e3.symm, if_pos e3]; omega
        · rw [if_neg (Ne.symm e3), if_neg e3]; rfl
  have sy : ∀ (q : Nat → Nat) (a b : Nat), a < n → b < n → tO g q a b = tO g q b a := fun q a b ha hb => by
    unfold tO
    by_cases e : a = b
    · rw [if_pos e, if_pos e.symm]
    · rw [if_neg e, if_neg (Ne.symm e)]
      by_cases e2 : q a = q b
      · rw [if_pos e2, if_pos e2.symm, hg a b ha hb]
      · rw [if_neg e2, if_neg (Ne.symm e2)]
  have er : sm (tO g f r) n = sm (tO g hp r) n + mv n g hp r h := by
    unfold mv
    rw [← sm_add]
    exact sm_congr (fun k hk => by rw [← d0 k hk]; omega)
  have ed : sm (fun a => tO g f a r - tO g hp a r) n = mv n g hp r h := sm_congr (fun k hk => by rw [sy f k r hk hr, sy hp k r hk hr, d0 k hk])
  unfold OO
  rw [sm_upd (f := fun a => sm (tO g f a) n) (g := fun a => sm (tO g hp a) n + (tO g f a r - tO g hp a r)) hr (fun a ha har => e1 a ha har), sm_add, ed, er]
  have z : tO g f r r - tO g hp r r = 0 := by
    unfold tO
    rw [if_pos rfl, if_pos rfl]; rfl
  rw [z]
  omega
theorem melt_ite (p q a b : Nat) (z : Int) (hab : a ≠ b) : (if (if p = b then a else p) = (if q = b then a else q) then z else 0) = (if p = q then z else 0) + ((if p = a then (if q = b then z else 0) else 0) + (if p = b then (if q = a then z else 0) else 0)) := by
  grind
theorem OO_melt {n : Nat} {g : Nat → Nat → Int} {hp : Nat → Nat} (hg : ∀ a b, a < n → b < n → g a b = g b a) {a b : Nat} (hab : a ≠ b) : OO n g (fun k => if hp k = b then a else hp k) = OO n g hp + 2 * ml n g hp a b := by
  have e : ∀ x y, x < n → y < n → tO g (fun k => if hp k = b then a else hp k) x y = tO g hp x y + ((if hp x = a then (if hp y = b then g x y else 0) else 0) + (if hp x = b then (if hp y = a then g x y else 0) else 0)) := fun x y hx hy => by
    unfold tO
    by_cases exy : x = y
    · subst exy
      rw [if_pos rfl, if_pos rfl]
      by_cases e1 : hp x = a
      · have e2 : ¬ hp x = b := fun z => hab (by rw [← e1, ← z])
        rw [if_pos e1, if_neg e2, if_neg e2]; rfl
      · by_cases e2 : hp x = b
        · rw [if_neg e1, if_pos e2, if_neg e1]; rfl
        · rw [if_neg e1, if_neg e2]; rfl
    · rw [if_neg exy, if_neg exy]
      exact melt_ite (hp x) (hp y) a b (g x y) hab
  have s1 : sm (fun x => sm (fun y => if hp x = a then (if hp y = b then g x y else 0) else 0) n) n = ml n g hp a b := sm_congr (fun x hx => by
    unfold mlR
    by_cases e1 : hp x = a
    · rw [if_pos e1]; exact sm_congr (fun y _ => by rw [if_pos e1])
    · rw [if_neg e1]; exact sm_zero (fun y _ => by rw [if_neg e1]))
  have s2 : sm (fun x => sm (fun y => if hp x = b then (if hp y = a then g x y else 0) else 0) n) n = ml n g hp a b := by
    rw [sm_swap (fun x y => if hp x = b then (if hp y = a then g x y else 0) else 0) n n]
    rw [← s1]
    refine sm_congr (fun y hy => sm_congr (fun x hx => ?_))
    by_cases e1 : hp x = b
    · by_cases e2 : hp y = a
      · rw [if_pos e1, if_pos e2, if_pos e2, if_pos e1, hg x y hx hy]
      · rw [if_pos e1, if_neg e2, if_neg e2]
    · by_cases e2 : hp y = a
      · rw [if_neg e1, if_pos e2, if_neg e1]
      · rw [if_neg e1, if_neg e2]
  have e3 : OO n g (fun k => if hp k = b then a else hp k) = sm (fun x => sm (tO g hp x) n + (sm (fun y => if hp x = a then (if hp y = b then g x y else 0) else 0) n + sm (fun y => if hp x = b then (if hp y = a then g x y else 0) else 0) n)) n := sm_congr (fun x hx => by
    rw [← sm_add, ← sm_add]
    exact sm_congr (fun y hy => e x y hx hy))
  rw [e3, sm_add, sm_add, s1, s2]
  unfold OO
  omega
theorem app_kernel (b : BS) (hp : Nat → Nat) (x y : Nat) : canon (app b hp) x = canon (app b hp) y ↔ app b hp x = app b hp y := canon_iff _ _ _
/-- a change that is done saves what it says, twice over -/
theorem OO_nxt {n : Nat} {g : Nat → Nat → Int} {hp : Nat → Nat} (hh : hOK n hp) (hg : ∀ a b, a < n → b < n → g a b = g b a) (hb : (best n g hp).1 < 0) : OO n g (nxt n g hp) = OO n g hp + 2 * (best n g hp).1 := by
  have hV := (best_V n g hp).2 hb
  unfold nxt
  generalize best n g hp = b at hV hb ⊢
  rw [OO_kernel (f := canon (app b hp)) (f' := app b hp) (fun x y _ _ => canon_iff _ x y)]
  obtain ⟨v, w, t, m⟩ := b
  dsimp only at hV hb ⊢
  rcases hV with ⟨rfl, h1, h2, h3⟩ | ⟨rfl, h1, h2, h3, h4, h5⟩
  · have hne : t ≠ hp w := by
      rcases h3 with h3 | h3
      · exact h3.2.2
      · have := (hh.2 w h1).1
        have := hh.1
        omega
    have ea : app (v, w, t, false) hp = fun k => if k = w then t else hp k := rfl
    rw [ea, OO_move hg h1 hne, h2]
  · have ea : app (v, w, t, true) hp = fun k => if hp k = t then w else hp k := rfl
    rw [ea, OO_melt hg (show w ≠ t by omega), h5]
