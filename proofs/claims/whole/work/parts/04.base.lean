/-! THE ONE WORLD: every cell of class, reference and law has a role; a state is what the int rows (objects' int fields by their slot, int and boolean arrays) and the long rows hold. -/
abbrev GS : Type := (Nat → Nat → Int32) × (Nat → Nat → Int64)
def gLen0 (a : Nat) : Nat := match a with
  | 8 => 12
  | 9 => 30
  | 17 => 41
  | 18 => 12
  | 19 => 3
  | 20 => 30
  | 21 => 12
  | 22 => 480
  | 27 => 12
  | 28 => 12
  | 29 => 169
  | 30 => 1600
  | 31 => 1600
  | 33 => 3
  | 34 => 3
  | 35 => 12
  | 37 => 501
  | 38 => 501
  | 39 => 12
  | 40 => 1
  | 44 => 13
  | _ => 40
def gLen (a : Nat) : Nat := if 48 ≤ a then (if a < 128 then 12 else if a < 288 then 40 else 13) else gLen0 a
def gBase (a : Nat) : Nat := match a with
  | 41 => 48
  | 42 => 88
  | 43 => 128
  | 45 => 168
  | 46 => 208
  | 47 => 248
  | _ => 288
/-- the objects: kind in vwCl, fields -/
def gO (q : Nat → Nat) (a : Nat) (f : Nat → Int32) : Nat × List Value := match a with
  | 0 => (6, [.ref (q 1), .ref (q 2), .ref (q 3), .ref (q 4), .ref (q 5), .ref (q 6)])
  | 1 => (4, [.ref (q 8), .int (f 1)])
  | 2 => (5, [.ref (q 9), .int (f 1)])
  | 3 => (3, [.ref (q 41), .ref (q 10), .ref (q 11), .ref (q 12), .ref (q 38), .int (f 5)])
  | 4 => (0, [.ref (q 42), .ref (q 13), .ref (q 36), .ref (q 43), .ref (q 44)])
  | 5 => (1, [.ref (q 45), .ref (q 14), .ref (q 15), .ref (q 16), .ref (q 17), .ref (q 46), .ref (q 47), .int (f 7), .int (f 8), .int (f 9), .int (f 10), .int (f 11), .int (f 12), .int (f 13), .int (f 14)])
  | 6 => (2, [.ref (q 18), .ref (q 39), .int (f 2), .ref (q 19), .int (f 4)])
  | _ => (7, [.int (f 0), .int (f 1), .ref (q 20), .int (f 3), .ref (q 21), .int (f 5), .ref (q 22), .ref (q 23), .ref (q 24), .ref (q 25), .ref (q 26), .ref (q 27), .ref (q 28), .int (f 13), .int (f 14), .ref (q 29), .ref (q 30), .ref (q 37), .int (f 18), .ref (q 31), .int (f 20), .ref (q 32), .int (f 22), .int (f 23), .int (f 24), .int (f 25), .int (f 26), .ref (q 33), .ref (q 34), .int (f 29), .ref (q 35)])
def gE (cy : Nat → ClassId) (q : Nat → Nat) (G : GS) (a : Nat) : va_E :=
  if 48 ≤ a then .inl (cy 0, gLen a, .inl (G.1 a))
  else if 41 ≤ a then .inl (cy 3, gLen a, .inr (.inr (.inr (.inr (fun i => if i < gLen a then some (q (gBase a + i)) else none)))))
  else if 38 ≤ a then .inl (cy 2, gLen a, .inr (.inl (G.2 a)))
  else if 36 ≤ a then .inl (cy 1, gLen a, .inl (G.1 a))
  else if 8 ≤ a then .inl (cy 0, gLen a, .inl (G.1 a))
  else .inr (gO q a (G.1 a))
/-- int arrays -/
def gI (a : Nat) : Prop := (48 ≤ a ∧ a < 301) ∨ (8 ≤ a ∧ a < 36)
theorem gE_i {cy : Nat → ClassId} {q : Nat → Nat} {G : GS} {a : Nat} (h : gI a) : gE cy q G a = .inl (cy 0, gLen a, .inl (G.1 a)) := by
  unfold gE gI at *
  rcases h with h | h
  · rw [if_pos h.1]
  · rw [if_neg (by omega), if_neg (by omega), if_neg (by omega), if_neg (by omega), if_pos h.1]
theorem gE_z {cy : Nat → ClassId} {q : Nat → Nat} {G : GS} {a : Nat} (h : 36 ≤ a) (h2 : a < 38) : gE cy q G a = .inl (cy 1, gLen a, .inl (G.1 a)) := by
  unfold gE
  rw [if_neg (by omega), if_neg (by omega), if_neg (by omega), if_pos h]
theorem gE_l {cy : Nat → ClassId} {q : Nat → Nat} {G : GS} {a : Nat} (h : 38 ≤ a) (h2 : a < 41) : gE cy q G a = .inl (cy 2, gLen a, .inr (.inl (G.2 a))) := by
  unfold gE
  rw [if_neg (by omega), if_neg (by omega), if_pos h]
theorem gE_g {cy : Nat → ClassId} {q : Nat → Nat} {G : GS} {a : Nat} (h : 41 ≤ a) (h2 : a < 48) : gE cy q G a = .inl (cy 3, gLen a, .inr (.inr (.inr (.inr (fun i => if i < gLen a then some (q (gBase a + i)) else none))))) := by
  unfold gE
  rw [if_neg (by omega), if_pos h]
theorem gE_o {cy : Nat → ClassId} {q : Nat → Nat} {G : GS} {a : Nat} (h : a < 8) : gE cy q G a = .inr (gO q a (G.1 a)) := by
  unfold gE
  rw [if_neg (by omega), if_neg (by omega), if_neg (by omega), if_neg (by omega), if_neg (by omega)]
theorem gE_eq {cy : Nat → ClassId} {q : Nat → Nat} {G G' : GS} {a : Nat} (h1 : G'.1 a = G.1 a) (h2 : G'.2 a = G.2 a) : gE cy q G' a = gE cy q G a := by
  unfold gE
  rw [h1, h2]
def gW (cy : Nat → ClassId) (q : Nat → Nat) (G : GS) : va_W := (List.range 301).map (fun a => (q a, gE cy q G a))
theorem gW_at {cy : Nat → ClassId} {q : Nat → Nat} {G : GS} {a : Nat} (h : a < 301) : (gW cy q G)[a]? = some (q a, gE cy q G a) := by
  unfold gW
  rw [List.getElem?_map, List.getElem?_range h]
  rfl
theorem gW_of {cy : Nat → ClassId} {q : Nat → Nat} {G : GS} {k : Nat} {z : Nat × va_E} (h : (gW cy q G)[k]? = some z) : k < 301 ∧ z = (q k, gE cy q G k) := by
  have hl : k < (gW cy q G).length := (List.getElem?_eq_some_iff.mp h).1
  unfold gW at hl
  rw [List.length_map, List.length_range] at hl
  rw [gW_at hl] at h
  exact ⟨hl, (Option.some.inj h).symm⟩
theorem gW_set {cy : Nat → ClassId} {q : Nat → Nat} {G G' : GS} {a : Nat} {e : va_E} (h : a < 301) (h1 : gE cy q G' a = e) (h2 : ∀ b, b ≠ a → gE cy q G' b = gE cy q G b) : (gW cy q G).set a (q a, e) = gW cy q G' := by
  have hlen : ∀ X : GS, (gW cy q X).length = 301 := fun X => by unfold gW; rw [List.length_map, List.length_range]
  apply List.ext_getElem?
  intro k
  by_cases hk : k = a
  · subst hk
    rw [List.getElem?_set_self (by rw [hlen]; exact h), gW_at h, h1]
  · rw [List.getElem?_set_ne (Ne.symm hk)]
    by_cases hl : k < 301
    · rw [gW_at hl, gW_at hl, h2 k hk]
    · rw [List.getElem?_eq_none (by rw [hlen]; omega), List.getElem?_eq_none (by rw [hlen]; omega)]
/-- one place of an int row, of a long row -/
def sI (G : GS) (a j : Nat) (v : Int32) : GS := (fun b => if b = a then upd (G.1 a) j v else G.1 b, G.2)
def sL (G : GS) (a j : Nat) (v : Int64) : GS := (G.1, fun b => if b = a then vp_updL (G.2 a) j v else G.2 b)
theorem sI_row (G : GS) (a j : Nat) (v : Int32) : (sI G a j v).1 a = upd (G.1 a) j v := by simp [sI]
theorem sI_oth (G : GS) (a j : Nat) (v : Int32) {b : Nat} (h : b ≠ a) : (sI G a j v).1 b = G.1 b := by simp [sI, h]
theorem sI_2 (G : GS) (a j : Nat) (v : Int32) : (sI G a j v).2 = G.2 := rfl
theorem sL_1 (G : GS) (a j : Nat) (v : Int64) : (sL G a j v).1 = G.1 := rfl
theorem sL_row (G : GS) (a j : Nat) (v : Int64) : (sL G a j v).2 a = vp_updL (G.2 a) j v := by simp [sL]
theorem sL_oth (G : GS) (a j : Nat) (v : Int64) {b : Nat} (h : b ≠ a) : (sL G a j v).2 b = G.2 b := by simp [sL, h]
theorem sI_get (G : GS) (a j : Nat) (v : Int32) (b k : Nat) : (sI G a j v).1 b k = if b = a ∧ k = j then v else G.1 b k := by
  by_cases h : b = a
  · subst h
    by_cases h2 : k = j
    · simp [sI, upd, h2]
    · simp [sI, upd, h2]
  · simp [sI, h]
theorem sL_get (G : GS) (a j : Nat) (v : Int64) (b k : Nat) : (sL G a j v).2 b k = if b = a ∧ k = j then v else G.2 b k := by
  by_cases h : b = a
  · subst h
    by_cases h2 : k = j
    · simp [sL, vp_updL, h2]
    · simp [sL, vp_updL, h2]
  · simp [sL, h]
theorem gLen_12 {a : Nat} (h : 48 ≤ a) (h2 : a < 128) : gLen a = 12 := by unfold gLen; rw [if_pos h, if_pos h2]
theorem gLen_40 {a : Nat} (h : 128 ≤ a) (h2 : a < 288) : gLen a = 40 := by unfold gLen; rw [if_pos (by omega), if_neg (by omega), if_pos h2]
theorem gLen_13 {a : Nat} (h : 288 ≤ a) (h2 : a < 301) : gLen a = 13 := by unfold gLen; rw [if_pos (by omega), if_neg (by omega), if_neg (by omega)]
theorem gLen_31 (a : Nat) : gLen a < 2 ^ 31 := by
  unfold gLen gLen0
  split
  · split
    · decide
    · split <;> decide
  · split <;> decide
/-- what a method may change -/
def gA (q : Nat → Nat) (sz : Nat) : Nat → Prop := fun x => (∃ a, a < 301 ∧ q a = x) ∨ sz ≤ x
def gTy (cy : Nat → ClassId) : List (ClassId × FieldType) := [(cy 0, .int), (cy 1, .boolean), (cy 2, .long), (cy 3, .array .int)]
/-- the world as it stands in a method -/
def gH (D : va_G) (cy : Nat → ClassId) (q : Nat → Nat) (A : Nat → Prop) (H0 : Heap) (G : GS) (H : Heap) (locs : List Loc) : Prop := va_P D vwCl (gW cy q G) H ∧ va_D A (gW cy q G) ∧ va_S A H0 H locs
/-- what stays the same in a method -/
def gC (p : Program) (s : State) (m : MethodId) (args : Array Value) (c : Code) (cc : ByteArray) (nL : Nat) (Ts : List Cond) (own : String) (D : va_G) (cy : Nat → ClassId) : Prop := CallFix p m c cc nL s args Ts own ∧ va_K D vwCl (gTy cy) s
/-- a method's start and its end -/
def gPre (D : va_G) (cy : Nat → ClassId) (q : Nat → Nat) (G : GS) (sz : Nat) : State → Prop := fun U => U.heap.size = sz ∧ va_P D vwCl (gW cy q G) U.heap ∧ va_K D vwCl (gTy cy) U ∧ va_D (fun _ => True) (gW cy q G)
def gPo (D : va_G) (cy : Nat → ClassId) (q : Nat → Nat) (sz : Nat) : GS → State → Prop := fun G t => va_P D vwCl (gW cy q G) t.heap ∧ va_K D vwCl (gTy cy) t ∧ va_D (gA q sz) (gW cy q G)
def gMi (l : Launch) (y : MethodName) (ws : List Cond) (rm : Room) (D : va_G) (cy : Nat → ClassId) (q : Nat → Nat) (As : List Value) (G : GS) (post : Int32 → GS → Prop) : Prop := ∀ sz : Nat, Met l y ws rm (va_Pc As (gPre D cy q G sz)) (va_Qi post (gPo D cy q sz) (gA q sz)) 0 0 (gA q sz)
def gMl (l : Launch) (y : MethodName) (ws : List Cond) (rm : Room) (D : va_G) (cy : Nat → ClassId) (q : Nat → Nat) (As : List Value) (G : GS) (post : Int64 → GS → Prop) : Prop := ∀ sz : Nat, Met l y ws rm (va_Pc As (gPre D cy q G sz)) (va_Ql post (gPo D cy q sz) (gA q sz)) 0 0 (gA q sz)
def gMv (l : Launch) (y : MethodName) (ws : List Cond) (rm : Room) (D : va_G) (cy : Nat → ClassId) (q : Nat → Nat) (As : List Value) (G : GS) (post : GS → Prop) : Prop := ∀ sz : Nat, Met l y ws rm (va_Pc As (gPre D cy q G sz)) (va_Qv post (gPo D cy q sz) (gA q sz)) 0 0 (gA q sz)
theorem gD_self {A : Nat → Prop} {cy : Nat → ClassId} {q : Nat → Nat} {G : GS} {sz : Nat} (h : va_D A (gW cy q G)) : va_D (gA q sz) (gW cy q G) := ⟨h.1, fun k z hk => by
  obtain ⟨h1, h2⟩ := gW_of hk
  rw [h2]
  exact Or.inl ⟨k, h1, rfl⟩⟩
theorem gPre_blind {D : va_G} {cy : Nat → ClassId} {q : Nat → Nat} {G : GS} {sz : Nat} {As : List Value} : FrameBlind (va_Pc As (gPre D cy q G sz)) := fun a U g mk h => by
  obtain ⟨q0, q1, qP, qK, qD⟩ := h
  exact ⟨q0, q1, qP, va_K.moved (u := U) (U := U.calling g mk a) (Vm.Alike.refl U.vm) qK, qD⟩
theorem gA_in {D : va_G} {cy : Nat → ClassId} {q : Nat → Nat} {A : Nat → Prop} {H0 H : Heap} {G : GS} {locs : List Loc} (hw : gH D cy q A H0 G H locs) (hA : ∀ x, H0.size ≤ x → A x) : ∀ x, gA q H.size x → A x := fun x h => by
  rcases h with ⟨a, ha, rfl⟩ | h
  · exact hw.2.1.2 a _ (gW_at ha)
  · exact hA x (Nat.le_trans hw.2.2.1 h)
section GR
variable {p : Program} {l : Launch} {e : Env} {R : Room} {s : State} {m : MethodId} {args : Array Value} {below : List Frame} {meth : Method} {c : Code} {H : Heap} {locs : List Loc} {cells slots : Nat} {Q : State → Prop}
variable {cc : ByteArray} {pc : Nat} {ls : Array Slot} {rest : List Value} {D : va_G} {cy : Nat → ClassId} {q : Nat → Nat} {A : Nat → Prop} {H0 : Heap} {G : GS} {Ts : List Cond} {own : String} {nL : Nat}
theorem g_get (a k : Nat) {index N : Nat} {C : String} {T : u_T} {v : Value} (X : gC p s m args c cc nL Ts own D cy) (hw : gH D cy q A H0 G H locs) (ha : a < 8) (hin : ∀ w ∈ u_ws C T N, w ∈ Ts) (hc : vwCl[(gO q a (G.1 a)).1]? = some (C, T, N)) (hk : k < N) (hl : Cond.fieldLink own index (T k).1 (T k).2.1 (T k).2.2.1 ∈ Ts) (hv : (gO q a (G.1 a)).2[k]? = some v) (hdg : decode cc pc = .ok (.getfield index, 3))
    (kk : W p l e R s m args below meth c H locs cells slots Q (F0 m (pc + 3) ls (v :: rest))) : W p l e R s m args below meth c H locs cells slots Q (F0 m pc ls (.ref (q a) :: rest)) := by
  obtain ⟨⟨hx, hb, hml, hown, hts⟩, hK⟩ := X
  have he : (gW cy q G)[a]? = some (q a, .inr ((gO q a (G.1 a)).1, (gO q a (G.1 a)).2)) := by rw [gW_at (by omega), gE_o ha]
  exact va_get hx hb hts hin hown hK hw.1 a he hc k hk (hts _ hl) (fun _ h => h) hv hdg kk
theorem g_put (a k : Nat) {index N : Nat} {C : String} {T : u_T} {ty0 : Nat → FieldType} {ty : FieldType} {v : Int32} (X : gC p s m args c cc nL Ts own D cy) (hw : gH D cy q A H0 G H locs) (ha : a < 8) (hin : ∀ w ∈ u_ws C T N, w ∈ Ts) (hty : ∀ k, k < N → parseFieldDescriptor (T k).2.2.1 = some (ty0 k)) (hnm : ∀ a, a < N → ∀ b, b < N → a ≠ b → (T a).2.1 ≠ (T b).2.1) (hc : vwCl[(gO q a (G.1 a)).1]? = some (C, T, N)) (hk : k < N) (hl : Cond.fieldLink own index (T k).1 (T k).2.1 (T k).2.2.1 ∈ Ts) (hfin : (T k).2.2.2 = false) (hd : parseFieldDescriptor (T k).2.2.1 = some ty) (hn : narrow ty (.int v) = .int v) (hfit : fits ty (.int v) = true) (hlen : k < (gO q a (G.1 a)).2.length) (hset : gO q a (upd (G.1 a) k v) = ((gO q a (G.1 a)).1, (gO q a (G.1 a)).2.set k (.int v))) (hdg : decode cc pc = .ok (.putfield index, 3))
    (kk : ∀ (H1 : Heap) (locs1 : List Loc), gH D cy q A H0 (sI G a k v) H1 locs1 → W p l e R s m args below meth c H1 locs1 cells slots Q (F0 m (pc + 3) ls rest)) : W p l e R s m args below meth c H locs cells slots Q (F0 m pc ls (.int v :: .ref (q a) :: rest)) := by
  obtain ⟨⟨hx, hb, hml, hown, hts⟩, hK⟩ := X
  have he : (gW cy q G)[a]? = some (q a, .inr ((gO q a (G.1 a)).1, (gO q a (G.1 a)).2)) := by rw [gW_at (by omega), gE_o ha]
  refine va_put hx hb hts hin ty0 hty hnm hown hK hw.1 hw.2.1 hw.2.2 a he hc k hk (hts _ hl) (fun _ h => h) hfin hd hn hfit hlen hdg (fun H1 locs1 hP hD hS => ?_)
  have hs := gW_set (cy := cy) (q := q) (G := G) (G' := sI G a k v) (a := a) (e := .inr ((gO q a (G.1 a)).1, (gO q a (G.1 a)).2.set k (.int v))) (by omega) (by rw [gE_o ha, sI_row, hset]) (fun b hb => gE_eq (sI_oth G a k v hb) rfl)
  rw [hs] at hP hD
  exact kk H1 locs1 ⟨hP, hD, hS⟩
theorem g_iald (a n j : Nat) {i : Int32} (X : gC p s m args c cc nL Ts own D cy) (hw : gH D cy q A H0 G H locs) (ha : gI a) (hn : gLen a = n) (hj : j < n) (hi : i = nI j) (h31 : n < 2 ^ 31) (hdg : decode cc pc = .ok (.iaload, 1))
    (kk : W p l e R s m args below meth c H locs cells slots Q (F0 m (pc + 1) ls (.int (G.1 a j) :: rest))) : W p l e R s m args below meth c H locs cells slots Q (F0 m pc ls (.int i :: .ref (q a) :: rest)) := by
  obtain ⟨⟨hx, hb, hml, hown, hts⟩, hK⟩ := X
  subst hi
  have h3 : a < 301 := by unfold gI at ha; omega
  refine va_iald hx hb hK hw.1 a 0 (f := G.1 a) (n := gLen a) (cA := cy 0) (by rw [gW_at h3, gE_i ha]) rfl (vp_in_nI (by rw [hn]; exact hj) (by rw [hn]; exact h31)) hdg ?_
  rw [nI_clamp (by omega)]
  exact kk
theorem g_zald (a n j : Nat) {i : Int32} (X : gC p s m args c cc nL Ts own D cy) (hw : gH D cy q A H0 G H locs) (ha : 36 ≤ a ∧ a < 38) (hn : gLen a = n) (hj : j < n) (hi : i = nI j) (h31 : n < 2 ^ 31) (hdg : decode cc pc = .ok (.baload, 1))
    (kk : W p l e R s m args below meth c H locs cells slots Q (F0 m (pc + 1) ls (.int (G.1 a j) :: rest))) : W p l e R s m args below meth c H locs cells slots Q (F0 m pc ls (.int i :: .ref (q a) :: rest)) := by
  obtain ⟨⟨hx, hb, hml, hown, hts⟩, hK⟩ := X
  subst hi
  refine va_zald hx hb hK hw.1 a 1 (f := G.1 a) (n := gLen a) (cA := cy 1) (by rw [gW_at (by omega), gE_z ha.1 ha.2]) rfl (vp_in_nI (by rw [hn]; exact hj) (by rw [hn]; exact h31)) hdg ?_
  rw [nI_clamp (by omega)]
  exact kk
theorem g_lald (a n j : Nat) {i : Int32} (X : gC p s m args c cc nL Ts own D cy) (hw : gH D cy q A H0 G H locs) (ha : 38 ≤ a ∧ a < 41) (hn : gLen a = n) (hj : j < n) (hi : i = nI j) (h31 : n < 2 ^ 31) (hdg : decode cc pc = .ok (.laload, 1))
    (kk : W p l e R s m args below meth c H locs cells slots Q (F0 m (pc + 1) ls (.long (G.2 a j) :: rest))) : W p l e R s m args below meth c H locs cells slots Q (F0 m pc ls (.int i :: .ref (q a) :: rest)) := by
  obtain ⟨⟨hx, hb, hml, hown, hts⟩, hK⟩ := X
  subst hi
  refine va_lald hx hb hK hw.1 a 2 (f := G.2 a) (n := gLen a) (cA := cy 2) (by rw [gW_at (by omega), gE_l ha.1 ha.2]) rfl (vp_in_nI (by rw [hn]; exact hj) (by rw [hn]; exact h31)) hdg ?_
  rw [nI_clamp (by omega)]
  exact kk
theorem g_aald (a n j : Nat) {i : Int32} (X : gC p s m args c cc nL Ts own D cy) (hw : gH D cy q A H0 G H locs) (ha : 41 ≤ a ∧ a < 48) (hn : gLen a = n) (hj : j < n) (hi : i = nI j) (h31 : n < 2 ^ 31) (hdg : decode cc pc = .ok (.aaload, 1))
    (kk : W p l e R s m args below meth c H locs cells slots Q (F0 m (pc + 1) ls (.ref (q (gBase a + j)) :: rest))) : W p l e R s m args below meth c H locs cells slots Q (F0 m pc ls (.int i :: .ref (q a) :: rest)) := by
  obtain ⟨⟨hx, hb, hml, hown, hts⟩, hK⟩ := X
  subst hi
  subst hn
  have hin : vp_in (nI j) (gLen a) := vp_in_nI hj h31
  have hcl : (nI j).toNatClampNeg = j := nI_clamp (by omega)
  have hcell := hw.1 a _ (gW_at (by omega))
  rw [gE_g ha.1 ha.2] at hcell
  exact W.aald (v := .ref (q (gBase a + j))) (ty := .array .int) hx hb hcell ((hK.2 3 _ rfl).1 (gLen a) (fun i => va_rf (if i < gLen a then some (q (gBase a + i)) else none))) rfl (fun q => by cases q) (by show ¬ (nI j < 0 ∨ (arrV _ _ _).slots.size ≤ _); rw [arrV_size]; exact hin) (by show (arrV _ _ _).slots[_]? = _; rw [arrV_read _ _ (by rw [hcl]; exact hj), hcl]; show some (va_rf (if j < gLen a then some (q (gBase a + j)) else none)) = _; rw [if_pos hj]; rfl) rfl rfl hdg kk
theorem g_iast (a n j : Nat) {i v : Int32} (X : gC p s m args c cc nL Ts own D cy) (hw : gH D cy q A H0 G H locs) (ha : gI a) (hn : gLen a = n) (hj : j < n) (hi : i = nI j) (h31 : n < 2 ^ 31) (hdg : decode cc pc = .ok (.iastore, 1))
    (kk : ∀ (H1 : Heap) (locs1 : List Loc), gH D cy q A H0 (sI G a j v) H1 locs1 → W p l e R s m args below meth c H1 locs1 cells slots Q (F0 m (pc + 1) ls rest)) : W p l e R s m args below meth c H locs cells slots Q (F0 m pc ls (.int v :: .int i :: .ref (q a) :: rest)) := by
  obtain ⟨⟨hx, hb, hml, hown, hts⟩, hK⟩ := X
  subst hi
  have h3 : a < 301 := by unfold gI at ha; omega
  refine va_iast hx hb hK hw.1 hw.2.1 hw.2.2 a 0 (f := G.1 a) (n := gLen a) (cA := cy 0) (by rw [gW_at h3, gE_i ha]) rfl (vp_in_nI (by rw [hn]; exact hj) (by rw [hn]; exact h31)) hdg (fun H1 locs1 hP hD hS => ?_)
  rw [nI_clamp (by omega)] at hP hD
  have hs := gW_set (cy := cy) (q := q) (G := G) (G' := sI G a j v) (a := a) (e := .inl (cy 0, gLen a, .inl (upd (G.1 a) j v))) h3 (by rw [gE_i ha, sI_row]) (fun b hb => gE_eq (sI_oth G a j v hb) rfl)
  rw [hs] at hP hD
  exact kk H1 locs1 ⟨hP, hD, hS⟩
theorem g_zast (a n j : Nat) {i v : Int32} (X : gC p s m args c cc nL Ts own D cy) (hw : gH D cy q A H0 G H locs) (ha : 36 ≤ a ∧ a < 38) (hn : gLen a = n) (hj : j < n) (hi : i = nI j) (hv : v = 0 ∨ v = 1) (h31 : n < 2 ^ 31) (hdg : decode cc pc = .ok (.bastore, 1))
    (kk : ∀ (H1 : Heap) (locs1 : List Loc), gH D cy q A H0 (sI G a j v) H1 locs1 → W p l e R s m args below meth c H1 locs1 cells slots Q (F0 m (pc + 1) ls rest)) : W p l e R s m args below meth c H locs cells slots Q (F0 m pc ls (.int v :: .int i :: .ref (q a) :: rest)) := by
  obtain ⟨⟨hx, hb, hml, hown, hts⟩, hK⟩ := X
  subst hi
  have hnar : vp_nar .boolean v = v := by rcases hv with rfl | rfl <;> decide
  refine va_zast hx hb hK hw.1 hw.2.1 hw.2.2 a 1 (f := G.1 a) (n := gLen a) (cA := cy 1) (by rw [gW_at (by omega), gE_z ha.1 ha.2]) rfl (vp_in_nI (by rw [hn]; exact hj) (by rw [hn]; exact h31)) hdg (fun H1 locs1 hP hD hS => ?_)
  rw [nI_clamp (by omega), hnar] at hP hD
  have hs := gW_set (cy := cy) (q := q) (G := G) (G' := sI G a j v) (a := a) (e := .inl (cy 1, gLen a, .inl (upd (G.1 a) j v))) (by omega) (by rw [gE_z ha.1 ha.2, sI_row]) (fun b hb => gE_eq (sI_oth G a j v hb) rfl)
  rw [hs] at hP hD
  exact kk H1 locs1 ⟨hP, hD, hS⟩
theorem g_last (a n j : Nat) {i : Int32} {v : Int64} (X : gC p s m args c cc nL Ts own D cy) (hw : gH D cy q A H0 G H locs) (ha : 38 ≤ a ∧ a < 41) (hn : gLen a = n) (hj : j < n) (hi : i = nI j) (h31 : n < 2 ^ 31) (hdg : decode cc pc = .ok (.lastore, 1))
    (kk : ∀ (H1 : Heap) (locs1 : List Loc), gH D cy q A H0 (sL G a j v) H1 locs1 → W p l e R s m args below meth c H1 locs1 cells slots Q (F0 m (pc + 1) ls rest)) : W p l e R s m args below meth c H locs cells slots Q (F0 m pc ls (.long v :: .int i :: .ref (q a) :: rest)) := by
  obtain ⟨⟨hx, hb, hml, hown, hts⟩, hK⟩ := X
  subst hi
  refine va_last hx hb hK hw.1 hw.2.1 hw.2.2 a 2 (f := G.2 a) (n := gLen a) (cA := cy 2) (by rw [gW_at (by omega), gE_l ha.1 ha.2]) rfl (vp_in_nI (by rw [hn]; exact hj) (by rw [hn]; exact h31)) hdg (fun H1 locs1 hP hD hS => ?_)
  rw [nI_clamp (by omega)] at hP hD
  have hs := gW_set (cy := cy) (q := q) (G := G) (G' := sL G a j v) (a := a) (e := .inl (cy 2, gLen a, .inr (.inl (vp_updL (G.2 a) j v)))) (by omega) (by rw [gE_l ha.1 ha.2, sL_row]) (fun b hb => gE_eq rfl (sL_oth G a j v hb))
  rw [hs] at hP hD
  exact kk H1 locs1 ⟨hP, hD, hS⟩
theorem g_alen (a n : Nat) {v : Int32} (X : gC p s m args c cc nL Ts own D cy) (hw : gH D cy q A H0 G H locs) (ha : gI a) (hn : gLen a = n) (hv : Int32.ofNat n = v) (hdg : decode cc pc = .ok (.arraylength, 1))
    (kk : W p l e R s m args below meth c H locs cells slots Q (F0 m (pc + 1) ls (.int v :: rest))) : W p l e R s m args below meth c H locs cells slots Q (F0 m pc ls (.ref (q a) :: rest)) := by
  obtain ⟨⟨hx, hb, hml, hown, hts⟩, hK⟩ := X
  have h3 : a < 301 := by unfold gI at ha; omega
  exact va_alen hx hb hK hw.1 a 0 (x := (gLen a, .inl (G.1 a))) (cA := cy 0) (by rw [gW_at h3, gE_i ha]) (ty := .int) rfl (by rw [hn]; exact hv) hdg kk
/-- the top of the stack under another name -/
theorem g_top {x y : Int32} (h : x = y) (k : W p l e R s m args below meth c H locs cells slots Q (F0 m pc ls (.int y :: rest))) : W p l e R s m args below meth c H locs cells slots Q (F0 m pc ls (.int x :: rest)) := h ▸ k
end GR
