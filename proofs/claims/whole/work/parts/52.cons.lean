/-! constructors: the cells of some roles, at the start -/
def rws (b N : Nat) : List Nat := (List.range N).map (fun i => b + i)
def gWl (Ls : List Nat) (cy : Nat → ClassId) (q : Nat → Nat) (G : GS) : va_W := Ls.map (fun a => (q a, gE cy q G a))
def i0 (a k : Nat) : Int32 :=
  if a = 2 then (if k = 1 then 1 else 0)
  else if a = 9 then (if k = 0 then 1 else 0)
  else if a = 13 then (if k < 40 then -1 else 0)
  else if a = 5 then (if k = 9 then 6 else if k = 12 then -1 else if k = 13 then -1 else if k = 14 then -1 else 0)
  else if a = 7 then (if k = 1 then 1 else if k = 18 then 6 else 0)
  else if a = 20 then (if k = 0 then -1 else 0)
  else 0
/-- what class, reference and law hold when all are made -/
def G0 : GS := (i0, fun _ _ => 0)
theorem i0_0 {a : Nat} (h : 21 ≤ a) : i0 a = fun _ => 0 := funext fun k => by
  unfold i0
  rw [if_neg (by omega), if_neg (by omega), if_neg (by omega), if_neg (by omega), if_neg (by omega), if_neg (by omega)]
theorem gWl_cons {a : Nat} {Ls : List Nat} {cy : Nat → ClassId} {q : Nat → Nat} {G : GS} : gWl (a :: Ls) cy q G = (q a, gE cy q G a) :: gWl Ls cy q G := rfl
theorem gWl_nil {cy : Nat → ClassId} {q : Nat → Nat} {G : GS} : gWl [] cy q G = [] := rfl
theorem gWl_app {A B : List Nat} {cy : Nat → ClassId} {q : Nat → Nat} {G : GS} : gWl (A ++ B) cy q G = gWl A cy q G ++ gWl B cy q G := List.map_append
/-- the rows of a grid -/
theorem gWl_rows {b N K : Nat} {cy : Nat → ClassId} {q r : Nat → Nat} (hb : 48 ≤ b ∧ b + N ≤ 301) (hK : ∀ i, i < N → gLen (b + i) = K) (hq : ∀ i, i < N → q (b + i) = r i) : gWl (rws b N) cy q G0 = (List.range N).map (fun i => (r i, (.inl (cy 0, K, .inl (fun _ => 0)) : va_E))) := by
  unfold gWl rws
  rw [List.map_map]
  refine List.map_congr_left (fun i hi => ?_)
  have h := List.mem_range.mp hi
  show (q (b + i), gE cy q G0 (b + i)) = _
  rw [gE_i (Or.inl ⟨by omega, by omega⟩), hq i h, hK i h]
  show (r i, (Sum.inl (cy 0, K, Sum.inl (i0 (b + i))) : va_E)) = _
  rw [i0_0 (by omega)]
/-- which roles a cell points to -/
def rfs (a : Nat) : List Nat := match a with
  | 0 => [1, 2, 3, 4, 5, 6]
  | 1 => [8]
  | 2 => [9]
  | 3 => [41, 10, 11, 12, 38]
  | 4 => [42, 13, 36, 43, 44]
  | 5 => [45, 14, 15, 16, 17, 46, 47]
  | 6 => [18, 39, 19]
  | 7 => [20, 21, 22, 23, 24, 25, 26, 27, 28, 29, 30, 37, 31, 32, 33, 34, 35]
  | 41 => rws 48 40
  | 42 => rws 88 40
  | 43 => rws 128 40
  | 44 => rws 288 13
  | 45 => rws 168 40
  | 46 => rws 208 40
  | 47 => rws 248 40
  | _ => []
theorem rws_in {b N i : Nat} (h : i < N) : b + i ∈ rws b N := List.mem_map.mpr ⟨i, List.mem_range.mpr h, rfl⟩
theorem gE_cong {cy : Nat → ClassId} {q q' : Nat → Nat} {G : GS} {a : Nat} (h : ∀ b ∈ rfs a, q b = q' b) : gE cy q G a = gE cy q' G a := by
  have grid : ∀ b N, gBase a = b → gLen a = N → rfs a = rws b N → 41 ≤ a → a < 48 → gE cy q G a = gE cy q' G a := fun b N h1 h2 h3 h4 h5 => by
    rw [gE_g h4 h5, gE_g h4 h5, h1, h2]
    have e : (fun i => if i < N then some (q (b + i)) else none) = (fun i => if i < N then some (q' (b + i)) else none) := funext fun i => by
      by_cases hi : i < N
      · rw [if_pos hi, if_pos hi, h (b + i) (by rw [h3]; exact rws_in hi)]
      · rw [if_neg hi, if_neg hi]
    rw [e]
  by_cases h8 : a < 8
  · rw [gE_o h8, gE_o h8]
    rcases (show a = 0 ∨ a = 1 ∨ a = 2 ∨ a = 3 ∨ a = 4 ∨ a = 5 ∨ a = 6 ∨ a = 7 by omega) with rfl | rfl | rfl | rfl | rfl | rfl | rfl | rfl
    all_goals
      simp only [rfs, List.mem_cons, List.not_mem_nil, or_false, forall_eq_or_imp, forall_eq] at h
      simp only [gO, h]
  · by_cases h41 : 41 ≤ a ∧ a < 48
    · rcases (show a = 41 ∨ a = 42 ∨ a = 43 ∨ a = 44 ∨ a = 45 ∨ a = 46 ∨ a = 47 by omega) with rfl | rfl | rfl | rfl | rfl | rfl | rfl
      · exact grid 48 40 rfl rfl rfl h41.1 h41.2
      · exact grid 88 40 rfl rfl rfl h41.1 h41.2
      · exact grid 128 40 rfl rfl rfl h41.1 h41.2
      · exact grid 288 13 rfl rfl rfl h41.1 h41.2
      · exact grid 168 40 rfl rfl rfl h41.1 h41.2
      · exact grid 208 40 rfl rfl rfl h41.1 h41.2
      · exact grid 248 40 rfl rfl rfl h41.1 h41.2
    · unfold gE
      by_cases h48 : 48 ≤ a
      · rw [if_pos h48, if_pos h48]
      · have h40 : ¬ 41 ≤ a := by omega
        rw [if_neg h48, if_neg h48, if_neg h40, if_neg h40]
        by_cases h38 : 38 ≤ a
        · rw [if_pos h38, if_pos h38]
        · rw [if_neg h38, if_neg h38]
          by_cases h36 : 36 ≤ a
          · rw [if_pos h36, if_pos h36]
          · have h80 : 8 ≤ a := by omega
            rw [if_neg h36, if_neg h36, if_pos h80, if_pos h80]
theorem gWl_cong {Ls : List Nat} {cy : Nat → ClassId} {q q' : Nat → Nat} {G : GS} (hc : ∀ a ∈ Ls, ∀ b ∈ rfs a, b ∈ Ls) (h : ∀ a ∈ Ls, q a = q' a) : gWl Ls cy q G = gWl Ls cy q' G := List.map_congr_left (fun a ha => by rw [h a ha, gE_cong (fun b hb => h b (hc a ha b hb))])
def glue (L : List Nat) (q q' : Nat → Nat) : Nat → Nat := fun a => if a ∈ L then q a else q' a
theorem gWl_glue {L M : List Nat} {cy : Nat → ClassId} {q q' : Nat → Nat} {G : GS} (hL : ∀ a ∈ L, ∀ b ∈ rfs a, b ∈ L) (hM : ∀ a ∈ M, ∀ b ∈ rfs a, b ∈ M) (hd : ∀ a ∈ M, a ∉ L) : gWl L cy q G ++ gWl M cy q' G = gWl (L ++ M) cy (glue L q q') G := by
  rw [gWl_app, gWl_cong (q := glue L q q') (q' := q) hL (fun a ha => if_pos ha), gWl_cong (q := glue L q q') (q' := q') hM (fun a ha => if_neg (hd a ha))]
/-- worlds in another order -/
theorem P_mem {D : va_G} {cl : List vw_C} {ws : va_W} {H : Heap} : va_P D cl ws H ↔ ∀ x ∈ ws, va_at D cl x H := ⟨fun h x hx => by
  obtain ⟨k, hk⟩ := List.getElem?_of_mem hx
  exact h k x hk, fun h k x hk => h x (List.mem_of_getElem? hk)⟩
theorem P_perm {D : va_G} {cl : List vw_C} {ws ws' : va_W} {H : Heap} (h : va_P D cl ws H) (hp : ws.Perm ws') : va_P D cl ws' H := P_mem.mpr (fun x hx => P_mem.mp h x (hp.mem_iff.mpr hx))
theorem D_nodup {A : Nat → Prop} {ws : va_W} : va_D A ws ↔ (ws.map Prod.fst).Nodup ∧ ∀ x ∈ ws, A x.1 := by
  constructor
  · rintro ⟨h1, h2⟩
    refine ⟨?_, fun x hx => ?_⟩
    · refine List.pairwise_iff_getElem.mpr (fun i j hi hj hij => ?_)
      rw [List.length_map] at hi hj
      rw [List.getElem_map, List.getElem_map]
      intro e
      exact absurd (h1 i j _ _ (List.getElem?_eq_getElem hi) (List.getElem?_eq_getElem hj) e) (by omega)
    · obtain ⟨k, hk⟩ := List.getElem?_of_mem hx
      exact h2 k x hk
  · rintro ⟨h1, h2⟩
    refine ⟨fun i j p q hi hj e => ?_, fun k x hk => h2 x (List.mem_of_getElem? hk)⟩
    have key : ∀ i j (p q : Nat × va_E), ws[i]? = some p → ws[j]? = some q → p.1 = q.1 → ¬ i < j := fun i j p q hi hj e hlt => by
      obtain ⟨a1, a2⟩ := List.getElem?_eq_some_iff.mp hi
      obtain ⟨b1, b2⟩ := List.getElem?_eq_some_iff.mp hj
      have h := List.pairwise_iff_getElem.mp h1 i j (by rw [List.length_map]; exact a1) (by rw [List.length_map]; exact b1) hlt
      rw [List.getElem_map, List.getElem_map, a2, b2] at h
      exact h e
    have k1 := key i j p q hi hj e
    have k2 := key j i q p hj hi e.symm
    omega
theorem D_perm {A : Nat → Prop} {ws ws' : va_W} (h : va_D A ws) (hp : ws.Perm ws') : va_D A ws' := by
  obtain ⟨h1, h2⟩ := D_nodup.mp h
  exact D_nodup.mpr ⟨(hp.map Prod.fst).nodup_iff.mp h1, fun x hx => h2 x (hp.mem_iff.mpr hx)⟩
/-- the world as it stands in a constructor -/
def nH (D : va_G) (A : Nat → Prop) (H0 : Heap) (ws : va_W) (H : Heap) (locs : List Loc) : Prop := va_P D vwCl ws H ∧ va_D A ws ∧ va_S A H0 H locs
theorem n_join {D : va_G} {A : Nat → Prop} {W0 w1 : va_W} {x : Nat × va_E} {H H1 : Heap} (hP : va_P D vwCl (W0 ++ [x]) H) (hD : va_D A (W0 ++ [x])) (hk : ∀ q : Nat, q < H.size → ¬ va_A [x] H.size q → H1[q]? = H[q]?) (hF : ∀ q, va_A [x] H.size q → A q) (hP1 : va_P D vwCl w1 H1) (hD1 : va_D (va_A [x] H.size) w1) : va_P D vwCl (W0 ++ w1) H1 ∧ va_D A (W0 ++ w1) := by
  have hl : ∀ (k : Nat) (z : Nat × va_E), W0[k]? = some z → k < W0.length ∧ (W0 ++ [x])[k]? = some z := fun k z hz => by
    have h1 := (List.getElem?_eq_some_iff.mp hz).1
    exact ⟨h1, by rw [List.getElem?_append_left h1]; exact hz⟩
  have hx : (W0 ++ [x])[W0.length]? = some x := by rw [List.getElem?_append_right (Nat.le_refl _), Nat.sub_self]; rfl
  have apart : ∀ (k : Nat) (z : Nat × va_E), W0[k]? = some z → z.1 < H.size ∧ ¬ va_A [x] H.size z.1 := fun k z hz => by
    obtain ⟨h1, h2⟩ := hl k z hz
    have h3 := (hP k z h2).lt
    refine ⟨h3, fun h => ?_⟩
    rcases h with ⟨k2, e, h4⟩ | h4
    · have h5 : (z.1, e) = x := List.mem_singleton.mp (List.mem_of_getElem? h4)
      have h6 := hD.1 k W0.length z x h2 hx (by rw [← h5])
      omega
    · omega
  refine ⟨va_P.app (fun k z hz => ?_) hP1, va_D.app ⟨fun i j y z hy hz e => hD.1 i j y z (hl i y hy).2 (hl j z hz).2 e, fun k z hz => hD.2 k z (hl k z hz).2⟩ (hD1.weaken (fun k z _ h => hF z.1 h)) (fun i j y z hy hz e => ?_)⟩
  · obtain ⟨g1, g2⟩ := apart k z hz
    exact (hP k z (hl k z hz).2).kept (hk z.1 g1 g2)
  · exact (apart i y hy).2 (by rw [e]; exact hD1.2 j z hz)
theorem aoa_warm {s U : State} (hW : s.WarmedH U.vm) (h : va_AOA .int s) : va_AOA .int U := by
  have h1 : (Cond.arrayOver (.array .int)).before #[] (s.setVm U.vm) = true := by rw [Cond.arrayOver_setVmC hW.alike]; exact h
  exact h1
/-- a constructor's start and its end -/
def cPre (D : va_G) (cy : Nat → ClassId) (x : Nat × va_E) (E : State → Prop) (sz : Nat) : State → Prop := fun U => U.heap.size = sz ∧ va_P D vwCl [x] U.heap ∧ va_K D vwCl (gTy cy) U ∧ va_D (fun _ => True) [x] ∧ E U
def cPo (D : va_G) (cy : Nat → ClassId) (a h0 : Nat) (Ls : List Nat) (A : Nat → Prop) : (Nat → Nat) → State → Prop := fun q t => q a = h0 ∧ va_P D vwCl (gWl Ls cy q G0) t.heap ∧ va_K D vwCl (gTy cy) t ∧ va_D A (gWl Ls cy q G0)
/-- what is kept while the tables warm up -/
def eOk (E : State → Prop) : Prop := ∀ s U : State, s.WarmedH U.vm → E s → E U
def cMet (l : Launch) (y : MethodName) (ws : List Cond) (rm : Room) (D : va_G) (cy : Nat → ClassId) (E : State → Prop) (a h0 ci : Nat) (fs : List Value) (Ls : List Nat) (mc ms : Nat) : Prop := ∀ sz : Nat, Met l y ws rm (va_Pc [.ref h0] (cPre D cy (h0, .inr (ci, fs)) E sz)) (va_Qv (fun _ : Nat → Nat => True) (cPo D cy a h0 Ls (va_A [(h0, .inr (ci, fs))] sz)) (va_A [(h0, .inr (ci, fs))] sz)) mc ms (va_A [(h0, .inr (ci, fs))] sz)
theorem cPre_blind {D : va_G} {cy : Nat → ClassId} {x : Nat × va_E} {E : State → Prop} {sz : Nat} {As : List Value} (hE : eOk E) : FrameBlind (va_Pc As (cPre D cy x E sz)) := fun a U g mk h => by
  obtain ⟨q0, q1, qP, qK, qD, qE⟩ := h
  exact ⟨q0, q1, qP, va_K.moved (u := U) (U := U.calling g mk a) (Vm.Alike.refl U.vm) qK, qD, hE U (U.calling g mk a) (State.WarmedH.refl U) qE⟩
section NR
variable {p : Program} {l : Launch} {e : Env} {R : Room} {s : State} {m : MethodId} {args : Array Value} {below : List Frame} {meth : Method} {c : Code} {H : Heap} {locs : List Loc} {cells slots : Nat} {Q : State → Prop}
variable {cc : ByteArray} {pc : Nat} {ls : Array Slot} {rest : List Value} {D : va_G} {cy : Nat → ClassId} {A : Nat → Prop} {H0 : Heap} {Ts : List Cond} {own : String} {nL : Nat} {ws : va_W}
theorem n_obj {k a : Nat} (X : gC p s m args c cc nL Ts own D cy) (h1 : Cond.methodLink own k objectInit ∈ Ts) (h2 : Cond.instanceMethod objectInit ∈ Ts) (h3 : Cond.code objectInit ⟨#[0xb1]⟩ 1 none ∈ Ts) (hsize : ls.size = nL) (hdg : decode cc pc = .ok (.invokespecial k, 3)) (hf : 1 ≤ R.frames) (hlo : 12 ≤ R.locals) (kk : W p l e R s m args below meth c H locs cells slots Q (F0 m (pc + 3) ls [])) : W p l e R s m args below meth c H locs cells slots Q (F0 m pc ls [.ref a]) := by
  obtain ⟨⟨hx, hb, hml, hown, hts⟩, hK⟩ := X
  refine W.objInit hx hb hown (hts _ h1) (hts _ h2) (hts _ h3) rfl (hsize.trans hml.symm) rfl hdg hf (by show 2 * 0 + 0 + 12 ≤ R.locals; omega) ?_
  exact W.eq (g2 := F0 m (pc + 3) ls []) rfl kk
theorem n_newi {n : Int32} {h0 ci N : Nat} {fs : List Value} {Rs : va_W} (X : gC p s m args c cc nL Ts own D cy) (hw : nH D A H0 ((h0, .inr (ci, fs)) :: Rs) H locs) (hA : ∀ q, H0.size ≤ q → A q) (harr : Cond.arrayClass .int ∈ Ts) (hn : ¬ n < 0) (hN : n.toNatClampNeg = N) (hbn : N * 4 ≤ 536870912) (hc : cells + 1 ≤ R.cells) (hs : slots + N ≤ R.slots) (hdg : decode cc pc = .ok (.newarray .int, 2))
    (kk : ∀ (q : Nat) (H1 : Heap), nH D A H0 ((h0, .inr (ci, fs)) :: (Rs ++ [(q, .inl (cy 0, N, .inl (fun _ => 0)))])) H1 locs → W p l e R s m args below meth c H1 locs (cells + 1) (slots + N) Q (F0 m (pc + 2) ls (.ref q :: rest))) : W p l e R s m args below meth c H locs cells slots Q (F0 m pc ls (.int n :: rest)) := by
  obtain ⟨⟨hx, hb, hml, hown, hts⟩, hK⟩ := X
  refine va_newa (atype := .int) hx hb (hts _ harr) (ty := .int) rfl hK hw.1 hw.2.1 hw.2.2 hA (a0 := (N, .inl (fun _ => 0))) (fun cA => rfl) hn hN hbn hc hs hdg (fun q cA H1 hK1 hP hD hS => ?_)
  have e : cA = cy 0 := Option.some.inj ((hK1.2 4 (cA, .int) rfl).2.symm.trans (hK.2 0 (cy 0, .int) rfl).2)
  subst e
  exact kk q H1 ⟨hP, hD, hS⟩
theorem n_newz {n : Int32} {h0 ci N : Nat} {fs : List Value} {Rs : va_W} (X : gC p s m args c cc nL Ts own D cy) (hw : nH D A H0 ((h0, .inr (ci, fs)) :: Rs) H locs) (hA : ∀ q, H0.size ≤ q → A q) (harr : Cond.arrayClass .boolean ∈ Ts) (hn : ¬ n < 0) (hN : n.toNatClampNeg = N) (hbn : N * 1 ≤ 536870912) (hc : cells + 1 ≤ R.cells) (hs : slots + N ≤ R.slots) (hdg : decode cc pc = .ok (.newarray .boolean, 2))
    (kk : ∀ (q : Nat) (H1 : Heap), nH D A H0 ((h0, .inr (ci, fs)) :: (Rs ++ [(q, .inl (cy 1, N, .inl (fun _ => 0)))])) H1 locs → W p l e R s m args below meth c H1 locs (cells + 1) (slots + N) Q (F0 m (pc + 2) ls (.ref q :: rest))) : W p l e R s m args below meth c H locs cells slots Q (F0 m pc ls (.int n :: rest)) := by
  obtain ⟨⟨hx, hb, hml, hown, hts⟩, hK⟩ := X
  refine va_newa (atype := .boolean) hx hb (hts _ harr) (ty := .boolean) rfl hK hw.1 hw.2.1 hw.2.2 hA (a0 := (N, .inl (fun _ => 0))) (fun cA => rfl) hn hN hbn hc hs hdg (fun q cA H1 hK1 hP hD hS => ?_)
  have e : cA = cy 1 := Option.some.inj ((hK1.2 4 (cA, .boolean) rfl).2.symm.trans (hK.2 1 (cy 1, .boolean) rfl).2)
  subst e
  exact kk q H1 ⟨hP, hD, hS⟩
theorem n_newl {n : Int32} {N : Nat} (X : gC p s m args c cc nL Ts own D cy) (hw : nH D A H0 ws H locs) (hA : ∀ q, H0.size ≤ q → A q) (harr : Cond.arrayClass .long ∈ Ts) (hn : ¬ n < 0) (hN : n.toNatClampNeg = N) (hbn : N * 8 ≤ 536870912) (hc : cells + 1 ≤ R.cells) (hs : slots + N ≤ R.slots) (hdg : decode cc pc = .ok (.newarray .long, 2))
    (kk : ∀ (q : Nat) (H1 : Heap), nH D A H0 (ws ++ [(q, .inl (cy 2, N, .inr (.inl (fun _ => 0))))]) H1 locs → W p l e R s m args below meth c H1 locs (cells + 1) (slots + N) Q (F0 m (pc + 2) ls (.ref q :: rest))) : W p l e R s m args below meth c H locs cells slots Q (F0 m pc ls (.int n :: rest)) := by
  obtain ⟨⟨hx, hb, hml, hown, hts⟩, hK⟩ := X
  refine va_newa (atype := .long) hx hb (hts _ harr) (ty := .long) rfl hK hw.1 hw.2.1 hw.2.2 hA (a0 := (N, .inr (.inl (fun _ => 0)))) (fun cA => rfl) hn hN hbn hc hs hdg (fun q cA H1 hK1 hP hD hS => ?_)
  have e : cA = cy 2 := Option.some.inj ((hK1.2 4 (cA, .long) rfl).2.symm.trans (hK.2 2 (cy 2, .long) rfl).2)
  subst e
  exact kk q H1 ⟨hP, hD, hS⟩
theorem n_mna {n k : Int32} {h0 ci N K index : Nat} {fs : List Value} {Rs : va_W} (X : gC p s m args c cc nL Ts own D cy) (hw : nH D A H0 ((h0, .inr (ci, fs)) :: Rs) H locs) (hA : ∀ q, H0.size ≤ q → A q) (hcl : Cond.classLink own index "[[I" ∈ Ts) (harr : Cond.arrayClass .int ∈ Ts) (ho : va_AOA .int s) (hn : ¬ n < 0) (hk : ¬ k < 0) (hN : n.toNatClampNeg = N) (hM : k.toNatClampNeg = K) (b1 : N * 4 ≤ 536870912) (b2 : K * 4 ≤ 536870912) (b3 : K ≤ 536870912) (hc : cells + (1 + N) ≤ R.cells) (hs : slots + (N + N * K) ≤ R.slots) (hdg : decode cc pc = .ok (.multianewarray index 2, 4))
    (kk : ∀ (q : Nat) (r : Nat → Nat) (H1 : Heap), nH D A H0 ((h0, .inr (ci, fs)) :: (Rs ++ ((q, .inl (cy 3, N, .inr (.inr (.inr (.inr (fun i => if i < N then some (r i) else none)))))) :: (List.range N).map (fun i => (r i, (.inl (cy 0, K, .inl (fun _ => 0)) : va_E)))))) H1 locs → W p l e R s m args below meth c H1 locs (cells + 1 + N) (slots + N + N * K) Q (F0 m (pc + 4) ls (.ref q :: rest))) : W p l e R s m args below meth c H locs cells slots Q (F0 m pc ls (.int k :: .int n :: rest)) := by
  obtain ⟨⟨hx, hb, hml, hown, hts⟩, hK⟩ := X
  have hP0 : va_P D vwCl (((h0, .inr (ci, fs)) :: Rs) ++ va_pl [] (fun _ => .inl (cy 0, 0, .inl (fun _ => 0)))) H := by rw [show va_pl [] (fun _ => (.inl (cy 0, 0, .inl (fun _ => 0)) : va_E)) = [] from rfl, List.append_nil]; exact hw.1
  have hD0 : va_D A (((h0, .inr (ci, fs)) :: Rs) ++ va_pl [] (fun _ => .inl (cy 0, 0, .inl (fun _ => 0)))) := by rw [show va_pl [] (fun _ => (.inl (cy 0, 0, .inl (fun _ => 0)) : va_E)) = [] from rfl, List.append_nil]; exact hw.2.1
  refine va_mna (ty := .int) (cy := cy 0) (z := (K, .inl (fun _ => 0))) hx hb hown (hts _ hcl) ho (hts _ harr) (hK.2 0 (cy 0, .int) rfl).2 hK hP0 hD0 hw.2.2 hA hn hk hN hM b1 b2 b3 rfl rfl hc hs (fun c => arrV_new c K (.int 0)) hdg (fun q r cA H1 _ _ hK1 hP hD hS => ?_)
  have e : cA = cy 3 := Option.some.inj ((hK1.2 4 (cA, .array .int) rfl).2.symm.trans (hK.2 3 (cy 3, .array .int) rfl).2)
  subst e
  have hrow : va_pl ([] ++ (List.range N).map r) (vr_up (fun _ => (.inl (cy 0, 0, .inl (fun _ => 0)) : va_E)) ((List.range N).map r) (.inl (cy 0, (K, .inl (fun _ => 0))))) = (List.range N).map (fun i => (r i, (.inl (cy 0, K, .inl (fun _ => 0)) : va_E))) := by
    rw [← vr_rows (L := []) (fun a _ h => nomatch h)]
    show [] ++ ((List.range N).map r).map _ = _
    rw [List.nil_append, List.map_map]
    rfl
  rw [hrow, List.append_assoc] at hP hD
  exact kk q r H1 ⟨hP, hD, hS⟩
theorem n_putF (k : Nat) {h0 ci index N : Nat} {C : String} {T : u_T} {fs fs' : List Value} {Rs : va_W} {ty0 : Nat → FieldType} {ty : FieldType} {v : Value} (X : gC p s m args c cc nL Ts own D cy) (hw : nH D A H0 ((h0, .inr (ci, fs)) :: Rs) H locs) (hin : ∀ w ∈ u_ws C T N, w ∈ Ts) (hty : ∀ k, k < N → parseFieldDescriptor (T k).2.2.1 = some (ty0 k)) (hnm : ∀ a, a < N → ∀ b, b < N → a ≠ b → (T a).2.1 ≠ (T b).2.1) (hc : vwCl[ci]? = some (C, T, N)) (hk : k < N) (hl : Cond.fieldLink own index (T k).1 (T k).2.1 (T k).2.2.1 ∈ Ts) (hfin : (T k).2.2.2 = true) (hini : meth.name = "<init>") (hdecl : (T k).1 = own) (hd : parseFieldDescriptor (T k).2.2.1 = some ty) (hn : narrow ty v = v) (hfit : fits ty v = true) (hlen : k < fs.length) (hset : fs.set k v = fs') (hdg : decode cc pc = .ok (.putfield index, 3))
    (kk : ∀ (H1 : Heap) (locs1 : List Loc), nH D A H0 ((h0, .inr (ci, fs')) :: Rs) H1 locs1 → W p l e R s m args below meth c H1 locs1 cells slots Q (F0 m (pc + 3) ls rest)) : W p l e R s m args below meth c H locs cells slots Q (F0 m pc ls (v :: .ref h0 :: rest)) := by
  obtain ⟨⟨hx, hb, hml, hown, hts⟩, hK⟩ := X
  subst hset
  exact va_putF hx hb hts hin ty0 hty hnm hown hK hw.1 hw.2.1 hw.2.2 0 rfl hc k hk (hts _ hl) (fun _ h => h) hfin hini hdecl hd hn hfit hlen hdg (fun H1 locs1 hP hD hS => kk H1 locs1 ⟨hP, hD, hS⟩)
theorem n_put (k : Nat) {h0 ci index N : Nat} {C : String} {T : u_T} {fs fs' : List Value} {Rs : va_W} {ty0 : Nat → FieldType} {ty : FieldType} {v : Value} (X : gC p s m args c cc nL Ts own D cy) (hw : nH D A H0 ((h0, .inr (ci, fs)) :: Rs) H locs) (hin : ∀ w ∈ u_ws C T N, w ∈ Ts) (hty : ∀ k, k < N → parseFieldDescriptor (T k).2.2.1 = some (ty0 k)) (hnm : ∀ a, a < N → ∀ b, b < N → a ≠ b → (T a).2.1 ≠ (T b).2.1) (hc : vwCl[ci]? = some (C, T, N)) (hk : k < N) (hl : Cond.fieldLink own index (T k).1 (T k).2.1 (T k).2.2.1 ∈ Ts) (hfin : (T k).2.2.2 = false) (hd : parseFieldDescriptor (T k).2.2.1 = some ty) (hn : narrow ty v = v) (hfit : fits ty v = true) (hlen : k < fs.length) (hset : fs.set k v = fs') (hdg : decode cc pc = .ok (.putfield index, 3))
    (kk : ∀ (H1 : Heap) (locs1 : List Loc), nH D A H0 ((h0, .inr (ci, fs')) :: Rs) H1 locs1 → W p l e R s m args below meth c H1 locs1 cells slots Q (F0 m (pc + 3) ls rest)) : W p l e R s m args below meth c H locs cells slots Q (F0 m pc ls (v :: .ref h0 :: rest)) := by
  obtain ⟨⟨hx, hb, hml, hown, hts⟩, hK⟩ := X
  subst hset
  exact va_put hx hb hts hin ty0 hty hnm hown hK hw.1 hw.2.1 hw.2.2 0 rfl hc k hk (hts _ hl) (fun _ h => h) hfin hd hn hfit hlen hdg (fun H1 locs1 hP hD hS => kk H1 locs1 ⟨hP, hD, hS⟩)
theorem n_get (k : Nat) {h0 ci index N : Nat} {C : String} {T : u_T} {fs : List Value} {Rs : va_W} {v : Value} (X : gC p s m args c cc nL Ts own D cy) (hw : nH D A H0 ((h0, .inr (ci, fs)) :: Rs) H locs) (hin : ∀ w ∈ u_ws C T N, w ∈ Ts) (hc : vwCl[ci]? = some (C, T, N)) (hk : k < N) (hl : Cond.fieldLink own index (T k).1 (T k).2.1 (T k).2.2.1 ∈ Ts) (hv : fs[k]? = some v) (hdg : decode cc pc = .ok (.getfield index, 3))
    (kk : W p l e R s m args below meth c H locs cells slots Q (F0 m (pc + 3) ls (v :: rest))) : W p l e R s m args below meth c H locs cells slots Q (F0 m pc ls (.ref h0 :: rest)) := by
  obtain ⟨⟨hx, hb, hml, hown, hts⟩, hK⟩ := X
  exact va_get hx hb hts hin hown hK hw.1 0 rfl hc k hk (hts _ hl) (fun _ h => h) hv hdg kk
theorem n_iast (pos : Nat) {q n : Nat} {f : Nat → Int32} {ws' : va_W} {v : Int32} (X : gC p s m args c cc nL Ts own D cy) (hw : nH D A H0 ws H locs) (he : ws[pos]? = some (q, .inl (cy 0, n, .inl f))) (hn : 0 < n) (h31 : n < 2 ^ 31) (hset : ws.set pos (q, .inl (cy 0, n, .inl (upd f 0 v))) = ws') (hdg : decode cc pc = .ok (.iastore, 1))
    (kk : ∀ (H1 : Heap) (locs1 : List Loc), nH D A H0 ws' H1 locs1 → W p l e R s m args below meth c H1 locs1 cells slots Q (F0 m (pc + 1) ls rest)) : W p l e R s m args below meth c H locs cells slots Q (F0 m pc ls (.int v :: .int 0 :: .ref q :: rest)) := by
  obtain ⟨⟨hx, hb, hml, hown, hts⟩, hK⟩ := X
  subst hset
  refine va_iast hx hb hK hw.1 hw.2.1 hw.2.2 pos 0 he rfl (i := nI 0) (vp_in_nI hn h31) hdg (fun H1 locs1 hP hD hS => ?_)
  rw [nI_clamp (by omega)] at hP hD
  exact kk H1 locs1 ⟨hP, hD, hS⟩
theorem n_new {ci index N : Nat} {C : String} {T : u_T} {fs : List Value} {ty0 : Nat → FieldType} (X : gC p s m args c cc nL Ts own D cy) (hw : nH D A H0 ws H locs) (hA : ∀ q, H0.size ≤ q → A q) (hin : ∀ w ∈ u_ws C T N, w ∈ Ts) (hty : ∀ k, k < N → parseFieldDescriptor (T k).2.2.1 = some (ty0 k)) (h1 : Cond.classLink own index C ∈ Ts) (h2 : Cond.instantiable C N ∈ Ts) (h3 : Cond.initialized C ∈ Ts) (hc : vwCl[ci]? = some (C, T, N)) (hfs : ∀ j, j < N → defaultValue (ty0 j) = vp_V fs j) (hcc : cells + 1 ≤ R.cells) (hss : slots + N ≤ R.slots) (hdg : decode cc pc = .ok (.new index, 3))
    (kk : ∀ (q : Nat) (H1 : Heap), nH D A H0 (ws ++ [(q, .inr (ci, fs))]) H1 locs → W p l e R s m args below meth c H1 locs (cells + 1) (slots + N) Q (F0 m (pc + 3) ls (.ref q :: rest))) : W p l e R s m args below meth c H locs cells slots Q (F0 m pc ls rest) := by
  obtain ⟨⟨hx, hb, hml, hown, hts⟩, hK⟩ := X
  exact va_new hx hb hts hin ty0 hty hown (hts _ h1) (hts _ h2) (hts _ h3) hK hw.1 hw.2.1 hw.2.2 hA hc hfs hcc hss hdg (fun q H1 hP hD hS => kk q H1 ⟨hP, hD, hS⟩)
/-- a constructor's call: it may be a nest mate's -/
theorem n_init {y : MethodName} {bytes : ByteArray} {maxL mc ms index a h0 ci : Nat} {wsC : List Cond} {rm : Room} {fs : List Value} {Ls : List Nat} {E : State → Prop} {W0 : va_W} (X : gC p s m args c cc nL Ts own D cy) (hw : nH D A H0 (W0 ++ [(h0, .inr (ci, fs))]) H locs) (hA : ∀ q, H0.size ≤ q → A q) (hM : cMet l y wsC rm D cy E a h0 ci fs Ls mc ms) (hE : eOk E) (hE0 : E s) (cw : CallB R s args own index y bytes maxL none wsC rm mc ms 0 ∧ y.name = "<init>" ∧ (Cond.instanceMethod y).before args s = true) (hsize : ls.size = nL) (hW : (rest.map fun v => v.category).sum ≤ 8) (hdg : decode cc pc = .ok (.invokespecial index, 3)) (hf : cells + mc ≤ R.cells ∧ slots + ms ≤ R.slots)
    (kk : ∀ (q : Nat → Nat) (H1 : Heap) (locs1 : List Loc), q a = h0 → nH D A H0 (W0 ++ gWl Ls cy q G0) H1 locs1 → W p l e R s m args below meth c H1 locs1 (cells + mc) (slots + ms) Q (F0 m (pc + 3) ls rest)) : W p l e R s m args below meth c H locs cells slots Q (F0 m pc ls (.ref h0 :: rest)) := by
  have hx9 : (W0 ++ [((h0, .inr (ci, fs)) : Nat × va_E)])[W0.length]? = some (h0, .inr (ci, fs)) := by rw [List.getElem?_append_right (Nat.le_refl _), Nat.sub_self]; rfl
  have hF : ∀ q, va_A [((h0, .inr (ci, fs)) : Nat × va_E)] H.size q → A q := fun q h => by
    rcases h with ⟨k, e, h⟩ | h
    · have h5 : (q, e) = (h0, .inr (ci, fs)) := List.mem_singleton.mp (List.mem_of_getElem? h)
      cases h5
      exact hw.2.1.2 _ _ hx9
    · exact hA q (Nat.le_trans hw.2.2.1 h)
  refine va_callv (va_runI (As := []) (rest := rest) X.1 (hM H.size) cw ⟨cPre_blind hE, fun U hU hWm => ⟨rfl, by rw [hU], fun k x hk => ?_, va_K.moved hWm.alike X.2, ⟨fun i j x z hi hj _ => ?_, fun _ _ _ => trivial⟩, hE s U hWm hE0⟩⟩ rfl rfl hsize rfl (lv_room hW) hdg hf) hw.2.2 (fun x _ h => hF x h) hF (fun q t H1 locs1 ht hvm hp hB hz hk hS => ?_)
  · have h5 : x = (h0, .inr (ci, fs)) := List.mem_singleton.mp (List.mem_of_getElem? hk)
    subst h5
    rw [hU]
    exact hw.1 _ _ hx9
  · have h1 : i < 1 := (List.getElem?_eq_some_iff.mp hi).1
    have h2 : j < 1 := (List.getElem?_eq_some_iff.mp hj).1
    omega
  · obtain ⟨hq, hP1, hK1, hD1⟩ := hB
    rw [ht] at hP1
    obtain ⟨g1, g2⟩ := n_join hw.1 hw.2.1 hk hF hP1 hD1
    exact kk q H1 locs1 hq ⟨g1, g2, hS⟩
theorem n_initN {y : MethodName} {host : String} {bytes : ByteArray} {maxL mc ms index a h0 ci : Nat} {wsC : List Cond} {rm : Room} {fs : List Value} {Ls : List Nat} {E : State → Prop} {W0 : va_W} (X : gC p s m args c cc nL Ts own D cy) (hw : nH D A H0 (W0 ++ [(h0, .inr (ci, fs))]) H locs) (hA : ∀ q, H0.size ≤ q → A q) (hM : cMet l y wsC rm D cy E a h0 ci fs Ls mc ms) (hE : eOk E) (hE0 : E s) (cw : va_CN R s args own index y host bytes maxL none wsC rm mc ms 0 ∧ y.name = "<init>" ∧ (Cond.instanceMethod y).before args s = true) (hsize : ls.size = nL) (hW : (rest.map fun v => v.category).sum ≤ 8) (hdg : decode cc pc = .ok (.invokespecial index, 3)) (hf : cells + mc ≤ R.cells ∧ slots + ms ≤ R.slots)
    (kk : ∀ (q : Nat → Nat) (H1 : Heap) (locs1 : List Loc), q a = h0 → nH D A H0 (W0 ++ gWl Ls cy q G0) H1 locs1 → W p l e R s m args below meth c H1 locs1 (cells + mc) (slots + ms) Q (F0 m (pc + 3) ls rest)) : W p l e R s m args below meth c H locs cells slots Q (F0 m pc ls (.ref h0 :: rest)) := by
  have hx9 : (W0 ++ [((h0, .inr (ci, fs)) : Nat × va_E)])[W0.length]? = some (h0, .inr (ci, fs)) := by rw [List.getElem?_append_right (Nat.le_refl _), Nat.sub_self]; rfl
  have hF : ∀ q, va_A [((h0, .inr (ci, fs)) : Nat × va_E)] H.size q → A q := fun q h => by
    rcases h with ⟨k, e, h⟩ | h
    · have h5 : (q, e) = (h0, .inr (ci, fs)) := List.mem_singleton.mp (List.mem_of_getElem? h)
      cases h5
      exact hw.2.1.2 _ _ hx9
    · exact hA q (Nat.le_trans hw.2.2.1 h)
  refine va_callv (va_runIN (As := []) (rest := rest) X.1 (hM H.size) cw ⟨cPre_blind hE, fun U hU hWm => ⟨rfl, by rw [hU], fun k x hk => ?_, va_K.moved hWm.alike X.2, ⟨fun i j x z hi hj _ => ?_, fun _ _ _ => trivial⟩, hE s U hWm hE0⟩⟩ rfl rfl hsize rfl (lv_room hW) hdg hf) hw.2.2 (fun x _ h => hF x h) hF (fun q t H1 locs1 ht hvm hp hB hz hk hS => ?_)
  · have h5 : x = (h0, .inr (ci, fs)) := List.mem_singleton.mp (List.mem_of_getElem? hk)
    subst h5
    rw [hU]
    exact hw.1 _ _ hx9
  · have h1 : i < 1 := (List.getElem?_eq_some_iff.mp hi).1
    have h2 : j < 1 := (List.getElem?_eq_some_iff.mp hj).1
    omega
  · obtain ⟨hq, hP1, hK1, hD1⟩ := hB
    rw [ht] at hP1
    obtain ⟨g1, g2⟩ := n_join hw.1 hw.2.1 hk hF hP1 hD1
    exact kk q H1 locs1 hq ⟨g1, g2, hS⟩
/-- a constructor's entry, its end -/
theorem n_start {y : MethodName} {rm : Room} {maxL : Nat} {s₁ : State} {sz h0 : Nat} {e0 : va_E} {E : State → Prop} (B : BodyLoose p l y (headSpec Ts rm) cc maxL none e s m args below meth c s₁) (hy : y.name = "<init>") (hml : c.maxLocals = maxL) (hv : va_Pc [.ref h0] (cPre D cy (h0, e0) E sz) args s) : args = ([.ref h0] : List Value).toArray ∧ gC p s m args c cc maxL Ts y.cls D cy ∧ nH D (va_A [(h0, e0)] sz) s.heap [(h0, e0)] s.heap [] ∧ (∀ x, s.heap.size ≤ x → va_A [(h0, e0)] sz x) ∧ meth.sig.returnType = none ∧ meth.locks = false ∧ meth.name = "<init>" ∧ E s := by
  obtain ⟨ha, hsz, hP, hK, hD, hE⟩ := hv
  exact ⟨ha, ⟨⟨B.exec, B.bytes, hml, findClass_of_methodNamed B.named, atoms_spec (ws := Ts) B.pre⟩, hK⟩, ⟨hP, hD.self, va_S.rf⟩, fun x h => Or.inr (by rw [← hsz]; exact h), B.returns, B.notSynchronized, (name_of_methodNamed B.named B.method).1.trans hy, hE⟩
theorem n_end {a h0 : Nat} {Ls : List Nat} {q : Nat → Nat} (X : gC p s m args c cc nL Ts own D cy) (hw : nH D A s.heap ws H locs) (hr : meth.sig.returnType = none) (hlk : meth.locks = false) (hq : q a = h0) (he : ws = gWl Ls cy q G0) (hdg : decode cc pc = .ok (.return_, 1)) : W p l e R s m args below meth c H locs cells slots (MQ below (va_Qv (fun _ : Nat → Nat => True) (cPo D cy a h0 Ls A) A) args s cells slots A) (F0 m pc ls []) := by
  obtain ⟨⟨hx, hb, hml, hown, hts⟩, hK⟩ := X
  subst he
  exact W.vret hx hb hr (fun t ht hW => ⟨⟨q, rfl, trivial, hq, by rw [ht]; exact hw.1, va_K.moved hW.alike hK, hw.2.1⟩, hw.2.2.F ht⟩) hw.2.2.2.2 hdg (hlocks := hlk)
end NR
