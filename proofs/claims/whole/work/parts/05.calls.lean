section GK
variable {p : Program} {l : Launch} {e : Env} {R : Room} {s : State} {m : MethodId} {args : Array Value} {below : List Frame} {meth : Method} {c : Code} {H : Heap} {locs : List Loc} {cells slots : Nat} {Q : State → Prop}
variable {cc : ByteArray} {pc : Nat} {ls : Array Slot} {rest : List Value} {D : va_G} {cy : Nat → ClassId} {q : Nat → Nat} {A : Nat → Prop} {H0 : Heap} {G : GS} {Ts : List Cond} {own : String} {nL : Nat}
variable {y : MethodName} {bytes : ByteArray} {maxL n index : Nat} {ret : Option FieldType} {ws : List Cond} {rm : Room} {C : String} {T : u_T} {N : Nat} {As st : List Value}
theorem g_call_pre (hK : va_K D vwCl (gTy cy) s) (hw : gH D cy q A H0 G H locs) (As : List Value) : ∀ U : State, U.heap = H → s.WarmedH U.vm → va_Pc As (gPre D cy q G H.size) As.toArray U := fun U hU hW => ⟨rfl, by rw [hU], by rw [hU]; exact hw.1, va_K.moved hW.alike hK, hw.2.1.weaken (fun _ _ _ _ => trivial)⟩
theorem g_callVi (a : Nat) {post : Int32 → GS → Prop} (X : gC p s m args c cc nL Ts own D cy) (hw : gH D cy q A H0 G H locs) (hA : ∀ x, H0.size ≤ x → A x) (hM : gMi l y ws rm D cy q (.ref (q a) :: As) G post) (ha : a < 8) (hc : vwCl[(gO q a (G.1 a)).1]? = some (C, T, N)) (cw : CallW R s args own C index y bytes maxL ret ws rm 0 0 n) (hn : As.length = n) (hsize : ls.size = nL) (hst : st = As.reverse ++ .ref (q a) :: rest) (hW : (rest.map fun v => v.category).sum ≤ 8) (hdg : decode cc pc = .ok (.invokevirtual index, 3)) (hf : cells ≤ R.cells ∧ slots ≤ R.slots)
    (kk : ∀ (r : Int32) (G1 : GS) (H1 : Heap) (locs1 : List Loc), post r G1 → gH D cy q A H0 G1 H1 locs1 → W p l e R s m args below meth c H1 locs1 cells slots Q (F0 m (pc + 3) ls (.int r :: rest))) : W p l e R s m args below meth c H locs cells slots Q (F0 m pc ls st) := by
  obtain ⟨⟨hx, hb, hml, hown, hts⟩, hK⟩ := X
  have he : (gW cy q G)[a]? = some (q a, .inr ((gO q a (G.1 a)).1, (gO q a (G.1 a)).2)) := by rw [gW_at (by omega), gE_o ha]
  refine va_calli (va_runV (As := As) (rest := rest) ⟨hx, hb, hml, hown, hts⟩ (hM H.size) cw ⟨gPre_blind, va_recv hK hw.1 hc he, g_call_pre hK hw (.ref (q a) :: As)⟩ rfl hn hsize hst (lv_room hW) hdg hf) hw.2.2 (fun x _ h => gA_in hw hA x h) (gA_in hw hA) (fun r G1 t H1 locs1 ht hvm hp hB hz hk hS => ?_)
  obtain ⟨hP1, hK1, hD1⟩ := hB
  rw [ht] at hP1
  exact kk r G1 H1 locs1 hp ⟨hP1, hD1.weaken (fun k z hk h => gA_in hw hA _ h), hS⟩
theorem g_callVl (a : Nat) {post : Int64 → GS → Prop} (X : gC p s m args c cc nL Ts own D cy) (hw : gH D cy q A H0 G H locs) (hA : ∀ x, H0.size ≤ x → A x) (hM : gMl l y ws rm D cy q (.ref (q a) :: As) G post) (ha : a < 8) (hc : vwCl[(gO q a (G.1 a)).1]? = some (C, T, N)) (cw : CallW R s args own C index y bytes maxL ret ws rm 0 0 n) (hn : As.length = n) (hsize : ls.size = nL) (hst : st = As.reverse ++ .ref (q a) :: rest) (hW : (rest.map fun v => v.category).sum ≤ 8) (hdg : decode cc pc = .ok (.invokevirtual index, 3)) (hf : cells ≤ R.cells ∧ slots ≤ R.slots)
    (kk : ∀ (r : Int64) (G1 : GS) (H1 : Heap) (locs1 : List Loc), post r G1 → gH D cy q A H0 G1 H1 locs1 → W p l e R s m args below meth c H1 locs1 cells slots Q (F0 m (pc + 3) ls (.long r :: rest))) : W p l e R s m args below meth c H locs cells slots Q (F0 m pc ls st) := by
  obtain ⟨⟨hx, hb, hml, hown, hts⟩, hK⟩ := X
  have he : (gW cy q G)[a]? = some (q a, .inr ((gO q a (G.1 a)).1, (gO q a (G.1 a)).2)) := by rw [gW_at (by omega), gE_o ha]
  refine va_calll (va_runV (As := As) (rest := rest) ⟨hx, hb, hml, hown, hts⟩ (hM H.size) cw ⟨gPre_blind, va_recv hK hw.1 hc he, g_call_pre hK hw (.ref (q a) :: As)⟩ rfl hn hsize hst (lv_room hW) hdg hf) hw.2.2 (fun x _ h => gA_in hw hA x h) (gA_in hw hA) (fun r G1 t H1 locs1 ht hvm hp hB hz hk hS => ?_)
  obtain ⟨hP1, hK1, hD1⟩ := hB
  rw [ht] at hP1
  exact kk r G1 H1 locs1 hp ⟨hP1, hD1.weaken (fun k z hk h => gA_in hw hA _ h), hS⟩
theorem g_callVv (a : Nat) {post : GS → Prop} (X : gC p s m args c cc nL Ts own D cy) (hw : gH D cy q A H0 G H locs) (hA : ∀ x, H0.size ≤ x → A x) (hM : gMv l y ws rm D cy q (.ref (q a) :: As) G post) (ha : a < 8) (hc : vwCl[(gO q a (G.1 a)).1]? = some (C, T, N)) (cw : CallW R s args own C index y bytes maxL ret ws rm 0 0 n) (hn : As.length = n) (hsize : ls.size = nL) (hst : st = As.reverse ++ .ref (q a) :: rest) (hW : (rest.map fun v => v.category).sum ≤ 8) (hdg : decode cc pc = .ok (.invokevirtual index, 3)) (hf : cells ≤ R.cells ∧ slots ≤ R.slots)
    (kk : ∀ (G1 : GS) (H1 : Heap) (locs1 : List Loc), post G1 → gH D cy q A H0 G1 H1 locs1 → W p l e R s m args below meth c H1 locs1 cells slots Q (F0 m (pc + 3) ls rest)) : W p l e R s m args below meth c H locs cells slots Q (F0 m pc ls st) := by
  obtain ⟨⟨hx, hb, hml, hown, hts⟩, hK⟩ := X
  have he : (gW cy q G)[a]? = some (q a, .inr ((gO q a (G.1 a)).1, (gO q a (G.1 a)).2)) := by rw [gW_at (by omega), gE_o ha]
  refine va_callv (va_runV (As := As) (rest := rest) ⟨hx, hb, hml, hown, hts⟩ (hM H.size) cw ⟨gPre_blind, va_recv hK hw.1 hc he, g_call_pre hK hw (.ref (q a) :: As)⟩ rfl hn hsize hst (lv_room hW) hdg hf) hw.2.2 (fun x _ h => gA_in hw hA x h) (gA_in hw hA) (fun G1 t H1 locs1 ht hvm hp hB hz hk hS => ?_)
  obtain ⟨hP1, hK1, hD1⟩ := hB
  rw [ht] at hP1
  exact kk G1 H1 locs1 hp ⟨hP1, hD1.weaken (fun k z hk h => gA_in hw hA _ h), hS⟩
theorem g_callSi {post : Int32 → GS → Prop} (X : gC p s m args c cc nL Ts own D cy) (hw : gH D cy q A H0 G H locs) (hA : ∀ x, H0.size ≤ x → A x) (hM : gMi l y ws rm D cy q As G post) (cw : CallB R s args own index y bytes maxL ret ws rm 0 0 n ∧ (Cond.static y).before args s = true) (hn : As.length = n) (hsize : ls.size = nL) (hst : st = As.reverse ++ rest) (hW : (rest.map fun v => v.category).sum ≤ 8) (hdg : decode cc pc = .ok (.invokestatic index, 3)) (hf : cells ≤ R.cells ∧ slots ≤ R.slots)
    (kk : ∀ (r : Int32) (G1 : GS) (H1 : Heap) (locs1 : List Loc), post r G1 → gH D cy q A H0 G1 H1 locs1 → W p l e R s m args below meth c H1 locs1 cells slots Q (F0 m (pc + 3) ls (.int r :: rest))) : W p l e R s m args below meth c H locs cells slots Q (F0 m pc ls st) := by
  obtain ⟨⟨hx, hb, hml, hown, hts⟩, hK⟩ := X
  refine va_calli (va_runS (As := As) (rest := rest) ⟨hx, hb, hml, hown, hts⟩ (hM H.size) cw ⟨gPre_blind, g_call_pre hK hw As⟩ rfl hn hsize hst (lv_room hW) hdg hf) hw.2.2 (fun x _ h => gA_in hw hA x h) (gA_in hw hA) (fun r G1 t H1 locs1 ht hvm hp hB hz hk hS => ?_)
  obtain ⟨hP1, hK1, hD1⟩ := hB
  rw [ht] at hP1
  exact kk r G1 H1 locs1 hp ⟨hP1, hD1.weaken (fun k z hk h => gA_in hw hA _ h), hS⟩
theorem g_callSv {post : GS → Prop} (X : gC p s m args c cc nL Ts own D cy) (hw : gH D cy q A H0 G H locs) (hA : ∀ x, H0.size ≤ x → A x) (hM : gMv l y ws rm D cy q As G post) (cw : CallB R s args own index y bytes maxL ret ws rm 0 0 n ∧ (Cond.static y).before args s = true) (hn : As.length = n) (hsize : ls.size = nL) (hst : st = As.reverse ++ rest) (hW : (rest.map fun v => v.category).sum ≤ 8) (hdg : decode cc pc = .ok (.invokestatic index, 3)) (hf : cells ≤ R.cells ∧ slots ≤ R.slots)
    (kk : ∀ (G1 : GS) (H1 : Heap) (locs1 : List Loc), post G1 → gH D cy q A H0 G1 H1 locs1 → W p l e R s m args below meth c H1 locs1 cells slots Q (F0 m (pc + 3) ls rest)) : W p l e R s m args below meth c H locs cells slots Q (F0 m pc ls st) := by
  obtain ⟨⟨hx, hb, hml, hown, hts⟩, hK⟩ := X
  refine va_callv (va_runS (As := As) (rest := rest) ⟨hx, hb, hml, hown, hts⟩ (hM H.size) cw ⟨gPre_blind, g_call_pre hK hw As⟩ rfl hn hsize hst (lv_room hW) hdg hf) hw.2.2 (fun x _ h => gA_in hw hA x h) (gA_in hw hA) (fun G1 t H1 locs1 ht hvm hp hB hz hk hS => ?_)
  obtain ⟨hP1, hK1, hD1⟩ := hB
  rw [ht] at hP1
  exact kk G1 H1 locs1 hp ⟨hP1, hD1.weaken (fun k z hk h => gA_in hw hA _ h), hS⟩
/-- a method's entry -/
theorem g_start {s₁ : State} {sz : Nat} (B : BodyLoose p l y (headSpec ws rm) cc maxL ret e s m args below meth c s₁) (hml : c.maxLocals = maxL) (hv : va_Pc As (gPre D cy q G sz) args s) : args = As.toArray ∧ s.heap.size = sz ∧ gC p s m args c cc maxL ws y.cls D cy ∧ gH D cy q (gA q sz) s.heap G s.heap [] ∧ (∀ x, s.heap.size ≤ x → gA q sz x) ∧ meth.sig.returnType = ret ∧ meth.locks = false := by
  obtain ⟨ha, hsz, hP, hK, hD⟩ := hv
  exact ⟨ha, hsz, ⟨⟨B.exec, B.bytes, hml, findClass_of_methodNamed B.named, atoms_spec (ws := ws) B.pre⟩, hK⟩, ⟨hP, gD_self hD, va_S.rf⟩, fun x h => Or.inr (by rw [← hsz]; exact h), B.returns, B.notSynchronized⟩
theorem g_in {n : Nat} (ha : args = As.toArray) (h : (lg_sl As).length ≤ n) (kk : ∀ ls : Array Slot, lv_has ls n (lv_args 0 As) → W p l e R s m args below meth c H locs cells slots Q (F0 m 0 ls [])) : W p l e R s m args below meth c H locs cells slots Q (entryFrame m args n) := by
  have hl := lv_entry As (n := n) h
  have he : entryFrame m args n = entryFrame m As.toArray n := by rw [ha]
  rw [he, lg_entry_eq]
  exact kk _ hl
theorem g_iret {sz : Nat} {post : Int32 → GS → Prop} {v : Int32} (X : gC p s m args c cc nL Ts own D cy) (hw : gH D cy q (gA q sz) s.heap G H locs) (hr : meth.sig.returnType = some .int) (hlk : meth.locks = false) (h : post v G) (hdg : decode cc pc = .ok (.ireturn, 1)) : W p l e R s m args below meth c H locs cells slots (MQ below (va_Qi post (gPo D cy q sz) (gA q sz)) args s cells slots (gA q sz)) (F0 m pc ls [.int v]) := by
  obtain ⟨⟨hx, hb, hml, hown, hts⟩, hK⟩ := X
  exact W.iret hx hb hr (fun t ht hW => ⟨⟨v, G, rfl, h, by rw [ht]; exact hw.1, va_K.moved hW.alike hK, hw.2.1⟩, hw.2.2.F ht⟩) hw.2.2.2.2 hdg (hlocks := hlk)
theorem g_zret {sz : Nat} {post : Int32 → GS → Prop} {v : Int32} (X : gC p s m args c cc nL Ts own D cy) (hw : gH D cy q (gA q sz) s.heap G H locs) (hr : meth.sig.returnType = some .boolean) (hlk : meth.locks = false) (hv : v = 0 ∨ v = 1) (h : post v G) (hdg : decode cc pc = .ok (.ireturn, 1)) : W p l e R s m args below meth c H locs cells slots (MQ below (va_Qi post (gPo D cy q sz) (gA q sz)) args s cells slots (gA q sz)) (F0 m pc ls [.int v]) := by
  obtain ⟨⟨hx, hb, hml, hown, hts⟩, hK⟩ := X
  exact W.zret hx hb hr (by rcases hv with rfl | rfl <;> decide) (fun t ht hW => ⟨⟨v, G, rfl, h, by rw [ht]; exact hw.1, va_K.moved hW.alike hK, hw.2.1⟩, hw.2.2.F ht⟩) hw.2.2.2.2 hdg (hlocks := hlk)
theorem g_lret {sz : Nat} {post : Int64 → GS → Prop} {v : Int64} (X : gC p s m args c cc nL Ts own D cy) (hw : gH D cy q (gA q sz) s.heap G H locs) (hr : meth.sig.returnType = some .long) (hlk : meth.locks = false) (h : post v G) (hdg : decode cc pc = .ok (.lreturn, 1)) : W p l e R s m args below meth c H locs cells slots (MQ below (va_Ql post (gPo D cy q sz) (gA q sz)) args s cells slots (gA q sz)) (F0 m pc ls [.long v]) := by
  obtain ⟨⟨hx, hb, hml, hown, hts⟩, hK⟩ := X
  exact W.lret hx hb hr (fun t ht hW => ⟨⟨v, G, rfl, h, by rw [ht]; exact hw.1, va_K.moved hW.alike hK, hw.2.1⟩, hw.2.2.F ht⟩) hw.2.2.2.2 hdg (hlocks := hlk)
theorem g_vret {sz : Nat} {post : GS → Prop} (X : gC p s m args c cc nL Ts own D cy) (hw : gH D cy q (gA q sz) s.heap G H locs) (hr : meth.sig.returnType = none) (hlk : meth.locks = false) (h : post G) (hdg : decode cc pc = .ok (.return_, 1)) : W p l e R s m args below meth c H locs cells slots (MQ below (va_Qv post (gPo D cy q sz) (gA q sz)) args s cells slots (gA q sz)) (F0 m pc ls []) := by
  obtain ⟨⟨hx, hb, hml, hown, hts⟩, hK⟩ := X
  exact W.vret hx hb hr (fun t ht hW => ⟨⟨G, rfl, h, by rw [ht]; exact hw.1, va_K.moved hW.alike hK, hw.2.1⟩, hw.2.2.F ht⟩) hw.2.2.2.2 hdg (hlocks := hlk)
end GK
