/-! FaultHeaps.look, which throws; the law's look, which catches -/
abbrev nsE : String := "java/util/NoSuchElementException"
abbrev nsN : List String := ["java/lang/RuntimeException", "java/lang/Exception"]
/-- what the throw needs of the tables beside the good words -/
def nsP (U : State) : Prop := va_Nw (.castable nsE nsE) U ∧ va_Nw (.declares (Bundle.initS "java/lang/RuntimeException")) U ∧ va_Nw (.declares (Bundle.initS "java/lang/Exception")) U ∧ va_Nw (.declares (Bundle.initS Bundle.tN)) U ∧ (∃ sa, vk_R RX6 153 "no such report" sa U) ∧ ∃ sa, vk_R RX6 173 "no such what" sa U
theorem nsP.warm {s U : State} (hW : s.WarmedH U.vm) (h : nsP s) : nsP U := by
  obtain ⟨h1, h2, h3, h4, ⟨a, h5⟩, b, h6⟩ := h
  exact ⟨h1.warmC hW, h2.warmD hW, h3.warmD hW, h4.warmD hW, ⟨a, h5.warm hW⟩, b, h6.warm hW⟩
def nsZ (A : Nat → Prop) (U : State) (H : Heap) : Prop := vx_Zq Bundle.tN "UNASSIGNED_STACK" Bundle.steD A U H ∧ vx_Zq Bundle.tN "SUPPRESSED_SENTINEL" Bundle.listD A U H
theorem nsZ.moved {A : Nat → Prop} {u U : State} {H : Heap} (hvm : u.vm.Alike U.vm) (h : nsZ A u H) : nsZ A U H := ⟨vx_Zq.moved hvm h.1, vx_Zq.moved hvm h.2⟩
theorem nsZ.kept {A : Nat → Prop} {U : State} {H H1 : Heap} (h : nsZ A U H) (hq : ∀ a : Nat, a < H.size → ¬ A a → H1[a]? = H[a]?) : nsZ A U H1 := ⟨vx_Zq.kept h.1 hq, vx_Zq.kept h.2 hq⟩
theorem nsZ.narrow {A B : Nat → Prop} {U : State} {H : Heap} (h : nsZ A U H) (hAB : ∀ q, B q → A q) : nsZ B U H := ⟨vx_Zq.narrow h.1 hAB, vx_Zq.narrow h.2 hAB⟩
def gPreX (D : va_G) (cy : Nat → ClassId) (q : Nat → Nat) (G : GS) (sz : Nat) : State → Prop := fun U => gPre D cy q G sz U ∧ nsP U ∧ nsZ (gA q sz) U U.heap
theorem gPreX_blind {D : va_G} {cy : Nat → ClassId} {q : Nat → Nat} {G : GS} {sz : Nat} {As : List Value} : FrameBlind (va_Pc As (gPreX D cy q G sz)) := fun a U g mk h => by
  obtain ⟨q0, ⟨q1, qP, qK, qD⟩, hn, hz⟩ := h
  exact ⟨q0, ⟨q1, qP, va_K.moved (u := U) (U := U.calling g mk a) (Vm.Alike.refl U.vm) qK, qD⟩, hn.warm (s := U) (U := U.calling g mk a) (State.WarmedH.refl U), nsZ.moved (u := U) (U := U.calling g mk a) (Vm.Alike.refl U.vm) hz⟩
/-- what a throw leaves -/
def nsX (D : va_G) (cy : Nat → ClassId) (q : Nat → Nat) (sz : Nat) (px : GS → Prop) : String → State → State → Prop := vx_X px (fun E G1 t => E = nsE ∧ gPo D cy q sz G1 t) (gA q sz)
section NT
variable {p : Program} {l : Launch} {e : Env} {R : Room} {s : State} {m : MethodId} {args : Array Value} {below : List Frame} {meth : Method} {c : Code} {H : Heap} {locs : List Loc}
variable {cc : ByteArray} {pc : Nat} {ls : Array Slot} {D : va_G} {cy : Nat → ClassId} {q : Nat → Nat} {G : GS} {sz : Nat} {nL : Nat} {Qc : Array Value → State → Outcome → State → Prop}
theorem ns_bad : ∀ w ∈ (vx_atS RX6 155 nsE nsN).filter (fun w => !goodWord w), w ∈ [Cond.castable nsE nsE, Cond.declares (Bundle.initS "java/lang/RuntimeException"), Cond.declares (Bundle.initS "java/lang/Exception"), Cond.declares (Bundle.initS Bundle.tN)] := by decide +kernel
theorem ns_good : ∀ w ∈ Cond.classLink RX6 151 nsE :: Cond.initialized nsE :: vx_atS RX6 155 nsE nsN, vx_ot w = true := by decide +kernel
theorem ns_throw {text : String} {is : Nat} {px : GS → Prop} (hl0 : l.stackTraces = false) (X : gC p s m args c cc nL wsX6_look RX6 D cy) (hw : gH D cy q (gA q sz) s.heap G H locs) (hsz : ls.size = nL) (ht : ∀ x ∈ c.exceptionTable.toList, False) (hn : nsP s) (hz : nsZ (gA q sz) s s.heap) (hs : ∃ sa, vk_R RX6 is text sa s) (h : px G) (hlk : meth.locks = false)
    (d0 : decode cc pc = .ok (.new 151, 3)) (d3 : decode cc (pc + 3) = .ok (.dup, 1)) (d4 : decode cc (pc + 4) = .ok (.ldc is, 2)) (d6 : decode cc (pc + 6) = .ok (.invokespecial 155, 3)) (d9 : decode cc (pc + 9) = .ok (.athrow, 1)) {rest : List Value} (hrest : rest = []) (hf : 6 ≤ R.frames) (hlo : 82 ≤ R.locals) (hc : 1 ≤ R.cells) (hsl : 6 ≤ R.slots) : W p l e R s m args below meth c H locs 0 0 (vx_MQ below Qc (nsX D cy q sz px) args s 1 6 (gA q sz)) (F0 m pc ls rest) := by
  subst hrest
  obtain ⟨⟨hx, hb, hml, hown, hts⟩, hK⟩ := X
  obtain ⟨sa, hs⟩ := hs
  obtain ⟨n1, n2, n3, n4, -, -⟩ := hn
  refine vx_throwS (cls := nsE) (names := nsN) (A := gA q sz) hx hb hl0 hown (by decide +kernel) (by decide +kernel) (hts _ (List.mem_cons_of_mem _ (List.mem_append_left _ (List.mem_append_left _ (List.mem_append_left _ (List.mem_append_left _ (List.mem_append_left _ (List.mem_append_left _ (List.mem_of_getElem? (i := 0) rfl)))))))))
    (hts _ (List.mem_cons_of_mem _ (List.mem_append_left _ (List.mem_append_left _ (List.mem_append_left _ (List.mem_append_left _ (List.mem_append_left _ (List.mem_append_left _ (List.mem_of_getElem? (i := 1) rfl))))))))) hs
    (vx_hat (fun w h9 => hts w (List.mem_cons_of_mem _ (List.mem_append_right _ h9))) ns_bad (vx_c (va_Nw.use rfl n1) (vx_c (va_Nw.use rfl n2) (vx_c (va_Nw.use rfl n3) (vx_c (va_Nw.use rfl n4) vx_n))))) ns_good hz.1 hz.2 hw.2.2 (hsz.trans hml.symm) d0 d3 d4 d6 d9 (fun x hx => (ht x hx).elim) (show 2 + 3 < R.frames by omega) (show 0 + (13 * (2 + 1) + 43) ≤ R.locals by omega) (by omega) (by omega) hlk
    (fun t hvm h1 h2 => ⟨G, h, ⟨rfl, hw.1.kept (fun k x hx => h2 x.1 ((hw.1 k x hx).lt)), va_K.moved hvm hK, hw.2.1⟩, Nat.le_trans hw.2.2.1 h1, fun a h3 h4 => (h2 a (Nat.lt_of_lt_of_le h3 hw.2.2.1)).trans (hw.2.2.2.1 a h3 h4)⟩) hw.2.2.2.2 (Nat.le_refl _) (Nat.le_refl _)
end NT
abbrev rmX6_look : Room := { frames := 6, cells := 1, slots := 6, locals := 82 }
def wp_X6_look (G : GS) (x1 x2 : Int32) (post : Int32 → GS → Prop) (px : GS → Prop) : Prop :=
  wp_X3_has G x1 (fun r_2 G_1 => (¬ r_2 = 0 → ((x2 = 0 → (wp_X3_versionOf G_1 x1 (fun r_5 G_4 => post r_5 G_4))) ∧ (x2 = 1 → (wp_X3_lengthOf G_1 x1 (fun r_7 G_6 => post r_7 G_6))) ∧ (x2 = 2 → (wp_X3_fixedAt G_1 x1 (fun r_9 G_8 => post r_9 G_8))) ∧ (x2 = 3 → (wp_X6_cameBack G_1 x1 (fun r_11 G_10 => (r_11 = 0 → (post 0 G_10)) ∧ (¬ (r_11 = 0) → (post 1 G_10))))) ∧ (x2 = 4 → (wp_X1_sizeBeside G_1 x1 (fun r_14 G_13 => post r_14 G_13))) ∧ (¬ x2 = 0 → ¬ x2 = 1 → ¬ x2 = 2 → ¬ x2 = 3 → ¬ x2 = 4 → (px G_1)))) ∧ (r_2 = 0 → (px G_1)))
set_option maxHeartbeats 4000000 in
set_option maxRecDepth 100000 in
theorem m_X6_look (l : Launch) (hl0 : l.stackTraces = false) (D : va_G) (cy : Nat → ClassId) (q : Nat → Nat) (G : GS) (x1 x2 : Int32) (post : Int32 → GS → Prop) (px : GS → Prop) (h : wp_X6_look G x1 x2 post px) (sz : Nat) : vx_Met l yX6_look wsX6_look rmX6_look (va_Pc [.ref (q 0), .int x1, .int x2] (gPreX D cy q G sz)) (va_Qi post (gPo D cy q sz) (gA q sz)) (nsX D cy q sz px) 1 6 (gA q sz) := by
  refine vx_ofW (cc := cX6_look) (maxL := 3) (ret := (some .int)) (by decide) rfl ?_
  intro p e s m args below meth c s₁ B hml ht hv
  obtain ⟨hv0, hv1, hn9, hz9⟩ := hv
  obtain ⟨ha, hsz, X, hw, hA, hr, hlk⟩ := g_start B hml ⟨hv0, hv1⟩
  have hx := X.1.1
  have hb := X.1.2.1
  have hown := X.1.2.2.2.1
  have hts := X.1.2.2.2.2
  have hs1 := hn9.2.2.2.2.1
  have hs2 := hn9.2.2.2.2.2
  refine g_in ha (Nat.le_of_ble_eq_true rfl) (fun ls hl => ?_)
  have hl : lv_has ls 3 [(0, .ref (q 0)), (1, .int x1), (2, .int x2)] := hl
  unfold wp_X6_look at h
  have hinX6 : ∀ w ∈ wsX60, w ∈ wsX6_look := fun _ h9 => (List.mem_cons_of_mem _ (List.mem_append_left _ (List.mem_append_left _ (List.mem_append_left _ (List.mem_append_left _ (List.mem_append_right _ h9))))))
  refine lv_aload_n hx hb dX6_look_0 rfl (lv_at hl 0 rfl) ?_
  refine g_get 0 2 (v := .ref (q 3)) (C := RX6) (T := TX6) (N := 6) X hw (by decide) hinX6 rfl (by decide) (List.mem_cons_of_mem _ (List.mem_append_left _ (List.mem_append_left _ (List.mem_append_left _ (List.mem_append_left _ (List.mem_append_left _ (List.mem_append_left _ (List.mem_of_getElem? (i := 2) rfl)))))))) rfl dX6_look_1 ?_
  refine lv_iload_n hx hb dX6_look_4 rfl (lv_at hl 1 rfl) ?_
  refine g_callVi 3 (C := RX3) (T := TX3) (N := 6) (As := [.int x1]) (rest := []) X hw hA (m_X3_has l D cy q G x1 _ h) (by decide) rfl (cwV 1 hts gX6_look_X3_has rfl rfl rfl (by decide +kernel) ⟨Nat.le_of_ble_eq_true rfl, Nat.le_of_ble_eq_true rfl⟩) rfl hl.1 rfl (Nat.le_of_ble_eq_true rfl) dX6_look_5 ⟨Nat.zero_le _, Nat.zero_le _⟩ (fun r_2 G_1 H locs h hw => ?_)
  refine lv_if_ne (tgt := 21) hx hb dX6_look_8 (by decide) (fun c8_2 => ?_) (fun c8_2 => ?_)
  · have h := h.1 c8_2
    refine lv_iload_n hx hb dX6_look_21 rfl (lv_at hl 2 rfl) ?_
    by_cases c22_0 : x2 = 0
    · have h := h.1 c22_0
      refine lv_tableIn (off := 34) (tgt := 56) hx hb dX6_look_22 (by rw [c22_0]; decide) (by rw [c22_0]; decide) (by rw [c22_0]; rfl) (by decide) ?_
      refine lv_aload_n hx hb dX6_look_56 rfl (lv_at hl 0 rfl) ?_
      refine g_get 0 2 (v := .ref (q 3)) (C := RX6) (T := TX6) (N := 6) X hw (by decide) hinX6 rfl (by decide) (List.mem_cons_of_mem _ (List.mem_append_left _ (List.mem_append_left _ (List.mem_append_left _ (List.mem_append_left _ (List.mem_append_left _ (List.mem_append_left _ (List.mem_of_getElem? (i := 2) rfl)))))))) rfl dX6_look_57 ?_
      refine lv_iload_n hx hb dX6_look_60 rfl (lv_at hl 1 rfl) ?_
      refine g_callVi 3 (C := RX3) (T := TX3) (N := 6) (As := [.int x1]) (rest := []) X hw hA (m_X3_versionOf l D cy q G_1 x1 _ h) (by decide) rfl (cwV 1 hts gX6_look_X3_versionOf rfl rfl rfl (by decide +kernel) ⟨Nat.le_of_ble_eq_true rfl, Nat.le_of_ble_eq_true rfl⟩) rfl hl.1 rfl (Nat.le_of_ble_eq_true rfl) dX6_look_61 ⟨Nat.zero_le _, Nat.zero_le _⟩ (fun r_5 G_4 H locs h hw => ?_)
      exact W.widen (Nat.zero_le _) (Nat.zero_le _) (vx_ret (g_iret X hw hr hlk h dX6_look_64))
    by_cases c22_1 : x2 = 1
    · have h := h.2.1 c22_1
      refine lv_tableIn (off := 43) (tgt := 65) hx hb dX6_look_22 (by rw [c22_1]; decide) (by rw [c22_1]; decide) (by rw [c22_1]; rfl) (by decide) ?_
      refine lv_aload_n hx hb dX6_look_65 rfl (lv_at hl 0 rfl) ?_
      refine g_get 0 2 (v := .ref (q 3)) (C := RX6) (T := TX6) (N := 6) X hw (by decide) hinX6 rfl (by decide) (List.mem_cons_of_mem _ (List.mem_append_left _ (List.mem_append_left _ (List.mem_append_left _ (List.mem_append_left _ (List.mem_append_left _ (List.mem_append_left _ (List.mem_of_getElem? (i := 2) rfl)))))))) rfl dX6_look_66 ?_
      refine lv_iload_n hx hb dX6_look_69 rfl (lv_at hl 1 rfl) ?_
      refine g_callVi 3 (C := RX3) (T := TX3) (N := 6) (As := [.int x1]) (rest := []) X hw hA (m_X3_lengthOf l D cy q G_1 x1 _ h) (by decide) rfl (cwV 1 hts gX6_look_X3_lengthOf rfl rfl rfl (by decide +kernel) ⟨Nat.le_of_ble_eq_true rfl, Nat.le_of_ble_eq_true rfl⟩) rfl hl.1 rfl (Nat.le_of_ble_eq_true rfl) dX6_look_70 ⟨Nat.zero_le _, Nat.zero_le _⟩ (fun r_7 G_6 H locs h hw => ?_)
      exact W.widen (Nat.zero_le _) (Nat.zero_le _) (vx_ret (g_iret X hw hr hlk h dX6_look_73))
    by_cases c22_2 : x2 = 2
    · have h := h.2.2.1 c22_2
      refine lv_tableIn (off := 52) (tgt := 74) hx hb dX6_look_22 (by rw [c22_2]; decide) (by rw [c22_2]; decide) (by rw [c22_2]; rfl) (by decide) ?_
      refine lv_aload_n hx hb dX6_look_74 rfl (lv_at hl 0 rfl) ?_
      refine g_get 0 2 (v := .ref (q 3)) (C := RX6) (T := TX6) (N := 6) X hw (by decide) hinX6 rfl (by decide) (List.mem_cons_of_mem _ (List.mem_append_left _ (List.mem_append_left _ (List.mem_append_left _ (List.mem_append_left _ (List.mem_append_left _ (List.mem_append_left _ (List.mem_of_getElem? (i := 2) rfl)))))))) rfl dX6_look_75 ?_
      refine lv_iload_n hx hb dX6_look_78 rfl (lv_at hl 1 rfl) ?_
      refine g_callVi 3 (C := RX3) (T := TX3) (N := 6) (As := [.int x1]) (rest := []) X hw hA (m_X3_fixedAt l D cy q G_1 x1 _ h) (by decide) rfl (cwV 1 hts gX6_look_X3_fixedAt rfl rfl rfl (by decide +kernel) ⟨Nat.le_of_ble_eq_true rfl, Nat.le_of_ble_eq_true rfl⟩) rfl hl.1 rfl (Nat.le_of_ble_eq_true rfl) dX6_look_79 ⟨Nat.zero_le _, Nat.zero_le _⟩ (fun r_9 G_8 H locs h hw => ?_)
      exact W.widen (Nat.zero_le _) (Nat.zero_le _) (vx_ret (g_iret X hw hr hlk h dX6_look_82))
    by_cases c22_3 : x2 = 3
    · have h := h.2.2.2.1 c22_3
      refine lv_tableIn (off := 61) (tgt := 83) hx hb dX6_look_22 (by rw [c22_3]; decide) (by rw [c22_3]; decide) (by rw [c22_3]; rfl) (by decide) ?_
      refine lv_aload_n hx hb dX6_look_83 rfl (lv_at hl 0 rfl) ?_
      refine lv_iload_n hx hb dX6_look_84 rfl (lv_at hl 1 rfl) ?_
      refine g_callVi 0 (C := RX6) (T := TX6) (N := 6) (As := [.int x1]) (rest := []) X hw hA (m_X6_cameBack l D cy q G_1 x1 _ h) (by decide) rfl (cwV 1 hts gX6_look_X6_cameBack rfl rfl rfl (by decide +kernel) ⟨Nat.le_of_ble_eq_true rfl, Nat.le_of_ble_eq_true rfl⟩) rfl hl.1 rfl (Nat.le_of_ble_eq_true rfl) dX6_look_85 ⟨Nat.zero_le _, Nat.zero_le _⟩ (fun r_11 G_10 H locs h hw => ?_)
      refine lv_if_eq (tgt := 95) hx hb dX6_look_88 (by decide) (fun c88_11 => ?_) (fun c88_11 => ?_)
      · have h := h.1 c88_11
        refine lv_iconst (v := 0) hx hb dX6_look_95 (by decide) ?_
        exact W.widen (Nat.zero_le _) (Nat.zero_le _) (vx_ret (g_iret X hw hr hlk h dX6_look_96))
      · have h := h.2 c88_11
        refine lv_iconst (v := 1) hx hb dX6_look_91 (by decide) ?_
        refine lv_goto (tgt := 96) hx hb dX6_look_92 (by decide) ?_
        exact W.widen (Nat.zero_le _) (Nat.zero_le _) (vx_ret (g_iret X hw hr hlk h dX6_look_96))
    by_cases c22_4 : x2 = 4
    · have h := h.2.2.2.2.1 c22_4
      refine lv_tableIn (off := 75) (tgt := 97) hx hb dX6_look_22 (by rw [c22_4]; decide) (by rw [c22_4]; decide) (by rw [c22_4]; rfl) (by decide) ?_
      refine lv_aload_n hx hb dX6_look_97 rfl (lv_at hl 0 rfl) ?_
      refine g_get 0 4 (v := .ref (q 5)) (C := RX6) (T := TX6) (N := 6) X hw (by decide) hinX6 rfl (by decide) (List.mem_cons_of_mem _ (List.mem_append_left _ (List.mem_append_left _ (List.mem_append_left _ (List.mem_append_left _ (List.mem_append_left _ (List.mem_append_left _ (List.mem_of_getElem? (i := 3) rfl)))))))) rfl dX6_look_98 ?_
      refine lv_iload_n hx hb dX6_look_101 rfl (lv_at hl 1 rfl) ?_
      refine g_callVi 5 (C := RX1) (T := TX1) (N := 15) (As := [.int x1]) (rest := []) X hw hA (m_X1_sizeBeside l D cy q G_1 x1 _ h) (by decide) rfl (cwV 1 hts gX6_look_X1_sizeBeside rfl rfl rfl (by decide +kernel) ⟨Nat.le_of_ble_eq_true rfl, Nat.le_of_ble_eq_true rfl⟩) rfl hl.1 rfl (Nat.le_of_ble_eq_true rfl) dX6_look_102 ⟨Nat.zero_le _, Nat.zero_le _⟩ (fun r_14 G_13 H locs h hw => ?_)
      exact W.widen (Nat.zero_le _) (Nat.zero_le _) (vx_ret (g_iret X hw hr hlk h dX6_look_105))
    have h := h.2.2.2.2.2 c22_0 c22_1 c22_2 c22_3 c22_4
    have n0 := lv_neT (a := 0) c22_0 rfl
    have n1 := lv_neT (a := 1) c22_1 rfl
    have n2 := lv_neT (a := 2) c22_2 rfl
    have n3 := lv_neT (a := 3) c22_3 rfl
    have n4 := lv_neT (a := 4) c22_4 rfl
    refine lv_tableOut (tgt := 106) hx hb dX6_look_22 (by omega) (by decide) ?_
    exact ns_throw hl0 X hw hl.1 ht hn9 hz9 hs2 h hlk dX6_look_106 dX6_look_109 dX6_look_110 dX6_look_112 dX6_look_115 rfl (Nat.le_of_ble_eq_true rfl) (Nat.le_of_ble_eq_true rfl) (Nat.le_of_ble_eq_true rfl) (Nat.le_of_ble_eq_true rfl)
  · have h := h.2 c8_2
    exact ns_throw hl0 X hw hl.1 ht hn9 hz9 hs1 h hlk dX6_look_11 dX6_look_14 dX6_look_15 dX6_look_17 dX6_look_20 rfl (Nat.le_of_ble_eq_true rfl) (Nat.le_of_ble_eq_true rfl) (Nat.le_of_ble_eq_true rfl) (Nat.le_of_ble_eq_true rfl)
/-- a method with a table of its own that only returns -/
theorem ofWH {l : Launch} {y : MethodName} {ws ws' : List Cond} {rm : Room} {Pc : Array Value → State → Prop} {Qc : Array Value → State → Outcome → State → Prop} {mc ms : Nat} {free : Addr → Prop} {cc : ByteArray} {maxL : Nat} {ret : Option FieldType} {hh : List (Nat × Nat × Nat × Nat)}
    (hy : plainName y.cls = true) (hw : ws = Cond.codeWith y cc maxL ret hh :: ws')
    (body : ∀ p e s m args below meth c s₁, BodyLoose p l y (headSpec ws rm) cc maxL ret e s m args below meth c s₁ → c.maxLocals = maxL → Pc args s →
      W p l e (headSpec ws rm).room s m args below meth c s.heap [] 0 0 (MQ below Qc args s mc ms free) (entryFrame m args maxL)) : Met l y ws rm Pc Qc mc ms free := by
  refine MetFree.of_bodyS (code := cc) (maxLocals := maxL) (ret := ret) hy ?_ ?_
  · intro args s m h hn
    obtain ⟨m9, meth, c, hn9, h1, h2, h3, h4, -, h5, h6, -⟩ := Cond.codeWith_spec (atoms_spec (ws := ws) h _ (by rw [hw]; exact List.mem_cons_self))
    cases hn.symm.trans hn9
    exact ⟨meth, c, h1, h2, h3, h4, h5, h6⟩
  · intro p e s m args below meth c s₁ B hml hP _
    have hh0 : s₁.heap = s.heap := by rw [B.state]; rfl
    obtain ⟨t, a1, o, b1, b2, b3⟩ := body p e s m args below meth c s₁ B hml hP s₁ hh0 (Stand.of_body B)
    exact ⟨t, o, a1, b1, b2, ⟨b3.1, b3.2⟩⟩
abbrev rmL_look : Room := { frames := 7, cells := 1, slots := 6, locals := 104 }
def wp_L_look (G : GS) (x1 x2 : Int32) (post : Int32 → GS → Prop) : Prop := wp_X6_look G x1 x2 (fun r G1 => post 0 (sL G1 40 0 (Int32.toInt64 r))) (fun G1 => post 1 G1)
set_option maxHeartbeats 4000000 in
set_option maxRecDepth 100000 in
theorem m_L_look (l : Launch) (hl0 : l.stackTraces = false) (D : va_G) (cy : Nat → ClassId) (q : Nat → Nat) (G : GS) (x1 x2 : Int32) (post : Int32 → GS → Prop) (h : wp_L_look G x1 x2 post) (sz : Nat) : Met l yL_look wsL_look rmL_look (va_Pc [.ref (q 0), .int x1, .int x2, .ref (q 40)] (gPreX D cy q G sz)) (va_Qi post (gPo D cy q sz) (gA q sz)) 1 6 (gA q sz) := by
  refine ofWH (cc := cL_look) (maxL := 5) (ret := some .int) (by decide) rfl ?_
  intro p e s m args below meth c s₁ B hml hv
  obtain ⟨hv0, hv1, hn9, hz9⟩ := hv
  obtain ⟨ha, hsz, X, hw, hA, hr, hlk⟩ := g_start B hml ⟨hv0, hv1⟩
  have hx := X.1.1
  have hb := X.1.2.1
  have hown := X.1.2.2.2.1
  have hts := X.1.2.2.2.2
  have htb : c.exceptionTable.toList = tableOf [(0, 10, 13, 13)] := vx_table (x := yL_look) B (hts _ List.mem_cons_self)
  refine g_in ha (Nat.le_of_ble_eq_true rfl) (fun ls hl => ?_)
  have hl : lv_has ls 5 [(0, .ref (q 0)), (1, .int x1), (2, .int x2), (3, .ref (q 40))] := hl
  unfold wp_L_look at h
  refine lv_aload_n hx hb dL_look_0 rfl (lv_at hl 3 rfl) ?_
  refine lv_iconst (v := 0) hx hb dL_look_1 (by decide) ?_
  refine lv_aload_n hx hb dL_look_2 rfl (lv_at hl 0 rfl) ?_
  refine lv_iload_n hx hb dL_look_3 rfl (lv_at hl 1 rfl) ?_
  refine lv_iload_n hx hb dL_look_4 rfl (lv_at hl 2 rfl) ?_
  have he : (gW cy q G)[0]? = some (q 0, .inr ((gO q 0 (G.1 0)).1, (gO q 0 (G.1 0)).2)) := by rw [gW_at (by omega), gE_o (by omega)]
  refine vx_calli (vx_runV (As := [.int x1, .int x2]) (rest := [.int 0, .ref (q 40)]) X.1 (m_X6_look l hl0 D cy q G x1 x2 _ _ h s.heap.size) (cwV 2 hts gL_look_X6_look rfl rfl rfl (by decide +kernel) ⟨Nat.le_of_ble_eq_true rfl, Nat.le_of_ble_eq_true rfl⟩)
    ⟨gPreX_blind, va_recv X.2 hw.1 (ci := 6) (q := (RX6, TX6, 6)) rfl he, fun U hU hW => ⟨rfl, ⟨by rw [hU], by rw [hU]; exact hw.1, va_K.moved hW.alike X.2, hw.2.1.weaken (fun _ _ _ _ => trivial)⟩, hn9.warm hW, by rw [hU]; exact (hz9.narrow (fun x => by rw [hsz]; exact id)).moved hW.alike⟩⟩ rfl rfl hl.1 rfl (lv_room (Nat.le_of_ble_eq_true rfl)) dL_look_5 ⟨Nat.le_of_ble_eq_true rfl, Nat.le_of_ble_eq_true rfl⟩) hw.2.2 (fun x _ h => gA_in hw hA x h) (gA_in hw hA) (fun x _ h => gA_in hw hA x h)
    (fun E ce q9 G1 t H1 locs1 ht hvm hp hB hz1 hk1 hS1 hce hcv hcl => ?_) (fun r G1 t H1 locs1 ht hvm hp hB hz1 hk1 hS1 => ?_)
  · obtain ⟨rfl, hP1, hK1, hD1⟩ := hB
    rw [ht] at hP1
    have hw : gH D cy q (gA q sz) s.heap G1 H1 locs1 := ⟨hP1, hD1.weaken (fun k z hk h => gA_in hw hA _ h), hS1⟩
    refine vx_catch (name := nsE) hown [] ⟨0, 10, 13, 13⟩ [] htb (fun z hz => nomatch hz) (by decide) (by decide) (hts _ (List.mem_cons_of_mem _ (List.mem_append_left _ (List.mem_append_left _ (List.mem_append_left _ (List.mem_append_left _ (List.mem_append_left _ (List.mem_append_left _ (List.mem_of_getElem? (i := 0) rfl))))))))) (va_Nw.use rfl hn9.1) hce hcv hcl ?_
    refine lv_astore (lv' := [(4, .ref q9), (0, .ref (q 0)), (1, .int x1), (2, .int x2), (3, .ref (q 40))]) hx hb dL_look_13 hl (by decide) rfl (fun ls hl => ?_)
    refine lv_iconst (v := 1) hx hb dL_look_15 (by decide) ?_
    exact g_iret X hw hr hlk hp dL_look_16
  · obtain ⟨hP1, hK1, hD1⟩ := hB
    rw [ht] at hP1
    have hw : gH D cy q (gA q sz) s.heap G1 H1 locs1 := ⟨hP1, hD1.weaken (fun k z hk h => gA_in hw hA _ h), hS1⟩
    refine lv_i2l (v := Int32.toInt64 r) hx hb dL_look_8 rfl ?_
    refine g_last 40 1 0 X hw ⟨by decide, by decide⟩ rfl (by decide) rfl (by decide) dL_look_9 (fun H locs hw => ?_)
    refine lv_goto (tgt := 17) hx hb dL_look_10 (by decide) ?_
    refine lv_iconst (v := 0) hx hb dL_look_17 (by decide) ?_
    exact g_iret X hw hr hlk hp dL_look_18
