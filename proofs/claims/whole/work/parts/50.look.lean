/-! FaultHeaps.look, which throws; the law's look, which catches -/
abbrev nsE : String := "java/util/NoSuchElementException"
abbrev nsN : List String := ["java/lang/RuntimeException", "java/lang/Exception"]
/-- what the throw needs of the tables beside the good words -/
def nsP (U : State) : Prop := va_Nw (.castable nsE nsE) U ∧ va_Nw (.declares (Bundle.initS "java/lang/RuntimeException")) U ∧ va_Nw (.declares (Bundle.initS "java/lang/Exception")) U ∧ va_Nw (.declares (Bundle.initS Bundle.tN)) U ∧ (∃ sa, vk_R RX6 153 "no such report" sa U) ∧ ∃ sa, vk_R RX6 173 "no such what" sa U
theorem nsP.warm {s U : State} (hW : s.WarmedH U.vm) (h : nsP s) : nsP U := by
  obtain ⟨h1, h2, h3, h4, ⟨a, h5⟩, b, h6⟩ := h
  exact ⟨h1.warmC hW, h2.warmD hW, h3.warmD hW, h4.warmD hW, ⟨a, h5.warm hW⟩, b, h6.warm hW⟩
def nsZ (A : Nat → Prop) (U : State) (H : Heap) : Prop := vx_Zq Bundle.tN "UNASSIGNED_STACK" Bundle.steD A U H ∧ vx_Zq Bundle.tN "SUPPRESSED_SENTINEL" Bundle.listD A U H
theorem nsZ.moved {A : Nat → Prop} {u U : State} {H : Heap} (hvm : u.vm.Alike U.vm) (h : nsZ A u H) : nsZ A U H := ⟨vx_Zq.moved hvm h.1, vx_Zq.moved hvm h.2⟩
theorem nsZ.kept {A : Nat → Prop} {U : State} {H H1 : Heap} (h : nsZ A U H) (hq : ∀ a : Nat, a < H.size → ¬ A a → H1[a]? = H[a]?) : nsZ A U H1 := ⟨vx_Zq.kept h.1 hq, vx_Zq.kept h.2 hq⟩
theorem nsZ.narrow {A B : Nat → Prop} {U : State} {H : Heap} (h : nsZ A U H) (hAB : ∀ q, B q → A q) : nsZ B U H := ⟨vx_Zq.narrow h.1 hAB, vx_Zq.narrow h.2 hAB⟩
def gPreX (D : va_G) (cy : Nat → ClassId) (q : Nat → Nat) (G : GS) (sz : Nat) : State → Prop := fun U => gPre D cy q G sz U ∧ nsP U ∧ nsZ (gA q sz) U U.heap
theorem gPreX_blind {D : va_G} {cy : Nat → ClassId} {q : Nat → Nat} {G : GS} {sz : Nat} {As : List Value} : FrameBlind (va_Pc As (gPreX D cy q G sz)) := fun a U g mk h => by
  obtain ⟨q0, ⟨q1, qP, qK, qD⟩, hn, hz⟩ := h
  exact ⟨q0, ⟨q1, qP, va_K.moved (u := U) (U := U.calling g mk a) (Vm.Alike.refl U.vm) qK, qD⟩, hn.warm (s := U) (U := U.calling g mk a) (State.WarmedH.refl U), nsZ.moved (u := U) (U := U.calling g mk a) (Vm.Alike.refl U.vm) hz⟩
/-- what a throw leaves -/
def nsX (D : va_G) (cy : Nat → ClassId) (q : Nat → Nat) (sz : Nat) (px : GS → Prop) : String → State → State → Prop := vx_X px (fun E G1 t => E = nsE ∧ gPo D cy q sz G1 t) (gA q sz)
section NT
variable {p : Program} {l : Launch} {e : Env} {R : Room} {s : State} {m : MethodId} {args : Array Value} {below : List Frame} {meth : Method} {c : Code} {H : Heap} {locs : List Loc}
variable {cc : ByteArray} {pc : Nat} {ls : Array Slot} {D : va_G} {cy : Nat → ClassId} {q : Nat → Nat} {G : GS} {sz : Nat} {nL : Nat} {Qc : Array Value → State → Outcome → State → Prop}
/-- two printed words that no JDK 17 meets (the super's index is 13), and what stands in their place -/
def bad1 : Cond := Cond.methodLink nsE 7 (Bundle.initS "java/lang/RuntimeException")
def bad2 : Cond := Cond.code (Bundle.initS nsE) Bundle.six 2 none
def noBad (w : Cond) : Bool := decide (w ≠ bad1) && decide (w ≠ bad2)
abbrev nsRx : ByteArray := prog_17_method_4_code
def exN : List Cond := [Cond.methodLink nsE 13 (Bundle.initS "java/lang/RuntimeException"), Cond.code (Bundle.initS nsE) nsRx 2 none]
def wsX6_lookB : List Cond := .code yX6_look cX6_look 3 (some .int) :: (wsX6_look.filter noBad ++ exN)
def wsL_lookB : List Cond := .codeWith yL_look cL_look 5 (some .int) [(0, 10, 13, 13)] :: (wsL_look.filter noBad ++ exN)
abbrev nsAt : List Cond := (xAt RX6 155 nsE 13 nsRx "java/lang/RuntimeException" ["java/lang/Exception"]).filter vx_no
theorem ns_x0 : decode nsRx 0 = .ok (.aload_n 0, 1) := by decide +kernel
theorem ns_x1 : decode nsRx 1 = .ok (.aload_n 1, 1) := by decide +kernel
theorem ns_x2 : decode nsRx 2 = .ok (.invokespecial 13, 3) := by decide +kernel
theorem ns_x5 : decode nsRx 5 = .ok (.return_, 1) := by decide +kernel
theorem ns_bad : ∀ w ∈ nsAt.filter (fun w => !goodWord w), w ∈ [Cond.declares (Bundle.initS "java/lang/RuntimeException"), Cond.declares (Bundle.initS "java/lang/Exception"), Cond.declares (Bundle.initS Bundle.tN)] := by decide +kernel
theorem ns_good : ∀ w ∈ Cond.classLink RX6 151 nsE :: Cond.initialized nsE :: nsAt, vx_ot w = true := by decide +kernel
theorem ns_in : ∀ w ∈ nsAt.filter goodWord, w ∈ ((vx_atS RX6 155 nsE nsN).filter goodWord).filter noBad ++ exN := by decide +kernel
theorem ns_in6 : ∀ w ∈ nsAt.filter goodWord, w ∈ wsX6_lookB := fun w h => by
  rcases List.mem_append.mp (ns_in w h) with h1 | h1
  · obtain ⟨h2, h3⟩ := List.mem_filter.mp h1
    exact List.mem_cons_of_mem _ (List.mem_append_left _ (List.mem_filter.mpr ⟨List.mem_cons_of_mem _ (List.mem_append_right _ h2), h3⟩))
  · exact List.mem_cons_of_mem _ (List.mem_append_right _ h1)
theorem mBk {w : Cond} (h : w ∈ wsX6_look) (hn : noBad w = true) : w ∈ wsX6_lookB := List.mem_cons_of_mem _ (List.mem_append_left _ (List.mem_filter.mpr ⟨h, hn⟩))
theorem noX6 : ∀ w ∈ wsX60, noBad w = true := by decide +kernel
theorem good_up {big ws ex : List Cond} {h : Cond} (hg : GoodIn big ws) (hn : ws.all noBad = true) : GoodIn (h :: (big.filter noBad ++ ex)) ws := fun w hw => ⟨List.mem_cons_of_mem _ (List.mem_append_left _ (List.mem_filter.mpr ⟨(hg w hw).1, List.all_eq_true.mp hn w hw⟩)), (hg w hw).2⟩
theorem good_up2 {big ws ex : List Cond} (hg : GoodIn big ws) (hn : ws.all noBad = true) : GoodIn (big.filter noBad ++ ex) ws := fun w hw => ⟨List.mem_append_left _ (List.mem_filter.mpr ⟨(hg w hw).1, List.all_eq_true.mp hn w hw⟩), (hg w hw).2⟩
theorem gX6_lookB_X3_has : GoodIn wsX6_lookB (wsV RX6 111 RX3 yX3_has wsX3_has) := good_up gX6_look_X3_has (by decide +kernel)
theorem gX6_lookB_X3_versionOf : GoodIn wsX6_lookB (wsV RX6 158 RX3 yX3_versionOf wsX3_versionOf) := good_up gX6_look_X3_versionOf (by decide +kernel)
theorem gX6_lookB_X3_lengthOf : GoodIn wsX6_lookB (wsV RX6 161 RX3 yX3_lengthOf wsX3_lengthOf) := good_up gX6_look_X3_lengthOf (by decide +kernel)
theorem gX6_lookB_X3_fixedAt : GoodIn wsX6_lookB (wsV RX6 164 RX3 yX3_fixedAt wsX3_fixedAt) := good_up gX6_look_X3_fixedAt (by decide +kernel)
theorem gX6_lookB_X6_cameBack : GoodIn wsX6_lookB (wsV RX6 167 RX6 yX6_cameBack wsX6_cameBack) := good_up gX6_look_X6_cameBack (by decide +kernel)
theorem gX6_lookB_X1_sizeBeside : GoodIn wsX6_lookB (wsV RX6 170 RX1 yX1_sizeBeside wsX1_sizeBeside) := good_up gX6_look_X1_sizeBeside (by decide +kernel)
theorem exN_good : exN.all goodWord = true := by decide +kernel
theorem exN_ok {big : List Cond} (h : ∀ w ∈ exN, w ∈ big) : GoodIn big exN := goodIn_sub h exN_good
theorem good_fil {big ws ex : List Cond} {h : Cond} (hg : GoodIn big ws) : GoodIn (h :: (big.filter noBad ++ ex)) (ws.filter noBad) := fun w hw => by
  obtain ⟨h1, h2⟩ := List.mem_filter.mp hw
  exact ⟨List.mem_cons_of_mem _ (List.mem_append_left _ (List.mem_filter.mpr ⟨(hg w h1).1, h2⟩)), (hg w h1).2⟩
theorem good_fil2 {big ws ex : List Cond} (hg : GoodIn big ws) : GoodIn (big.filter noBad ++ ex) (ws.filter noBad) := fun w hw => by
  obtain ⟨h1, h2⟩ := List.mem_filter.mp hw
  exact ⟨List.mem_append_left _ (List.mem_filter.mpr ⟨(hg w h1).1, h2⟩), (hg w h1).2⟩
theorem good_cons {big ws : List Cond} {h : Cond} (h1 : GoodIn big [h]) (h2 : GoodIn big ws) : GoodIn big (h :: ws) := fun w hw => (List.mem_cons.mp hw).elim (fun e => h1 w (List.mem_singleton.mpr e)) (h2 w)
theorem good_one {big ws : List Cond} {h : Cond} (hg : GoodIn big (h :: ws)) : GoodIn big [h] := fun w hw => hg w (List.mem_cons.mpr (Or.inl (List.mem_singleton.mp hw)))
theorem ggL_lookB : GoodIn wsL_lookB wsX6_lookB := good_cons (good_up (good_one ggL_look_X6_look) (by decide +kernel)) (goodIn_app (good_fil ggL_look_X6_look) (exN_ok (fun w h => List.mem_cons_of_mem _ (List.mem_append_right _ h))))
theorem gL_lookB_X6_look : GoodIn wsL_lookB (wsV RL 7 RX6 yX6_look wsX6_lookB) := goodIn_app (good_up (fun w h => gL_look_X6_look w (List.mem_append_left _ h)) (by decide +kernel)) ggL_lookB
theorem x_throwS {R : Room} {rest : List Value} {XC : String → State → State → Prop} {cells slots : Nat} {free : Addr → Prop} (hexec : p.tables.exec = Jvm.exec) (hb : c.code = cc) (hl : l.stackTraces = false) {own cls text Y : String} {names : List String} {ik is ic ix mc ms sa : Nat} {rx : ByteArray} {A : Nat → Prop}
    (x0 : decode rx 0 = .ok (.aload_n 0, 1)) (x1 : decode rx 1 = .ok (.aload_n 1, 1)) (x2 : decode rx 2 = .ok (.invokespecial ix, 3)) (x5 : decode rx 5 = .ok (.return_, 1))
    (hown : s.vm.findClass own = some m.cls) (hcls : Bundle.fit cls = true) (hY : Bundle.fit Y = true) (hnames : ∀ n ∈ names, Bundle.fit n = true)
    (hk : (Cond.classLink own ik cls).before args s = true) (hini : (Cond.initialized cls).before args s = true) (hstr : vk_R own is text sa s) (hat : ∀ w ∈ (xAt own ic cls ix rx Y names).filter vx_no, w.before args s = true)
    (hgood : ∀ w ∈ Cond.classLink own ik cls :: Cond.initialized cls :: (xAt own ic cls ix rx Y names).filter vx_no, vx_ot w = true)
    (hU : vx_Zq Bundle.tN "UNASSIGNED_STACK" Bundle.steD A s s.heap) (hN : vx_Zq Bundle.tN "SUPPRESSED_SENTINEL" Bundle.listD A s s.heap) (hS : va_S A s.heap H locs) (hsize : ls.size = c.maxLocals)
    (d0 : decode cc pc = .ok (.new ik, 3)) (d3 : decode cc (pc + 3) = .ok (.dup, 1)) (d4 : decode cc (pc + 4) = .ok (.ldc is, 2)) (d6 : decode cc (pc + 6) = .ok (.invokespecial ic, 3)) (d9 : decode cc (pc + 9) = .ok (.athrow, 1))
    (hout : ∀ x ∈ c.exceptionTable.toList, covers x (pc + 9) = false)
    (hRframes : names.length + 4 < R.frames) (hRlocals : (rest.map fun v => v.category).sum + (13 * (names.length + 2) + 43) ≤ R.locals) (hRcells : cells + 1 ≤ R.cells) (hRslots : slots + 6 ≤ R.slots) (hlocks : meth.locks = false)
    (hx : ∀ t : State, s.vm.Alike t.vm → H.size ≤ t.heap.size → (∀ q : Nat, q < H.size → t.heap[q]? = H[q]?) → XC cls s t)
    (hf : ∀ z ∈ locs, free z.base) (hc : cells + 1 ≤ mc) (hs : slots + 6 ≤ ms) :
    W p l e R s m args below meth c H locs cells slots (vx_MQ below Qc XC args s mc ms free) (F0 m pc ls rest) := by
  intro T hT X
  have htr : e.platform.stackTraces = false := (show e.platform.stackTraces = l.stackTraces by rw [X.admits.platform]).trans hl
  have Yr := vx_rebase X (R' := { frames := R.frames, locals := R.locals, cells := 1, slots := 6 }) (Nat.le_refl _) (Nat.le_refl _) hRcells hRslots
  obtain ⟨s', hA⟩ : ∃ z, z = (T.setVm s.vm).setFrames (.invoking m args :: below) := ⟨_, rfl⟩
  rw [← hA] at Yr
  have hvm : s'.vm = s.vm := by rw [hA]; rfl
  have hhp : s'.heap = H := by rw [hA]; exact hT
  have hW0 : s.WarmedH s'.vm := by rw [hvm]; exact State.WarmedH.refl s
  have hat' : ∀ w ∈ (xAt own ic cls ix rx Y names).filter vx_no, w.before args s' = true := fun w hw => vx_ot_at hW0 hvm.symm (hgood w (List.mem_cons_of_mem _ (List.mem_cons_of_mem _ hw))) (hat w hw)
  have hk' : (Cond.classLink own ik cls).before args s' = true := vx_ot_at hW0 hvm.symm (hgood _ List.mem_cons_self) hk
  have hini' : (Cond.initialized cls).before args s' = true := vx_ot_at hW0 hvm.symm (hgood _ (List.mem_cons_of_mem _ List.mem_cons_self)) hini
  have hU' : vx_Zq Bundle.tN "UNASSIGNED_STACK" Bundle.steD A s' s'.heap := by rw [hhp]; exact vx_Zq.moved hW0.alike (hU.kept hS.2.1)
  have hN' : vx_Zq Bundle.tN "SUPPRESSED_SENTINEL" Bundle.listD A s' s'.heap := by rw [hhp]; exact vx_Zq.moved hW0.alike (hN.kept hS.2.1)
  have h : ∀ w ∈ xAt own ic cls ix rx Y names, w.before args s' = true := vx_own hat' (vx_isRefq hU'.1) (vx_isRefq hN'.1) hU'.2.word hN'.2.word
  have hown' : s'.vm.findClass own = some m.cls := by rw [hvm]; exact hown
  have hins : (Cond.instantiable cls 6).before args s' = true := h _ (by simp [xAt])
  obtain ⟨vm₁, cX, kX, hfX, hkX, -, -, X₁, st1⟩ := Yr.newCold hexec (own := own) (C := cls) (index := ik) (n := 6) hown' hk' hins hini'
    (g := F0 m pc ls rest) rfl (by rw [hb]; exact d0) (Nat.le_refl _) (Nat.le_refl _)
  generalize hT1 : (T.setVm vm₁).pushCell { cls := cX, slots := kX.instanceTypes.map defaultValue, vm := .none } = T1 at X₁ st1
  have hcat : (Value.ref T.heap.size).category = 1 := rfl
  have hcellA : T1.heap[T.heap.size]? = some (freshCell cX kX) := by rw [← hT1]; exact State.heap_pushCell_size _ _
  have d3' : decode c.code (pc + 3) = .ok (.dup, 1) := by rw [hb]; exact d3
  have d4' : decode c.code (pc + 4) = .ok (.ldc is, 2) := by rw [hb]; exact d4
  have hstr' : vk_R own is text sa s' := vk_R.warm hW0 hstr
  obtain ⟨U, hsteps, hrun, hend, hW, hsame, ce, hce, hOv, hOc⟩ := x_ctor X₁ hexec htr (own := own) (cls := cls) (names := names) (ic := ic) x0 x1 x2 x5 hown' hcls hY hnames h (fun x hx => nomatch hx) hfX hkX hcellA (by rw [hhp, hT]; exact Nat.le_refl _) (msg := .ref sa) rfl
    (g := { method := m, pc := pc + 6, locals := ls, stack := .ref sa :: .ref T.heap.size :: .ref T.heap.size :: rest, locked := none }) rfl hsize rfl rfl (rest := rest) rfl
    (by rw [hb]; exact d6) (by rw [hb]; exact d9) hout hRframes (by simp only [List.map_cons, List.sum_cons, hcat]; show 2 * 0 + _ + _ ≤ R.locals; omega) hlocks
  obtain ⟨f1, f2⟩ := vx_frame hsame
  rw [hhp] at f1 f2
  have hWs : s.WarmedH U.vm := State.WarmedH.trans hW0 hW
  have hcl : s.vm.findClass cls = some ce.cls := by
    rw [hvm] at hOc
    exact hOc
  have hall : s.sameButNew ({ U with vm := s.vm } : State) locs mc ms := by
    subst hA
    obtain ⟨e1, e2⟩ := hsame
    rw [State.setFrames_setFrames] at e1
    have h2 : (T.setVm s.vm).sameButNew ({ U with vm := s.vm } : State) [] (0 + 1) (0 + 6) := ⟨e1, e2⟩
    have h3 := X.same.trans h2
    rw [List.append_nil] at h3
    exact h3.mono hc hs
  refine ⟨U, ?_, .threw T.heap.size, hrun, hend, Or.inr ⟨T.heap.size, rfl, cls, ce, locs, hx U hWs.alike f1 (fun q hq => f2 q hq (fun z hz => nomatch hz)), hce, hOv, hcl, hWs, hall, hf⟩⟩
  refine st1 _ ?_
  show Steps p.tables e below (T1.setTop { method := m, pc := pc + 3, locals := ls, stack := .ref T.heap.size :: rest, locked := none }) _
  jvm_step X₁.here [X₁.here.top, hexec, d3', Value.category]
  exact X₁.ldcString hexec (own := own) (text := text) (index := is) (a := sa) hown' hstr'.1 hstr'.2
    (g := { method := m, pc := pc + 4, locals := ls, stack := .ref T.heap.size :: .ref T.heap.size :: rest, locked := none }) rfl d4' _ hsteps
theorem ns_throw {text : String} {is : Nat} {px : GS → Prop} (hl0 : l.stackTraces = false) (X : gC p s m args c cc nL wsX6_lookB RX6 D cy) (hw : gH D cy q (gA q sz) s.heap G H locs) (hsz : ls.size = nL) (ht : ∀ x ∈ c.exceptionTable.toList, False) (hn : nsP s) (hz : nsZ (gA q sz) s s.heap) (hs : ∃ sa, vk_R RX6 is text sa s) (h : px G) (hlk : meth.locks = false)
    (d0 : decode cc pc = .ok (.new 151, 3)) (d3 : decode cc (pc + 3) = .ok (.dup, 1)) (d4 : decode cc (pc + 4) = .ok (.ldc is, 2)) (d6 : decode cc (pc + 6) = .ok (.invokespecial 155, 3)) (d9 : decode cc (pc + 9) = .ok (.athrow, 1)) {rest : List Value} (hrest : rest = []) (hf : 6 ≤ R.frames) (hlo : 82 ≤ R.locals) (hc : 1 ≤ R.cells) (hsl : 6 ≤ R.slots) : W p l e R s m args below meth c H locs 0 0 (vx_MQ below Qc (nsX D cy q sz px) args s 1 6 (gA q sz)) (F0 m pc ls rest) := by
  subst hrest
  obtain ⟨⟨hx, hb, hml, hown, hts⟩, hK⟩ := X
  obtain ⟨sa, hs⟩ := hs
  obtain ⟨n1, n2, n3, n4, -, -⟩ := hn
  refine x_throwS (cls := nsE) (Y := "java/lang/RuntimeException") (names := ["java/lang/Exception"]) (A := gA q sz) hx hb hl0 ns_x0 ns_x1 ns_x2 ns_x5 hown (by decide +kernel) (by decide +kernel) (by decide +kernel) (hts _ (mBk (List.mem_cons_of_mem _ (List.mem_append_left _ (List.mem_append_left _ (List.mem_append_left _ (List.mem_append_left _ (List.mem_append_left _ (List.mem_append_left _ (List.mem_of_getElem? (i := 0) rfl)))))))) (by decide +kernel)))
    (hts _ (mBk (List.mem_cons_of_mem _ (List.mem_append_left _ (List.mem_append_left _ (List.mem_append_left _ (List.mem_append_left _ (List.mem_append_left _ (List.mem_append_left _ (List.mem_of_getElem? (i := 1) rfl)))))))) (by decide +kernel))) hs
    (vx_hat (fun w h9 => hts w (ns_in6 w h9)) ns_bad (vx_c (va_Nw.use rfl n2) (vx_c (va_Nw.use rfl n3) (vx_c (va_Nw.use rfl n4) vx_n)))) ns_good hz.1 hz.2 hw.2.2 (hsz.trans hml.symm) d0 d3 d4 d6 d9 (fun x hx => (ht x hx).elim) (show 1 + 4 < R.frames by omega) (show 0 + (13 * (1 + 2) + 43) ≤ R.locals by omega) (by omega) (by omega) hlk
    (fun t hvm h1 h2 => ⟨G, h, ⟨rfl, hw.1.kept (fun k x hx => h2 x.1 ((hw.1 k x hx).lt)), va_K.moved hvm hK, hw.2.1⟩, Nat.le_trans hw.2.2.1 h1, fun a h3 h4 => (h2 a (Nat.lt_of_lt_of_le h3 hw.2.2.1)).trans (hw.2.2.2.1 a h3 h4)⟩) hw.2.2.2.2 (Nat.le_refl _) (Nat.le_refl _)
end NT
abbrev rmX6_look : Room := { frames := 6, cells := 1, slots := 6, locals := 82 }
def wp_X6_look (G : GS) (x1 x2 : Int32) (post : Int32 → GS → Prop) (px : GS → Prop) : Prop :=
  wp_X3_has G x1 (fun r_2 G_1 => (¬ r_2 = 0 → ((x2 = 0 → (wp_X3_versionOf G_1 x1 (fun r_5 G_4 => post r_5 G_4))) ∧ (x2 = 1 → (wp_X3_lengthOf G_1 x1 (fun r_7 G_6 => post r_7 G_6))) ∧ (x2 = 2 → (wp_X3_fixedAt G_1 x1 (fun r_9 G_8 => post r_9 G_8))) ∧ (x2 = 3 → (wp_X6_cameBack G_1 x1 (fun r_11 G_10 => (r_11 = 0 → (post 0 G_10)) ∧ (¬ (r_11 = 0) → (post 1 G_10))))) ∧ (x2 = 4 → (wp_X1_sizeBeside G_1 x1 (fun r_14 G_13 => post r_14 G_13))) ∧ (¬ x2 = 0 → ¬ x2 = 1 → ¬ x2 = 2 → ¬ x2 = 3 → ¬ x2 = 4 → (px G_1)))) ∧ (r_2 = 0 → (px G_1)))
set_option maxHeartbeats 4000000 in
set_option maxRecDepth 100000 in
theorem m_X6_look (l : Launch) (hl0 : l.stackTraces = false) (D : va_G) (cy : Nat → ClassId) (q : Nat → Nat) (G : GS) (x1 x2 : Int32) (post : Int32 → GS → Prop) (px : GS → Prop) (h : wp_X6_look G x1 x2 post px) (sz : Nat) : vx_Met l yX6_look wsX6_lookB rmX6_look (va_Pc [.ref (q 0), .int x1, .int x2] (gPreX D cy q G sz)) (va_Qi post (gPo D cy q sz) (gA q sz)) (nsX D cy q sz px) 1 6 (gA q sz) := by
  refine vx_ofW (cc := cX6_look) (maxL := 3) (ret := (some .int)) (by decide) rfl ?_
  intro p e s m args below meth c s₁ B hml ht hv
  obtain ⟨hv0, hv1, hn9, hz9⟩ := hv
  obtain ⟨ha, hsz, X, hw, hA, hr, hlk⟩ := g_start B hml ⟨hv0, hv1⟩
  have hx := X.1.1
  have hb := X.1.2.1
  have hown := X.1.2.2.2.1
  have hts := X.1.2.2.2.2
  have hs1 := hn9.2.2.2.2.1
  have hs2 := hn9.2.2.2.2.2
  refine g_in ha (Nat.le_of_ble_eq_true rfl) (fun ls hl => ?_)
  have hl : lv_has ls 3 [(0, .ref (q 0)), (1, .int x1), (2, .int x2)] := hl
  unfold wp_X6_look at h
  have hinX6 : ∀ w ∈ wsX60, w ∈ wsX6_lookB := fun w h9 => mBk (List.mem_cons_of_mem _ (List.mem_append_left _ (List.mem_append_left _ (List.mem_append_left _ (List.mem_append_left _ (List.mem_append_right _ h9)))))) (noX6 w h9)
  refine lv_aload_n hx hb dX6_look_0 rfl (lv_at hl 0 rfl) ?_
  refine g_get 0 2 (v := .ref (q 3)) (C := RX6) (T := TX6) (N := 6) X hw (by decide) hinX6 rfl (by decide) (mBk (List.mem_cons_of_mem _ (List.mem_append_left _ (List.mem_append_left _ (List.mem_append_left _ (List.mem_append_left _ (List.mem_append_left _ (List.mem_append_left _ (List.mem_of_getElem? (i := 2) rfl)))))))) (by decide +kernel)) rfl dX6_look_1 ?_
  refine lv_iload_n hx hb dX6_look_4 rfl (lv_at hl 1 rfl) ?_
  refine g_callVi 3 (C := RX3) (T := TX3) (N := 6) (As := [.int x1]) (rest := []) X hw hA (m_X3_has l D cy q G x1 _ h) (by decide) rfl (cwV 1 hts gX6_lookB_X3_has rfl rfl rfl (by decide +kernel) ⟨Nat.le_of_ble_eq_true rfl, Nat.le_of_ble_eq_true rfl⟩) rfl hl.1 rfl (Nat.le_of_ble_eq_true rfl) dX6_look_5 ⟨Nat.zero_le _, Nat.zero_le _⟩ (fun r_2 G_1 H locs h hw => ?_)
  refine lv_if_ne (tgt := 21) hx hb dX6_look_8 (by decide) (fun c8_2 => ?_) (fun c8_2 => ?_)
  · have h := h.1 c8_2
    refine lv_iload_n hx hb dX6_look_21 rfl (lv_at hl 2 rfl) ?_
    by_cases c22_0 : x2 = 0
    · have h := h.1 c22_0
      refine lv_tableIn (off := 34) (tgt := 56) hx hb dX6_look_22 (by rw [c22_0]; decide) (by rw [c22_0]; decide) (by rw [c22_0]; rfl) (by decide) ?_
      refine lv_aload_n hx hb dX6_look_56 rfl (lv_at hl 0 rfl) ?_
      refine g_get 0 2 (v := .ref (q 3)) (C := RX6) (T := TX6) (N := 6) X hw (by decide) hinX6 rfl (by decide) (mBk (List.mem_cons_of_mem _ (List.mem_append_left _ (List.mem_append_left _ (List.mem_append_left _ (List.mem_append_left _ (List.mem_append_left _ (List.mem_append_left _ (List.mem_of_getElem? (i := 2) rfl)))))))) (by decide +kernel)) rfl dX6_look_57 ?_
      refine lv_iload_n hx hb dX6_look_60 rfl (lv_at hl 1 rfl) ?_
      refine g_callVi 3 (C := RX3) (T := TX3) (N := 6) (As := [.int x1]) (rest := []) X hw hA (m_X3_versionOf l D cy q G_1 x1 _ h) (by decide) rfl (cwV 1 hts gX6_lookB_X3_versionOf rfl rfl rfl (by decide +kernel) ⟨Nat.le_of_ble_eq_true rfl, Nat.le_of_ble_eq_true rfl⟩) rfl hl.1 rfl (Nat.le_of_ble_eq_true rfl) dX6_look_61 ⟨Nat.zero_le _, Nat.zero_le _⟩ (fun r_5 G_4 H locs h hw => ?_)
      exact W.widen (Nat.zero_le _) (Nat.zero_le _) (vx_ret (g_iret X hw hr hlk h dX6_look_64))
    by_cases c22_1 : x2 = 1
    · have h := h.2.1 c22_1
      refine lv_tableIn (off := 43) (tgt := 65) hx hb dX6_look_22 (by rw [c22_1]; decide) (by rw [c22_1]; decide) (by rw [c22_1]; rfl) (by decide) ?_
      refine lv_aload_n hx hb dX6_look_65 rfl (lv_at hl 0 rfl) ?_
      refine g_get 0 2 (v := .ref (q 3)) (C := RX6) (T := TX6) (N := 6) X hw (by decide) hinX6 rfl (by decide) (mBk (List.mem_cons_of_mem _ (List.mem_append_left _ (List.mem_append_left _ (List.mem_append_left _ (List.mem_append_left _ (List.mem_append_left _ (List.mem_append_left _ (List.mem_of_getElem? (i := 2) rfl)))))))) (by decide +kernel)) rfl dX6_look_66 ?_
      refine lv_iload_n hx hb dX6_look_69 rfl (lv_at hl 1 rfl) ?_
      refine g_callVi 3 (C := RX3) (T := TX3) (N := 6) (As := [.int x1]) (rest := []) X hw hA (m_X3_lengthOf l D cy q G_1 x1 _ h) (by decide) rfl (cwV 1 hts gX6_lookB_X3_lengthOf rfl rfl rfl (by decide +kernel) ⟨Nat.le_of_ble_eq_true rfl, Nat.le_of_ble_eq_true rfl⟩) rfl hl.1 rfl (Nat.le_of_ble_eq_true rfl) dX6_look_70 ⟨Nat.zero_le _, Nat.zero_le _⟩ (fun r_7 G_6 H locs h hw => ?_)
      exact W.widen (Nat.zero_le _) (Nat.zero_le _) (vx_ret (g_iret X hw hr hlk h dX6_look_73))
    by_cases c22_2 : x2 = 2
    · have h := h.2.2.1 c22_2
      refine lv_tableIn (off := 52) (tgt := 74) hx hb dX6_look_22 (by rw [c22_2]; decide) (by rw [c22_2]; decide) (by rw [c22_2]; rfl) (by decide) ?_
      refine lv_aload_n hx hb dX6_look_74 rfl (lv_at hl 0 rfl) ?_
      refine g_get 0 2 (v := .ref (q 3)) (C := RX6) (T := TX6) (N := 6) X hw (by decide) hinX6 rfl (by decide) (mBk (List.mem_cons_of_mem _ (List.mem_append_left _ (List.mem_append_left _ (List.mem_append_left _ (List.mem_append_left _ (List.mem_append_left _ (List.mem_append_left _ (List.mem_of_getElem? (i := 2) rfl)))))))) (by decide +kernel)) rfl dX6_look_75 ?_
      refine lv_iload_n hx hb dX6_look_78 rfl (lv_at hl 1 rfl) ?_
      refine g_callVi 3 (C := RX3) (T := TX3) (N := 6) (As := [.int x1]) (rest := []) X hw hA (m_X3_fixedAt l D cy q G_1 x1 _ h) (by decide) rfl (cwV 1 hts gX6_lookB_X3_fixedAt rfl rfl rfl (by decide +kernel) ⟨Nat.le_of_ble_eq_true rfl, Nat.le_of_ble_eq_true rfl⟩) rfl hl.1 rfl (Nat.le_of_ble_eq_true rfl) dX6_look_79 ⟨Nat.zero_le _, Nat.zero_le _⟩ (fun r_9 G_8 H locs h hw => ?_)
      exact W.widen (Nat.zero_le _) (Nat.zero_le _) (vx_ret (g_iret X hw hr hlk h dX6_look_82))
    by_cases c22_3 : x2 = 3
    · have h := h.2.2.2.1 c22_3
      refine lv_tableIn (off := 61) (tgt := 83) hx hb dX6_look_22 (by rw [c22_3]; decide) (by rw [c22_3]; decide) (by rw [c22_3]; rfl) (by decide) ?_
      refine lv_aload_n hx hb dX6_look_83 rfl (lv_at hl 0 rfl) ?_
      refine lv_iload_n hx hb dX6_look_84 rfl (lv_at hl 1 rfl) ?_
      refine g_callVi 0 (C := RX6) (T := TX6) (N := 6) (As := [.int x1]) (rest := []) X hw hA (m_X6_cameBack l D cy q G_1 x1 _ h) (by decide) rfl (cwV 1 hts gX6_lookB_X6_cameBack rfl rfl rfl (by decide +kernel) ⟨Nat.le_of_ble_eq_true rfl, Nat.le_of_ble_eq_true rfl⟩) rfl hl.1 rfl (Nat.le_of_ble_eq_true rfl) dX6_look_85 ⟨Nat.zero_le _, Nat.zero_le _⟩ (fun r_11 G_10 H locs h hw => ?_)
      refine lv_if_eq (tgt := 95) hx hb dX6_look_88 (by decide) (fun c88_11 => ?_) (fun c88_11 => ?_)
      · have h := h.1 c88_11
        refine lv_iconst (v := 0) hx hb dX6_look_95 (by decide) ?_
        exact W.widen (Nat.zero_le _) (Nat.zero_le _) (vx_ret (g_iret X hw hr hlk h dX6_look_96))
      · have h := h.2 c88_11
        refine lv_iconst (v := 1) hx hb dX6_look_91 (by decide) ?_
        refine lv_goto (tgt := 96) hx hb dX6_look_92 (by decide) ?_
        exact W.widen (Nat.zero_le _) (Nat.zero_le _) (vx_ret (g_iret X hw hr hlk h dX6_look_96))
    by_cases c22_4 : x2 = 4
    · have h := h.2.2.2.2.1 c22_4
      refine lv_tableIn (off := 75) (tgt := 97) hx hb dX6_look_22 (by rw [c22_4]; decide) (by rw [c22_4]; decide) (by rw [c22_4]; rfl) (by decide) ?_
      refine lv_aload_n hx hb dX6_look_97 rfl (lv_at hl 0 rfl) ?_
      refine g_get 0 4 (v := .ref (q 5)) (C := RX6) (T := TX6) (N := 6) X hw (by decide) hinX6 rfl (by decide) (mBk (List.mem_cons_of_mem _ (List.mem_append_left _ (List.mem_append_left _ (List.mem_append_left _ (List.mem_append_left _ (List.mem_append_left _ (List.mem_append_left _ (List.mem_of_getElem? (i := 3) rfl)))))))) (by decide +kernel)) rfl dX6_look_98 ?_
      refine lv_iload_n hx hb dX6_look_101 rfl (lv_at hl 1 rfl) ?_
      refine g_callVi 5 (C := RX1) (T := TX1) (N := 15) (As := [.int x1]) (rest := []) X hw hA (m_X1_sizeBeside l D cy q G_1 x1 _ h) (by decide) rfl (cwV 1 hts gX6_lookB_X1_sizeBeside rfl rfl rfl (by decide +kernel) ⟨Nat.le_of_ble_eq_true rfl, Nat.le_of_ble_eq_true rfl⟩) rfl hl.1 rfl (Nat.le_of_ble_eq_true rfl) dX6_look_102 ⟨Nat.zero_le _, Nat.zero_le _⟩ (fun r_14 G_13 H locs h hw => ?_)
      exact W.widen (Nat.zero_le _) (Nat.zero_le _) (vx_ret (g_iret X hw hr hlk h dX6_look_105))
    have h := h.2.2.2.2.2 c22_0 c22_1 c22_2 c22_3 c22_4
    have n0 := lv_neT (a := 0) c22_0 rfl
    have n1 := lv_neT (a := 1) c22_1 rfl
    have n2 := lv_neT (a := 2) c22_2 rfl
    have n3 := lv_neT (a := 3) c22_3 rfl
    have n4 := lv_neT (a := 4) c22_4 rfl
    refine lv_tableOut (tgt := 106) hx hb dX6_look_22 (by omega) (by decide) ?_
    exact ns_throw hl0 X hw hl.1 ht hn9 hz9 hs2 h hlk dX6_look_106 dX6_look_109 dX6_look_110 dX6_look_112 dX6_look_115 rfl (Nat.le_of_ble_eq_true rfl) (Nat.le_of_ble_eq_true rfl) (Nat.le_of_ble_eq_true rfl) (Nat.le_of_ble_eq_true rfl)
  · have h := h.2 c8_2
    exact ns_throw hl0 X hw hl.1 ht hn9 hz9 hs1 h hlk dX6_look_11 dX6_look_14 dX6_look_15 dX6_look_17 dX6_look_20 rfl (Nat.le_of_ble_eq_true rfl) (Nat.le_of_ble_eq_true rfl) (Nat.le_of_ble_eq_true rfl) (Nat.le_of_ble_eq_true rfl)
/-- a method with a table of its own that only returns -/
theorem ofWH {l : Launch} {y : MethodName} {ws ws' : List Cond} {rm : Room} {Pc : Array Value → State → Prop} {Qc : Array Value → State → Outcome → State → Prop} {mc ms : Nat} {free : Addr → Prop} {cc : ByteArray} {maxL : Nat} {ret : Option FieldType} {hh : List (Nat × Nat × Nat × Nat)}
    (hy : plainName y.cls = true) (hw : ws = Cond.codeWith y cc maxL ret hh :: ws')
    (body : ∀ p e s m args below meth c s₁, BodyLoose p l y (headSpec ws rm) cc maxL ret e s m args below meth c s₁ → c.maxLocals = maxL → Pc args s →
      W p l e (headSpec ws rm).room s m args below meth c s.heap [] 0 0 (MQ below Qc args s mc ms free) (entryFrame m args maxL)) : Met l y ws rm Pc Qc mc ms free := by
  refine MetFree.of_bodyS (code := cc) (maxLocals := maxL) (ret := ret) hy ?_ ?_
  · intro args s m h hn
    obtain ⟨m9, meth, c, hn9, h1, h2, h3, h4, -, h5, h6, -⟩ := Cond.codeWith_spec (atoms_spec (ws := ws) h _ (by rw [hw]; exact List.mem_cons_self))
    cases hn.symm.trans hn9
    exact ⟨meth, c, h1, h2, h3, h4, h5, h6⟩
  · intro p e s m args below meth c s₁ B hml hP _
    have hh0 : s₁.heap = s.heap := by rw [B.state]; rfl
    obtain ⟨t, a1, o, b1, b2, b3⟩ := body p e s m args below meth c s₁ B hml hP s₁ hh0 (Stand.of_body B)
    exact ⟨t, o, a1, b1, b2, ⟨b3.1, b3.2⟩⟩
abbrev rmL_look : Room := { frames := 7, cells := 1, slots := 6, locals := 104 }
def wp_L_look (G : GS) (x1 x2 : Int32) (post : Int32 → GS → Prop) : Prop := wp_X6_look G x1 x2 (fun r G1 => post 0 (sL G1 40 0 (Int32.toInt64 r))) (fun G1 => post 1 G1)
set_option maxHeartbeats 4000000 in
set_option maxRecDepth 100000 in
theorem m_L_look (l : Launch) (hl0 : l.stackTraces = false) (D : va_G) (cy : Nat → ClassId) (q : Nat → Nat) (G : GS) (x1 x2 : Int32) (post : Int32 → GS → Prop) (h : wp_L_look G x1 x2 post) (sz : Nat) : Met l yL_look wsL_lookB rmL_look (va_Pc [.ref (q 0), .int x1, .int x2, .ref (q 40)] (gPreX D cy q G sz)) (va_Qi post (gPo D cy q sz) (gA q sz)) 1 6 (gA q sz) := by
  refine ofWH (cc := cL_look) (maxL := 5) (ret := some .int) (by decide) rfl ?_
  intro p e s m args below meth c s₁ B hml hv
  obtain ⟨hv0, hv1, hn9, hz9⟩ := hv
  obtain ⟨ha, hsz, X, hw, hA, hr, hlk⟩ := g_start B hml ⟨hv0, hv1⟩
  have hx := X.1.1
  have hb := X.1.2.1
  have hown := X.1.2.2.2.1
  have hts := X.1.2.2.2.2
  have htb : c.exceptionTable.toList = tableOf [(0, 10, 13, 13)] := vx_table (x := yL_look) B (hts _ List.mem_cons_self)
  refine g_in ha (Nat.le_of_ble_eq_true rfl) (fun ls hl => ?_)
  have hl : lv_has ls 5 [(0, .ref (q 0)), (1, .int x1), (2, .int x2), (3, .ref (q 40))] := hl
  unfold wp_L_look at h
  refine lv_aload_n hx hb dL_look_0 rfl (lv_at hl 3 rfl) ?_
  refine lv_iconst (v := 0) hx hb dL_look_1 (by decide) ?_
  refine lv_aload_n hx hb dL_look_2 rfl (lv_at hl 0 rfl) ?_
  refine lv_iload_n hx hb dL_look_3 rfl (lv_at hl 1 rfl) ?_
  refine lv_iload_n hx hb dL_look_4 rfl (lv_at hl 2 rfl) ?_
  have he : (gW cy q G)[0]? = some (q 0, .inr ((gO q 0 (G.1 0)).1, (gO q 0 (G.1 0)).2)) := by rw [gW_at (by omega), gE_o (by omega)]
  refine vx_calli (vx_runV (As := [.int x1, .int x2]) (rest := [.int 0, .ref (q 40)]) X.1 (m_X6_look l hl0 D cy q G x1 x2 _ _ h s.heap.size) (cwV 2 hts gL_lookB_X6_look rfl rfl rfl (by decide +kernel) ⟨Nat.le_of_ble_eq_true rfl, Nat.le_of_ble_eq_true rfl⟩)
    ⟨gPreX_blind, va_recv X.2 hw.1 (ci := 6) (q := (RX6, TX6, 6)) rfl he, fun U hU hW => ⟨rfl, ⟨by rw [hU], by rw [hU]; exact hw.1, va_K.moved hW.alike X.2, hw.2.1.weaken (fun _ _ _ _ => trivial)⟩, hn9.warm hW, by rw [hU]; exact (hz9.narrow (fun x => by rw [hsz]; exact id)).moved hW.alike⟩⟩ rfl rfl hl.1 rfl (lv_room (Nat.le_of_ble_eq_true rfl)) dL_look_5 ⟨Nat.le_of_ble_eq_true rfl, Nat.le_of_ble_eq_true rfl⟩) hw.2.2 (fun x _ h => gA_in hw hA x h) (gA_in hw hA) (fun x _ h => gA_in hw hA x h)
    (fun E ce q9 G1 t H1 locs1 ht hvm hp hB hz1 hk1 hS1 hce hcv hcl => ?_) (fun r G1 t H1 locs1 ht hvm hp hB hz1 hk1 hS1 => ?_)
  · obtain ⟨rfl, hP1, hK1, hD1⟩ := hB
    rw [ht] at hP1
    have hw : gH D cy q (gA q sz) s.heap G1 H1 locs1 := ⟨hP1, hD1.weaken (fun k z hk h => gA_in hw hA _ h), hS1⟩
    refine vx_catch (name := nsE) hown [] ⟨0, 10, 13, 13⟩ [] htb (fun z hz => nomatch hz) (by decide) (by decide) (hts _ (List.mem_cons_of_mem _ (List.mem_append_left _ (List.mem_filter.mpr ⟨List.mem_cons_of_mem _ (List.mem_append_left _ (List.mem_append_left _ (List.mem_append_left _ (List.mem_append_left _ (List.mem_append_left _ (List.mem_append_left _ (List.mem_of_getElem? (i := 0) rfl))))))), by decide +kernel⟩)))) (va_Nw.use rfl hn9.1) hce hcv hcl ?_
    refine lv_astore (lv' := [(4, .ref q9), (0, .ref (q 0)), (1, .int x1), (2, .int x2), (3, .ref (q 40))]) hx hb dL_look_13 hl (by decide) rfl (fun ls hl => ?_)
    refine lv_iconst (v := 1) hx hb dL_look_15 (by decide) ?_
    exact g_iret X hw hr hlk hp dL_look_16
  · obtain ⟨hP1, hK1, hD1⟩ := hB
    rw [ht] at hP1
    have hw : gH D cy q (gA q sz) s.heap G1 H1 locs1 := ⟨hP1, hD1.weaken (fun k z hk h => gA_in hw hA _ h), hS1⟩
    refine lv_i2l (v := Int32.toInt64 r) hx hb dL_look_8 rfl ?_
    refine g_last 40 1 0 X hw ⟨by decide, by decide⟩ rfl (by decide) rfl (by decide) dL_look_9 (fun H locs hw => ?_)
    refine lv_goto (tgt := 17) hx hb dL_look_10 (by decide) ?_
    refine lv_iconst (v := 0) hx hb dL_look_17 (by decide) ?_
    exact g_iret X hw hr hlk hp dL_look_18
