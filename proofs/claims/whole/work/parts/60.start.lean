/-! what is made at the start meets the invariant -/
theorem Inv_G0 : Inv G0 := by
  have z : ∀ a k, 21 ≤ a → G0.1 a k = 0 := fun a k h => by
    show i0 a k = 0
    rw [i0_0 h]
  have no : ∀ {P : Prop} {r : Nat}, r < 0 → P := fun h => absurd h (Nat.not_lt_zero _)
  refine ⟨1, fun _ => 0, fun v w => decide (v = w), 0, fun _ => 0, 0, fun _ => 0, fun _ _ => 0, fun _ => 0, fun _ => -1, 6, fun _ _ => 0, fun r => r, 0, 0, fun _ => 0, ?_, ?_, ?_⟩
  · refine ⟨⟨by omega, by omega, fun v h0 h1 => by omega, fun v hv w => ?_⟩, ⟨by omega, fun r h => no h⟩, fun r h => no h, by omega, fun a b => ⟨Nat.zero_le _, rfl⟩, ⟨by omega, fun r h => no h⟩⟩
    have e : v = 0 := by omega
    subst e
    simp
  · refine ⟨⟨by decide +kernel, fun v hv w hw => ?_⟩, ⟨by omega, fun k h => no h, by decide +kernel, fun k h => no h⟩, ⟨by decide +kernel, fun r h => no h, fun f hf i hi => ?_⟩, ⟨fun r h => no h, fun r h1 h2 => ?_, fun a b h => no h, fun a ha => z _ _ (by omega)⟩, ⟨by decide +kernel, by decide +kernel, fun r h => no h, fun h hh => no hh⟩, by decide +kernel, fun a b ha hb => (z _ _ (by omega)).trans (show (0 : Int32) = iI (wz 0) by decide +kernel), by decide +kernel, ⟨by omega, by decide +kernel, fun k h => no h⟩⟩
    · have e : v = 0 := by omega
      subst e
      have key : ∀ w, w < 32 → bt (i0 9 0) w = decide (0 = w) := by decide +kernel
      exact key w hw
    · show bl 0 i = (decide (i < 0) && _)
      rw [bl_0, decide_eq_false (by omega), Bool.false_and]
    · show (if r < 40 then (-1 : Int32) else 0) = -1
      rw [if_pos h2]
  · exact ⟨⟨by decide +kernel, by decide +kernel, fun v h0 h1 => by omega⟩, ⟨by omega, fun k h => no h, by decide +kernel, fun k h => no h⟩, ⟨by decide +kernel, fun r h => no h⟩, fun a b h => no h, fun r h => no h, by decide +kernel, fun a b ha hb => (z 31 _ (by omega)).trans nI_0.symm, by decide +kernel, ⟨by omega, by decide +kernel, fun k h => no h⟩⟩
/-- the classes of arrays -/
theorem arr_known {args : Array Value} {s : State} {ty : FieldType} (h : (Cond.arrayClass ty).before args s = true) : ∃ cA, ArrOfT s cA ty ∧ s.vm.findClass ("[" ++ ty.toString) = some cA := by
  obtain ⟨cA, k, comp, h1, h2, h3⟩ := Cond.arrayClass_spec (o := none) (idx := []) (show (Cond.arrayClass ty).holds args s none s [] = true from h)
  exact ⟨cA, fun n z => ⟨fun q hq => (by cases hq), k, h2, comp, h3⟩, h1⟩
theorem arr_known2 {args : Array Value} {s : State} {ty : FieldType} (h : (Cond.arrayOver (.array ty)).before args s = true) : ∃ cA, ArrOfT s cA (.array ty) ∧ s.vm.findClass ("[" ++ (FieldType.array ty).toString) = some cA := by
  obtain ⟨comp, cA, k, h0, h2, h3, h1⟩ := Cond.arrayOver_specA (o := none) (idx := []) (show (Cond.arrayOver (.array ty)).holds args s none s [] = true from h)
  exact ⟨cA, fun n z => ⟨fun q hq => (by cases hq), k, h2, comp, h3⟩, h1⟩
def LsAll : List Nat := (LsX6 ++ LsX7) ++ [40]
theorem LsAll_p : LsAll.Perm (List.range 301) := by decide +kernel
theorem Ls67_c : ∀ a ∈ LsX6 ++ LsX7, ∀ b ∈ rfs a, b ∈ LsX6 ++ LsX7 := by decide +kernel
theorem Ls67_d : ∀ a ∈ LsX7, a ∉ LsX6 := by decide +kernel
theorem Ls40_c : ∀ a ∈ [40], ∀ b ∈ rfs a, b ∈ [40] := by decide +kernel
theorem Ls40_d : ∀ a ∈ [40], a ∉ LsX6 ++ LsX7 := by decide +kernel
set_option maxHeartbeats 8000000 in
set_option maxRecDepth 100000 in
/-- THE LAW, from its entry -/
theorem whole_start {p : Program} {e : Env} {s : State} {m : MethodId} {below : List Frame} {meth : Method} {c : Code} (l : Launch) (hl0 : l.stackTraces = false) {b L : Nat} {xs : Nat → Int32} (hL : L ≤ 2048) (C0 : lw_At p s m meth c b L xs) : W p l e room_1 s m #[Value.ref b] below meth c s.heap [] 0 0 (lw_Z below #[Value.ref b] s) (entryFrame m ([Value.ref b] : List Value).toArray 7) := by
  obtain ⟨hx, hb, hr, hml, hown, hts, hX, hbl, hlocks, hgv⟩ := id C0
  have hfl := flat_of_before _ hgv
  obtain ⟨A, eA⟩ : ∃ A : Nat → Prop, A = (fun q : Nat => s.heap.size ≤ q) := ⟨_, rfl⟩
  have hA : ∀ q : Nat, s.heap.size ≤ q → A q := fun q h => by rw [eA]; exact h
  have hbA : ¬ A b := by rw [eA]; exact Nat.not_le.mpr hbl
  obtain ⟨k0, i0, hKn0⟩ := u_known (C := RX0) (T := TX0) (N := 5) (n := 5) hts lwx_X0 (hts (.instantiable RX0 5) (by decide +kernel))
  obtain ⟨k1, i1, hKn1⟩ := u_known (C := RX1) (T := TX1) (N := 15) (n := 15) hts lwx_X1 (hts (.instantiable RX1 15) (by decide +kernel))
  obtain ⟨k2, i2, hKn2⟩ := u_known (C := RX2) (T := TX2) (N := 5) (n := 5) hts lwx_X2 (hts (.instantiable RX2 5) (by decide +kernel))
  obtain ⟨k3, i3, hKn3⟩ := u_known (C := RX3) (T := TX3) (N := 6) (n := 6) hts lwx_X3 (hts (.instantiable RX3 6) (by decide +kernel))
  obtain ⟨k4, i4, hKn4⟩ := u_known (C := RX4) (T := TX4) (N := 2) (n := 2) hts lwx_X4 (hts (.instantiable RX4 2) (by decide +kernel))
  obtain ⟨k5, i5, hKn5⟩ := u_known (C := RX5) (T := TX5) (N := 2) (n := 2) hts lwx_X5 (hts (.instantiable RX5 2) (by decide +kernel))
  obtain ⟨k6, i6, hKn6⟩ := u_known (C := RX6) (T := TX6) (N := 6) (n := 6) hts lwx_X6 (hts (.instantiable RX6 6) (by decide +kernel))
  obtain ⟨k7, i7, hKn7⟩ := u_known (C := RX7) (T := TX7) (N := 31) (n := 31) hts lwx_X7 (hts (.instantiable RX7 31) (by decide +kernel))
  obtain ⟨D, hKc⟩ : ∃ D : va_G, ∀ (k : Nat) (q : vw_C), vwCl[k]? = some q → u_Kn s q.1 q.2.1 q.2.2 (D.1 k) (D.2 k) := by
    refine ⟨(fun k => if k = 0 then k0 else if k = 1 then k1 else if k = 2 then k2 else if k = 3 then k3 else if k = 4 then k4 else if k = 5 then k5 else if k = 6 then k6 else k7, fun k => if k = 0 then i0 else if k = 1 then i1 else if k = 2 then i2 else if k = 3 then i3 else if k = 4 then i4 else if k = 5 then i5 else if k = 6 then i6 else i7), ?_⟩
    intro k q hq
    match k, hq with
    | 0, hq => cases hq; exact hKn0
    | 1, hq => cases hq; exact hKn1
    | 2, hq => cases hq; exact hKn2
    | 3, hq => cases hq; exact hKn3
    | 4, hq => cases hq; exact hKn4
    | 5, hq => cases hq; exact hKn5
    | 6, hq => cases hq; exact hKn6
    | 7, hq => cases hq; exact hKn7
    | k + 8, hq => simp [vwCl] at hq
  obtain ⟨cI, aI, fI⟩ := arr_known (hts (.arrayClass .int) (by decide +kernel))
  obtain ⟨cZ, aZ, fZ⟩ := arr_known (hts (.arrayClass .boolean) (by decide +kernel))
  obtain ⟨cJ, aJ, fJ⟩ := arr_known (hts (.arrayClass .long) (by decide +kernel))
  have hover := hts (.arrayOver (.array .int)) (by decide +kernel)
  obtain ⟨cG, aG, fG⟩ := arr_known2 hover
  obtain ⟨cy, e0, e1, e2, e3⟩ : ∃ cy : Nat → ClassId, cy 0 = cI ∧ cy 1 = cZ ∧ cy 2 = cJ ∧ cy 3 = cG := ⟨fun k => if k = 0 then cI else if k = 1 then cZ else if k = 2 then cJ else cG, rfl, rfl, rfl, rfl⟩
  have hK : va_K D vwCl (gTy cy) s := ⟨hKc, fun k q hq => by
    match k, hq with
    | 0, hq => cases hq; rw [e0]; exact ⟨aI, fI⟩
    | 1, hq => cases hq; rw [e1]; exact ⟨aZ, fZ⟩
    | 2, hq => cases hq; rw [e2]; exact ⟨aJ, fJ⟩
    | 3, hq => cases hq; rw [e3]; exact ⟨aG, fG⟩
    | k + 4, hq => simp [gTy] at hq⟩
  have hns : nsP s := by
    obtain ⟨sa, _, _, _, h1, -⟩ := Cond.exactly_spec (o := none) (idx := []) (show (Cond.exactly (.string RX6 153) "java/lang/String").holds #[Value.ref b] s none s [] = true from hfl _ (by decide +kernel))
    obtain ⟨sb, _, _, _, h2, -⟩ := Cond.exactly_spec (o := none) (idx := []) (show (Cond.exactly (.string RX6 173) "java/lang/String").holds #[Value.ref b] s none s [] = true from hfl _ (by decide +kernel))
    exact ⟨va_Nw.of rfl (hts (.castable nsE nsE) (by decide +kernel)), va_Nw.of rfl (hts (.declares (Bundle.initS "java/lang/RuntimeException")) (by decide +kernel)), va_Nw.of rfl (hts (.declares (Bundle.initS "java/lang/Exception")) (by decide +kernel)), va_Nw.of rfl (hts (.declares (Bundle.initS Bundle.tN)) (by decide +kernel)), ⟨sa, vk_R.of (hts (.stringRef RX6 153 "no such report") (by decide +kernel)) h1⟩, sb, vk_R.of (hts (.stringRef RX6 173 "no such what") (by decide +kernel)) h2⟩
  have hnA : ∀ a : Nat, a < s.heap.size → ¬ A a := fun a h => by rw [eA]; exact Nat.not_le.mpr h
  have htn := hts (.initialized Bundle.tN) (by decide +kernel)
  have hnz : nsZ A s s.heap := ⟨vx_Zqof (hts (.laysStatic Bundle.tN "UNASSIGNED_STACK" Bundle.steD) (by decide +kernel)) htn (hfl (.isRef (.static Bundle.tN "UNASSIGNED_STACK" Bundle.steD)) (by decide +kernel)) hnA, vx_Zqof (hts (.laysStatic Bundle.tN "SUPPRESSED_SENTINEL" Bundle.listD) (by decide +kernel)) htn (hfl (.isRef (.static Bundle.tN "SUPPRESSED_SENTINEL" Bundle.listD)) (by decide +kernel)) hnA⟩
  have hE : E6 s := ⟨va_AOA.of hover, va_Nw.of rfl (hts (.methodLinkNest RX6 9 yX4_init "FaultHeaps") (by decide +kernel)), va_Nw.of rfl (hts (.methodLinkNest RX6 25 yX3_init "FaultHeaps") (by decide +kernel)), va_Nw.of rfl (hts (.methodLinkNest RX6 39 yX1_init "FaultHeaps") (by decide +kernel)), va_Nw.of rfl (hts (.methodLinkNest RX6 46 yX2_init "FaultHeaps") (by decide +kernel))⟩
  have X : gC p s m #[Value.ref b] c cL_law 7 wsL_lawB RL D cy := ⟨⟨hx, hb, hml, hown, fun w h => hts w (wsL_lawB_in w h)⟩, hK⟩
  have htB := X.1.2.2.2.2
  have hw : nH D A s.heap [] s.heap [] := ⟨fun k q h => by simp at h, ⟨fun i j p q h => by simp at h, fun k q h => by simp at h⟩, va_S.rf⟩
  have hl := lv_entry ([.ref b]) (n := 7) (Nat.le_of_ble_eq_true rfl)
  rw [lg_entry_eq]
  generalize (lg_sl ([.ref b]) ++ List.replicate (7 - (lg_sl ([.ref b])).length) Slot.unset).toArray = ls at hl ⊢
  have hl : lv_has ls 7 [(0, .ref b)] := hl
  have hin6 : ∀ w ∈ wsX60, w ∈ wsL_lawB := fun w h => inlB (inlX6 w h) (noX6 w h)
  have hin7 : ∀ w ∈ wsX70, w ∈ wsL_lawB := fun w h => inlB (inlX7 w h) (noX7 w h)
  refine n_new (ci := 6) (C := RX6) (T := TX6) (N := 6) (fs := [.null, .null, .null, .null, .null, .null]) (ty0 := tyX6) X hw hA hin6 tyX6_ok (inlB (List.mem_append_left _ (List.mem_append_left _ (List.mem_append_left _ (List.mem_append_left _ (List.mem_append_left _ (List.mem_append_left _ (List.mem_append_left _ (List.mem_append_left _ (List.mem_append_left _ (List.mem_append_left _ (List.mem_append_left _ (List.mem_of_getElem? (i := 0) rfl)))))))))))) (by decide +kernel)) (inlB (List.mem_append_left _ (List.mem_append_left _ (List.mem_append_left _ (List.mem_append_left _ (List.mem_append_left _ (List.mem_append_left _ (List.mem_append_left _ (List.mem_append_left _ (List.mem_append_left _ (List.mem_append_left _ (List.mem_append_left _ (List.mem_of_getElem? (i := 1) rfl)))))))))))) (by decide +kernel)) (inlB (List.mem_append_left _ (List.mem_append_left _ (List.mem_append_left _ (List.mem_append_left _ (List.mem_append_left _ (List.mem_append_left _ (List.mem_append_left _ (List.mem_append_left _ (List.mem_append_left _ (List.mem_append_left _ (List.mem_append_left _ (List.mem_of_getElem? (i := 2) rfl)))))))))))) (by decide +kernel)) rfl (by decide +kernel) (Nat.le_of_ble_eq_true rfl) (Nat.le_of_ble_eq_true rfl) dL_law_0 (fun h0 H hw => ?_)
  refine lv_dup hx hb dL_law_3 rfl ?_
  refine n_init (W0 := []) X hw hA (m_X6_init l D cy h0) E6_ok hE (cwI 0 htB gB_X6_init rfl rfl rfl (htB _ (inlB (List.mem_append_left _ (List.mem_append_left _ (List.mem_append_left _ (List.mem_append_left _ (List.mem_append_left _ (List.mem_append_left _ (List.mem_append_left _ (List.mem_append_left _ (List.mem_append_left _ (List.mem_append_left _ (List.mem_append_left _ (List.mem_of_getElem? (i := 2) rfl)))))))))))) (by decide +kernel))) (htB _ (inlB (List.mem_append_left _ (List.mem_append_left _ (List.mem_append_left _ (List.mem_append_left _ (List.mem_append_left _ (List.mem_append_left _ (List.mem_append_left _ (List.mem_append_left _ (List.mem_append_left _ (List.mem_append_left _ (List.mem_append_left _ (List.mem_of_getElem? (i := 7) rfl)))))))))))) (by decide +kernel))) (htB _ (inlB (List.mem_append_left _ (List.mem_append_left _ (List.mem_append_left _ (List.mem_append_left _ (List.mem_append_left _ (List.mem_append_left _ (List.mem_append_left _ (List.mem_append_left _ (List.mem_append_left _ (List.mem_append_left _ (List.mem_append_left _ (List.mem_of_getElem? (i := 8) rfl)))))))))))) (by decide +kernel))) rfl (by decide +kernel) ⟨Nat.le_of_ble_eq_true rfl, Nat.le_of_ble_eq_true rfl⟩) hl.1 (Nat.le_of_ble_eq_true rfl) dL_law_4 ⟨Nat.le_of_ble_eq_true rfl, Nat.le_of_ble_eq_true rfl⟩ (fun qx H locs kx hw => ?_)
  have hw : nH D A s.heap (gWl LsX6 cy qx G0) H locs := hw
  refine lv_astore_n (lv' := [(1, .ref h0), (0, .ref b)]) hx hb dL_law_7 rfl hl (by decide) rfl (fun ls hl => ?_)
  refine n_new (ci := 7) (C := RX7) (T := TX7) (N := 31) (fs := [.int 0, .int 0, .null, .int 0, .null, .int 0, .null, .null, .null, .null, .null, .null, .null, .int 0, .int 0, .null, .null, .null, .int 0, .null, .int 0, .null, .int 0, .int 0, .int 0, .int 0, .int 0, .null, .null, .int 0, .null]) (ty0 := tyX7) X hw hA hin7 tyX7_ok (inlB (List.mem_append_left _ (List.mem_append_left _ (List.mem_append_left _ (List.mem_append_left _ (List.mem_append_left _ (List.mem_append_left _ (List.mem_append_left _ (List.mem_append_left _ (List.mem_append_left _ (List.mem_append_left _ (List.mem_append_left _ (List.mem_of_getElem? (i := 3) rfl)))))))))))) (by decide +kernel)) (inlB (List.mem_append_left _ (List.mem_append_left _ (List.mem_append_left _ (List.mem_append_left _ (List.mem_append_left _ (List.mem_append_left _ (List.mem_append_left _ (List.mem_append_left _ (List.mem_append_left _ (List.mem_append_left _ (List.mem_append_left _ (List.mem_of_getElem? (i := 4) rfl)))))))))))) (by decide +kernel)) (inlB (List.mem_append_left _ (List.mem_append_left _ (List.mem_append_left _ (List.mem_append_left _ (List.mem_append_left _ (List.mem_append_left _ (List.mem_append_left _ (List.mem_append_left _ (List.mem_append_left _ (List.mem_append_left _ (List.mem_append_left _ (List.mem_of_getElem? (i := 5) rfl)))))))))))) (by decide +kernel)) rfl (by decide +kernel) (Nat.le_of_ble_eq_true rfl) (Nat.le_of_ble_eq_true rfl) dL_law_8 (fun hm H hw => ?_)
  refine lv_dup hx hb dL_law_11 rfl ?_
  refine n_init (W0 := gWl LsX6 cy qx G0) X hw hA (m_X7_init l D cy hm) aoa_ok hE.1 (cwI 0 htB gB_X7_init rfl rfl rfl (htB _ (inlB (List.mem_append_left _ (List.mem_append_left _ (List.mem_append_left _ (List.mem_append_left _ (List.mem_append_left _ (List.mem_append_left _ (List.mem_append_left _ (List.mem_append_left _ (List.mem_append_left _ (List.mem_append_left _ (List.mem_append_left _ (List.mem_of_getElem? (i := 5) rfl)))))))))))) (by decide +kernel))) (htB _ (inlB (List.mem_append_left _ (List.mem_append_left _ (List.mem_append_left _ (List.mem_append_left _ (List.mem_append_left _ (List.mem_append_left _ (List.mem_append_left _ (List.mem_append_left _ (List.mem_append_left _ (List.mem_append_left _ (List.mem_append_right _ (List.mem_append_right _ (List.mem_append_right _ (List.mem_append_right _ (List.mem_append_left _ (List.mem_of_getElem? (i := 5) rfl)))))))))))))))) (by decide +kernel))) (htB _ (inlB (List.mem_append_left _ (List.mem_append_left _ (List.mem_append_left _ (List.mem_append_left _ (List.mem_append_left _ (List.mem_append_left _ (List.mem_append_left _ (List.mem_append_left _ (List.mem_append_left _ (List.mem_append_left _ (List.mem_append_right _ (List.mem_append_right _ (List.mem_append_right _ (List.mem_append_right _ (List.mem_append_left _ (List.mem_of_getElem? (i := 6) rfl)))))))))))))))) (by decide +kernel))) rfl (by decide +kernel) ⟨Nat.le_of_ble_eq_true rfl, Nat.le_of_ble_eq_true rfl⟩) hl.1 (Nat.le_of_ble_eq_true rfl) dL_law_12 ⟨Nat.le_of_ble_eq_true rfl, Nat.le_of_ble_eq_true rfl⟩ (fun qm H locs km hw => ?_)
  refine lv_astore_n (lv' := [(2, .ref hm), (1, .ref h0), (0, .ref b)]) hx hb dL_law_15 rfl hl (by decide) rfl (fun ls hl => ?_)
  refine lv_iconst (v := 1) hx hb dL_law_16 (by decide) ?_
  refine n_newl (N := 1) X hw hA (inlB (List.mem_append_left _ (List.mem_append_left _ (List.mem_append_left _ (List.mem_append_left _ (List.mem_append_left _ (List.mem_append_left _ (List.mem_append_left _ (List.mem_append_left _ (List.mem_append_left _ (List.mem_append_left _ (List.mem_append_left _ (List.mem_of_getElem? (i := 6) rfl)))))))))))) (by decide +kernel)) (by decide) (by decide) (by decide) (Nat.le_of_ble_eq_true rfl) (Nat.le_of_ble_eq_true rfl) dL_law_17 (fun qo H hw => ?_)
  refine lv_astore_n (lv' := [(3, .ref qo), (2, .ref hm), (1, .ref h0), (0, .ref b)]) hx hb dL_law_19 rfl hl (by decide) rfl (fun ls hl => ?_)
  refine lv_iconst (v := 0) hx hb dL_law_20 (by decide) ?_
  refine lv_istore (lv' := [(4, .int 0), (3, .ref qo), (2, .ref hm), (1, .ref h0), (0, .ref b)]) hx hb dL_law_21 hl (by decide) rfl (fun ls hl => ?_)
  obtain ⟨q, eq⟩ : ∃ q, q = glue (LsX6 ++ LsX7) (glue LsX6 qx qm) (fun _ => qo) := ⟨_, rfl⟩
  have q0 : q 0 = h0 := by rw [eq]; exact (if_pos (by decide +kernel)).trans ((if_pos (by decide +kernel)).trans kx)
  have q7 : q 7 = hm := by rw [eq]; exact (if_pos (by decide +kernel)).trans ((if_neg (by decide +kernel)).trans km)
  have q40 : q 40 = qo := by rw [eq]; exact if_neg (by decide +kernel)
  have hg : (gWl LsX6 cy qx G0 ++ gWl LsX7 cy qm G0) ++ [(qo, (.inl (cy 2, 1, .inr (.inl (fun _ => 0))) : va_E))] = gWl LsAll cy q G0 := by
    have h1 : [(qo, (.inl (cy 2, 1, .inr (.inl (fun _ => 0))) : va_E))] = gWl [40] cy (fun _ => qo) G0 := rfl
    rw [h1, gWl_glue LsX6_c LsX7_c Ls67_d, gWl_glue Ls67_c Ls40_c Ls40_d, eq]
    rfl
  rw [hg] at hw
  have hw : gH D cy q A s.heap G0 H _ := ⟨P_perm hw.1 (LsAll_p.map _), D_perm hw.2.1 (LsAll_p.map _), hw.2.2⟩
  have hl : lv_has ls 7 (lvL q b 0) := by
    show lv_has ls 7 [(0, .ref b), (1, .ref (q 0)), (2, .ref (q 7)), (3, .ref (q 40)), (4, .int (nI (4 * 0)))]
    rw [q0, q7, q40, show nI (4 * 0) = 0 from nI_0]
    exact lv_sub hl [4, 3, 2, 1, 0] rfl
  subst eA
  refine W.widen (k := 301 + 0) (n := 13420 + 6 * 0) (Nat.le_of_ble_eq_true rfl) (Nat.le_of_ble_eq_true rfl) ?_
  exact law_loop hl0 hns hnz ⟨X, hA, hX, hbl, hbA, hL⟩ hr hlocks 512 0 G0 H _ ls rfl (by omega) Inv_G0 hw hl
