abbrev rmX7_thrown : Room := { frames := 0, cells := 0, slots := 0, locals := 0 }
def wp_X7_thrown (G : GS)  (post : Int32 → GS → Prop) : Prop :=
  post (G.1 7 0) G
set_option maxHeartbeats 4000000 in
set_option maxRecDepth 100000 in
theorem m_X7_thrown (l : Launch) (D : va_G) (cy : Nat → ClassId) (q : Nat → Nat) (G : GS)  (post : Int32 → GS → Prop) (h : wp_X7_thrown G  post) : gMi l yX7_thrown wsX7_thrown rmX7_thrown D cy q [.ref (q 7)] G post := by
  intro sz
  refine Met.ofW (cc := cX7_thrown) (maxL := 1) (ret := (some .int)) (by decide) rfl ?_
  intro p e s m args below meth c s₁ B hml hv
  obtain ⟨ha, hsz, X, hw, hA, hr, hlk⟩ := g_start B hml hv
  have hx := X.1.1
  have hb := X.1.2.1
  have hown := X.1.2.2.2.1
  have hts := X.1.2.2.2.2
  refine g_in ha (Nat.le_of_ble_eq_true rfl) (fun ls hl => ?_)
  have hl : lv_has ls 1 [(0, .ref (q 7))] := hl
  unfold wp_X7_thrown at h
  have hinX7 : ∀ w ∈ wsX70, w ∈ wsX7_thrown := fun _ h9 => (List.mem_cons_of_mem _ (List.mem_append_right _ h9))
  refine lv_aload_n hx hb dX7_thrown_0 rfl (lv_at hl 0 rfl) ?_
  refine g_get 7 0 (v := .int (G.1 7 0)) (C := RX7) (T := TX7) (N := 31) X hw (by decide) hinX7 rfl (by decide) (List.mem_cons_of_mem _ (List.mem_append_left _ (List.mem_of_getElem? (i := 0) rfl))) rfl dX7_thrown_1 ?_
  exact g_iret X hw hr hlk h dX7_thrown_4

abbrev rmX7_isVersion : Room := { frames := 0, cells := 0, slots := 0, locals := 0 }
def wp_X7_isVersion (G : GS) (x1 : Int32) (post : Int32 → GS → Prop) : Prop :=
  (x1 < 0 → (post 0 G)) ∧ (¬ (x1 < 0) → (((G.1 7 1) ≤ x1 → (post 0 G)) ∧ (¬ ((G.1 7 1) ≤ x1) → (post 1 G))))
set_option maxHeartbeats 4000000 in
set_option maxRecDepth 100000 in
theorem m_X7_isVersion (l : Launch) (D : va_G) (cy : Nat → ClassId) (q : Nat → Nat) (G : GS) (x1 : Int32) (post : Int32 → GS → Prop) (h : wp_X7_isVersion G x1 post) : gMi l yX7_isVersion wsX7_isVersion rmX7_isVersion D cy q [.ref (q 7), .int x1] G post := by
  intro sz
  refine Met.ofW (cc := cX7_isVersion) (maxL := 2) (ret := (some .boolean)) (by decide) rfl ?_
  intro p e s m args below meth c s₁ B hml hv
  obtain ⟨ha, hsz, X, hw, hA, hr, hlk⟩ := g_start B hml hv
  have hx := X.1.1
  have hb := X.1.2.1
  have hown := X.1.2.2.2.1
  have hts := X.1.2.2.2.2
  refine g_in ha (Nat.le_of_ble_eq_true rfl) (fun ls hl => ?_)
  have hl : lv_has ls 2 [(0, .ref (q 7)), (1, .int x1)] := hl
  unfold wp_X7_isVersion at h
  have hinX7 : ∀ w ∈ wsX70, w ∈ wsX7_isVersion := fun _ h9 => (List.mem_cons_of_mem _ (List.mem_append_right _ h9))
  refine lv_iload_n hx hb dX7_isVersion_0 rfl (lv_at hl 1 rfl) ?_
  refine lv_if_lt (tgt := 16) hx hb dX7_isVersion_1 (by decide) (fun c1_0 => ?_) (fun c1_0 => ?_)
  · have h := h.1 c1_0
    refine lv_iconst (v := 0) hx hb dX7_isVersion_16 (by decide) ?_
    exact g_zret X hw hr hlk (by decide) h dX7_isVersion_17
  · have h := h.2 c1_0
    refine lv_iload_n hx hb dX7_isVersion_4 rfl (lv_at hl 1 rfl) ?_
    refine lv_aload_n hx hb dX7_isVersion_5 rfl (lv_at hl 0 rfl) ?_
    refine g_get 7 1 (v := .int (G.1 7 1)) (C := RX7) (T := TX7) (N := 31) X hw (by decide) hinX7 rfl (by decide) (List.mem_cons_of_mem _ (List.mem_append_left _ (List.mem_of_getElem? (i := 0) rfl))) rfl dX7_isVersion_6 ?_
    refine lv_icmp_ge (tgt := 16) hx hb dX7_isVersion_9 (by decide) (fun c9_1 => ?_) (fun c9_1 => ?_)
    · have h := h.1 c9_1
      refine lv_iconst (v := 0) hx hb dX7_isVersion_16 (by decide) ?_
      exact g_zret X hw hr hlk (by decide) h dX7_isVersion_17
    · have h := h.2 c9_1
      refine lv_iconst (v := 1) hx hb dX7_isVersion_12 (by decide) ?_
      refine lv_goto (tgt := 17) hx hb dX7_isVersion_13 (by decide) ?_
      exact g_zret X hw hr hlk (by decide) h dX7_isVersion_17

abbrev rmX7_version : Room := { frames := 1, cells := 0, slots := 0, locals := 21 }
def wp_X7_version (G : GS) (x1 : Int32) (post : Int32 → GS → Prop) : Prop :=
  ∀ G_1 : GS, G_1 = sI G 7 0 0 → (wp_X7_isVersion G_1 x1 (fun r_3 G_2 => (r_3 = 0 → (post (-1) G_2)) ∧ (¬ (r_3 = 0) → ((¬ (G_2.1 7 1) = 30 → (∃ j33_5 : Nat, j33_5 < 30 ∧ G_2.1 7 1 = nI j33_5 ∧ (∀ G_7 : GS, G_7 = sI G_2 20 j33_5 x1 → (∀ G_8 : GS, G_8 = sI G_7 7 1 ((G_7.1 7 1) + 1) → (post ((G_8.1 7 1) - 1) G_8))))) ∧ ((G_2.1 7 1) = 30 → (post (-1) G_2))))))
set_option maxHeartbeats 4000000 in
set_option maxRecDepth 100000 in
theorem m_X7_version (l : Launch) (D : va_G) (cy : Nat → ClassId) (q : Nat → Nat) (G : GS) (x1 : Int32) (post : Int32 → GS → Prop) (h : wp_X7_version G x1 post) : gMi l yX7_version wsX7_version rmX7_version D cy q [.ref (q 7), .int x1] G post := by
  intro sz
  refine Met.ofW (cc := cX7_version) (maxL := 2) (ret := (some .int)) (by decide) rfl ?_
  intro p e s m args below meth c s₁ B hml hv
  obtain ⟨ha, hsz, X, hw, hA, hr, hlk⟩ := g_start B hml hv
  have hx := X.1.1
  have hb := X.1.2.1
  have hown := X.1.2.2.2.1
  have hts := X.1.2.2.2.2
  refine g_in ha (Nat.le_of_ble_eq_true rfl) (fun ls hl => ?_)
  have hl : lv_has ls 2 [(0, .ref (q 7)), (1, .int x1)] := hl
  unfold wp_X7_version at h
  have hinX7 : ∀ w ∈ wsX70, w ∈ wsX7_version := fun _ h9 => (List.mem_cons_of_mem _ (List.mem_append_right _ h9))
  refine lv_aload_n hx hb dX7_version_0 rfl (lv_at hl 0 rfl) ?_
  refine lv_iconst (v := 0) hx hb dX7_version_1 (by decide) ?_
  refine g_put 7 0 (v := 0) (ty := .int) (C := RX7) (T := TX7) (N := 31) X hw (by decide) hinX7 tyX7_ok nmX7 rfl (by decide) (List.mem_cons_of_mem _ (List.mem_append_left _ (List.mem_of_getElem? (i := 0) rfl))) rfl (by decide +kernel) rfl rfl (Nat.le_of_ble_eq_true rfl) rfl dX7_version_2 (fun H locs hw => ?_)
  obtain ⟨G_1, eG_1⟩ : ∃ z, z = sI G 7 0 0 := ⟨_, rfl⟩
  rw [← eG_1] at hw
  have h := h G_1 eG_1
  refine lv_aload_n hx hb dX7_version_5 rfl (lv_at hl 0 rfl) ?_
  refine lv_iload_n hx hb dX7_version_6 rfl (lv_at hl 1 rfl) ?_
  refine g_callVi 7 (C := RX7) (T := TX7) (N := 31) (As := [.int x1]) (rest := []) X hw hA (m_X7_isVersion l D cy q G_1 x1 _ h) (by decide) rfl (cwV 1 hts gX7_version_X7_isVersion rfl rfl rfl (by decide +kernel) ⟨Nat.le_of_ble_eq_true rfl, Nat.le_of_ble_eq_true rfl⟩) rfl hl.1 rfl (Nat.le_of_ble_eq_true rfl) dX7_version_7 ⟨Nat.zero_le _, Nat.zero_le _⟩ (fun r_3 G_2 H locs h hw => ?_)
  refine lv_if_eq (tgt := 22) hx hb dX7_version_10 (by decide) (fun c10_3 => ?_) (fun c10_3 => ?_)
  · have h := h.1 c10_3
    refine lv_iconst (v := (-1)) hx hb dX7_version_22 (by decide) ?_
    exact g_iret X hw hr hlk h dX7_version_23
  · have h := h.2 c10_3
    refine lv_aload_n hx hb dX7_version_13 rfl (lv_at hl 0 rfl) ?_
    refine g_get 7 1 (v := .int (G_2.1 7 1)) (C := RX7) (T := TX7) (N := 31) X hw (by decide) hinX7 rfl (by decide) (List.mem_cons_of_mem _ (List.mem_append_left _ (List.mem_of_getElem? (i := 1) rfl))) rfl dX7_version_14 ?_
    refine lv_bipush (v := 30) hx hb dX7_version_17 (by decide) ?_
    refine lv_icmp_ne (tgt := 24) hx hb dX7_version_19 (by decide) (fun c19_4 => ?_) (fun c19_4 => ?_)
    · have h := h.1 c19_4
      refine lv_aload_n hx hb dX7_version_24 rfl (lv_at hl 0 rfl) ?_
      refine g_get 7 2 (v := .ref (q 20)) (C := RX7) (T := TX7) (N := 31) X hw (by decide) hinX7 rfl (by decide) (List.mem_cons_of_mem _ (List.mem_append_left _ (List.mem_of_getElem? (i := 2) rfl))) rfl dX7_version_25 ?_
      refine lv_aload_n hx hb dX7_version_28 rfl (lv_at hl 0 rfl) ?_
      refine g_get 7 1 (v := .int (G_2.1 7 1)) (C := RX7) (T := TX7) (N := 31) X hw (by decide) hinX7 rfl (by decide) (List.mem_cons_of_mem _ (List.mem_append_left _ (List.mem_of_getElem? (i := 1) rfl))) rfl dX7_version_29 ?_
      refine lv_iload_n hx hb dX7_version_32 rfl (lv_at hl 1 rfl) ?_
      obtain ⟨j33_5, bj33_5, ej33_5, h⟩ := h
      refine g_iast 20 30 j33_5 X hw (Or.inr ⟨by decide, by decide⟩) rfl bj33_5 ej33_5 (by decide) dX7_version_33 (fun H locs hw => ?_)
      obtain ⟨G_7, eG_7⟩ : ∃ z, z = sI G_2 20 j33_5 x1 := ⟨_, rfl⟩
      rw [← eG_7] at hw
      have h := h G_7 eG_7
      refine lv_aload_n hx hb dX7_version_34 rfl (lv_at hl 0 rfl) ?_
      refine lv_dup hx hb dX7_version_35 rfl ?_
      refine g_get 7 1 (v := .int (G_7.1 7 1)) (C := RX7) (T := TX7) (N := 31) X hw (by decide) hinX7 rfl (by decide) (List.mem_cons_of_mem _ (List.mem_append_left _ (List.mem_of_getElem? (i := 1) rfl))) rfl dX7_version_36 ?_
      refine lv_iconst (v := 1) hx hb dX7_version_39 (by decide) ?_
      refine lv_iadd hx hb dX7_version_40 ?_
      refine g_put 7 1 (v := (G_7.1 7 1) + 1) (ty := .int) (C := RX7) (T := TX7) (N := 31) X hw (by decide) hinX7 tyX7_ok nmX7 rfl (by decide) (List.mem_cons_of_mem _ (List.mem_append_left _ (List.mem_of_getElem? (i := 1) rfl))) rfl (by decide +kernel) rfl rfl (Nat.le_of_ble_eq_true rfl) rfl dX7_version_41 (fun H locs hw => ?_)
      obtain ⟨G_8, eG_8⟩ : ∃ z, z = sI G_7 7 1 ((G_7.1 7 1) + 1) := ⟨_, rfl⟩
      rw [← eG_8] at hw
      have h := h G_8 eG_8
      refine lv_aload_n hx hb dX7_version_44 rfl (lv_at hl 0 rfl) ?_
      refine g_get 7 1 (v := .int (G_8.1 7 1)) (C := RX7) (T := TX7) (N := 31) X hw (by decide) hinX7 rfl (by decide) (List.mem_cons_of_mem _ (List.mem_append_left _ (List.mem_of_getElem? (i := 1) rfl))) rfl dX7_version_45 ?_
      refine lv_iconst (v := 1) hx hb dX7_version_48 (by decide) ?_
      refine lv_isub hx hb dX7_version_49 ?_
      exact g_iret X hw hr hlk h dX7_version_50
    · have h := h.2 c19_4
      refine lv_iconst (v := (-1)) hx hb dX7_version_22 (by decide) ?_
      exact g_iret X hw hr hlk h dX7_version_23

abbrev rmX7_isBehind : Room := { frames := 0, cells := 0, slots := 0, locals := 0 }
def wp_X7_isBehind (G : GS) (x1 : Int32) (x2 : Int32) (post : Int32 → GS → Prop) : Prop :=
  ∃ I2_1 : Nat → Int32 → Prop, (∃ n_1 : Nat, I2_1 n_1 x1) ∧ ∀ (n_1 : Nat) (v3_1 : Int32), I2_1 n_1 v3_1 → ((v3_1 < 0 → ((¬ v3_1 = x2 → (post 0 G)) ∧ (v3_1 = x2 → (post 1 G)))) ∧ (¬ (v3_1 < 0) → ((v3_1 = x2 → ((¬ v3_1 = x2 → (post 0 G)) ∧ (v3_1 = x2 → (post 1 G)))) ∧ (¬ (v3_1 = x2) → (∃ j16_5 : Nat, j16_5 < 30 ∧ v3_1 = nI j16_5 ∧ (∀ y_7 : Int32, y_7 = G.1 20 j16_5 → (∃ k_8 : Nat, k_8 < n_1 ∧ I2_1 k_8 y_7)))))))
set_option maxHeartbeats 4000000 in
set_option maxRecDepth 100000 in
theorem m_X7_isBehind (l : Launch) (D : va_G) (cy : Nat → ClassId) (q : Nat → Nat) (G : GS) (x1 : Int32) (x2 : Int32) (post : Int32 → GS → Prop) (h : wp_X7_isBehind G x1 x2 post) : gMi l yX7_isBehind wsX7_isBehind rmX7_isBehind D cy q [.ref (q 7), .int x1, .int x2] G post := by
  intro sz
  refine Met.ofW (cc := cX7_isBehind) (maxL := 4) (ret := (some .boolean)) (by decide) rfl ?_
  intro p e s m args below meth c s₁ B hml hv
  obtain ⟨ha, hsz, X, hw, hA, hr, hlk⟩ := g_start B hml hv
  have hx := X.1.1
  have hb := X.1.2.1
  have hown := X.1.2.2.2.1
  have hts := X.1.2.2.2.2
  refine g_in ha (Nat.le_of_ble_eq_true rfl) (fun ls hl => ?_)
  have hl : lv_has ls 4 [(0, .ref (q 7)), (1, .int x1), (2, .int x2)] := hl
  unfold wp_X7_isBehind at h
  have hinX7 : ∀ w ∈ wsX70, w ∈ wsX7_isBehind := fun _ h9 => (List.mem_cons_of_mem _ (List.mem_append_right _ h9))
  refine lv_iload_n hx hb dX7_isBehind_0 rfl (lv_at hl 1 rfl) ?_
  refine lv_istore_n (lv' := [(3, .int x1), (0, .ref (q 7)), (1, .int x1), (2, .int x2)]) hx hb dX7_isBehind_1 rfl hl (by decide) rfl (fun ls hl => ?_)
  obtain ⟨I2_1, ⟨n_1, h0⟩, hI2_1⟩ := h
  have LI2_1 : ∀ (n_1 : Nat) (v3_1 : Int32) (H : Heap) (locs : List Loc) (ls : Array Slot), gH D cy q (gA q sz) s.heap G H locs → lv_has ls 4 [(0, .ref (q 7)), (2, .int x2), (3, .int v3_1)] → I2_1 n_1 v3_1 → W p l e (headSpec wsX7_isBehind rmX7_isBehind).room s m args below meth c H locs 0 0 (MQ below (va_Qi post (gPo D cy q sz) (gA q sz)) args s 0 0 (gA q sz)) (F0 m 2 ls []) := by
    intro n_1
    induction n_1 using Nat.strongRecOn with
    | ind n_1 ihI2_1 =>
      intro v3_1 H locs ls hw hl h
      have h := hI2_1 n_1 v3_1 h
      refine lv_iload_n hx hb dX7_isBehind_2 rfl (lv_at hl 2 rfl) ?_
      refine lv_if_lt (tgt := 21) hx hb dX7_isBehind_3 (by decide) (fun c3_1 => ?_) (fun c3_1 => ?_)
      · have h := h.1 c3_1
        refine lv_iload_n hx hb dX7_isBehind_21 rfl (lv_at hl 2 rfl) ?_
        refine lv_iload_n hx hb dX7_isBehind_22 rfl (lv_at hl 1 rfl) ?_
        refine lv_icmp_ne (tgt := 30) hx hb dX7_isBehind_23 (by decide) (fun c23_2 => ?_) (fun c23_2 => ?_)
        · have h := h.1 c23_2
          refine lv_iconst (v := 0) hx hb dX7_isBehind_30 (by decide) ?_
          exact g_zret X hw hr hlk (by decide) h dX7_isBehind_31
        · have h := h.2 c23_2
          refine lv_iconst (v := 1) hx hb dX7_isBehind_26 (by decide) ?_
          refine lv_goto (tgt := 31) hx hb dX7_isBehind_27 (by decide) ?_
          exact g_zret X hw hr hlk (by decide) h dX7_isBehind_31
      · have h := h.2 c3_1
        refine lv_iload_n hx hb dX7_isBehind_6 rfl (lv_at hl 2 rfl) ?_
        refine lv_iload_n hx hb dX7_isBehind_7 rfl (lv_at hl 1 rfl) ?_
        refine lv_icmp_eq (tgt := 21) hx hb dX7_isBehind_8 (by decide) (fun c8_3 => ?_) (fun c8_3 => ?_)
        · have h := h.1 c8_3
          refine lv_iload_n hx hb dX7_isBehind_21 rfl (lv_at hl 2 rfl) ?_
          refine lv_iload_n hx hb dX7_isBehind_22 rfl (lv_at hl 1 rfl) ?_
          refine lv_icmp_ne (tgt := 30) hx hb dX7_isBehind_23 (by decide) (fun c23_4 => ?_) (fun c23_4 => ?_)
          · have h := h.1 c23_4
            refine lv_iconst (v := 0) hx hb dX7_isBehind_30 (by decide) ?_
            exact g_zret X hw hr hlk (by decide) h dX7_isBehind_31
          · have h := h.2 c23_4
            refine lv_iconst (v := 1) hx hb dX7_isBehind_26 (by decide) ?_
            refine lv_goto (tgt := 31) hx hb dX7_isBehind_27 (by decide) ?_
            exact g_zret X hw hr hlk (by decide) h dX7_isBehind_31
        · have h := h.2 c8_3
          refine lv_aload_n hx hb dX7_isBehind_11 rfl (lv_at hl 0 rfl) ?_
          refine g_get 7 2 (v := .ref (q 20)) (C := RX7) (T := TX7) (N := 31) X hw (by decide) hinX7 rfl (by decide) (List.mem_cons_of_mem _ (List.mem_append_left _ (List.mem_of_getElem? (i := 0) rfl))) rfl dX7_isBehind_12 ?_
          refine lv_iload_n hx hb dX7_isBehind_15 rfl (lv_at hl 2 rfl) ?_
          obtain ⟨j16_5, bj16_5, ej16_5, h⟩ := h
          refine g_iald 20 30 j16_5 X hw (Or.inr ⟨by decide, by decide⟩) rfl bj16_5 ej16_5 (by decide) dX7_isBehind_16 ?_
          refine lv_topi (fun y_7 ey_7 => ?_)
          have h := h y_7 ey_7
          refine lv_istore_n (lv' := [(3, .int y_7), (0, .ref (q 7)), (2, .int x2)]) hx hb dX7_isBehind_17 rfl hl (by decide) rfl (fun ls hl => ?_)
          refine lv_goto (tgt := 2) hx hb dX7_isBehind_18 (by decide) ?_
          obtain ⟨k_8, hm, h⟩ := h
          exact ihI2_1 k_8 hm y_7 _ _ ls hw (lv_sub hl [1, 2, 0] rfl) h
  exact LI2_1 n_1 x1 _ _ ls hw (lv_sub hl [1, 3, 0] rfl) h0

abbrev rmX7_behind : Room := { frames := 1, cells := 0, slots := 0, locals := 23 }
def wp_X7_behind (G : GS) (x1 : Int32) (x2 : Int32) (post : Int32 → GS → Prop) : Prop :=
  ∀ G_1 : GS, G_1 = sI G 7 0 0 → (wp_X7_isVersion G_1 x1 (fun r_3 G_2 => (r_3 = 0 → (post (-1) G_2)) ∧ (¬ (r_3 = 0) → (wp_X7_isVersion G_2 x2 (fun r_6 G_5 => (¬ r_6 = 0 → (wp_X7_isBehind G_5 x1 x2 (fun r_9 G_8 => (r_9 = 0 → (post 0 G_8)) ∧ (¬ (r_9 = 0) → (post 1 G_8))))) ∧ (r_6 = 0 → (post (-1) G_5)))))))
set_option maxHeartbeats 4000000 in
set_option maxRecDepth 100000 in
theorem m_X7_behind (l : Launch) (D : va_G) (cy : Nat → ClassId) (q : Nat → Nat) (G : GS) (x1 : Int32) (x2 : Int32) (post : Int32 → GS → Prop) (h : wp_X7_behind G x1 x2 post) : gMi l yX7_behind wsX7_behind rmX7_behind D cy q [.ref (q 7), .int x1, .int x2] G post := by
  intro sz
  refine Met.ofW (cc := cX7_behind) (maxL := 3) (ret := (some .int)) (by decide) rfl ?_
  intro p e s m args below meth c s₁ B hml hv
  obtain ⟨ha, hsz, X, hw, hA, hr, hlk⟩ := g_start B hml hv
  have hx := X.1.1
  have hb := X.1.2.1
  have hown := X.1.2.2.2.1
  have hts := X.1.2.2.2.2
  refine g_in ha (Nat.le_of_ble_eq_true rfl) (fun ls hl => ?_)
  have hl : lv_has ls 3 [(0, .ref (q 7)), (1, .int x1), (2, .int x2)] := hl
  unfold wp_X7_behind at h
  have hinX7 : ∀ w ∈ wsX70, w ∈ wsX7_behind := fun _ h9 => (List.mem_cons_of_mem _ (List.mem_append_right _ h9))
  refine lv_aload_n hx hb dX7_behind_0 rfl (lv_at hl 0 rfl) ?_
  refine lv_iconst (v := 0) hx hb dX7_behind_1 (by decide) ?_
  refine g_put 7 0 (v := 0) (ty := .int) (C := RX7) (T := TX7) (N := 31) X hw (by decide) hinX7 tyX7_ok nmX7 rfl (by decide) (List.mem_cons_of_mem _ (List.mem_append_left _ (List.mem_of_getElem? (i := 0) rfl))) rfl (by decide +kernel) rfl rfl (Nat.le_of_ble_eq_true rfl) rfl dX7_behind_2 (fun H locs hw => ?_)
  obtain ⟨G_1, eG_1⟩ : ∃ z, z = sI G 7 0 0 := ⟨_, rfl⟩
  rw [← eG_1] at hw
  have h := h G_1 eG_1
  refine lv_aload_n hx hb dX7_behind_5 rfl (lv_at hl 0 rfl) ?_
  refine lv_iload_n hx hb dX7_behind_6 rfl (lv_at hl 1 rfl) ?_
  refine g_callVi 7 (C := RX7) (T := TX7) (N := 31) (As := [.int x1]) (rest := []) X hw hA (m_X7_isVersion l D cy q G_1 x1 _ h) (by decide) rfl (cwV 1 hts gX7_behind_X7_isVersion rfl rfl rfl (by decide +kernel) ⟨Nat.le_of_ble_eq_true rfl, Nat.le_of_ble_eq_true rfl⟩) rfl hl.1 rfl (Nat.le_of_ble_eq_true rfl) dX7_behind_7 ⟨Nat.zero_le _, Nat.zero_le _⟩ (fun r_3 G_2 H locs h hw => ?_)
  refine lv_if_eq (tgt := 21) hx hb dX7_behind_10 (by decide) (fun c10_3 => ?_) (fun c10_3 => ?_)
  · have h := h.1 c10_3
    refine lv_iconst (v := (-1)) hx hb dX7_behind_21 (by decide) ?_
    refine lv_goto (tgt := 39) hx hb dX7_behind_22 (by decide) ?_
    exact g_iret X hw hr hlk h dX7_behind_39
  · have h := h.2 c10_3
    refine lv_aload_n hx hb dX7_behind_13 rfl (lv_at hl 0 rfl) ?_
    refine lv_iload_n hx hb dX7_behind_14 rfl (lv_at hl 2 rfl) ?_
    refine g_callVi 7 (C := RX7) (T := TX7) (N := 31) (As := [.int x2]) (rest := []) X hw hA (m_X7_isVersion l D cy q G_2 x2 _ h) (by decide) rfl (cwV 1 hts gX7_behind_X7_isVersion rfl rfl rfl (by decide +kernel) ⟨Nat.le_of_ble_eq_true rfl, Nat.le_of_ble_eq_true rfl⟩) rfl hl.1 rfl (Nat.le_of_ble_eq_true rfl) dX7_behind_15 ⟨Nat.zero_le _, Nat.zero_le _⟩ (fun r_6 G_5 H locs h hw => ?_)
    refine lv_if_ne (tgt := 25) hx hb dX7_behind_18 (by decide) (fun c18_6 => ?_) (fun c18_6 => ?_)
    · have h := h.1 c18_6
      refine lv_aload_n hx hb dX7_behind_25 rfl (lv_at hl 0 rfl) ?_
      refine lv_iload_n hx hb dX7_behind_26 rfl (lv_at hl 1 rfl) ?_
      refine lv_iload_n hx hb dX7_behind_27 rfl (lv_at hl 2 rfl) ?_
      refine g_callVi 7 (C := RX7) (T := TX7) (N := 31) (As := [.int x1, .int x2]) (rest := []) X hw hA (m_X7_isBehind l D cy q G_5 x1 x2 _ h) (by decide) rfl (cwV 2 hts gX7_behind_X7_isBehind rfl rfl rfl (by decide +kernel) ⟨Nat.le_of_ble_eq_true rfl, Nat.le_of_ble_eq_true rfl⟩) rfl hl.1 rfl (Nat.le_of_ble_eq_true rfl) dX7_behind_28 ⟨Nat.zero_le _, Nat.zero_le _⟩ (fun r_9 G_8 H locs h hw => ?_)
      refine lv_if_eq (tgt := 38) hx hb dX7_behind_31 (by decide) (fun c31_9 => ?_) (fun c31_9 => ?_)
      · have h := h.1 c31_9
        refine lv_iconst (v := 0) hx hb dX7_behind_38 (by decide) ?_
        exact g_iret X hw hr hlk h dX7_behind_39
      · have h := h.2 c31_9
        refine lv_iconst (v := 1) hx hb dX7_behind_34 (by decide) ?_
        refine lv_goto (tgt := 39) hx hb dX7_behind_35 (by decide) ?_
        exact g_iret X hw hr hlk h dX7_behind_39
    · have h := h.2 c18_6
      refine lv_iconst (v := (-1)) hx hb dX7_behind_21 (by decide) ?_
      refine lv_goto (tgt := 39) hx hb dX7_behind_22 (by decide) ?_
      exact g_iret X hw hr hlk h dX7_behind_39

abbrev rmX7_frame : Room := { frames := 0, cells := 0, slots := 0, locals := 0 }
def wp_X7_frame (G : GS) (x1 : Int32) (post : Int32 → GS → Prop) : Prop :=
  ∀ G_1 : GS, G_1 = sI G 7 0 0 → ((x1 < 0 → (post (-1) G_1)) ∧ (¬ (x1 < 0) → ((500 < x1 → (post (-1) G_1)) ∧ (¬ (500 < x1) → ((¬ (G_1.1 7 3) = 12 → (∃ j36_4 : Nat, j36_4 < 12 ∧ G_1.1 7 3 = nI j36_4 ∧ (∀ G_6 : GS, G_6 = sI G_1 21 j36_4 x1 → (∀ G_7 : GS, G_7 = sI G_6 7 3 ((G_6.1 7 3) + 1) → (post (G_7.1 7 3) G_7))))) ∧ ((G_1.1 7 3) = 12 → (post (-1) G_1)))))))
set_option maxHeartbeats 4000000 in
set_option maxRecDepth 100000 in
theorem m_X7_frame (l : Launch) (D : va_G) (cy : Nat → ClassId) (q : Nat → Nat) (G : GS) (x1 : Int32) (post : Int32 → GS → Prop) (h : wp_X7_frame G x1 post) : gMi l yX7_frame wsX7_frame rmX7_frame D cy q [.ref (q 7), .int x1] G post := by
  intro sz
  refine Met.ofW (cc := cX7_frame) (maxL := 2) (ret := (some .int)) (by decide) rfl ?_
  intro p e s m args below meth c s₁ B hml hv
  obtain ⟨ha, hsz, X, hw, hA, hr, hlk⟩ := g_start B hml hv
  have hx := X.1.1
  have hb := X.1.2.1
  have hown := X.1.2.2.2.1
  have hts := X.1.2.2.2.2
  refine g_in ha (Nat.le_of_ble_eq_true rfl) (fun ls hl => ?_)
  have hl : lv_has ls 2 [(0, .ref (q 7)), (1, .int x1)] := hl
  unfold wp_X7_frame at h
  have hinX7 : ∀ w ∈ wsX70, w ∈ wsX7_frame := fun _ h9 => (List.mem_cons_of_mem _ (List.mem_append_right _ h9))
  refine lv_aload_n hx hb dX7_frame_0 rfl (lv_at hl 0 rfl) ?_
  refine lv_iconst (v := 0) hx hb dX7_frame_1 (by decide) ?_
  refine g_put 7 0 (v := 0) (ty := .int) (C := RX7) (T := TX7) (N := 31) X hw (by decide) hinX7 tyX7_ok nmX7 rfl (by decide) (List.mem_cons_of_mem _ (List.mem_append_left _ (List.mem_of_getElem? (i := 0) rfl))) rfl (by decide +kernel) rfl rfl (Nat.le_of_ble_eq_true rfl) rfl dX7_frame_2 (fun H locs hw => ?_)
  obtain ⟨G_1, eG_1⟩ : ∃ z, z = sI G 7 0 0 := ⟨_, rfl⟩
  rw [← eG_1] at hw
  have h := h G_1 eG_1
  refine lv_iload_n hx hb dX7_frame_5 rfl (lv_at hl 1 rfl) ?_
  refine lv_if_lt (tgt := 25) hx hb dX7_frame_6 (by decide) (fun c6_1 => ?_) (fun c6_1 => ?_)
  · have h := h.1 c6_1
    refine lv_iconst (v := (-1)) hx hb dX7_frame_25 (by decide) ?_
    exact g_iret X hw hr hlk h dX7_frame_26
  · have h := h.2 c6_1
    refine lv_iload_n hx hb dX7_frame_9 rfl (lv_at hl 1 rfl) ?_
    refine lv_sipush (v := 500) hx hb dX7_frame_10 (by decide) ?_
    refine lv_icmp_gt (tgt := 25) hx hb dX7_frame_13 (by decide) (fun c13_2 => ?_) (fun c13_2 => ?_)
    · have h := h.1 c13_2
      refine lv_iconst (v := (-1)) hx hb dX7_frame_25 (by decide) ?_
      exact g_iret X hw hr hlk h dX7_frame_26
    · have h := h.2 c13_2
      refine lv_aload_n hx hb dX7_frame_16 rfl (lv_at hl 0 rfl) ?_
      refine g_get 7 3 (v := .int (G_1.1 7 3)) (C := RX7) (T := TX7) (N := 31) X hw (by decide) hinX7 rfl (by decide) (List.mem_cons_of_mem _ (List.mem_append_left _ (List.mem_of_getElem? (i := 1) rfl))) rfl dX7_frame_17 ?_
      refine lv_bipush (v := 12) hx hb dX7_frame_20 (by decide) ?_
      refine lv_icmp_ne (tgt := 27) hx hb dX7_frame_22 (by decide) (fun c22_3 => ?_) (fun c22_3 => ?_)
      · have h := h.1 c22_3
        refine lv_aload_n hx hb dX7_frame_27 rfl (lv_at hl 0 rfl) ?_
        refine g_get 7 4 (v := .ref (q 21)) (C := RX7) (T := TX7) (N := 31) X hw (by decide) hinX7 rfl (by decide) (List.mem_cons_of_mem _ (List.mem_append_left _ (List.mem_of_getElem? (i := 2) rfl))) rfl dX7_frame_28 ?_
        refine lv_aload_n hx hb dX7_frame_31 rfl (lv_at hl 0 rfl) ?_
        refine g_get 7 3 (v := .int (G_1.1 7 3)) (C := RX7) (T := TX7) (N := 31) X hw (by decide) hinX7 rfl (by decide) (List.mem_cons_of_mem _ (List.mem_append_left _ (List.mem_of_getElem? (i := 1) rfl))) rfl dX7_frame_32 ?_
        refine lv_iload_n hx hb dX7_frame_35 rfl (lv_at hl 1 rfl) ?_
        obtain ⟨j36_4, bj36_4, ej36_4, h⟩ := h
        refine g_iast 21 12 j36_4 X hw (Or.inr ⟨by decide, by decide⟩) rfl bj36_4 ej36_4 (by decide) dX7_frame_36 (fun H locs hw => ?_)
        obtain ⟨G_6, eG_6⟩ : ∃ z, z = sI G_1 21 j36_4 x1 := ⟨_, rfl⟩
        rw [← eG_6] at hw
        have h := h G_6 eG_6
        refine lv_aload_n hx hb dX7_frame_37 rfl (lv_at hl 0 rfl) ?_
        refine lv_dup hx hb dX7_frame_38 rfl ?_
        refine g_get 7 3 (v := .int (G_6.1 7 3)) (C := RX7) (T := TX7) (N := 31) X hw (by decide) hinX7 rfl (by decide) (List.mem_cons_of_mem _ (List.mem_append_left _ (List.mem_of_getElem? (i := 1) rfl))) rfl dX7_frame_39 ?_
        refine lv_iconst (v := 1) hx hb dX7_frame_42 (by decide) ?_
        refine lv_iadd hx hb dX7_frame_43 ?_
        refine g_put 7 3 (v := (G_6.1 7 3) + 1) (ty := .int) (C := RX7) (T := TX7) (N := 31) X hw (by decide) hinX7 tyX7_ok nmX7 rfl (by decide) (List.mem_cons_of_mem _ (List.mem_append_left _ (List.mem_of_getElem? (i := 1) rfl))) rfl (by decide +kernel) rfl rfl (Nat.le_of_ble_eq_true rfl) rfl dX7_frame_44 (fun H locs hw => ?_)
        obtain ⟨G_7, eG_7⟩ : ∃ z, z = sI G_6 7 3 ((G_6.1 7 3) + 1) := ⟨_, rfl⟩
        rw [← eG_7] at hw
        have h := h G_7 eG_7
        refine lv_aload_n hx hb dX7_frame_47 rfl (lv_at hl 0 rfl) ?_
        refine g_get 7 3 (v := .int (G_7.1 7 3)) (C := RX7) (T := TX7) (N := 31) X hw (by decide) hinX7 rfl (by decide) (List.mem_cons_of_mem _ (List.mem_append_left _ (List.mem_of_getElem? (i := 1) rfl))) rfl dX7_frame_48 ?_
        exact g_iret X hw hr hlk h dX7_frame_51
      · have h := h.2 c22_3
        refine lv_iconst (v := (-1)) hx hb dX7_frame_25 (by decide) ?_
        exact g_iret X hw hr hlk h dX7_frame_26

abbrev rmX7_isTwice : Room := { frames := 0, cells := 0, slots := 0, locals := 0 }
def wp_X7_isTwice (G : GS) (x1 : Int32) (x2 : Int32) (post : Int32 → GS → Prop) : Prop :=
  ∃ J17_1 : Int32 → Prop, (∀ (w0_1 : Int32), J17_1 w0_1 → (∃ I21_2 : Nat → Int32 → Int32 → Prop, (∃ n_2 : Nat, I21_2 n_2 w0_1 x1) ∧ ∀ (n_2 : Nat) (v3_2 : Int32) (v4_2 : Int32), I21_2 n_2 v3_2 v4_2 → (((x1 + x2) ≤ v4_2 → ((v3_2 = 0 ∨ v3_2 = 1) ∧ post v3_2 G)) ∧ (¬ ((x1 + x2) ≤ v4_2) → ((v3_2 = 0 → ((v3_2 = 0 ∨ v3_2 = 1) ∧ post v3_2 G)) ∧ (¬ (v3_2 = 0) → (∃ j39_4 : Nat, j39_4 < 12 ∧ v4_2 = nI j39_4 ∧ (∃ j48_5 : Nat, j48_5 < 12 ∧ v4_2 + x2 = nI j48_5 ∧ ((¬ (G.1 21 j39_4) = (G.1 21 j48_5) → (∃ k_9 : Nat, k_9 < n_2 ∧ I21_2 k_9 0 (v4_2 + 1))) ∧ ((G.1 21 j39_4) = (G.1 21 j48_5) → (∃ k_11 : Nat, k_11 < n_2 ∧ I21_2 k_11 1 (v4_2 + 1)))))))))))) ∧ (((G.1 7 3) < (x1 + (2 * x2)) → (J17_1 0)) ∧ (¬ ((G.1 7 3) < (x1 + (2 * x2))) → (J17_1 1)))
set_option maxHeartbeats 4000000 in
set_option maxRecDepth 100000 in
theorem m_X7_isTwice (l : Launch) (D : va_G) (cy : Nat → ClassId) (q : Nat → Nat) (G : GS) (x1 : Int32) (x2 : Int32) (post : Int32 → GS → Prop) (h : wp_X7_isTwice G x1 x2 post) : gMi l yX7_isTwice wsX7_isTwice rmX7_isTwice D cy q [.ref (q 7), .int x1, .int x2] G post := by
  intro sz
  refine Met.ofW (cc := cX7_isTwice) (maxL := 5) (ret := (some .boolean)) (by decide) rfl ?_
  intro p e s m args below meth c s₁ B hml hv
  obtain ⟨ha, hsz, X, hw, hA, hr, hlk⟩ := g_start B hml hv
  have hx := X.1.1
  have hb := X.1.2.1
  have hown := X.1.2.2.2.1
  have hts := X.1.2.2.2.2
  refine g_in ha (Nat.le_of_ble_eq_true rfl) (fun ls hl => ?_)
  have hl : lv_has ls 5 [(0, .ref (q 7)), (1, .int x1), (2, .int x2)] := hl
  unfold wp_X7_isTwice at h
  have hinX7 : ∀ w ∈ wsX70, w ∈ wsX7_isTwice := fun _ h9 => (List.mem_cons_of_mem _ (List.mem_append_right _ h9))
  refine lv_iload_n hx hb dX7_isTwice_0 rfl (lv_at hl 1 rfl) ?_
  refine lv_iconst (v := 2) hx hb dX7_isTwice_1 (by decide) ?_
  refine lv_iload_n hx hb dX7_isTwice_2 rfl (lv_at hl 2 rfl) ?_
  refine lv_imul hx hb dX7_isTwice_3 ?_
  refine lv_iadd hx hb dX7_isTwice_4 ?_
  refine lv_aload_n hx hb dX7_isTwice_5 rfl (lv_at hl 0 rfl) ?_
  refine g_get 7 3 (v := .int (G.1 7 3)) (C := RX7) (T := TX7) (N := 31) X hw (by decide) hinX7 rfl (by decide) (List.mem_cons_of_mem _ (List.mem_append_left _ (List.mem_of_getElem? (i := 0) rfl))) rfl dX7_isTwice_6 ?_
  obtain ⟨J17_1, hJ17_1, h⟩ := h
  have LJ17_1 : ∀ (w0_1 : Int32) (H : Heap) (locs : List Loc) (ls : Array Slot), gH D cy q (gA q sz) s.heap G H locs → lv_has ls 5 [(0, .ref (q 7)), (1, .int x1), (2, .int x2)] → J17_1 w0_1 → W p l e (headSpec wsX7_isTwice rmX7_isTwice).room s m args below meth c H locs 0 0 (MQ below (va_Qi post (gPo D cy q sz) (gA q sz)) args s 0 0 (gA q sz)) (F0 m 17 ls [.int w0_1]) := by
    intro w0_1 H locs ls hw hl h
    have h := hJ17_1 w0_1 h
    refine lv_istore_n (lv' := [(3, .int w0_1), (0, .ref (q 7)), (1, .int x1), (2, .int x2)]) hx hb dX7_isTwice_17 rfl hl (by decide) rfl (fun ls hl => ?_)
    refine lv_iload_n hx hb dX7_isTwice_18 rfl (lv_at hl 2 rfl) ?_
    refine lv_istore (lv' := [(4, .int x1), (3, .int w0_1), (0, .ref (q 7)), (1, .int x1), (2, .int x2)]) hx hb dX7_isTwice_19 hl (by decide) rfl (fun ls hl => ?_)
    obtain ⟨I21_2, ⟨n_2, h0⟩, hI21_2⟩ := h
    have LI21_2 : ∀ (n_2 : Nat) (v3_2 : Int32) (v4_2 : Int32) (H : Heap) (locs : List Loc) (ls : Array Slot), gH D cy q (gA q sz) s.heap G H locs → lv_has ls 5 [(0, .ref (q 7)), (1, .int x1), (2, .int x2), (3, .int v3_2), (4, .int v4_2)] → I21_2 n_2 v3_2 v4_2 → W p l e (headSpec wsX7_isTwice rmX7_isTwice).room s m args below meth c H locs 0 0 (MQ below (va_Qi post (gPo D cy q sz) (gA q sz)) args s 0 0 (gA q sz)) (F0 m 21 ls []) := by
      intro n_2
      induction n_2 using Nat.strongRecOn with
      | ind n_2 ihI21_2 =>
        intro v3_2 v4_2 H locs ls hw hl h
        have h := hI21_2 n_2 v3_2 v4_2 h
        refine lv_iload hx hb dX7_isTwice_21 (lv_at hl 4 rfl) ?_
        refine lv_iload_n hx hb dX7_isTwice_23 rfl (lv_at hl 1 rfl) ?_
        refine lv_iload_n hx hb dX7_isTwice_24 rfl (lv_at hl 2 rfl) ?_
        refine lv_iadd hx hb dX7_isTwice_25 ?_
        refine lv_icmp_ge (tgt := 64) hx hb dX7_isTwice_26 (by decide) (fun c26_2 => ?_) (fun c26_2 => ?_)
        · have h := h.1 c26_2
          refine lv_iload_n hx hb dX7_isTwice_64 rfl (lv_at hl 3 rfl) ?_
          exact g_zret X hw hr hlk h.1 h.2 dX7_isTwice_65
        · have h := h.2 c26_2
          refine lv_iload_n hx hb dX7_isTwice_29 rfl (lv_at hl 3 rfl) ?_
          refine lv_if_eq (tgt := 64) hx hb dX7_isTwice_30 (by decide) (fun c30_3 => ?_) (fun c30_3 => ?_)
          · have h := h.1 c30_3
            refine lv_iload_n hx hb dX7_isTwice_64 rfl (lv_at hl 3 rfl) ?_
            exact g_zret X hw hr hlk h.1 h.2 dX7_isTwice_65
          · have h := h.2 c30_3
            refine lv_aload_n hx hb dX7_isTwice_33 rfl (lv_at hl 0 rfl) ?_
            refine g_get 7 4 (v := .ref (q 21)) (C := RX7) (T := TX7) (N := 31) X hw (by decide) hinX7 rfl (by decide) (List.mem_cons_of_mem _ (List.mem_append_left _ (List.mem_of_getElem? (i := 1) rfl))) rfl dX7_isTwice_34 ?_
            refine lv_iload hx hb dX7_isTwice_37 (lv_at hl 4 rfl) ?_
            obtain ⟨j39_4, bj39_4, ej39_4, h⟩ := h
            refine g_iald 21 12 j39_4 X hw (Or.inr ⟨by decide, by decide⟩) rfl bj39_4 ej39_4 (by decide) dX7_isTwice_39 ?_
            refine lv_aload_n hx hb dX7_isTwice_40 rfl (lv_at hl 0 rfl) ?_
            refine g_get 7 4 (v := .ref (q 21)) (C := RX7) (T := TX7) (N := 31) X hw (by decide) hinX7 rfl (by decide) (List.mem_cons_of_mem _ (List.mem_append_left _ (List.mem_of_getElem? (i := 1) rfl))) rfl dX7_isTwice_41 ?_
            refine lv_iload hx hb dX7_isTwice_44 (lv_at hl 4 rfl) ?_
            refine lv_iload_n hx hb dX7_isTwice_46 rfl (lv_at hl 2 rfl) ?_
            refine lv_iadd hx hb dX7_isTwice_47 ?_
            obtain ⟨j48_5, bj48_5, ej48_5, h⟩ := h
            refine g_iald 21 12 j48_5 X hw (Or.inr ⟨by decide, by decide⟩) rfl bj48_5 ej48_5 (by decide) dX7_isTwice_48 ?_
            refine lv_icmp_ne (tgt := 56) hx hb dX7_isTwice_49 (by decide) (fun c49_6 => ?_) (fun c49_6 => ?_)
            · have h := h.1 c49_6
              refine lv_iconst (v := 0) hx hb dX7_isTwice_56 (by decide) ?_
              refine lv_istore_n (lv' := [(3, .int 0), (0, .ref (q 7)), (1, .int x1), (2, .int x2), (4, .int v4_2)]) hx hb dX7_isTwice_57 rfl hl (by decide) rfl (fun ls hl => ?_)
              refine lv_iinc (v := v4_2 + 1) (lv' := [(4, .int (v4_2 + 1)), (3, .int 0), (0, .ref (q 7)), (1, .int x1), (2, .int x2)]) hx hb dX7_isTwice_58 hl (k := 4) rfl rfl (by decide) rfl (fun ls hl => ?_)
              refine lv_goto (tgt := 21) hx hb dX7_isTwice_61 (by decide) ?_
              obtain ⟨k_9, hm, h⟩ := h
              exact ihI21_2 k_9 hm 0 (v4_2 + 1) _ _ ls hw (lv_sub hl [2, 3, 4, 1, 0] rfl) h
            · have h := h.2 c49_6
              refine lv_iconst (v := 1) hx hb dX7_isTwice_52 (by decide) ?_
              refine lv_goto (tgt := 57) hx hb dX7_isTwice_53 (by decide) ?_
              refine lv_istore_n (lv' := [(3, .int 1), (0, .ref (q 7)), (1, .int x1), (2, .int x2), (4, .int v4_2)]) hx hb dX7_isTwice_57 rfl hl (by decide) rfl (fun ls hl => ?_)
              refine lv_iinc (v := v4_2 + 1) (lv' := [(4, .int (v4_2 + 1)), (3, .int 1), (0, .ref (q 7)), (1, .int x1), (2, .int x2)]) hx hb dX7_isTwice_58 hl (k := 4) rfl rfl (by decide) rfl (fun ls hl => ?_)
              refine lv_goto (tgt := 21) hx hb dX7_isTwice_61 (by decide) ?_
              obtain ⟨k_11, hm, h⟩ := h
              exact ihI21_2 k_11 hm 1 (v4_2 + 1) _ _ ls hw (lv_sub hl [2, 3, 4, 1, 0] rfl) h
    exact LI21_2 n_2 w0_1 x1 _ _ ls hw (lv_sub hl [2, 3, 4, 1, 0] rfl) h0
  refine lv_icmp_gt (tgt := 16) hx hb dX7_isTwice_9 (by decide) (fun c9_11 => ?_) (fun c9_11 => ?_)
  · have h := h.1 c9_11
    refine lv_iconst (v := 0) hx hb dX7_isTwice_16 (by decide) ?_
    exact LJ17_1 0 _ _ ls hw (lv_sub hl [0, 1, 2] rfl) h
  · have h := h.2 c9_11
    refine lv_iconst (v := 1) hx hb dX7_isTwice_12 (by decide) ?_
    refine lv_goto (tgt := 17) hx hb dX7_isTwice_13 (by decide) ?_
    exact LJ17_1 1 _ _ ls hw (lv_sub hl [0, 1, 2] rfl) h

abbrev rmX7_folds : Room := { frames := 1, cells := 0, slots := 0, locals := 24 }
def wp_X7_folds (G : GS)  (post : Int32 → GS → Prop) : Prop :=
  ∃ I2_1 : Nat → Int32 → GS → Prop, (∃ n_1 : Nat, I2_1 n_1 1 G) ∧ ∀ (n_1 : Nat) (v1_1 : Int32) (G_1 : GS), I2_1 n_1 v1_1 G_1 → ((3 < v1_1 → (post 0 G_1)) ∧ (¬ (3 < v1_1) → (∃ I9_3 : Nat → Int32 → GS → Prop, (∃ n_3 : Nat, I9_3 n_3 0 G_1) ∧ ∀ (n_3 : Nat) (v2_3 : Int32) (G_3 : GS), I9_3 n_3 v2_3 G_3 → (((G_3.1 7 3) ≤ v2_3 → (∃ k_6 : Nat, k_6 < n_1 ∧ I2_1 k_6 (v1_1 + 1) G_3)) ∧ (¬ ((G_3.1 7 3) ≤ v2_3) → (wp_X7_isTwice G_3 v2_3 v1_1 (fun r_8 G_7 => (r_8 = 0 → (∃ k_11 : Nat, k_11 < n_3 ∧ I9_3 k_11 (v2_3 + 1) G_7)) ∧ (¬ (r_8 = 0) → (∀ G_12 : GS, G_12 = sI G_7 7 3 ((G_7.1 7 3) - v1_1) → (∃ I38_13 : Nat → Int32 → GS → Prop, (∃ n_13 : Nat, I38_13 n_13 v2_3 G_12) ∧ ∀ (n_13 : Nat) (v3_13 : Int32) (G_13 : GS), I38_13 n_13 v3_13 G_13 → (((G_13.1 7 3) ≤ v3_13 → (post 1 G_13)) ∧ (¬ ((G_13.1 7 3) ≤ v3_13) → (∃ j58_14 : Nat, j58_14 < 12 ∧ v3_13 + v1_1 = nI j58_14 ∧ (∃ j59_15 : Nat, j59_15 < 12 ∧ v3_13 = nI j59_15 ∧ (∀ G_17 : GS, G_17 = sI G_13 21 j59_15 (G_13.1 21 j58_14) → (∃ k_19 : Nat, k_19 < n_13 ∧ I38_13 k_19 (v3_13 + 1) G_17))))))))))))))))
set_option maxHeartbeats 4000000 in
set_option maxRecDepth 100000 in
theorem m_X7_folds (l : Launch) (D : va_G) (cy : Nat → ClassId) (q : Nat → Nat) (G : GS)  (post : Int32 → GS → Prop) (h : wp_X7_folds G  post) : gMi l yX7_folds wsX7_folds rmX7_folds D cy q [.ref (q 7)] G post := by
  intro sz
  refine Met.ofW (cc := cX7_folds) (maxL := 4) (ret := (some .boolean)) (by decide) rfl ?_
  intro p e s m args below meth c s₁ B hml hv
  obtain ⟨ha, hsz, X, hw, hA, hr, hlk⟩ := g_start B hml hv
  have hx := X.1.1
  have hb := X.1.2.1
  have hown := X.1.2.2.2.1
  have hts := X.1.2.2.2.2
  refine g_in ha (Nat.le_of_ble_eq_true rfl) (fun ls hl => ?_)
  have hl : lv_has ls 4 [(0, .ref (q 7))] := hl
  unfold wp_X7_folds at h
  have hinX7 : ∀ w ∈ wsX70, w ∈ wsX7_folds := fun _ h9 => (List.mem_cons_of_mem _ (List.mem_append_right _ h9))
  refine lv_iconst (v := 1) hx hb dX7_folds_0 (by decide) ?_
  refine lv_istore_n (lv' := [(1, .int 1), (0, .ref (q 7))]) hx hb dX7_folds_1 rfl hl (by decide) rfl (fun ls hl => ?_)
  obtain ⟨I2_1, ⟨n_1, h0⟩, hI2_1⟩ := h
  have LI2_1 : ∀ (n_1 : Nat) (v1_1 : Int32) (G_1 : GS) (H : Heap) (locs : List Loc) (ls : Array Slot), gH D cy q (gA q sz) s.heap G_1 H locs → lv_has ls 4 [(0, .ref (q 7)), (1, .int v1_1)] → I2_1 n_1 v1_1 G_1 → W p l e (headSpec wsX7_folds rmX7_folds).room s m args below meth c H locs 0 0 (MQ below (va_Qi post (gPo D cy q sz) (gA q sz)) args s 0 0 (gA q sz)) (F0 m 2 ls []) := by
    intro n_1
    induction n_1 using Nat.strongRecOn with
    | ind n_1 ihI2_1 =>
      intro v1_1 G_1 H locs ls hw hl h
      have h := hI2_1 n_1 v1_1 G_1 h
      refine lv_iload_n hx hb dX7_folds_2 rfl (lv_at hl 1 rfl) ?_
      refine lv_iconst (v := 3) hx hb dX7_folds_3 (by decide) ?_
      refine lv_icmp_gt (tgt := 80) hx hb dX7_folds_4 (by decide) (fun c4_1 => ?_) (fun c4_1 => ?_)
      · have h := h.1 c4_1
        refine lv_iconst (v := 0) hx hb dX7_folds_80 (by decide) ?_
        exact g_zret X hw hr hlk (by decide) h dX7_folds_81
      · have h := h.2 c4_1
        refine lv_iconst (v := 0) hx hb dX7_folds_7 (by decide) ?_
        refine lv_istore_n (lv' := [(2, .int 0), (0, .ref (q 7)), (1, .int v1_1)]) hx hb dX7_folds_8 rfl hl (by decide) rfl (fun ls hl => ?_)
        obtain ⟨I9_3, ⟨n_3, h0⟩, hI9_3⟩ := h
        have LI9_3 : ∀ (n_3 : Nat) (v2_3 : Int32) (G_3 : GS) (H : Heap) (locs : List Loc) (ls : Array Slot), gH D cy q (gA q sz) s.heap G_3 H locs → lv_has ls 4 [(0, .ref (q 7)), (1, .int v1_1), (2, .int v2_3)] → I9_3 n_3 v2_3 G_3 → W p l e (headSpec wsX7_folds rmX7_folds).room s m args below meth c H locs 0 0 (MQ below (va_Qi post (gPo D cy q sz) (gA q sz)) args s 0 0 (gA q sz)) (F0 m 9 ls []) := by
          intro n_3
          induction n_3 using Nat.strongRecOn with
          | ind n_3 ihI9_3 =>
            intro v2_3 G_3 H locs ls hw hl h
            have h := hI9_3 n_3 v2_3 G_3 h
            refine lv_iload_n hx hb dX7_folds_9 rfl (lv_at hl 2 rfl) ?_
            refine lv_aload_n hx hb dX7_folds_10 rfl (lv_at hl 0 rfl) ?_
            refine g_get 7 3 (v := .int (G_3.1 7 3)) (C := RX7) (T := TX7) (N := 31) X hw (by decide) hinX7 rfl (by decide) (List.mem_cons_of_mem _ (List.mem_append_left _ (List.mem_of_getElem? (i := 0) rfl))) rfl dX7_folds_11 ?_
            refine lv_icmp_ge (tgt := 74) hx hb dX7_folds_14 (by decide) (fun c14_3 => ?_) (fun c14_3 => ?_)
            · have h := h.1 c14_3
              refine lv_iinc (v := v1_1 + 1) (lv' := [(1, .int (v1_1 + 1)), (0, .ref (q 7)), (2, .int v2_3)]) hx hb dX7_folds_74 hl (k := 1) rfl rfl (by decide) rfl (fun ls hl => ?_)
              refine lv_goto (tgt := 2) hx hb dX7_folds_77 (by decide) ?_
              obtain ⟨k_6, hm, h⟩ := h
              exact ihI2_1 k_6 hm (v1_1 + 1) G_3 _ _ ls hw (lv_sub hl [1, 0] rfl) h
            · have h := h.2 c14_3
              refine lv_aload_n hx hb dX7_folds_17 rfl (lv_at hl 0 rfl) ?_
              refine lv_iload_n hx hb dX7_folds_18 rfl (lv_at hl 2 rfl) ?_
              refine lv_iload_n hx hb dX7_folds_19 rfl (lv_at hl 1 rfl) ?_
              refine g_callVi 7 (C := RX7) (T := TX7) (N := 31) (As := [.int v2_3, .int v1_1]) (rest := []) X hw hA (m_X7_isTwice l D cy q G_3 v2_3 v1_1 _ h) (by decide) rfl (cwV 2 hts gX7_folds_X7_isTwice rfl rfl rfl (by decide +kernel) ⟨Nat.le_of_ble_eq_true rfl, Nat.le_of_ble_eq_true rfl⟩) rfl hl.1 rfl (Nat.le_of_ble_eq_true rfl) dX7_folds_20 ⟨Nat.zero_le _, Nat.zero_le _⟩ (fun r_8 G_7 H locs h hw => ?_)
              refine lv_if_eq (tgt := 68) hx hb dX7_folds_23 (by decide) (fun c23_8 => ?_) (fun c23_8 => ?_)
              · have h := h.1 c23_8
                refine lv_iinc (v := v2_3 + 1) (lv' := [(2, .int (v2_3 + 1)), (0, .ref (q 7)), (1, .int v1_1)]) hx hb dX7_folds_68 hl (k := 2) rfl rfl (by decide) rfl (fun ls hl => ?_)
                refine lv_goto (tgt := 9) hx hb dX7_folds_71 (by decide) ?_
                obtain ⟨k_11, hm, h⟩ := h
                exact ihI9_3 k_11 hm (v2_3 + 1) G_7 _ _ ls hw (lv_sub hl [1, 2, 0] rfl) h
              · have h := h.2 c23_8
                refine lv_aload_n hx hb dX7_folds_26 rfl (lv_at hl 0 rfl) ?_
                refine lv_dup hx hb dX7_folds_27 rfl ?_
                refine g_get 7 3 (v := .int (G_7.1 7 3)) (C := RX7) (T := TX7) (N := 31) X hw (by decide) hinX7 rfl (by decide) (List.mem_cons_of_mem _ (List.mem_append_left _ (List.mem_of_getElem? (i := 0) rfl))) rfl dX7_folds_28 ?_
                refine lv_iload_n hx hb dX7_folds_31 rfl (lv_at hl 1 rfl) ?_
                refine lv_isub hx hb dX7_folds_32 ?_
                refine g_put 7 3 (v := (G_7.1 7 3) - v1_1) (ty := .int) (C := RX7) (T := TX7) (N := 31) X hw (by decide) hinX7 tyX7_ok nmX7 rfl (by decide) (List.mem_cons_of_mem _ (List.mem_append_left _ (List.mem_of_getElem? (i := 0) rfl))) rfl (by decide +kernel) rfl rfl (Nat.le_of_ble_eq_true rfl) rfl dX7_folds_33 (fun H locs hw => ?_)
                obtain ⟨G_12, eG_12⟩ : ∃ z, z = sI G_7 7 3 ((G_7.1 7 3) - v1_1) := ⟨_, rfl⟩
                rw [← eG_12] at hw
                have h := h G_12 eG_12
                refine lv_iload_n hx hb dX7_folds_36 rfl (lv_at hl 2 rfl) ?_
                refine lv_istore_n (lv' := [(3, .int v2_3), (0, .ref (q 7)), (1, .int v1_1), (2, .int v2_3)]) hx hb dX7_folds_37 rfl hl (by decide) rfl (fun ls hl => ?_)
                obtain ⟨I38_13, ⟨n_13, h0⟩, hI38_13⟩ := h
                have LI38_13 : ∀ (n_13 : Nat) (v3_13 : Int32) (G_13 : GS) (H : Heap) (locs : List Loc) (ls : Array Slot), gH D cy q (gA q sz) s.heap G_13 H locs → lv_has ls 4 [(0, .ref (q 7)), (1, .int v1_1), (3, .int v3_13)] → I38_13 n_13 v3_13 G_13 → W p l e (headSpec wsX7_folds rmX7_folds).room s m args below meth c H locs 0 0 (MQ below (va_Qi post (gPo D cy q sz) (gA q sz)) args s 0 0 (gA q sz)) (F0 m 38 ls []) := by
                  intro n_13
                  induction n_13 using Nat.strongRecOn with
                  | ind n_13 ihI38_13 =>
                    intro v3_13 G_13 H locs ls hw hl h
                    have h := hI38_13 n_13 v3_13 G_13 h
                    refine lv_iload_n hx hb dX7_folds_38 rfl (lv_at hl 2 rfl) ?_
                    refine lv_aload_n hx hb dX7_folds_39 rfl (lv_at hl 0 rfl) ?_
                    refine g_get 7 3 (v := .int (G_13.1 7 3)) (C := RX7) (T := TX7) (N := 31) X hw (by decide) hinX7 rfl (by decide) (List.mem_cons_of_mem _ (List.mem_append_left _ (List.mem_of_getElem? (i := 0) rfl))) rfl dX7_folds_40 ?_
                    refine lv_icmp_ge (tgt := 66) hx hb dX7_folds_43 (by decide) (fun c43_13 => ?_) (fun c43_13 => ?_)
                    · have h := h.1 c43_13
                      refine lv_iconst (v := 1) hx hb dX7_folds_66 (by decide) ?_
                      exact g_zret X hw hr hlk (by decide) h dX7_folds_67
                    · have h := h.2 c43_13
                      refine lv_aload_n hx hb dX7_folds_46 rfl (lv_at hl 0 rfl) ?_
                      refine g_get 7 4 (v := .ref (q 21)) (C := RX7) (T := TX7) (N := 31) X hw (by decide) hinX7 rfl (by decide) (List.mem_cons_of_mem _ (List.mem_append_left _ (List.mem_of_getElem? (i := 1) rfl))) rfl dX7_folds_47 ?_
                      refine lv_iload_n hx hb dX7_folds_50 rfl (lv_at hl 2 rfl) ?_
                      refine lv_aload_n hx hb dX7_folds_51 rfl (lv_at hl 0 rfl) ?_
                      refine g_get 7 4 (v := .ref (q 21)) (C := RX7) (T := TX7) (N := 31) X hw (by decide) hinX7 rfl (by decide) (List.mem_cons_of_mem _ (List.mem_append_left _ (List.mem_of_getElem? (i := 1) rfl))) rfl dX7_folds_52 ?_
                      refine lv_iload_n hx hb dX7_folds_55 rfl (lv_at hl 2 rfl) ?_
                      refine lv_iload_n hx hb dX7_folds_56 rfl (lv_at hl 1 rfl) ?_
                      refine lv_iadd hx hb dX7_folds_57 ?_
                      obtain ⟨j58_14, bj58_14, ej58_14, h⟩ := h
                      refine g_iald 21 12 j58_14 X hw (Or.inr ⟨by decide, by decide⟩) rfl bj58_14 ej58_14 (by decide) dX7_folds_58 ?_
                      obtain ⟨j59_15, bj59_15, ej59_15, h⟩ := h
                      refine g_iast 21 12 j59_15 X hw (Or.inr ⟨by decide, by decide⟩) rfl bj59_15 ej59_15 (by decide) dX7_folds_59 (fun H locs hw => ?_)
                      obtain ⟨G_17, eG_17⟩ : ∃ z, z = sI G_13 21 j59_15 (G_13.1 21 j58_14) := ⟨_, rfl⟩
                      rw [← eG_17] at hw
                      have h := h G_17 eG_17
                      refine lv_iinc (v := v3_13 + 1) (lv' := [(3, .int (v3_13 + 1)), (0, .ref (q 7)), (1, .int v1_1)]) hx hb dX7_folds_60 hl (k := 2) rfl rfl (by decide) rfl (fun ls hl => ?_)
                      refine lv_goto (tgt := 38) hx hb dX7_folds_63 (by decide) ?_
                      obtain ⟨k_19, hm, h⟩ := h
                      exact ihI38_13 k_19 hm (v3_13 + 1) G_17 _ _ ls hw (lv_sub hl [1, 2, 0] rfl) h
                exact LI38_13 n_13 v2_3 G_12 _ _ ls hw (lv_sub hl [1, 2, 0] rfl) h0
        exact LI9_3 n_3 0 G_1 _ _ ls hw (lv_sub hl [1, 2, 0] rfl) h0
  exact LI2_1 n_1 1 G _ _ ls hw (lv_sub hl [1, 0] rfl) h0

abbrev rmX7_stands : Room := { frames := 0, cells := 0, slots := 0, locals := 0 }
def wp_X7_stands (G : GS) (x1 : Int32) (x2 : Int32) (post : Int32 → GS → Prop) : Prop :=
  ∃ I5_1 : Nat → Int32 → Int32 → Prop, (∃ n_1 : Nat, I5_1 n_1 0 0) ∧ ∀ (n_1 : Nat) (v3_1 : Int32) (v4_1 : Int32), I5_1 n_1 v3_1 v4_1 → (∃ j12_1 : Nat, j12_1 < 40 ∧ x2 = nI j12_1 ∧ (((G.1 23 j12_1) ≤ v4_1 → ((v3_1 = 0 ∨ v3_1 = 1) ∧ post v3_1 G)) ∧ (¬ ((G.1 23 j12_1) ≤ v4_1) → ((¬ v3_1 = 0 → (∃ k_6 : Nat, k_6 < n_1 ∧ I5_1 k_6 1 (v4_1 + 1))) ∧ (v3_1 = 0 → (∃ j31_6 : Nat, j31_6 < 480 ∧ (12 * x2) + v4_1 = nI j31_6 ∧ ((¬ (G.1 22 j31_6) = x1 → (∃ k_10 : Nat, k_10 < n_1 ∧ I5_1 k_10 0 (v4_1 + 1))) ∧ ((G.1 22 j31_6) = x1 → (∃ k_12 : Nat, k_12 < n_1 ∧ I5_1 k_12 1 (v4_1 + 1))))))))))
set_option maxHeartbeats 4000000 in
set_option maxRecDepth 100000 in
theorem m_X7_stands (l : Launch) (D : va_G) (cy : Nat → ClassId) (q : Nat → Nat) (G : GS) (x1 : Int32) (x2 : Int32) (post : Int32 → GS → Prop) (h : wp_X7_stands G x1 x2 post) : gMi l yX7_stands wsX7_stands rmX7_stands D cy q [.ref (q 7), .int x1, .int x2] G post := by
  intro sz
  refine Met.ofW (cc := cX7_stands) (maxL := 5) (ret := (some .boolean)) (by decide) rfl ?_
  intro p e s m args below meth c s₁ B hml hv
  obtain ⟨ha, hsz, X, hw, hA, hr, hlk⟩ := g_start B hml hv
  have hx := X.1.1
  have hb := X.1.2.1
  have hown := X.1.2.2.2.1
  have hts := X.1.2.2.2.2
  refine g_in ha (Nat.le_of_ble_eq_true rfl) (fun ls hl => ?_)
  have hl : lv_has ls 5 [(0, .ref (q 7)), (1, .int x1), (2, .int x2)] := hl
  unfold wp_X7_stands at h
  have hinX7 : ∀ w ∈ wsX70, w ∈ wsX7_stands := fun _ h9 => (List.mem_cons_of_mem _ (List.mem_append_right _ h9))
  refine lv_iconst (v := 0) hx hb dX7_stands_0 (by decide) ?_
  refine lv_istore_n (lv' := [(3, .int 0), (0, .ref (q 7)), (1, .int x1), (2, .int x2)]) hx hb dX7_stands_1 rfl hl (by decide) rfl (fun ls hl => ?_)
  refine lv_iconst (v := 0) hx hb dX7_stands_2 (by decide) ?_
  refine lv_istore (lv' := [(4, .int 0), (3, .int 0), (0, .ref (q 7)), (1, .int x1), (2, .int x2)]) hx hb dX7_stands_3 hl (by decide) rfl (fun ls hl => ?_)
  obtain ⟨I5_1, ⟨n_1, h0⟩, hI5_1⟩ := h
  have LI5_1 : ∀ (n_1 : Nat) (v3_1 : Int32) (v4_1 : Int32) (H : Heap) (locs : List Loc) (ls : Array Slot), gH D cy q (gA q sz) s.heap G H locs → lv_has ls 5 [(0, .ref (q 7)), (1, .int x1), (2, .int x2), (3, .int v3_1), (4, .int v4_1)] → I5_1 n_1 v3_1 v4_1 → W p l e (headSpec wsX7_stands rmX7_stands).room s m args below meth c H locs 0 0 (MQ below (va_Qi post (gPo D cy q sz) (gA q sz)) args s 0 0 (gA q sz)) (F0 m 5 ls []) := by
    intro n_1
    induction n_1 using Nat.strongRecOn with
    | ind n_1 ihI5_1 =>
      intro v3_1 v4_1 H locs ls hw hl h
      have h := hI5_1 n_1 v3_1 v4_1 h
      refine lv_iload hx hb dX7_stands_5 (lv_at hl 4 rfl) ?_
      refine lv_aload_n hx hb dX7_stands_7 rfl (lv_at hl 0 rfl) ?_
      refine g_get 7 7 (v := .ref (q 23)) (C := RX7) (T := TX7) (N := 31) X hw (by decide) hinX7 rfl (by decide) (List.mem_cons_of_mem _ (List.mem_append_left _ (List.mem_of_getElem? (i := 0) rfl))) rfl dX7_stands_8 ?_
      refine lv_iload_n hx hb dX7_stands_11 rfl (lv_at hl 2 rfl) ?_
      obtain ⟨j12_1, bj12_1, ej12_1, h⟩ := h
      refine g_iald 23 40 j12_1 X hw (Or.inr ⟨by decide, by decide⟩) rfl bj12_1 ej12_1 (by decide) dX7_stands_12 ?_
      refine lv_icmp_ge (tgt := 48) hx hb dX7_stands_13 (by decide) (fun c13_2 => ?_) (fun c13_2 => ?_)
      · have h := h.1 c13_2
        refine lv_iload_n hx hb dX7_stands_48 rfl (lv_at hl 3 rfl) ?_
        exact g_zret X hw hr hlk h.1 h.2 dX7_stands_49
      · have h := h.2 c13_2
        refine lv_iload_n hx hb dX7_stands_16 rfl (lv_at hl 3 rfl) ?_
        refine lv_if_ne (tgt := 36) hx hb dX7_stands_17 (by decide) (fun c17_3 => ?_) (fun c17_3 => ?_)
        · have h := h.1 c17_3
          refine lv_iconst (v := 1) hx hb dX7_stands_36 (by decide) ?_
          refine lv_goto (tgt := 41) hx hb dX7_stands_37 (by decide) ?_
          refine lv_istore_n (lv' := [(3, .int 1), (0, .ref (q 7)), (1, .int x1), (2, .int x2), (4, .int v4_1)]) hx hb dX7_stands_41 rfl hl (by decide) rfl (fun ls hl => ?_)
          refine lv_iinc (v := v4_1 + 1) (lv' := [(4, .int (v4_1 + 1)), (3, .int 1), (0, .ref (q 7)), (1, .int x1), (2, .int x2)]) hx hb dX7_stands_42 hl (k := 4) rfl rfl (by decide) rfl (fun ls hl => ?_)
          refine lv_goto (tgt := 5) hx hb dX7_stands_45 (by decide) ?_
          obtain ⟨k_6, hm, h⟩ := h
          exact ihI5_1 k_6 hm 1 (v4_1 + 1) _ _ ls hw (lv_sub hl [2, 3, 4, 1, 0] rfl) h
        · have h := h.2 c17_3
          refine lv_aload_n hx hb dX7_stands_20 rfl (lv_at hl 0 rfl) ?_
          refine g_get 7 6 (v := .ref (q 22)) (C := RX7) (T := TX7) (N := 31) X hw (by decide) hinX7 rfl (by decide) (List.mem_cons_of_mem _ (List.mem_append_left _ (List.mem_of_getElem? (i := 1) rfl))) rfl dX7_stands_21 ?_
          refine lv_bipush (v := 12) hx hb dX7_stands_24 (by decide) ?_
          refine lv_iload_n hx hb dX7_stands_26 rfl (lv_at hl 2 rfl) ?_
          refine lv_imul hx hb dX7_stands_27 ?_
          refine lv_iload hx hb dX7_stands_28 (lv_at hl 4 rfl) ?_
          refine lv_iadd hx hb dX7_stands_30 ?_
          obtain ⟨j31_6, bj31_6, ej31_6, h⟩ := h
          refine g_iald 22 480 j31_6 X hw (Or.inr ⟨by decide, by decide⟩) rfl bj31_6 ej31_6 (by decide) dX7_stands_31 ?_
          refine lv_iload_n hx hb dX7_stands_32 rfl (lv_at hl 1 rfl) ?_
          refine lv_icmp_ne (tgt := 40) hx hb dX7_stands_33 (by decide) (fun c33_7 => ?_) (fun c33_7 => ?_)
          · have h := h.1 c33_7
            refine lv_iconst (v := 0) hx hb dX7_stands_40 (by decide) ?_
            refine lv_istore_n (lv' := [(3, .int 0), (0, .ref (q 7)), (1, .int x1), (2, .int x2), (4, .int v4_1)]) hx hb dX7_stands_41 rfl hl (by decide) rfl (fun ls hl => ?_)
            refine lv_iinc (v := v4_1 + 1) (lv' := [(4, .int (v4_1 + 1)), (3, .int 0), (0, .ref (q 7)), (1, .int x1), (2, .int x2)]) hx hb dX7_stands_42 hl (k := 4) rfl rfl (by decide) rfl (fun ls hl => ?_)
            refine lv_goto (tgt := 5) hx hb dX7_stands_45 (by decide) ?_
            obtain ⟨k_10, hm, h⟩ := h
            exact ihI5_1 k_10 hm 0 (v4_1 + 1) _ _ ls hw (lv_sub hl [2, 3, 4, 1, 0] rfl) h
          · have h := h.2 c33_7
            refine lv_iconst (v := 1) hx hb dX7_stands_36 (by decide) ?_
            refine lv_goto (tgt := 41) hx hb dX7_stands_37 (by decide) ?_
            refine lv_istore_n (lv' := [(3, .int 1), (0, .ref (q 7)), (1, .int x1), (2, .int x2), (4, .int v4_1)]) hx hb dX7_stands_41 rfl hl (by decide) rfl (fun ls hl => ?_)
            refine lv_iinc (v := v4_1 + 1) (lv' := [(4, .int (v4_1 + 1)), (3, .int 1), (0, .ref (q 7)), (1, .int x1), (2, .int x2)]) hx hb dX7_stands_42 hl (k := 4) rfl rfl (by decide) rfl (fun ls hl => ?_)
            refine lv_goto (tgt := 5) hx hb dX7_stands_45 (by decide) ?_
            obtain ⟨k_12, hm, h⟩ := h
            exact ihI5_1 k_12 hm 1 (v4_1 + 1) _ _ ls hw (lv_sub hl [2, 3, 4, 1, 0] rfl) h
  exact LI5_1 n_1 0 0 _ _ ls hw (lv_sub hl [2, 3, 4, 1, 0] rfl) h0

abbrev rmX7_isCommon : Room := { frames := 1, cells := 0, slots := 0, locals := 24 }
def wp_X7_isCommon (G : GS) (x1 : Int32) (post : Int32 → GS → Prop) : Prop :=
  (x1 ≤ 0 → (post 0 G)) ∧ (¬ (x1 ≤ 0) → ((5 ≤ (G.1 7 5) → (∃ I18_3 : Nat → Int32 → Int32 → GS → Prop, (∃ n_3 : Nat, I18_3 n_3 0 0 G) ∧ ∀ (n_3 : Nat) (v2_3 : Int32) (v3_3 : Int32) (G_3 : GS), I18_3 n_3 v2_3 v3_3 G_3 → (((G_3.1 7 5) ≤ v3_3 → (((5 * v2_3) < (4 * (G_3.1 7 5)) → (post 0 G_3)) ∧ (¬ ((5 * v2_3) < (4 * (G_3.1 7 5))) → (post 1 G_3)))) ∧ (¬ ((G_3.1 7 5) ≤ v3_3) → (wp_X7_stands G_3 x1 v3_3 (fun r_7 G_6 => (r_7 = 0 → (∀ y_9 : Int32, y_9 = v2_3 + 0 → (∃ k_11 : Nat, k_11 < n_3 ∧ I18_3 k_11 y_9 (v3_3 + 1) G_6))) ∧ (¬ (r_7 = 0) → (∀ y_12 : Int32, y_12 = v2_3 + 1 → (∃ k_14 : Nat, k_14 < n_3 ∧ I18_3 k_14 y_12 (v3_3 + 1) G_6))))))))) ∧ (¬ (5 ≤ (G.1 7 5)) → (post 0 G))))
set_option maxHeartbeats 4000000 in
set_option maxRecDepth 100000 in
theorem m_X7_isCommon (l : Launch) (D : va_G) (cy : Nat → ClassId) (q : Nat → Nat) (G : GS) (x1 : Int32) (post : Int32 → GS → Prop) (h : wp_X7_isCommon G x1 post) : gMi l yX7_isCommon wsX7_isCommon rmX7_isCommon D cy q [.ref (q 7), .int x1] G post := by
  intro sz
  refine Met.ofW (cc := cX7_isCommon) (maxL := 4) (ret := (some .boolean)) (by decide) rfl ?_
  intro p e s m args below meth c s₁ B hml hv
  obtain ⟨ha, hsz, X, hw, hA, hr, hlk⟩ := g_start B hml hv
  have hx := X.1.1
  have hb := X.1.2.1
  have hown := X.1.2.2.2.1
  have hts := X.1.2.2.2.2
  refine g_in ha (Nat.le_of_ble_eq_true rfl) (fun ls hl => ?_)
  have hl : lv_has ls 4 [(0, .ref (q 7)), (1, .int x1)] := hl
  unfold wp_X7_isCommon at h
  have hinX7 : ∀ w ∈ wsX70, w ∈ wsX7_isCommon := fun _ h9 => (List.mem_cons_of_mem _ (List.mem_append_right _ h9))
  refine lv_iload_n hx hb dX7_isCommon_0 rfl (lv_at hl 1 rfl) ?_
  refine lv_if_le (tgt := 12) hx hb dX7_isCommon_1 (by decide) (fun c1_0 => ?_) (fun c1_0 => ?_)
  · have h := h.1 c1_0
    refine lv_iconst (v := 0) hx hb dX7_isCommon_12 (by decide) ?_
    exact g_zret X hw hr hlk (by decide) h dX7_isCommon_13
  · have h := h.2 c1_0
    refine lv_aload_n hx hb dX7_isCommon_4 rfl (lv_at hl 0 rfl) ?_
    refine g_get 7 5 (v := .int (G.1 7 5)) (C := RX7) (T := TX7) (N := 31) X hw (by decide) hinX7 rfl (by decide) (List.mem_cons_of_mem _ (List.mem_append_left _ (List.mem_of_getElem? (i := 0) rfl))) rfl dX7_isCommon_5 ?_
    refine lv_iconst (v := 5) hx hb dX7_isCommon_8 (by decide) ?_
    refine lv_icmp_ge (tgt := 14) hx hb dX7_isCommon_9 (by decide) (fun c9_1 => ?_) (fun c9_1 => ?_)
    · have h := h.1 c9_1
      refine lv_iconst (v := 0) hx hb dX7_isCommon_14 (by decide) ?_
      refine lv_istore_n (lv' := [(2, .int 0), (0, .ref (q 7)), (1, .int x1)]) hx hb dX7_isCommon_15 rfl hl (by decide) rfl (fun ls hl => ?_)
      refine lv_iconst (v := 0) hx hb dX7_isCommon_16 (by decide) ?_
      refine lv_istore_n (lv' := [(3, .int 0), (2, .int 0), (0, .ref (q 7)), (1, .int x1)]) hx hb dX7_isCommon_17 rfl hl (by decide) rfl (fun ls hl => ?_)
      obtain ⟨I18_3, ⟨n_3, h0⟩, hI18_3⟩ := h
      have LI18_3 : ∀ (n_3 : Nat) (v2_3 : Int32) (v3_3 : Int32) (G_3 : GS) (H : Heap) (locs : List Loc) (ls : Array Slot), gH D cy q (gA q sz) s.heap G_3 H locs → lv_has ls 4 [(0, .ref (q 7)), (1, .int x1), (2, .int v2_3), (3, .int v3_3)] → I18_3 n_3 v2_3 v3_3 G_3 → W p l e (headSpec wsX7_isCommon rmX7_isCommon).room s m args below meth c H locs 0 0 (MQ below (va_Qi post (gPo D cy q sz) (gA q sz)) args s 0 0 (gA q sz)) (F0 m 18 ls []) := by
        intro n_3
        induction n_3 using Nat.strongRecOn with
        | ind n_3 ihI18_3 =>
          intro v2_3 v3_3 G_3 H locs ls hw hl h
          have h := hI18_3 n_3 v2_3 v3_3 G_3 h
          refine lv_iload_n hx hb dX7_isCommon_18 rfl (lv_at hl 3 rfl) ?_
          refine lv_aload_n hx hb dX7_isCommon_19 rfl (lv_at hl 0 rfl) ?_
          refine g_get 7 5 (v := .int (G_3.1 7 5)) (C := RX7) (T := TX7) (N := 31) X hw (by decide) hinX7 rfl (by decide) (List.mem_cons_of_mem _ (List.mem_append_left _ (List.mem_of_getElem? (i := 0) rfl))) rfl dX7_isCommon_20 ?_
          refine lv_icmp_ge (tgt := 49) hx hb dX7_isCommon_23 (by decide) (fun c23_3 => ?_) (fun c23_3 => ?_)
          · have h := h.1 c23_3
            refine lv_iconst (v := 5) hx hb dX7_isCommon_49 (by decide) ?_
            refine lv_iload_n hx hb dX7_isCommon_50 rfl (lv_at hl 2 rfl) ?_
            refine lv_imul hx hb dX7_isCommon_51 ?_
            refine lv_iconst (v := 4) hx hb dX7_isCommon_52 (by decide) ?_
            refine lv_aload_n hx hb dX7_isCommon_53 rfl (lv_at hl 0 rfl) ?_
            refine g_get 7 5 (v := .int (G_3.1 7 5)) (C := RX7) (T := TX7) (N := 31) X hw (by decide) hinX7 rfl (by decide) (List.mem_cons_of_mem _ (List.mem_append_left _ (List.mem_of_getElem? (i := 0) rfl))) rfl dX7_isCommon_54 ?_
            refine lv_imul hx hb dX7_isCommon_57 ?_
            refine lv_icmp_lt (tgt := 65) hx hb dX7_isCommon_58 (by decide) (fun c58_4 => ?_) (fun c58_4 => ?_)
            · have h := h.1 c58_4
              refine lv_iconst (v := 0) hx hb dX7_isCommon_65 (by decide) ?_
              exact g_zret X hw hr hlk (by decide) h dX7_isCommon_66
            · have h := h.2 c58_4
              refine lv_iconst (v := 1) hx hb dX7_isCommon_61 (by decide) ?_
              refine lv_goto (tgt := 66) hx hb dX7_isCommon_62 (by decide) ?_
              exact g_zret X hw hr hlk (by decide) h dX7_isCommon_66
          · have h := h.2 c23_3
            refine lv_iload_n hx hb dX7_isCommon_26 rfl (lv_at hl 2 rfl) ?_
            refine lv_aload_n hx hb dX7_isCommon_27 rfl (lv_at hl 0 rfl) ?_
            refine lv_iload_n hx hb dX7_isCommon_28 rfl (lv_at hl 1 rfl) ?_
            refine lv_iload_n hx hb dX7_isCommon_29 rfl (lv_at hl 3 rfl) ?_
            refine g_callVi 7 (C := RX7) (T := TX7) (N := 31) (As := [.int x1, .int v3_3]) (rest := [.int v2_3]) X hw hA (m_X7_stands l D cy q G_3 x1 v3_3 _ h) (by decide) rfl (cwV 2 hts gX7_isCommon_X7_stands rfl rfl rfl (by decide +kernel) ⟨Nat.le_of_ble_eq_true rfl, Nat.le_of_ble_eq_true rfl⟩) rfl hl.1 rfl (Nat.le_of_ble_eq_true rfl) dX7_isCommon_30 ⟨Nat.zero_le _, Nat.zero_le _⟩ (fun r_7 G_6 H locs h hw => ?_)
            refine lv_if_eq (tgt := 40) hx hb dX7_isCommon_33 (by decide) (fun c33_7 => ?_) (fun c33_7 => ?_)
            · have h := h.1 c33_7
              refine lv_iconst (v := 0) hx hb dX7_isCommon_40 (by decide) ?_
              refine lv_iadd hx hb dX7_isCommon_41 ?_
              refine lv_topi (fun y_9 ey_9 => ?_)
              have h := h y_9 ey_9
              refine lv_istore_n (lv' := [(2, .int y_9), (0, .ref (q 7)), (1, .int x1), (3, .int v3_3)]) hx hb dX7_isCommon_42 rfl hl (by decide) rfl (fun ls hl => ?_)
              refine lv_iinc (v := v3_3 + 1) (lv' := [(3, .int (v3_3 + 1)), (2, .int y_9), (0, .ref (q 7)), (1, .int x1)]) hx hb dX7_isCommon_43 hl (k := 3) rfl rfl (by decide) rfl (fun ls hl => ?_)
              refine lv_goto (tgt := 18) hx hb dX7_isCommon_46 (by decide) ?_
              obtain ⟨k_11, hm, h⟩ := h
              exact ihI18_3 k_11 hm y_9 (v3_3 + 1) G_6 _ _ ls hw (lv_sub hl [2, 3, 1, 0] rfl) h
            · have h := h.2 c33_7
              refine lv_iconst (v := 1) hx hb dX7_isCommon_36 (by decide) ?_
              refine lv_goto (tgt := 41) hx hb dX7_isCommon_37 (by decide) ?_
              refine lv_iadd hx hb dX7_isCommon_41 ?_
              refine lv_topi (fun y_12 ey_12 => ?_)
              have h := h y_12 ey_12
              refine lv_istore_n (lv' := [(2, .int y_12), (0, .ref (q 7)), (1, .int x1), (3, .int v3_3)]) hx hb dX7_isCommon_42 rfl hl (by decide) rfl (fun ls hl => ?_)
              refine lv_iinc (v := v3_3 + 1) (lv' := [(3, .int (v3_3 + 1)), (2, .int y_12), (0, .ref (q 7)), (1, .int x1)]) hx hb dX7_isCommon_43 hl (k := 3) rfl rfl (by decide) rfl (fun ls hl => ?_)
              refine lv_goto (tgt := 18) hx hb dX7_isCommon_46 (by decide) ?_
              obtain ⟨k_14, hm, h⟩ := h
              exact ihI18_3 k_14 hm y_12 (v3_3 + 1) G_6 _ _ ls hw (lv_sub hl [2, 3, 1, 0] rfl) h
      exact LI18_3 n_3 0 0 G _ _ ls hw (lv_sub hl [2, 3, 1, 0] rfl) h0
    · have h := h.2 c9_1
      refine lv_iconst (v := 0) hx hb dX7_isCommon_12 (by decide) ?_
      exact g_zret X hw hr hlk (by decide) h dX7_isCommon_13

abbrev rmX7_findCommon : Room := { frames := 2, cells := 0, slots := 0, locals := 47 }
def wp_X7_findCommon (G : GS)  (post : GS → Prop) : Prop :=
  ∃ I2_1 : Nat → Int32 → GS → Prop, (∃ n_1 : Nat, I2_1 n_1 0 G) ∧ ∀ (n_1 : Nat) (v1_1 : Int32) (G_1 : GS), I2_1 n_1 v1_1 G_1 → ((500 < v1_1 → (post G_1)) ∧ (¬ (500 < v1_1) → (wp_X7_isCommon G_1 v1_1 (fun r_4 G_3 => ∃ j19_4 : Nat, j19_4 < 501 ∧ v1_1 = nI j19_4 ∧ ((r_4 = 0 ∨ r_4 = 1) ∧ (∀ G_6 : GS, G_6 = sI G_3 37 j19_4 r_4 → (∃ k_8 : Nat, k_8 < n_1 ∧ I2_1 k_8 (v1_1 + 1) G_6)))))))
set_option maxHeartbeats 4000000 in
set_option maxRecDepth 100000 in
theorem m_X7_findCommon (l : Launch) (D : va_G) (cy : Nat → ClassId) (q : Nat → Nat) (G : GS)  (post : GS → Prop) (h : wp_X7_findCommon G  post) : gMv l yX7_findCommon wsX7_findCommon rmX7_findCommon D cy q [.ref (q 7)] G post := by
  intro sz
  refine Met.ofW (cc := cX7_findCommon) (maxL := 2) (ret := none) (by decide) rfl ?_
  intro p e s m args below meth c s₁ B hml hv
  obtain ⟨ha, hsz, X, hw, hA, hr, hlk⟩ := g_start B hml hv
  have hx := X.1.1
  have hb := X.1.2.1
  have hown := X.1.2.2.2.1
  have hts := X.1.2.2.2.2
  refine g_in ha (Nat.le_of_ble_eq_true rfl) (fun ls hl => ?_)
  have hl : lv_has ls 2 [(0, .ref (q 7))] := hl
  unfold wp_X7_findCommon at h
  have hinX7 : ∀ w ∈ wsX70, w ∈ wsX7_findCommon := fun _ h9 => (List.mem_cons_of_mem _ (List.mem_append_right _ h9))
  refine lv_iconst (v := 0) hx hb dX7_findCommon_0 (by decide) ?_
  refine lv_istore_n (lv' := [(1, .int 0), (0, .ref (q 7))]) hx hb dX7_findCommon_1 rfl hl (by decide) rfl (fun ls hl => ?_)
  obtain ⟨I2_1, ⟨n_1, h0⟩, hI2_1⟩ := h
  have LI2_1 : ∀ (n_1 : Nat) (v1_1 : Int32) (G_1 : GS) (H : Heap) (locs : List Loc) (ls : Array Slot), gH D cy q (gA q sz) s.heap G_1 H locs → lv_has ls 2 [(0, .ref (q 7)), (1, .int v1_1)] → I2_1 n_1 v1_1 G_1 → W p l e (headSpec wsX7_findCommon rmX7_findCommon).room s m args below meth c H locs 0 0 (MQ below (va_Qv post (gPo D cy q sz) (gA q sz)) args s 0 0 (gA q sz)) (F0 m 2 ls []) := by
    intro n_1
    induction n_1 using Nat.strongRecOn with
    | ind n_1 ihI2_1 =>
      intro v1_1 G_1 H locs ls hw hl h
      have h := hI2_1 n_1 v1_1 G_1 h
      refine lv_iload_n hx hb dX7_findCommon_2 rfl (lv_at hl 1 rfl) ?_
      refine lv_sipush (v := 500) hx hb dX7_findCommon_3 (by decide) ?_
      refine lv_icmp_gt (tgt := 26) hx hb dX7_findCommon_6 (by decide) (fun c6_1 => ?_) (fun c6_1 => ?_)
      · have h := h.1 c6_1
        exact g_vret X hw hr hlk h dX7_findCommon_26
      · have h := h.2 c6_1
        refine lv_aload_n hx hb dX7_findCommon_9 rfl (lv_at hl 0 rfl) ?_
        refine g_get 7 17 (v := .ref (q 37)) (C := RX7) (T := TX7) (N := 31) X hw (by decide) hinX7 rfl (by decide) (List.mem_cons_of_mem _ (List.mem_append_left _ (List.mem_of_getElem? (i := 0) rfl))) rfl dX7_findCommon_10 ?_
        refine lv_iload_n hx hb dX7_findCommon_13 rfl (lv_at hl 1 rfl) ?_
        refine lv_aload_n hx hb dX7_findCommon_14 rfl (lv_at hl 0 rfl) ?_
        refine lv_iload_n hx hb dX7_findCommon_15 rfl (lv_at hl 1 rfl) ?_
        refine g_callVi 7 (C := RX7) (T := TX7) (N := 31) (As := [.int v1_1]) (rest := [.int v1_1, .ref (q 37)]) X hw hA (m_X7_isCommon l D cy q G_1 v1_1 _ h) (by decide) rfl (cwV 1 hts gX7_findCommon_X7_isCommon rfl rfl rfl (by decide +kernel) ⟨Nat.le_of_ble_eq_true rfl, Nat.le_of_ble_eq_true rfl⟩) rfl hl.1 rfl (Nat.le_of_ble_eq_true rfl) dX7_findCommon_16 ⟨Nat.zero_le _, Nat.zero_le _⟩ (fun r_4 G_3 H locs h hw => ?_)
        obtain ⟨j19_4, bj19_4, ej19_4, h⟩ := h
        obtain ⟨hz, h⟩ := h
        refine g_zast 37 501 j19_4 X hw ⟨by decide, by decide⟩ rfl bj19_4 ej19_4 hz (by decide) dX7_findCommon_19 (fun H locs hw => ?_)
        obtain ⟨G_6, eG_6⟩ : ∃ z, z = sI G_3 37 j19_4 r_4 := ⟨_, rfl⟩
        rw [← eG_6] at hw
        have h := h G_6 eG_6
        refine lv_iinc (v := v1_1 + 1) (lv' := [(1, .int (v1_1 + 1)), (0, .ref (q 7))]) hx hb dX7_findCommon_20 hl (k := 1) rfl rfl (by decide) rfl (fun ls hl => ?_)
        refine lv_goto (tgt := 2) hx hb dX7_findCommon_23 (by decide) ?_
        obtain ⟨k_8, hm, h⟩ := h
        exact ihI2_1 k_8 hm (v1_1 + 1) G_6 _ _ ls hw (lv_sub hl [1, 0] rfl) h
  exact LI2_1 n_1 0 G _ _ ls hw (lv_sub hl [1, 0] rfl) h0

abbrev rmX7_withoutCommon : Room := { frames := 0, cells := 0, slots := 0, locals := 0 }
def wp_X7_withoutCommon (G : GS) (x1 : Int32) (x2 : Nat) (post : Int32 → GS → Prop) : Prop :=
  gI x2 ∧ (∃ I5_1 : Nat → Int32 → Int32 → GS → Prop, (∃ n_1 : Nat, I5_1 n_1 0 0 G) ∧ ∀ (n_1 : Nat) (v3_1 : Int32) (v4_1 : Int32) (G_1 : GS), I5_1 n_1 v3_1 v4_1 G_1 → (∃ j12_1 : Nat, j12_1 < 40 ∧ x1 = nI j12_1 ∧ (((G_1.1 23 j12_1) ≤ v4_1 → (post v3_1 G_1)) ∧ (¬ ((G_1.1 23 j12_1) ≤ v4_1) → (∃ j27_3 : Nat, j27_3 < 480 ∧ (12 * x1) + v4_1 = nI j27_3 ∧ (∀ y_5 : Int32, y_5 = G_1.1 22 j27_3 → (∃ j36_5 : Nat, j36_5 < 501 ∧ y_5 = nI j36_5 ∧ ((¬ (G_1.1 37 j36_5) = 0 → (∃ k_9 : Nat, k_9 < n_1 ∧ I5_1 k_9 v3_1 (v4_1 + 1) G_1)) ∧ ((G_1.1 37 j36_5) = 0 → (∃ j44_9 : Nat, j44_9 < (gLen x2) ∧ v3_1 = nI j44_9 ∧ (∀ G_11 : GS, G_11 = sI G_1 x2 j44_9 y_5 → (∃ k_14 : Nat, k_14 < n_1 ∧ I5_1 k_14 (v3_1 + 1) (v4_1 + 1) G_11))))))))))))
set_option maxHeartbeats 4000000 in
set_option maxRecDepth 100000 in
theorem m_X7_withoutCommon (l : Launch) (D : va_G) (cy : Nat → ClassId) (q : Nat → Nat) (G : GS) (x1 : Int32) (x2 : Nat) (post : Int32 → GS → Prop) (h : wp_X7_withoutCommon G x1 x2 post) : gMi l yX7_withoutCommon wsX7_withoutCommon rmX7_withoutCommon D cy q [.ref (q 7), .int x1, .ref (q x2)] G post := by
  intro sz
  refine Met.ofW (cc := cX7_withoutCommon) (maxL := 6) (ret := (some .int)) (by decide) rfl ?_
  intro p e s m args below meth c s₁ B hml hv
  obtain ⟨ha, hsz, X, hw, hA, hr, hlk⟩ := g_start B hml hv
  have hx := X.1.1
  have hb := X.1.2.1
  have hown := X.1.2.2.2.1
  have hts := X.1.2.2.2.2
  refine g_in ha (Nat.le_of_ble_eq_true rfl) (fun ls hl => ?_)
  have hl : lv_has ls 6 [(0, .ref (q 7)), (1, .int x1), (2, .ref (q x2))] := hl
  unfold wp_X7_withoutCommon at h
  obtain ⟨hIx2, h⟩ := h
  have hinX7 : ∀ w ∈ wsX70, w ∈ wsX7_withoutCommon := fun _ h9 => (List.mem_cons_of_mem _ (List.mem_append_right _ h9))
  refine lv_iconst (v := 0) hx hb dX7_withoutCommon_0 (by decide) ?_
  refine lv_istore_n (lv' := [(3, .int 0), (0, .ref (q 7)), (1, .int x1), (2, .ref (q x2))]) hx hb dX7_withoutCommon_1 rfl hl (by decide) rfl (fun ls hl => ?_)
  refine lv_iconst (v := 0) hx hb dX7_withoutCommon_2 (by decide) ?_
  refine lv_istore (lv' := [(4, .int 0), (3, .int 0), (0, .ref (q 7)), (1, .int x1), (2, .ref (q x2))]) hx hb dX7_withoutCommon_3 hl (by decide) rfl (fun ls hl => ?_)
  obtain ⟨I5_1, ⟨n_1, h0⟩, hI5_1⟩ := h
  have LI5_1 : ∀ (n_1 : Nat) (v3_1 : Int32) (v4_1 : Int32) (G_1 : GS) (H : Heap) (locs : List Loc) (ls : Array Slot), gH D cy q (gA q sz) s.heap G_1 H locs → lv_has ls 6 [(0, .ref (q 7)), (1, .int x1), (2, .ref (q x2)), (3, .int v3_1), (4, .int v4_1)] → I5_1 n_1 v3_1 v4_1 G_1 → W p l e (headSpec wsX7_withoutCommon rmX7_withoutCommon).room s m args below meth c H locs 0 0 (MQ below (va_Qi post (gPo D cy q sz) (gA q sz)) args s 0 0 (gA q sz)) (F0 m 5 ls []) := by
    intro n_1
    induction n_1 using Nat.strongRecOn with
    | ind n_1 ihI5_1 =>
      intro v3_1 v4_1 G_1 H locs ls hw hl h
      have h := hI5_1 n_1 v3_1 v4_1 G_1 h
      refine lv_iload hx hb dX7_withoutCommon_5 (lv_at hl 4 rfl) ?_
      refine lv_aload_n hx hb dX7_withoutCommon_7 rfl (lv_at hl 0 rfl) ?_
      refine g_get 7 7 (v := .ref (q 23)) (C := RX7) (T := TX7) (N := 31) X hw (by decide) hinX7 rfl (by decide) (List.mem_cons_of_mem _ (List.mem_append_left _ (List.mem_of_getElem? (i := 0) rfl))) rfl dX7_withoutCommon_8 ?_
      refine lv_iload_n hx hb dX7_withoutCommon_11 rfl (lv_at hl 1 rfl) ?_
      obtain ⟨j12_1, bj12_1, ej12_1, h⟩ := h
      refine g_iald 23 40 j12_1 X hw (Or.inr ⟨by decide, by decide⟩) rfl bj12_1 ej12_1 (by decide) dX7_withoutCommon_12 ?_
      refine lv_icmp_ge (tgt := 54) hx hb dX7_withoutCommon_13 (by decide) (fun c13_2 => ?_) (fun c13_2 => ?_)
      · have h := h.1 c13_2
        refine lv_iload_n hx hb dX7_withoutCommon_54 rfl (lv_at hl 3 rfl) ?_
        exact g_iret X hw hr hlk h dX7_withoutCommon_55
      · have h := h.2 c13_2
        refine lv_aload_n hx hb dX7_withoutCommon_16 rfl (lv_at hl 0 rfl) ?_
        refine g_get 7 6 (v := .ref (q 22)) (C := RX7) (T := TX7) (N := 31) X hw (by decide) hinX7 rfl (by decide) (List.mem_cons_of_mem _ (List.mem_append_left _ (List.mem_of_getElem? (i := 1) rfl))) rfl dX7_withoutCommon_17 ?_
        refine lv_bipush (v := 12) hx hb dX7_withoutCommon_20 (by decide) ?_
        refine lv_iload_n hx hb dX7_withoutCommon_22 rfl (lv_at hl 1 rfl) ?_
        refine lv_imul hx hb dX7_withoutCommon_23 ?_
        refine lv_iload hx hb dX7_withoutCommon_24 (lv_at hl 4 rfl) ?_
        refine lv_iadd hx hb dX7_withoutCommon_26 ?_
        obtain ⟨j27_3, bj27_3, ej27_3, h⟩ := h
        refine g_iald 22 480 j27_3 X hw (Or.inr ⟨by decide, by decide⟩) rfl bj27_3 ej27_3 (by decide) dX7_withoutCommon_27 ?_
        refine lv_topi (fun y_5 ey_5 => ?_)
        have h := h y_5 ey_5
        refine lv_istore (lv' := [(5, .int y_5), (0, .ref (q 7)), (1, .int x1), (2, .ref (q x2)), (3, .int v3_1), (4, .int v4_1)]) hx hb dX7_withoutCommon_28 hl (by decide) rfl (fun ls hl => ?_)
        refine lv_aload_n hx hb dX7_withoutCommon_30 rfl (lv_at hl 1 rfl) ?_
        refine g_get 7 17 (v := .ref (q 37)) (C := RX7) (T := TX7) (N := 31) X hw (by decide) hinX7 rfl (by decide) (List.mem_cons_of_mem _ (List.mem_append_left _ (List.mem_of_getElem? (i := 2) rfl))) rfl dX7_withoutCommon_31 ?_
        refine lv_iload hx hb dX7_withoutCommon_34 (lv_at hl 0 rfl) ?_
        obtain ⟨j36_5, bj36_5, ej36_5, h⟩ := h
        refine g_zald 37 501 j36_5 X hw ⟨by decide, by decide⟩ rfl bj36_5 ej36_5 (by decide) dX7_withoutCommon_36 ?_
        refine lv_if_ne (tgt := 48) hx hb dX7_withoutCommon_37 (by decide) (fun c37_6 => ?_) (fun c37_6 => ?_)
        · have h := h.1 c37_6
          refine lv_iinc (v := v4_1 + 1) (lv' := [(4, .int (v4_1 + 1)), (5, .int y_5), (0, .ref (q 7)), (1, .int x1), (2, .ref (q x2)), (3, .int v3_1)]) hx hb dX7_withoutCommon_48 hl (k := 5) rfl rfl (by decide) rfl (fun ls hl => ?_)
          refine lv_goto (tgt := 5) hx hb dX7_withoutCommon_51 (by decide) ?_
          obtain ⟨k_9, hm, h⟩ := h
          exact ihI5_1 k_9 hm v3_1 (v4_1 + 1) G_1 _ _ ls hw (lv_sub hl [2, 3, 4, 5, 0] rfl) h
        · have h := h.2 c37_6
          refine lv_aload_n hx hb dX7_withoutCommon_40 rfl (lv_at hl 3 rfl) ?_
          refine lv_iload_n hx hb dX7_withoutCommon_41 rfl (lv_at hl 4 rfl) ?_
          refine lv_iload hx hb dX7_withoutCommon_42 (lv_at hl 0 rfl) ?_
          obtain ⟨j44_9, bj44_9, ej44_9, h⟩ := h
          refine g_iast x2 (gLen x2) j44_9 X hw hIx2 rfl bj44_9 ej44_9 (gLen_31 _) dX7_withoutCommon_44 (fun H locs hw => ?_)
          obtain ⟨G_11, eG_11⟩ : ∃ z, z = sI G_1 x2 j44_9 y_5 := ⟨_, rfl⟩
          rw [← eG_11] at hw
          have h := h G_11 eG_11
          refine lv_iinc (v := v3_1 + 1) (lv' := [(3, .int (v3_1 + 1)), (5, .int y_5), (0, .ref (q 7)), (1, .int x1), (2, .ref (q x2)), (4, .int v4_1)]) hx hb dX7_withoutCommon_45 hl (k := 4) rfl rfl (by decide) rfl (fun ls hl => ?_)
          refine lv_iinc (v := v4_1 + 1) (lv' := [(4, .int (v4_1 + 1)), (3, .int (v3_1 + 1)), (5, .int y_5), (0, .ref (q 7)), (1, .int x1), (2, .ref (q x2))]) hx hb dX7_withoutCommon_48 hl (k := 5) rfl rfl (by decide) rfl (fun ls hl => ?_)
          refine lv_goto (tgt := 5) hx hb dX7_withoutCommon_51 (by decide) ?_
          obtain ⟨k_14, hm, h⟩ := h
          exact ihI5_1 k_14 hm (v3_1 + 1) (v4_1 + 1) G_11 _ _ ls hw (lv_sub hl [3, 4, 5, 1, 0] rfl) h
  exact LI5_1 n_1 0 0 G _ _ ls hw (lv_sub hl [2, 3, 4, 1, 0] rfl) h0

abbrev rmX7_alone : Room := { frames := 0, cells := 0, slots := 0, locals := 0 }
def wp_X7_alone (G : GS) (x0 : Int32) (post : Int32 → GS → Prop) : Prop :=
  (¬ x0 = 0 → (post 2 G)) ∧ (x0 = 0 → (post 1 G))
set_option maxHeartbeats 4000000 in
set_option maxRecDepth 100000 in
theorem m_X7_alone (l : Launch) (D : va_G) (cy : Nat → ClassId) (q : Nat → Nat) (G : GS) (x0 : Int32) (post : Int32 → GS → Prop) (h : wp_X7_alone G x0 post) : gMi l yX7_alone wsX7_alone rmX7_alone D cy q [.int x0] G post := by
  intro sz
  refine Met.ofW (cc := cX7_alone) (maxL := 1) (ret := (some .int)) (by decide) rfl ?_
  intro p e s m args below meth c s₁ B hml hv
  obtain ⟨ha, hsz, X, hw, hA, hr, hlk⟩ := g_start B hml hv
  have hx := X.1.1
  have hb := X.1.2.1
  have hown := X.1.2.2.2.1
  have hts := X.1.2.2.2.2
  refine g_in ha (Nat.le_of_ble_eq_true rfl) (fun ls hl => ?_)
  have hl : lv_has ls 1 [(0, .int x0)] := hl
  unfold wp_X7_alone at h
  refine lv_iload_n hx hb dX7_alone_0 rfl (lv_at hl 0 rfl) ?_
  refine lv_if_ne (tgt := 8) hx hb dX7_alone_1 (by decide) (fun c1_0 => ?_) (fun c1_0 => ?_)
  · have h := h.1 c1_0
    refine lv_iconst (v := 2) hx hb dX7_alone_8 (by decide) ?_
    exact g_iret X hw hr hlk h dX7_alone_9
  · have h := h.2 c1_0
    refine lv_iconst (v := 1) hx hb dX7_alone_4 (by decide) ?_
    refine lv_goto (tgt := 9) hx hb dX7_alone_5 (by decide) ?_
    exact g_iret X hw hr hlk h dX7_alone_9

abbrev rmX7_least : Room := { frames := 0, cells := 0, slots := 0, locals := 0 }
def wp_X7_least (G : GS) (x0 : Int32) (x1 : Int32) (post : Int32 → GS → Prop) : Prop :=
  (x1 ≤ x0 → (post x1 G)) ∧ (¬ (x1 ≤ x0) → (post x0 G))
set_option maxHeartbeats 4000000 in
set_option maxRecDepth 100000 in
theorem m_X7_least (l : Launch) (D : va_G) (cy : Nat → ClassId) (q : Nat → Nat) (G : GS) (x0 : Int32) (x1 : Int32) (post : Int32 → GS → Prop) (h : wp_X7_least G x0 x1 post) : gMi l yX7_least wsX7_least rmX7_least D cy q [.int x0, .int x1] G post := by
  intro sz
  refine Met.ofW (cc := cX7_least) (maxL := 2) (ret := (some .int)) (by decide) rfl ?_
  intro p e s m args below meth c s₁ B hml hv
  obtain ⟨ha, hsz, X, hw, hA, hr, hlk⟩ := g_start B hml hv
  have hx := X.1.1
  have hb := X.1.2.1
  have hown := X.1.2.2.2.1
  have hts := X.1.2.2.2.2
  refine g_in ha (Nat.le_of_ble_eq_true rfl) (fun ls hl => ?_)
  have hl : lv_has ls 2 [(0, .int x0), (1, .int x1)] := hl
  unfold wp_X7_least at h
  refine lv_iload_n hx hb dX7_least_0 rfl (lv_at hl 0 rfl) ?_
  refine lv_iload_n hx hb dX7_least_1 rfl (lv_at hl 1 rfl) ?_
  refine lv_icmp_ge (tgt := 9) hx hb dX7_least_2 (by decide) (fun c2_0 => ?_) (fun c2_0 => ?_)
  · have h := h.1 c2_0
    refine lv_iload_n hx hb dX7_least_9 rfl (lv_at hl 1 rfl) ?_
    exact g_iret X hw hr hlk h dX7_least_10
  · have h := h.2 c2_0
    refine lv_iload_n hx hb dX7_least_5 rfl (lv_at hl 0 rfl) ?_
    refine lv_goto (tgt := 10) hx hb dX7_least_6 (by decide) ?_
    exact g_iret X hw hr hlk h dX7_least_10

abbrev rmX7_change : Room := { frames := 0, cells := 0, slots := 0, locals := 0 }
def wp_X7_change (G : GS) (x0 : Int32) (x1 : Int32) (post : Int32 → GS → Prop) : Prop :=
  (¬ x0 = x1 → ((x0 = 0 → (post 2 G)) ∧ (¬ (x0 = 0) → ((¬ x1 = 0 → (post 3 G)) ∧ (x1 = 0 → (post 2 G)))))) ∧ (x0 = x1 → (post 0 G))
set_option maxHeartbeats 4000000 in
set_option maxRecDepth 100000 in
theorem m_X7_change (l : Launch) (D : va_G) (cy : Nat → ClassId) (q : Nat → Nat) (G : GS) (x0 : Int32) (x1 : Int32) (post : Int32 → GS → Prop) (h : wp_X7_change G x0 x1 post) : gMi l yX7_change wsX7_change rmX7_change D cy q [.int x0, .int x1] G post := by
  intro sz
  refine Met.ofW (cc := cX7_change) (maxL := 2) (ret := (some .int)) (by decide) rfl ?_
  intro p e s m args below meth c s₁ B hml hv
  obtain ⟨ha, hsz, X, hw, hA, hr, hlk⟩ := g_start B hml hv
  have hx := X.1.1
  have hb := X.1.2.1
  have hown := X.1.2.2.2.1
  have hts := X.1.2.2.2.2
  refine g_in ha (Nat.le_of_ble_eq_true rfl) (fun ls hl => ?_)
  have hl : lv_has ls 2 [(0, .int x0), (1, .int x1)] := hl
  unfold wp_X7_change at h
  refine lv_iload_n hx hb dX7_change_0 rfl (lv_at hl 0 rfl) ?_
  refine lv_iload_n hx hb dX7_change_1 rfl (lv_at hl 1 rfl) ?_
  refine lv_icmp_ne (tgt := 9) hx hb dX7_change_2 (by decide) (fun c2_0 => ?_) (fun c2_0 => ?_)
  · have h := h.1 c2_0
    refine lv_iload_n hx hb dX7_change_9 rfl (lv_at hl 0 rfl) ?_
    refine lv_if_eq (tgt := 17) hx hb dX7_change_10 (by decide) (fun c10_1 => ?_) (fun c10_1 => ?_)
    · have h := h.1 c10_1
      refine lv_iconst (v := 2) hx hb dX7_change_17 (by decide) ?_
      refine lv_goto (tgt := 22) hx hb dX7_change_18 (by decide) ?_
      exact g_iret X hw hr hlk h dX7_change_22
    · have h := h.2 c10_1
      refine lv_iload_n hx hb dX7_change_13 rfl (lv_at hl 1 rfl) ?_
      refine lv_if_ne (tgt := 21) hx hb dX7_change_14 (by decide) (fun c14_2 => ?_) (fun c14_2 => ?_)
      · have h := h.1 c14_2
        refine lv_iconst (v := 3) hx hb dX7_change_21 (by decide) ?_
        exact g_iret X hw hr hlk h dX7_change_22
      · have h := h.2 c14_2
        refine lv_iconst (v := 2) hx hb dX7_change_17 (by decide) ?_
        refine lv_goto (tgt := 22) hx hb dX7_change_18 (by decide) ?_
        exact g_iret X hw hr hlk h dX7_change_22
  · have h := h.2 c2_0
    refine lv_iconst (v := 0) hx hb dX7_change_5 (by decide) ?_
    refine lv_goto (tgt := 22) hx hb dX7_change_6 (by decide) ?_
    exact g_iret X hw hr hlk h dX7_change_22

abbrev rmX7_turns : Room := { frames := 1, cells := 0, slots := 0, locals := 25 }
def wp_X7_turns (G : GS) (x1 : Int32) (x2 : Int32) (post : Int32 → GS → Prop) : Prop :=
  wp_X7_withoutCommon G x1 27 (fun r_2 G_1 => ∀ G_3 : GS, G_3 = sI G_1 7 13 r_2 → (wp_X7_withoutCommon G_3 x2 28 (fun r_5 G_4 => ∀ G_6 : GS, G_6 = sI G_4 7 14 r_5 → (∃ j32_6 : Nat, j32_6 < 169 ∧ 0 = nI j32_6 ∧ (∀ G_8 : GS, G_8 = sI G_6 29 j32_6 0 → (∃ I35_9 : Nat → Int32 → GS → Prop, (∃ n_9 : Nat, I35_9 n_9 0 G_8) ∧ ∀ (n_9 : Nat) (v3_9 : Int32) (G_9 : GS), I35_9 n_9 v3_9 G_9 → (((G_9.1 7 13) < v3_9 → (∃ j242_10 : Nat, j242_10 < 169 ∧ (13 * (G_9.1 7 13)) + (G_9.1 7 14) = nI j242_10 ∧ (post (G_9.1 29 j242_10) G_9))) ∧ (¬ ((G_9.1 7 13) < v3_9) → (∃ I46_12 : Nat → Int32 → GS → Prop, (∃ n_12 : Nat, I46_12 n_12 0 G_9) ∧ ∀ (n_12 : Nat) (v4_12 : Int32) (G_12 : GS), I46_12 n_12 v4_12 G_12 → (((G_12.1 7 14) < v4_12 → (∃ k_15 : Nat, k_15 < n_9 ∧ I35_9 k_15 (v3_9 + 1) G_12)) ∧ (¬ ((G_12.1 7 14) < v4_12) → (∃ J69_16 : Int32 → Prop, (∀ (w0_16 : Int32), J69_16 w0_16 → (∃ J108_17 : Int32 → GS → Prop, (∀ (z5_17 : Int32) (G_18 : GS), J108_17 z5_17 G_18 → (∃ J147_19 : Int32 → GS → Prop, (∀ (z5_19 : Int32) (G_20 : GS), J147_19 z5_19 G_20 → ((v3_9 ≤ 0 → (∃ j213_21 : Nat, j213_21 < 169 ∧ (13 * v3_9) + v4_12 = nI j213_21 ∧ (∀ G_23 : GS, G_23 = sI G_20 29 j213_21 z5_19 → (∃ k_25 : Nat, k_25 < n_12 ∧ I46_12 k_25 (v4_12 + 1) G_23)))) ∧ (¬ (v3_9 ≤ 0) → ((v4_12 ≤ 0 → (∃ j213_26 : Nat, j213_26 < 169 ∧ (13 * v3_9) + v4_12 = nI j213_26 ∧ (∀ G_28 : GS, G_28 = sI G_20 29 j213_26 z5_19 → (∃ k_30 : Nat, k_30 < n_12 ∧ I46_12 k_30 (v4_12 + 1) G_28)))) ∧ (¬ (v4_12 ≤ 0) → (∃ j173_30 : Nat, j173_30 < 169 ∧ ((13 * (v3_9 - 1)) + v4_12) - 1 = nI j173_30 ∧ (∃ j181_31 : Nat, j181_31 < 12 ∧ v3_9 - 1 = nI j181_31 ∧ (∃ j190_32 : Nat, j190_32 < 12 ∧ v4_12 - 1 = nI j190_32 ∧ (wp_X7_change G_20 (G_20.1 27 j181_31) (G_20.1 28 j190_32) (fun r_35 G_34 => wp_X7_least G_34 z5_19 ((G_20.1 29 j173_30) + r_35) (fun r_37 G_36 => ∃ j213_37 : Nat, j213_37 < 169 ∧ (13 * v3_9) + v4_12 = nI j213_37 ∧ (∀ G_39 : GS, G_39 = sI G_36 29 j213_37 r_37 → (∃ k_41 : Nat, k_41 < n_12 ∧ I46_12 k_41 (v4_12 + 1) G_39))))))))))))) ∧ ((v4_12 ≤ 0 → (J147_19 z5_17 G_18)) ∧ (¬ (v4_12 ≤ 0) → (∃ j128_42 : Nat, j128_42 < 169 ∧ ((13 * v3_9) + v4_12) - 1 = nI j128_42 ∧ (∃ j137_43 : Nat, j137_43 < 12 ∧ v4_12 - 1 = nI j137_43 ∧ (wp_X7_alone G_18 (G_18.1 28 j137_43) (fun r_46 G_45 => wp_X7_least G_45 z5_17 ((G_18.1 29 j128_42) + r_46) (fun r_48 G_47 => J147_19 r_48 G_47))))))))) ∧ ((v3_9 ≤ 0 → (J108_17 w0_16 G_12)) ∧ (¬ (v3_9 ≤ 0) → (∃ j90_49 : Nat, j90_49 < 169 ∧ (13 * (v3_9 - 1)) + v4_12 = nI j90_49 ∧ (∃ j98_50 : Nat, j98_50 < 12 ∧ v3_9 - 1 = nI j98_50 ∧ (wp_X7_alone G_12 (G_12.1 27 j98_50) (fun r_53 G_52 => wp_X7_least G_52 w0_16 ((G_12.1 29 j90_49) + r_53) (fun r_55 G_54 => J108_17 r_55 G_54))))))))) ∧ ((¬ (v3_9 + v4_12) = 0 → (J69_16 1000)) ∧ ((v3_9 + v4_12) = 0 → (J69_16 0)))))))))))))))
set_option maxHeartbeats 4000000 in
set_option maxRecDepth 100000 in
theorem m_X7_turns (l : Launch) (D : va_G) (cy : Nat → ClassId) (q : Nat → Nat) (G : GS) (x1 : Int32) (x2 : Int32) (post : Int32 → GS → Prop) (h : wp_X7_turns G x1 x2 post) : gMi l yX7_turns wsX7_turns rmX7_turns D cy q [.ref (q 7), .int x1, .int x2] G post := by
  intro sz
  refine Met.ofW (cc := cX7_turns) (maxL := 6) (ret := (some .int)) (by decide) rfl ?_
  intro p e s m args below meth c s₁ B hml hv
  obtain ⟨ha, hsz, X, hw, hA, hr, hlk⟩ := g_start B hml hv
  have hx := X.1.1
  have hb := X.1.2.1
  have hown := X.1.2.2.2.1
  have hts := X.1.2.2.2.2
  refine g_in ha (Nat.le_of_ble_eq_true rfl) (fun ls hl => ?_)
  have hl : lv_has ls 6 [(0, .ref (q 7)), (1, .int x1), (2, .int x2)] := hl
  unfold wp_X7_turns at h
  have hinX7 : ∀ w ∈ wsX70, w ∈ wsX7_turns := fun _ h9 => (List.mem_cons_of_mem _ (List.mem_append_right _ h9))
  refine lv_aload_n hx hb dX7_turns_0 rfl (lv_at hl 0 rfl) ?_
  refine lv_aload_n hx hb dX7_turns_1 rfl (lv_at hl 0 rfl) ?_
  refine lv_iload_n hx hb dX7_turns_2 rfl (lv_at hl 1 rfl) ?_
  refine lv_aload_n hx hb dX7_turns_3 rfl (lv_at hl 0 rfl) ?_
  refine g_get 7 11 (v := .ref (q 27)) (C := RX7) (T := TX7) (N := 31) X hw (by decide) hinX7 rfl (by decide) (List.mem_cons_of_mem _ (List.mem_append_left _ (List.mem_of_getElem? (i := 0) rfl))) rfl dX7_turns_4 ?_
  refine g_callVi 7 (C := RX7) (T := TX7) (N := 31) (As := [.int x1, .ref (q 27)]) (rest := [.ref (q 7)]) X hw hA (m_X7_withoutCommon l D cy q G x1 27 _ h) (by decide) rfl (cwV 2 hts gX7_turns_X7_withoutCommon rfl rfl rfl (by decide +kernel) ⟨Nat.le_of_ble_eq_true rfl, Nat.le_of_ble_eq_true rfl⟩) rfl hl.1 rfl (Nat.le_of_ble_eq_true rfl) dX7_turns_7 ⟨Nat.zero_le _, Nat.zero_le _⟩ (fun r_2 G_1 H locs h hw => ?_)
  refine g_put 7 13 (v := r_2) (ty := .int) (C := RX7) (T := TX7) (N := 31) X hw (by decide) hinX7 tyX7_ok nmX7 rfl (by decide) (List.mem_cons_of_mem _ (List.mem_append_left _ (List.mem_of_getElem? (i := 1) rfl))) rfl (by decide +kernel) rfl rfl (Nat.le_of_ble_eq_true rfl) rfl dX7_turns_10 (fun H locs hw => ?_)
  obtain ⟨G_3, eG_3⟩ : ∃ z, z = sI G_1 7 13 r_2 := ⟨_, rfl⟩
  rw [← eG_3] at hw
  have h := h G_3 eG_3
  refine lv_aload_n hx hb dX7_turns_13 rfl (lv_at hl 0 rfl) ?_
  refine lv_aload_n hx hb dX7_turns_14 rfl (lv_at hl 0 rfl) ?_
  refine lv_iload_n hx hb dX7_turns_15 rfl (lv_at hl 2 rfl) ?_
  refine lv_aload_n hx hb dX7_turns_16 rfl (lv_at hl 0 rfl) ?_
  refine g_get 7 12 (v := .ref (q 28)) (C := RX7) (T := TX7) (N := 31) X hw (by decide) hinX7 rfl (by decide) (List.mem_cons_of_mem _ (List.mem_append_left _ (List.mem_of_getElem? (i := 2) rfl))) rfl dX7_turns_17 ?_
  refine g_callVi 7 (C := RX7) (T := TX7) (N := 31) (As := [.int x2, .ref (q 28)]) (rest := [.ref (q 7)]) X hw hA (m_X7_withoutCommon l D cy q G_3 x2 28 _ h) (by decide) rfl (cwV 2 hts gX7_turns_X7_withoutCommon rfl rfl rfl (by decide +kernel) ⟨Nat.le_of_ble_eq_true rfl, Nat.le_of_ble_eq_true rfl⟩) rfl hl.1 rfl (Nat.le_of_ble_eq_true rfl) dX7_turns_20 ⟨Nat.zero_le _, Nat.zero_le _⟩ (fun r_5 G_4 H locs h hw => ?_)
  refine g_put 7 14 (v := r_5) (ty := .int) (C := RX7) (T := TX7) (N := 31) X hw (by decide) hinX7 tyX7_ok nmX7 rfl (by decide) (List.mem_cons_of_mem _ (List.mem_append_left _ (List.mem_of_getElem? (i := 3) rfl))) rfl (by decide +kernel) rfl rfl (Nat.le_of_ble_eq_true rfl) rfl dX7_turns_23 (fun H locs hw => ?_)
  obtain ⟨G_6, eG_6⟩ : ∃ z, z = sI G_4 7 14 r_5 := ⟨_, rfl⟩
  rw [← eG_6] at hw
  have h := h G_6 eG_6
  refine lv_aload_n hx hb dX7_turns_26 rfl (lv_at hl 0 rfl) ?_
  refine g_get 7 15 (v := .ref (q 29)) (C := RX7) (T := TX7) (N := 31) X hw (by decide) hinX7 rfl (by decide) (List.mem_cons_of_mem _ (List.mem_append_left _ (List.mem_of_getElem? (i := 4) rfl))) rfl dX7_turns_27 ?_
  refine lv_iconst (v := 0) hx hb dX7_turns_30 (by decide) ?_
  refine lv_iconst (v := 0) hx hb dX7_turns_31 (by decide) ?_
  obtain ⟨j32_6, bj32_6, ej32_6, h⟩ := h
  refine g_iast 29 169 j32_6 X hw (Or.inr ⟨by decide, by decide⟩) rfl bj32_6 ej32_6 (by decide) dX7_turns_32 (fun H locs hw => ?_)
  obtain ⟨G_8, eG_8⟩ : ∃ z, z = sI G_6 29 j32_6 0 := ⟨_, rfl⟩
  rw [← eG_8] at hw
  have h := h G_8 eG_8
  refine lv_iconst (v := 0) hx hb dX7_turns_33 (by decide) ?_
  refine lv_istore_n (lv' := [(3, .int 0), (0, .ref (q 7)), (1, .int x1), (2, .int x2)]) hx hb dX7_turns_34 rfl hl (by decide) rfl (fun ls hl => ?_)
  obtain ⟨I35_9, ⟨n_9, h0⟩, hI35_9⟩ := h
  have LI35_9 : ∀ (n_9 : Nat) (v3_9 : Int32) (G_9 : GS) (H : Heap) (locs : List Loc) (ls : Array Slot), gH D cy q (gA q sz) s.heap G_9 H locs → lv_has ls 6 [(0, .ref (q 7)), (3, .int v3_9)] → I35_9 n_9 v3_9 G_9 → W p l e (headSpec wsX7_turns rmX7_turns).room s m args below meth c H locs 0 0 (MQ below (va_Qi post (gPo D cy q sz) (gA q sz)) args s 0 0 (gA q sz)) (F0 m 35 ls []) := by
    intro n_9
    induction n_9 using Nat.strongRecOn with
    | ind n_9 ihI35_9 =>
      intro v3_9 G_9 H locs ls hw hl h
      have h := hI35_9 n_9 v3_9 G_9 h
      refine lv_iload_n hx hb dX7_turns_35 rfl (lv_at hl 1 rfl) ?_
      refine lv_aload_n hx hb dX7_turns_36 rfl (lv_at hl 0 rfl) ?_
      refine g_get 7 13 (v := .int (G_9.1 7 13)) (C := RX7) (T := TX7) (N := 31) X hw (by decide) hinX7 rfl (by decide) (List.mem_cons_of_mem _ (List.mem_append_left _ (List.mem_of_getElem? (i := 1) rfl))) rfl dX7_turns_37 ?_
      refine lv_icmp_gt (tgt := 226) hx hb dX7_turns_40 (by decide) (fun c40_9 => ?_) (fun c40_9 => ?_)
      · have h := h.1 c40_9
        refine lv_aload_n hx hb dX7_turns_226 rfl (lv_at hl 0 rfl) ?_
        refine g_get 7 15 (v := .ref (q 29)) (C := RX7) (T := TX7) (N := 31) X hw (by decide) hinX7 rfl (by decide) (List.mem_cons_of_mem _ (List.mem_append_left _ (List.mem_of_getElem? (i := 4) rfl))) rfl dX7_turns_227 ?_
        refine lv_bipush (v := 13) hx hb dX7_turns_230 (by decide) ?_
        refine lv_aload_n hx hb dX7_turns_232 rfl (lv_at hl 0 rfl) ?_
        refine g_get 7 13 (v := .int (G_9.1 7 13)) (C := RX7) (T := TX7) (N := 31) X hw (by decide) hinX7 rfl (by decide) (List.mem_cons_of_mem _ (List.mem_append_left _ (List.mem_of_getElem? (i := 1) rfl))) rfl dX7_turns_233 ?_
        refine lv_imul hx hb dX7_turns_236 ?_
        refine lv_aload_n hx hb dX7_turns_237 rfl (lv_at hl 0 rfl) ?_
        refine g_get 7 14 (v := .int (G_9.1 7 14)) (C := RX7) (T := TX7) (N := 31) X hw (by decide) hinX7 rfl (by decide) (List.mem_cons_of_mem _ (List.mem_append_left _ (List.mem_of_getElem? (i := 3) rfl))) rfl dX7_turns_238 ?_
        refine lv_iadd hx hb dX7_turns_241 ?_
        obtain ⟨j242_10, bj242_10, ej242_10, h⟩ := h
        refine g_iald 29 169 j242_10 X hw (Or.inr ⟨by decide, by decide⟩) rfl bj242_10 ej242_10 (by decide) dX7_turns_242 ?_
        exact g_iret X hw hr hlk h dX7_turns_243
      · have h := h.2 c40_9
        refine lv_iconst (v := 0) hx hb dX7_turns_43 (by decide) ?_
        refine lv_istore (lv' := [(4, .int 0), (0, .ref (q 7)), (3, .int v3_9)]) hx hb dX7_turns_44 hl (by decide) rfl (fun ls hl => ?_)
        obtain ⟨I46_12, ⟨n_12, h0⟩, hI46_12⟩ := h
        have LI46_12 : ∀ (n_12 : Nat) (v4_12 : Int32) (G_12 : GS) (H : Heap) (locs : List Loc) (ls : Array Slot), gH D cy q (gA q sz) s.heap G_12 H locs → lv_has ls 6 [(0, .ref (q 7)), (3, .int v3_9), (4, .int v4_12)] → I46_12 n_12 v4_12 G_12 → W p l e (headSpec wsX7_turns rmX7_turns).room s m args below meth c H locs 0 0 (MQ below (va_Qi post (gPo D cy q sz) (gA q sz)) args s 0 0 (gA q sz)) (F0 m 46 ls []) := by
          intro n_12
          induction n_12 using Nat.strongRecOn with
          | ind n_12 ihI46_12 =>
            intro v4_12 G_12 H locs ls hw hl h
            have h := hI46_12 n_12 v4_12 G_12 h
            refine lv_iload hx hb dX7_turns_46 (lv_at hl 2 rfl) ?_
            refine lv_aload_n hx hb dX7_turns_48 rfl (lv_at hl 0 rfl) ?_
            refine g_get 7 14 (v := .int (G_12.1 7 14)) (C := RX7) (T := TX7) (N := 31) X hw (by decide) hinX7 rfl (by decide) (List.mem_cons_of_mem _ (List.mem_append_left _ (List.mem_of_getElem? (i := 3) rfl))) rfl dX7_turns_49 ?_
            refine lv_icmp_gt (tgt := 220) hx hb dX7_turns_52 (by decide) (fun c52_12 => ?_) (fun c52_12 => ?_)
            · have h := h.1 c52_12
              refine lv_iinc (v := v3_9 + 1) (lv' := [(3, .int (v3_9 + 1)), (0, .ref (q 7)), (4, .int v4_12)]) hx hb dX7_turns_220 hl (k := 1) rfl rfl (by decide) rfl (fun ls hl => ?_)
              refine lv_goto (tgt := 35) hx hb dX7_turns_223 (by decide) ?_
              obtain ⟨k_15, hm, h⟩ := h
              exact ihI35_9 k_15 hm (v3_9 + 1) G_12 _ _ ls hw (lv_sub hl [1, 0] rfl) h
            · have h := h.2 c52_12
              refine lv_iload_n hx hb dX7_turns_55 rfl (lv_at hl 1 rfl) ?_
              refine lv_iload hx hb dX7_turns_56 (lv_at hl 2 rfl) ?_
              refine lv_iadd hx hb dX7_turns_58 ?_
              obtain ⟨J69_16, hJ69_16, h⟩ := h
              have LJ69_16 : ∀ (w0_16 : Int32) (H : Heap) (locs : List Loc) (ls : Array Slot), gH D cy q (gA q sz) s.heap G_12 H locs → lv_has ls 6 [(0, .ref (q 7)), (3, .int v3_9), (4, .int v4_12)] → J69_16 w0_16 → W p l e (headSpec wsX7_turns rmX7_turns).room s m args below meth c H locs 0 0 (MQ below (va_Qi post (gPo D cy q sz) (gA q sz)) args s 0 0 (gA q sz)) (F0 m 69 ls [.int w0_16]) := by
                intro w0_16 H locs ls hw hl h
                have h := hJ69_16 w0_16 h
                refine lv_istore (lv' := [(5, .int w0_16), (0, .ref (q 7)), (3, .int v3_9), (4, .int v4_12)]) hx hb dX7_turns_69 hl (by decide) rfl (fun ls hl => ?_)
                refine lv_iload_n hx hb dX7_turns_71 rfl (lv_at hl 2 rfl) ?_
                obtain ⟨J108_17, hJ108_17, h⟩ := h
                have LJ108_17 : ∀ (z5_17 : Int32) (G_18 : GS) (H : Heap) (locs : List Loc) (ls : Array Slot), gH D cy q (gA q sz) s.heap G_18 H locs → lv_has ls 6 [(0, .ref (q 7)), (3, .int v3_9), (4, .int v4_12), (5, .int z5_17)] → J108_17 z5_17 G_18 → W p l e (headSpec wsX7_turns rmX7_turns).room s m args below meth c H locs 0 0 (MQ below (va_Qi post (gPo D cy q sz) (gA q sz)) args s 0 0 (gA q sz)) (F0 m 108 ls []) := by
                  intro z5_17 G_18 H locs ls hw hl h
                  have h := hJ108_17 z5_17 G_18 h
                  refine lv_iload hx hb dX7_turns_108 (lv_at hl 2 rfl) ?_
                  obtain ⟨J147_19, hJ147_19, h⟩ := h
                  have LJ147_19 : ∀ (z5_19 : Int32) (G_20 : GS) (H : Heap) (locs : List Loc) (ls : Array Slot), gH D cy q (gA q sz) s.heap G_20 H locs → lv_has ls 6 [(0, .ref (q 7)), (3, .int v3_9), (4, .int v4_12), (5, .int z5_19)] → J147_19 z5_19 G_20 → W p l e (headSpec wsX7_turns rmX7_turns).room s m args below meth c H locs 0 0 (MQ below (va_Qi post (gPo D cy q sz) (gA q sz)) args s 0 0 (gA q sz)) (F0 m 147 ls []) := by
                    intro z5_19 G_20 H locs ls hw hl h
                    have h := hJ147_19 z5_19 G_20 h
                    refine lv_iload_n hx hb dX7_turns_147 rfl (lv_at hl 1 rfl) ?_
                    refine lv_if_le (tgt := 200) hx hb dX7_turns_148 (by decide) (fun c148_20 => ?_) (fun c148_20 => ?_)
                    · have h := h.1 c148_20
                      refine lv_aload_n hx hb dX7_turns_200 rfl (lv_at hl 0 rfl) ?_
                      refine g_get 7 15 (v := .ref (q 29)) (C := RX7) (T := TX7) (N := 31) X hw (by decide) hinX7 rfl (by decide) (List.mem_cons_of_mem _ (List.mem_append_left _ (List.mem_of_getElem? (i := 4) rfl))) rfl dX7_turns_201 ?_
                      refine lv_bipush (v := 13) hx hb dX7_turns_204 (by decide) ?_
                      refine lv_iload_n hx hb dX7_turns_206 rfl (lv_at hl 1 rfl) ?_
                      refine lv_imul hx hb dX7_turns_207 ?_
                      refine lv_iload hx hb dX7_turns_208 (lv_at hl 2 rfl) ?_
                      refine lv_iadd hx hb dX7_turns_210 ?_
                      refine lv_iload hx hb dX7_turns_211 (lv_at hl 3 rfl) ?_
                      obtain ⟨j213_21, bj213_21, ej213_21, h⟩ := h
                      refine g_iast 29 169 j213_21 X hw (Or.inr ⟨by decide, by decide⟩) rfl bj213_21 ej213_21 (by decide) dX7_turns_213 (fun H locs hw => ?_)
                      obtain ⟨G_23, eG_23⟩ : ∃ z, z = sI G_20 29 j213_21 z5_19 := ⟨_, rfl⟩
                      rw [← eG_23] at hw
                      have h := h G_23 eG_23
                      refine lv_iinc (v := v4_12 + 1) (lv' := [(4, .int (v4_12 + 1)), (0, .ref (q 7)), (3, .int v3_9), (5, .int z5_19)]) hx hb dX7_turns_214 hl (k := 2) rfl rfl (by decide) rfl (fun ls hl => ?_)
                      refine lv_goto (tgt := 46) hx hb dX7_turns_217 (by decide) ?_
                      obtain ⟨k_25, hm, h⟩ := h
                      exact ihI46_12 k_25 hm (v4_12 + 1) G_23 _ _ ls hw (lv_sub hl [1, 2, 0] rfl) h
                    · have h := h.2 c148_20
                      refine lv_iload hx hb dX7_turns_151 (lv_at hl 2 rfl) ?_
                      refine lv_if_le (tgt := 200) hx hb dX7_turns_153 (by decide) (fun c153_25 => ?_) (fun c153_25 => ?_)
                      · have h := h.1 c153_25
                        refine lv_aload_n hx hb dX7_turns_200 rfl (lv_at hl 0 rfl) ?_
                        refine g_get 7 15 (v := .ref (q 29)) (C := RX7) (T := TX7) (N := 31) X hw (by decide) hinX7 rfl (by decide) (List.mem_cons_of_mem _ (List.mem_append_left _ (List.mem_of_getElem? (i := 4) rfl))) rfl dX7_turns_201 ?_
                        refine lv_bipush (v := 13) hx hb dX7_turns_204 (by decide) ?_
                        refine lv_iload_n hx hb dX7_turns_206 rfl (lv_at hl 1 rfl) ?_
                        refine lv_imul hx hb dX7_turns_207 ?_
                        refine lv_iload hx hb dX7_turns_208 (lv_at hl 2 rfl) ?_
                        refine lv_iadd hx hb dX7_turns_210 ?_
                        refine lv_iload hx hb dX7_turns_211 (lv_at hl 3 rfl) ?_
                        obtain ⟨j213_26, bj213_26, ej213_26, h⟩ := h
                        refine g_iast 29 169 j213_26 X hw (Or.inr ⟨by decide, by decide⟩) rfl bj213_26 ej213_26 (by decide) dX7_turns_213 (fun H locs hw => ?_)
                        obtain ⟨G_28, eG_28⟩ : ∃ z, z = sI G_20 29 j213_26 z5_19 := ⟨_, rfl⟩
                        rw [← eG_28] at hw
                        have h := h G_28 eG_28
                        refine lv_iinc (v := v4_12 + 1) (lv' := [(4, .int (v4_12 + 1)), (0, .ref (q 7)), (3, .int v3_9), (5, .int z5_19)]) hx hb dX7_turns_214 hl (k := 2) rfl rfl (by decide) rfl (fun ls hl => ?_)
                        refine lv_goto (tgt := 46) hx hb dX7_turns_217 (by decide) ?_
                        obtain ⟨k_30, hm, h⟩ := h
                        exact ihI46_12 k_30 hm (v4_12 + 1) G_28 _ _ ls hw (lv_sub hl [1, 2, 0] rfl) h
                      · have h := h.2 c153_25
                        refine lv_iload hx hb dX7_turns_156 (lv_at hl 3 rfl) ?_
                        refine lv_aload_n hx hb dX7_turns_158 rfl (lv_at hl 0 rfl) ?_
                        refine g_get 7 15 (v := .ref (q 29)) (C := RX7) (T := TX7) (N := 31) X hw (by decide) hinX7 rfl (by decide) (List.mem_cons_of_mem _ (List.mem_append_left _ (List.mem_of_getElem? (i := 4) rfl))) rfl dX7_turns_159 ?_
                        refine lv_bipush (v := 13) hx hb dX7_turns_162 (by decide) ?_
                        refine lv_iload_n hx hb dX7_turns_164 rfl (lv_at hl 1 rfl) ?_
                        refine lv_iconst (v := 1) hx hb dX7_turns_165 (by decide) ?_
                        refine lv_isub hx hb dX7_turns_166 ?_
                        refine lv_imul hx hb dX7_turns_167 ?_
                        refine lv_iload hx hb dX7_turns_168 (lv_at hl 2 rfl) ?_
                        refine lv_iadd hx hb dX7_turns_170 ?_
                        refine lv_iconst (v := 1) hx hb dX7_turns_171 (by decide) ?_
                        refine lv_isub hx hb dX7_turns_172 ?_
                        obtain ⟨j173_30, bj173_30, ej173_30, h⟩ := h
                        refine g_iald 29 169 j173_30 X hw (Or.inr ⟨by decide, by decide⟩) rfl bj173_30 ej173_30 (by decide) dX7_turns_173 ?_
                        refine lv_aload_n hx hb dX7_turns_174 rfl (lv_at hl 0 rfl) ?_
                        refine g_get 7 11 (v := .ref (q 27)) (C := RX7) (T := TX7) (N := 31) X hw (by decide) hinX7 rfl (by decide) (List.mem_cons_of_mem _ (List.mem_append_left _ (List.mem_of_getElem? (i := 0) rfl))) rfl dX7_turns_175 ?_
                        refine lv_iload_n hx hb dX7_turns_178 rfl (lv_at hl 1 rfl) ?_
                        refine lv_iconst (v := 1) hx hb dX7_turns_179 (by decide) ?_
                        refine lv_isub hx hb dX7_turns_180 ?_
                        obtain ⟨j181_31, bj181_31, ej181_31, h⟩ := h
                        refine g_iald 27 12 j181_31 X hw (Or.inr ⟨by decide, by decide⟩) rfl bj181_31 ej181_31 (by decide) dX7_turns_181 ?_
                        refine lv_aload_n hx hb dX7_turns_182 rfl (lv_at hl 0 rfl) ?_
                        refine g_get 7 12 (v := .ref (q 28)) (C := RX7) (T := TX7) (N := 31) X hw (by decide) hinX7 rfl (by decide) (List.mem_cons_of_mem _ (List.mem_append_left _ (List.mem_of_getElem? (i := 2) rfl))) rfl dX7_turns_183 ?_
                        refine lv_iload hx hb dX7_turns_186 (lv_at hl 2 rfl) ?_
                        refine lv_iconst (v := 1) hx hb dX7_turns_188 (by decide) ?_
                        refine lv_isub hx hb dX7_turns_189 ?_
                        obtain ⟨j190_32, bj190_32, ej190_32, h⟩ := h
                        refine g_iald 28 12 j190_32 X hw (Or.inr ⟨by decide, by decide⟩) rfl bj190_32 ej190_32 (by decide) dX7_turns_190 ?_
                        refine g_callSi (As := [.int (G_20.1 27 j181_31), .int (G_20.1 28 j190_32)]) (rest := [.int (G_20.1 29 j173_30), .int z5_19]) X hw hA (m_X7_change l D cy q G_20 (G_20.1 27 j181_31) (G_20.1 28 j190_32) _ h) (va_cwS 2 hts gX7_turns_X7_change rfl rfl rfl (by decide +kernel) ⟨Nat.le_of_ble_eq_true rfl, Nat.le_of_ble_eq_true rfl⟩) rfl hl.1 rfl (Nat.le_of_ble_eq_true rfl) dX7_turns_191 ⟨Nat.zero_le _, Nat.zero_le _⟩ (fun r_35 G_34 H locs h hw => ?_)
                        refine lv_iadd hx hb dX7_turns_194 ?_
                        refine g_callSi (As := [.int z5_19, .int ((G_20.1 29 j173_30) + r_35)]) (rest := []) X hw hA (m_X7_least l D cy q G_34 z5_19 ((G_20.1 29 j173_30) + r_35) _ h) (va_cwS 2 hts gX7_turns_X7_least rfl rfl rfl (by decide +kernel) ⟨Nat.le_of_ble_eq_true rfl, Nat.le_of_ble_eq_true rfl⟩) rfl hl.1 rfl (Nat.le_of_ble_eq_true rfl) dX7_turns_195 ⟨Nat.zero_le _, Nat.zero_le _⟩ (fun r_37 G_36 H locs h hw => ?_)
                        refine lv_istore (lv' := [(5, .int r_37), (0, .ref (q 7)), (3, .int v3_9), (4, .int v4_12)]) hx hb dX7_turns_198 hl (by decide) rfl (fun ls hl => ?_)
                        refine lv_aload_n hx hb dX7_turns_200 rfl (lv_at hl 1 rfl) ?_
                        refine g_get 7 15 (v := .ref (q 29)) (C := RX7) (T := TX7) (N := 31) X hw (by decide) hinX7 rfl (by decide) (List.mem_cons_of_mem _ (List.mem_append_left _ (List.mem_of_getElem? (i := 4) rfl))) rfl dX7_turns_201 ?_
                        refine lv_bipush (v := 13) hx hb dX7_turns_204 (by decide) ?_
                        refine lv_iload_n hx hb dX7_turns_206 rfl (lv_at hl 2 rfl) ?_
                        refine lv_imul hx hb dX7_turns_207 ?_
                        refine lv_iload hx hb dX7_turns_208 (lv_at hl 3 rfl) ?_
                        refine lv_iadd hx hb dX7_turns_210 ?_
                        refine lv_iload hx hb dX7_turns_211 (lv_at hl 0 rfl) ?_
                        obtain ⟨j213_37, bj213_37, ej213_37, h⟩ := h
                        refine g_iast 29 169 j213_37 X hw (Or.inr ⟨by decide, by decide⟩) rfl bj213_37 ej213_37 (by decide) dX7_turns_213 (fun H locs hw => ?_)
                        obtain ⟨G_39, eG_39⟩ : ∃ z, z = sI G_36 29 j213_37 r_37 := ⟨_, rfl⟩
                        rw [← eG_39] at hw
                        have h := h G_39 eG_39
                        refine lv_iinc (v := v4_12 + 1) (lv' := [(4, .int (v4_12 + 1)), (5, .int r_37), (0, .ref (q 7)), (3, .int v3_9)]) hx hb dX7_turns_214 hl (k := 3) rfl rfl (by decide) rfl (fun ls hl => ?_)
                        refine lv_goto (tgt := 46) hx hb dX7_turns_217 (by decide) ?_
                        obtain ⟨k_41, hm, h⟩ := h
                        exact ihI46_12 k_41 hm (v4_12 + 1) G_39 _ _ ls hw (lv_sub hl [2, 3, 0] rfl) h
                  refine lv_if_le (tgt := 147) hx hb dX7_turns_110 (by decide) (fun c110_41 => ?_) (fun c110_41 => ?_)
                  · have h := h.1 c110_41
                    exact LJ147_19 z5_17 G_18 _ _ ls hw (lv_sub hl [0, 1, 2, 3] rfl) h
                  · have h := h.2 c110_41
                    refine lv_iload hx hb dX7_turns_113 (lv_at hl 3 rfl) ?_
                    refine lv_aload_n hx hb dX7_turns_115 rfl (lv_at hl 0 rfl) ?_
                    refine g_get 7 15 (v := .ref (q 29)) (C := RX7) (T := TX7) (N := 31) X hw (by decide) hinX7 rfl (by decide) (List.mem_cons_of_mem _ (List.mem_append_left _ (List.mem_of_getElem? (i := 4) rfl))) rfl dX7_turns_116 ?_
                    refine lv_bipush (v := 13) hx hb dX7_turns_119 (by decide) ?_
                    refine lv_iload_n hx hb dX7_turns_121 rfl (lv_at hl 1 rfl) ?_
                    refine lv_imul hx hb dX7_turns_122 ?_
                    refine lv_iload hx hb dX7_turns_123 (lv_at hl 2 rfl) ?_
                    refine lv_iadd hx hb dX7_turns_125 ?_
                    refine lv_iconst (v := 1) hx hb dX7_turns_126 (by decide) ?_
                    refine lv_isub hx hb dX7_turns_127 ?_
                    obtain ⟨j128_42, bj128_42, ej128_42, h⟩ := h
                    refine g_iald 29 169 j128_42 X hw (Or.inr ⟨by decide, by decide⟩) rfl bj128_42 ej128_42 (by decide) dX7_turns_128 ?_
                    refine lv_aload_n hx hb dX7_turns_129 rfl (lv_at hl 0 rfl) ?_
                    refine g_get 7 12 (v := .ref (q 28)) (C := RX7) (T := TX7) (N := 31) X hw (by decide) hinX7 rfl (by decide) (List.mem_cons_of_mem _ (List.mem_append_left _ (List.mem_of_getElem? (i := 2) rfl))) rfl dX7_turns_130 ?_
                    refine lv_iload hx hb dX7_turns_133 (lv_at hl 2 rfl) ?_
                    refine lv_iconst (v := 1) hx hb dX7_turns_135 (by decide) ?_
                    refine lv_isub hx hb dX7_turns_136 ?_
                    obtain ⟨j137_43, bj137_43, ej137_43, h⟩ := h
                    refine g_iald 28 12 j137_43 X hw (Or.inr ⟨by decide, by decide⟩) rfl bj137_43 ej137_43 (by decide) dX7_turns_137 ?_
                    refine g_callSi (As := [.int (G_18.1 28 j137_43)]) (rest := [.int (G_18.1 29 j128_42), .int z5_17]) X hw hA (m_X7_alone l D cy q G_18 (G_18.1 28 j137_43) _ h) (va_cwS 1 hts gX7_turns_X7_alone rfl rfl rfl (by decide +kernel) ⟨Nat.le_of_ble_eq_true rfl, Nat.le_of_ble_eq_true rfl⟩) rfl hl.1 rfl (Nat.le_of_ble_eq_true rfl) dX7_turns_138 ⟨Nat.zero_le _, Nat.zero_le _⟩ (fun r_46 G_45 H locs h hw => ?_)
                    refine lv_iadd hx hb dX7_turns_141 ?_
                    refine g_callSi (As := [.int z5_17, .int ((G_18.1 29 j128_42) + r_46)]) (rest := []) X hw hA (m_X7_least l D cy q G_45 z5_17 ((G_18.1 29 j128_42) + r_46) _ h) (va_cwS 2 hts gX7_turns_X7_least rfl rfl rfl (by decide +kernel) ⟨Nat.le_of_ble_eq_true rfl, Nat.le_of_ble_eq_true rfl⟩) rfl hl.1 rfl (Nat.le_of_ble_eq_true rfl) dX7_turns_142 ⟨Nat.zero_le _, Nat.zero_le _⟩ (fun r_48 G_47 H locs h hw => ?_)
                    refine lv_istore (lv' := [(5, .int r_48), (0, .ref (q 7)), (3, .int v3_9), (4, .int v4_12)]) hx hb dX7_turns_145 hl (by decide) rfl (fun ls hl => ?_)
                    exact LJ147_19 r_48 G_47 _ _ ls hw (lv_sub hl [1, 2, 3, 0] rfl) h
                refine lv_if_le (tgt := 108) hx hb dX7_turns_72 (by decide) (fun c72_48 => ?_) (fun c72_48 => ?_)
                · have h := h.1 c72_48
                  exact LJ108_17 w0_16 G_12 _ _ ls hw (lv_sub hl [1, 2, 3, 0] rfl) h
                · have h := h.2 c72_48
                  refine lv_iload hx hb dX7_turns_75 (lv_at hl 0 rfl) ?_
                  refine lv_aload_n hx hb dX7_turns_77 rfl (lv_at hl 1 rfl) ?_
                  refine g_get 7 15 (v := .ref (q 29)) (C := RX7) (T := TX7) (N := 31) X hw (by decide) hinX7 rfl (by decide) (List.mem_cons_of_mem _ (List.mem_append_left _ (List.mem_of_getElem? (i := 4) rfl))) rfl dX7_turns_78 ?_
                  refine lv_bipush (v := 13) hx hb dX7_turns_81 (by decide) ?_
                  refine lv_iload_n hx hb dX7_turns_83 rfl (lv_at hl 2 rfl) ?_
                  refine lv_iconst (v := 1) hx hb dX7_turns_84 (by decide) ?_
                  refine lv_isub hx hb dX7_turns_85 ?_
                  refine lv_imul hx hb dX7_turns_86 ?_
                  refine lv_iload hx hb dX7_turns_87 (lv_at hl 3 rfl) ?_
                  refine lv_iadd hx hb dX7_turns_89 ?_
                  obtain ⟨j90_49, bj90_49, ej90_49, h⟩ := h
                  refine g_iald 29 169 j90_49 X hw (Or.inr ⟨by decide, by decide⟩) rfl bj90_49 ej90_49 (by decide) dX7_turns_90 ?_
                  refine lv_aload_n hx hb dX7_turns_91 rfl (lv_at hl 1 rfl) ?_
                  refine g_get 7 11 (v := .ref (q 27)) (C := RX7) (T := TX7) (N := 31) X hw (by decide) hinX7 rfl (by decide) (List.mem_cons_of_mem _ (List.mem_append_left _ (List.mem_of_getElem? (i := 0) rfl))) rfl dX7_turns_92 ?_
                  refine lv_iload_n hx hb dX7_turns_95 rfl (lv_at hl 2 rfl) ?_
                  refine lv_iconst (v := 1) hx hb dX7_turns_96 (by decide) ?_
                  refine lv_isub hx hb dX7_turns_97 ?_
                  obtain ⟨j98_50, bj98_50, ej98_50, h⟩ := h
                  refine g_iald 27 12 j98_50 X hw (Or.inr ⟨by decide, by decide⟩) rfl bj98_50 ej98_50 (by decide) dX7_turns_98 ?_
                  refine g_callSi (As := [.int (G_12.1 27 j98_50)]) (rest := [.int (G_12.1 29 j90_49), .int w0_16]) X hw hA (m_X7_alone l D cy q G_12 (G_12.1 27 j98_50) _ h) (va_cwS 1 hts gX7_turns_X7_alone rfl rfl rfl (by decide +kernel) ⟨Nat.le_of_ble_eq_true rfl, Nat.le_of_ble_eq_true rfl⟩) rfl hl.1 rfl (Nat.le_of_ble_eq_true rfl) dX7_turns_99 ⟨Nat.zero_le _, Nat.zero_le _⟩ (fun r_53 G_52 H locs h hw => ?_)
                  refine lv_iadd hx hb dX7_turns_102 ?_
                  refine g_callSi (As := [.int w0_16, .int ((G_12.1 29 j90_49) + r_53)]) (rest := []) X hw hA (m_X7_least l D cy q G_52 w0_16 ((G_12.1 29 j90_49) + r_53) _ h) (va_cwS 2 hts gX7_turns_X7_least rfl rfl rfl (by decide +kernel) ⟨Nat.le_of_ble_eq_true rfl, Nat.le_of_ble_eq_true rfl⟩) rfl hl.1 rfl (Nat.le_of_ble_eq_true rfl) dX7_turns_103 ⟨Nat.zero_le _, Nat.zero_le _⟩ (fun r_55 G_54 H locs h hw => ?_)
                  refine lv_istore (lv' := [(5, .int r_55), (0, .ref (q 7)), (3, .int v3_9), (4, .int v4_12)]) hx hb dX7_turns_106 hl (by decide) rfl (fun ls hl => ?_)
                  exact LJ108_17 r_55 G_54 _ _ ls hw (lv_sub hl [1, 2, 3, 0] rfl) h
              refine lv_if_ne (tgt := 66) hx hb dX7_turns_59 (by decide) (fun c59_55 => ?_) (fun c59_55 => ?_)
              · have h := h.1 c59_55
                refine lv_sipush (v := 1000) hx hb dX7_turns_66 (by decide) ?_
                exact LJ69_16 1000 _ _ ls hw (lv_sub hl [0, 1, 2] rfl) h
              · have h := h.2 c59_55
                refine lv_iconst (v := 0) hx hb dX7_turns_62 (by decide) ?_
                refine lv_goto (tgt := 69) hx hb dX7_turns_63 (by decide) ?_
                exact LJ69_16 0 _ _ ls hw (lv_sub hl [0, 1, 2] rfl) h
        exact LI46_12 n_12 0 G_9 _ _ ls hw (lv_sub hl [1, 2, 0] rfl) h0
  exact LI35_9 n_9 0 G_8 _ _ ls hw (lv_sub hl [1, 0] rfl) h0

abbrev rmX7_findDistances : Room := { frames := 3, cells := 0, slots := 0, locals := 68 }
def wp_X7_findDistances (G : GS)  (post : GS → Prop) : Prop :=
  wp_X7_findCommon G (fun G_1 => ∃ I6_3 : Nat → Int32 → GS → Prop, (∃ n_3 : Nat, I6_3 n_3 0 G_1) ∧ ∀ (n_3 : Nat) (v1_3 : Int32) (G_3 : GS), I6_3 n_3 v1_3 G_3 → (((G_3.1 7 5) ≤ v1_3 → (post G_3)) ∧ (¬ ((G_3.1 7 5) ≤ v1_3) → (∃ I16_5 : Nat → Int32 → GS → Prop, (∃ n_5 : Nat, I16_5 n_5 0 G_3) ∧ ∀ (n_5 : Nat) (v2_5 : Int32) (G_5 : GS), I16_5 n_5 v2_5 G_5 → (((G_5.1 7 5) ≤ v2_5 → (∃ k_8 : Nat, k_8 < n_3 ∧ I6_3 k_8 (v1_3 + 1) G_5)) ∧ (¬ ((G_5.1 7 5) ≤ v2_5) → (wp_X7_turns G_5 v1_3 v2_5 (fun r_10 G_9 => ∃ j40_10 : Nat, j40_10 < 1600 ∧ (40 * v1_3) + v2_5 = nI j40_10 ∧ (∀ G_12 : GS, G_12 = sI G_9 30 j40_10 r_10 → (∃ k_14 : Nat, k_14 < n_5 ∧ I16_5 k_14 (v2_5 + 1) G_12))))))))))
set_option maxHeartbeats 4000000 in
set_option maxRecDepth 100000 in
theorem m_X7_findDistances (l : Launch) (D : va_G) (cy : Nat → ClassId) (q : Nat → Nat) (G : GS)  (post : GS → Prop) (h : wp_X7_findDistances G  post) : gMv l yX7_findDistances wsX7_findDistances rmX7_findDistances D cy q [.ref (q 7)] G post := by
  intro sz
  refine Met.ofW (cc := cX7_findDistances) (maxL := 3) (ret := none) (by decide) rfl ?_
  intro p e s m args below meth c s₁ B hml hv
  obtain ⟨ha, hsz, X, hw, hA, hr, hlk⟩ := g_start B hml hv
  have hx := X.1.1
  have hb := X.1.2.1
  have hown := X.1.2.2.2.1
  have hts := X.1.2.2.2.2
  refine g_in ha (Nat.le_of_ble_eq_true rfl) (fun ls hl => ?_)
  have hl : lv_has ls 3 [(0, .ref (q 7))] := hl
  unfold wp_X7_findDistances at h
  have hinX7 : ∀ w ∈ wsX70, w ∈ wsX7_findDistances := fun _ h9 => (List.mem_cons_of_mem _ (List.mem_append_right _ h9))
  refine lv_aload_n hx hb dX7_findDistances_0 rfl (lv_at hl 0 rfl) ?_
  refine g_callVv 7 (C := RX7) (T := TX7) (N := 31) (As := []) (rest := []) X hw hA (m_X7_findCommon l D cy q G _ h) (by decide) rfl (cwV 0 hts gX7_findDistances_X7_findCommon rfl rfl rfl (by decide +kernel) ⟨Nat.le_of_ble_eq_true rfl, Nat.le_of_ble_eq_true rfl⟩) rfl hl.1 rfl (Nat.le_of_ble_eq_true rfl) dX7_findDistances_1 ⟨Nat.zero_le _, Nat.zero_le _⟩ (fun G_1 H locs h hw => ?_)
  refine lv_iconst (v := 0) hx hb dX7_findDistances_4 (by decide) ?_
  refine lv_istore_n (lv' := [(1, .int 0), (0, .ref (q 7))]) hx hb dX7_findDistances_5 rfl hl (by decide) rfl (fun ls hl => ?_)
  obtain ⟨I6_3, ⟨n_3, h0⟩, hI6_3⟩ := h
  have LI6_3 : ∀ (n_3 : Nat) (v1_3 : Int32) (G_3 : GS) (H : Heap) (locs : List Loc) (ls : Array Slot), gH D cy q (gA q sz) s.heap G_3 H locs → lv_has ls 3 [(0, .ref (q 7)), (1, .int v1_3)] → I6_3 n_3 v1_3 G_3 → W p l e (headSpec wsX7_findDistances rmX7_findDistances).room s m args below meth c H locs 0 0 (MQ below (va_Qv post (gPo D cy q sz) (gA q sz)) args s 0 0 (gA q sz)) (F0 m 6 ls []) := by
    intro n_3
    induction n_3 using Nat.strongRecOn with
    | ind n_3 ihI6_3 =>
      intro v1_3 G_3 H locs ls hw hl h
      have h := hI6_3 n_3 v1_3 G_3 h
      refine lv_iload_n hx hb dX7_findDistances_6 rfl (lv_at hl 1 rfl) ?_
      refine lv_aload_n hx hb dX7_findDistances_7 rfl (lv_at hl 0 rfl) ?_
      refine g_get 7 5 (v := .int (G_3.1 7 5)) (C := RX7) (T := TX7) (N := 31) X hw (by decide) hinX7 rfl (by decide) (List.mem_cons_of_mem _ (List.mem_append_left _ (List.mem_append_left _ (List.mem_of_getElem? (i := 0) rfl)))) rfl dX7_findDistances_8 ?_
      refine lv_icmp_ge (tgt := 53) hx hb dX7_findDistances_11 (by decide) (fun c11_3 => ?_) (fun c11_3 => ?_)
      · have h := h.1 c11_3
        exact g_vret X hw hr hlk h dX7_findDistances_53
      · have h := h.2 c11_3
        refine lv_iconst (v := 0) hx hb dX7_findDistances_14 (by decide) ?_
        refine lv_istore_n (lv' := [(2, .int 0), (0, .ref (q 7)), (1, .int v1_3)]) hx hb dX7_findDistances_15 rfl hl (by decide) rfl (fun ls hl => ?_)
        obtain ⟨I16_5, ⟨n_5, h0⟩, hI16_5⟩ := h
        have LI16_5 : ∀ (n_5 : Nat) (v2_5 : Int32) (G_5 : GS) (H : Heap) (locs : List Loc) (ls : Array Slot), gH D cy q (gA q sz) s.heap G_5 H locs → lv_has ls 3 [(0, .ref (q 7)), (1, .int v1_3), (2, .int v2_5)] → I16_5 n_5 v2_5 G_5 → W p l e (headSpec wsX7_findDistances rmX7_findDistances).room s m args below meth c H locs 0 0 (MQ below (va_Qv post (gPo D cy q sz) (gA q sz)) args s 0 0 (gA q sz)) (F0 m 16 ls []) := by
          intro n_5
          induction n_5 using Nat.strongRecOn with
          | ind n_5 ihI16_5 =>
            intro v2_5 G_5 H locs ls hw hl h
            have h := hI16_5 n_5 v2_5 G_5 h
            refine lv_iload_n hx hb dX7_findDistances_16 rfl (lv_at hl 2 rfl) ?_
            refine lv_aload_n hx hb dX7_findDistances_17 rfl (lv_at hl 0 rfl) ?_
            refine g_get 7 5 (v := .int (G_5.1 7 5)) (C := RX7) (T := TX7) (N := 31) X hw (by decide) hinX7 rfl (by decide) (List.mem_cons_of_mem _ (List.mem_append_left _ (List.mem_append_left _ (List.mem_of_getElem? (i := 0) rfl)))) rfl dX7_findDistances_18 ?_
            refine lv_icmp_ge (tgt := 47) hx hb dX7_findDistances_21 (by decide) (fun c21_5 => ?_) (fun c21_5 => ?_)
            · have h := h.1 c21_5
              refine lv_iinc (v := v1_3 + 1) (lv' := [(1, .int (v1_3 + 1)), (0, .ref (q 7)), (2, .int v2_5)]) hx hb dX7_findDistances_47 hl (k := 1) rfl rfl (by decide) rfl (fun ls hl => ?_)
              refine lv_goto (tgt := 6) hx hb dX7_findDistances_50 (by decide) ?_
              obtain ⟨k_8, hm, h⟩ := h
              exact ihI6_3 k_8 hm (v1_3 + 1) G_5 _ _ ls hw (lv_sub hl [1, 0] rfl) h
            · have h := h.2 c21_5
              refine lv_aload_n hx hb dX7_findDistances_24 rfl (lv_at hl 0 rfl) ?_
              refine g_get 7 16 (v := .ref (q 30)) (C := RX7) (T := TX7) (N := 31) X hw (by decide) hinX7 rfl (by decide) (List.mem_cons_of_mem _ (List.mem_append_left _ (List.mem_append_left _ (List.mem_of_getElem? (i := 1) rfl)))) rfl dX7_findDistances_25 ?_
              refine lv_bipush (v := 40) hx hb dX7_findDistances_28 (by decide) ?_
              refine lv_iload_n hx hb dX7_findDistances_30 rfl (lv_at hl 1 rfl) ?_
              refine lv_imul hx hb dX7_findDistances_31 ?_
              refine lv_iload_n hx hb dX7_findDistances_32 rfl (lv_at hl 2 rfl) ?_
              refine lv_iadd hx hb dX7_findDistances_33 ?_
              refine lv_aload_n hx hb dX7_findDistances_34 rfl (lv_at hl 0 rfl) ?_
              refine lv_iload_n hx hb dX7_findDistances_35 rfl (lv_at hl 1 rfl) ?_
              refine lv_iload_n hx hb dX7_findDistances_36 rfl (lv_at hl 2 rfl) ?_
              refine g_callVi 7 (C := RX7) (T := TX7) (N := 31) (As := [.int v1_3, .int v2_5]) (rest := [.int ((40 * v1_3) + v2_5), .ref (q 30)]) X hw hA (m_X7_turns l D cy q G_5 v1_3 v2_5 _ h) (by decide) rfl (cwV 2 hts gX7_findDistances_X7_turns rfl rfl rfl (by decide +kernel) ⟨Nat.le_of_ble_eq_true rfl, Nat.le_of_ble_eq_true rfl⟩) rfl hl.1 rfl (Nat.le_of_ble_eq_true rfl) dX7_findDistances_37 ⟨Nat.zero_le _, Nat.zero_le _⟩ (fun r_10 G_9 H locs h hw => ?_)
              obtain ⟨j40_10, bj40_10, ej40_10, h⟩ := h
              refine g_iast 30 1600 j40_10 X hw (Or.inr ⟨by decide, by decide⟩) rfl bj40_10 ej40_10 (by decide) dX7_findDistances_40 (fun H locs hw => ?_)
              obtain ⟨G_12, eG_12⟩ : ∃ z, z = sI G_9 30 j40_10 r_10 := ⟨_, rfl⟩
              rw [← eG_12] at hw
              have h := h G_12 eG_12
              refine lv_iinc (v := v2_5 + 1) (lv' := [(2, .int (v2_5 + 1)), (0, .ref (q 7)), (1, .int v1_3)]) hx hb dX7_findDistances_41 hl (k := 2) rfl rfl (by decide) rfl (fun ls hl => ?_)
              refine lv_goto (tgt := 16) hx hb dX7_findDistances_44 (by decide) ?_
              obtain ⟨k_14, hm, h⟩ := h
              exact ihI16_5 k_14 hm (v2_5 + 1) G_12 _ _ ls hw (lv_sub hl [1, 2, 0] rfl) h
        exact LI16_5 n_5 0 G_3 _ _ ls hw (lv_sub hl [1, 2, 0] rfl) h0
  exact LI6_3 n_3 0 G_1 _ _ ls hw (lv_sub hl [1, 0] rfl) h0

abbrev rmX7_pairCost : Room := { frames := 0, cells := 0, slots := 0, locals := 0 }
def wp_X7_pairCost (G : GS) (x1 : Int32) (x2 : Int32) (x3 : Int32) (post : Int32 → GS → Prop) : Prop :=
  ∃ j10_0 : Nat, j10_0 < 1600 ∧ (40 * x1) + x2 = nI j10_0 ∧ (∀ y_2 : Int32, y_2 = G.1 30 j10_0 → (∃ j23_2 : Nat, j23_2 < 1600 ∧ (40 * x1) + x2 = nI j23_2 ∧ (∀ y_4 : Int32, y_4 = G.1 31 j23_2 → ((x3 = 0 → (((G.1 7 18) ≤ y_2 → ((¬ y_4 = 1 → (post (0 + 0) G)) ∧ (y_4 = 1 → (post (0 + 1000) G)))) ∧ (¬ ((G.1 7 18) ≤ y_2) → ((¬ y_4 = 1 → (post (((G.1 7 18) - y_2) + 0) G)) ∧ (y_4 = 1 → (post (((G.1 7 18) - y_2) + 1000) G)))))) ∧ (¬ (x3 = 0) → ((y_2 ≤ (G.1 7 18) → ((¬ y_4 = 2 → (post (0 + 0) G)) ∧ (y_4 = 2 → (post (0 + 1000) G)))) ∧ (¬ (y_2 ≤ (G.1 7 18)) → ((¬ y_4 = 2 → (post ((y_2 - (G.1 7 18)) + 0) G)) ∧ (y_4 = 2 → (post ((y_2 - (G.1 7 18)) + 1000) G))))))))))
set_option maxHeartbeats 4000000 in
set_option maxRecDepth 100000 in
theorem m_X7_pairCost (l : Launch) (D : va_G) (cy : Nat → ClassId) (q : Nat → Nat) (G : GS) (x1 : Int32) (x2 : Int32) (x3 : Int32) (post : Int32 → GS → Prop) (h : wp_X7_pairCost G x1 x2 x3 post) : gMi l yX7_pairCost wsX7_pairCost rmX7_pairCost D cy q [.ref (q 7), .int x1, .int x2, .int x3] G post := by
  intro sz
  refine Met.ofW (cc := cX7_pairCost) (maxL := 6) (ret := (some .int)) (by decide) rfl ?_
  intro p e s m args below meth c s₁ B hml hv
  obtain ⟨ha, hsz, X, hw, hA, hr, hlk⟩ := g_start B hml hv
  have hx := X.1.1
  have hb := X.1.2.1
  have hown := X.1.2.2.2.1
  have hts := X.1.2.2.2.2
  refine g_in ha (Nat.le_of_ble_eq_true rfl) (fun ls hl => ?_)
  have hl : lv_has ls 6 [(0, .ref (q 7)), (1, .int x1), (2, .int x2), (3, .int x3)] := hl
  unfold wp_X7_pairCost at h
  have hinX7 : ∀ w ∈ wsX70, w ∈ wsX7_pairCost := fun _ h9 => (List.mem_cons_of_mem _ (List.mem_append_right _ h9))
  refine lv_aload_n hx hb dX7_pairCost_0 rfl (lv_at hl 0 rfl) ?_
  refine g_get 7 16 (v := .ref (q 30)) (C := RX7) (T := TX7) (N := 31) X hw (by decide) hinX7 rfl (by decide) (List.mem_cons_of_mem _ (List.mem_append_left _ (List.mem_of_getElem? (i := 0) rfl))) rfl dX7_pairCost_1 ?_
  refine lv_bipush (v := 40) hx hb dX7_pairCost_4 (by decide) ?_
  refine lv_iload_n hx hb dX7_pairCost_6 rfl (lv_at hl 1 rfl) ?_
  refine lv_imul hx hb dX7_pairCost_7 ?_
  refine lv_iload_n hx hb dX7_pairCost_8 rfl (lv_at hl 2 rfl) ?_
  refine lv_iadd hx hb dX7_pairCost_9 ?_
  obtain ⟨j10_0, bj10_0, ej10_0, h⟩ := h
  refine g_iald 30 1600 j10_0 X hw (Or.inr ⟨by decide, by decide⟩) rfl bj10_0 ej10_0 (by decide) dX7_pairCost_10 ?_
  refine lv_topi (fun y_2 ey_2 => ?_)
  have h := h y_2 ey_2
  refine lv_istore (lv' := [(4, .int y_2), (0, .ref (q 7)), (1, .int x1), (2, .int x2), (3, .int x3)]) hx hb dX7_pairCost_11 hl (by decide) rfl (fun ls hl => ?_)
  refine lv_aload_n hx hb dX7_pairCost_13 rfl (lv_at hl 1 rfl) ?_
  refine g_get 7 19 (v := .ref (q 31)) (C := RX7) (T := TX7) (N := 31) X hw (by decide) hinX7 rfl (by decide) (List.mem_cons_of_mem _ (List.mem_append_left _ (List.mem_of_getElem? (i := 1) rfl))) rfl dX7_pairCost_14 ?_
  refine lv_bipush (v := 40) hx hb dX7_pairCost_17 (by decide) ?_
  refine lv_iload_n hx hb dX7_pairCost_19 rfl (lv_at hl 2 rfl) ?_
  refine lv_imul hx hb dX7_pairCost_20 ?_
  refine lv_iload_n hx hb dX7_pairCost_21 rfl (lv_at hl 3 rfl) ?_
  refine lv_iadd hx hb dX7_pairCost_22 ?_
  obtain ⟨j23_2, bj23_2, ej23_2, h⟩ := h
  refine g_iald 31 1600 j23_2 X hw (Or.inr ⟨by decide, by decide⟩) rfl bj23_2 ej23_2 (by decide) dX7_pairCost_23 ?_
  refine lv_topi (fun y_4 ey_4 => ?_)
  have h := h y_4 ey_4
  refine lv_istore (lv' := [(5, .int y_4), (4, .int y_2), (0, .ref (q 7)), (1, .int x1), (2, .int x2), (3, .int x3)]) hx hb dX7_pairCost_24 hl (by decide) rfl (fun ls hl => ?_)
  refine lv_iload_n hx hb dX7_pairCost_26 rfl (lv_at hl 5 rfl) ?_
  refine lv_if_eq (tgt := 65) hx hb dX7_pairCost_27 (by decide) (fun c27_4 => ?_) (fun c27_4 => ?_)
  · have h := h.1 c27_4
    refine lv_iload hx hb dX7_pairCost_65 (lv_at hl 1 rfl) ?_
    refine lv_aload_n hx hb dX7_pairCost_67 rfl (lv_at hl 2 rfl) ?_
    refine g_get 7 18 (v := .int (G.1 7 18)) (C := RX7) (T := TX7) (N := 31) X hw (by decide) hinX7 rfl (by decide) (List.mem_cons_of_mem _ (List.mem_append_left _ (List.mem_of_getElem? (i := 2) rfl))) rfl dX7_pairCost_68 ?_
    refine lv_icmp_ge (tgt := 84) hx hb dX7_pairCost_71 (by decide) (fun c71_5 => ?_) (fun c71_5 => ?_)
    · have h := h.1 c71_5
      refine lv_iconst (v := 0) hx hb dX7_pairCost_84 (by decide) ?_
      refine lv_iload hx hb dX7_pairCost_85 (lv_at hl 0 rfl) ?_
      refine lv_iconst (v := 1) hx hb dX7_pairCost_87 (by decide) ?_
      refine lv_icmp_ne (tgt := 97) hx hb dX7_pairCost_88 (by decide) (fun c88_6 => ?_) (fun c88_6 => ?_)
      · have h := h.1 c88_6
        refine lv_iconst (v := 0) hx hb dX7_pairCost_97 (by decide) ?_
        refine lv_iadd hx hb dX7_pairCost_98 ?_
        exact g_iret X hw hr hlk h dX7_pairCost_99
      · have h := h.2 c88_6
        refine lv_sipush (v := 1000) hx hb dX7_pairCost_91 (by decide) ?_
        refine lv_goto (tgt := 98) hx hb dX7_pairCost_94 (by decide) ?_
        refine lv_iadd hx hb dX7_pairCost_98 ?_
        exact g_iret X hw hr hlk h dX7_pairCost_99
    · have h := h.2 c71_5
      refine lv_aload_n hx hb dX7_pairCost_74 rfl (lv_at hl 2 rfl) ?_
      refine g_get 7 18 (v := .int (G.1 7 18)) (C := RX7) (T := TX7) (N := 31) X hw (by decide) hinX7 rfl (by decide) (List.mem_cons_of_mem _ (List.mem_append_left _ (List.mem_of_getElem? (i := 2) rfl))) rfl dX7_pairCost_75 ?_
      refine lv_iload hx hb dX7_pairCost_78 (lv_at hl 1 rfl) ?_
      refine lv_isub hx hb dX7_pairCost_80 ?_
      refine lv_goto (tgt := 85) hx hb dX7_pairCost_81 (by decide) ?_
      refine lv_iload hx hb dX7_pairCost_85 (lv_at hl 0 rfl) ?_
      refine lv_iconst (v := 1) hx hb dX7_pairCost_87 (by decide) ?_
      refine lv_icmp_ne (tgt := 97) hx hb dX7_pairCost_88 (by decide) (fun c88_7 => ?_) (fun c88_7 => ?_)
      · have h := h.1 c88_7
        refine lv_iconst (v := 0) hx hb dX7_pairCost_97 (by decide) ?_
        refine lv_iadd hx hb dX7_pairCost_98 ?_
        exact g_iret X hw hr hlk h dX7_pairCost_99
      · have h := h.2 c88_7
        refine lv_sipush (v := 1000) hx hb dX7_pairCost_91 (by decide) ?_
        refine lv_goto (tgt := 98) hx hb dX7_pairCost_94 (by decide) ?_
        refine lv_iadd hx hb dX7_pairCost_98 ?_
        exact g_iret X hw hr hlk h dX7_pairCost_99
  · have h := h.2 c27_4
    refine lv_iload hx hb dX7_pairCost_30 (lv_at hl 1 rfl) ?_
    refine lv_aload_n hx hb dX7_pairCost_32 rfl (lv_at hl 2 rfl) ?_
    refine g_get 7 18 (v := .int (G.1 7 18)) (C := RX7) (T := TX7) (N := 31) X hw (by decide) hinX7 rfl (by decide) (List.mem_cons_of_mem _ (List.mem_append_left _ (List.mem_of_getElem? (i := 2) rfl))) rfl dX7_pairCost_33 ?_
    refine lv_icmp_le (tgt := 49) hx hb dX7_pairCost_36 (by decide) (fun c36_8 => ?_) (fun c36_8 => ?_)
    · have h := h.1 c36_8
      refine lv_iconst (v := 0) hx hb dX7_pairCost_49 (by decide) ?_
      refine lv_iload hx hb dX7_pairCost_50 (lv_at hl 0 rfl) ?_
      refine lv_iconst (v := 2) hx hb dX7_pairCost_52 (by decide) ?_
      refine lv_icmp_ne (tgt := 62) hx hb dX7_pairCost_53 (by decide) (fun c53_9 => ?_) (fun c53_9 => ?_)
      · have h := h.1 c53_9
        refine lv_iconst (v := 0) hx hb dX7_pairCost_62 (by decide) ?_
        refine lv_iadd hx hb dX7_pairCost_63 ?_
        exact g_iret X hw hr hlk h dX7_pairCost_64
      · have h := h.2 c53_9
        refine lv_sipush (v := 1000) hx hb dX7_pairCost_56 (by decide) ?_
        refine lv_goto (tgt := 63) hx hb dX7_pairCost_59 (by decide) ?_
        refine lv_iadd hx hb dX7_pairCost_63 ?_
        exact g_iret X hw hr hlk h dX7_pairCost_64
    · have h := h.2 c36_8
      refine lv_iload hx hb dX7_pairCost_39 (lv_at hl 1 rfl) ?_
      refine lv_aload_n hx hb dX7_pairCost_41 rfl (lv_at hl 2 rfl) ?_
      refine g_get 7 18 (v := .int (G.1 7 18)) (C := RX7) (T := TX7) (N := 31) X hw (by decide) hinX7 rfl (by decide) (List.mem_cons_of_mem _ (List.mem_append_left _ (List.mem_of_getElem? (i := 2) rfl))) rfl dX7_pairCost_42 ?_
      refine lv_isub hx hb dX7_pairCost_45 ?_
      refine lv_goto (tgt := 50) hx hb dX7_pairCost_46 (by decide) ?_
      refine lv_iload hx hb dX7_pairCost_50 (lv_at hl 0 rfl) ?_
      refine lv_iconst (v := 2) hx hb dX7_pairCost_52 (by decide) ?_
      refine lv_icmp_ne (tgt := 62) hx hb dX7_pairCost_53 (by decide) (fun c53_10 => ?_) (fun c53_10 => ?_)
      · have h := h.1 c53_10
        refine lv_iconst (v := 0) hx hb dX7_pairCost_62 (by decide) ?_
        refine lv_iadd hx hb dX7_pairCost_63 ?_
        exact g_iret X hw hr hlk h dX7_pairCost_64
      · have h := h.2 c53_10
        refine lv_sipush (v := 1000) hx hb dX7_pairCost_56 (by decide) ?_
        refine lv_goto (tgt := 63) hx hb dX7_pairCost_59 (by decide) ?_
        refine lv_iadd hx hb dX7_pairCost_63 ?_
        exact g_iret X hw hr hlk h dX7_pairCost_64

abbrev rmX7_gain : Room := { frames := 1, cells := 0, slots := 0, locals := 25 }
def wp_X7_gain (G : GS) (x1 : Int32) (x2 : Int32) (post : Int32 → GS → Prop) : Prop :=
  wp_X7_pairCost G x1 x2 1 (fun r_2 G_1 => wp_X7_pairCost G_1 x1 x2 0 (fun r_4 G_3 => post (r_2 - r_4) G_3))
set_option maxHeartbeats 4000000 in
set_option maxRecDepth 100000 in
theorem m_X7_gain (l : Launch) (D : va_G) (cy : Nat → ClassId) (q : Nat → Nat) (G : GS) (x1 : Int32) (x2 : Int32) (post : Int32 → GS → Prop) (h : wp_X7_gain G x1 x2 post) : gMi l yX7_gain wsX7_gain rmX7_gain D cy q [.ref (q 7), .int x1, .int x2] G post := by
  intro sz
  refine Met.ofW (cc := cX7_gain) (maxL := 3) (ret := (some .int)) (by decide) rfl ?_
  intro p e s m args below meth c s₁ B hml hv
  obtain ⟨ha, hsz, X, hw, hA, hr, hlk⟩ := g_start B hml hv
  have hx := X.1.1
  have hb := X.1.2.1
  have hown := X.1.2.2.2.1
  have hts := X.1.2.2.2.2
  refine g_in ha (Nat.le_of_ble_eq_true rfl) (fun ls hl => ?_)
  have hl : lv_has ls 3 [(0, .ref (q 7)), (1, .int x1), (2, .int x2)] := hl
  unfold wp_X7_gain at h
  refine lv_aload_n hx hb dX7_gain_0 rfl (lv_at hl 0 rfl) ?_
  refine lv_iload_n hx hb dX7_gain_1 rfl (lv_at hl 1 rfl) ?_
  refine lv_iload_n hx hb dX7_gain_2 rfl (lv_at hl 2 rfl) ?_
  refine lv_iconst (v := 1) hx hb dX7_gain_3 (by decide) ?_
  refine g_callVi 7 (C := RX7) (T := TX7) (N := 31) (As := [.int x1, .int x2, .int 1]) (rest := []) X hw hA (m_X7_pairCost l D cy q G x1 x2 1 _ h) (by decide) rfl (cwV 3 hts gX7_gain_X7_pairCost rfl rfl rfl (by decide +kernel) ⟨Nat.le_of_ble_eq_true rfl, Nat.le_of_ble_eq_true rfl⟩) rfl hl.1 rfl (Nat.le_of_ble_eq_true rfl) dX7_gain_4 ⟨Nat.zero_le _, Nat.zero_le _⟩ (fun r_2 G_1 H locs h hw => ?_)
  refine lv_aload_n hx hb dX7_gain_7 rfl (lv_at hl 0 rfl) ?_
  refine lv_iload_n hx hb dX7_gain_8 rfl (lv_at hl 1 rfl) ?_
  refine lv_iload_n hx hb dX7_gain_9 rfl (lv_at hl 2 rfl) ?_
  refine lv_iconst (v := 0) hx hb dX7_gain_10 (by decide) ?_
  refine g_callVi 7 (C := RX7) (T := TX7) (N := 31) (As := [.int x1, .int x2, .int 0]) (rest := [.int r_2]) X hw hA (m_X7_pairCost l D cy q G_1 x1 x2 0 _ h) (by decide) rfl (cwV 3 hts gX7_gain_X7_pairCost rfl rfl rfl (by decide +kernel) ⟨Nat.le_of_ble_eq_true rfl, Nat.le_of_ble_eq_true rfl⟩) rfl hl.1 rfl (Nat.le_of_ble_eq_true rfl) dX7_gain_11 ⟨Nat.zero_le _, Nat.zero_le _⟩ (fun r_4 G_3 H locs h hw => ?_)
  refine lv_isub hx hb dX7_gain_14 ?_
  exact g_iret X hw hr hlk h dX7_gain_15

abbrev rmX7_moved : Room := { frames := 2, cells := 0, slots := 0, locals := 47 }
def wp_X7_moved (G : GS) (x1 : Int32) (x2 : Int32) (post : Int32 → GS → Prop) : Prop :=
  ∃ I5_1 : Nat → Int32 → Int32 → GS → Prop, (∃ n_1 : Nat, I5_1 n_1 0 0 G) ∧ ∀ (n_1 : Nat) (v3_1 : Int32) (v4_1 : Int32) (G_1 : GS), I5_1 n_1 v3_1 v4_1 G_1 → (((G_1.1 7 5) ≤ v4_1 → (post v3_1 G_1)) ∧ (¬ ((G_1.1 7 5) ≤ v4_1) → ((v4_1 = x1 → (∃ k_5 : Nat, k_5 < n_1 ∧ I5_1 k_5 v3_1 (v4_1 + 1) G_1)) ∧ (¬ (v4_1 = x1) → (∃ j27_5 : Nat, j27_5 < 40 ∧ v4_1 = nI j27_5 ∧ ((¬ (G_1.1 26 j27_5) = x2 → (∃ j48_7 : Nat, j48_7 < 40 ∧ v4_1 = nI j48_7 ∧ (∃ j54_8 : Nat, j54_8 < 40 ∧ x1 = nI j54_8 ∧ ((¬ (G_1.1 26 j48_7) = (G_1.1 26 j54_8) → (∀ y_11 : Int32, y_11 = v3_1 + 0 → (∃ k_13 : Nat, k_13 < n_1 ∧ I5_1 k_13 y_11 (v4_1 + 1) G_1))) ∧ ((G_1.1 26 j48_7) = (G_1.1 26 j54_8) → (wp_X7_gain G_1 x1 v4_1 (fun r_15 G_14 => ∀ y_16 : Int32, y_16 = v3_1 + (-r_15) → (∃ k_18 : Nat, k_18 < n_1 ∧ I5_1 k_18 y_16 (v4_1 + 1) G_14)))))))) ∧ ((G_1.1 26 j27_5) = x2 → (wp_X7_gain G_1 x1 v4_1 (fun r_20 G_19 => ∀ y_21 : Int32, y_21 = v3_1 + r_20 → (∃ k_23 : Nat, k_23 < n_1 ∧ I5_1 k_23 y_21 (v4_1 + 1) G_19))))))))))
set_option maxHeartbeats 4000000 in
set_option maxRecDepth 100000 in
theorem m_X7_moved (l : Launch) (D : va_G) (cy : Nat → ClassId) (q : Nat → Nat) (G : GS) (x1 : Int32) (x2 : Int32) (post : Int32 → GS → Prop) (h : wp_X7_moved G x1 x2 post) : gMi l yX7_moved wsX7_moved rmX7_moved D cy q [.ref (q 7), .int x1, .int x2] G post := by
  intro sz
  refine Met.ofW (cc := cX7_moved) (maxL := 5) (ret := (some .int)) (by decide) rfl ?_
  intro p e s m args below meth c s₁ B hml hv
  obtain ⟨ha, hsz, X, hw, hA, hr, hlk⟩ := g_start B hml hv
  have hx := X.1.1
  have hb := X.1.2.1
  have hown := X.1.2.2.2.1
  have hts := X.1.2.2.2.2
  refine g_in ha (Nat.le_of_ble_eq_true rfl) (fun ls hl => ?_)
  have hl : lv_has ls 5 [(0, .ref (q 7)), (1, .int x1), (2, .int x2)] := hl
  unfold wp_X7_moved at h
  have hinX7 : ∀ w ∈ wsX70, w ∈ wsX7_moved := fun _ h9 => (List.mem_cons_of_mem _ (List.mem_append_right _ h9))
  refine lv_iconst (v := 0) hx hb dX7_moved_0 (by decide) ?_
  refine lv_istore_n (lv' := [(3, .int 0), (0, .ref (q 7)), (1, .int x1), (2, .int x2)]) hx hb dX7_moved_1 rfl hl (by decide) rfl (fun ls hl => ?_)
  refine lv_iconst (v := 0) hx hb dX7_moved_2 (by decide) ?_
  refine lv_istore (lv' := [(4, .int 0), (3, .int 0), (0, .ref (q 7)), (1, .int x1), (2, .int x2)]) hx hb dX7_moved_3 hl (by decide) rfl (fun ls hl => ?_)
  obtain ⟨I5_1, ⟨n_1, h0⟩, hI5_1⟩ := h
  have LI5_1 : ∀ (n_1 : Nat) (v3_1 : Int32) (v4_1 : Int32) (G_1 : GS) (H : Heap) (locs : List Loc) (ls : Array Slot), gH D cy q (gA q sz) s.heap G_1 H locs → lv_has ls 5 [(0, .ref (q 7)), (1, .int x1), (2, .int x2), (3, .int v3_1), (4, .int v4_1)] → I5_1 n_1 v3_1 v4_1 G_1 → W p l e (headSpec wsX7_moved rmX7_moved).room s m args below meth c H locs 0 0 (MQ below (va_Qi post (gPo D cy q sz) (gA q sz)) args s 0 0 (gA q sz)) (F0 m 5 ls []) := by
    intro n_1
    induction n_1 using Nat.strongRecOn with
    | ind n_1 ihI5_1 =>
      intro v3_1 v4_1 G_1 H locs ls hw hl h
      have h := hI5_1 n_1 v3_1 v4_1 G_1 h
      refine lv_iload hx hb dX7_moved_5 (lv_at hl 4 rfl) ?_
      refine lv_aload_n hx hb dX7_moved_7 rfl (lv_at hl 0 rfl) ?_
      refine g_get 7 5 (v := .int (G_1.1 7 5)) (C := RX7) (T := TX7) (N := 31) X hw (by decide) hinX7 rfl (by decide) (List.mem_cons_of_mem _ (List.mem_append_left _ (List.mem_of_getElem? (i := 0) rfl))) rfl dX7_moved_8 ?_
      refine lv_icmp_ge (tgt := 78) hx hb dX7_moved_11 (by decide) (fun c11_1 => ?_) (fun c11_1 => ?_)
      · have h := h.1 c11_1
        refine lv_iload_n hx hb dX7_moved_78 rfl (lv_at hl 3 rfl) ?_
        exact g_iret X hw hr hlk h dX7_moved_79
      · have h := h.2 c11_1
        refine lv_iload hx hb dX7_moved_14 (lv_at hl 4 rfl) ?_
        refine lv_iload_n hx hb dX7_moved_16 rfl (lv_at hl 1 rfl) ?_
        refine lv_icmp_eq (tgt := 72) hx hb dX7_moved_17 (by decide) (fun c17_2 => ?_) (fun c17_2 => ?_)
        · have h := h.1 c17_2
          refine lv_iinc (v := v4_1 + 1) (lv' := [(4, .int (v4_1 + 1)), (0, .ref (q 7)), (1, .int x1), (2, .int x2), (3, .int v3_1)]) hx hb dX7_moved_72 hl (k := 4) rfl rfl (by decide) rfl (fun ls hl => ?_)
          refine lv_goto (tgt := 5) hx hb dX7_moved_75 (by decide) ?_
          obtain ⟨k_5, hm, h⟩ := h
          exact ihI5_1 k_5 hm v3_1 (v4_1 + 1) G_1 _ _ ls hw (lv_sub hl [1, 2, 3, 4, 0] rfl) h
        · have h := h.2 c17_2
          refine lv_iload_n hx hb dX7_moved_20 rfl (lv_at hl 3 rfl) ?_
          refine lv_aload_n hx hb dX7_moved_21 rfl (lv_at hl 0 rfl) ?_
          refine g_get 7 10 (v := .ref (q 26)) (C := RX7) (T := TX7) (N := 31) X hw (by decide) hinX7 rfl (by decide) (List.mem_cons_of_mem _ (List.mem_append_left _ (List.mem_of_getElem? (i := 1) rfl))) rfl dX7_moved_22 ?_
          refine lv_iload hx hb dX7_moved_25 (lv_at hl 4 rfl) ?_
          obtain ⟨j27_5, bj27_5, ej27_5, h⟩ := h
          refine g_iald 26 40 j27_5 X hw (Or.inr ⟨by decide, by decide⟩) rfl bj27_5 ej27_5 (by decide) dX7_moved_27 ?_
          refine lv_iload_n hx hb dX7_moved_28 rfl (lv_at hl 2 rfl) ?_
          refine lv_icmp_ne (tgt := 42) hx hb dX7_moved_29 (by decide) (fun c29_6 => ?_) (fun c29_6 => ?_)
          · have h := h.1 c29_6
            refine lv_aload_n hx hb dX7_moved_42 rfl (lv_at hl 0 rfl) ?_
            refine g_get 7 10 (v := .ref (q 26)) (C := RX7) (T := TX7) (N := 31) X hw (by decide) hinX7 rfl (by decide) (List.mem_cons_of_mem _ (List.mem_append_left _ (List.mem_of_getElem? (i := 1) rfl))) rfl dX7_moved_43 ?_
            refine lv_iload hx hb dX7_moved_46 (lv_at hl 4 rfl) ?_
            obtain ⟨j48_7, bj48_7, ej48_7, h⟩ := h
            refine g_iald 26 40 j48_7 X hw (Or.inr ⟨by decide, by decide⟩) rfl bj48_7 ej48_7 (by decide) dX7_moved_48 ?_
            refine lv_aload_n hx hb dX7_moved_49 rfl (lv_at hl 0 rfl) ?_
            refine g_get 7 10 (v := .ref (q 26)) (C := RX7) (T := TX7) (N := 31) X hw (by decide) hinX7 rfl (by decide) (List.mem_cons_of_mem _ (List.mem_append_left _ (List.mem_of_getElem? (i := 1) rfl))) rfl dX7_moved_50 ?_
            refine lv_iload_n hx hb dX7_moved_53 rfl (lv_at hl 1 rfl) ?_
            obtain ⟨j54_8, bj54_8, ej54_8, h⟩ := h
            refine g_iald 26 40 j54_8 X hw (Or.inr ⟨by decide, by decide⟩) rfl bj54_8 ej54_8 (by decide) dX7_moved_54 ?_
            refine lv_icmp_ne (tgt := 69) hx hb dX7_moved_55 (by decide) (fun c55_9 => ?_) (fun c55_9 => ?_)
            · have h := h.1 c55_9
              refine lv_iconst (v := 0) hx hb dX7_moved_69 (by decide) ?_
              refine lv_iadd hx hb dX7_moved_70 ?_
              refine lv_topi (fun y_11 ey_11 => ?_)
              have h := h y_11 ey_11
              refine lv_istore_n (lv' := [(3, .int y_11), (0, .ref (q 7)), (1, .int x1), (2, .int x2), (4, .int v4_1)]) hx hb dX7_moved_71 rfl hl (by decide) rfl (fun ls hl => ?_)
              refine lv_iinc (v := v4_1 + 1) (lv' := [(4, .int (v4_1 + 1)), (3, .int y_11), (0, .ref (q 7)), (1, .int x1), (2, .int x2)]) hx hb dX7_moved_72 hl (k := 4) rfl rfl (by decide) rfl (fun ls hl => ?_)
              refine lv_goto (tgt := 5) hx hb dX7_moved_75 (by decide) ?_
              obtain ⟨k_13, hm, h⟩ := h
              exact ihI5_1 k_13 hm y_11 (v4_1 + 1) G_1 _ _ ls hw (lv_sub hl [2, 3, 4, 1, 0] rfl) h
            · have h := h.2 c55_9
              refine lv_aload_n hx hb dX7_moved_58 rfl (lv_at hl 0 rfl) ?_
              refine lv_iload_n hx hb dX7_moved_59 rfl (lv_at hl 1 rfl) ?_
              refine lv_iload hx hb dX7_moved_60 (lv_at hl 4 rfl) ?_
              refine g_callVi 7 (C := RX7) (T := TX7) (N := 31) (As := [.int x1, .int v4_1]) (rest := [.int v3_1]) X hw hA (m_X7_gain l D cy q G_1 x1 v4_1 _ h) (by decide) rfl (cwV 2 hts gX7_moved_X7_gain rfl rfl rfl (by decide +kernel) ⟨Nat.le_of_ble_eq_true rfl, Nat.le_of_ble_eq_true rfl⟩) rfl hl.1 rfl (Nat.le_of_ble_eq_true rfl) dX7_moved_62 ⟨Nat.zero_le _, Nat.zero_le _⟩ (fun r_15 G_14 H locs h hw => ?_)
              refine lv_ineg hx hb dX7_moved_65 ?_
              refine lv_goto (tgt := 70) hx hb dX7_moved_66 (by decide) ?_
              refine lv_iadd hx hb dX7_moved_70 ?_
              refine lv_topi (fun y_16 ey_16 => ?_)
              have h := h y_16 ey_16
              refine lv_istore_n (lv' := [(3, .int y_16), (0, .ref (q 7)), (1, .int x1), (2, .int x2), (4, .int v4_1)]) hx hb dX7_moved_71 rfl hl (by decide) rfl (fun ls hl => ?_)
              refine lv_iinc (v := v4_1 + 1) (lv' := [(4, .int (v4_1 + 1)), (3, .int y_16), (0, .ref (q 7)), (1, .int x1), (2, .int x2)]) hx hb dX7_moved_72 hl (k := 4) rfl rfl (by decide) rfl (fun ls hl => ?_)
              refine lv_goto (tgt := 5) hx hb dX7_moved_75 (by decide) ?_
              obtain ⟨k_18, hm, h⟩ := h
              exact ihI5_1 k_18 hm y_16 (v4_1 + 1) G_14 _ _ ls hw (lv_sub hl [2, 3, 4, 1, 0] rfl) h
          · have h := h.2 c29_6
            refine lv_aload_n hx hb dX7_moved_32 rfl (lv_at hl 0 rfl) ?_
            refine lv_iload_n hx hb dX7_moved_33 rfl (lv_at hl 1 rfl) ?_
            refine lv_iload hx hb dX7_moved_34 (lv_at hl 4 rfl) ?_
            refine g_callVi 7 (C := RX7) (T := TX7) (N := 31) (As := [.int x1, .int v4_1]) (rest := [.int v3_1]) X hw hA (m_X7_gain l D cy q G_1 x1 v4_1 _ h) (by decide) rfl (cwV 2 hts gX7_moved_X7_gain rfl rfl rfl (by decide +kernel) ⟨Nat.le_of_ble_eq_true rfl, Nat.le_of_ble_eq_true rfl⟩) rfl hl.1 rfl (Nat.le_of_ble_eq_true rfl) dX7_moved_36 ⟨Nat.zero_le _, Nat.zero_le _⟩ (fun r_20 G_19 H locs h hw => ?_)
            refine lv_goto (tgt := 70) hx hb dX7_moved_39 (by decide) ?_
            refine lv_iadd hx hb dX7_moved_70 ?_
            refine lv_topi (fun y_21 ey_21 => ?_)
            have h := h y_21 ey_21
            refine lv_istore_n (lv' := [(3, .int y_21), (0, .ref (q 7)), (1, .int x1), (2, .int x2), (4, .int v4_1)]) hx hb dX7_moved_71 rfl hl (by decide) rfl (fun ls hl => ?_)
            refine lv_iinc (v := v4_1 + 1) (lv' := [(4, .int (v4_1 + 1)), (3, .int y_21), (0, .ref (q 7)), (1, .int x1), (2, .int x2)]) hx hb dX7_moved_72 hl (k := 4) rfl rfl (by decide) rfl (fun ls hl => ?_)
            refine lv_goto (tgt := 5) hx hb dX7_moved_75 (by decide) ?_
            obtain ⟨k_23, hm, h⟩ := h
            exact ihI5_1 k_23 hm y_21 (v4_1 + 1) G_19 _ _ ls hw (lv_sub hl [2, 3, 4, 1, 0] rfl) h
  exact LI5_1 n_1 0 0 G _ _ ls hw (lv_sub hl [2, 3, 4, 1, 0] rfl) h0

abbrev rmX7_asks : Room := { frames := 0, cells := 0, slots := 0, locals := 0 }
def wp_X7_asks (G : GS) (x1 : Int32) (x2 : Int32) (x3 : Int32) (x4 : Int32) (post : GS → Prop) : Prop :=
  ((G.1 7 22) ≤ x1 → (post G)) ∧ (¬ ((G.1 7 22) ≤ x1) → (∀ G_2 : GS, G_2 = sI G 7 22 x1 → (∀ G_3 : GS, G_3 = sI G_2 7 23 x2 → (∀ G_4 : GS, G_4 = sI G_3 7 24 x3 → ((x4 = 0 ∨ x4 = 1) ∧ (∀ G_5 : GS, G_5 = sI G_4 7 25 x4 → (post G_5)))))))
set_option maxHeartbeats 4000000 in
set_option maxRecDepth 100000 in
theorem m_X7_asks (l : Launch) (D : va_G) (cy : Nat → ClassId) (q : Nat → Nat) (G : GS) (x1 : Int32) (x2 : Int32) (x3 : Int32) (x4 : Int32) (post : GS → Prop) (h : wp_X7_asks G x1 x2 x3 x4 post) : gMv l yX7_asks wsX7_asks rmX7_asks D cy q [.ref (q 7), .int x1, .int x2, .int x3, .int x4] G post := by
  intro sz
  refine Met.ofW (cc := cX7_asks) (maxL := 5) (ret := none) (by decide) rfl ?_
  intro p e s m args below meth c s₁ B hml hv
  obtain ⟨ha, hsz, X, hw, hA, hr, hlk⟩ := g_start B hml hv
  have hx := X.1.1
  have hb := X.1.2.1
  have hown := X.1.2.2.2.1
  have hts := X.1.2.2.2.2
  refine g_in ha (Nat.le_of_ble_eq_true rfl) (fun ls hl => ?_)
  have hl : lv_has ls 5 [(0, .ref (q 7)), (1, .int x1), (2, .int x2), (3, .int x3), (4, .int x4)] := hl
  unfold wp_X7_asks at h
  have hinX7 : ∀ w ∈ wsX70, w ∈ wsX7_asks := fun _ h9 => (List.mem_cons_of_mem _ (List.mem_append_right _ h9))
  refine lv_iload_n hx hb dX7_asks_0 rfl (lv_at hl 1 rfl) ?_
  refine lv_aload_n hx hb dX7_asks_1 rfl (lv_at hl 0 rfl) ?_
  refine g_get 7 22 (v := .int (G.1 7 22)) (C := RX7) (T := TX7) (N := 31) X hw (by decide) hinX7 rfl (by decide) (List.mem_cons_of_mem _ (List.mem_append_left _ (List.mem_of_getElem? (i := 0) rfl))) rfl dX7_asks_2 ?_
  refine lv_icmp_ge (tgt := 29) hx hb dX7_asks_5 (by decide) (fun c5_0 => ?_) (fun c5_0 => ?_)
  · have h := h.1 c5_0
    exact g_vret X hw hr hlk h dX7_asks_29
  · have h := h.2 c5_0
    refine lv_aload_n hx hb dX7_asks_8 rfl (lv_at hl 0 rfl) ?_
    refine lv_iload_n hx hb dX7_asks_9 rfl (lv_at hl 1 rfl) ?_
    refine g_put 7 22 (v := x1) (ty := .int) (C := RX7) (T := TX7) (N := 31) X hw (by decide) hinX7 tyX7_ok nmX7 rfl (by decide) (List.mem_cons_of_mem _ (List.mem_append_left _ (List.mem_of_getElem? (i := 0) rfl))) rfl (by decide +kernel) rfl rfl (Nat.le_of_ble_eq_true rfl) rfl dX7_asks_10 (fun H locs hw => ?_)
    obtain ⟨G_2, eG_2⟩ : ∃ z, z = sI G 7 22 x1 := ⟨_, rfl⟩
    rw [← eG_2] at hw
    have h := h G_2 eG_2
    refine lv_aload_n hx hb dX7_asks_13 rfl (lv_at hl 0 rfl) ?_
    refine lv_iload_n hx hb dX7_asks_14 rfl (lv_at hl 2 rfl) ?_
    refine g_put 7 23 (v := x2) (ty := .int) (C := RX7) (T := TX7) (N := 31) X hw (by decide) hinX7 tyX7_ok nmX7 rfl (by decide) (List.mem_cons_of_mem _ (List.mem_append_left _ (List.mem_of_getElem? (i := 1) rfl))) rfl (by decide +kernel) rfl rfl (Nat.le_of_ble_eq_true rfl) rfl dX7_asks_15 (fun H locs hw => ?_)
    obtain ⟨G_3, eG_3⟩ : ∃ z, z = sI G_2 7 23 x2 := ⟨_, rfl⟩
    rw [← eG_3] at hw
    have h := h G_3 eG_3
    refine lv_aload_n hx hb dX7_asks_18 rfl (lv_at hl 0 rfl) ?_
    refine lv_iload_n hx hb dX7_asks_19 rfl (lv_at hl 3 rfl) ?_
    refine g_put 7 24 (v := x3) (ty := .int) (C := RX7) (T := TX7) (N := 31) X hw (by decide) hinX7 tyX7_ok nmX7 rfl (by decide) (List.mem_cons_of_mem _ (List.mem_append_left _ (List.mem_of_getElem? (i := 2) rfl))) rfl (by decide +kernel) rfl rfl (Nat.le_of_ble_eq_true rfl) rfl dX7_asks_20 (fun H locs hw => ?_)
    obtain ⟨G_4, eG_4⟩ : ∃ z, z = sI G_3 7 24 x3 := ⟨_, rfl⟩
    rw [← eG_4] at hw
    have h := h G_4 eG_4
    refine lv_aload_n hx hb dX7_asks_23 rfl (lv_at hl 0 rfl) ?_
    refine lv_iload hx hb dX7_asks_24 (lv_at hl 4 rfl) ?_
    obtain ⟨hz, h⟩ := h
    refine g_put 7 25 (v := x4) (ty := .boolean) (C := RX7) (T := TX7) (N := 31) X hw (by decide) hinX7 tyX7_ok nmX7 rfl (by decide) (List.mem_cons_of_mem _ (List.mem_append_left _ (List.mem_of_getElem? (i := 3) rfl))) rfl (by decide +kernel) (by rcases hz with hz | hz <;> rw [hz] <;> decide) (by rcases hz with hz | hz <;> rw [hz] <;> decide) (Nat.le_of_ble_eq_true rfl) rfl dX7_asks_26 (fun H locs hw => ?_)
    obtain ⟨G_5, eG_5⟩ : ∃ z, z = sI G_4 7 25 x4 := ⟨_, rfl⟩
    rw [← eG_5] at hw
    have h := h G_5 eG_5
    exact g_vret X hw hr hlk h dX7_asks_29

abbrev rmX7_inHeap : Room := { frames := 0, cells := 0, slots := 0, locals := 0 }
def wp_X7_inHeap (G : GS) (x1 : Int32) (post : Int32 → GS → Prop) : Prop :=
  ∃ I4_1 : Nat → Int32 → Int32 → Prop, (∃ n_1 : Nat, I4_1 n_1 0 0) ∧ ∀ (n_1 : Nat) (v2_1 : Int32) (v3_1 : Int32), I4_1 n_1 v2_1 v3_1 → (((G.1 7 5) ≤ v3_1 → (post v2_1 G)) ∧ (¬ ((G.1 7 5) ≤ v3_1) → (∃ j18_2 : Nat, j18_2 < 40 ∧ v3_1 = nI j18_2 ∧ ((¬ (G.1 26 j18_2) = x1 → (∀ y_5 : Int32, y_5 = v2_1 + 0 → (∃ k_7 : Nat, k_7 < n_1 ∧ I4_1 k_7 y_5 (v3_1 + 1)))) ∧ ((G.1 26 j18_2) = x1 → (∀ y_8 : Int32, y_8 = v2_1 + 1 → (∃ k_10 : Nat, k_10 < n_1 ∧ I4_1 k_10 y_8 (v3_1 + 1))))))))
set_option maxHeartbeats 4000000 in
set_option maxRecDepth 100000 in
theorem m_X7_inHeap (l : Launch) (D : va_G) (cy : Nat → ClassId) (q : Nat → Nat) (G : GS) (x1 : Int32) (post : Int32 → GS → Prop) (h : wp_X7_inHeap G x1 post) : gMi l yX7_inHeap wsX7_inHeap rmX7_inHeap D cy q [.ref (q 7), .int x1] G post := by
  intro sz
  refine Met.ofW (cc := cX7_inHeap) (maxL := 4) (ret := (some .int)) (by decide) rfl ?_
  intro p e s m args below meth c s₁ B hml hv
  obtain ⟨ha, hsz, X, hw, hA, hr, hlk⟩ := g_start B hml hv
  have hx := X.1.1
  have hb := X.1.2.1
  have hown := X.1.2.2.2.1
  have hts := X.1.2.2.2.2
  refine g_in ha (Nat.le_of_ble_eq_true rfl) (fun ls hl => ?_)
  have hl : lv_has ls 4 [(0, .ref (q 7)), (1, .int x1)] := hl
  unfold wp_X7_inHeap at h
  have hinX7 : ∀ w ∈ wsX70, w ∈ wsX7_inHeap := fun _ h9 => (List.mem_cons_of_mem _ (List.mem_append_right _ h9))
  refine lv_iconst (v := 0) hx hb dX7_inHeap_0 (by decide) ?_
  refine lv_istore_n (lv' := [(2, .int 0), (0, .ref (q 7)), (1, .int x1)]) hx hb dX7_inHeap_1 rfl hl (by decide) rfl (fun ls hl => ?_)
  refine lv_iconst (v := 0) hx hb dX7_inHeap_2 (by decide) ?_
  refine lv_istore_n (lv' := [(3, .int 0), (2, .int 0), (0, .ref (q 7)), (1, .int x1)]) hx hb dX7_inHeap_3 rfl hl (by decide) rfl (fun ls hl => ?_)
  obtain ⟨I4_1, ⟨n_1, h0⟩, hI4_1⟩ := h
  have LI4_1 : ∀ (n_1 : Nat) (v2_1 : Int32) (v3_1 : Int32) (H : Heap) (locs : List Loc) (ls : Array Slot), gH D cy q (gA q sz) s.heap G H locs → lv_has ls 4 [(0, .ref (q 7)), (1, .int x1), (2, .int v2_1), (3, .int v3_1)] → I4_1 n_1 v2_1 v3_1 → W p l e (headSpec wsX7_inHeap rmX7_inHeap).room s m args below meth c H locs 0 0 (MQ below (va_Qi post (gPo D cy q sz) (gA q sz)) args s 0 0 (gA q sz)) (F0 m 4 ls []) := by
    intro n_1
    induction n_1 using Nat.strongRecOn with
    | ind n_1 ihI4_1 =>
      intro v2_1 v3_1 H locs ls hw hl h
      have h := hI4_1 n_1 v2_1 v3_1 h
      refine lv_iload_n hx hb dX7_inHeap_4 rfl (lv_at hl 3 rfl) ?_
      refine lv_aload_n hx hb dX7_inHeap_5 rfl (lv_at hl 0 rfl) ?_
      refine g_get 7 5 (v := .int (G.1 7 5)) (C := RX7) (T := TX7) (N := 31) X hw (by decide) hinX7 rfl (by decide) (List.mem_cons_of_mem _ (List.mem_append_left _ (List.mem_of_getElem? (i := 0) rfl))) rfl dX7_inHeap_6 ?_
      refine lv_icmp_ge (tgt := 36) hx hb dX7_inHeap_9 (by decide) (fun c9_1 => ?_) (fun c9_1 => ?_)
      · have h := h.1 c9_1
        refine lv_iload_n hx hb dX7_inHeap_36 rfl (lv_at hl 2 rfl) ?_
        exact g_iret X hw hr hlk h dX7_inHeap_37
      · have h := h.2 c9_1
        refine lv_iload_n hx hb dX7_inHeap_12 rfl (lv_at hl 2 rfl) ?_
        refine lv_aload_n hx hb dX7_inHeap_13 rfl (lv_at hl 0 rfl) ?_
        refine g_get 7 10 (v := .ref (q 26)) (C := RX7) (T := TX7) (N := 31) X hw (by decide) hinX7 rfl (by decide) (List.mem_cons_of_mem _ (List.mem_append_left _ (List.mem_of_getElem? (i := 1) rfl))) rfl dX7_inHeap_14 ?_
        refine lv_iload_n hx hb dX7_inHeap_17 rfl (lv_at hl 3 rfl) ?_
        obtain ⟨j18_2, bj18_2, ej18_2, h⟩ := h
        refine g_iald 26 40 j18_2 X hw (Or.inr ⟨by decide, by decide⟩) rfl bj18_2 ej18_2 (by decide) dX7_inHeap_18 ?_
        refine lv_iload_n hx hb dX7_inHeap_19 rfl (lv_at hl 1 rfl) ?_
        refine lv_icmp_ne (tgt := 27) hx hb dX7_inHeap_20 (by decide) (fun c20_3 => ?_) (fun c20_3 => ?_)
        · have h := h.1 c20_3
          refine lv_iconst (v := 0) hx hb dX7_inHeap_27 (by decide) ?_
          refine lv_iadd hx hb dX7_inHeap_28 ?_
          refine lv_topi (fun y_5 ey_5 => ?_)
          have h := h y_5 ey_5
          refine lv_istore_n (lv' := [(2, .int y_5), (0, .ref (q 7)), (1, .int x1), (3, .int v3_1)]) hx hb dX7_inHeap_29 rfl hl (by decide) rfl (fun ls hl => ?_)
          refine lv_iinc (v := v3_1 + 1) (lv' := [(3, .int (v3_1 + 1)), (2, .int y_5), (0, .ref (q 7)), (1, .int x1)]) hx hb dX7_inHeap_30 hl (k := 3) rfl rfl (by decide) rfl (fun ls hl => ?_)
          refine lv_goto (tgt := 4) hx hb dX7_inHeap_33 (by decide) ?_
          obtain ⟨k_7, hm, h⟩ := h
          exact ihI4_1 k_7 hm y_5 (v3_1 + 1) _ _ ls hw (lv_sub hl [2, 3, 1, 0] rfl) h
        · have h := h.2 c20_3
          refine lv_iconst (v := 1) hx hb dX7_inHeap_23 (by decide) ?_
          refine lv_goto (tgt := 28) hx hb dX7_inHeap_24 (by decide) ?_
          refine lv_iadd hx hb dX7_inHeap_28 ?_
          refine lv_topi (fun y_8 ey_8 => ?_)
          have h := h y_8 ey_8
          refine lv_istore_n (lv' := [(2, .int y_8), (0, .ref (q 7)), (1, .int x1), (3, .int v3_1)]) hx hb dX7_inHeap_29 rfl hl (by decide) rfl (fun ls hl => ?_)
          refine lv_iinc (v := v3_1 + 1) (lv' := [(3, .int (v3_1 + 1)), (2, .int y_8), (0, .ref (q 7)), (1, .int x1)]) hx hb dX7_inHeap_30 hl (k := 3) rfl rfl (by decide) rfl (fun ls hl => ?_)
          refine lv_goto (tgt := 4) hx hb dX7_inHeap_33 (by decide) ?_
          obtain ⟨k_10, hm, h⟩ := h
          exact ihI4_1 k_10 hm y_8 (v3_1 + 1) _ _ ls hw (lv_sub hl [2, 3, 1, 0] rfl) h
  exact LI4_1 n_1 0 0 _ _ ls hw (lv_sub hl [2, 3, 1, 0] rfl) h0

abbrev rmX7_melted : Room := { frames := 2, cells := 0, slots := 0, locals := 47 }
def wp_X7_melted (G : GS) (x1 : Int32) (x2 : Int32) (post : Int32 → GS → Prop) : Prop :=
  ∃ I5_1 : Nat → Int32 → Int32 → GS → Prop, (∃ n_1 : Nat, I5_1 n_1 0 0 G) ∧ ∀ (n_1 : Nat) (v3_1 : Int32) (v4_1 : Int32) (G_1 : GS), I5_1 n_1 v3_1 v4_1 G_1 → (((G_1.1 7 5) ≤ v4_1 → (post v3_1 G_1)) ∧ (¬ ((G_1.1 7 5) ≤ v4_1) → (∃ I17_3 : Nat → Int32 → Int32 → GS → Prop, (∃ n_3 : Nat, I17_3 n_3 v3_1 0 G_1) ∧ ∀ (n_3 : Nat) (v3_3 : Int32) (v5_3 : Int32) (G_3 : GS), I17_3 n_3 v3_3 v5_3 G_3 → (((G_3.1 7 5) ≤ v5_3 → (∃ k_6 : Nat, k_6 < n_1 ∧ I5_1 k_6 v3_3 (v4_1 + 1) G_3)) ∧ (¬ ((G_3.1 7 5) ≤ v5_3) → (∃ j32_6 : Nat, j32_6 < 40 ∧ v4_1 = nI j32_6 ∧ ((¬ (G_3.1 26 j32_6) = x1 → (∃ k_10 : Nat, k_10 < n_1 ∧ I5_1 k_10 v3_3 (v4_1 + 1) G_3)) ∧ ((G_3.1 26 j32_6) = x1 → (∃ j44_10 : Nat, j44_10 < 40 ∧ v5_3 = nI j44_10 ∧ ((¬ (G_3.1 26 j44_10) = x2 → (∀ y_13 : Int32, y_13 = v3_3 + 0 → (∃ k_15 : Nat, k_15 < n_3 ∧ I17_3 k_15 y_13 (v5_3 + 1) G_3))) ∧ ((G_3.1 26 j44_10) = x2 → (wp_X7_gain G_3 v4_1 v5_3 (fun r_17 G_16 => ∀ y_18 : Int32, y_18 = v3_3 + r_17 → (∃ k_20 : Nat, k_20 < n_3 ∧ I17_3 k_20 y_18 (v5_3 + 1) G_16))))))))))))))
set_option maxHeartbeats 4000000 in
set_option maxRecDepth 100000 in
theorem m_X7_melted (l : Launch) (D : va_G) (cy : Nat → ClassId) (q : Nat → Nat) (G : GS) (x1 : Int32) (x2 : Int32) (post : Int32 → GS → Prop) (h : wp_X7_melted G x1 x2 post) : gMi l yX7_melted wsX7_melted rmX7_melted D cy q [.ref (q 7), .int x1, .int x2] G post := by
  intro sz
  refine Met.ofW (cc := cX7_melted) (maxL := 6) (ret := (some .int)) (by decide) rfl ?_
  intro p e s m args below meth c s₁ B hml hv
  obtain ⟨ha, hsz, X, hw, hA, hr, hlk⟩ := g_start B hml hv
  have hx := X.1.1
  have hb := X.1.2.1
  have hown := X.1.2.2.2.1
  have hts := X.1.2.2.2.2
  refine g_in ha (Nat.le_of_ble_eq_true rfl) (fun ls hl => ?_)
  have hl : lv_has ls 6 [(0, .ref (q 7)), (1, .int x1), (2, .int x2)] := hl
  unfold wp_X7_melted at h
  have hinX7 : ∀ w ∈ wsX70, w ∈ wsX7_melted := fun _ h9 => (List.mem_cons_of_mem _ (List.mem_append_right _ h9))
  refine lv_iconst (v := 0) hx hb dX7_melted_0 (by decide) ?_
  refine lv_istore_n (lv' := [(3, .int 0), (0, .ref (q 7)), (1, .int x1), (2, .int x2)]) hx hb dX7_melted_1 rfl hl (by decide) rfl (fun ls hl => ?_)
  refine lv_iconst (v := 0) hx hb dX7_melted_2 (by decide) ?_
  refine lv_istore (lv' := [(4, .int 0), (3, .int 0), (0, .ref (q 7)), (1, .int x1), (2, .int x2)]) hx hb dX7_melted_3 hl (by decide) rfl (fun ls hl => ?_)
  obtain ⟨I5_1, ⟨n_1, h0⟩, hI5_1⟩ := h
  have LI5_1 : ∀ (n_1 : Nat) (v3_1 : Int32) (v4_1 : Int32) (G_1 : GS) (H : Heap) (locs : List Loc) (ls : Array Slot), gH D cy q (gA q sz) s.heap G_1 H locs → lv_has ls 6 [(0, .ref (q 7)), (1, .int x1), (2, .int x2), (3, .int v3_1), (4, .int v4_1)] → I5_1 n_1 v3_1 v4_1 G_1 → W p l e (headSpec wsX7_melted rmX7_melted).room s m args below meth c H locs 0 0 (MQ below (va_Qi post (gPo D cy q sz) (gA q sz)) args s 0 0 (gA q sz)) (F0 m 5 ls []) := by
    intro n_1
    induction n_1 using Nat.strongRecOn with
    | ind n_1 ihI5_1 =>
      intro v3_1 v4_1 G_1 H locs ls hw hl h
      have h := hI5_1 n_1 v3_1 v4_1 G_1 h
      refine lv_iload hx hb dX7_melted_5 (lv_at hl 4 rfl) ?_
      refine lv_aload_n hx hb dX7_melted_7 rfl (lv_at hl 0 rfl) ?_
      refine g_get 7 5 (v := .int (G_1.1 7 5)) (C := RX7) (T := TX7) (N := 31) X hw (by decide) hinX7 rfl (by decide) (List.mem_cons_of_mem _ (List.mem_append_left _ (List.mem_of_getElem? (i := 0) rfl))) rfl dX7_melted_8 ?_
      refine lv_icmp_ge (tgt := 75) hx hb dX7_melted_11 (by decide) (fun c11_1 => ?_) (fun c11_1 => ?_)
      · have h := h.1 c11_1
        refine lv_iload_n hx hb dX7_melted_75 rfl (lv_at hl 3 rfl) ?_
        exact g_iret X hw hr hlk h dX7_melted_76
      · have h := h.2 c11_1
        refine lv_iconst (v := 0) hx hb dX7_melted_14 (by decide) ?_
        refine lv_istore (lv' := [(5, .int 0), (0, .ref (q 7)), (1, .int x1), (2, .int x2), (3, .int v3_1), (4, .int v4_1)]) hx hb dX7_melted_15 hl (by decide) rfl (fun ls hl => ?_)
        obtain ⟨I17_3, ⟨n_3, h0⟩, hI17_3⟩ := h
        have LI17_3 : ∀ (n_3 : Nat) (v3_3 : Int32) (v5_3 : Int32) (G_3 : GS) (H : Heap) (locs : List Loc) (ls : Array Slot), gH D cy q (gA q sz) s.heap G_3 H locs → lv_has ls 6 [(0, .ref (q 7)), (1, .int x1), (2, .int x2), (3, .int v3_3), (4, .int v4_1), (5, .int v5_3)] → I17_3 n_3 v3_3 v5_3 G_3 → W p l e (headSpec wsX7_melted rmX7_melted).room s m args below meth c H locs 0 0 (MQ below (va_Qi post (gPo D cy q sz) (gA q sz)) args s 0 0 (gA q sz)) (F0 m 17 ls []) := by
          intro n_3
          induction n_3 using Nat.strongRecOn with
          | ind n_3 ihI17_3 =>
            intro v3_3 v5_3 G_3 H locs ls hw hl h
            have h := hI17_3 n_3 v3_3 v5_3 G_3 h
            refine lv_iload hx hb dX7_melted_17 (lv_at hl 5 rfl) ?_
            refine lv_aload_n hx hb dX7_melted_19 rfl (lv_at hl 0 rfl) ?_
            refine g_get 7 5 (v := .int (G_3.1 7 5)) (C := RX7) (T := TX7) (N := 31) X hw (by decide) hinX7 rfl (by decide) (List.mem_cons_of_mem _ (List.mem_append_left _ (List.mem_of_getElem? (i := 0) rfl))) rfl dX7_melted_20 ?_
            refine lv_icmp_ge (tgt := 69) hx hb dX7_melted_23 (by decide) (fun c23_3 => ?_) (fun c23_3 => ?_)
            · have h := h.1 c23_3
              refine lv_iinc (v := v4_1 + 1) (lv' := [(4, .int (v4_1 + 1)), (0, .ref (q 7)), (1, .int x1), (2, .int x2), (3, .int v3_3), (5, .int v5_3)]) hx hb dX7_melted_69 hl (k := 4) rfl rfl (by decide) rfl (fun ls hl => ?_)
              refine lv_goto (tgt := 5) hx hb dX7_melted_72 (by decide) ?_
              obtain ⟨k_6, hm, h⟩ := h
              exact ihI5_1 k_6 hm v3_3 (v4_1 + 1) G_3 _ _ ls hw (lv_sub hl [1, 2, 3, 4, 0] rfl) h
            · have h := h.2 c23_3
              refine lv_aload_n hx hb dX7_melted_26 rfl (lv_at hl 0 rfl) ?_
              refine g_get 7 10 (v := .ref (q 26)) (C := RX7) (T := TX7) (N := 31) X hw (by decide) hinX7 rfl (by decide) (List.mem_cons_of_mem _ (List.mem_append_left _ (List.mem_of_getElem? (i := 1) rfl))) rfl dX7_melted_27 ?_
              refine lv_iload hx hb dX7_melted_30 (lv_at hl 4 rfl) ?_
              obtain ⟨j32_6, bj32_6, ej32_6, h⟩ := h
              refine g_iald 26 40 j32_6 X hw (Or.inr ⟨by decide, by decide⟩) rfl bj32_6 ej32_6 (by decide) dX7_melted_32 ?_
              refine lv_iload_n hx hb dX7_melted_33 rfl (lv_at hl 1 rfl) ?_
              refine lv_icmp_ne (tgt := 69) hx hb dX7_melted_34 (by decide) (fun c34_7 => ?_) (fun c34_7 => ?_)
              · have h := h.1 c34_7
                refine lv_iinc (v := v4_1 + 1) (lv' := [(4, .int (v4_1 + 1)), (0, .ref (q 7)), (1, .int x1), (2, .int x2), (3, .int v3_3), (5, .int v5_3)]) hx hb dX7_melted_69 hl (k := 4) rfl rfl (by decide) rfl (fun ls hl => ?_)
                refine lv_goto (tgt := 5) hx hb dX7_melted_72 (by decide) ?_
                obtain ⟨k_10, hm, h⟩ := h
                exact ihI5_1 k_10 hm v3_3 (v4_1 + 1) G_3 _ _ ls hw (lv_sub hl [1, 2, 3, 4, 0] rfl) h
              · have h := h.2 c34_7
                refine lv_iload_n hx hb dX7_melted_37 rfl (lv_at hl 3 rfl) ?_
                refine lv_aload_n hx hb dX7_melted_38 rfl (lv_at hl 0 rfl) ?_
                refine g_get 7 10 (v := .ref (q 26)) (C := RX7) (T := TX7) (N := 31) X hw (by decide) hinX7 rfl (by decide) (List.mem_cons_of_mem _ (List.mem_append_left _ (List.mem_of_getElem? (i := 1) rfl))) rfl dX7_melted_39 ?_
                refine lv_iload hx hb dX7_melted_42 (lv_at hl 5 rfl) ?_
                obtain ⟨j44_10, bj44_10, ej44_10, h⟩ := h
                refine g_iald 26 40 j44_10 X hw (Or.inr ⟨by decide, by decide⟩) rfl bj44_10 ej44_10 (by decide) dX7_melted_44 ?_
                refine lv_iload_n hx hb dX7_melted_45 rfl (lv_at hl 2 rfl) ?_
                refine lv_icmp_ne (tgt := 60) hx hb dX7_melted_46 (by decide) (fun c46_11 => ?_) (fun c46_11 => ?_)
                · have h := h.1 c46_11
                  refine lv_iconst (v := 0) hx hb dX7_melted_60 (by decide) ?_
                  refine lv_iadd hx hb dX7_melted_61 ?_
                  refine lv_topi (fun y_13 ey_13 => ?_)
                  have h := h y_13 ey_13
                  refine lv_istore_n (lv' := [(3, .int y_13), (0, .ref (q 7)), (1, .int x1), (2, .int x2), (4, .int v4_1), (5, .int v5_3)]) hx hb dX7_melted_62 rfl hl (by decide) rfl (fun ls hl => ?_)
                  refine lv_iinc (v := v5_3 + 1) (lv' := [(5, .int (v5_3 + 1)), (3, .int y_13), (0, .ref (q 7)), (1, .int x1), (2, .int x2), (4, .int v4_1)]) hx hb dX7_melted_63 hl (k := 5) rfl rfl (by decide) rfl (fun ls hl => ?_)
                  refine lv_goto (tgt := 17) hx hb dX7_melted_66 (by decide) ?_
                  obtain ⟨k_15, hm, h⟩ := h
                  exact ihI17_3 k_15 hm y_13 (v5_3 + 1) G_3 _ _ ls hw (lv_sub hl [2, 3, 4, 1, 5, 0] rfl) h
                · have h := h.2 c46_11
                  refine lv_aload_n hx hb dX7_melted_49 rfl (lv_at hl 0 rfl) ?_
                  refine lv_iload hx hb dX7_melted_50 (lv_at hl 4 rfl) ?_
                  refine lv_iload hx hb dX7_melted_52 (lv_at hl 5 rfl) ?_
                  refine g_callVi 7 (C := RX7) (T := TX7) (N := 31) (As := [.int v4_1, .int v5_3]) (rest := [.int v3_3]) X hw hA (m_X7_gain l D cy q G_3 v4_1 v5_3 _ h) (by decide) rfl (cwV 2 hts gX7_melted_X7_gain rfl rfl rfl (by decide +kernel) ⟨Nat.le_of_ble_eq_true rfl, Nat.le_of_ble_eq_true rfl⟩) rfl hl.1 rfl (Nat.le_of_ble_eq_true rfl) dX7_melted_54 ⟨Nat.zero_le _, Nat.zero_le _⟩ (fun r_17 G_16 H locs h hw => ?_)
                  refine lv_goto (tgt := 61) hx hb dX7_melted_57 (by decide) ?_
                  refine lv_iadd hx hb dX7_melted_61 ?_
                  refine lv_topi (fun y_18 ey_18 => ?_)
                  have h := h y_18 ey_18
                  refine lv_istore_n (lv' := [(3, .int y_18), (0, .ref (q 7)), (1, .int x1), (2, .int x2), (4, .int v4_1), (5, .int v5_3)]) hx hb dX7_melted_62 rfl hl (by decide) rfl (fun ls hl => ?_)
                  refine lv_iinc (v := v5_3 + 1) (lv' := [(5, .int (v5_3 + 1)), (3, .int y_18), (0, .ref (q 7)), (1, .int x1), (2, .int x2), (4, .int v4_1)]) hx hb dX7_melted_63 hl (k := 5) rfl rfl (by decide) rfl (fun ls hl => ?_)
                  refine lv_goto (tgt := 17) hx hb dX7_melted_66 (by decide) ?_
                  obtain ⟨k_20, hm, h⟩ := h
                  exact ihI17_3 k_20 hm y_18 (v5_3 + 1) G_16 _ _ ls hw (lv_sub hl [2, 3, 4, 1, 5, 0] rfl) h
        exact LI17_3 n_3 v3_1 0 G_1 _ _ ls hw (lv_sub hl [1, 2, 3, 4, 5, 0] rfl) h0
  exact LI5_1 n_1 0 0 G _ _ ls hw (lv_sub hl [2, 3, 4, 1, 0] rfl) h0

abbrev rmX7_findBest : Room := { frames := 3, cells := 0, slots := 0, locals := 72 }
def wp_X7_findBest (G : GS)  (post : GS → Prop) : Prop :=
  ∀ G_1 : GS, G_1 = sI G 7 22 0 → (∃ I7_2 : Nat → Int32 → GS → Prop, (∃ n_2 : Nat, I7_2 n_2 0 G_1) ∧ ∀ (n_2 : Nat) (v1_2 : Int32) (G_2 : GS), I7_2 n_2 v1_2 G_2 → (((G_2.1 7 5) ≤ v1_2 → (∃ I101_4 : Nat → Int32 → GS → Prop, (∃ n_4 : Nat, I101_4 n_4 0 G_2) ∧ ∀ (n_4 : Nat) (v1_4 : Int32) (G_4 : GS), I101_4 n_4 v1_4 G_4 → (((G_4.1 7 5) ≤ v1_4 → (post G_4)) ∧ (¬ ((G_4.1 7 5) ≤ v1_4) → (∀ y_6 : Int32, y_6 = v1_4 + 1 → (∃ I113_7 : Nat → Int32 → GS → Prop, (∃ n_7 : Nat, I113_7 n_7 y_6 G_4) ∧ ∀ (n_7 : Nat) (v2_7 : Int32) (G_7 : GS), I113_7 n_7 v2_7 G_7 → (((G_7.1 7 5) ≤ v2_7 → (∃ k_10 : Nat, k_10 < n_4 ∧ I101_4 k_10 (v1_4 + 1) G_7)) ∧ (¬ ((G_7.1 7 5) ≤ v2_7) → (∃ j126_10 : Nat, j126_10 < 40 ∧ v1_4 = nI j126_10 ∧ ((¬ (G_7.1 26 j126_10) = v1_4 → (∃ k_14 : Nat, k_14 < n_7 ∧ I113_7 k_14 (v2_7 + 1) G_7)) ∧ ((G_7.1 26 j126_10) = v1_4 → (∃ j136_14 : Nat, j136_14 < 40 ∧ v2_7 = nI j136_14 ∧ ((¬ (G_7.1 26 j136_14) = v2_7 → (∃ k_18 : Nat, k_18 < n_7 ∧ I113_7 k_18 (v2_7 + 1) G_7)) ∧ ((G_7.1 26 j136_14) = v2_7 → (wp_X7_melted G_7 v1_4 v2_7 (fun r_20 G_19 => wp_X7_asks G_19 r_20 v1_4 v2_7 1 (fun G_21 => ∃ k_24 : Nat, k_24 < n_7 ∧ I113_7 k_24 (v2_7 + 1) G_21))))))))))))))))) ∧ (¬ ((G_2.1 7 5) ≤ v1_2) → (∃ I17_25 : Nat → Int32 → GS → Prop, (∃ n_25 : Nat, I17_25 n_25 0 G_2) ∧ ∀ (n_25 : Nat) (v2_25 : Int32) (G_25 : GS), I17_25 n_25 v2_25 G_25 → (((G_25.1 7 5) ≤ v2_25 → (∃ j70_26 : Nat, j70_26 < 40 ∧ v1_2 = nI j70_26 ∧ (wp_X7_inHeap G_25 (G_25.1 26 j70_26) (fun r_29 G_28 => (r_29 ≤ 1 → (∃ k_32 : Nat, k_32 < n_2 ∧ I7_2 k_32 (v1_2 + 1) G_28)) ∧ (¬ (r_29 ≤ 1) → (wp_X7_moved G_28 v1_2 100 (fun r_34 G_33 => wp_X7_asks G_33 r_34 v1_2 100 0 (fun G_35 => ∃ k_38 : Nat, k_38 < n_2 ∧ I7_2 k_38 (v1_2 + 1) G_35)))))))) ∧ (¬ ((G_25.1 7 5) ≤ v2_25) → (∃ j30_38 : Nat, j30_38 < 40 ∧ v2_25 = nI j30_38 ∧ ((¬ (G_25.1 26 j30_38) = v2_25 → (∃ k_42 : Nat, k_42 < n_25 ∧ I17_25 k_42 (v2_25 + 1) G_25)) ∧ ((G_25.1 26 j30_38) = v2_25 → (∃ j41_42 : Nat, j41_42 < 40 ∧ v1_2 = nI j41_42 ∧ ((v2_25 = (G_25.1 26 j41_42) → (∃ k_46 : Nat, k_46 < n_25 ∧ I17_25 k_46 (v2_25 + 1) G_25)) ∧ (¬ (v2_25 = (G_25.1 26 j41_42)) → (wp_X7_moved G_25 v1_2 v2_25 (fun r_48 G_47 => wp_X7_asks G_47 r_48 v1_2 v2_25 0 (fun G_49 => ∃ k_52 : Nat, k_52 < n_25 ∧ I17_25 k_52 (v2_25 + 1) G_49)))))))))))))))
set_option maxHeartbeats 4000000 in
set_option maxRecDepth 100000 in
theorem m_X7_findBest (l : Launch) (D : va_G) (cy : Nat → ClassId) (q : Nat → Nat) (G : GS)  (post : GS → Prop) (h : wp_X7_findBest G  post) : gMv l yX7_findBest wsX7_findBest rmX7_findBest D cy q [.ref (q 7)] G post := by
  intro sz
  refine Met.ofW (cc := cX7_findBest) (maxL := 3) (ret := none) (by decide) rfl ?_
  intro p e s m args below meth c s₁ B hml hv
  obtain ⟨ha, hsz, X, hw, hA, hr, hlk⟩ := g_start B hml hv
  have hx := X.1.1
  have hb := X.1.2.1
  have hown := X.1.2.2.2.1
  have hts := X.1.2.2.2.2
  refine g_in ha (Nat.le_of_ble_eq_true rfl) (fun ls hl => ?_)
  have hl : lv_has ls 3 [(0, .ref (q 7))] := hl
  unfold wp_X7_findBest at h
  have hinX7 : ∀ w ∈ wsX70, w ∈ wsX7_findBest := fun _ h9 => (List.mem_cons_of_mem _ (List.mem_append_right _ h9))
  refine lv_aload_n hx hb dX7_findBest_0 rfl (lv_at hl 0 rfl) ?_
  refine lv_iconst (v := 0) hx hb dX7_findBest_1 (by decide) ?_
  refine g_put 7 22 (v := 0) (ty := .int) (C := RX7) (T := TX7) (N := 31) X hw (by decide) hinX7 tyX7_ok nmX7 rfl (by decide) (List.mem_cons_of_mem _ (List.mem_append_left _ (List.mem_append_left _ (List.mem_of_getElem? (i := 0) rfl)))) rfl (by decide +kernel) rfl rfl (Nat.le_of_ble_eq_true rfl) rfl dX7_findBest_2 (fun H locs hw => ?_)
  obtain ⟨G_1, eG_1⟩ : ∃ z, z = sI G 7 22 0 := ⟨_, rfl⟩
  rw [← eG_1] at hw
  have h := h G_1 eG_1
  refine lv_iconst (v := 0) hx hb dX7_findBest_5 (by decide) ?_
  refine lv_istore_n (lv' := [(1, .int 0), (0, .ref (q 7))]) hx hb dX7_findBest_6 rfl hl (by decide) rfl (fun ls hl => ?_)
  obtain ⟨I7_2, ⟨n_2, h0⟩, hI7_2⟩ := h
  have LI7_2 : ∀ (n_2 : Nat) (v1_2 : Int32) (G_2 : GS) (H : Heap) (locs : List Loc) (ls : Array Slot), gH D cy q (gA q sz) s.heap G_2 H locs → lv_has ls 3 [(0, .ref (q 7)), (1, .int v1_2)] → I7_2 n_2 v1_2 G_2 → W p l e (headSpec wsX7_findBest rmX7_findBest).room s m args below meth c H locs 0 0 (MQ below (va_Qv post (gPo D cy q sz) (gA q sz)) args s 0 0 (gA q sz)) (F0 m 7 ls []) := by
    intro n_2
    induction n_2 using Nat.strongRecOn with
    | ind n_2 ihI7_2 =>
      intro v1_2 G_2 H locs ls hw hl h
      have h := hI7_2 n_2 v1_2 G_2 h
      refine lv_iload_n hx hb dX7_findBest_7 rfl (lv_at hl 1 rfl) ?_
      refine lv_aload_n hx hb dX7_findBest_8 rfl (lv_at hl 0 rfl) ?_
      refine g_get 7 5 (v := .int (G_2.1 7 5)) (C := RX7) (T := TX7) (N := 31) X hw (by decide) hinX7 rfl (by decide) (List.mem_cons_of_mem _ (List.mem_append_left _ (List.mem_append_left _ (List.mem_of_getElem? (i := 1) rfl)))) rfl dX7_findBest_9 ?_
      refine lv_icmp_ge (tgt := 99) hx hb dX7_findBest_12 (by decide) (fun c12_2 => ?_) (fun c12_2 => ?_)
      · have h := h.1 c12_2
        refine lv_iconst (v := 0) hx hb dX7_findBest_99 (by decide) ?_
        refine lv_istore_n (lv' := [(1, .int 0), (0, .ref (q 7))]) hx hb dX7_findBest_100 rfl hl (by decide) rfl (fun ls hl => ?_)
        obtain ⟨I101_4, ⟨n_4, h0⟩, hI101_4⟩ := h
        have LI101_4 : ∀ (n_4 : Nat) (v1_4 : Int32) (G_4 : GS) (H : Heap) (locs : List Loc) (ls : Array Slot), gH D cy q (gA q sz) s.heap G_4 H locs → lv_has ls 3 [(0, .ref (q 7)), (1, .int v1_4)] → I101_4 n_4 v1_4 G_4 → W p l e (headSpec wsX7_findBest rmX7_findBest).room s m args below meth c H locs 0 0 (MQ below (va_Qv post (gPo D cy q sz) (gA q sz)) args s 0 0 (gA q sz)) (F0 m 101 ls []) := by
          intro n_4
          induction n_4 using Nat.strongRecOn with
          | ind n_4 ihI101_4 =>
            intro v1_4 G_4 H locs ls hw hl h
            have h := hI101_4 n_4 v1_4 G_4 h
            refine lv_iload_n hx hb dX7_findBest_101 rfl (lv_at hl 1 rfl) ?_
            refine lv_aload_n hx hb dX7_findBest_102 rfl (lv_at hl 0 rfl) ?_
            refine g_get 7 5 (v := .int (G_4.1 7 5)) (C := RX7) (T := TX7) (N := 31) X hw (by decide) hinX7 rfl (by decide) (List.mem_cons_of_mem _ (List.mem_append_left _ (List.mem_append_left _ (List.mem_of_getElem? (i := 1) rfl)))) rfl dX7_findBest_103 ?_
            refine lv_icmp_ge (tgt := 166) hx hb dX7_findBest_106 (by decide) (fun c106_4 => ?_) (fun c106_4 => ?_)
            · have h := h.1 c106_4
              exact g_vret X hw hr hlk h dX7_findBest_166
            · have h := h.2 c106_4
              refine lv_iload_n hx hb dX7_findBest_109 rfl (lv_at hl 1 rfl) ?_
              refine lv_iconst (v := 1) hx hb dX7_findBest_110 (by decide) ?_
              refine lv_iadd hx hb dX7_findBest_111 ?_
              refine lv_topi (fun y_6 ey_6 => ?_)
              have h := h y_6 ey_6
              refine lv_istore_n (lv' := [(2, .int y_6), (0, .ref (q 7)), (1, .int v1_4)]) hx hb dX7_findBest_112 rfl hl (by decide) rfl (fun ls hl => ?_)
              obtain ⟨I113_7, ⟨n_7, h0⟩, hI113_7⟩ := h
              have LI113_7 : ∀ (n_7 : Nat) (v2_7 : Int32) (G_7 : GS) (H : Heap) (locs : List Loc) (ls : Array Slot), gH D cy q (gA q sz) s.heap G_7 H locs → lv_has ls 3 [(0, .ref (q 7)), (1, .int v1_4), (2, .int v2_7)] → I113_7 n_7 v2_7 G_7 → W p l e (headSpec wsX7_findBest rmX7_findBest).room s m args below meth c H locs 0 0 (MQ below (va_Qv post (gPo D cy q sz) (gA q sz)) args s 0 0 (gA q sz)) (F0 m 113 ls []) := by
                intro n_7
                induction n_7 using Nat.strongRecOn with
                | ind n_7 ihI113_7 =>
                  intro v2_7 G_7 H locs ls hw hl h
                  have h := hI113_7 n_7 v2_7 G_7 h
                  refine lv_iload_n hx hb dX7_findBest_113 rfl (lv_at hl 2 rfl) ?_
                  refine lv_aload_n hx hb dX7_findBest_114 rfl (lv_at hl 0 rfl) ?_
                  refine g_get 7 5 (v := .int (G_7.1 7 5)) (C := RX7) (T := TX7) (N := 31) X hw (by decide) hinX7 rfl (by decide) (List.mem_cons_of_mem _ (List.mem_append_left _ (List.mem_append_left _ (List.mem_of_getElem? (i := 1) rfl)))) rfl dX7_findBest_115 ?_
                  refine lv_icmp_ge (tgt := 160) hx hb dX7_findBest_118 (by decide) (fun c118_7 => ?_) (fun c118_7 => ?_)
                  · have h := h.1 c118_7
                    refine lv_iinc (v := v1_4 + 1) (lv' := [(1, .int (v1_4 + 1)), (0, .ref (q 7)), (2, .int v2_7)]) hx hb dX7_findBest_160 hl (k := 1) rfl rfl (by decide) rfl (fun ls hl => ?_)
                    refine lv_goto (tgt := 101) hx hb dX7_findBest_163 (by decide) ?_
                    obtain ⟨k_10, hm, h⟩ := h
                    exact ihI101_4 k_10 hm (v1_4 + 1) G_7 _ _ ls hw (lv_sub hl [1, 0] rfl) h
                  · have h := h.2 c118_7
                    refine lv_aload_n hx hb dX7_findBest_121 rfl (lv_at hl 0 rfl) ?_
                    refine g_get 7 10 (v := .ref (q 26)) (C := RX7) (T := TX7) (N := 31) X hw (by decide) hinX7 rfl (by decide) (List.mem_cons_of_mem _ (List.mem_append_left _ (List.mem_append_left _ (List.mem_of_getElem? (i := 2) rfl)))) rfl dX7_findBest_122 ?_
                    refine lv_iload_n hx hb dX7_findBest_125 rfl (lv_at hl 1 rfl) ?_
                    obtain ⟨j126_10, bj126_10, ej126_10, h⟩ := h
                    refine g_iald 26 40 j126_10 X hw (Or.inr ⟨by decide, by decide⟩) rfl bj126_10 ej126_10 (by decide) dX7_findBest_126 ?_
                    refine lv_iload_n hx hb dX7_findBest_127 rfl (lv_at hl 1 rfl) ?_
                    refine lv_icmp_ne (tgt := 154) hx hb dX7_findBest_128 (by decide) (fun c128_11 => ?_) (fun c128_11 => ?_)
                    · have h := h.1 c128_11
                      refine lv_iinc (v := v2_7 + 1) (lv' := [(2, .int (v2_7 + 1)), (0, .ref (q 7)), (1, .int v1_4)]) hx hb dX7_findBest_154 hl (k := 2) rfl rfl (by decide) rfl (fun ls hl => ?_)
                      refine lv_goto (tgt := 113) hx hb dX7_findBest_157 (by decide) ?_
                      obtain ⟨k_14, hm, h⟩ := h
                      exact ihI113_7 k_14 hm (v2_7 + 1) G_7 _ _ ls hw (lv_sub hl [1, 2, 0] rfl) h
                    · have h := h.2 c128_11
                      refine lv_aload_n hx hb dX7_findBest_131 rfl (lv_at hl 0 rfl) ?_
                      refine g_get 7 10 (v := .ref (q 26)) (C := RX7) (T := TX7) (N := 31) X hw (by decide) hinX7 rfl (by decide) (List.mem_cons_of_mem _ (List.mem_append_left _ (List.mem_append_left _ (List.mem_of_getElem? (i := 2) rfl)))) rfl dX7_findBest_132 ?_
                      refine lv_iload_n hx hb dX7_findBest_135 rfl (lv_at hl 2 rfl) ?_
                      obtain ⟨j136_14, bj136_14, ej136_14, h⟩ := h
                      refine g_iald 26 40 j136_14 X hw (Or.inr ⟨by decide, by decide⟩) rfl bj136_14 ej136_14 (by decide) dX7_findBest_136 ?_
                      refine lv_iload_n hx hb dX7_findBest_137 rfl (lv_at hl 2 rfl) ?_
                      refine lv_icmp_ne (tgt := 154) hx hb dX7_findBest_138 (by decide) (fun c138_15 => ?_) (fun c138_15 => ?_)
                      · have h := h.1 c138_15
                        refine lv_iinc (v := v2_7 + 1) (lv' := [(2, .int (v2_7 + 1)), (0, .ref (q 7)), (1, .int v1_4)]) hx hb dX7_findBest_154 hl (k := 2) rfl rfl (by decide) rfl (fun ls hl => ?_)
                        refine lv_goto (tgt := 113) hx hb dX7_findBest_157 (by decide) ?_
                        obtain ⟨k_18, hm, h⟩ := h
                        exact ihI113_7 k_18 hm (v2_7 + 1) G_7 _ _ ls hw (lv_sub hl [1, 2, 0] rfl) h
                      · have h := h.2 c138_15
                        refine lv_aload_n hx hb dX7_findBest_141 rfl (lv_at hl 0 rfl) ?_
                        refine lv_aload_n hx hb dX7_findBest_142 rfl (lv_at hl 0 rfl) ?_
                        refine lv_iload_n hx hb dX7_findBest_143 rfl (lv_at hl 1 rfl) ?_
                        refine lv_iload_n hx hb dX7_findBest_144 rfl (lv_at hl 2 rfl) ?_
                        refine g_callVi 7 (C := RX7) (T := TX7) (N := 31) (As := [.int v1_4, .int v2_7]) (rest := [.ref (q 7)]) X hw hA (m_X7_melted l D cy q G_7 v1_4 v2_7 _ h) (by decide) rfl (cwV 2 hts gX7_findBest_X7_melted rfl rfl rfl (by decide +kernel) ⟨Nat.le_of_ble_eq_true rfl, Nat.le_of_ble_eq_true rfl⟩) rfl hl.1 rfl (Nat.le_of_ble_eq_true rfl) dX7_findBest_145 ⟨Nat.zero_le _, Nat.zero_le _⟩ (fun r_20 G_19 H locs h hw => ?_)
                        refine lv_iload_n hx hb dX7_findBest_148 rfl (lv_at hl 1 rfl) ?_
                        refine lv_iload_n hx hb dX7_findBest_149 rfl (lv_at hl 2 rfl) ?_
                        refine lv_iconst (v := 1) hx hb dX7_findBest_150 (by decide) ?_
                        refine g_callVv 7 (C := RX7) (T := TX7) (N := 31) (As := [.int r_20, .int v1_4, .int v2_7, .int 1]) (rest := []) X hw hA (m_X7_asks l D cy q G_19 r_20 v1_4 v2_7 1 _ h) (by decide) rfl (cwV 4 hts gX7_findBest_X7_asks rfl rfl rfl (by decide +kernel) ⟨Nat.le_of_ble_eq_true rfl, Nat.le_of_ble_eq_true rfl⟩) rfl hl.1 rfl (Nat.le_of_ble_eq_true rfl) dX7_findBest_151 ⟨Nat.zero_le _, Nat.zero_le _⟩ (fun G_21 H locs h hw => ?_)
                        refine lv_iinc (v := v2_7 + 1) (lv' := [(2, .int (v2_7 + 1)), (0, .ref (q 7)), (1, .int v1_4)]) hx hb dX7_findBest_154 hl (k := 2) rfl rfl (by decide) rfl (fun ls hl => ?_)
                        refine lv_goto (tgt := 113) hx hb dX7_findBest_157 (by decide) ?_
                        obtain ⟨k_24, hm, h⟩ := h
                        exact ihI113_7 k_24 hm (v2_7 + 1) G_21 _ _ ls hw (lv_sub hl [1, 2, 0] rfl) h
              exact LI113_7 n_7 y_6 G_4 _ _ ls hw (lv_sub hl [1, 2, 0] rfl) h0
        exact LI101_4 n_4 0 G_2 _ _ ls hw (lv_sub hl [1, 0] rfl) h0
      · have h := h.2 c12_2
        refine lv_iconst (v := 0) hx hb dX7_findBest_15 (by decide) ?_
        refine lv_istore_n (lv' := [(2, .int 0), (0, .ref (q 7)), (1, .int v1_2)]) hx hb dX7_findBest_16 rfl hl (by decide) rfl (fun ls hl => ?_)
        obtain ⟨I17_25, ⟨n_25, h0⟩, hI17_25⟩ := h
        have LI17_25 : ∀ (n_25 : Nat) (v2_25 : Int32) (G_25 : GS) (H : Heap) (locs : List Loc) (ls : Array Slot), gH D cy q (gA q sz) s.heap G_25 H locs → lv_has ls 3 [(0, .ref (q 7)), (1, .int v1_2), (2, .int v2_25)] → I17_25 n_25 v2_25 G_25 → W p l e (headSpec wsX7_findBest rmX7_findBest).room s m args below meth c H locs 0 0 (MQ below (va_Qv post (gPo D cy q sz) (gA q sz)) args s 0 0 (gA q sz)) (F0 m 17 ls []) := by
          intro n_25
          induction n_25 using Nat.strongRecOn with
          | ind n_25 ihI17_25 =>
            intro v2_25 G_25 H locs ls hw hl h
            have h := hI17_25 n_25 v2_25 G_25 h
            refine lv_iload_n hx hb dX7_findBest_17 rfl (lv_at hl 2 rfl) ?_
            refine lv_aload_n hx hb dX7_findBest_18 rfl (lv_at hl 0 rfl) ?_
            refine g_get 7 5 (v := .int (G_25.1 7 5)) (C := RX7) (T := TX7) (N := 31) X hw (by decide) hinX7 rfl (by decide) (List.mem_cons_of_mem _ (List.mem_append_left _ (List.mem_append_left _ (List.mem_of_getElem? (i := 1) rfl)))) rfl dX7_findBest_19 ?_
            refine lv_icmp_ge (tgt := 64) hx hb dX7_findBest_22 (by decide) (fun c22_25 => ?_) (fun c22_25 => ?_)
            · have h := h.1 c22_25
              refine lv_aload_n hx hb dX7_findBest_64 rfl (lv_at hl 0 rfl) ?_
              refine lv_aload_n hx hb dX7_findBest_65 rfl (lv_at hl 0 rfl) ?_
              refine g_get 7 10 (v := .ref (q 26)) (C := RX7) (T := TX7) (N := 31) X hw (by decide) hinX7 rfl (by decide) (List.mem_cons_of_mem _ (List.mem_append_left _ (List.mem_append_left _ (List.mem_of_getElem? (i := 2) rfl)))) rfl dX7_findBest_66 ?_
              refine lv_iload_n hx hb dX7_findBest_69 rfl (lv_at hl 1 rfl) ?_
              obtain ⟨j70_26, bj70_26, ej70_26, h⟩ := h
              refine g_iald 26 40 j70_26 X hw (Or.inr ⟨by decide, by decide⟩) rfl bj70_26 ej70_26 (by decide) dX7_findBest_70 ?_
              refine g_callVi 7 (C := RX7) (T := TX7) (N := 31) (As := [.int (G_25.1 26 j70_26)]) (rest := []) X hw hA (m_X7_inHeap l D cy q G_25 (G_25.1 26 j70_26) _ h) (by decide) rfl (cwV 1 hts gX7_findBest_X7_inHeap rfl rfl rfl (by decide +kernel) ⟨Nat.le_of_ble_eq_true rfl, Nat.le_of_ble_eq_true rfl⟩) rfl hl.1 rfl (Nat.le_of_ble_eq_true rfl) dX7_findBest_71 ⟨Nat.zero_le _, Nat.zero_le _⟩ (fun r_29 G_28 H locs h hw => ?_)
              refine lv_iconst (v := 1) hx hb dX7_findBest_74 (by decide) ?_
              refine lv_icmp_le (tgt := 93) hx hb dX7_findBest_75 (by decide) (fun c75_29 => ?_) (fun c75_29 => ?_)
              · have h := h.1 c75_29
                refine lv_iinc (v := v1_2 + 1) (lv' := [(1, .int (v1_2 + 1)), (0, .ref (q 7)), (2, .int v2_25)]) hx hb dX7_findBest_93 hl (k := 1) rfl rfl (by decide) rfl (fun ls hl => ?_)
                refine lv_goto (tgt := 7) hx hb dX7_findBest_96 (by decide) ?_
                obtain ⟨k_32, hm, h⟩ := h
                exact ihI7_2 k_32 hm (v1_2 + 1) G_28 _ _ ls hw (lv_sub hl [1, 0] rfl) h
              · have h := h.2 c75_29
                refine lv_aload_n hx hb dX7_findBest_78 rfl (lv_at hl 0 rfl) ?_
                refine lv_aload_n hx hb dX7_findBest_79 rfl (lv_at hl 0 rfl) ?_
                refine lv_iload_n hx hb dX7_findBest_80 rfl (lv_at hl 1 rfl) ?_
                refine lv_bipush (v := 100) hx hb dX7_findBest_81 (by decide) ?_
                refine g_callVi 7 (C := RX7) (T := TX7) (N := 31) (As := [.int v1_2, .int 100]) (rest := [.ref (q 7)]) X hw hA (m_X7_moved l D cy q G_28 v1_2 100 _ h) (by decide) rfl (cwV 2 hts gX7_findBest_X7_moved rfl rfl rfl (by decide +kernel) ⟨Nat.le_of_ble_eq_true rfl, Nat.le_of_ble_eq_true rfl⟩) rfl hl.1 rfl (Nat.le_of_ble_eq_true rfl) dX7_findBest_83 ⟨Nat.zero_le _, Nat.zero_le _⟩ (fun r_34 G_33 H locs h hw => ?_)
                refine lv_iload_n hx hb dX7_findBest_86 rfl (lv_at hl 1 rfl) ?_
                refine lv_bipush (v := 100) hx hb dX7_findBest_87 (by decide) ?_
                refine lv_iconst (v := 0) hx hb dX7_findBest_89 (by decide) ?_
                refine g_callVv 7 (C := RX7) (T := TX7) (N := 31) (As := [.int r_34, .int v1_2, .int 100, .int 0]) (rest := []) X hw hA (m_X7_asks l D cy q G_33 r_34 v1_2 100 0 _ h) (by decide) rfl (cwV 4 hts gX7_findBest_X7_asks rfl rfl rfl (by decide +kernel) ⟨Nat.le_of_ble_eq_true rfl, Nat.le_of_ble_eq_true rfl⟩) rfl hl.1 rfl (Nat.le_of_ble_eq_true rfl) dX7_findBest_90 ⟨Nat.zero_le _, Nat.zero_le _⟩ (fun G_35 H locs h hw => ?_)
                refine lv_iinc (v := v1_2 + 1) (lv' := [(1, .int (v1_2 + 1)), (0, .ref (q 7)), (2, .int v2_25)]) hx hb dX7_findBest_93 hl (k := 1) rfl rfl (by decide) rfl (fun ls hl => ?_)
                refine lv_goto (tgt := 7) hx hb dX7_findBest_96 (by decide) ?_
                obtain ⟨k_38, hm, h⟩ := h
                exact ihI7_2 k_38 hm (v1_2 + 1) G_35 _ _ ls hw (lv_sub hl [1, 0] rfl) h
            · have h := h.2 c22_25
              refine lv_aload_n hx hb dX7_findBest_25 rfl (lv_at hl 0 rfl) ?_
              refine g_get 7 10 (v := .ref (q 26)) (C := RX7) (T := TX7) (N := 31) X hw (by decide) hinX7 rfl (by decide) (List.mem_cons_of_mem _ (List.mem_append_left _ (List.mem_append_left _ (List.mem_of_getElem? (i := 2) rfl)))) rfl dX7_findBest_26 ?_
              refine lv_iload_n hx hb dX7_findBest_29 rfl (lv_at hl 2 rfl) ?_
              obtain ⟨j30_38, bj30_38, ej30_38, h⟩ := h
              refine g_iald 26 40 j30_38 X hw (Or.inr ⟨by decide, by decide⟩) rfl bj30_38 ej30_38 (by decide) dX7_findBest_30 ?_
              refine lv_iload_n hx hb dX7_findBest_31 rfl (lv_at hl 2 rfl) ?_
              refine lv_icmp_ne (tgt := 58) hx hb dX7_findBest_32 (by decide) (fun c32_39 => ?_) (fun c32_39 => ?_)
              · have h := h.1 c32_39
                refine lv_iinc (v := v2_25 + 1) (lv' := [(2, .int (v2_25 + 1)), (0, .ref (q 7)), (1, .int v1_2)]) hx hb dX7_findBest_58 hl (k := 2) rfl rfl (by decide) rfl (fun ls hl => ?_)
                refine lv_goto (tgt := 17) hx hb dX7_findBest_61 (by decide) ?_
                obtain ⟨k_42, hm, h⟩ := h
                exact ihI17_25 k_42 hm (v2_25 + 1) G_25 _ _ ls hw (lv_sub hl [1, 2, 0] rfl) h
              · have h := h.2 c32_39
                refine lv_iload_n hx hb dX7_findBest_35 rfl (lv_at hl 2 rfl) ?_
                refine lv_aload_n hx hb dX7_findBest_36 rfl (lv_at hl 0 rfl) ?_
                refine g_get 7 10 (v := .ref (q 26)) (C := RX7) (T := TX7) (N := 31) X hw (by decide) hinX7 rfl (by decide) (List.mem_cons_of_mem _ (List.mem_append_left _ (List.mem_append_left _ (List.mem_of_getElem? (i := 2) rfl)))) rfl dX7_findBest_37 ?_
                refine lv_iload_n hx hb dX7_findBest_40 rfl (lv_at hl 1 rfl) ?_
                obtain ⟨j41_42, bj41_42, ej41_42, h⟩ := h
                refine g_iald 26 40 j41_42 X hw (Or.inr ⟨by decide, by decide⟩) rfl bj41_42 ej41_42 (by decide) dX7_findBest_41 ?_
                refine lv_icmp_eq (tgt := 58) hx hb dX7_findBest_42 (by decide) (fun c42_43 => ?_) (fun c42_43 => ?_)
                · have h := h.1 c42_43
                  refine lv_iinc (v := v2_25 + 1) (lv' := [(2, .int (v2_25 + 1)), (0, .ref (q 7)), (1, .int v1_2)]) hx hb dX7_findBest_58 hl (k := 2) rfl rfl (by decide) rfl (fun ls hl => ?_)
                  refine lv_goto (tgt := 17) hx hb dX7_findBest_61 (by decide) ?_
                  obtain ⟨k_46, hm, h⟩ := h
                  exact ihI17_25 k_46 hm (v2_25 + 1) G_25 _ _ ls hw (lv_sub hl [1, 2, 0] rfl) h
                · have h := h.2 c42_43
                  refine lv_aload_n hx hb dX7_findBest_45 rfl (lv_at hl 0 rfl) ?_
                  refine lv_aload_n hx hb dX7_findBest_46 rfl (lv_at hl 0 rfl) ?_
                  refine lv_iload_n hx hb dX7_findBest_47 rfl (lv_at hl 1 rfl) ?_
                  refine lv_iload_n hx hb dX7_findBest_48 rfl (lv_at hl 2 rfl) ?_
                  refine g_callVi 7 (C := RX7) (T := TX7) (N := 31) (As := [.int v1_2, .int v2_25]) (rest := [.ref (q 7)]) X hw hA (m_X7_moved l D cy q G_25 v1_2 v2_25 _ h) (by decide) rfl (cwV 2 hts gX7_findBest_X7_moved rfl rfl rfl (by decide +kernel) ⟨Nat.le_of_ble_eq_true rfl, Nat.le_of_ble_eq_true rfl⟩) rfl hl.1 rfl (Nat.le_of_ble_eq_true rfl) dX7_findBest_49 ⟨Nat.zero_le _, Nat.zero_le _⟩ (fun r_48 G_47 H locs h hw => ?_)
                  refine lv_iload_n hx hb dX7_findBest_52 rfl (lv_at hl 1 rfl) ?_
                  refine lv_iload_n hx hb dX7_findBest_53 rfl (lv_at hl 2 rfl) ?_
                  refine lv_iconst (v := 0) hx hb dX7_findBest_54 (by decide) ?_
                  refine g_callVv 7 (C := RX7) (T := TX7) (N := 31) (As := [.int r_48, .int v1_2, .int v2_25, .int 0]) (rest := []) X hw hA (m_X7_asks l D cy q G_47 r_48 v1_2 v2_25 0 _ h) (by decide) rfl (cwV 4 hts gX7_findBest_X7_asks rfl rfl rfl (by decide +kernel) ⟨Nat.le_of_ble_eq_true rfl, Nat.le_of_ble_eq_true rfl⟩) rfl hl.1 rfl (Nat.le_of_ble_eq_true rfl) dX7_findBest_55 ⟨Nat.zero_le _, Nat.zero_le _⟩ (fun G_49 H locs h hw => ?_)
                  refine lv_iinc (v := v2_25 + 1) (lv' := [(2, .int (v2_25 + 1)), (0, .ref (q 7)), (1, .int v1_2)]) hx hb dX7_findBest_58 hl (k := 2) rfl rfl (by decide) rfl (fun ls hl => ?_)
                  refine lv_goto (tgt := 17) hx hb dX7_findBest_61 (by decide) ?_
                  obtain ⟨k_52, hm, h⟩ := h
                  exact ihI17_25 k_52 hm (v2_25 + 1) G_49 _ _ ls hw (lv_sub hl [1, 2, 0] rfl) h
        exact LI17_25 n_25 0 G_2 _ _ ls hw (lv_sub hl [1, 2, 0] rfl) h0
  exact LI7_2 n_2 0 G_1 _ _ ls hw (lv_sub hl [1, 0] rfl) h0

abbrev rmX7_names : Room := { frames := 0, cells := 0, slots := 0, locals := 0 }
def wp_X7_names (G : GS)  (post : GS → Prop) : Prop :=
  ∃ I2_1 : Nat → Int32 → GS → Prop, (∃ n_1 : Nat, I2_1 n_1 0 G) ∧ ∀ (n_1 : Nat) (v1_1 : Int32) (G_1 : GS), I2_1 n_1 v1_1 G_1 → (((G_1.1 7 5) ≤ v1_1 → (∃ I48_3 : Nat → Int32 → GS → Prop, (∃ n_3 : Nat, I48_3 n_3 0 G_1) ∧ ∀ (n_3 : Nat) (v1_3 : Int32) (G_3 : GS), I48_3 n_3 v1_3 G_3 → (((G_3.1 7 5) ≤ v1_3 → (post G_3)) ∧ (¬ ((G_3.1 7 5) ≤ v1_3) → (∃ j66_4 : Nat, j66_4 < 40 ∧ v1_3 = nI j66_4 ∧ (∃ j67_5 : Nat, j67_5 < 40 ∧ v1_3 = nI j67_5 ∧ (∀ G_7 : GS, G_7 = sI G_3 26 j67_5 (G_3.1 32 j66_4) → (∃ k_9 : Nat, k_9 < n_3 ∧ I48_3 k_9 (v1_3 + 1) G_7)))))))) ∧ (¬ ((G_1.1 7 5) ≤ v1_1) → (∃ I12_10 : Nat → Int32 → Prop, (∃ n_10 : Nat, I12_10 n_10 0) ∧ ∀ (n_10 : Nat) (v2_10 : Int32), I12_10 n_10 v2_10 → (∃ j17_10 : Nat, j17_10 < 40 ∧ v2_10 = nI j17_10 ∧ (∃ j23_11 : Nat, j23_11 < 40 ∧ v1_1 = nI j23_11 ∧ (((G_1.1 26 j17_10) = (G_1.1 26 j23_11) → (∃ j39_13 : Nat, j39_13 < 40 ∧ v1_1 = nI j39_13 ∧ (∀ G_15 : GS, G_15 = sI G_1 32 j39_13 v2_10 → (∃ k_17 : Nat, k_17 < n_1 ∧ I2_1 k_17 (v1_1 + 1) G_15)))) ∧ (¬ ((G_1.1 26 j17_10) = (G_1.1 26 j23_11)) → (∃ k_19 : Nat, k_19 < n_10 ∧ I12_10 k_19 (v2_10 + 1)))))))))
set_option maxHeartbeats 4000000 in
set_option maxRecDepth 100000 in
theorem m_X7_names (l : Launch) (D : va_G) (cy : Nat → ClassId) (q : Nat → Nat) (G : GS)  (post : GS → Prop) (h : wp_X7_names G  post) : gMv l yX7_names wsX7_names rmX7_names D cy q [.ref (q 7)] G post := by
  intro sz
  refine Met.ofW (cc := cX7_names) (maxL := 3) (ret := none) (by decide) rfl ?_
  intro p e s m args below meth c s₁ B hml hv
  obtain ⟨ha, hsz, X, hw, hA, hr, hlk⟩ := g_start B hml hv
  have hx := X.1.1
  have hb := X.1.2.1
  have hown := X.1.2.2.2.1
  have hts := X.1.2.2.2.2
  refine g_in ha (Nat.le_of_ble_eq_true rfl) (fun ls hl => ?_)
  have hl : lv_has ls 3 [(0, .ref (q 7))] := hl
  unfold wp_X7_names at h
  have hinX7 : ∀ w ∈ wsX70, w ∈ wsX7_names := fun _ h9 => (List.mem_cons_of_mem _ (List.mem_append_right _ h9))
  refine lv_iconst (v := 0) hx hb dX7_names_0 (by decide) ?_
  refine lv_istore_n (lv' := [(1, .int 0), (0, .ref (q 7))]) hx hb dX7_names_1 rfl hl (by decide) rfl (fun ls hl => ?_)
  obtain ⟨I2_1, ⟨n_1, h0⟩, hI2_1⟩ := h
  have LI2_1 : ∀ (n_1 : Nat) (v1_1 : Int32) (G_1 : GS) (H : Heap) (locs : List Loc) (ls : Array Slot), gH D cy q (gA q sz) s.heap G_1 H locs → lv_has ls 3 [(0, .ref (q 7)), (1, .int v1_1)] → I2_1 n_1 v1_1 G_1 → W p l e (headSpec wsX7_names rmX7_names).room s m args below meth c H locs 0 0 (MQ below (va_Qv post (gPo D cy q sz) (gA q sz)) args s 0 0 (gA q sz)) (F0 m 2 ls []) := by
    intro n_1
    induction n_1 using Nat.strongRecOn with
    | ind n_1 ihI2_1 =>
      intro v1_1 G_1 H locs ls hw hl h
      have h := hI2_1 n_1 v1_1 G_1 h
      refine lv_iload_n hx hb dX7_names_2 rfl (lv_at hl 1 rfl) ?_
      refine lv_aload_n hx hb dX7_names_3 rfl (lv_at hl 0 rfl) ?_
      refine g_get 7 5 (v := .int (G_1.1 7 5)) (C := RX7) (T := TX7) (N := 31) X hw (by decide) hinX7 rfl (by decide) (List.mem_cons_of_mem _ (List.mem_append_left _ (List.mem_of_getElem? (i := 0) rfl))) rfl dX7_names_4 ?_
      refine lv_icmp_ge (tgt := 46) hx hb dX7_names_7 (by decide) (fun c7_1 => ?_) (fun c7_1 => ?_)
      · have h := h.1 c7_1
        refine lv_iconst (v := 0) hx hb dX7_names_46 (by decide) ?_
        refine lv_istore_n (lv' := [(1, .int 0), (0, .ref (q 7))]) hx hb dX7_names_47 rfl hl (by decide) rfl (fun ls hl => ?_)
        obtain ⟨I48_3, ⟨n_3, h0⟩, hI48_3⟩ := h
        have LI48_3 : ∀ (n_3 : Nat) (v1_3 : Int32) (G_3 : GS) (H : Heap) (locs : List Loc) (ls : Array Slot), gH D cy q (gA q sz) s.heap G_3 H locs → lv_has ls 3 [(0, .ref (q 7)), (1, .int v1_3)] → I48_3 n_3 v1_3 G_3 → W p l e (headSpec wsX7_names rmX7_names).room s m args below meth c H locs 0 0 (MQ below (va_Qv post (gPo D cy q sz) (gA q sz)) args s 0 0 (gA q sz)) (F0 m 48 ls []) := by
          intro n_3
          induction n_3 using Nat.strongRecOn with
          | ind n_3 ihI48_3 =>
            intro v1_3 G_3 H locs ls hw hl h
            have h := hI48_3 n_3 v1_3 G_3 h
            refine lv_iload_n hx hb dX7_names_48 rfl (lv_at hl 1 rfl) ?_
            refine lv_aload_n hx hb dX7_names_49 rfl (lv_at hl 0 rfl) ?_
            refine g_get 7 5 (v := .int (G_3.1 7 5)) (C := RX7) (T := TX7) (N := 31) X hw (by decide) hinX7 rfl (by decide) (List.mem_cons_of_mem _ (List.mem_append_left _ (List.mem_of_getElem? (i := 0) rfl))) rfl dX7_names_50 ?_
            refine lv_icmp_ge (tgt := 74) hx hb dX7_names_53 (by decide) (fun c53_3 => ?_) (fun c53_3 => ?_)
            · have h := h.1 c53_3
              exact g_vret X hw hr hlk h dX7_names_74
            · have h := h.2 c53_3
              refine lv_aload_n hx hb dX7_names_56 rfl (lv_at hl 0 rfl) ?_
              refine g_get 7 10 (v := .ref (q 26)) (C := RX7) (T := TX7) (N := 31) X hw (by decide) hinX7 rfl (by decide) (List.mem_cons_of_mem _ (List.mem_append_left _ (List.mem_of_getElem? (i := 1) rfl))) rfl dX7_names_57 ?_
              refine lv_iload_n hx hb dX7_names_60 rfl (lv_at hl 1 rfl) ?_
              refine lv_aload_n hx hb dX7_names_61 rfl (lv_at hl 0 rfl) ?_
              refine g_get 7 21 (v := .ref (q 32)) (C := RX7) (T := TX7) (N := 31) X hw (by decide) hinX7 rfl (by decide) (List.mem_cons_of_mem _ (List.mem_append_left _ (List.mem_of_getElem? (i := 2) rfl))) rfl dX7_names_62 ?_
              refine lv_iload_n hx hb dX7_names_65 rfl (lv_at hl 1 rfl) ?_
              obtain ⟨j66_4, bj66_4, ej66_4, h⟩ := h
              refine g_iald 32 40 j66_4 X hw (Or.inr ⟨by decide, by decide⟩) rfl bj66_4 ej66_4 (by decide) dX7_names_66 ?_
              obtain ⟨j67_5, bj67_5, ej67_5, h⟩ := h
              refine g_iast 26 40 j67_5 X hw (Or.inr ⟨by decide, by decide⟩) rfl bj67_5 ej67_5 (by decide) dX7_names_67 (fun H locs hw => ?_)
              obtain ⟨G_7, eG_7⟩ : ∃ z, z = sI G_3 26 j67_5 (G_3.1 32 j66_4) := ⟨_, rfl⟩
              rw [← eG_7] at hw
              have h := h G_7 eG_7
              refine lv_iinc (v := v1_3 + 1) (lv' := [(1, .int (v1_3 + 1)), (0, .ref (q 7))]) hx hb dX7_names_68 hl (k := 1) rfl rfl (by decide) rfl (fun ls hl => ?_)
              refine lv_goto (tgt := 48) hx hb dX7_names_71 (by decide) ?_
              obtain ⟨k_9, hm, h⟩ := h
              exact ihI48_3 k_9 hm (v1_3 + 1) G_7 _ _ ls hw (lv_sub hl [1, 0] rfl) h
        exact LI48_3 n_3 0 G_1 _ _ ls hw (lv_sub hl [1, 0] rfl) h0
      · have h := h.2 c7_1
        refine lv_iconst (v := 0) hx hb dX7_names_10 (by decide) ?_
        refine lv_istore_n (lv' := [(2, .int 0), (0, .ref (q 7)), (1, .int v1_1)]) hx hb dX7_names_11 rfl hl (by decide) rfl (fun ls hl => ?_)
        obtain ⟨I12_10, ⟨n_10, h0⟩, hI12_10⟩ := h
        have LI12_10 : ∀ (n_10 : Nat) (v2_10 : Int32) (H : Heap) (locs : List Loc) (ls : Array Slot), gH D cy q (gA q sz) s.heap G_1 H locs → lv_has ls 3 [(0, .ref (q 7)), (1, .int v1_1), (2, .int v2_10)] → I12_10 n_10 v2_10 → W p l e (headSpec wsX7_names rmX7_names).room s m args below meth c H locs 0 0 (MQ below (va_Qv post (gPo D cy q sz) (gA q sz)) args s 0 0 (gA q sz)) (F0 m 12 ls []) := by
          intro n_10
          induction n_10 using Nat.strongRecOn with
          | ind n_10 ihI12_10 =>
            intro v2_10 H locs ls hw hl h
            have h := hI12_10 n_10 v2_10 h
            refine lv_aload_n hx hb dX7_names_12 rfl (lv_at hl 0 rfl) ?_
            refine g_get 7 10 (v := .ref (q 26)) (C := RX7) (T := TX7) (N := 31) X hw (by decide) hinX7 rfl (by decide) (List.mem_cons_of_mem _ (List.mem_append_left _ (List.mem_of_getElem? (i := 1) rfl))) rfl dX7_names_13 ?_
            refine lv_iload_n hx hb dX7_names_16 rfl (lv_at hl 2 rfl) ?_
            obtain ⟨j17_10, bj17_10, ej17_10, h⟩ := h
            refine g_iald 26 40 j17_10 X hw (Or.inr ⟨by decide, by decide⟩) rfl bj17_10 ej17_10 (by decide) dX7_names_17 ?_
            refine lv_aload_n hx hb dX7_names_18 rfl (lv_at hl 0 rfl) ?_
            refine g_get 7 10 (v := .ref (q 26)) (C := RX7) (T := TX7) (N := 31) X hw (by decide) hinX7 rfl (by decide) (List.mem_cons_of_mem _ (List.mem_append_left _ (List.mem_of_getElem? (i := 1) rfl))) rfl dX7_names_19 ?_
            refine lv_iload_n hx hb dX7_names_22 rfl (lv_at hl 1 rfl) ?_
            obtain ⟨j23_11, bj23_11, ej23_11, h⟩ := h
            refine g_iald 26 40 j23_11 X hw (Or.inr ⟨by decide, by decide⟩) rfl bj23_11 ej23_11 (by decide) dX7_names_23 ?_
            refine lv_icmp_eq (tgt := 33) hx hb dX7_names_24 (by decide) (fun c24_12 => ?_) (fun c24_12 => ?_)
            · have h := h.1 c24_12
              refine lv_aload_n hx hb dX7_names_33 rfl (lv_at hl 0 rfl) ?_
              refine g_get 7 21 (v := .ref (q 32)) (C := RX7) (T := TX7) (N := 31) X hw (by decide) hinX7 rfl (by decide) (List.mem_cons_of_mem _ (List.mem_append_left _ (List.mem_of_getElem? (i := 2) rfl))) rfl dX7_names_34 ?_
              refine lv_iload_n hx hb dX7_names_37 rfl (lv_at hl 1 rfl) ?_
              refine lv_iload_n hx hb dX7_names_38 rfl (lv_at hl 2 rfl) ?_
              obtain ⟨j39_13, bj39_13, ej39_13, h⟩ := h
              refine g_iast 32 40 j39_13 X hw (Or.inr ⟨by decide, by decide⟩) rfl bj39_13 ej39_13 (by decide) dX7_names_39 (fun H locs hw => ?_)
              obtain ⟨G_15, eG_15⟩ : ∃ z, z = sI G_1 32 j39_13 v2_10 := ⟨_, rfl⟩
              rw [← eG_15] at hw
              have h := h G_15 eG_15
              refine lv_iinc (v := v1_1 + 1) (lv' := [(1, .int (v1_1 + 1)), (0, .ref (q 7)), (2, .int v2_10)]) hx hb dX7_names_40 hl (k := 1) rfl rfl (by decide) rfl (fun ls hl => ?_)
              refine lv_goto (tgt := 2) hx hb dX7_names_43 (by decide) ?_
              obtain ⟨k_17, hm, h⟩ := h
              exact ihI2_1 k_17 hm (v1_1 + 1) G_15 _ _ ls hw (lv_sub hl [1, 0] rfl) h
            · have h := h.2 c24_12
              refine lv_iinc (v := v2_10 + 1) (lv' := [(2, .int (v2_10 + 1)), (0, .ref (q 7)), (1, .int v1_1)]) hx hb dX7_names_27 hl (k := 2) rfl rfl (by decide) rfl (fun ls hl => ?_)
              refine lv_goto (tgt := 12) hx hb dX7_names_30 (by decide) ?_
              obtain ⟨k_19, hm, h⟩ := h
              exact ihI12_10 k_19 hm (v2_10 + 1) _ _ ls hw (lv_sub hl [1, 2, 0] rfl) h
        exact LI12_10 n_10 0 _ _ ls hw (lv_sub hl [1, 2, 0] rfl) h0
  exact LI2_1 n_1 0 G _ _ ls hw (lv_sub hl [1, 0] rfl) h0

abbrev rmX7_settles : Room := { frames := 4, cells := 0, slots := 0, locals := 94 }
def wp_X7_settles (G : GS)  (post : GS → Prop) : Prop :=
  wp_X7_findDistances G (fun G_1 => wp_X7_findBest G_1 (fun G_3 => ∃ I8_5 : Nat → GS → Prop, (∃ n_5 : Nat, I8_5 n_5 G_3) ∧ ∀ (n_5 : Nat) (G_5 : GS), I8_5 n_5 G_5 → ((0 ≤ (G_5.1 7 22) → (post G_5)) ∧ (¬ (0 ≤ (G_5.1 7 22)) → (∃ I17_7 : Nat → Int32 → GS → Prop, (∃ n_7 : Nat, I17_7 n_7 0 G_5) ∧ ∀ (n_7 : Nat) (v1_7 : Int32) (G_7 : GS), I17_7 n_7 v1_7 G_7 → (((G_7.1 7 5) ≤ v1_7 → (wp_X7_names G_7 (fun G_9 => ∀ G_11 : GS, G_11 = sI G_9 7 20 ((G_9.1 7 20) + 1) → (wp_X7_findBest G_11 (fun G_12 => ∃ k_14 : Nat, k_14 < n_5 ∧ I8_5 k_14 G_12))))) ∧ (¬ ((G_7.1 7 5) ≤ v1_7) → (((G_7.1 7 25) = 0 → ((¬ v1_7 = (G_7.1 7 23) → (∃ k_18 : Nat, k_18 < n_7 ∧ I17_7 k_18 (v1_7 + 1) G_7)) ∧ (v1_7 = (G_7.1 7 23) → (((G_7.1 7 25) = 0 → (∃ j79_19 : Nat, j79_19 < 40 ∧ v1_7 = nI j79_19 ∧ (∀ G_21 : GS, G_21 = sI G_7 26 j79_19 (G_7.1 7 24) → (∃ k_23 : Nat, k_23 < n_7 ∧ I17_7 k_23 (v1_7 + 1) G_21)))) ∧ (¬ ((G_7.1 7 25) = 0) → (∃ j79_23 : Nat, j79_23 < 40 ∧ v1_7 = nI j79_23 ∧ (∀ G_25 : GS, G_25 = sI G_7 26 j79_23 (G_7.1 7 23) → (∃ k_27 : Nat, k_27 < n_7 ∧ I17_7 k_27 (v1_7 + 1) G_25)))))))) ∧ (¬ ((G_7.1 7 25) = 0) → (∃ j37_27 : Nat, j37_27 < 40 ∧ v1_7 = nI j37_27 ∧ ((¬ (G_7.1 26 j37_27) = (G_7.1 7 24) → (∃ k_31 : Nat, k_31 < n_7 ∧ I17_7 k_31 (v1_7 + 1) G_7)) ∧ ((G_7.1 26 j37_27) = (G_7.1 7 24) → (((G_7.1 7 25) = 0 → (∃ j79_32 : Nat, j79_32 < 40 ∧ v1_7 = nI j79_32 ∧ (∀ G_34 : GS, G_34 = sI G_7 26 j79_32 (G_7.1 7 24) → (∃ k_36 : Nat, k_36 < n_7 ∧ I17_7 k_36 (v1_7 + 1) G_34)))) ∧ (¬ ((G_7.1 7 25) = 0) → (∃ j79_36 : Nat, j79_36 < 40 ∧ v1_7 = nI j79_36 ∧ (∀ G_38 : GS, G_38 = sI G_7 26 j79_36 (G_7.1 7 23) → (∃ k_40 : Nat, k_40 < n_7 ∧ I17_7 k_40 (v1_7 + 1) G_38)))))))))))))))))
set_option maxHeartbeats 4000000 in
set_option maxRecDepth 100000 in
theorem m_X7_settles (l : Launch) (D : va_G) (cy : Nat → ClassId) (q : Nat → Nat) (G : GS)  (post : GS → Prop) (h : wp_X7_settles G  post) : gMv l yX7_settles wsX7_settles rmX7_settles D cy q [.ref (q 7)] G post := by
  intro sz
  refine Met.ofW (cc := cX7_settles) (maxL := 2) (ret := none) (by decide) rfl ?_
  intro p e s m args below meth c s₁ B hml hv
  obtain ⟨ha, hsz, X, hw, hA, hr, hlk⟩ := g_start B hml hv
  have hx := X.1.1
  have hb := X.1.2.1
  have hown := X.1.2.2.2.1
  have hts := X.1.2.2.2.2
  refine g_in ha (Nat.le_of_ble_eq_true rfl) (fun ls hl => ?_)
  have hl : lv_has ls 2 [(0, .ref (q 7))] := hl
  unfold wp_X7_settles at h
  have hinX7 : ∀ w ∈ wsX70, w ∈ wsX7_settles := fun _ h9 => (List.mem_cons_of_mem _ (List.mem_append_right _ h9))
  refine lv_aload_n hx hb dX7_settles_0 rfl (lv_at hl 0 rfl) ?_
  refine g_callVv 7 (C := RX7) (T := TX7) (N := 31) (As := []) (rest := []) X hw hA (m_X7_findDistances l D cy q G _ h) (by decide) rfl (cwV 0 hts gX7_settles_X7_findDistances rfl rfl rfl (by decide +kernel) ⟨Nat.le_of_ble_eq_true rfl, Nat.le_of_ble_eq_true rfl⟩) rfl hl.1 rfl (Nat.le_of_ble_eq_true rfl) dX7_settles_1 ⟨Nat.zero_le _, Nat.zero_le _⟩ (fun G_1 H locs h hw => ?_)
  refine lv_aload_n hx hb dX7_settles_4 rfl (lv_at hl 0 rfl) ?_
  refine g_callVv 7 (C := RX7) (T := TX7) (N := 31) (As := []) (rest := []) X hw hA (m_X7_findBest l D cy q G_1 _ h) (by decide) rfl (cwV 0 hts gX7_settles_X7_findBest rfl rfl rfl (by decide +kernel) ⟨Nat.le_of_ble_eq_true rfl, Nat.le_of_ble_eq_true rfl⟩) rfl hl.1 rfl (Nat.le_of_ble_eq_true rfl) dX7_settles_5 ⟨Nat.zero_le _, Nat.zero_le _⟩ (fun G_3 H locs h hw => ?_)
  obtain ⟨I8_5, ⟨n_5, h0⟩, hI8_5⟩ := h
  have LI8_5 : ∀ (n_5 : Nat) (G_5 : GS) (H : Heap) (locs : List Loc) (ls : Array Slot), gH D cy q (gA q sz) s.heap G_5 H locs → lv_has ls 2 [(0, .ref (q 7))] → I8_5 n_5 G_5 → W p l e (headSpec wsX7_settles rmX7_settles).room s m args below meth c H locs 0 0 (MQ below (va_Qv post (gPo D cy q sz) (gA q sz)) args s 0 0 (gA q sz)) (F0 m 8 ls []) := by
    intro n_5
    induction n_5 using Nat.strongRecOn with
    | ind n_5 ihI8_5 =>
      intro G_5 H locs ls hw hl h
      have h := hI8_5 n_5 G_5 h
      refine lv_aload_n hx hb dX7_settles_8 rfl (lv_at hl 0 rfl) ?_
      refine g_get 7 22 (v := .int (G_5.1 7 22)) (C := RX7) (T := TX7) (N := 31) X hw (by decide) hinX7 rfl (by decide) (List.mem_cons_of_mem _ (List.mem_append_left _ (List.mem_append_left _ (List.mem_of_getElem? (i := 0) rfl)))) rfl dX7_settles_9 ?_
      refine lv_if_ge (tgt := 107) hx hb dX7_settles_12 (by decide) (fun c12_5 => ?_) (fun c12_5 => ?_)
      · have h := h.1 c12_5
        exact g_vret X hw hr hlk h dX7_settles_107
      · have h := h.2 c12_5
        refine lv_iconst (v := 0) hx hb dX7_settles_15 (by decide) ?_
        refine lv_istore_n (lv' := [(1, .int 0), (0, .ref (q 7))]) hx hb dX7_settles_16 rfl hl (by decide) rfl (fun ls hl => ?_)
        obtain ⟨I17_7, ⟨n_7, h0⟩, hI17_7⟩ := h
        have LI17_7 : ∀ (n_7 : Nat) (v1_7 : Int32) (G_7 : GS) (H : Heap) (locs : List Loc) (ls : Array Slot), gH D cy q (gA q sz) s.heap G_7 H locs → lv_has ls 2 [(0, .ref (q 7)), (1, .int v1_7)] → I17_7 n_7 v1_7 G_7 → W p l e (headSpec wsX7_settles rmX7_settles).room s m args below meth c H locs 0 0 (MQ below (va_Qv post (gPo D cy q sz) (gA q sz)) args s 0 0 (gA q sz)) (F0 m 17 ls []) := by
          intro n_7
          induction n_7 using Nat.strongRecOn with
          | ind n_7 ihI17_7 =>
            intro v1_7 G_7 H locs ls hw hl h
            have h := hI17_7 n_7 v1_7 G_7 h
            refine lv_iload_n hx hb dX7_settles_17 rfl (lv_at hl 1 rfl) ?_
            refine lv_aload_n hx hb dX7_settles_18 rfl (lv_at hl 0 rfl) ?_
            refine g_get 7 5 (v := .int (G_7.1 7 5)) (C := RX7) (T := TX7) (N := 31) X hw (by decide) hinX7 rfl (by decide) (List.mem_cons_of_mem _ (List.mem_append_left _ (List.mem_append_left _ (List.mem_of_getElem? (i := 1) rfl)))) rfl dX7_settles_19 ?_
            refine lv_icmp_ge (tgt := 86) hx hb dX7_settles_22 (by decide) (fun c22_7 => ?_) (fun c22_7 => ?_)
            · have h := h.1 c22_7
              refine lv_aload_n hx hb dX7_settles_86 rfl (lv_at hl 0 rfl) ?_
              refine g_callVv 7 (C := RX7) (T := TX7) (N := 31) (As := []) (rest := []) X hw hA (m_X7_names l D cy q G_7 _ h) (by decide) rfl (cwV 0 hts gX7_settles_X7_names rfl rfl rfl (by decide +kernel) ⟨Nat.le_of_ble_eq_true rfl, Nat.le_of_ble_eq_true rfl⟩) rfl hl.1 rfl (Nat.le_of_ble_eq_true rfl) dX7_settles_87 ⟨Nat.zero_le _, Nat.zero_le _⟩ (fun G_9 H locs h hw => ?_)
              refine lv_aload_n hx hb dX7_settles_90 rfl (lv_at hl 0 rfl) ?_
              refine lv_dup hx hb dX7_settles_91 rfl ?_
              refine g_get 7 20 (v := .int (G_9.1 7 20)) (C := RX7) (T := TX7) (N := 31) X hw (by decide) hinX7 rfl (by decide) (List.mem_cons_of_mem _ (List.mem_append_left _ (List.mem_append_left _ (List.mem_of_getElem? (i := 6) rfl)))) rfl dX7_settles_92 ?_
              refine lv_iconst (v := 1) hx hb dX7_settles_95 (by decide) ?_
              refine lv_iadd hx hb dX7_settles_96 ?_
              refine g_put 7 20 (v := (G_9.1 7 20) + 1) (ty := .int) (C := RX7) (T := TX7) (N := 31) X hw (by decide) hinX7 tyX7_ok nmX7 rfl (by decide) (List.mem_cons_of_mem _ (List.mem_append_left _ (List.mem_append_left _ (List.mem_of_getElem? (i := 6) rfl)))) rfl (by decide +kernel) rfl rfl (Nat.le_of_ble_eq_true rfl) rfl dX7_settles_97 (fun H locs hw => ?_)
              obtain ⟨G_11, eG_11⟩ : ∃ z, z = sI G_9 7 20 ((G_9.1 7 20) + 1) := ⟨_, rfl⟩
              rw [← eG_11] at hw
              have h := h G_11 eG_11
              refine lv_aload_n hx hb dX7_settles_100 rfl (lv_at hl 0 rfl) ?_
              refine g_callVv 7 (C := RX7) (T := TX7) (N := 31) (As := []) (rest := []) X hw hA (m_X7_findBest l D cy q G_11 _ h) (by decide) rfl (cwV 0 hts gX7_settles_X7_findBest rfl rfl rfl (by decide +kernel) ⟨Nat.le_of_ble_eq_true rfl, Nat.le_of_ble_eq_true rfl⟩) rfl hl.1 rfl (Nat.le_of_ble_eq_true rfl) dX7_settles_101 ⟨Nat.zero_le _, Nat.zero_le _⟩ (fun G_12 H locs h hw => ?_)
              refine lv_goto (tgt := 8) hx hb dX7_settles_104 (by decide) ?_
              obtain ⟨k_14, hm, h⟩ := h
              exact ihI8_5 k_14 hm G_12 _ _ ls hw (lv_sub hl [0] rfl) h
            · have h := h.2 c22_7
              refine lv_aload_n hx hb dX7_settles_25 rfl (lv_at hl 0 rfl) ?_
              refine g_get 7 25 (v := .int (G_7.1 7 25)) (C := RX7) (T := TX7) (N := 31) X hw (by decide) hinX7 rfl (by decide) (List.mem_cons_of_mem _ (List.mem_append_left _ (List.mem_append_left _ (List.mem_of_getElem? (i := 2) rfl)))) rfl dX7_settles_26 ?_
              refine lv_if_eq (tgt := 48) hx hb dX7_settles_29 (by decide) (fun c29_14 => ?_) (fun c29_14 => ?_)
              · have h := h.1 c29_14
                refine lv_iload_n hx hb dX7_settles_48 rfl (lv_at hl 1 rfl) ?_
                refine lv_aload_n hx hb dX7_settles_49 rfl (lv_at hl 0 rfl) ?_
                refine g_get 7 23 (v := .int (G_7.1 7 23)) (C := RX7) (T := TX7) (N := 31) X hw (by decide) hinX7 rfl (by decide) (List.mem_cons_of_mem _ (List.mem_append_left _ (List.mem_append_left _ (List.mem_of_getElem? (i := 5) rfl)))) rfl dX7_settles_50 ?_
                refine lv_icmp_ne (tgt := 80) hx hb dX7_settles_53 (by decide) (fun c53_15 => ?_) (fun c53_15 => ?_)
                · have h := h.1 c53_15
                  refine lv_iinc (v := v1_7 + 1) (lv' := [(1, .int (v1_7 + 1)), (0, .ref (q 7))]) hx hb dX7_settles_80 hl (k := 1) rfl rfl (by decide) rfl (fun ls hl => ?_)
                  refine lv_goto (tgt := 17) hx hb dX7_settles_83 (by decide) ?_
                  obtain ⟨k_18, hm, h⟩ := h
                  exact ihI17_7 k_18 hm (v1_7 + 1) G_7 _ _ ls hw (lv_sub hl [1, 0] rfl) h
                · have h := h.2 c53_15
                  refine lv_aload_n hx hb dX7_settles_56 rfl (lv_at hl 0 rfl) ?_
                  refine g_get 7 10 (v := .ref (q 26)) (C := RX7) (T := TX7) (N := 31) X hw (by decide) hinX7 rfl (by decide) (List.mem_cons_of_mem _ (List.mem_append_left _ (List.mem_append_left _ (List.mem_of_getElem? (i := 3) rfl)))) rfl dX7_settles_57 ?_
                  refine lv_iload_n hx hb dX7_settles_60 rfl (lv_at hl 1 rfl) ?_
                  refine lv_aload_n hx hb dX7_settles_61 rfl (lv_at hl 0 rfl) ?_
                  refine g_get 7 25 (v := .int (G_7.1 7 25)) (C := RX7) (T := TX7) (N := 31) X hw (by decide) hinX7 rfl (by decide) (List.mem_cons_of_mem _ (List.mem_append_left _ (List.mem_append_left _ (List.mem_of_getElem? (i := 2) rfl)))) rfl dX7_settles_62 ?_
                  refine lv_if_eq (tgt := 75) hx hb dX7_settles_65 (by decide) (fun c65_18 => ?_) (fun c65_18 => ?_)
                  · have h := h.1 c65_18
                    refine lv_aload_n hx hb dX7_settles_75 rfl (lv_at hl 0 rfl) ?_
                    refine g_get 7 24 (v := .int (G_7.1 7 24)) (C := RX7) (T := TX7) (N := 31) X hw (by decide) hinX7 rfl (by decide) (List.mem_cons_of_mem _ (List.mem_append_left _ (List.mem_append_left _ (List.mem_of_getElem? (i := 4) rfl)))) rfl dX7_settles_76 ?_
                    obtain ⟨j79_19, bj79_19, ej79_19, h⟩ := h
                    refine g_iast 26 40 j79_19 X hw (Or.inr ⟨by decide, by decide⟩) rfl bj79_19 ej79_19 (by decide) dX7_settles_79 (fun H locs hw => ?_)
                    obtain ⟨G_21, eG_21⟩ : ∃ z, z = sI G_7 26 j79_19 (G_7.1 7 24) := ⟨_, rfl⟩
                    rw [← eG_21] at hw
                    have h := h G_21 eG_21
                    refine lv_iinc (v := v1_7 + 1) (lv' := [(1, .int (v1_7 + 1)), (0, .ref (q 7))]) hx hb dX7_settles_80 hl (k := 1) rfl rfl (by decide) rfl (fun ls hl => ?_)
                    refine lv_goto (tgt := 17) hx hb dX7_settles_83 (by decide) ?_
                    obtain ⟨k_23, hm, h⟩ := h
                    exact ihI17_7 k_23 hm (v1_7 + 1) G_21 _ _ ls hw (lv_sub hl [1, 0] rfl) h
                  · have h := h.2 c65_18
                    refine lv_aload_n hx hb dX7_settles_68 rfl (lv_at hl 0 rfl) ?_
                    refine g_get 7 23 (v := .int (G_7.1 7 23)) (C := RX7) (T := TX7) (N := 31) X hw (by decide) hinX7 rfl (by decide) (List.mem_cons_of_mem _ (List.mem_append_left _ (List.mem_append_left _ (List.mem_of_getElem? (i := 5) rfl)))) rfl dX7_settles_69 ?_
                    refine lv_goto (tgt := 79) hx hb dX7_settles_72 (by decide) ?_
                    obtain ⟨j79_23, bj79_23, ej79_23, h⟩ := h
                    refine g_iast 26 40 j79_23 X hw (Or.inr ⟨by decide, by decide⟩) rfl bj79_23 ej79_23 (by decide) dX7_settles_79 (fun H locs hw => ?_)
                    obtain ⟨G_25, eG_25⟩ : ∃ z, z = sI G_7 26 j79_23 (G_7.1 7 23) := ⟨_, rfl⟩
                    rw [← eG_25] at hw
                    have h := h G_25 eG_25
                    refine lv_iinc (v := v1_7 + 1) (lv' := [(1, .int (v1_7 + 1)), (0, .ref (q 7))]) hx hb dX7_settles_80 hl (k := 1) rfl rfl (by decide) rfl (fun ls hl => ?_)
                    refine lv_goto (tgt := 17) hx hb dX7_settles_83 (by decide) ?_
                    obtain ⟨k_27, hm, h⟩ := h
                    exact ihI17_7 k_27 hm (v1_7 + 1) G_25 _ _ ls hw (lv_sub hl [1, 0] rfl) h
              · have h := h.2 c29_14
                refine lv_aload_n hx hb dX7_settles_32 rfl (lv_at hl 0 rfl) ?_
                refine g_get 7 10 (v := .ref (q 26)) (C := RX7) (T := TX7) (N := 31) X hw (by decide) hinX7 rfl (by decide) (List.mem_cons_of_mem _ (List.mem_append_left _ (List.mem_append_left _ (List.mem_of_getElem? (i := 3) rfl)))) rfl dX7_settles_33 ?_
                refine lv_iload_n hx hb dX7_settles_36 rfl (lv_at hl 1 rfl) ?_
                obtain ⟨j37_27, bj37_27, ej37_27, h⟩ := h
                refine g_iald 26 40 j37_27 X hw (Or.inr ⟨by decide, by decide⟩) rfl bj37_27 ej37_27 (by decide) dX7_settles_37 ?_
                refine lv_aload_n hx hb dX7_settles_38 rfl (lv_at hl 0 rfl) ?_
                refine g_get 7 24 (v := .int (G_7.1 7 24)) (C := RX7) (T := TX7) (N := 31) X hw (by decide) hinX7 rfl (by decide) (List.mem_cons_of_mem _ (List.mem_append_left _ (List.mem_append_left _ (List.mem_of_getElem? (i := 4) rfl)))) rfl dX7_settles_39 ?_
                refine lv_icmp_ne (tgt := 80) hx hb dX7_settles_42 (by decide) (fun c42_28 => ?_) (fun c42_28 => ?_)
                · have h := h.1 c42_28
                  refine lv_iinc (v := v1_7 + 1) (lv' := [(1, .int (v1_7 + 1)), (0, .ref (q 7))]) hx hb dX7_settles_80 hl (k := 1) rfl rfl (by decide) rfl (fun ls hl => ?_)
                  refine lv_goto (tgt := 17) hx hb dX7_settles_83 (by decide) ?_
                  obtain ⟨k_31, hm, h⟩ := h
                  exact ihI17_7 k_31 hm (v1_7 + 1) G_7 _ _ ls hw (lv_sub hl [1, 0] rfl) h
                · have h := h.2 c42_28
                  refine lv_goto (tgt := 56) hx hb dX7_settles_45 (by decide) ?_
                  refine lv_aload_n hx hb dX7_settles_56 rfl (lv_at hl 0 rfl) ?_
                  refine g_get 7 10 (v := .ref (q 26)) (C := RX7) (T := TX7) (N := 31) X hw (by decide) hinX7 rfl (by decide) (List.mem_cons_of_mem _ (List.mem_append_left _ (List.mem_append_left _ (List.mem_of_getElem? (i := 3) rfl)))) rfl dX7_settles_57 ?_
                  refine lv_iload_n hx hb dX7_settles_60 rfl (lv_at hl 1 rfl) ?_
                  refine lv_aload_n hx hb dX7_settles_61 rfl (lv_at hl 0 rfl) ?_
                  refine g_get 7 25 (v := .int (G_7.1 7 25)) (C := RX7) (T := TX7) (N := 31) X hw (by decide) hinX7 rfl (by decide) (List.mem_cons_of_mem _ (List.mem_append_left _ (List.mem_append_left _ (List.mem_of_getElem? (i := 2) rfl)))) rfl dX7_settles_62 ?_
                  refine lv_if_eq (tgt := 75) hx hb dX7_settles_65 (by decide) (fun c65_31 => ?_) (fun c65_31 => ?_)
                  · have h := h.1 c65_31
                    refine lv_aload_n hx hb dX7_settles_75 rfl (lv_at hl 0 rfl) ?_
                    refine g_get 7 24 (v := .int (G_7.1 7 24)) (C := RX7) (T := TX7) (N := 31) X hw (by decide) hinX7 rfl (by decide) (List.mem_cons_of_mem _ (List.mem_append_left _ (List.mem_append_left _ (List.mem_of_getElem? (i := 4) rfl)))) rfl dX7_settles_76 ?_
                    obtain ⟨j79_32, bj79_32, ej79_32, h⟩ := h
                    refine g_iast 26 40 j79_32 X hw (Or.inr ⟨by decide, by decide⟩) rfl bj79_32 ej79_32 (by decide) dX7_settles_79 (fun H locs hw => ?_)
                    obtain ⟨G_34, eG_34⟩ : ∃ z, z = sI G_7 26 j79_32 (G_7.1 7 24) := ⟨_, rfl⟩
                    rw [← eG_34] at hw
                    have h := h G_34 eG_34
                    refine lv_iinc (v := v1_7 + 1) (lv' := [(1, .int (v1_7 + 1)), (0, .ref (q 7))]) hx hb dX7_settles_80 hl (k := 1) rfl rfl (by decide) rfl (fun ls hl => ?_)
                    refine lv_goto (tgt := 17) hx hb dX7_settles_83 (by decide) ?_
                    obtain ⟨k_36, hm, h⟩ := h
                    exact ihI17_7 k_36 hm (v1_7 + 1) G_34 _ _ ls hw (lv_sub hl [1, 0] rfl) h
                  · have h := h.2 c65_31
                    refine lv_aload_n hx hb dX7_settles_68 rfl (lv_at hl 0 rfl) ?_
                    refine g_get 7 23 (v := .int (G_7.1 7 23)) (C := RX7) (T := TX7) (N := 31) X hw (by decide) hinX7 rfl (by decide) (List.mem_cons_of_mem _ (List.mem_append_left _ (List.mem_append_left _ (List.mem_of_getElem? (i := 5) rfl)))) rfl dX7_settles_69 ?_
                    refine lv_goto (tgt := 79) hx hb dX7_settles_72 (by decide) ?_
                    obtain ⟨j79_36, bj79_36, ej79_36, h⟩ := h
                    refine g_iast 26 40 j79_36 X hw (Or.inr ⟨by decide, by decide⟩) rfl bj79_36 ej79_36 (by decide) dX7_settles_79 (fun H locs hw => ?_)
                    obtain ⟨G_38, eG_38⟩ : ∃ z, z = sI G_7 26 j79_36 (G_7.1 7 23) := ⟨_, rfl⟩
                    rw [← eG_38] at hw
                    have h := h G_38 eG_38
                    refine lv_iinc (v := v1_7 + 1) (lv' := [(1, .int (v1_7 + 1)), (0, .ref (q 7))]) hx hb dX7_settles_80 hl (k := 1) rfl rfl (by decide) rfl (fun ls hl => ?_)
                    refine lv_goto (tgt := 17) hx hb dX7_settles_83 (by decide) ?_
                    obtain ⟨k_40, hm, h⟩ := h
                    exact ihI17_7 k_40 hm (v1_7 + 1) G_38 _ _ ls hw (lv_sub hl [1, 0] rfl) h
        exact LI17_7 n_7 0 G_5 _ _ ls hw (lv_sub hl [1, 0] rfl) h0
  exact LI8_5 n_5 G_3 _ _ ls hw (lv_sub hl [0] rfl) h0

abbrev rmX7_report : Room := { frames := 5, cells := 0, slots := 0, locals := 115 }
def wp_X7_report (G : GS) (x1 : Int32) (post : Int32 → GS → Prop) : Prop :=
  ∀ G_1 : GS, G_1 = sI G 7 0 0 → (((G_1.1 7 3) = 0 → (post (-1) G_1)) ∧ (¬ ((G_1.1 7 3) = 0) → (wp_X7_isVersion G_1 x1 (fun r_4 G_3 => (r_4 = 0 → (post (-1) G_3)) ∧ (¬ (r_4 = 0) → ((¬ (G_3.1 7 5) = 40 → (∃ I33_7 : Nat → Int32 → GS → Prop, (∃ n_7 : Nat, I33_7 n_7 1 G_3) ∧ ∀ (n_7 : Nat) (v2_7 : Int32) (G_7 : GS), I33_7 n_7 v2_7 G_7 → ((v2_7 = 0 → (∃ I47_9 : Nat → Int32 → GS → Prop, (∃ n_9 : Nat, I47_9 n_9 0 G_7) ∧ ∀ (n_9 : Nat) (v3_9 : Int32) (G_9 : GS), I47_9 n_9 v3_9 G_9 → (((G_9.1 7 3) ≤ v3_9 → (∃ j93_10 : Nat, j93_10 < 40 ∧ G_9.1 7 5 = nI j93_10 ∧ (∀ G_12 : GS, G_12 = sI G_9 23 j93_10 (G_9.1 7 3) → (∃ j103_12 : Nat, j103_12 < 40 ∧ G_12.1 7 5 = nI j103_12 ∧ (∀ G_14 : GS, G_14 = sI G_12 24 j103_12 x1 → (∃ j113_14 : Nat, j113_14 < 40 ∧ G_14.1 7 5 = nI j113_14 ∧ (∀ G_16 : GS, G_16 = sI G_14 25 j113_14 (-1) → (∃ j126_16 : Nat, j126_16 < 40 ∧ G_16.1 7 5 = nI j126_16 ∧ (∀ G_18 : GS, G_18 = sI G_16 26 j126_16 (G_16.1 7 5) → (∀ G_19 : GS, G_19 = sI G_18 7 3 0 → (∀ G_20 : GS, G_20 = sI G_19 7 5 ((G_19.1 7 5) + 1) → (wp_X7_settles G_20 (fun G_21 => post ((G_21.1 7 5) - 1) G_21))))))))))))) ∧ (¬ ((G_9.1 7 3) ≤ v3_9) → (∃ j73_22 : Nat, j73_22 < 12 ∧ v3_9 = nI j73_22 ∧ (∃ j74_23 : Nat, j74_23 < 480 ∧ (12 * (G_9.1 7 5)) + v3_9 = nI j74_23 ∧ (∀ G_25 : GS, G_25 = sI G_9 22 j74_23 (G_9.1 21 j73_22) → (∃ k_27 : Nat, k_27 < n_9 ∧ I47_9 k_27 (v3_9 + 1) G_25)))))))) ∧ (¬ (v2_7 = 0) → (wp_X7_folds G_7 (fun r_29 G_28 => ∃ k_30 : Nat, k_30 < n_7 ∧ I33_7 k_30 r_29 G_28)))))) ∧ ((G_3.1 7 5) = 40 → (post (-1) G_3))))))))
set_option maxHeartbeats 4000000 in
set_option maxRecDepth 100000 in
theorem m_X7_report (l : Launch) (D : va_G) (cy : Nat → ClassId) (q : Nat → Nat) (G : GS) (x1 : Int32) (post : Int32 → GS → Prop) (h : wp_X7_report G x1 post) : gMi l yX7_report wsX7_report rmX7_report D cy q [.ref (q 7), .int x1] G post := by
  intro sz
  refine Met.ofW (cc := cX7_report) (maxL := 4) (ret := (some .int)) (by decide) rfl ?_
  intro p e s m args below meth c s₁ B hml hv
  obtain ⟨ha, hsz, X, hw, hA, hr, hlk⟩ := g_start B hml hv
  have hx := X.1.1
  have hb := X.1.2.1
  have hown := X.1.2.2.2.1
  have hts := X.1.2.2.2.2
  refine g_in ha (Nat.le_of_ble_eq_true rfl) (fun ls hl => ?_)
  have hl : lv_has ls 4 [(0, .ref (q 7)), (1, .int x1)] := hl
  unfold wp_X7_report at h
  have hinX7 : ∀ w ∈ wsX70, w ∈ wsX7_report := fun _ h9 => (List.mem_cons_of_mem _ (List.mem_append_right _ h9))
  refine lv_aload_n hx hb dX7_report_0 rfl (lv_at hl 0 rfl) ?_
  refine lv_iconst (v := 0) hx hb dX7_report_1 (by decide) ?_
  refine g_put 7 0 (v := 0) (ty := .int) (C := RX7) (T := TX7) (N := 31) X hw (by decide) hinX7 tyX7_ok nmX7 rfl (by decide) (List.mem_cons_of_mem _ (List.mem_append_left _ (List.mem_append_left _ (List.mem_of_getElem? (i := 0) rfl)))) rfl (by decide +kernel) rfl rfl (Nat.le_of_ble_eq_true rfl) rfl dX7_report_2 (fun H locs hw => ?_)
  obtain ⟨G_1, eG_1⟩ : ∃ z, z = sI G 7 0 0 := ⟨_, rfl⟩
  rw [← eG_1] at hw
  have h := h G_1 eG_1
  refine lv_aload_n hx hb dX7_report_5 rfl (lv_at hl 0 rfl) ?_
  refine g_get 7 3 (v := .int (G_1.1 7 3)) (C := RX7) (T := TX7) (N := 31) X hw (by decide) hinX7 rfl (by decide) (List.mem_cons_of_mem _ (List.mem_append_left _ (List.mem_append_left _ (List.mem_of_getElem? (i := 1) rfl)))) rfl dX7_report_6 ?_
  refine lv_if_eq (tgt := 29) hx hb dX7_report_9 (by decide) (fun c9_1 => ?_) (fun c9_1 => ?_)
  · have h := h.1 c9_1
    refine lv_iconst (v := (-1)) hx hb dX7_report_29 (by decide) ?_
    exact g_iret X hw hr hlk h dX7_report_30
  · have h := h.2 c9_1
    refine lv_aload_n hx hb dX7_report_12 rfl (lv_at hl 0 rfl) ?_
    refine lv_iload_n hx hb dX7_report_13 rfl (lv_at hl 1 rfl) ?_
    refine g_callVi 7 (C := RX7) (T := TX7) (N := 31) (As := [.int x1]) (rest := []) X hw hA (m_X7_isVersion l D cy q G_1 x1 _ h) (by decide) rfl (cwV 1 hts gX7_report_X7_isVersion rfl rfl rfl (by decide +kernel) ⟨Nat.le_of_ble_eq_true rfl, Nat.le_of_ble_eq_true rfl⟩) rfl hl.1 rfl (Nat.le_of_ble_eq_true rfl) dX7_report_14 ⟨Nat.zero_le _, Nat.zero_le _⟩ (fun r_4 G_3 H locs h hw => ?_)
    refine lv_if_eq (tgt := 29) hx hb dX7_report_17 (by decide) (fun c17_4 => ?_) (fun c17_4 => ?_)
    · have h := h.1 c17_4
      refine lv_iconst (v := (-1)) hx hb dX7_report_29 (by decide) ?_
      exact g_iret X hw hr hlk h dX7_report_30
    · have h := h.2 c17_4
      refine lv_aload_n hx hb dX7_report_20 rfl (lv_at hl 0 rfl) ?_
      refine g_get 7 5 (v := .int (G_3.1 7 5)) (C := RX7) (T := TX7) (N := 31) X hw (by decide) hinX7 rfl (by decide) (List.mem_cons_of_mem _ (List.mem_append_left _ (List.mem_append_left _ (List.mem_of_getElem? (i := 2) rfl)))) rfl dX7_report_21 ?_
      refine lv_bipush (v := 40) hx hb dX7_report_24 (by decide) ?_
      refine lv_icmp_ne (tgt := 31) hx hb dX7_report_26 (by decide) (fun c26_5 => ?_) (fun c26_5 => ?_)
      · have h := h.1 c26_5
        refine lv_iconst (v := 1) hx hb dX7_report_31 (by decide) ?_
        refine lv_istore_n (lv' := [(2, .int 1), (0, .ref (q 7)), (1, .int x1)]) hx hb dX7_report_32 rfl hl (by decide) rfl (fun ls hl => ?_)
        obtain ⟨I33_7, ⟨n_7, h0⟩, hI33_7⟩ := h
        have LI33_7 : ∀ (n_7 : Nat) (v2_7 : Int32) (G_7 : GS) (H : Heap) (locs : List Loc) (ls : Array Slot), gH D cy q (gA q sz) s.heap G_7 H locs → lv_has ls 4 [(0, .ref (q 7)), (1, .int x1), (2, .int v2_7)] → I33_7 n_7 v2_7 G_7 → W p l e (headSpec wsX7_report rmX7_report).room s m args below meth c H locs 0 0 (MQ below (va_Qi post (gPo D cy q sz) (gA q sz)) args s 0 0 (gA q sz)) (F0 m 33 ls []) := by
          intro n_7
          induction n_7 using Nat.strongRecOn with
          | ind n_7 ihI33_7 =>
            intro v2_7 G_7 H locs ls hw hl h
            have h := hI33_7 n_7 v2_7 G_7 h
            refine lv_iload_n hx hb dX7_report_33 rfl (lv_at hl 2 rfl) ?_
            refine lv_if_eq (tgt := 45) hx hb dX7_report_34 (by decide) (fun c34_7 => ?_) (fun c34_7 => ?_)
            · have h := h.1 c34_7
              refine lv_iconst (v := 0) hx hb dX7_report_45 (by decide) ?_
              refine lv_istore_n (lv' := [(3, .int 0), (0, .ref (q 7)), (1, .int x1), (2, .int v2_7)]) hx hb dX7_report_46 rfl hl (by decide) rfl (fun ls hl => ?_)
              obtain ⟨I47_9, ⟨n_9, h0⟩, hI47_9⟩ := h
              have LI47_9 : ∀ (n_9 : Nat) (v3_9 : Int32) (G_9 : GS) (H : Heap) (locs : List Loc) (ls : Array Slot), gH D cy q (gA q sz) s.heap G_9 H locs → lv_has ls 4 [(0, .ref (q 7)), (1, .int x1), (3, .int v3_9)] → I47_9 n_9 v3_9 G_9 → W p l e (headSpec wsX7_report rmX7_report).room s m args below meth c H locs 0 0 (MQ below (va_Qi post (gPo D cy q sz) (gA q sz)) args s 0 0 (gA q sz)) (F0 m 47 ls []) := by
                intro n_9
                induction n_9 using Nat.strongRecOn with
                | ind n_9 ihI47_9 =>
                  intro v3_9 G_9 H locs ls hw hl h
                  have h := hI47_9 n_9 v3_9 G_9 h
                  refine lv_iload_n hx hb dX7_report_47 rfl (lv_at hl 2 rfl) ?_
                  refine lv_aload_n hx hb dX7_report_48 rfl (lv_at hl 0 rfl) ?_
                  refine g_get 7 3 (v := .int (G_9.1 7 3)) (C := RX7) (T := TX7) (N := 31) X hw (by decide) hinX7 rfl (by decide) (List.mem_cons_of_mem _ (List.mem_append_left _ (List.mem_append_left _ (List.mem_of_getElem? (i := 1) rfl)))) rfl dX7_report_49 ?_
                  refine lv_icmp_ge (tgt := 81) hx hb dX7_report_52 (by decide) (fun c52_9 => ?_) (fun c52_9 => ?_)
                  · have h := h.1 c52_9
                    refine lv_aload_n hx hb dX7_report_81 rfl (lv_at hl 0 rfl) ?_
                    refine g_get 7 7 (v := .ref (q 23)) (C := RX7) (T := TX7) (N := 31) X hw (by decide) hinX7 rfl (by decide) (List.mem_cons_of_mem _ (List.mem_append_left _ (List.mem_append_left _ (List.mem_of_getElem? (i := 5) rfl)))) rfl dX7_report_82 ?_
                    refine lv_aload_n hx hb dX7_report_85 rfl (lv_at hl 0 rfl) ?_
                    refine g_get 7 5 (v := .int (G_9.1 7 5)) (C := RX7) (T := TX7) (N := 31) X hw (by decide) hinX7 rfl (by decide) (List.mem_cons_of_mem _ (List.mem_append_left _ (List.mem_append_left _ (List.mem_of_getElem? (i := 2) rfl)))) rfl dX7_report_86 ?_
                    refine lv_aload_n hx hb dX7_report_89 rfl (lv_at hl 0 rfl) ?_
                    refine g_get 7 3 (v := .int (G_9.1 7 3)) (C := RX7) (T := TX7) (N := 31) X hw (by decide) hinX7 rfl (by decide) (List.mem_cons_of_mem _ (List.mem_append_left _ (List.mem_append_left _ (List.mem_of_getElem? (i := 1) rfl)))) rfl dX7_report_90 ?_
                    obtain ⟨j93_10, bj93_10, ej93_10, h⟩ := h
                    refine g_iast 23 40 j93_10 X hw (Or.inr ⟨by decide, by decide⟩) rfl bj93_10 ej93_10 (by decide) dX7_report_93 (fun H locs hw => ?_)
                    obtain ⟨G_12, eG_12⟩ : ∃ z, z = sI G_9 23 j93_10 (G_9.1 7 3) := ⟨_, rfl⟩
                    rw [← eG_12] at hw
                    have h := h G_12 eG_12
                    refine lv_aload_n hx hb dX7_report_94 rfl (lv_at hl 0 rfl) ?_
                    refine g_get 7 8 (v := .ref (q 24)) (C := RX7) (T := TX7) (N := 31) X hw (by decide) hinX7 rfl (by decide) (List.mem_cons_of_mem _ (List.mem_append_left _ (List.mem_append_left _ (List.mem_of_getElem? (i := 6) rfl)))) rfl dX7_report_95 ?_
                    refine lv_aload_n hx hb dX7_report_98 rfl (lv_at hl 0 rfl) ?_
                    refine g_get 7 5 (v := .int (G_12.1 7 5)) (C := RX7) (T := TX7) (N := 31) X hw (by decide) hinX7 rfl (by decide) (List.mem_cons_of_mem _ (List.mem_append_left _ (List.mem_append_left _ (List.mem_of_getElem? (i := 2) rfl)))) rfl dX7_report_99 ?_
                    refine lv_iload_n hx hb dX7_report_102 rfl (lv_at hl 1 rfl) ?_
                    obtain ⟨j103_12, bj103_12, ej103_12, h⟩ := h
                    refine g_iast 24 40 j103_12 X hw (Or.inr ⟨by decide, by decide⟩) rfl bj103_12 ej103_12 (by decide) dX7_report_103 (fun H locs hw => ?_)
                    obtain ⟨G_14, eG_14⟩ : ∃ z, z = sI G_12 24 j103_12 x1 := ⟨_, rfl⟩
                    rw [← eG_14] at hw
                    have h := h G_14 eG_14
                    refine lv_aload_n hx hb dX7_report_104 rfl (lv_at hl 0 rfl) ?_
                    refine g_get 7 9 (v := .ref (q 25)) (C := RX7) (T := TX7) (N := 31) X hw (by decide) hinX7 rfl (by decide) (List.mem_cons_of_mem _ (List.mem_append_left _ (List.mem_append_left _ (List.mem_of_getElem? (i := 7) rfl)))) rfl dX7_report_105 ?_
                    refine lv_aload_n hx hb dX7_report_108 rfl (lv_at hl 0 rfl) ?_
                    refine g_get 7 5 (v := .int (G_14.1 7 5)) (C := RX7) (T := TX7) (N := 31) X hw (by decide) hinX7 rfl (by decide) (List.mem_cons_of_mem _ (List.mem_append_left _ (List.mem_append_left _ (List.mem_of_getElem? (i := 2) rfl)))) rfl dX7_report_109 ?_
                    refine lv_iconst (v := (-1)) hx hb dX7_report_112 (by decide) ?_
                    obtain ⟨j113_14, bj113_14, ej113_14, h⟩ := h
                    refine g_iast 25 40 j113_14 X hw (Or.inr ⟨by decide, by decide⟩) rfl bj113_14 ej113_14 (by decide) dX7_report_113 (fun H locs hw => ?_)
                    obtain ⟨G_16, eG_16⟩ : ∃ z, z = sI G_14 25 j113_14 (-1) := ⟨_, rfl⟩
                    rw [← eG_16] at hw
                    have h := h G_16 eG_16
                    refine lv_aload_n hx hb dX7_report_114 rfl (lv_at hl 0 rfl) ?_
                    refine g_get 7 10 (v := .ref (q 26)) (C := RX7) (T := TX7) (N := 31) X hw (by decide) hinX7 rfl (by decide) (List.mem_cons_of_mem _ (List.mem_append_left _ (List.mem_append_left _ (List.mem_of_getElem? (i := 8) rfl)))) rfl dX7_report_115 ?_
                    refine lv_aload_n hx hb dX7_report_118 rfl (lv_at hl 0 rfl) ?_
                    refine g_get 7 5 (v := .int (G_16.1 7 5)) (C := RX7) (T := TX7) (N := 31) X hw (by decide) hinX7 rfl (by decide) (List.mem_cons_of_mem _ (List.mem_append_left _ (List.mem_append_left _ (List.mem_of_getElem? (i := 2) rfl)))) rfl dX7_report_119 ?_
                    refine lv_aload_n hx hb dX7_report_122 rfl (lv_at hl 0 rfl) ?_
                    refine g_get 7 5 (v := .int (G_16.1 7 5)) (C := RX7) (T := TX7) (N := 31) X hw (by decide) hinX7 rfl (by decide) (List.mem_cons_of_mem _ (List.mem_append_left _ (List.mem_append_left _ (List.mem_of_getElem? (i := 2) rfl)))) rfl dX7_report_123 ?_
                    obtain ⟨j126_16, bj126_16, ej126_16, h⟩ := h
                    refine g_iast 26 40 j126_16 X hw (Or.inr ⟨by decide, by decide⟩) rfl bj126_16 ej126_16 (by decide) dX7_report_126 (fun H locs hw => ?_)
                    obtain ⟨G_18, eG_18⟩ : ∃ z, z = sI G_16 26 j126_16 (G_16.1 7 5) := ⟨_, rfl⟩
                    rw [← eG_18] at hw
                    have h := h G_18 eG_18
                    refine lv_aload_n hx hb dX7_report_127 rfl (lv_at hl 0 rfl) ?_
                    refine lv_iconst (v := 0) hx hb dX7_report_128 (by decide) ?_
                    refine g_put 7 3 (v := 0) (ty := .int) (C := RX7) (T := TX7) (N := 31) X hw (by decide) hinX7 tyX7_ok nmX7 rfl (by decide) (List.mem_cons_of_mem _ (List.mem_append_left _ (List.mem_append_left _ (List.mem_of_getElem? (i := 1) rfl)))) rfl (by decide +kernel) rfl rfl (Nat.le_of_ble_eq_true rfl) rfl dX7_report_129 (fun H locs hw => ?_)
                    obtain ⟨G_19, eG_19⟩ : ∃ z, z = sI G_18 7 3 0 := ⟨_, rfl⟩
                    rw [← eG_19] at hw
                    have h := h G_19 eG_19
                    refine lv_aload_n hx hb dX7_report_132 rfl (lv_at hl 0 rfl) ?_
                    refine lv_dup hx hb dX7_report_133 rfl ?_
                    refine g_get 7 5 (v := .int (G_19.1 7 5)) (C := RX7) (T := TX7) (N := 31) X hw (by decide) hinX7 rfl (by decide) (List.mem_cons_of_mem _ (List.mem_append_left _ (List.mem_append_left _ (List.mem_of_getElem? (i := 2) rfl)))) rfl dX7_report_134 ?_
                    refine lv_iconst (v := 1) hx hb dX7_report_137 (by decide) ?_
                    refine lv_iadd hx hb dX7_report_138 ?_
                    refine g_put 7 5 (v := (G_19.1 7 5) + 1) (ty := .int) (C := RX7) (T := TX7) (N := 31) X hw (by decide) hinX7 tyX7_ok nmX7 rfl (by decide) (List.mem_cons_of_mem _ (List.mem_append_left _ (List.mem_append_left _ (List.mem_of_getElem? (i := 2) rfl)))) rfl (by decide +kernel) rfl rfl (Nat.le_of_ble_eq_true rfl) rfl dX7_report_139 (fun H locs hw => ?_)
                    obtain ⟨G_20, eG_20⟩ : ∃ z, z = sI G_19 7 5 ((G_19.1 7 5) + 1) := ⟨_, rfl⟩
                    rw [← eG_20] at hw
                    have h := h G_20 eG_20
                    refine lv_aload_n hx hb dX7_report_142 rfl (lv_at hl 0 rfl) ?_
                    refine g_callVv 7 (C := RX7) (T := TX7) (N := 31) (As := []) (rest := []) X hw hA (m_X7_settles l D cy q G_20 _ h) (by decide) rfl (cwV 0 hts gX7_report_X7_settles rfl rfl rfl (by decide +kernel) ⟨Nat.le_of_ble_eq_true rfl, Nat.le_of_ble_eq_true rfl⟩) rfl hl.1 rfl (Nat.le_of_ble_eq_true rfl) dX7_report_143 ⟨Nat.zero_le _, Nat.zero_le _⟩ (fun G_21 H locs h hw => ?_)
                    refine lv_aload_n hx hb dX7_report_146 rfl (lv_at hl 0 rfl) ?_
                    refine g_get 7 5 (v := .int (G_21.1 7 5)) (C := RX7) (T := TX7) (N := 31) X hw (by decide) hinX7 rfl (by decide) (List.mem_cons_of_mem _ (List.mem_append_left _ (List.mem_append_left _ (List.mem_of_getElem? (i := 2) rfl)))) rfl dX7_report_147 ?_
                    refine lv_iconst (v := 1) hx hb dX7_report_150 (by decide) ?_
                    refine lv_isub hx hb dX7_report_151 ?_
                    exact g_iret X hw hr hlk h dX7_report_152
                  · have h := h.2 c52_9
                    refine lv_aload_n hx hb dX7_report_55 rfl (lv_at hl 0 rfl) ?_
                    refine g_get 7 6 (v := .ref (q 22)) (C := RX7) (T := TX7) (N := 31) X hw (by decide) hinX7 rfl (by decide) (List.mem_cons_of_mem _ (List.mem_append_left _ (List.mem_append_left _ (List.mem_of_getElem? (i := 3) rfl)))) rfl dX7_report_56 ?_
                    refine lv_bipush (v := 12) hx hb dX7_report_59 (by decide) ?_
                    refine lv_aload_n hx hb dX7_report_61 rfl (lv_at hl 0 rfl) ?_
                    refine g_get 7 5 (v := .int (G_9.1 7 5)) (C := RX7) (T := TX7) (N := 31) X hw (by decide) hinX7 rfl (by decide) (List.mem_cons_of_mem _ (List.mem_append_left _ (List.mem_append_left _ (List.mem_of_getElem? (i := 2) rfl)))) rfl dX7_report_62 ?_
                    refine lv_imul hx hb dX7_report_65 ?_
                    refine lv_iload_n hx hb dX7_report_66 rfl (lv_at hl 2 rfl) ?_
                    refine lv_iadd hx hb dX7_report_67 ?_
                    refine lv_aload_n hx hb dX7_report_68 rfl (lv_at hl 0 rfl) ?_
                    refine g_get 7 4 (v := .ref (q 21)) (C := RX7) (T := TX7) (N := 31) X hw (by decide) hinX7 rfl (by decide) (List.mem_cons_of_mem _ (List.mem_append_left _ (List.mem_append_left _ (List.mem_of_getElem? (i := 4) rfl)))) rfl dX7_report_69 ?_
                    refine lv_iload_n hx hb dX7_report_72 rfl (lv_at hl 2 rfl) ?_
                    obtain ⟨j73_22, bj73_22, ej73_22, h⟩ := h
                    refine g_iald 21 12 j73_22 X hw (Or.inr ⟨by decide, by decide⟩) rfl bj73_22 ej73_22 (by decide) dX7_report_73 ?_
                    obtain ⟨j74_23, bj74_23, ej74_23, h⟩ := h
                    refine g_iast 22 480 j74_23 X hw (Or.inr ⟨by decide, by decide⟩) rfl bj74_23 ej74_23 (by decide) dX7_report_74 (fun H locs hw => ?_)
                    obtain ⟨G_25, eG_25⟩ : ∃ z, z = sI G_9 22 j74_23 (G_9.1 21 j73_22) := ⟨_, rfl⟩
                    rw [← eG_25] at hw
                    have h := h G_25 eG_25
                    refine lv_iinc (v := v3_9 + 1) (lv' := [(3, .int (v3_9 + 1)), (0, .ref (q 7)), (1, .int x1)]) hx hb dX7_report_75 hl (k := 2) rfl rfl (by decide) rfl (fun ls hl => ?_)
                    refine lv_goto (tgt := 47) hx hb dX7_report_78 (by decide) ?_
                    obtain ⟨k_27, hm, h⟩ := h
                    exact ihI47_9 k_27 hm (v3_9 + 1) G_25 _ _ ls hw (lv_sub hl [1, 2, 0] rfl) h
              exact LI47_9 n_9 0 G_7 _ _ ls hw (lv_sub hl [1, 2, 0] rfl) h0
            · have h := h.2 c34_7
              refine lv_aload_n hx hb dX7_report_37 rfl (lv_at hl 0 rfl) ?_
              refine g_callVi 7 (C := RX7) (T := TX7) (N := 31) (As := []) (rest := []) X hw hA (m_X7_folds l D cy q G_7 _ h) (by decide) rfl (cwV 0 hts gX7_report_X7_folds rfl rfl rfl (by decide +kernel) ⟨Nat.le_of_ble_eq_true rfl, Nat.le_of_ble_eq_true rfl⟩) rfl hl.1 rfl (Nat.le_of_ble_eq_true rfl) dX7_report_38 ⟨Nat.zero_le _, Nat.zero_le _⟩ (fun r_29 G_28 H locs h hw => ?_)
              refine lv_istore_n (lv' := [(2, .int r_29), (0, .ref (q 7)), (1, .int x1)]) hx hb dX7_report_41 rfl hl (by decide) rfl (fun ls hl => ?_)
              refine lv_goto (tgt := 33) hx hb dX7_report_42 (by decide) ?_
              obtain ⟨k_30, hm, h⟩ := h
              exact ihI33_7 k_30 hm r_29 G_28 _ _ ls hw (lv_sub hl [1, 2, 0] rfl) h
        exact LI33_7 n_7 1 G_3 _ _ ls hw (lv_sub hl [1, 2, 0] rfl) h0
      · have h := h.2 c26_5
        refine lv_iconst (v := (-1)) hx hb dX7_report_29 (by decide) ?_
        exact g_iret X hw hr hlk h dX7_report_30

abbrev rmX7_isReport : Room := { frames := 0, cells := 0, slots := 0, locals := 0 }
def wp_X7_isReport (G : GS) (x1 : Int32) (post : Int32 → GS → Prop) : Prop :=
  (x1 < 0 → (post 0 G)) ∧ (¬ (x1 < 0) → (((G.1 7 5) ≤ x1 → (post 0 G)) ∧ (¬ ((G.1 7 5) ≤ x1) → (post 1 G))))
set_option maxHeartbeats 4000000 in
set_option maxRecDepth 100000 in
theorem m_X7_isReport (l : Launch) (D : va_G) (cy : Nat → ClassId) (q : Nat → Nat) (G : GS) (x1 : Int32) (post : Int32 → GS → Prop) (h : wp_X7_isReport G x1 post) : gMi l yX7_isReport wsX7_isReport rmX7_isReport D cy q [.ref (q 7), .int x1] G post := by
  intro sz
  refine Met.ofW (cc := cX7_isReport) (maxL := 2) (ret := (some .boolean)) (by decide) rfl ?_
  intro p e s m args below meth c s₁ B hml hv
  obtain ⟨ha, hsz, X, hw, hA, hr, hlk⟩ := g_start B hml hv
  have hx := X.1.1
  have hb := X.1.2.1
  have hown := X.1.2.2.2.1
  have hts := X.1.2.2.2.2
  refine g_in ha (Nat.le_of_ble_eq_true rfl) (fun ls hl => ?_)
  have hl : lv_has ls 2 [(0, .ref (q 7)), (1, .int x1)] := hl
  unfold wp_X7_isReport at h
  have hinX7 : ∀ w ∈ wsX70, w ∈ wsX7_isReport := fun _ h9 => (List.mem_cons_of_mem _ (List.mem_append_right _ h9))
  refine lv_iload_n hx hb dX7_isReport_0 rfl (lv_at hl 1 rfl) ?_
  refine lv_if_lt (tgt := 16) hx hb dX7_isReport_1 (by decide) (fun c1_0 => ?_) (fun c1_0 => ?_)
  · have h := h.1 c1_0
    refine lv_iconst (v := 0) hx hb dX7_isReport_16 (by decide) ?_
    exact g_zret X hw hr hlk (by decide) h dX7_isReport_17
  · have h := h.2 c1_0
    refine lv_iload_n hx hb dX7_isReport_4 rfl (lv_at hl 1 rfl) ?_
    refine lv_aload_n hx hb dX7_isReport_5 rfl (lv_at hl 0 rfl) ?_
    refine g_get 7 5 (v := .int (G.1 7 5)) (C := RX7) (T := TX7) (N := 31) X hw (by decide) hinX7 rfl (by decide) (List.mem_cons_of_mem _ (List.mem_append_left _ (List.mem_of_getElem? (i := 0) rfl))) rfl dX7_isReport_6 ?_
    refine lv_icmp_ge (tgt := 16) hx hb dX7_isReport_9 (by decide) (fun c9_1 => ?_) (fun c9_1 => ?_)
    · have h := h.1 c9_1
      refine lv_iconst (v := 0) hx hb dX7_isReport_16 (by decide) ?_
      exact g_zret X hw hr hlk (by decide) h dX7_isReport_17
    · have h := h.2 c9_1
      refine lv_iconst (v := 1) hx hb dX7_isReport_12 (by decide) ?_
      refine lv_goto (tgt := 17) hx hb dX7_isReport_13 (by decide) ?_
      exact g_zret X hw hr hlk (by decide) h dX7_isReport_17

abbrev rmX7_heaps : Room := { frames := 0, cells := 0, slots := 0, locals := 0 }
def wp_X7_heaps (G : GS)  (post : Int32 → GS → Prop) : Prop :=
  ∃ I4_1 : Nat → Int32 → Int32 → Prop, (∃ n_1 : Nat, I4_1 n_1 0 0) ∧ ∀ (n_1 : Nat) (v1_1 : Int32) (v2_1 : Int32), I4_1 n_1 v1_1 v2_1 → (((G.1 7 5) ≤ v2_1 → (post v1_1 G)) ∧ (¬ ((G.1 7 5) ≤ v2_1) → (∃ j18_2 : Nat, j18_2 < 40 ∧ v2_1 = nI j18_2 ∧ ((¬ (G.1 26 j18_2) = v2_1 → (∀ y_5 : Int32, y_5 = v1_1 + 0 → (∃ k_7 : Nat, k_7 < n_1 ∧ I4_1 k_7 y_5 (v2_1 + 1)))) ∧ ((G.1 26 j18_2) = v2_1 → (∀ y_8 : Int32, y_8 = v1_1 + 1 → (∃ k_10 : Nat, k_10 < n_1 ∧ I4_1 k_10 y_8 (v2_1 + 1))))))))
set_option maxHeartbeats 4000000 in
set_option maxRecDepth 100000 in
theorem m_X7_heaps (l : Launch) (D : va_G) (cy : Nat → ClassId) (q : Nat → Nat) (G : GS)  (post : Int32 → GS → Prop) (h : wp_X7_heaps G  post) : gMi l yX7_heaps wsX7_heaps rmX7_heaps D cy q [.ref (q 7)] G post := by
  intro sz
  refine Met.ofW (cc := cX7_heaps) (maxL := 3) (ret := (some .int)) (by decide) rfl ?_
  intro p e s m args below meth c s₁ B hml hv
  obtain ⟨ha, hsz, X, hw, hA, hr, hlk⟩ := g_start B hml hv
  have hx := X.1.1
  have hb := X.1.2.1
  have hown := X.1.2.2.2.1
  have hts := X.1.2.2.2.2
  refine g_in ha (Nat.le_of_ble_eq_true rfl) (fun ls hl => ?_)
  have hl : lv_has ls 3 [(0, .ref (q 7))] := hl
  unfold wp_X7_heaps at h
  have hinX7 : ∀ w ∈ wsX70, w ∈ wsX7_heaps := fun _ h9 => (List.mem_cons_of_mem _ (List.mem_append_right _ h9))
  refine lv_iconst (v := 0) hx hb dX7_heaps_0 (by decide) ?_
  refine lv_istore_n (lv' := [(1, .int 0), (0, .ref (q 7))]) hx hb dX7_heaps_1 rfl hl (by decide) rfl (fun ls hl => ?_)
  refine lv_iconst (v := 0) hx hb dX7_heaps_2 (by decide) ?_
  refine lv_istore_n (lv' := [(2, .int 0), (1, .int 0), (0, .ref (q 7))]) hx hb dX7_heaps_3 rfl hl (by decide) rfl (fun ls hl => ?_)
  obtain ⟨I4_1, ⟨n_1, h0⟩, hI4_1⟩ := h
  have LI4_1 : ∀ (n_1 : Nat) (v1_1 : Int32) (v2_1 : Int32) (H : Heap) (locs : List Loc) (ls : Array Slot), gH D cy q (gA q sz) s.heap G H locs → lv_has ls 3 [(0, .ref (q 7)), (1, .int v1_1), (2, .int v2_1)] → I4_1 n_1 v1_1 v2_1 → W p l e (headSpec wsX7_heaps rmX7_heaps).room s m args below meth c H locs 0 0 (MQ below (va_Qi post (gPo D cy q sz) (gA q sz)) args s 0 0 (gA q sz)) (F0 m 4 ls []) := by
    intro n_1
    induction n_1 using Nat.strongRecOn with
    | ind n_1 ihI4_1 =>
      intro v1_1 v2_1 H locs ls hw hl h
      have h := hI4_1 n_1 v1_1 v2_1 h
      refine lv_iload_n hx hb dX7_heaps_4 rfl (lv_at hl 2 rfl) ?_
      refine lv_aload_n hx hb dX7_heaps_5 rfl (lv_at hl 0 rfl) ?_
      refine g_get 7 5 (v := .int (G.1 7 5)) (C := RX7) (T := TX7) (N := 31) X hw (by decide) hinX7 rfl (by decide) (List.mem_cons_of_mem _ (List.mem_append_left _ (List.mem_of_getElem? (i := 0) rfl))) rfl dX7_heaps_6 ?_
      refine lv_icmp_ge (tgt := 36) hx hb dX7_heaps_9 (by decide) (fun c9_1 => ?_) (fun c9_1 => ?_)
      · have h := h.1 c9_1
        refine lv_iload_n hx hb dX7_heaps_36 rfl (lv_at hl 1 rfl) ?_
        exact g_iret X hw hr hlk h dX7_heaps_37
      · have h := h.2 c9_1
        refine lv_iload_n hx hb dX7_heaps_12 rfl (lv_at hl 1 rfl) ?_
        refine lv_aload_n hx hb dX7_heaps_13 rfl (lv_at hl 0 rfl) ?_
        refine g_get 7 10 (v := .ref (q 26)) (C := RX7) (T := TX7) (N := 31) X hw (by decide) hinX7 rfl (by decide) (List.mem_cons_of_mem _ (List.mem_append_left _ (List.mem_of_getElem? (i := 1) rfl))) rfl dX7_heaps_14 ?_
        refine lv_iload_n hx hb dX7_heaps_17 rfl (lv_at hl 2 rfl) ?_
        obtain ⟨j18_2, bj18_2, ej18_2, h⟩ := h
        refine g_iald 26 40 j18_2 X hw (Or.inr ⟨by decide, by decide⟩) rfl bj18_2 ej18_2 (by decide) dX7_heaps_18 ?_
        refine lv_iload_n hx hb dX7_heaps_19 rfl (lv_at hl 2 rfl) ?_
        refine lv_icmp_ne (tgt := 27) hx hb dX7_heaps_20 (by decide) (fun c20_3 => ?_) (fun c20_3 => ?_)
        · have h := h.1 c20_3
          refine lv_iconst (v := 0) hx hb dX7_heaps_27 (by decide) ?_
          refine lv_iadd hx hb dX7_heaps_28 ?_
          refine lv_topi (fun y_5 ey_5 => ?_)
          have h := h y_5 ey_5
          refine lv_istore_n (lv' := [(1, .int y_5), (0, .ref (q 7)), (2, .int v2_1)]) hx hb dX7_heaps_29 rfl hl (by decide) rfl (fun ls hl => ?_)
          refine lv_iinc (v := v2_1 + 1) (lv' := [(2, .int (v2_1 + 1)), (1, .int y_5), (0, .ref (q 7))]) hx hb dX7_heaps_30 hl (k := 2) rfl rfl (by decide) rfl (fun ls hl => ?_)
          refine lv_goto (tgt := 4) hx hb dX7_heaps_33 (by decide) ?_
          obtain ⟨k_7, hm, h⟩ := h
          exact ihI4_1 k_7 hm y_5 (v2_1 + 1) _ _ ls hw (lv_sub hl [2, 1, 0] rfl) h
        · have h := h.2 c20_3
          refine lv_iconst (v := 1) hx hb dX7_heaps_23 (by decide) ?_
          refine lv_goto (tgt := 28) hx hb dX7_heaps_24 (by decide) ?_
          refine lv_iadd hx hb dX7_heaps_28 ?_
          refine lv_topi (fun y_8 ey_8 => ?_)
          have h := h y_8 ey_8
          refine lv_istore_n (lv' := [(1, .int y_8), (0, .ref (q 7)), (2, .int v2_1)]) hx hb dX7_heaps_29 rfl hl (by decide) rfl (fun ls hl => ?_)
          refine lv_iinc (v := v2_1 + 1) (lv' := [(2, .int (v2_1 + 1)), (1, .int y_8), (0, .ref (q 7))]) hx hb dX7_heaps_30 hl (k := 2) rfl rfl (by decide) rfl (fun ls hl => ?_)
          refine lv_goto (tgt := 4) hx hb dX7_heaps_33 (by decide) ?_
          obtain ⟨k_10, hm, h⟩ := h
          exact ihI4_1 k_10 hm y_8 (v2_1 + 1) _ _ ls hw (lv_sub hl [2, 1, 0] rfl) h
  exact LI4_1 n_1 0 0 _ _ ls hw (lv_sub hl [2, 1, 0] rfl) h0

abbrev rmX7_resettle : Room := { frames := 5, cells := 0, slots := 0, locals := 115 }
def wp_X7_resettle (G : GS)  (post : Int32 → GS → Prop) : Prop :=
  ∀ G_1 : GS, G_1 = sI G 7 0 0 → (∃ I7_2 : Nat → Int32 → GS → Prop, (∃ n_2 : Nat, I7_2 n_2 0 G_1) ∧ ∀ (n_2 : Nat) (v1_2 : Int32) (G_2 : GS), I7_2 n_2 v1_2 G_2 → (((G_2.1 7 5) ≤ v1_2 → (wp_X7_settles G_2 (fun G_4 => wp_X7_heaps G_4 (fun r_7 G_6 => post r_7 G_6)))) ∧ (¬ ((G_2.1 7 5) ≤ v1_2) → (∃ j21_7 : Nat, j21_7 < 40 ∧ v1_2 = nI j21_7 ∧ (∀ G_9 : GS, G_9 = sI G_2 26 j21_7 v1_2 → (∃ k_11 : Nat, k_11 < n_2 ∧ I7_2 k_11 (v1_2 + 1) G_9))))))
set_option maxHeartbeats 4000000 in
set_option maxRecDepth 100000 in
theorem m_X7_resettle (l : Launch) (D : va_G) (cy : Nat → ClassId) (q : Nat → Nat) (G : GS)  (post : Int32 → GS → Prop) (h : wp_X7_resettle G  post) : gMi l yX7_resettle wsX7_resettle rmX7_resettle D cy q [.ref (q 7)] G post := by
  intro sz
  refine Met.ofW (cc := cX7_resettle) (maxL := 2) (ret := (some .int)) (by decide) rfl ?_
  intro p e s m args below meth c s₁ B hml hv
  obtain ⟨ha, hsz, X, hw, hA, hr, hlk⟩ := g_start B hml hv
  have hx := X.1.1
  have hb := X.1.2.1
  have hown := X.1.2.2.2.1
  have hts := X.1.2.2.2.2
  refine g_in ha (Nat.le_of_ble_eq_true rfl) (fun ls hl => ?_)
  have hl : lv_has ls 2 [(0, .ref (q 7))] := hl
  unfold wp_X7_resettle at h
  have hinX7 : ∀ w ∈ wsX70, w ∈ wsX7_resettle := fun _ h9 => (List.mem_cons_of_mem _ (List.mem_append_right _ h9))
  refine lv_aload_n hx hb dX7_resettle_0 rfl (lv_at hl 0 rfl) ?_
  refine lv_iconst (v := 0) hx hb dX7_resettle_1 (by decide) ?_
  refine g_put 7 0 (v := 0) (ty := .int) (C := RX7) (T := TX7) (N := 31) X hw (by decide) hinX7 tyX7_ok nmX7 rfl (by decide) (List.mem_cons_of_mem _ (List.mem_append_left _ (List.mem_append_left _ (List.mem_of_getElem? (i := 0) rfl)))) rfl (by decide +kernel) rfl rfl (Nat.le_of_ble_eq_true rfl) rfl dX7_resettle_2 (fun H locs hw => ?_)
  obtain ⟨G_1, eG_1⟩ : ∃ z, z = sI G 7 0 0 := ⟨_, rfl⟩
  rw [← eG_1] at hw
  have h := h G_1 eG_1
  refine lv_iconst (v := 0) hx hb dX7_resettle_5 (by decide) ?_
  refine lv_istore_n (lv' := [(1, .int 0), (0, .ref (q 7))]) hx hb dX7_resettle_6 rfl hl (by decide) rfl (fun ls hl => ?_)
  obtain ⟨I7_2, ⟨n_2, h0⟩, hI7_2⟩ := h
  have LI7_2 : ∀ (n_2 : Nat) (v1_2 : Int32) (G_2 : GS) (H : Heap) (locs : List Loc) (ls : Array Slot), gH D cy q (gA q sz) s.heap G_2 H locs → lv_has ls 2 [(0, .ref (q 7)), (1, .int v1_2)] → I7_2 n_2 v1_2 G_2 → W p l e (headSpec wsX7_resettle rmX7_resettle).room s m args below meth c H locs 0 0 (MQ below (va_Qi post (gPo D cy q sz) (gA q sz)) args s 0 0 (gA q sz)) (F0 m 7 ls []) := by
    intro n_2
    induction n_2 using Nat.strongRecOn with
    | ind n_2 ihI7_2 =>
      intro v1_2 G_2 H locs ls hw hl h
      have h := hI7_2 n_2 v1_2 G_2 h
      refine lv_iload_n hx hb dX7_resettle_7 rfl (lv_at hl 1 rfl) ?_
      refine lv_aload_n hx hb dX7_resettle_8 rfl (lv_at hl 0 rfl) ?_
      refine g_get 7 5 (v := .int (G_2.1 7 5)) (C := RX7) (T := TX7) (N := 31) X hw (by decide) hinX7 rfl (by decide) (List.mem_cons_of_mem _ (List.mem_append_left _ (List.mem_append_left _ (List.mem_of_getElem? (i := 1) rfl)))) rfl dX7_resettle_9 ?_
      refine lv_icmp_ge (tgt := 28) hx hb dX7_resettle_12 (by decide) (fun c12_2 => ?_) (fun c12_2 => ?_)
      · have h := h.1 c12_2
        refine lv_aload_n hx hb dX7_resettle_28 rfl (lv_at hl 0 rfl) ?_
        refine g_callVv 7 (C := RX7) (T := TX7) (N := 31) (As := []) (rest := []) X hw hA (m_X7_settles l D cy q G_2 _ h) (by decide) rfl (cwV 0 hts gX7_resettle_X7_settles rfl rfl rfl (by decide +kernel) ⟨Nat.le_of_ble_eq_true rfl, Nat.le_of_ble_eq_true rfl⟩) rfl hl.1 rfl (Nat.le_of_ble_eq_true rfl) dX7_resettle_29 ⟨Nat.zero_le _, Nat.zero_le _⟩ (fun G_4 H locs h hw => ?_)
        refine lv_aload_n hx hb dX7_resettle_32 rfl (lv_at hl 0 rfl) ?_
        refine g_callVi 7 (C := RX7) (T := TX7) (N := 31) (As := []) (rest := []) X hw hA (m_X7_heaps l D cy q G_4 _ h) (by decide) rfl (cwV 0 hts gX7_resettle_X7_heaps rfl rfl rfl (by decide +kernel) ⟨Nat.le_of_ble_eq_true rfl, Nat.le_of_ble_eq_true rfl⟩) rfl hl.1 rfl (Nat.le_of_ble_eq_true rfl) dX7_resettle_33 ⟨Nat.zero_le _, Nat.zero_le _⟩ (fun r_7 G_6 H locs h hw => ?_)
        exact g_iret X hw hr hlk h dX7_resettle_36
      · have h := h.2 c12_2
        refine lv_aload_n hx hb dX7_resettle_15 rfl (lv_at hl 0 rfl) ?_
        refine g_get 7 10 (v := .ref (q 26)) (C := RX7) (T := TX7) (N := 31) X hw (by decide) hinX7 rfl (by decide) (List.mem_cons_of_mem _ (List.mem_append_left _ (List.mem_append_left _ (List.mem_of_getElem? (i := 2) rfl)))) rfl dX7_resettle_16 ?_
        refine lv_iload_n hx hb dX7_resettle_19 rfl (lv_at hl 1 rfl) ?_
        refine lv_iload_n hx hb dX7_resettle_20 rfl (lv_at hl 1 rfl) ?_
        obtain ⟨j21_7, bj21_7, ej21_7, h⟩ := h
        refine g_iast 26 40 j21_7 X hw (Or.inr ⟨by decide, by decide⟩) rfl bj21_7 ej21_7 (by decide) dX7_resettle_21 (fun H locs hw => ?_)
        obtain ⟨G_9, eG_9⟩ : ∃ z, z = sI G_2 26 j21_7 v1_2 := ⟨_, rfl⟩
        rw [← eG_9] at hw
        have h := h G_9 eG_9
        refine lv_iinc (v := v1_2 + 1) (lv' := [(1, .int (v1_2 + 1)), (0, .ref (q 7))]) hx hb dX7_resettle_22 hl (k := 1) rfl rfl (by decide) rfl (fun ls hl => ?_)
        refine lv_goto (tgt := 7) hx hb dX7_resettle_25 (by decide) ?_
        obtain ⟨k_11, hm, h⟩ := h
        exact ihI7_2 k_11 hm (v1_2 + 1) G_9 _ _ ls hw (lv_sub hl [1, 0] rfl) h
  exact LI7_2 n_2 0 G_1 _ _ ls hw (lv_sub hl [1, 0] rfl) h0

abbrev rmX7_areTwo : Room := { frames := 1, cells := 0, slots := 0, locals := 21 }
def wp_X7_areTwo (G : GS) (x1 : Int32) (x2 : Int32) (post : Int32 → GS → Prop) : Prop :=
  wp_X7_isReport G x1 (fun r_2 G_1 => (r_2 = 0 → (post 0 G_1)) ∧ (¬ (r_2 = 0) → (wp_X7_isReport G_1 x2 (fun r_5 G_4 => (r_5 = 0 → (post 0 G_4)) ∧ (¬ (r_5 = 0) → ((x1 = x2 → (post 0 G_4)) ∧ (¬ (x1 = x2) → (post 1 G_4))))))))
set_option maxHeartbeats 4000000 in
set_option maxRecDepth 100000 in
theorem m_X7_areTwo (l : Launch) (D : va_G) (cy : Nat → ClassId) (q : Nat → Nat) (G : GS) (x1 : Int32) (x2 : Int32) (post : Int32 → GS → Prop) (h : wp_X7_areTwo G x1 x2 post) : gMi l yX7_areTwo wsX7_areTwo rmX7_areTwo D cy q [.ref (q 7), .int x1, .int x2] G post := by
  intro sz
  refine Met.ofW (cc := cX7_areTwo) (maxL := 3) (ret := (some .boolean)) (by decide) rfl ?_
  intro p e s m args below meth c s₁ B hml hv
  obtain ⟨ha, hsz, X, hw, hA, hr, hlk⟩ := g_start B hml hv
  have hx := X.1.1
  have hb := X.1.2.1
  have hown := X.1.2.2.2.1
  have hts := X.1.2.2.2.2
  refine g_in ha (Nat.le_of_ble_eq_true rfl) (fun ls hl => ?_)
  have hl : lv_has ls 3 [(0, .ref (q 7)), (1, .int x1), (2, .int x2)] := hl
  unfold wp_X7_areTwo at h
  refine lv_aload_n hx hb dX7_areTwo_0 rfl (lv_at hl 0 rfl) ?_
  refine lv_iload_n hx hb dX7_areTwo_1 rfl (lv_at hl 1 rfl) ?_
  refine g_callVi 7 (C := RX7) (T := TX7) (N := 31) (As := [.int x1]) (rest := []) X hw hA (m_X7_isReport l D cy q G x1 _ h) (by decide) rfl (cwV 1 hts gX7_areTwo_X7_isReport rfl rfl rfl (by decide +kernel) ⟨Nat.le_of_ble_eq_true rfl, Nat.le_of_ble_eq_true rfl⟩) rfl hl.1 rfl (Nat.le_of_ble_eq_true rfl) dX7_areTwo_2 ⟨Nat.zero_le _, Nat.zero_le _⟩ (fun r_2 G_1 H locs h hw => ?_)
  refine lv_if_eq (tgt := 25) hx hb dX7_areTwo_5 (by decide) (fun c5_2 => ?_) (fun c5_2 => ?_)
  · have h := h.1 c5_2
    refine lv_iconst (v := 0) hx hb dX7_areTwo_25 (by decide) ?_
    exact g_zret X hw hr hlk (by decide) h dX7_areTwo_26
  · have h := h.2 c5_2
    refine lv_aload_n hx hb dX7_areTwo_8 rfl (lv_at hl 0 rfl) ?_
    refine lv_iload_n hx hb dX7_areTwo_9 rfl (lv_at hl 2 rfl) ?_
    refine g_callVi 7 (C := RX7) (T := TX7) (N := 31) (As := [.int x2]) (rest := []) X hw hA (m_X7_isReport l D cy q G_1 x2 _ h) (by decide) rfl (cwV 1 hts gX7_areTwo_X7_isReport rfl rfl rfl (by decide +kernel) ⟨Nat.le_of_ble_eq_true rfl, Nat.le_of_ble_eq_true rfl⟩) rfl hl.1 rfl (Nat.le_of_ble_eq_true rfl) dX7_areTwo_10 ⟨Nat.zero_le _, Nat.zero_le _⟩ (fun r_5 G_4 H locs h hw => ?_)
    refine lv_if_eq (tgt := 25) hx hb dX7_areTwo_13 (by decide) (fun c13_5 => ?_) (fun c13_5 => ?_)
    · have h := h.1 c13_5
      refine lv_iconst (v := 0) hx hb dX7_areTwo_25 (by decide) ?_
      exact g_zret X hw hr hlk (by decide) h dX7_areTwo_26
    · have h := h.2 c13_5
      refine lv_iload_n hx hb dX7_areTwo_16 rfl (lv_at hl 1 rfl) ?_
      refine lv_iload_n hx hb dX7_areTwo_17 rfl (lv_at hl 2 rfl) ?_
      refine lv_icmp_eq (tgt := 25) hx hb dX7_areTwo_18 (by decide) (fun c18_6 => ?_) (fun c18_6 => ?_)
      · have h := h.1 c18_6
        refine lv_iconst (v := 0) hx hb dX7_areTwo_25 (by decide) ?_
        exact g_zret X hw hr hlk (by decide) h dX7_areTwo_26
      · have h := h.2 c18_6
        refine lv_iconst (v := 1) hx hb dX7_areTwo_21 (by decide) ?_
        refine lv_goto (tgt := 26) hx hb dX7_areTwo_22 (by decide) ?_
        exact g_zret X hw hr hlk (by decide) h dX7_areTwo_26

abbrev rmX7_tells : Room := { frames := 5, cells := 0, slots := 0, locals := 115 }
def wp_X7_tells (G : GS) (x1 : Int32) (x2 : Int32) (x3 : Int32) (post : GS → Prop) : Prop :=
  ∃ j11_0 : Nat, j11_0 < 1600 ∧ (40 * x1) + x2 = nI j11_0 ∧ (∀ G_2 : GS, G_2 = sI G 31 j11_0 x3 → (∃ j23_2 : Nat, j23_2 < 1600 ∧ (40 * x2) + x1 = nI j23_2 ∧ (∀ G_4 : GS, G_4 = sI G_2 31 j23_2 x3 → (wp_X7_settles G_4 (fun G_5 => post G_5)))))
set_option maxHeartbeats 4000000 in
set_option maxRecDepth 100000 in
theorem m_X7_tells (l : Launch) (D : va_G) (cy : Nat → ClassId) (q : Nat → Nat) (G : GS) (x1 : Int32) (x2 : Int32) (x3 : Int32) (post : GS → Prop) (h : wp_X7_tells G x1 x2 x3 post) : gMv l yX7_tells wsX7_tells rmX7_tells D cy q [.ref (q 7), .int x1, .int x2, .int x3] G post := by
  intro sz
  refine Met.ofW (cc := cX7_tells) (maxL := 4) (ret := none) (by decide) rfl ?_
  intro p e s m args below meth c s₁ B hml hv
  obtain ⟨ha, hsz, X, hw, hA, hr, hlk⟩ := g_start B hml hv
  have hx := X.1.1
  have hb := X.1.2.1
  have hown := X.1.2.2.2.1
  have hts := X.1.2.2.2.2
  refine g_in ha (Nat.le_of_ble_eq_true rfl) (fun ls hl => ?_)
  have hl : lv_has ls 4 [(0, .ref (q 7)), (1, .int x1), (2, .int x2), (3, .int x3)] := hl
  unfold wp_X7_tells at h
  have hinX7 : ∀ w ∈ wsX70, w ∈ wsX7_tells := fun _ h9 => (List.mem_cons_of_mem _ (List.mem_append_right _ h9))
  refine lv_aload_n hx hb dX7_tells_0 rfl (lv_at hl 0 rfl) ?_
  refine g_get 7 19 (v := .ref (q 31)) (C := RX7) (T := TX7) (N := 31) X hw (by decide) hinX7 rfl (by decide) (List.mem_cons_of_mem _ (List.mem_append_left _ (List.mem_append_left _ (List.mem_of_getElem? (i := 0) rfl)))) rfl dX7_tells_1 ?_
  refine lv_bipush (v := 40) hx hb dX7_tells_4 (by decide) ?_
  refine lv_iload_n hx hb dX7_tells_6 rfl (lv_at hl 1 rfl) ?_
  refine lv_imul hx hb dX7_tells_7 ?_
  refine lv_iload_n hx hb dX7_tells_8 rfl (lv_at hl 2 rfl) ?_
  refine lv_iadd hx hb dX7_tells_9 ?_
  refine lv_iload_n hx hb dX7_tells_10 rfl (lv_at hl 3 rfl) ?_
  obtain ⟨j11_0, bj11_0, ej11_0, h⟩ := h
  refine g_iast 31 1600 j11_0 X hw (Or.inr ⟨by decide, by decide⟩) rfl bj11_0 ej11_0 (by decide) dX7_tells_11 (fun H locs hw => ?_)
  obtain ⟨G_2, eG_2⟩ : ∃ z, z = sI G 31 j11_0 x3 := ⟨_, rfl⟩
  rw [← eG_2] at hw
  have h := h G_2 eG_2
  refine lv_aload_n hx hb dX7_tells_12 rfl (lv_at hl 0 rfl) ?_
  refine g_get 7 19 (v := .ref (q 31)) (C := RX7) (T := TX7) (N := 31) X hw (by decide) hinX7 rfl (by decide) (List.mem_cons_of_mem _ (List.mem_append_left _ (List.mem_append_left _ (List.mem_of_getElem? (i := 0) rfl)))) rfl dX7_tells_13 ?_
  refine lv_bipush (v := 40) hx hb dX7_tells_16 (by decide) ?_
  refine lv_iload_n hx hb dX7_tells_18 rfl (lv_at hl 2 rfl) ?_
  refine lv_imul hx hb dX7_tells_19 ?_
  refine lv_iload_n hx hb dX7_tells_20 rfl (lv_at hl 1 rfl) ?_
  refine lv_iadd hx hb dX7_tells_21 ?_
  refine lv_iload_n hx hb dX7_tells_22 rfl (lv_at hl 3 rfl) ?_
  obtain ⟨j23_2, bj23_2, ej23_2, h⟩ := h
  refine g_iast 31 1600 j23_2 X hw (Or.inr ⟨by decide, by decide⟩) rfl bj23_2 ej23_2 (by decide) dX7_tells_23 (fun H locs hw => ?_)
  obtain ⟨G_4, eG_4⟩ : ∃ z, z = sI G_2 31 j23_2 x3 := ⟨_, rfl⟩
  rw [← eG_4] at hw
  have h := h G_4 eG_4
  refine lv_aload_n hx hb dX7_tells_24 rfl (lv_at hl 0 rfl) ?_
  refine g_callVv 7 (C := RX7) (T := TX7) (N := 31) (As := []) (rest := []) X hw hA (m_X7_settles l D cy q G_4 _ h) (by decide) rfl (cwV 0 hts gX7_tells_X7_settles rfl rfl rfl (by decide +kernel) ⟨Nat.le_of_ble_eq_true rfl, Nat.le_of_ble_eq_true rfl⟩) rfl hl.1 rfl (Nat.le_of_ble_eq_true rfl) dX7_tells_25 ⟨Nat.zero_le _, Nat.zero_le _⟩ (fun G_5 H locs h hw => ?_)
  exact g_vret X hw hr hlk h dX7_tells_28

abbrev rmX7_pair : Room := { frames := 6, cells := 0, slots := 0, locals := 138 }
def wp_X7_pair (G : GS) (x1 : Int32) (x2 : Int32) (x3 : Int32) (post : Int32 → GS → Prop) : Prop :=
  ∀ G_1 : GS, G_1 = sI G 7 0 0 → (wp_X7_areTwo G_1 x1 x2 (fun r_3 G_2 => (¬ r_3 = 0 → ((x3 = 0 → (wp_X7_tells G_2 x1 x2 2 (fun G_6 => post 1 G_6))) ∧ (¬ (x3 = 0) → (wp_X7_tells G_2 x1 x2 1 (fun G_8 => post 1 G_8))))) ∧ (r_3 = 0 → (post 0 G_2))))
set_option maxHeartbeats 4000000 in
set_option maxRecDepth 100000 in
theorem m_X7_pair (l : Launch) (D : va_G) (cy : Nat → ClassId) (q : Nat → Nat) (G : GS) (x1 : Int32) (x2 : Int32) (x3 : Int32) (post : Int32 → GS → Prop) (h : wp_X7_pair G x1 x2 x3 post) : gMi l yX7_pair wsX7_pair rmX7_pair D cy q [.ref (q 7), .int x1, .int x2, .int x3] G post := by
  intro sz
  refine Met.ofW (cc := cX7_pair) (maxL := 4) (ret := (some .boolean)) (by decide) rfl ?_
  intro p e s m args below meth c s₁ B hml hv
  obtain ⟨ha, hsz, X, hw, hA, hr, hlk⟩ := g_start B hml hv
  have hx := X.1.1
  have hb := X.1.2.1
  have hown := X.1.2.2.2.1
  have hts := X.1.2.2.2.2
  refine g_in ha (Nat.le_of_ble_eq_true rfl) (fun ls hl => ?_)
  have hl : lv_has ls 4 [(0, .ref (q 7)), (1, .int x1), (2, .int x2), (3, .int x3)] := hl
  unfold wp_X7_pair at h
  have hinX7 : ∀ w ∈ wsX70, w ∈ wsX7_pair := fun _ h9 => (List.mem_cons_of_mem _ (List.mem_append_right _ h9))
  refine lv_aload_n hx hb dX7_pair_0 rfl (lv_at hl 0 rfl) ?_
  refine lv_iconst (v := 0) hx hb dX7_pair_1 (by decide) ?_
  refine g_put 7 0 (v := 0) (ty := .int) (C := RX7) (T := TX7) (N := 31) X hw (by decide) hinX7 tyX7_ok nmX7 rfl (by decide) (List.mem_cons_of_mem _ (List.mem_append_left _ (List.mem_append_left _ (List.mem_of_getElem? (i := 0) rfl)))) rfl (by decide +kernel) rfl rfl (Nat.le_of_ble_eq_true rfl) rfl dX7_pair_2 (fun H locs hw => ?_)
  obtain ⟨G_1, eG_1⟩ : ∃ z, z = sI G 7 0 0 := ⟨_, rfl⟩
  rw [← eG_1] at hw
  have h := h G_1 eG_1
  refine lv_aload_n hx hb dX7_pair_5 rfl (lv_at hl 0 rfl) ?_
  refine lv_iload_n hx hb dX7_pair_6 rfl (lv_at hl 1 rfl) ?_
  refine lv_iload_n hx hb dX7_pair_7 rfl (lv_at hl 2 rfl) ?_
  refine g_callVi 7 (C := RX7) (T := TX7) (N := 31) (As := [.int x1, .int x2]) (rest := []) X hw hA (m_X7_areTwo l D cy q G_1 x1 x2 _ h) (by decide) rfl (cwV 2 hts gX7_pair_X7_areTwo rfl rfl rfl (by decide +kernel) ⟨Nat.le_of_ble_eq_true rfl, Nat.le_of_ble_eq_true rfl⟩) rfl hl.1 rfl (Nat.le_of_ble_eq_true rfl) dX7_pair_8 ⟨Nat.zero_le _, Nat.zero_le _⟩ (fun r_3 G_2 H locs h hw => ?_)
  refine lv_if_ne (tgt := 16) hx hb dX7_pair_11 (by decide) (fun c11_3 => ?_) (fun c11_3 => ?_)
  · have h := h.1 c11_3
    refine lv_aload_n hx hb dX7_pair_16 rfl (lv_at hl 0 rfl) ?_
    refine lv_iload_n hx hb dX7_pair_17 rfl (lv_at hl 1 rfl) ?_
    refine lv_iload_n hx hb dX7_pair_18 rfl (lv_at hl 2 rfl) ?_
    refine lv_iload_n hx hb dX7_pair_19 rfl (lv_at hl 3 rfl) ?_
    refine lv_if_eq (tgt := 27) hx hb dX7_pair_20 (by decide) (fun c20_4 => ?_) (fun c20_4 => ?_)
    · have h := h.1 c20_4
      refine lv_iconst (v := 2) hx hb dX7_pair_27 (by decide) ?_
      refine g_callVv 7 (C := RX7) (T := TX7) (N := 31) (As := [.int x1, .int x2, .int 2]) (rest := []) X hw hA (m_X7_tells l D cy q G_2 x1 x2 2 _ h) (by decide) rfl (cwV 3 hts gX7_pair_X7_tells rfl rfl rfl (by decide +kernel) ⟨Nat.le_of_ble_eq_true rfl, Nat.le_of_ble_eq_true rfl⟩) rfl hl.1 rfl (Nat.le_of_ble_eq_true rfl) dX7_pair_28 ⟨Nat.zero_le _, Nat.zero_le _⟩ (fun G_6 H locs h hw => ?_)
      refine lv_iconst (v := 1) hx hb dX7_pair_31 (by decide) ?_
      exact g_zret X hw hr hlk (by decide) h dX7_pair_32
    · have h := h.2 c20_4
      refine lv_iconst (v := 1) hx hb dX7_pair_23 (by decide) ?_
      refine lv_goto (tgt := 28) hx hb dX7_pair_24 (by decide) ?_
      refine g_callVv 7 (C := RX7) (T := TX7) (N := 31) (As := [.int x1, .int x2, .int 1]) (rest := []) X hw hA (m_X7_tells l D cy q G_2 x1 x2 1 _ h) (by decide) rfl (cwV 3 hts gX7_pair_X7_tells rfl rfl rfl (by decide +kernel) ⟨Nat.le_of_ble_eq_true rfl, Nat.le_of_ble_eq_true rfl⟩) rfl hl.1 rfl (Nat.le_of_ble_eq_true rfl) dX7_pair_28 ⟨Nat.zero_le _, Nat.zero_le _⟩ (fun G_8 H locs h hw => ?_)
      refine lv_iconst (v := 1) hx hb dX7_pair_31 (by decide) ?_
      exact g_zret X hw hr hlk (by decide) h dX7_pair_32
  · have h := h.2 c11_3
    refine lv_iconst (v := 0) hx hb dX7_pair_14 (by decide) ?_
    exact g_zret X hw hr hlk (by decide) h dX7_pair_15

abbrev rmX7_free : Room := { frames := 6, cells := 0, slots := 0, locals := 138 }
def wp_X7_free (G : GS) (x1 : Int32) (x2 : Int32) (post : Int32 → GS → Prop) : Prop :=
  ∀ G_1 : GS, G_1 = sI G 7 0 0 → (wp_X7_areTwo G_1 x1 x2 (fun r_3 G_2 => (r_3 = 0 → (post 0 G_2)) ∧ (¬ (r_3 = 0) → (∃ j24_4 : Nat, j24_4 < 1600 ∧ (40 * x1) + x2 = nI j24_4 ∧ ((¬ (G_2.1 31 j24_4) = 0 → (wp_X7_tells G_2 x1 x2 0 (fun G_7 => post 1 G_7))) ∧ ((G_2.1 31 j24_4) = 0 → (post 0 G_2)))))))
set_option maxHeartbeats 4000000 in
set_option maxRecDepth 100000 in
theorem m_X7_free (l : Launch) (D : va_G) (cy : Nat → ClassId) (q : Nat → Nat) (G : GS) (x1 : Int32) (x2 : Int32) (post : Int32 → GS → Prop) (h : wp_X7_free G x1 x2 post) : gMi l yX7_free wsX7_free rmX7_free D cy q [.ref (q 7), .int x1, .int x2] G post := by
  intro sz
  refine Met.ofW (cc := cX7_free) (maxL := 3) (ret := (some .boolean)) (by decide) rfl ?_
  intro p e s m args below meth c s₁ B hml hv
  obtain ⟨ha, hsz, X, hw, hA, hr, hlk⟩ := g_start B hml hv
  have hx := X.1.1
  have hb := X.1.2.1
  have hown := X.1.2.2.2.1
  have hts := X.1.2.2.2.2
  refine g_in ha (Nat.le_of_ble_eq_true rfl) (fun ls hl => ?_)
  have hl : lv_has ls 3 [(0, .ref (q 7)), (1, .int x1), (2, .int x2)] := hl
  unfold wp_X7_free at h
  have hinX7 : ∀ w ∈ wsX70, w ∈ wsX7_free := fun _ h9 => (List.mem_cons_of_mem _ (List.mem_append_right _ h9))
  refine lv_aload_n hx hb dX7_free_0 rfl (lv_at hl 0 rfl) ?_
  refine lv_iconst (v := 0) hx hb dX7_free_1 (by decide) ?_
  refine g_put 7 0 (v := 0) (ty := .int) (C := RX7) (T := TX7) (N := 31) X hw (by decide) hinX7 tyX7_ok nmX7 rfl (by decide) (List.mem_cons_of_mem _ (List.mem_append_left _ (List.mem_append_left _ (List.mem_of_getElem? (i := 0) rfl)))) rfl (by decide +kernel) rfl rfl (Nat.le_of_ble_eq_true rfl) rfl dX7_free_2 (fun H locs hw => ?_)
  obtain ⟨G_1, eG_1⟩ : ∃ z, z = sI G 7 0 0 := ⟨_, rfl⟩
  rw [← eG_1] at hw
  have h := h G_1 eG_1
  refine lv_aload_n hx hb dX7_free_5 rfl (lv_at hl 0 rfl) ?_
  refine lv_iload_n hx hb dX7_free_6 rfl (lv_at hl 1 rfl) ?_
  refine lv_iload_n hx hb dX7_free_7 rfl (lv_at hl 2 rfl) ?_
  refine g_callVi 7 (C := RX7) (T := TX7) (N := 31) (As := [.int x1, .int x2]) (rest := []) X hw hA (m_X7_areTwo l D cy q G_1 x1 x2 _ h) (by decide) rfl (cwV 2 hts gX7_free_X7_areTwo rfl rfl rfl (by decide +kernel) ⟨Nat.le_of_ble_eq_true rfl, Nat.le_of_ble_eq_true rfl⟩) rfl hl.1 rfl (Nat.le_of_ble_eq_true rfl) dX7_free_8 ⟨Nat.zero_le _, Nat.zero_le _⟩ (fun r_3 G_2 H locs h hw => ?_)
  refine lv_if_eq (tgt := 28) hx hb dX7_free_11 (by decide) (fun c11_3 => ?_) (fun c11_3 => ?_)
  · have h := h.1 c11_3
    refine lv_iconst (v := 0) hx hb dX7_free_28 (by decide) ?_
    exact g_zret X hw hr hlk (by decide) h dX7_free_29
  · have h := h.2 c11_3
    refine lv_aload_n hx hb dX7_free_14 rfl (lv_at hl 0 rfl) ?_
    refine g_get 7 19 (v := .ref (q 31)) (C := RX7) (T := TX7) (N := 31) X hw (by decide) hinX7 rfl (by decide) (List.mem_cons_of_mem _ (List.mem_append_left _ (List.mem_append_left _ (List.mem_of_getElem? (i := 1) rfl)))) rfl dX7_free_15 ?_
    refine lv_bipush (v := 40) hx hb dX7_free_18 (by decide) ?_
    refine lv_iload_n hx hb dX7_free_20 rfl (lv_at hl 1 rfl) ?_
    refine lv_imul hx hb dX7_free_21 ?_
    refine lv_iload_n hx hb dX7_free_22 rfl (lv_at hl 2 rfl) ?_
    refine lv_iadd hx hb dX7_free_23 ?_
    obtain ⟨j24_4, bj24_4, ej24_4, h⟩ := h
    refine g_iald 31 1600 j24_4 X hw (Or.inr ⟨by decide, by decide⟩) rfl bj24_4 ej24_4 (by decide) dX7_free_24 ?_
    refine lv_if_ne (tgt := 30) hx hb dX7_free_25 (by decide) (fun c25_5 => ?_) (fun c25_5 => ?_)
    · have h := h.1 c25_5
      refine lv_aload_n hx hb dX7_free_30 rfl (lv_at hl 0 rfl) ?_
      refine lv_iload_n hx hb dX7_free_31 rfl (lv_at hl 1 rfl) ?_
      refine lv_iload_n hx hb dX7_free_32 rfl (lv_at hl 2 rfl) ?_
      refine lv_iconst (v := 0) hx hb dX7_free_33 (by decide) ?_
      refine g_callVv 7 (C := RX7) (T := TX7) (N := 31) (As := [.int x1, .int x2, .int 0]) (rest := []) X hw hA (m_X7_tells l D cy q G_2 x1 x2 0 _ h) (by decide) rfl (cwV 3 hts gX7_free_X7_tells rfl rfl rfl (by decide +kernel) ⟨Nat.le_of_ble_eq_true rfl, Nat.le_of_ble_eq_true rfl⟩) rfl hl.1 rfl (Nat.le_of_ble_eq_true rfl) dX7_free_34 ⟨Nat.zero_le _, Nat.zero_le _⟩ (fun G_7 H locs h hw => ?_)
      refine lv_iconst (v := 1) hx hb dX7_free_37 (by decide) ?_
      exact g_zret X hw hr hlk (by decide) h dX7_free_38
    · have h := h.2 c25_5
      refine lv_iconst (v := 0) hx hb dX7_free_28 (by decide) ?_
      exact g_zret X hw hr hlk (by decide) h dX7_free_29

abbrev rmX7_mark : Room := { frames := 5, cells := 0, slots := 0, locals := 115 }
def wp_X7_mark (G : GS) (x1 : Int32) (post : Int32 → GS → Prop) : Prop :=
  ∀ G_1 : GS, G_1 = sI G 7 0 0 → ((x1 < 0 → (post 0 G_1)) ∧ (¬ (x1 < 0) → ((x1 ≤ 40 → (∀ G_4 : GS, G_4 = sI G_1 7 18 x1 → (wp_X7_settles G_4 (fun G_5 => post 1 G_5)))) ∧ (¬ (x1 ≤ 40) → (post 0 G_1)))))
set_option maxHeartbeats 4000000 in
set_option maxRecDepth 100000 in
theorem m_X7_mark (l : Launch) (D : va_G) (cy : Nat → ClassId) (q : Nat → Nat) (G : GS) (x1 : Int32) (post : Int32 → GS → Prop) (h : wp_X7_mark G x1 post) : gMi l yX7_mark wsX7_mark rmX7_mark D cy q [.ref (q 7), .int x1] G post := by
  intro sz
  refine Met.ofW (cc := cX7_mark) (maxL := 2) (ret := (some .boolean)) (by decide) rfl ?_
  intro p e s m args below meth c s₁ B hml hv
  obtain ⟨ha, hsz, X, hw, hA, hr, hlk⟩ := g_start B hml hv
  have hx := X.1.1
  have hb := X.1.2.1
  have hown := X.1.2.2.2.1
  have hts := X.1.2.2.2.2
  refine g_in ha (Nat.le_of_ble_eq_true rfl) (fun ls hl => ?_)
  have hl : lv_has ls 2 [(0, .ref (q 7)), (1, .int x1)] := hl
  unfold wp_X7_mark at h
  have hinX7 : ∀ w ∈ wsX70, w ∈ wsX7_mark := fun _ h9 => (List.mem_cons_of_mem _ (List.mem_append_right _ h9))
  refine lv_aload_n hx hb dX7_mark_0 rfl (lv_at hl 0 rfl) ?_
  refine lv_iconst (v := 0) hx hb dX7_mark_1 (by decide) ?_
  refine g_put 7 0 (v := 0) (ty := .int) (C := RX7) (T := TX7) (N := 31) X hw (by decide) hinX7 tyX7_ok nmX7 rfl (by decide) (List.mem_cons_of_mem _ (List.mem_append_left _ (List.mem_append_left _ (List.mem_of_getElem? (i := 0) rfl)))) rfl (by decide +kernel) rfl rfl (Nat.le_of_ble_eq_true rfl) rfl dX7_mark_2 (fun H locs hw => ?_)
  obtain ⟨G_1, eG_1⟩ : ∃ z, z = sI G 7 0 0 := ⟨_, rfl⟩
  rw [← eG_1] at hw
  have h := h G_1 eG_1
  refine lv_iload_n hx hb dX7_mark_5 rfl (lv_at hl 1 rfl) ?_
  refine lv_if_lt (tgt := 15) hx hb dX7_mark_6 (by decide) (fun c6_1 => ?_) (fun c6_1 => ?_)
  · have h := h.1 c6_1
    refine lv_iconst (v := 0) hx hb dX7_mark_15 (by decide) ?_
    exact g_zret X hw hr hlk (by decide) h dX7_mark_16
  · have h := h.2 c6_1
    refine lv_iload_n hx hb dX7_mark_9 rfl (lv_at hl 1 rfl) ?_
    refine lv_bipush (v := 40) hx hb dX7_mark_10 (by decide) ?_
    refine lv_icmp_le (tgt := 17) hx hb dX7_mark_12 (by decide) (fun c12_2 => ?_) (fun c12_2 => ?_)
    · have h := h.1 c12_2
      refine lv_aload_n hx hb dX7_mark_17 rfl (lv_at hl 0 rfl) ?_
      refine lv_iload_n hx hb dX7_mark_18 rfl (lv_at hl 1 rfl) ?_
      refine g_put 7 18 (v := x1) (ty := .int) (C := RX7) (T := TX7) (N := 31) X hw (by decide) hinX7 tyX7_ok nmX7 rfl (by decide) (List.mem_cons_of_mem _ (List.mem_append_left _ (List.mem_append_left _ (List.mem_of_getElem? (i := 1) rfl)))) rfl (by decide +kernel) rfl rfl (Nat.le_of_ble_eq_true rfl) rfl dX7_mark_19 (fun H locs hw => ?_)
      obtain ⟨G_4, eG_4⟩ : ∃ z, z = sI G_1 7 18 x1 := ⟨_, rfl⟩
      rw [← eG_4] at hw
      have h := h G_4 eG_4
      refine lv_aload_n hx hb dX7_mark_22 rfl (lv_at hl 0 rfl) ?_
      refine g_callVv 7 (C := RX7) (T := TX7) (N := 31) (As := []) (rest := []) X hw hA (m_X7_settles l D cy q G_4 _ h) (by decide) rfl (cwV 0 hts gX7_mark_X7_settles rfl rfl rfl (by decide +kernel) ⟨Nat.le_of_ble_eq_true rfl, Nat.le_of_ble_eq_true rfl⟩) rfl hl.1 rfl (Nat.le_of_ble_eq_true rfl) dX7_mark_23 ⟨Nat.zero_le _, Nat.zero_le _⟩ (fun G_5 H locs h hw => ?_)
      refine lv_iconst (v := 1) hx hb dX7_mark_26 (by decide) ?_
      exact g_zret X hw hr hlk (by decide) h dX7_mark_27
    · have h := h.2 c12_2
      refine lv_iconst (v := 0) hx hb dX7_mark_15 (by decide) ?_
      exact g_zret X hw hr hlk (by decide) h dX7_mark_16

abbrev rmX7_distance : Room := { frames := 1, cells := 0, slots := 0, locals := 21 }
def wp_X7_distance (G : GS) (x1 : Int32) (x2 : Int32) (post : Int32 → GS → Prop) : Prop :=
  ∀ G_1 : GS, G_1 = sI G 7 0 0 → (wp_X7_isReport G_1 x1 (fun r_3 G_2 => (r_3 = 0 → (post (-1) G_2)) ∧ (¬ (r_3 = 0) → (wp_X7_isReport G_2 x2 (fun r_6 G_5 => (r_6 = 0 → (post (-1) G_5)) ∧ (¬ (r_6 = 0) → (∃ j31_7 : Nat, j31_7 < 1600 ∧ (40 * x1) + x2 = nI j31_7 ∧ (post (G_5.1 30 j31_7) G_5))))))))
set_option maxHeartbeats 4000000 in
set_option maxRecDepth 100000 in
theorem m_X7_distance (l : Launch) (D : va_G) (cy : Nat → ClassId) (q : Nat → Nat) (G : GS) (x1 : Int32) (x2 : Int32) (post : Int32 → GS → Prop) (h : wp_X7_distance G x1 x2 post) : gMi l yX7_distance wsX7_distance rmX7_distance D cy q [.ref (q 7), .int x1, .int x2] G post := by
  intro sz
  refine Met.ofW (cc := cX7_distance) (maxL := 3) (ret := (some .int)) (by decide) rfl ?_
  intro p e s m args below meth c s₁ B hml hv
  obtain ⟨ha, hsz, X, hw, hA, hr, hlk⟩ := g_start B hml hv
  have hx := X.1.1
  have hb := X.1.2.1
  have hown := X.1.2.2.2.1
  have hts := X.1.2.2.2.2
  refine g_in ha (Nat.le_of_ble_eq_true rfl) (fun ls hl => ?_)
  have hl : lv_has ls 3 [(0, .ref (q 7)), (1, .int x1), (2, .int x2)] := hl
  unfold wp_X7_distance at h
  have hinX7 : ∀ w ∈ wsX70, w ∈ wsX7_distance := fun _ h9 => (List.mem_cons_of_mem _ (List.mem_append_right _ h9))
  refine lv_aload_n hx hb dX7_distance_0 rfl (lv_at hl 0 rfl) ?_
  refine lv_iconst (v := 0) hx hb dX7_distance_1 (by decide) ?_
  refine g_put 7 0 (v := 0) (ty := .int) (C := RX7) (T := TX7) (N := 31) X hw (by decide) hinX7 tyX7_ok nmX7 rfl (by decide) (List.mem_cons_of_mem _ (List.mem_append_left _ (List.mem_of_getElem? (i := 0) rfl))) rfl (by decide +kernel) rfl rfl (Nat.le_of_ble_eq_true rfl) rfl dX7_distance_2 (fun H locs hw => ?_)
  obtain ⟨G_1, eG_1⟩ : ∃ z, z = sI G 7 0 0 := ⟨_, rfl⟩
  rw [← eG_1] at hw
  have h := h G_1 eG_1
  refine lv_aload_n hx hb dX7_distance_5 rfl (lv_at hl 0 rfl) ?_
  refine lv_iload_n hx hb dX7_distance_6 rfl (lv_at hl 1 rfl) ?_
  refine g_callVi 7 (C := RX7) (T := TX7) (N := 31) (As := [.int x1]) (rest := []) X hw hA (m_X7_isReport l D cy q G_1 x1 _ h) (by decide) rfl (cwV 1 hts gX7_distance_X7_isReport rfl rfl rfl (by decide +kernel) ⟨Nat.le_of_ble_eq_true rfl, Nat.le_of_ble_eq_true rfl⟩) rfl hl.1 rfl (Nat.le_of_ble_eq_true rfl) dX7_distance_7 ⟨Nat.zero_le _, Nat.zero_le _⟩ (fun r_3 G_2 H locs h hw => ?_)
  refine lv_if_eq (tgt := 35) hx hb dX7_distance_10 (by decide) (fun c10_3 => ?_) (fun c10_3 => ?_)
  · have h := h.1 c10_3
    refine lv_iconst (v := (-1)) hx hb dX7_distance_35 (by decide) ?_
    exact g_iret X hw hr hlk h dX7_distance_36
  · have h := h.2 c10_3
    refine lv_aload_n hx hb dX7_distance_13 rfl (lv_at hl 0 rfl) ?_
    refine lv_iload_n hx hb dX7_distance_14 rfl (lv_at hl 2 rfl) ?_
    refine g_callVi 7 (C := RX7) (T := TX7) (N := 31) (As := [.int x2]) (rest := []) X hw hA (m_X7_isReport l D cy q G_2 x2 _ h) (by decide) rfl (cwV 1 hts gX7_distance_X7_isReport rfl rfl rfl (by decide +kernel) ⟨Nat.le_of_ble_eq_true rfl, Nat.le_of_ble_eq_true rfl⟩) rfl hl.1 rfl (Nat.le_of_ble_eq_true rfl) dX7_distance_15 ⟨Nat.zero_le _, Nat.zero_le _⟩ (fun r_6 G_5 H locs h hw => ?_)
    refine lv_if_eq (tgt := 35) hx hb dX7_distance_18 (by decide) (fun c18_6 => ?_) (fun c18_6 => ?_)
    · have h := h.1 c18_6
      refine lv_iconst (v := (-1)) hx hb dX7_distance_35 (by decide) ?_
      exact g_iret X hw hr hlk h dX7_distance_36
    · have h := h.2 c18_6
      refine lv_aload_n hx hb dX7_distance_21 rfl (lv_at hl 0 rfl) ?_
      refine g_get 7 16 (v := .ref (q 30)) (C := RX7) (T := TX7) (N := 31) X hw (by decide) hinX7 rfl (by decide) (List.mem_cons_of_mem _ (List.mem_append_left _ (List.mem_of_getElem? (i := 1) rfl))) rfl dX7_distance_22 ?_
      refine lv_bipush (v := 40) hx hb dX7_distance_25 (by decide) ?_
      refine lv_iload_n hx hb dX7_distance_27 rfl (lv_at hl 1 rfl) ?_
      refine lv_imul hx hb dX7_distance_28 ?_
      refine lv_iload_n hx hb dX7_distance_29 rfl (lv_at hl 2 rfl) ?_
      refine lv_iadd hx hb dX7_distance_30 ?_
      obtain ⟨j31_7, bj31_7, ej31_7, h⟩ := h
      refine g_iald 30 1600 j31_7 X hw (Or.inr ⟨by decide, by decide⟩) rfl bj31_7 ej31_7 (by decide) dX7_distance_31 ?_
      refine lv_goto (tgt := 36) hx hb dX7_distance_32 (by decide) ?_
      exact g_iret X hw hr hlk h dX7_distance_36

abbrev rmX7_heap : Room := { frames := 1, cells := 0, slots := 0, locals := 21 }
def wp_X7_heap (G : GS) (x1 : Int32) (post : Int32 → GS → Prop) : Prop :=
  ∀ G_1 : GS, G_1 = sI G 7 0 0 → (wp_X7_isReport G_1 x1 (fun r_3 G_2 => (r_3 = 0 → (post (-1) G_2)) ∧ (¬ (r_3 = 0) → (∃ j18_4 : Nat, j18_4 < 40 ∧ x1 = nI j18_4 ∧ (post (G_2.1 26 j18_4) G_2)))))
set_option maxHeartbeats 4000000 in
set_option maxRecDepth 100000 in
theorem m_X7_heap (l : Launch) (D : va_G) (cy : Nat → ClassId) (q : Nat → Nat) (G : GS) (x1 : Int32) (post : Int32 → GS → Prop) (h : wp_X7_heap G x1 post) : gMi l yX7_heap wsX7_heap rmX7_heap D cy q [.ref (q 7), .int x1] G post := by
  intro sz
  refine Met.ofW (cc := cX7_heap) (maxL := 2) (ret := (some .int)) (by decide) rfl ?_
  intro p e s m args below meth c s₁ B hml hv
  obtain ⟨ha, hsz, X, hw, hA, hr, hlk⟩ := g_start B hml hv
  have hx := X.1.1
  have hb := X.1.2.1
  have hown := X.1.2.2.2.1
  have hts := X.1.2.2.2.2
  refine g_in ha (Nat.le_of_ble_eq_true rfl) (fun ls hl => ?_)
  have hl : lv_has ls 2 [(0, .ref (q 7)), (1, .int x1)] := hl
  unfold wp_X7_heap at h
  have hinX7 : ∀ w ∈ wsX70, w ∈ wsX7_heap := fun _ h9 => (List.mem_cons_of_mem _ (List.mem_append_right _ h9))
  refine lv_aload_n hx hb dX7_heap_0 rfl (lv_at hl 0 rfl) ?_
  refine lv_iconst (v := 0) hx hb dX7_heap_1 (by decide) ?_
  refine g_put 7 0 (v := 0) (ty := .int) (C := RX7) (T := TX7) (N := 31) X hw (by decide) hinX7 tyX7_ok nmX7 rfl (by decide) (List.mem_cons_of_mem _ (List.mem_append_left _ (List.mem_of_getElem? (i := 0) rfl))) rfl (by decide +kernel) rfl rfl (Nat.le_of_ble_eq_true rfl) rfl dX7_heap_2 (fun H locs hw => ?_)
  obtain ⟨G_1, eG_1⟩ : ∃ z, z = sI G 7 0 0 := ⟨_, rfl⟩
  rw [← eG_1] at hw
  have h := h G_1 eG_1
  refine lv_aload_n hx hb dX7_heap_5 rfl (lv_at hl 0 rfl) ?_
  refine lv_iload_n hx hb dX7_heap_6 rfl (lv_at hl 1 rfl) ?_
  refine g_callVi 7 (C := RX7) (T := TX7) (N := 31) (As := [.int x1]) (rest := []) X hw hA (m_X7_isReport l D cy q G_1 x1 _ h) (by decide) rfl (cwV 1 hts gX7_heap_X7_isReport rfl rfl rfl (by decide +kernel) ⟨Nat.le_of_ble_eq_true rfl, Nat.le_of_ble_eq_true rfl⟩) rfl hl.1 rfl (Nat.le_of_ble_eq_true rfl) dX7_heap_7 ⟨Nat.zero_le _, Nat.zero_le _⟩ (fun r_3 G_2 H locs h hw => ?_)
  refine lv_if_eq (tgt := 22) hx hb dX7_heap_10 (by decide) (fun c10_3 => ?_) (fun c10_3 => ?_)
  · have h := h.1 c10_3
    refine lv_iconst (v := (-1)) hx hb dX7_heap_22 (by decide) ?_
    exact g_iret X hw hr hlk h dX7_heap_23
  · have h := h.2 c10_3
    refine lv_aload_n hx hb dX7_heap_13 rfl (lv_at hl 0 rfl) ?_
    refine g_get 7 10 (v := .ref (q 26)) (C := RX7) (T := TX7) (N := 31) X hw (by decide) hinX7 rfl (by decide) (List.mem_cons_of_mem _ (List.mem_append_left _ (List.mem_of_getElem? (i := 1) rfl))) rfl dX7_heap_14 ?_
    refine lv_iload_n hx hb dX7_heap_17 rfl (lv_at hl 1 rfl) ?_
    obtain ⟨j18_4, bj18_4, ej18_4, h⟩ := h
    refine g_iald 26 40 j18_4 X hw (Or.inr ⟨by decide, by decide⟩) rfl bj18_4 ej18_4 (by decide) dX7_heap_18 ?_
    refine lv_goto (tgt := 23) hx hb dX7_heap_19 (by decide) ?_
    exact g_iret X hw hr hlk h dX7_heap_23

abbrev rmX7_cost : Room := { frames := 2, cells := 0, slots := 0, locals := 43 }
def wp_X7_cost (G : GS) (x1 : Int32) (x2 : Int32) (post : Int32 → GS → Prop) : Prop :=
  ∀ G_1 : GS, G_1 = sI G 7 0 0 → ((x2 = (-1) → (∃ I55_3 : Nat → Int32 → Int32 → GS → Prop, (∃ n_3 : Nat, I55_3 n_3 0 0 G_1) ∧ ∀ (n_3 : Nat) (v3_3 : Int32) (v4_3 : Int32) (G_3 : GS), I55_3 n_3 v3_3 v4_3 G_3 → (((G_3.1 7 5) ≤ v4_3 → (post v3_3 G_3)) ∧ (¬ ((G_3.1 7 5) ≤ v4_3) → (∃ I67_5 : Nat → Int32 → Int32 → GS → Prop, (∃ n_5 : Nat, I67_5 n_5 v3_3 0 G_3) ∧ ∀ (n_5 : Nat) (v3_5 : Int32) (v5_5 : Int32) (G_5 : GS), I67_5 n_5 v3_5 v5_5 G_5 → ((v4_3 ≤ v5_5 → (∃ k_8 : Nat, k_8 < n_3 ∧ I55_3 k_8 v3_5 (v4_3 + 1) G_5)) ∧ (¬ (v4_3 ≤ v5_5) → (∃ j86_8 : Nat, j86_8 < 40 ∧ v4_3 = nI j86_8 ∧ (∃ j93_9 : Nat, j93_9 < 40 ∧ v5_5 = nI j93_9 ∧ ((¬ (G_5.1 26 j86_8) = (G_5.1 26 j93_9) → (wp_X7_pairCost G_5 v4_3 v5_5 0 (fun r_13 G_12 => ∀ y_14 : Int32, y_14 = v3_5 + r_13 → (∃ k_16 : Nat, k_16 < n_5 ∧ I67_5 k_16 y_14 (v5_5 + 1) G_12)))) ∧ ((G_5.1 26 j86_8) = (G_5.1 26 j93_9) → (wp_X7_pairCost G_5 v4_3 v5_5 1 (fun r_18 G_17 => ∀ y_19 : Int32, y_19 = v3_5 + r_18 → (∃ k_21 : Nat, k_21 < n_5 ∧ I67_5 k_21 y_19 (v5_5 + 1) G_17)))))))))))))) ∧ (¬ (x2 = (-1)) → (wp_X7_areTwo G_1 x1 x2 (fun r_23 G_22 => (r_23 = 0 → (post (-1) G_22)) ∧ (¬ (r_23 = 0) → (∃ j27_24 : Nat, j27_24 < 40 ∧ x1 = nI j27_24 ∧ (∃ j33_25 : Nat, j33_25 < 40 ∧ x2 = nI j33_25 ∧ ((¬ (G_22.1 26 j27_24) = (G_22.1 26 j33_25) → (wp_X7_pairCost G_22 x1 x2 0 (fun r_29 G_28 => post r_29 G_28))) ∧ ((G_22.1 26 j27_24) = (G_22.1 26 j33_25) → (wp_X7_pairCost G_22 x1 x2 1 (fun r_31 G_30 => post r_31 G_30)))))))))))
set_option maxHeartbeats 4000000 in
set_option maxRecDepth 100000 in
theorem m_X7_cost (l : Launch) (D : va_G) (cy : Nat → ClassId) (q : Nat → Nat) (G : GS) (x1 : Int32) (x2 : Int32) (post : Int32 → GS → Prop) (h : wp_X7_cost G x1 x2 post) : gMi l yX7_cost wsX7_cost rmX7_cost D cy q [.ref (q 7), .int x1, .int x2] G post := by
  intro sz
  refine Met.ofW (cc := cX7_cost) (maxL := 6) (ret := (some .int)) (by decide) rfl ?_
  intro p e s m args below meth c s₁ B hml hv
  obtain ⟨ha, hsz, X, hw, hA, hr, hlk⟩ := g_start B hml hv
  have hx := X.1.1
  have hb := X.1.2.1
  have hown := X.1.2.2.2.1
  have hts := X.1.2.2.2.2
  refine g_in ha (Nat.le_of_ble_eq_true rfl) (fun ls hl => ?_)
  have hl : lv_has ls 6 [(0, .ref (q 7)), (1, .int x1), (2, .int x2)] := hl
  unfold wp_X7_cost at h
  have hinX7 : ∀ w ∈ wsX70, w ∈ wsX7_cost := fun _ h9 => (List.mem_cons_of_mem _ (List.mem_append_right _ h9))
  refine lv_aload_n hx hb dX7_cost_0 rfl (lv_at hl 0 rfl) ?_
  refine lv_iconst (v := 0) hx hb dX7_cost_1 (by decide) ?_
  refine g_put 7 0 (v := 0) (ty := .int) (C := RX7) (T := TX7) (N := 31) X hw (by decide) hinX7 tyX7_ok nmX7 rfl (by decide) (List.mem_cons_of_mem _ (List.mem_append_left _ (List.mem_of_getElem? (i := 0) rfl))) rfl (by decide +kernel) rfl rfl (Nat.le_of_ble_eq_true rfl) rfl dX7_cost_2 (fun H locs hw => ?_)
  obtain ⟨G_1, eG_1⟩ : ∃ z, z = sI G 7 0 0 := ⟨_, rfl⟩
  rw [← eG_1] at hw
  have h := h G_1 eG_1
  refine lv_iload_n hx hb dX7_cost_5 rfl (lv_at hl 2 rfl) ?_
  refine lv_iconst (v := (-1)) hx hb dX7_cost_6 (by decide) ?_
  refine lv_icmp_eq (tgt := 50) hx hb dX7_cost_7 (by decide) (fun c7_1 => ?_) (fun c7_1 => ?_)
  · have h := h.1 c7_1
    refine lv_iconst (v := 0) hx hb dX7_cost_50 (by decide) ?_
    refine lv_istore_n (lv' := [(3, .int 0), (0, .ref (q 7)), (1, .int x1), (2, .int x2)]) hx hb dX7_cost_51 rfl hl (by decide) rfl (fun ls hl => ?_)
    refine lv_iconst (v := 0) hx hb dX7_cost_52 (by decide) ?_
    refine lv_istore (lv' := [(4, .int 0), (3, .int 0), (0, .ref (q 7)), (1, .int x1), (2, .int x2)]) hx hb dX7_cost_53 hl (by decide) rfl (fun ls hl => ?_)
    obtain ⟨I55_3, ⟨n_3, h0⟩, hI55_3⟩ := h
    have LI55_3 : ∀ (n_3 : Nat) (v3_3 : Int32) (v4_3 : Int32) (G_3 : GS) (H : Heap) (locs : List Loc) (ls : Array Slot), gH D cy q (gA q sz) s.heap G_3 H locs → lv_has ls 6 [(0, .ref (q 7)), (3, .int v3_3), (4, .int v4_3)] → I55_3 n_3 v3_3 v4_3 G_3 → W p l e (headSpec wsX7_cost rmX7_cost).room s m args below meth c H locs 0 0 (MQ below (va_Qi post (gPo D cy q sz) (gA q sz)) args s 0 0 (gA q sz)) (F0 m 55 ls []) := by
      intro n_3
      induction n_3 using Nat.strongRecOn with
      | ind n_3 ihI55_3 =>
        intro v3_3 v4_3 G_3 H locs ls hw hl h
        have h := hI55_3 n_3 v3_3 v4_3 G_3 h
        refine lv_iload hx hb dX7_cost_55 (lv_at hl 2 rfl) ?_
        refine lv_aload_n hx hb dX7_cost_57 rfl (lv_at hl 0 rfl) ?_
        refine g_get 7 5 (v := .int (G_3.1 7 5)) (C := RX7) (T := TX7) (N := 31) X hw (by decide) hinX7 rfl (by decide) (List.mem_cons_of_mem _ (List.mem_append_left _ (List.mem_of_getElem? (i := 2) rfl))) rfl dX7_cost_58 ?_
        refine lv_icmp_ge (tgt := 119) hx hb dX7_cost_61 (by decide) (fun c61_3 => ?_) (fun c61_3 => ?_)
        · have h := h.1 c61_3
          refine lv_iload_n hx hb dX7_cost_119 rfl (lv_at hl 1 rfl) ?_
          exact g_iret X hw hr hlk h dX7_cost_120
        · have h := h.2 c61_3
          refine lv_iconst (v := 0) hx hb dX7_cost_64 (by decide) ?_
          refine lv_istore (lv' := [(5, .int 0), (0, .ref (q 7)), (3, .int v3_3), (4, .int v4_3)]) hx hb dX7_cost_65 hl (by decide) rfl (fun ls hl => ?_)
          obtain ⟨I67_5, ⟨n_5, h0⟩, hI67_5⟩ := h
          have LI67_5 : ∀ (n_5 : Nat) (v3_5 : Int32) (v5_5 : Int32) (G_5 : GS) (H : Heap) (locs : List Loc) (ls : Array Slot), gH D cy q (gA q sz) s.heap G_5 H locs → lv_has ls 6 [(0, .ref (q 7)), (3, .int v3_5), (4, .int v4_3), (5, .int v5_5)] → I67_5 n_5 v3_5 v5_5 G_5 → W p l e (headSpec wsX7_cost rmX7_cost).room s m args below meth c H locs 0 0 (MQ below (va_Qi post (gPo D cy q sz) (gA q sz)) args s 0 0 (gA q sz)) (F0 m 67 ls []) := by
            intro n_5
            induction n_5 using Nat.strongRecOn with
            | ind n_5 ihI67_5 =>
              intro v3_5 v5_5 G_5 H locs ls hw hl h
              have h := hI67_5 n_5 v3_5 v5_5 G_5 h
              refine lv_iload hx hb dX7_cost_67 (lv_at hl 3 rfl) ?_
              refine lv_iload hx hb dX7_cost_69 (lv_at hl 2 rfl) ?_
              refine lv_icmp_ge (tgt := 113) hx hb dX7_cost_71 (by decide) (fun c71_5 => ?_) (fun c71_5 => ?_)
              · have h := h.1 c71_5
                refine lv_iinc (v := v4_3 + 1) (lv' := [(4, .int (v4_3 + 1)), (0, .ref (q 7)), (3, .int v3_5), (5, .int v5_5)]) hx hb dX7_cost_113 hl (k := 2) rfl rfl (by decide) rfl (fun ls hl => ?_)
                refine lv_goto (tgt := 55) hx hb dX7_cost_116 (by decide) ?_
                obtain ⟨k_8, hm, h⟩ := h
                exact ihI55_3 k_8 hm v3_5 (v4_3 + 1) G_5 _ _ ls hw (lv_sub hl [1, 2, 0] rfl) h
              · have h := h.2 c71_5
                refine lv_iload_n hx hb dX7_cost_74 rfl (lv_at hl 1 rfl) ?_
                refine lv_aload_n hx hb dX7_cost_75 rfl (lv_at hl 0 rfl) ?_
                refine lv_iload hx hb dX7_cost_76 (lv_at hl 2 rfl) ?_
                refine lv_iload hx hb dX7_cost_78 (lv_at hl 3 rfl) ?_
                refine lv_aload_n hx hb dX7_cost_80 rfl (lv_at hl 0 rfl) ?_
                refine g_get 7 10 (v := .ref (q 26)) (C := RX7) (T := TX7) (N := 31) X hw (by decide) hinX7 rfl (by decide) (List.mem_cons_of_mem _ (List.mem_append_left _ (List.mem_of_getElem? (i := 1) rfl))) rfl dX7_cost_81 ?_
                refine lv_iload hx hb dX7_cost_84 (lv_at hl 2 rfl) ?_
                obtain ⟨j86_8, bj86_8, ej86_8, h⟩ := h
                refine g_iald 26 40 j86_8 X hw (Or.inr ⟨by decide, by decide⟩) rfl bj86_8 ej86_8 (by decide) dX7_cost_86 ?_
                refine lv_aload_n hx hb dX7_cost_87 rfl (lv_at hl 0 rfl) ?_
                refine g_get 7 10 (v := .ref (q 26)) (C := RX7) (T := TX7) (N := 31) X hw (by decide) hinX7 rfl (by decide) (List.mem_cons_of_mem _ (List.mem_append_left _ (List.mem_of_getElem? (i := 1) rfl))) rfl dX7_cost_88 ?_
                refine lv_iload hx hb dX7_cost_91 (lv_at hl 3 rfl) ?_
                obtain ⟨j93_9, bj93_9, ej93_9, h⟩ := h
                refine g_iald 26 40 j93_9 X hw (Or.inr ⟨by decide, by decide⟩) rfl bj93_9 ej93_9 (by decide) dX7_cost_93 ?_
                refine lv_icmp_ne (tgt := 101) hx hb dX7_cost_94 (by decide) (fun c94_10 => ?_) (fun c94_10 => ?_)
                · have h := h.1 c94_10
                  refine lv_iconst (v := 0) hx hb dX7_cost_101 (by decide) ?_
                  refine g_callVi 7 (C := RX7) (T := TX7) (N := 31) (As := [.int v4_3, .int v5_5, .int 0]) (rest := [.int v3_5]) X hw hA (m_X7_pairCost l D cy q G_5 v4_3 v5_5 0 _ h) (by decide) rfl (cwV 3 hts gX7_cost_X7_pairCost rfl rfl rfl (by decide +kernel) ⟨Nat.le_of_ble_eq_true rfl, Nat.le_of_ble_eq_true rfl⟩) rfl hl.1 rfl (Nat.le_of_ble_eq_true rfl) dX7_cost_102 ⟨Nat.zero_le _, Nat.zero_le _⟩ (fun r_13 G_12 H locs h hw => ?_)
                  refine lv_iadd hx hb dX7_cost_105 ?_
                  refine lv_topi (fun y_14 ey_14 => ?_)
                  have h := h y_14 ey_14
                  refine lv_istore_n (lv' := [(3, .int y_14), (0, .ref (q 7)), (4, .int v4_3), (5, .int v5_5)]) hx hb dX7_cost_106 rfl hl (by decide) rfl (fun ls hl => ?_)
                  refine lv_iinc (v := v5_5 + 1) (lv' := [(5, .int (v5_5 + 1)), (3, .int y_14), (0, .ref (q 7)), (4, .int v4_3)]) hx hb dX7_cost_107 hl (k := 3) rfl rfl (by decide) rfl (fun ls hl => ?_)
                  refine lv_goto (tgt := 67) hx hb dX7_cost_110 (by decide) ?_
                  obtain ⟨k_16, hm, h⟩ := h
                  exact ihI67_5 k_16 hm y_14 (v5_5 + 1) G_12 _ _ ls hw (lv_sub hl [2, 1, 3, 0] rfl) h
                · have h := h.2 c94_10
                  refine lv_iconst (v := 1) hx hb dX7_cost_97 (by decide) ?_
                  refine lv_goto (tgt := 102) hx hb dX7_cost_98 (by decide) ?_
                  refine g_callVi 7 (C := RX7) (T := TX7) (N := 31) (As := [.int v4_3, .int v5_5, .int 1]) (rest := [.int v3_5]) X hw hA (m_X7_pairCost l D cy q G_5 v4_3 v5_5 1 _ h) (by decide) rfl (cwV 3 hts gX7_cost_X7_pairCost rfl rfl rfl (by decide +kernel) ⟨Nat.le_of_ble_eq_true rfl, Nat.le_of_ble_eq_true rfl⟩) rfl hl.1 rfl (Nat.le_of_ble_eq_true rfl) dX7_cost_102 ⟨Nat.zero_le _, Nat.zero_le _⟩ (fun r_18 G_17 H locs h hw => ?_)
                  refine lv_iadd hx hb dX7_cost_105 ?_
                  refine lv_topi (fun y_19 ey_19 => ?_)
                  have h := h y_19 ey_19
                  refine lv_istore_n (lv' := [(3, .int y_19), (0, .ref (q 7)), (4, .int v4_3), (5, .int v5_5)]) hx hb dX7_cost_106 rfl hl (by decide) rfl (fun ls hl => ?_)
                  refine lv_iinc (v := v5_5 + 1) (lv' := [(5, .int (v5_5 + 1)), (3, .int y_19), (0, .ref (q 7)), (4, .int v4_3)]) hx hb dX7_cost_107 hl (k := 3) rfl rfl (by decide) rfl (fun ls hl => ?_)
                  refine lv_goto (tgt := 67) hx hb dX7_cost_110 (by decide) ?_
                  obtain ⟨k_21, hm, h⟩ := h
                  exact ihI67_5 k_21 hm y_19 (v5_5 + 1) G_17 _ _ ls hw (lv_sub hl [2, 1, 3, 0] rfl) h
          exact LI67_5 n_5 v3_3 0 G_3 _ _ ls hw (lv_sub hl [1, 2, 3, 0] rfl) h0
    exact LI55_3 n_3 0 0 G_1 _ _ ls hw (lv_sub hl [2, 1, 0] rfl) h0
  · have h := h.2 c7_1
    refine lv_aload_n hx hb dX7_cost_10 rfl (lv_at hl 0 rfl) ?_
    refine lv_iload_n hx hb dX7_cost_11 rfl (lv_at hl 1 rfl) ?_
    refine lv_iload_n hx hb dX7_cost_12 rfl (lv_at hl 2 rfl) ?_
    refine g_callVi 7 (C := RX7) (T := TX7) (N := 31) (As := [.int x1, .int x2]) (rest := []) X hw hA (m_X7_areTwo l D cy q G_1 x1 x2 _ h) (by decide) rfl (cwV 2 hts gX7_cost_X7_areTwo rfl rfl rfl (by decide +kernel) ⟨Nat.le_of_ble_eq_true rfl, Nat.le_of_ble_eq_true rfl⟩) rfl hl.1 rfl (Nat.le_of_ble_eq_true rfl) dX7_cost_13 ⟨Nat.zero_le _, Nat.zero_le _⟩ (fun r_23 G_22 H locs h hw => ?_)
    refine lv_if_eq (tgt := 48) hx hb dX7_cost_16 (by decide) (fun c16_23 => ?_) (fun c16_23 => ?_)
    · have h := h.1 c16_23
      refine lv_iconst (v := (-1)) hx hb dX7_cost_48 (by decide) ?_
      exact g_iret X hw hr hlk h dX7_cost_49
    · have h := h.2 c16_23
      refine lv_aload_n hx hb dX7_cost_19 rfl (lv_at hl 0 rfl) ?_
      refine lv_iload_n hx hb dX7_cost_20 rfl (lv_at hl 1 rfl) ?_
      refine lv_iload_n hx hb dX7_cost_21 rfl (lv_at hl 2 rfl) ?_
      refine lv_aload_n hx hb dX7_cost_22 rfl (lv_at hl 0 rfl) ?_
      refine g_get 7 10 (v := .ref (q 26)) (C := RX7) (T := TX7) (N := 31) X hw (by decide) hinX7 rfl (by decide) (List.mem_cons_of_mem _ (List.mem_append_left _ (List.mem_of_getElem? (i := 1) rfl))) rfl dX7_cost_23 ?_
      refine lv_iload_n hx hb dX7_cost_26 rfl (lv_at hl 1 rfl) ?_
      obtain ⟨j27_24, bj27_24, ej27_24, h⟩ := h
      refine g_iald 26 40 j27_24 X hw (Or.inr ⟨by decide, by decide⟩) rfl bj27_24 ej27_24 (by decide) dX7_cost_27 ?_
      refine lv_aload_n hx hb dX7_cost_28 rfl (lv_at hl 0 rfl) ?_
      refine g_get 7 10 (v := .ref (q 26)) (C := RX7) (T := TX7) (N := 31) X hw (by decide) hinX7 rfl (by decide) (List.mem_cons_of_mem _ (List.mem_append_left _ (List.mem_of_getElem? (i := 1) rfl))) rfl dX7_cost_29 ?_
      refine lv_iload_n hx hb dX7_cost_32 rfl (lv_at hl 2 rfl) ?_
      obtain ⟨j33_25, bj33_25, ej33_25, h⟩ := h
      refine g_iald 26 40 j33_25 X hw (Or.inr ⟨by decide, by decide⟩) rfl bj33_25 ej33_25 (by decide) dX7_cost_33 ?_
      refine lv_icmp_ne (tgt := 41) hx hb dX7_cost_34 (by decide) (fun c34_26 => ?_) (fun c34_26 => ?_)
      · have h := h.1 c34_26
        refine lv_iconst (v := 0) hx hb dX7_cost_41 (by decide) ?_
        refine g_callVi 7 (C := RX7) (T := TX7) (N := 31) (As := [.int x1, .int x2, .int 0]) (rest := []) X hw hA (m_X7_pairCost l D cy q G_22 x1 x2 0 _ h) (by decide) rfl (cwV 3 hts gX7_cost_X7_pairCost rfl rfl rfl (by decide +kernel) ⟨Nat.le_of_ble_eq_true rfl, Nat.le_of_ble_eq_true rfl⟩) rfl hl.1 rfl (Nat.le_of_ble_eq_true rfl) dX7_cost_42 ⟨Nat.zero_le _, Nat.zero_le _⟩ (fun r_29 G_28 H locs h hw => ?_)
        refine lv_goto (tgt := 49) hx hb dX7_cost_45 (by decide) ?_
        exact g_iret X hw hr hlk h dX7_cost_49
      · have h := h.2 c34_26
        refine lv_iconst (v := 1) hx hb dX7_cost_37 (by decide) ?_
        refine lv_goto (tgt := 42) hx hb dX7_cost_38 (by decide) ?_
        refine g_callVi 7 (C := RX7) (T := TX7) (N := 31) (As := [.int x1, .int x2, .int 1]) (rest := []) X hw hA (m_X7_pairCost l D cy q G_22 x1 x2 1 _ h) (by decide) rfl (cwV 3 hts gX7_cost_X7_pairCost rfl rfl rfl (by decide +kernel) ⟨Nat.le_of_ble_eq_true rfl, Nat.le_of_ble_eq_true rfl⟩) rfl hl.1 rfl (Nat.le_of_ble_eq_true rfl) dX7_cost_42 ⟨Nat.zero_le _, Nat.zero_le _⟩ (fun r_31 G_30 H locs h hw => ?_)
        refine lv_goto (tgt := 49) hx hb dX7_cost_45 (by decide) ?_
        exact g_iret X hw hr hlk h dX7_cost_49

abbrev rmX7_row : Room := { frames := 1, cells := 0, slots := 0, locals := 21 }
def wp_X7_row (G : GS) (x1 : Int32) (x2 : Int32) (post : Int32 → GS → Prop) : Prop :=
  ∀ G_1 : GS, G_1 = sI G 7 0 0 → (wp_X7_isReport G_1 x1 (fun r_3 G_2 => (r_3 = 0 → (post (-1) G_2)) ∧ (¬ (r_3 = 0) → ((x2 < 0 → (post (-1) G_2)) ∧ (¬ (x2 < 0) → (∃ j23_5 : Nat, j23_5 < 40 ∧ x1 = nI j23_5 ∧ ((x2 < (G_2.1 23 j23_5) → (∃ j41_7 : Nat, j41_7 < 480 ∧ (12 * x1) + x2 = nI j41_7 ∧ (post (G_2.1 22 j41_7) G_2))) ∧ (¬ (x2 < (G_2.1 23 j23_5)) → (post (-1) G_2)))))))))
set_option maxHeartbeats 4000000 in
set_option maxRecDepth 100000 in
theorem m_X7_row (l : Launch) (D : va_G) (cy : Nat → ClassId) (q : Nat → Nat) (G : GS) (x1 : Int32) (x2 : Int32) (post : Int32 → GS → Prop) (h : wp_X7_row G x1 x2 post) : gMi l yX7_row wsX7_row rmX7_row D cy q [.ref (q 7), .int x1, .int x2] G post := by
  intro sz
  refine Met.ofW (cc := cX7_row) (maxL := 3) (ret := (some .int)) (by decide) rfl ?_
  intro p e s m args below meth c s₁ B hml hv
  obtain ⟨ha, hsz, X, hw, hA, hr, hlk⟩ := g_start B hml hv
  have hx := X.1.1
  have hb := X.1.2.1
  have hown := X.1.2.2.2.1
  have hts := X.1.2.2.2.2
  refine g_in ha (Nat.le_of_ble_eq_true rfl) (fun ls hl => ?_)
  have hl : lv_has ls 3 [(0, .ref (q 7)), (1, .int x1), (2, .int x2)] := hl
  unfold wp_X7_row at h
  have hinX7 : ∀ w ∈ wsX70, w ∈ wsX7_row := fun _ h9 => (List.mem_cons_of_mem _ (List.mem_append_right _ h9))
  refine lv_aload_n hx hb dX7_row_0 rfl (lv_at hl 0 rfl) ?_
  refine lv_iconst (v := 0) hx hb dX7_row_1 (by decide) ?_
  refine g_put 7 0 (v := 0) (ty := .int) (C := RX7) (T := TX7) (N := 31) X hw (by decide) hinX7 tyX7_ok nmX7 rfl (by decide) (List.mem_cons_of_mem _ (List.mem_append_left _ (List.mem_of_getElem? (i := 0) rfl))) rfl (by decide +kernel) rfl rfl (Nat.le_of_ble_eq_true rfl) rfl dX7_row_2 (fun H locs hw => ?_)
  obtain ⟨G_1, eG_1⟩ : ∃ z, z = sI G 7 0 0 := ⟨_, rfl⟩
  rw [← eG_1] at hw
  have h := h G_1 eG_1
  refine lv_aload_n hx hb dX7_row_5 rfl (lv_at hl 0 rfl) ?_
  refine lv_iload_n hx hb dX7_row_6 rfl (lv_at hl 1 rfl) ?_
  refine g_callVi 7 (C := RX7) (T := TX7) (N := 31) (As := [.int x1]) (rest := []) X hw hA (m_X7_isReport l D cy q G_1 x1 _ h) (by decide) rfl (cwV 1 hts gX7_row_X7_isReport rfl rfl rfl (by decide +kernel) ⟨Nat.le_of_ble_eq_true rfl, Nat.le_of_ble_eq_true rfl⟩) rfl hl.1 rfl (Nat.le_of_ble_eq_true rfl) dX7_row_7 ⟨Nat.zero_le _, Nat.zero_le _⟩ (fun r_3 G_2 H locs h hw => ?_)
  refine lv_if_eq (tgt := 27) hx hb dX7_row_10 (by decide) (fun c10_3 => ?_) (fun c10_3 => ?_)
  · have h := h.1 c10_3
    refine lv_iconst (v := (-1)) hx hb dX7_row_27 (by decide) ?_
    refine lv_goto (tgt := 42) hx hb dX7_row_28 (by decide) ?_
    exact g_iret X hw hr hlk h dX7_row_42
  · have h := h.2 c10_3
    refine lv_iload_n hx hb dX7_row_13 rfl (lv_at hl 2 rfl) ?_
    refine lv_if_lt (tgt := 27) hx hb dX7_row_14 (by decide) (fun c14_4 => ?_) (fun c14_4 => ?_)
    · have h := h.1 c14_4
      refine lv_iconst (v := (-1)) hx hb dX7_row_27 (by decide) ?_
      refine lv_goto (tgt := 42) hx hb dX7_row_28 (by decide) ?_
      exact g_iret X hw hr hlk h dX7_row_42
    · have h := h.2 c14_4
      refine lv_iload_n hx hb dX7_row_17 rfl (lv_at hl 2 rfl) ?_
      refine lv_aload_n hx hb dX7_row_18 rfl (lv_at hl 0 rfl) ?_
      refine g_get 7 7 (v := .ref (q 23)) (C := RX7) (T := TX7) (N := 31) X hw (by decide) hinX7 rfl (by decide) (List.mem_cons_of_mem _ (List.mem_append_left _ (List.mem_of_getElem? (i := 1) rfl))) rfl dX7_row_19 ?_
      refine lv_iload_n hx hb dX7_row_22 rfl (lv_at hl 1 rfl) ?_
      obtain ⟨j23_5, bj23_5, ej23_5, h⟩ := h
      refine g_iald 23 40 j23_5 X hw (Or.inr ⟨by decide, by decide⟩) rfl bj23_5 ej23_5 (by decide) dX7_row_23 ?_
      refine lv_icmp_lt (tgt := 31) hx hb dX7_row_24 (by decide) (fun c24_6 => ?_) (fun c24_6 => ?_)
      · have h := h.1 c24_6
        refine lv_aload_n hx hb dX7_row_31 rfl (lv_at hl 0 rfl) ?_
        refine g_get 7 6 (v := .ref (q 22)) (C := RX7) (T := TX7) (N := 31) X hw (by decide) hinX7 rfl (by decide) (List.mem_cons_of_mem _ (List.mem_append_left _ (List.mem_of_getElem? (i := 2) rfl))) rfl dX7_row_32 ?_
        refine lv_bipush (v := 12) hx hb dX7_row_35 (by decide) ?_
        refine lv_iload_n hx hb dX7_row_37 rfl (lv_at hl 1 rfl) ?_
        refine lv_imul hx hb dX7_row_38 ?_
        refine lv_iload_n hx hb dX7_row_39 rfl (lv_at hl 2 rfl) ?_
        refine lv_iadd hx hb dX7_row_40 ?_
        obtain ⟨j41_7, bj41_7, ej41_7, h⟩ := h
        refine g_iald 22 480 j41_7 X hw (Or.inr ⟨by decide, by decide⟩) rfl bj41_7 ej41_7 (by decide) dX7_row_41 ?_
        exact g_iret X hw hr hlk h dX7_row_42
      · have h := h.2 c24_6
        refine lv_iconst (v := (-1)) hx hb dX7_row_27 (by decide) ?_
        refine lv_goto (tgt := 42) hx hb dX7_row_28 (by decide) ?_
        exact g_iret X hw hr hlk h dX7_row_42

abbrev rmX7_common : Room := { frames := 2, cells := 0, slots := 0, locals := 47 }
def wp_X7_common (G : GS) (x1 : Int32) (post : Int32 → GS → Prop) : Prop :=
  ∀ G_1 : GS, G_1 = sI G 7 0 0 → (wp_X7_isCommon G_1 x1 (fun r_3 G_2 => (r_3 = 0 → (post 0 G_2)) ∧ (¬ (r_3 = 0) → (post 1 G_2))))
set_option maxHeartbeats 4000000 in
set_option maxRecDepth 100000 in
theorem m_X7_common (l : Launch) (D : va_G) (cy : Nat → ClassId) (q : Nat → Nat) (G : GS) (x1 : Int32) (post : Int32 → GS → Prop) (h : wp_X7_common G x1 post) : gMi l yX7_common wsX7_common rmX7_common D cy q [.ref (q 7), .int x1] G post := by
  intro sz
  refine Met.ofW (cc := cX7_common) (maxL := 2) (ret := (some .int)) (by decide) rfl ?_
  intro p e s m args below meth c s₁ B hml hv
  obtain ⟨ha, hsz, X, hw, hA, hr, hlk⟩ := g_start B hml hv
  have hx := X.1.1
  have hb := X.1.2.1
  have hown := X.1.2.2.2.1
  have hts := X.1.2.2.2.2
  refine g_in ha (Nat.le_of_ble_eq_true rfl) (fun ls hl => ?_)
  have hl : lv_has ls 2 [(0, .ref (q 7)), (1, .int x1)] := hl
  unfold wp_X7_common at h
  have hinX7 : ∀ w ∈ wsX70, w ∈ wsX7_common := fun _ h9 => (List.mem_cons_of_mem _ (List.mem_append_right _ h9))
  refine lv_aload_n hx hb dX7_common_0 rfl (lv_at hl 0 rfl) ?_
  refine lv_iconst (v := 0) hx hb dX7_common_1 (by decide) ?_
  refine g_put 7 0 (v := 0) (ty := .int) (C := RX7) (T := TX7) (N := 31) X hw (by decide) hinX7 tyX7_ok nmX7 rfl (by decide) (List.mem_cons_of_mem _ (List.mem_append_left _ (List.mem_of_getElem? (i := 0) rfl))) rfl (by decide +kernel) rfl rfl (Nat.le_of_ble_eq_true rfl) rfl dX7_common_2 (fun H locs hw => ?_)
  obtain ⟨G_1, eG_1⟩ : ∃ z, z = sI G 7 0 0 := ⟨_, rfl⟩
  rw [← eG_1] at hw
  have h := h G_1 eG_1
  refine lv_aload_n hx hb dX7_common_5 rfl (lv_at hl 0 rfl) ?_
  refine lv_iload_n hx hb dX7_common_6 rfl (lv_at hl 1 rfl) ?_
  refine g_callVi 7 (C := RX7) (T := TX7) (N := 31) (As := [.int x1]) (rest := []) X hw hA (m_X7_isCommon l D cy q G_1 x1 _ h) (by decide) rfl (cwV 1 hts gX7_common_X7_isCommon rfl rfl rfl (by decide +kernel) ⟨Nat.le_of_ble_eq_true rfl, Nat.le_of_ble_eq_true rfl⟩) rfl hl.1 rfl (Nat.le_of_ble_eq_true rfl) dX7_common_7 ⟨Nat.zero_le _, Nat.zero_le _⟩ (fun r_3 G_2 H locs h hw => ?_)
  refine lv_if_eq (tgt := 17) hx hb dX7_common_10 (by decide) (fun c10_3 => ?_) (fun c10_3 => ?_)
  · have h := h.1 c10_3
    refine lv_iconst (v := 0) hx hb dX7_common_17 (by decide) ?_
    exact g_iret X hw hr hlk h dX7_common_18
  · have h := h.2 c10_3
    refine lv_iconst (v := 1) hx hb dX7_common_13 (by decide) ?_
    refine lv_goto (tgt := 18) hx hb dX7_common_14 (by decide) ?_
    exact g_iret X hw hr hlk h dX7_common_18

abbrev rmX7_findShared : Room := { frames := 1, cells := 0, slots := 0, locals := 24 }
def wp_X7_findShared (G : GS) (x1 : Int32) (post : GS → Prop) : Prop :=
  ∀ G_1 : GS, G_1 = sI G 7 29 0 → (∃ I7_2 : Nat → Int32 → GS → Prop, (∃ n_2 : Nat, I7_2 n_2 1 G_1) ∧ ∀ (n_2 : Nat) (v2_2 : Int32) (G_2 : GS), I7_2 n_2 v2_2 G_2 → ((500 < v2_2 → (post G_2)) ∧ (¬ (500 < v2_2) → (∃ I19_4 : Nat → Int32 → Int32 → GS → Prop, (∃ n_4 : Nat, I19_4 n_4 1 0 G_2) ∧ ∀ (n_4 : Nat) (v3_4 : Int32) (v4_4 : Int32) (G_4 : GS), I19_4 n_4 v3_4 v4_4 G_4 → (∃ J65_5 : Int32 → GS → Prop, (∀ (z3_5 : Int32) (G_6 : GS), J65_5 z3_5 G_6 → ((z3_5 = 0 → (∃ k_9 : Nat, k_9 < n_2 ∧ I7_2 k_9 (v2_2 + 1) G_6)) ∧ (¬ (z3_5 = 0) → ((12 ≤ (G_6.1 7 29) → (∃ k_12 : Nat, k_12 < n_2 ∧ I7_2 k_12 (v2_2 + 1) G_6)) ∧ (¬ (12 ≤ (G_6.1 7 29)) → (∃ j87_12 : Nat, j87_12 < 12 ∧ G_6.1 7 29 = nI j87_12 ∧ (∀ G_14 : GS, G_14 = sI G_6 35 j87_12 v2_2 → (∀ G_15 : GS, G_15 = sI G_14 7 29 ((G_14.1 7 29) + 1) → (∃ k_17 : Nat, k_17 < n_2 ∧ I7_2 k_17 (v2_2 + 1) G_15))))))))) ∧ (((G_4.1 7 5) ≤ v4_4 → (J65_5 v3_4 G_4)) ∧ (¬ ((G_4.1 7 5) ≤ v4_4) → ((v3_4 = 0 → (J65_5 v3_4 G_4)) ∧ (¬ (v3_4 = 0) → (∃ j38_19 : Nat, j38_19 < 40 ∧ v4_4 = nI j38_19 ∧ ((¬ (G_4.1 26 j38_19) = x1 → (∃ k_23 : Nat, k_23 < n_4 ∧ I19_4 k_23 1 (v4_4 + 1) G_4)) ∧ ((G_4.1 26 j38_19) = x1 → (wp_X7_stands G_4 v2_2 v4_4 (fun r_25 G_24 => (r_25 = 0 → (∃ k_28 : Nat, k_28 < n_4 ∧ I19_4 k_28 0 (v4_4 + 1) G_24)) ∧ (¬ (r_25 = 0) → (∃ k_30 : Nat, k_30 < n_4 ∧ I19_4 k_30 1 (v4_4 + 1) G_24))))))))))))))))
set_option maxHeartbeats 4000000 in
set_option maxRecDepth 100000 in
theorem m_X7_findShared (l : Launch) (D : va_G) (cy : Nat → ClassId) (q : Nat → Nat) (G : GS) (x1 : Int32) (post : GS → Prop) (h : wp_X7_findShared G x1 post) : gMv l yX7_findShared wsX7_findShared rmX7_findShared D cy q [.ref (q 7), .int x1] G post := by
  intro sz
  refine Met.ofW (cc := cX7_findShared) (maxL := 5) (ret := none) (by decide) rfl ?_
  intro p e s m args below meth c s₁ B hml hv
  obtain ⟨ha, hsz, X, hw, hA, hr, hlk⟩ := g_start B hml hv
  have hx := X.1.1
  have hb := X.1.2.1
  have hown := X.1.2.2.2.1
  have hts := X.1.2.2.2.2
  refine g_in ha (Nat.le_of_ble_eq_true rfl) (fun ls hl => ?_)
  have hl : lv_has ls 5 [(0, .ref (q 7)), (1, .int x1)] := hl
  unfold wp_X7_findShared at h
  have hinX7 : ∀ w ∈ wsX70, w ∈ wsX7_findShared := fun _ h9 => (List.mem_cons_of_mem _ (List.mem_append_right _ h9))
  refine lv_aload_n hx hb dX7_findShared_0 rfl (lv_at hl 0 rfl) ?_
  refine lv_iconst (v := 0) hx hb dX7_findShared_1 (by decide) ?_
  refine g_put 7 29 (v := 0) (ty := .int) (C := RX7) (T := TX7) (N := 31) X hw (by decide) hinX7 tyX7_ok nmX7 rfl (by decide) (List.mem_cons_of_mem _ (List.mem_append_left _ (List.mem_of_getElem? (i := 0) rfl))) rfl (by decide +kernel) rfl rfl (Nat.le_of_ble_eq_true rfl) rfl dX7_findShared_2 (fun H locs hw => ?_)
  obtain ⟨G_1, eG_1⟩ : ∃ z, z = sI G 7 29 0 := ⟨_, rfl⟩
  rw [← eG_1] at hw
  have h := h G_1 eG_1
  refine lv_iconst (v := 1) hx hb dX7_findShared_5 (by decide) ?_
  refine lv_istore_n (lv' := [(2, .int 1), (0, .ref (q 7)), (1, .int x1)]) hx hb dX7_findShared_6 rfl hl (by decide) rfl (fun ls hl => ?_)
  obtain ⟨I7_2, ⟨n_2, h0⟩, hI7_2⟩ := h
  have LI7_2 : ∀ (n_2 : Nat) (v2_2 : Int32) (G_2 : GS) (H : Heap) (locs : List Loc) (ls : Array Slot), gH D cy q (gA q sz) s.heap G_2 H locs → lv_has ls 5 [(0, .ref (q 7)), (1, .int x1), (2, .int v2_2)] → I7_2 n_2 v2_2 G_2 → W p l e (headSpec wsX7_findShared rmX7_findShared).room s m args below meth c H locs 0 0 (MQ below (va_Qv post (gPo D cy q sz) (gA q sz)) args s 0 0 (gA q sz)) (F0 m 7 ls []) := by
    intro n_2
    induction n_2 using Nat.strongRecOn with
    | ind n_2 ihI7_2 =>
      intro v2_2 G_2 H locs ls hw hl h
      have h := hI7_2 n_2 v2_2 G_2 h
      refine lv_iload_n hx hb dX7_findShared_7 rfl (lv_at hl 2 rfl) ?_
      refine lv_sipush (v := 500) hx hb dX7_findShared_8 (by decide) ?_
      refine lv_icmp_gt (tgt := 104) hx hb dX7_findShared_11 (by decide) (fun c11_2 => ?_) (fun c11_2 => ?_)
      · have h := h.1 c11_2
        exact g_vret X hw hr hlk h dX7_findShared_104
      · have h := h.2 c11_2
        refine lv_iconst (v := 1) hx hb dX7_findShared_14 (by decide) ?_
        refine lv_istore_n (lv' := [(3, .int 1), (0, .ref (q 7)), (1, .int x1), (2, .int v2_2)]) hx hb dX7_findShared_15 rfl hl (by decide) rfl (fun ls hl => ?_)
        refine lv_iconst (v := 0) hx hb dX7_findShared_16 (by decide) ?_
        refine lv_istore (lv' := [(4, .int 0), (3, .int 1), (0, .ref (q 7)), (1, .int x1), (2, .int v2_2)]) hx hb dX7_findShared_17 hl (by decide) rfl (fun ls hl => ?_)
        obtain ⟨I19_4, ⟨n_4, h0⟩, hI19_4⟩ := h
        have LI19_4 : ∀ (n_4 : Nat) (v3_4 : Int32) (v4_4 : Int32) (G_4 : GS) (H : Heap) (locs : List Loc) (ls : Array Slot), gH D cy q (gA q sz) s.heap G_4 H locs → lv_has ls 5 [(0, .ref (q 7)), (1, .int x1), (2, .int v2_2), (3, .int v3_4), (4, .int v4_4)] → I19_4 n_4 v3_4 v4_4 G_4 → W p l e (headSpec wsX7_findShared rmX7_findShared).room s m args below meth c H locs 0 0 (MQ below (va_Qv post (gPo D cy q sz) (gA q sz)) args s 0 0 (gA q sz)) (F0 m 19 ls []) := by
          intro n_4
          induction n_4 using Nat.strongRecOn with
          | ind n_4 ihI19_4 =>
            intro v3_4 v4_4 G_4 H locs ls hw hl h
            have h := hI19_4 n_4 v3_4 v4_4 G_4 h
            refine lv_iload hx hb dX7_findShared_19 (lv_at hl 4 rfl) ?_
            refine lv_aload_n hx hb dX7_findShared_21 rfl (lv_at hl 0 rfl) ?_
            refine g_get 7 5 (v := .int (G_4.1 7 5)) (C := RX7) (T := TX7) (N := 31) X hw (by decide) hinX7 rfl (by decide) (List.mem_cons_of_mem _ (List.mem_append_left _ (List.mem_of_getElem? (i := 1) rfl))) rfl dX7_findShared_22 ?_
            obtain ⟨J65_5, hJ65_5, h⟩ := h
            have LJ65_5 : ∀ (z3_5 : Int32) (G_6 : GS) (H : Heap) (locs : List Loc) (ls : Array Slot), gH D cy q (gA q sz) s.heap G_6 H locs → lv_has ls 5 [(0, .ref (q 7)), (1, .int x1), (2, .int v2_2), (3, .int z3_5)] → J65_5 z3_5 G_6 → W p l e (headSpec wsX7_findShared rmX7_findShared).room s m args below meth c H locs 0 0 (MQ below (va_Qv post (gPo D cy q sz) (gA q sz)) args s 0 0 (gA q sz)) (F0 m 65 ls []) := by
              intro z3_5 G_6 H locs ls hw hl h
              have h := hJ65_5 z3_5 G_6 h
              refine lv_iload_n hx hb dX7_findShared_65 rfl (lv_at hl 3 rfl) ?_
              refine lv_if_eq (tgt := 98) hx hb dX7_findShared_66 (by decide) (fun c66_6 => ?_) (fun c66_6 => ?_)
              · have h := h.1 c66_6
                refine lv_iinc (v := v2_2 + 1) (lv' := [(2, .int (v2_2 + 1)), (0, .ref (q 7)), (1, .int x1), (3, .int z3_5)]) hx hb dX7_findShared_98 hl (k := 2) rfl rfl (by decide) rfl (fun ls hl => ?_)
                refine lv_goto (tgt := 7) hx hb dX7_findShared_101 (by decide) ?_
                obtain ⟨k_9, hm, h⟩ := h
                exact ihI7_2 k_9 hm (v2_2 + 1) G_6 _ _ ls hw (lv_sub hl [1, 2, 0] rfl) h
              · have h := h.2 c66_6
                refine lv_aload_n hx hb dX7_findShared_69 rfl (lv_at hl 0 rfl) ?_
                refine g_get 7 29 (v := .int (G_6.1 7 29)) (C := RX7) (T := TX7) (N := 31) X hw (by decide) hinX7 rfl (by decide) (List.mem_cons_of_mem _ (List.mem_append_left _ (List.mem_of_getElem? (i := 0) rfl))) rfl dX7_findShared_70 ?_
                refine lv_bipush (v := 12) hx hb dX7_findShared_73 (by decide) ?_
                refine lv_icmp_ge (tgt := 98) hx hb dX7_findShared_75 (by decide) (fun c75_9 => ?_) (fun c75_9 => ?_)
                · have h := h.1 c75_9
                  refine lv_iinc (v := v2_2 + 1) (lv' := [(2, .int (v2_2 + 1)), (0, .ref (q 7)), (1, .int x1), (3, .int z3_5)]) hx hb dX7_findShared_98 hl (k := 2) rfl rfl (by decide) rfl (fun ls hl => ?_)
                  refine lv_goto (tgt := 7) hx hb dX7_findShared_101 (by decide) ?_
                  obtain ⟨k_12, hm, h⟩ := h
                  exact ihI7_2 k_12 hm (v2_2 + 1) G_6 _ _ ls hw (lv_sub hl [1, 2, 0] rfl) h
                · have h := h.2 c75_9
                  refine lv_aload_n hx hb dX7_findShared_78 rfl (lv_at hl 0 rfl) ?_
                  refine g_get 7 30 (v := .ref (q 35)) (C := RX7) (T := TX7) (N := 31) X hw (by decide) hinX7 rfl (by decide) (List.mem_cons_of_mem _ (List.mem_append_left _ (List.mem_of_getElem? (i := 3) rfl))) rfl dX7_findShared_79 ?_
                  refine lv_aload_n hx hb dX7_findShared_82 rfl (lv_at hl 0 rfl) ?_
                  refine g_get 7 29 (v := .int (G_6.1 7 29)) (C := RX7) (T := TX7) (N := 31) X hw (by decide) hinX7 rfl (by decide) (List.mem_cons_of_mem _ (List.mem_append_left _ (List.mem_of_getElem? (i := 0) rfl))) rfl dX7_findShared_83 ?_
                  refine lv_iload_n hx hb dX7_findShared_86 rfl (lv_at hl 2 rfl) ?_
                  obtain ⟨j87_12, bj87_12, ej87_12, h⟩ := h
                  refine g_iast 35 12 j87_12 X hw (Or.inr ⟨by decide, by decide⟩) rfl bj87_12 ej87_12 (by decide) dX7_findShared_87 (fun H locs hw => ?_)
                  obtain ⟨G_14, eG_14⟩ : ∃ z, z = sI G_6 35 j87_12 v2_2 := ⟨_, rfl⟩
                  rw [← eG_14] at hw
                  have h := h G_14 eG_14
                  refine lv_aload_n hx hb dX7_findShared_88 rfl (lv_at hl 0 rfl) ?_
                  refine lv_dup hx hb dX7_findShared_89 rfl ?_
                  refine g_get 7 29 (v := .int (G_14.1 7 29)) (C := RX7) (T := TX7) (N := 31) X hw (by decide) hinX7 rfl (by decide) (List.mem_cons_of_mem _ (List.mem_append_left _ (List.mem_of_getElem? (i := 0) rfl))) rfl dX7_findShared_90 ?_
                  refine lv_iconst (v := 1) hx hb dX7_findShared_93 (by decide) ?_
                  refine lv_iadd hx hb dX7_findShared_94 ?_
                  refine g_put 7 29 (v := (G_14.1 7 29) + 1) (ty := .int) (C := RX7) (T := TX7) (N := 31) X hw (by decide) hinX7 tyX7_ok nmX7 rfl (by decide) (List.mem_cons_of_mem _ (List.mem_append_left _ (List.mem_of_getElem? (i := 0) rfl))) rfl (by decide +kernel) rfl rfl (Nat.le_of_ble_eq_true rfl) rfl dX7_findShared_95 (fun H locs hw => ?_)
                  obtain ⟨G_15, eG_15⟩ : ∃ z, z = sI G_14 7 29 ((G_14.1 7 29) + 1) := ⟨_, rfl⟩
                  rw [← eG_15] at hw
                  have h := h G_15 eG_15
                  refine lv_iinc (v := v2_2 + 1) (lv' := [(2, .int (v2_2 + 1)), (0, .ref (q 7)), (1, .int x1), (3, .int z3_5)]) hx hb dX7_findShared_98 hl (k := 2) rfl rfl (by decide) rfl (fun ls hl => ?_)
                  refine lv_goto (tgt := 7) hx hb dX7_findShared_101 (by decide) ?_
                  obtain ⟨k_17, hm, h⟩ := h
                  exact ihI7_2 k_17 hm (v2_2 + 1) G_15 _ _ ls hw (lv_sub hl [1, 2, 0] rfl) h
            refine lv_icmp_ge (tgt := 65) hx hb dX7_findShared_25 (by decide) (fun c25_17 => ?_) (fun c25_17 => ?_)
            · have h := h.1 c25_17
              exact LJ65_5 v3_4 G_4 _ _ ls hw (lv_sub hl [0, 1, 2, 3] rfl) h
            · have h := h.2 c25_17
              refine lv_iload_n hx hb dX7_findShared_28 rfl (lv_at hl 3 rfl) ?_
              refine lv_if_eq (tgt := 65) hx hb dX7_findShared_29 (by decide) (fun c29_18 => ?_) (fun c29_18 => ?_)
              · have h := h.1 c29_18
                exact LJ65_5 v3_4 G_4 _ _ ls hw (lv_sub hl [0, 1, 2, 3] rfl) h
              · have h := h.2 c29_18
                refine lv_aload_n hx hb dX7_findShared_32 rfl (lv_at hl 0 rfl) ?_
                refine g_get 7 10 (v := .ref (q 26)) (C := RX7) (T := TX7) (N := 31) X hw (by decide) hinX7 rfl (by decide) (List.mem_cons_of_mem _ (List.mem_append_left _ (List.mem_of_getElem? (i := 2) rfl))) rfl dX7_findShared_33 ?_
                refine lv_iload hx hb dX7_findShared_36 (lv_at hl 4 rfl) ?_
                obtain ⟨j38_19, bj38_19, ej38_19, h⟩ := h
                refine g_iald 26 40 j38_19 X hw (Or.inr ⟨by decide, by decide⟩) rfl bj38_19 ej38_19 (by decide) dX7_findShared_38 ?_
                refine lv_iload_n hx hb dX7_findShared_39 rfl (lv_at hl 1 rfl) ?_
                refine lv_icmp_ne (tgt := 53) hx hb dX7_findShared_40 (by decide) (fun c40_20 => ?_) (fun c40_20 => ?_)
                · have h := h.1 c40_20
                  refine lv_iconst (v := 1) hx hb dX7_findShared_53 (by decide) ?_
                  refine lv_goto (tgt := 58) hx hb dX7_findShared_54 (by decide) ?_
                  refine lv_istore_n (lv' := [(3, .int 1), (0, .ref (q 7)), (1, .int x1), (2, .int v2_2), (4, .int v4_4)]) hx hb dX7_findShared_58 rfl hl (by decide) rfl (fun ls hl => ?_)
                  refine lv_iinc (v := v4_4 + 1) (lv' := [(4, .int (v4_4 + 1)), (3, .int 1), (0, .ref (q 7)), (1, .int x1), (2, .int v2_2)]) hx hb dX7_findShared_59 hl (k := 4) rfl rfl (by decide) rfl (fun ls hl => ?_)
                  refine lv_goto (tgt := 19) hx hb dX7_findShared_62 (by decide) ?_
                  obtain ⟨k_23, hm, h⟩ := h
                  exact ihI19_4 k_23 hm 1 (v4_4 + 1) G_4 _ _ ls hw (lv_sub hl [2, 3, 4, 1, 0] rfl) h
                · have h := h.2 c40_20
                  refine lv_aload_n hx hb dX7_findShared_43 rfl (lv_at hl 0 rfl) ?_
                  refine lv_iload_n hx hb dX7_findShared_44 rfl (lv_at hl 2 rfl) ?_
                  refine lv_iload hx hb dX7_findShared_45 (lv_at hl 4 rfl) ?_
                  refine g_callVi 7 (C := RX7) (T := TX7) (N := 31) (As := [.int v2_2, .int v4_4]) (rest := []) X hw hA (m_X7_stands l D cy q G_4 v2_2 v4_4 _ h) (by decide) rfl (cwV 2 hts gX7_findShared_X7_stands rfl rfl rfl (by decide +kernel) ⟨Nat.le_of_ble_eq_true rfl, Nat.le_of_ble_eq_true rfl⟩) rfl hl.1 rfl (Nat.le_of_ble_eq_true rfl) dX7_findShared_47 ⟨Nat.zero_le _, Nat.zero_le _⟩ (fun r_25 G_24 H locs h hw => ?_)
                  refine lv_if_eq (tgt := 57) hx hb dX7_findShared_50 (by decide) (fun c50_25 => ?_) (fun c50_25 => ?_)
                  · have h := h.1 c50_25
                    refine lv_iconst (v := 0) hx hb dX7_findShared_57 (by decide) ?_
                    refine lv_istore_n (lv' := [(3, .int 0), (0, .ref (q 7)), (1, .int x1), (2, .int v2_2), (4, .int v4_4)]) hx hb dX7_findShared_58 rfl hl (by decide) rfl (fun ls hl => ?_)
                    refine lv_iinc (v := v4_4 + 1) (lv' := [(4, .int (v4_4 + 1)), (3, .int 0), (0, .ref (q 7)), (1, .int x1), (2, .int v2_2)]) hx hb dX7_findShared_59 hl (k := 4) rfl rfl (by decide) rfl (fun ls hl => ?_)
                    refine lv_goto (tgt := 19) hx hb dX7_findShared_62 (by decide) ?_
                    obtain ⟨k_28, hm, h⟩ := h
                    exact ihI19_4 k_28 hm 0 (v4_4 + 1) G_24 _ _ ls hw (lv_sub hl [2, 3, 4, 1, 0] rfl) h
                  · have h := h.2 c50_25
                    refine lv_iconst (v := 1) hx hb dX7_findShared_53 (by decide) ?_
                    refine lv_goto (tgt := 58) hx hb dX7_findShared_54 (by decide) ?_
                    refine lv_istore_n (lv' := [(3, .int 1), (0, .ref (q 7)), (1, .int x1), (2, .int v2_2), (4, .int v4_4)]) hx hb dX7_findShared_58 rfl hl (by decide) rfl (fun ls hl => ?_)
                    refine lv_iinc (v := v4_4 + 1) (lv' := [(4, .int (v4_4 + 1)), (3, .int 1), (0, .ref (q 7)), (1, .int x1), (2, .int v2_2)]) hx hb dX7_findShared_59 hl (k := 4) rfl rfl (by decide) rfl (fun ls hl => ?_)
                    refine lv_goto (tgt := 19) hx hb dX7_findShared_62 (by decide) ?_
                    obtain ⟨k_30, hm, h⟩ := h
                    exact ihI19_4 k_30 hm 1 (v4_4 + 1) G_24 _ _ ls hw (lv_sub hl [2, 3, 4, 1, 0] rfl) h
        exact LI19_4 n_4 1 0 G_2 _ _ ls hw (lv_sub hl [2, 3, 4, 1, 0] rfl) h0
  exact LI7_2 n_2 1 G_1 _ _ ls hw (lv_sub hl [1, 2, 0] rfl) h0

abbrev rmX7_isMark : Room := { frames := 1, cells := 0, slots := 0, locals := 24 }
def wp_X7_isMark (G : GS) (x1 : Int32) (x2 : Int32) (post : Int32 → GS → Prop) : Prop :=
  ∃ I5_1 : Nat → Int32 → Int32 → GS → Prop, (∃ n_1 : Nat, I5_1 n_1 1 0 G) ∧ ∀ (n_1 : Nat) (v3_1 : Int32) (v4_1 : Int32) (G_1 : GS), I5_1 n_1 v3_1 v4_1 G_1 → (((G_1.1 7 5) ≤ v4_1 → ((v3_1 = 0 ∨ v3_1 = 1) ∧ post v3_1 G_1)) ∧ (¬ ((G_1.1 7 5) ≤ v4_1) → ((v3_1 = 0 → ((v3_1 = 0 ∨ v3_1 = 1) ∧ post v3_1 G_1)) ∧ (¬ (v3_1 = 0) → (∃ j24_3 : Nat, j24_3 < 40 ∧ v4_1 = nI j24_3 ∧ (((G_1.1 26 j24_3) = x1 → (∃ k_7 : Nat, k_7 < n_1 ∧ I5_1 k_7 v3_1 (v4_1 + 1) G_1)) ∧ (¬ ((G_1.1 26 j24_3) = x1) → (∃ I35_8 : Nat → Int32 → Int32 → GS → Prop, (∃ n_8 : Nat, I35_8 n_8 1 0 G_1) ∧ ∀ (n_8 : Nat) (v5_8 : Int32) (v6_8 : Int32) (G_8 : GS), I35_8 n_8 v5_8 v6_8 G_8 → ((x2 ≤ v6_8 → ((¬ v5_8 = 0 → (∃ k_12 : Nat, k_12 < n_1 ∧ I5_1 k_12 0 (v4_1 + 1) G_8)) ∧ (v5_8 = 0 → (∃ k_14 : Nat, k_14 < n_1 ∧ I5_1 k_14 1 (v4_1 + 1) G_8)))) ∧ (¬ (x2 ≤ v6_8) → ((v5_8 = 0 → (∃ k_17 : Nat, k_17 < n_8 ∧ I35_8 k_17 0 (v6_8 + 1) G_8)) ∧ (¬ (v5_8 = 0) → (∃ j53_17 : Nat, j53_17 < 3 ∧ v6_8 = nI j53_17 ∧ (wp_X7_stands G_8 (G_8.1 34 j53_17) v4_1 (fun r_20 G_19 => (r_20 = 0 → (∃ k_23 : Nat, k_23 < n_8 ∧ I35_8 k_23 0 (v6_8 + 1) G_19)) ∧ (¬ (r_20 = 0) → (∃ k_25 : Nat, k_25 < n_8 ∧ I35_8 k_25 1 (v6_8 + 1) G_19)))))))))))))))))
set_option maxHeartbeats 4000000 in
set_option maxRecDepth 100000 in
theorem m_X7_isMark (l : Launch) (D : va_G) (cy : Nat → ClassId) (q : Nat → Nat) (G : GS) (x1 : Int32) (x2 : Int32) (post : Int32 → GS → Prop) (h : wp_X7_isMark G x1 x2 post) : gMi l yX7_isMark wsX7_isMark rmX7_isMark D cy q [.ref (q 7), .int x1, .int x2] G post := by
  intro sz
  refine Met.ofW (cc := cX7_isMark) (maxL := 7) (ret := (some .boolean)) (by decide) rfl ?_
  intro p e s m args below meth c s₁ B hml hv
  obtain ⟨ha, hsz, X, hw, hA, hr, hlk⟩ := g_start B hml hv
  have hx := X.1.1
  have hb := X.1.2.1
  have hown := X.1.2.2.2.1
  have hts := X.1.2.2.2.2
  refine g_in ha (Nat.le_of_ble_eq_true rfl) (fun ls hl => ?_)
  have hl : lv_has ls 7 [(0, .ref (q 7)), (1, .int x1), (2, .int x2)] := hl
  unfold wp_X7_isMark at h
  have hinX7 : ∀ w ∈ wsX70, w ∈ wsX7_isMark := fun _ h9 => (List.mem_cons_of_mem _ (List.mem_append_right _ h9))
  refine lv_iconst (v := 1) hx hb dX7_isMark_0 (by decide) ?_
  refine lv_istore_n (lv' := [(3, .int 1), (0, .ref (q 7)), (1, .int x1), (2, .int x2)]) hx hb dX7_isMark_1 rfl hl (by decide) rfl (fun ls hl => ?_)
  refine lv_iconst (v := 0) hx hb dX7_isMark_2 (by decide) ?_
  refine lv_istore (lv' := [(4, .int 0), (3, .int 1), (0, .ref (q 7)), (1, .int x1), (2, .int x2)]) hx hb dX7_isMark_3 hl (by decide) rfl (fun ls hl => ?_)
  obtain ⟨I5_1, ⟨n_1, h0⟩, hI5_1⟩ := h
  have LI5_1 : ∀ (n_1 : Nat) (v3_1 : Int32) (v4_1 : Int32) (G_1 : GS) (H : Heap) (locs : List Loc) (ls : Array Slot), gH D cy q (gA q sz) s.heap G_1 H locs → lv_has ls 7 [(0, .ref (q 7)), (1, .int x1), (2, .int x2), (3, .int v3_1), (4, .int v4_1)] → I5_1 n_1 v3_1 v4_1 G_1 → W p l e (headSpec wsX7_isMark rmX7_isMark).room s m args below meth c H locs 0 0 (MQ below (va_Qi post (gPo D cy q sz) (gA q sz)) args s 0 0 (gA q sz)) (F0 m 5 ls []) := by
    intro n_1
    induction n_1 using Nat.strongRecOn with
    | ind n_1 ihI5_1 =>
      intro v3_1 v4_1 G_1 H locs ls hw hl h
      have h := hI5_1 n_1 v3_1 v4_1 G_1 h
      refine lv_iload hx hb dX7_isMark_5 (lv_at hl 4 rfl) ?_
      refine lv_aload_n hx hb dX7_isMark_7 rfl (lv_at hl 0 rfl) ?_
      refine g_get 7 5 (v := .int (G_1.1 7 5)) (C := RX7) (T := TX7) (N := 31) X hw (by decide) hinX7 rfl (by decide) (List.mem_cons_of_mem _ (List.mem_append_left _ (List.mem_of_getElem? (i := 0) rfl))) rfl dX7_isMark_8 ?_
      refine lv_icmp_ge (tgt := 92) hx hb dX7_isMark_11 (by decide) (fun c11_1 => ?_) (fun c11_1 => ?_)
      · have h := h.1 c11_1
        refine lv_iload_n hx hb dX7_isMark_92 rfl (lv_at hl 3 rfl) ?_
        exact g_zret X hw hr hlk h.1 h.2 dX7_isMark_93
      · have h := h.2 c11_1
        refine lv_iload_n hx hb dX7_isMark_14 rfl (lv_at hl 3 rfl) ?_
        refine lv_if_eq (tgt := 92) hx hb dX7_isMark_15 (by decide) (fun c15_2 => ?_) (fun c15_2 => ?_)
        · have h := h.1 c15_2
          refine lv_iload_n hx hb dX7_isMark_92 rfl (lv_at hl 3 rfl) ?_
          exact g_zret X hw hr hlk h.1 h.2 dX7_isMark_93
        · have h := h.2 c15_2
          refine lv_aload_n hx hb dX7_isMark_18 rfl (lv_at hl 0 rfl) ?_
          refine g_get 7 10 (v := .ref (q 26)) (C := RX7) (T := TX7) (N := 31) X hw (by decide) hinX7 rfl (by decide) (List.mem_cons_of_mem _ (List.mem_append_left _ (List.mem_of_getElem? (i := 1) rfl))) rfl dX7_isMark_19 ?_
          refine lv_iload hx hb dX7_isMark_22 (lv_at hl 4 rfl) ?_
          obtain ⟨j24_3, bj24_3, ej24_3, h⟩ := h
          refine g_iald 26 40 j24_3 X hw (Or.inr ⟨by decide, by decide⟩) rfl bj24_3 ej24_3 (by decide) dX7_isMark_24 ?_
          refine lv_iload_n hx hb dX7_isMark_25 rfl (lv_at hl 1 rfl) ?_
          refine lv_icmp_eq (tgt := 86) hx hb dX7_isMark_26 (by decide) (fun c26_4 => ?_) (fun c26_4 => ?_)
          · have h := h.1 c26_4
            refine lv_iinc (v := v4_1 + 1) (lv' := [(4, .int (v4_1 + 1)), (0, .ref (q 7)), (1, .int x1), (2, .int x2), (3, .int v3_1)]) hx hb dX7_isMark_86 hl (k := 4) rfl rfl (by decide) rfl (fun ls hl => ?_)
            refine lv_goto (tgt := 5) hx hb dX7_isMark_89 (by decide) ?_
            obtain ⟨k_7, hm, h⟩ := h
            exact ihI5_1 k_7 hm v3_1 (v4_1 + 1) G_1 _ _ ls hw (lv_sub hl [1, 2, 3, 4, 0] rfl) h
          · have h := h.2 c26_4
            refine lv_iconst (v := 1) hx hb dX7_isMark_29 (by decide) ?_
            refine lv_istore (lv' := [(5, .int 1), (0, .ref (q 7)), (1, .int x1), (2, .int x2), (3, .int v3_1), (4, .int v4_1)]) hx hb dX7_isMark_30 hl (by decide) rfl (fun ls hl => ?_)
            refine lv_iconst (v := 0) hx hb dX7_isMark_32 (by decide) ?_
            refine lv_istore (lv' := [(6, .int 0), (5, .int 1), (0, .ref (q 7)), (1, .int x1), (2, .int x2), (3, .int v3_1), (4, .int v4_1)]) hx hb dX7_isMark_33 hl (by decide) rfl (fun ls hl => ?_)
            obtain ⟨I35_8, ⟨n_8, h0⟩, hI35_8⟩ := h
            have LI35_8 : ∀ (n_8 : Nat) (v5_8 : Int32) (v6_8 : Int32) (G_8 : GS) (H : Heap) (locs : List Loc) (ls : Array Slot), gH D cy q (gA q sz) s.heap G_8 H locs → lv_has ls 7 [(0, .ref (q 7)), (1, .int x1), (2, .int x2), (4, .int v4_1), (5, .int v5_8), (6, .int v6_8)] → I35_8 n_8 v5_8 v6_8 G_8 → W p l e (headSpec wsX7_isMark rmX7_isMark).room s m args below meth c H locs 0 0 (MQ below (va_Qi post (gPo D cy q sz) (gA q sz)) args s 0 0 (gA q sz)) (F0 m 35 ls []) := by
              intro n_8
              induction n_8 using Nat.strongRecOn with
              | ind n_8 ihI35_8 =>
                intro v5_8 v6_8 G_8 H locs ls hw hl h
                have h := hI35_8 n_8 v5_8 v6_8 G_8 h
                refine lv_iload hx hb dX7_isMark_35 (lv_at hl 5 rfl) ?_
                refine lv_iload_n hx hb dX7_isMark_37 rfl (lv_at hl 2 rfl) ?_
                refine lv_icmp_ge (tgt := 75) hx hb dX7_isMark_38 (by decide) (fun c38_8 => ?_) (fun c38_8 => ?_)
                · have h := h.1 c38_8
                  refine lv_iload hx hb dX7_isMark_75 (lv_at hl 4 rfl) ?_
                  refine lv_if_ne (tgt := 84) hx hb dX7_isMark_77 (by decide) (fun c77_9 => ?_) (fun c77_9 => ?_)
                  · have h := h.1 c77_9
                    refine lv_iconst (v := 0) hx hb dX7_isMark_84 (by decide) ?_
                    refine lv_istore_n (lv' := [(3, .int 0), (0, .ref (q 7)), (1, .int x1), (2, .int x2), (4, .int v4_1), (5, .int v5_8), (6, .int v6_8)]) hx hb dX7_isMark_85 rfl hl (by decide) rfl (fun ls hl => ?_)
                    refine lv_iinc (v := v4_1 + 1) (lv' := [(4, .int (v4_1 + 1)), (3, .int 0), (0, .ref (q 7)), (1, .int x1), (2, .int x2), (5, .int v5_8), (6, .int v6_8)]) hx hb dX7_isMark_86 hl (k := 4) rfl rfl (by decide) rfl (fun ls hl => ?_)
                    refine lv_goto (tgt := 5) hx hb dX7_isMark_89 (by decide) ?_
                    obtain ⟨k_12, hm, h⟩ := h
                    exact ihI5_1 k_12 hm 0 (v4_1 + 1) G_8 _ _ ls hw (lv_sub hl [2, 3, 4, 1, 0] rfl) h
                  · have h := h.2 c77_9
                    refine lv_iconst (v := 1) hx hb dX7_isMark_80 (by decide) ?_
                    refine lv_goto (tgt := 85) hx hb dX7_isMark_81 (by decide) ?_
                    refine lv_istore_n (lv' := [(3, .int 1), (0, .ref (q 7)), (1, .int x1), (2, .int x2), (4, .int v4_1), (5, .int v5_8), (6, .int v6_8)]) hx hb dX7_isMark_85 rfl hl (by decide) rfl (fun ls hl => ?_)
                    refine lv_iinc (v := v4_1 + 1) (lv' := [(4, .int (v4_1 + 1)), (3, .int 1), (0, .ref (q 7)), (1, .int x1), (2, .int x2), (5, .int v5_8), (6, .int v6_8)]) hx hb dX7_isMark_86 hl (k := 4) rfl rfl (by decide) rfl (fun ls hl => ?_)
                    refine lv_goto (tgt := 5) hx hb dX7_isMark_89 (by decide) ?_
                    obtain ⟨k_14, hm, h⟩ := h
                    exact ihI5_1 k_14 hm 1 (v4_1 + 1) G_8 _ _ ls hw (lv_sub hl [2, 3, 4, 1, 0] rfl) h
                · have h := h.2 c38_8
                  refine lv_iload hx hb dX7_isMark_41 (lv_at hl 4 rfl) ?_
                  refine lv_if_eq (tgt := 66) hx hb dX7_isMark_43 (by decide) (fun c43_14 => ?_) (fun c43_14 => ?_)
                  · have h := h.1 c43_14
                    refine lv_iconst (v := 0) hx hb dX7_isMark_66 (by decide) ?_
                    refine lv_istore (lv' := [(5, .int 0), (0, .ref (q 7)), (1, .int x1), (2, .int x2), (4, .int v4_1), (6, .int v6_8)]) hx hb dX7_isMark_67 hl (by decide) rfl (fun ls hl => ?_)
                    refine lv_iinc (v := v6_8 + 1) (lv' := [(6, .int (v6_8 + 1)), (5, .int 0), (0, .ref (q 7)), (1, .int x1), (2, .int x2), (4, .int v4_1)]) hx hb dX7_isMark_69 hl (k := 5) rfl rfl (by decide) rfl (fun ls hl => ?_)
                    refine lv_goto (tgt := 35) hx hb dX7_isMark_72 (by decide) ?_
                    obtain ⟨k_17, hm, h⟩ := h
                    exact ihI35_8 k_17 hm 0 (v6_8 + 1) G_8 _ _ ls hw (lv_sub hl [2, 3, 4, 5, 1, 0] rfl) h
                  · have h := h.2 c43_14
                    refine lv_aload_n hx hb dX7_isMark_46 rfl (lv_at hl 0 rfl) ?_
                    refine lv_aload_n hx hb dX7_isMark_47 rfl (lv_at hl 0 rfl) ?_
                    refine g_get 7 28 (v := .ref (q 34)) (C := RX7) (T := TX7) (N := 31) X hw (by decide) hinX7 rfl (by decide) (List.mem_cons_of_mem _ (List.mem_append_left _ (List.mem_of_getElem? (i := 2) rfl))) rfl dX7_isMark_48 ?_
                    refine lv_iload hx hb dX7_isMark_51 (lv_at hl 5 rfl) ?_
                    obtain ⟨j53_17, bj53_17, ej53_17, h⟩ := h
                    refine g_iald 34 3 j53_17 X hw (Or.inr ⟨by decide, by decide⟩) rfl bj53_17 ej53_17 (by decide) dX7_isMark_53 ?_
                    refine lv_iload hx hb dX7_isMark_54 (lv_at hl 3 rfl) ?_
                    refine g_callVi 7 (C := RX7) (T := TX7) (N := 31) (As := [.int (G_8.1 34 j53_17), .int v4_1]) (rest := []) X hw hA (m_X7_stands l D cy q G_8 (G_8.1 34 j53_17) v4_1 _ h) (by decide) rfl (cwV 2 hts gX7_isMark_X7_stands rfl rfl rfl (by decide +kernel) ⟨Nat.le_of_ble_eq_true rfl, Nat.le_of_ble_eq_true rfl⟩) rfl hl.1 rfl (Nat.le_of_ble_eq_true rfl) dX7_isMark_56 ⟨Nat.zero_le _, Nat.zero_le _⟩ (fun r_20 G_19 H locs h hw => ?_)
                    refine lv_if_eq (tgt := 66) hx hb dX7_isMark_59 (by decide) (fun c59_20 => ?_) (fun c59_20 => ?_)
                    · have h := h.1 c59_20
                      refine lv_iconst (v := 0) hx hb dX7_isMark_66 (by decide) ?_
                      refine lv_istore (lv' := [(5, .int 0), (0, .ref (q 7)), (1, .int x1), (2, .int x2), (4, .int v4_1), (6, .int v6_8)]) hx hb dX7_isMark_67 hl (by decide) rfl (fun ls hl => ?_)
                      refine lv_iinc (v := v6_8 + 1) (lv' := [(6, .int (v6_8 + 1)), (5, .int 0), (0, .ref (q 7)), (1, .int x1), (2, .int x2), (4, .int v4_1)]) hx hb dX7_isMark_69 hl (k := 5) rfl rfl (by decide) rfl (fun ls hl => ?_)
                      refine lv_goto (tgt := 35) hx hb dX7_isMark_72 (by decide) ?_
                      obtain ⟨k_23, hm, h⟩ := h
                      exact ihI35_8 k_23 hm 0 (v6_8 + 1) G_19 _ _ ls hw (lv_sub hl [2, 3, 4, 5, 1, 0] rfl) h
                    · have h := h.2 c59_20
                      refine lv_iconst (v := 1) hx hb dX7_isMark_62 (by decide) ?_
                      refine lv_goto (tgt := 67) hx hb dX7_isMark_63 (by decide) ?_
                      refine lv_istore (lv' := [(5, .int 1), (0, .ref (q 7)), (1, .int x1), (2, .int x2), (4, .int v4_1), (6, .int v6_8)]) hx hb dX7_isMark_67 hl (by decide) rfl (fun ls hl => ?_)
                      refine lv_iinc (v := v6_8 + 1) (lv' := [(6, .int (v6_8 + 1)), (5, .int 1), (0, .ref (q 7)), (1, .int x1), (2, .int x2), (4, .int v4_1)]) hx hb dX7_isMark_69 hl (k := 5) rfl rfl (by decide) rfl (fun ls hl => ?_)
                      refine lv_goto (tgt := 35) hx hb dX7_isMark_72 (by decide) ?_
                      obtain ⟨k_25, hm, h⟩ := h
                      exact ihI35_8 k_25 hm 1 (v6_8 + 1) G_19 _ _ ls hw (lv_sub hl [2, 3, 4, 5, 1, 0] rfl) h
            exact LI35_8 n_8 1 0 G_1 _ _ ls hw (lv_sub hl [2, 3, 4, 6, 1, 0] rfl) h0
  exact LI5_1 n_1 1 0 G _ _ ls hw (lv_sub hl [2, 3, 4, 1, 0] rfl) h0

abbrev rmX7_signed : Room := { frames := 0, cells := 0, slots := 0, locals := 0 }
def wp_X7_signed (G : GS) (x1 : Int32) (post : Int32 → GS → Prop) : Prop :=
  ∀ G_1 : GS, G_1 = sI G 7 0 0 → ((x1 < 0 → (post (-1) G_1)) ∧ (¬ (x1 < 0) → ((x1 < (G_1.1 7 26) → (∃ j26_3 : Nat, j26_3 < 3 ∧ x1 = nI j26_3 ∧ (post (G_1.1 33 j26_3) G_1))) ∧ (¬ (x1 < (G_1.1 7 26)) → (post (-1) G_1)))))
set_option maxHeartbeats 4000000 in
set_option maxRecDepth 100000 in
theorem m_X7_signed (l : Launch) (D : va_G) (cy : Nat → ClassId) (q : Nat → Nat) (G : GS) (x1 : Int32) (post : Int32 → GS → Prop) (h : wp_X7_signed G x1 post) : gMi l yX7_signed wsX7_signed rmX7_signed D cy q [.ref (q 7), .int x1] G post := by
  intro sz
  refine Met.ofW (cc := cX7_signed) (maxL := 2) (ret := (some .int)) (by decide) rfl ?_
  intro p e s m args below meth c s₁ B hml hv
  obtain ⟨ha, hsz, X, hw, hA, hr, hlk⟩ := g_start B hml hv
  have hx := X.1.1
  have hb := X.1.2.1
  have hown := X.1.2.2.2.1
  have hts := X.1.2.2.2.2
  refine g_in ha (Nat.le_of_ble_eq_true rfl) (fun ls hl => ?_)
  have hl : lv_has ls 2 [(0, .ref (q 7)), (1, .int x1)] := hl
  unfold wp_X7_signed at h
  have hinX7 : ∀ w ∈ wsX70, w ∈ wsX7_signed := fun _ h9 => (List.mem_cons_of_mem _ (List.mem_append_right _ h9))
  refine lv_aload_n hx hb dX7_signed_0 rfl (lv_at hl 0 rfl) ?_
  refine lv_iconst (v := 0) hx hb dX7_signed_1 (by decide) ?_
  refine g_put 7 0 (v := 0) (ty := .int) (C := RX7) (T := TX7) (N := 31) X hw (by decide) hinX7 tyX7_ok nmX7 rfl (by decide) (List.mem_cons_of_mem _ (List.mem_append_left _ (List.mem_of_getElem? (i := 0) rfl))) rfl (by decide +kernel) rfl rfl (Nat.le_of_ble_eq_true rfl) rfl dX7_signed_2 (fun H locs hw => ?_)
  obtain ⟨G_1, eG_1⟩ : ∃ z, z = sI G 7 0 0 := ⟨_, rfl⟩
  rw [← eG_1] at hw
  have h := h G_1 eG_1
  refine lv_iload_n hx hb dX7_signed_5 rfl (lv_at hl 1 rfl) ?_
  refine lv_if_lt (tgt := 17) hx hb dX7_signed_6 (by decide) (fun c6_1 => ?_) (fun c6_1 => ?_)
  · have h := h.1 c6_1
    refine lv_iconst (v := (-1)) hx hb dX7_signed_17 (by decide) ?_
    refine lv_goto (tgt := 27) hx hb dX7_signed_18 (by decide) ?_
    exact g_iret X hw hr hlk h dX7_signed_27
  · have h := h.2 c6_1
    refine lv_iload_n hx hb dX7_signed_9 rfl (lv_at hl 1 rfl) ?_
    refine lv_aload_n hx hb dX7_signed_10 rfl (lv_at hl 0 rfl) ?_
    refine g_get 7 26 (v := .int (G_1.1 7 26)) (C := RX7) (T := TX7) (N := 31) X hw (by decide) hinX7 rfl (by decide) (List.mem_cons_of_mem _ (List.mem_append_left _ (List.mem_of_getElem? (i := 1) rfl))) rfl dX7_signed_11 ?_
    refine lv_icmp_lt (tgt := 21) hx hb dX7_signed_14 (by decide) (fun c14_2 => ?_) (fun c14_2 => ?_)
    · have h := h.1 c14_2
      refine lv_aload_n hx hb dX7_signed_21 rfl (lv_at hl 0 rfl) ?_
      refine g_get 7 27 (v := .ref (q 33)) (C := RX7) (T := TX7) (N := 31) X hw (by decide) hinX7 rfl (by decide) (List.mem_cons_of_mem _ (List.mem_append_left _ (List.mem_of_getElem? (i := 2) rfl))) rfl dX7_signed_22 ?_
      refine lv_iload_n hx hb dX7_signed_25 rfl (lv_at hl 1 rfl) ?_
      obtain ⟨j26_3, bj26_3, ej26_3, h⟩ := h
      refine g_iald 33 3 j26_3 X hw (Or.inr ⟨by decide, by decide⟩) rfl bj26_3 ej26_3 (by decide) dX7_signed_26 ?_
      exact g_iret X hw hr hlk h dX7_signed_27
    · have h := h.2 c14_2
      refine lv_iconst (v := (-1)) hx hb dX7_signed_17 (by decide) ?_
      refine lv_goto (tgt := 27) hx hb dX7_signed_18 (by decide) ?_
      exact g_iret X hw hr hlk h dX7_signed_27

abbrev rmX7_fix : Room := { frames := 1, cells := 0, slots := 0, locals := 21 }
def wp_X7_fix (G : GS) (x1 : Int32) (x2 : Int32) (post : Int32 → GS → Prop) : Prop :=
  ∀ G_1 : GS, G_1 = sI G 7 0 0 → (wp_X7_isReport G_1 x1 (fun r_3 G_2 => (r_3 = 0 → (post 0 G_2)) ∧ (¬ (r_3 = 0) → (wp_X7_isVersion G_2 x2 (fun r_6 G_5 => (¬ r_6 = 0 → (∃ j29_7 : Nat, j29_7 < 40 ∧ x1 = nI j29_7 ∧ (∀ G_9 : GS, G_9 = sI G_5 25 j29_7 x2 → (post 1 G_9)))) ∧ (r_6 = 0 → (post 0 G_5)))))))
set_option maxHeartbeats 4000000 in
set_option maxRecDepth 100000 in
theorem m_X7_fix (l : Launch) (D : va_G) (cy : Nat → ClassId) (q : Nat → Nat) (G : GS) (x1 : Int32) (x2 : Int32) (post : Int32 → GS → Prop) (h : wp_X7_fix G x1 x2 post) : gMi l yX7_fix wsX7_fix rmX7_fix D cy q [.ref (q 7), .int x1, .int x2] G post := by
  intro sz
  refine Met.ofW (cc := cX7_fix) (maxL := 3) (ret := (some .boolean)) (by decide) rfl ?_
  intro p e s m args below meth c s₁ B hml hv
  obtain ⟨ha, hsz, X, hw, hA, hr, hlk⟩ := g_start B hml hv
  have hx := X.1.1
  have hb := X.1.2.1
  have hown := X.1.2.2.2.1
  have hts := X.1.2.2.2.2
  refine g_in ha (Nat.le_of_ble_eq_true rfl) (fun ls hl => ?_)
  have hl : lv_has ls 3 [(0, .ref (q 7)), (1, .int x1), (2, .int x2)] := hl
  unfold wp_X7_fix at h
  have hinX7 : ∀ w ∈ wsX70, w ∈ wsX7_fix := fun _ h9 => (List.mem_cons_of_mem _ (List.mem_append_right _ h9))
  refine lv_aload_n hx hb dX7_fix_0 rfl (lv_at hl 0 rfl) ?_
  refine lv_iconst (v := 0) hx hb dX7_fix_1 (by decide) ?_
  refine g_put 7 0 (v := 0) (ty := .int) (C := RX7) (T := TX7) (N := 31) X hw (by decide) hinX7 tyX7_ok nmX7 rfl (by decide) (List.mem_cons_of_mem _ (List.mem_append_left _ (List.mem_of_getElem? (i := 0) rfl))) rfl (by decide +kernel) rfl rfl (Nat.le_of_ble_eq_true rfl) rfl dX7_fix_2 (fun H locs hw => ?_)
  obtain ⟨G_1, eG_1⟩ : ∃ z, z = sI G 7 0 0 := ⟨_, rfl⟩
  rw [← eG_1] at hw
  have h := h G_1 eG_1
  refine lv_aload_n hx hb dX7_fix_5 rfl (lv_at hl 0 rfl) ?_
  refine lv_iload_n hx hb dX7_fix_6 rfl (lv_at hl 1 rfl) ?_
  refine g_callVi 7 (C := RX7) (T := TX7) (N := 31) (As := [.int x1]) (rest := []) X hw hA (m_X7_isReport l D cy q G_1 x1 _ h) (by decide) rfl (cwV 1 hts gX7_fix_X7_isReport rfl rfl rfl (by decide +kernel) ⟨Nat.le_of_ble_eq_true rfl, Nat.le_of_ble_eq_true rfl⟩) rfl hl.1 rfl (Nat.le_of_ble_eq_true rfl) dX7_fix_7 ⟨Nat.zero_le _, Nat.zero_le _⟩ (fun r_3 G_2 H locs h hw => ?_)
  refine lv_if_eq (tgt := 21) hx hb dX7_fix_10 (by decide) (fun c10_3 => ?_) (fun c10_3 => ?_)
  · have h := h.1 c10_3
    refine lv_iconst (v := 0) hx hb dX7_fix_21 (by decide) ?_
    exact g_zret X hw hr hlk (by decide) h dX7_fix_22
  · have h := h.2 c10_3
    refine lv_aload_n hx hb dX7_fix_13 rfl (lv_at hl 0 rfl) ?_
    refine lv_iload_n hx hb dX7_fix_14 rfl (lv_at hl 2 rfl) ?_
    refine g_callVi 7 (C := RX7) (T := TX7) (N := 31) (As := [.int x2]) (rest := []) X hw hA (m_X7_isVersion l D cy q G_2 x2 _ h) (by decide) rfl (cwV 1 hts gX7_fix_X7_isVersion rfl rfl rfl (by decide +kernel) ⟨Nat.le_of_ble_eq_true rfl, Nat.le_of_ble_eq_true rfl⟩) rfl hl.1 rfl (Nat.le_of_ble_eq_true rfl) dX7_fix_15 ⟨Nat.zero_le _, Nat.zero_le _⟩ (fun r_6 G_5 H locs h hw => ?_)
    refine lv_if_ne (tgt := 23) hx hb dX7_fix_18 (by decide) (fun c18_6 => ?_) (fun c18_6 => ?_)
    · have h := h.1 c18_6
      refine lv_aload_n hx hb dX7_fix_23 rfl (lv_at hl 0 rfl) ?_
      refine g_get 7 9 (v := .ref (q 25)) (C := RX7) (T := TX7) (N := 31) X hw (by decide) hinX7 rfl (by decide) (List.mem_cons_of_mem _ (List.mem_append_left _ (List.mem_of_getElem? (i := 1) rfl))) rfl dX7_fix_24 ?_
      refine lv_iload_n hx hb dX7_fix_27 rfl (lv_at hl 1 rfl) ?_
      refine lv_iload_n hx hb dX7_fix_28 rfl (lv_at hl 2 rfl) ?_
      obtain ⟨j29_7, bj29_7, ej29_7, h⟩ := h
      refine g_iast 25 40 j29_7 X hw (Or.inr ⟨by decide, by decide⟩) rfl bj29_7 ej29_7 (by decide) dX7_fix_29 (fun H locs hw => ?_)
      obtain ⟨G_9, eG_9⟩ : ∃ z, z = sI G_5 25 j29_7 x2 := ⟨_, rfl⟩
      rw [← eG_9] at hw
      have h := h G_9 eG_9
      refine lv_iconst (v := 1) hx hb dX7_fix_30 (by decide) ?_
      exact g_zret X hw hr hlk (by decide) h dX7_fix_31
    · have h := h.2 c18_6
      refine lv_iconst (v := 0) hx hb dX7_fix_21 (by decide) ?_
      exact g_zret X hw hr hlk (by decide) h dX7_fix_22

abbrev rmX7_cameBack : Room := { frames := 1, cells := 0, slots := 0, locals := 23 }
def wp_X7_cameBack (G : GS) (x1 : Int32) (post : Int32 → GS → Prop) : Prop :=
  ∃ I4_1 : Nat → Int32 → Int32 → GS → Prop, (∃ n_1 : Nat, I4_1 n_1 0 0 G) ∧ ∀ (n_1 : Nat) (v2_1 : Int32) (v3_1 : Int32) (G_1 : GS), I4_1 n_1 v2_1 v3_1 G_1 → (((G_1.1 7 5) ≤ v3_1 → ((v2_1 = 0 ∨ v2_1 = 1) ∧ post v2_1 G_1)) ∧ (¬ ((G_1.1 7 5) ≤ v3_1) → ((¬ v2_1 = 0 → (∃ k_5 : Nat, k_5 < n_1 ∧ I4_1 k_5 1 (v3_1 + 1) G_1)) ∧ (v2_1 = 0 → (∃ j21_5 : Nat, j21_5 < 40 ∧ v3_1 = nI j21_5 ∧ (∃ j27_6 : Nat, j27_6 < 40 ∧ x1 = nI j27_6 ∧ ((¬ (G_1.1 26 j21_5) = (G_1.1 26 j27_6) → (∃ k_10 : Nat, k_10 < n_1 ∧ I4_1 k_10 0 (v3_1 + 1) G_1)) ∧ ((G_1.1 26 j21_5) = (G_1.1 26 j27_6) → (∃ j36_10 : Nat, j36_10 < 40 ∧ v3_1 = nI j36_10 ∧ (((G_1.1 25 j36_10) < 0 → (∃ k_14 : Nat, k_14 < n_1 ∧ I4_1 k_14 0 (v3_1 + 1) G_1)) ∧ (¬ ((G_1.1 25 j36_10) < 0) → (∃ j46_14 : Nat, j46_14 < 40 ∧ x1 = nI j46_14 ∧ (∃ j52_15 : Nat, j52_15 < 40 ∧ v3_1 = nI j52_15 ∧ (wp_X7_isBehind G_1 (G_1.1 24 j46_14) (G_1.1 25 j52_15) (fun r_18 G_17 => (r_18 = 0 → (∃ k_21 : Nat, k_21 < n_1 ∧ I4_1 k_21 0 (v3_1 + 1) G_17)) ∧ (¬ (r_18 = 0) → (∃ k_23 : Nat, k_23 < n_1 ∧ I4_1 k_23 1 (v3_1 + 1) G_17)))))))))))))))))
set_option maxHeartbeats 4000000 in
set_option maxRecDepth 100000 in
theorem m_X7_cameBack (l : Launch) (D : va_G) (cy : Nat → ClassId) (q : Nat → Nat) (G : GS) (x1 : Int32) (post : Int32 → GS → Prop) (h : wp_X7_cameBack G x1 post) : gMi l yX7_cameBack wsX7_cameBack rmX7_cameBack D cy q [.ref (q 7), .int x1] G post := by
  intro sz
  refine Met.ofW (cc := cX7_cameBack) (maxL := 4) (ret := (some .boolean)) (by decide) rfl ?_
  intro p e s m args below meth c s₁ B hml hv
  obtain ⟨ha, hsz, X, hw, hA, hr, hlk⟩ := g_start B hml hv
  have hx := X.1.1
  have hb := X.1.2.1
  have hown := X.1.2.2.2.1
  have hts := X.1.2.2.2.2
  refine g_in ha (Nat.le_of_ble_eq_true rfl) (fun ls hl => ?_)
  have hl : lv_has ls 4 [(0, .ref (q 7)), (1, .int x1)] := hl
  unfold wp_X7_cameBack at h
  have hinX7 : ∀ w ∈ wsX70, w ∈ wsX7_cameBack := fun _ h9 => (List.mem_cons_of_mem _ (List.mem_append_right _ h9))
  refine lv_iconst (v := 0) hx hb dX7_cameBack_0 (by decide) ?_
  refine lv_istore_n (lv' := [(2, .int 0), (0, .ref (q 7)), (1, .int x1)]) hx hb dX7_cameBack_1 rfl hl (by decide) rfl (fun ls hl => ?_)
  refine lv_iconst (v := 0) hx hb dX7_cameBack_2 (by decide) ?_
  refine lv_istore_n (lv' := [(3, .int 0), (2, .int 0), (0, .ref (q 7)), (1, .int x1)]) hx hb dX7_cameBack_3 rfl hl (by decide) rfl (fun ls hl => ?_)
  obtain ⟨I4_1, ⟨n_1, h0⟩, hI4_1⟩ := h
  have LI4_1 : ∀ (n_1 : Nat) (v2_1 : Int32) (v3_1 : Int32) (G_1 : GS) (H : Heap) (locs : List Loc) (ls : Array Slot), gH D cy q (gA q sz) s.heap G_1 H locs → lv_has ls 4 [(0, .ref (q 7)), (1, .int x1), (2, .int v2_1), (3, .int v3_1)] → I4_1 n_1 v2_1 v3_1 G_1 → W p l e (headSpec wsX7_cameBack rmX7_cameBack).room s m args below meth c H locs 0 0 (MQ below (va_Qi post (gPo D cy q sz) (gA q sz)) args s 0 0 (gA q sz)) (F0 m 4 ls []) := by
    intro n_1
    induction n_1 using Nat.strongRecOn with
    | ind n_1 ihI4_1 =>
      intro v2_1 v3_1 G_1 H locs ls hw hl h
      have h := hI4_1 n_1 v2_1 v3_1 G_1 h
      refine lv_iload_n hx hb dX7_cameBack_4 rfl (lv_at hl 3 rfl) ?_
      refine lv_aload_n hx hb dX7_cameBack_5 rfl (lv_at hl 0 rfl) ?_
      refine g_get 7 5 (v := .int (G_1.1 7 5)) (C := RX7) (T := TX7) (N := 31) X hw (by decide) hinX7 rfl (by decide) (List.mem_cons_of_mem _ (List.mem_append_left _ (List.mem_of_getElem? (i := 0) rfl))) rfl dX7_cameBack_6 ?_
      refine lv_icmp_ge (tgt := 71) hx hb dX7_cameBack_9 (by decide) (fun c9_1 => ?_) (fun c9_1 => ?_)
      · have h := h.1 c9_1
        refine lv_iload_n hx hb dX7_cameBack_71 rfl (lv_at hl 2 rfl) ?_
        exact g_zret X hw hr hlk h.1 h.2 dX7_cameBack_72
      · have h := h.2 c9_1
        refine lv_iload_n hx hb dX7_cameBack_12 rfl (lv_at hl 2 rfl) ?_
        refine lv_if_ne (tgt := 59) hx hb dX7_cameBack_13 (by decide) (fun c13_2 => ?_) (fun c13_2 => ?_)
        · have h := h.1 c13_2
          refine lv_iconst (v := 1) hx hb dX7_cameBack_59 (by decide) ?_
          refine lv_goto (tgt := 64) hx hb dX7_cameBack_60 (by decide) ?_
          refine lv_istore_n (lv' := [(2, .int 1), (0, .ref (q 7)), (1, .int x1), (3, .int v3_1)]) hx hb dX7_cameBack_64 rfl hl (by decide) rfl (fun ls hl => ?_)
          refine lv_iinc (v := v3_1 + 1) (lv' := [(3, .int (v3_1 + 1)), (2, .int 1), (0, .ref (q 7)), (1, .int x1)]) hx hb dX7_cameBack_65 hl (k := 3) rfl rfl (by decide) rfl (fun ls hl => ?_)
          refine lv_goto (tgt := 4) hx hb dX7_cameBack_68 (by decide) ?_
          obtain ⟨k_5, hm, h⟩ := h
          exact ihI4_1 k_5 hm 1 (v3_1 + 1) G_1 _ _ ls hw (lv_sub hl [2, 3, 1, 0] rfl) h
        · have h := h.2 c13_2
          refine lv_aload_n hx hb dX7_cameBack_16 rfl (lv_at hl 0 rfl) ?_
          refine g_get 7 10 (v := .ref (q 26)) (C := RX7) (T := TX7) (N := 31) X hw (by decide) hinX7 rfl (by decide) (List.mem_cons_of_mem _ (List.mem_append_left _ (List.mem_of_getElem? (i := 1) rfl))) rfl dX7_cameBack_17 ?_
          refine lv_iload_n hx hb dX7_cameBack_20 rfl (lv_at hl 3 rfl) ?_
          obtain ⟨j21_5, bj21_5, ej21_5, h⟩ := h
          refine g_iald 26 40 j21_5 X hw (Or.inr ⟨by decide, by decide⟩) rfl bj21_5 ej21_5 (by decide) dX7_cameBack_21 ?_
          refine lv_aload_n hx hb dX7_cameBack_22 rfl (lv_at hl 0 rfl) ?_
          refine g_get 7 10 (v := .ref (q 26)) (C := RX7) (T := TX7) (N := 31) X hw (by decide) hinX7 rfl (by decide) (List.mem_cons_of_mem _ (List.mem_append_left _ (List.mem_of_getElem? (i := 1) rfl))) rfl dX7_cameBack_23 ?_
          refine lv_iload_n hx hb dX7_cameBack_26 rfl (lv_at hl 1 rfl) ?_
          obtain ⟨j27_6, bj27_6, ej27_6, h⟩ := h
          refine g_iald 26 40 j27_6 X hw (Or.inr ⟨by decide, by decide⟩) rfl bj27_6 ej27_6 (by decide) dX7_cameBack_27 ?_
          refine lv_icmp_ne (tgt := 63) hx hb dX7_cameBack_28 (by decide) (fun c28_7 => ?_) (fun c28_7 => ?_)
          · have h := h.1 c28_7
            refine lv_iconst (v := 0) hx hb dX7_cameBack_63 (by decide) ?_
            refine lv_istore_n (lv' := [(2, .int 0), (0, .ref (q 7)), (1, .int x1), (3, .int v3_1)]) hx hb dX7_cameBack_64 rfl hl (by decide) rfl (fun ls hl => ?_)
            refine lv_iinc (v := v3_1 + 1) (lv' := [(3, .int (v3_1 + 1)), (2, .int 0), (0, .ref (q 7)), (1, .int x1)]) hx hb dX7_cameBack_65 hl (k := 3) rfl rfl (by decide) rfl (fun ls hl => ?_)
            refine lv_goto (tgt := 4) hx hb dX7_cameBack_68 (by decide) ?_
            obtain ⟨k_10, hm, h⟩ := h
            exact ihI4_1 k_10 hm 0 (v3_1 + 1) G_1 _ _ ls hw (lv_sub hl [2, 3, 1, 0] rfl) h
          · have h := h.2 c28_7
            refine lv_aload_n hx hb dX7_cameBack_31 rfl (lv_at hl 0 rfl) ?_
            refine g_get 7 9 (v := .ref (q 25)) (C := RX7) (T := TX7) (N := 31) X hw (by decide) hinX7 rfl (by decide) (List.mem_cons_of_mem _ (List.mem_append_left _ (List.mem_of_getElem? (i := 2) rfl))) rfl dX7_cameBack_32 ?_
            refine lv_iload_n hx hb dX7_cameBack_35 rfl (lv_at hl 3 rfl) ?_
            obtain ⟨j36_10, bj36_10, ej36_10, h⟩ := h
            refine g_iald 25 40 j36_10 X hw (Or.inr ⟨by decide, by decide⟩) rfl bj36_10 ej36_10 (by decide) dX7_cameBack_36 ?_
            refine lv_if_lt (tgt := 63) hx hb dX7_cameBack_37 (by decide) (fun c37_11 => ?_) (fun c37_11 => ?_)
            · have h := h.1 c37_11
              refine lv_iconst (v := 0) hx hb dX7_cameBack_63 (by decide) ?_
              refine lv_istore_n (lv' := [(2, .int 0), (0, .ref (q 7)), (1, .int x1), (3, .int v3_1)]) hx hb dX7_cameBack_64 rfl hl (by decide) rfl (fun ls hl => ?_)
              refine lv_iinc (v := v3_1 + 1) (lv' := [(3, .int (v3_1 + 1)), (2, .int 0), (0, .ref (q 7)), (1, .int x1)]) hx hb dX7_cameBack_65 hl (k := 3) rfl rfl (by decide) rfl (fun ls hl => ?_)
              refine lv_goto (tgt := 4) hx hb dX7_cameBack_68 (by decide) ?_
              obtain ⟨k_14, hm, h⟩ := h
              exact ihI4_1 k_14 hm 0 (v3_1 + 1) G_1 _ _ ls hw (lv_sub hl [2, 3, 1, 0] rfl) h
            · have h := h.2 c37_11
              refine lv_aload_n hx hb dX7_cameBack_40 rfl (lv_at hl 0 rfl) ?_
              refine lv_aload_n hx hb dX7_cameBack_41 rfl (lv_at hl 0 rfl) ?_
              refine g_get 7 8 (v := .ref (q 24)) (C := RX7) (T := TX7) (N := 31) X hw (by decide) hinX7 rfl (by decide) (List.mem_cons_of_mem _ (List.mem_append_left _ (List.mem_of_getElem? (i := 3) rfl))) rfl dX7_cameBack_42 ?_
              refine lv_iload_n hx hb dX7_cameBack_45 rfl (lv_at hl 1 rfl) ?_
              obtain ⟨j46_14, bj46_14, ej46_14, h⟩ := h
              refine g_iald 24 40 j46_14 X hw (Or.inr ⟨by decide, by decide⟩) rfl bj46_14 ej46_14 (by decide) dX7_cameBack_46 ?_
              refine lv_aload_n hx hb dX7_cameBack_47 rfl (lv_at hl 0 rfl) ?_
              refine g_get 7 9 (v := .ref (q 25)) (C := RX7) (T := TX7) (N := 31) X hw (by decide) hinX7 rfl (by decide) (List.mem_cons_of_mem _ (List.mem_append_left _ (List.mem_of_getElem? (i := 2) rfl))) rfl dX7_cameBack_48 ?_
              refine lv_iload_n hx hb dX7_cameBack_51 rfl (lv_at hl 3 rfl) ?_
              obtain ⟨j52_15, bj52_15, ej52_15, h⟩ := h
              refine g_iald 25 40 j52_15 X hw (Or.inr ⟨by decide, by decide⟩) rfl bj52_15 ej52_15 (by decide) dX7_cameBack_52 ?_
              refine g_callVi 7 (C := RX7) (T := TX7) (N := 31) (As := [.int (G_1.1 24 j46_14), .int (G_1.1 25 j52_15)]) (rest := []) X hw hA (m_X7_isBehind l D cy q G_1 (G_1.1 24 j46_14) (G_1.1 25 j52_15) _ h) (by decide) rfl (cwV 2 hts gX7_cameBack_X7_isBehind rfl rfl rfl (by decide +kernel) ⟨Nat.le_of_ble_eq_true rfl, Nat.le_of_ble_eq_true rfl⟩) rfl hl.1 rfl (Nat.le_of_ble_eq_true rfl) dX7_cameBack_53 ⟨Nat.zero_le _, Nat.zero_le _⟩ (fun r_18 G_17 H locs h hw => ?_)
              refine lv_if_eq (tgt := 63) hx hb dX7_cameBack_56 (by decide) (fun c56_18 => ?_) (fun c56_18 => ?_)
              · have h := h.1 c56_18
                refine lv_iconst (v := 0) hx hb dX7_cameBack_63 (by decide) ?_
                refine lv_istore_n (lv' := [(2, .int 0), (0, .ref (q 7)), (1, .int x1), (3, .int v3_1)]) hx hb dX7_cameBack_64 rfl hl (by decide) rfl (fun ls hl => ?_)
                refine lv_iinc (v := v3_1 + 1) (lv' := [(3, .int (v3_1 + 1)), (2, .int 0), (0, .ref (q 7)), (1, .int x1)]) hx hb dX7_cameBack_65 hl (k := 3) rfl rfl (by decide) rfl (fun ls hl => ?_)
                refine lv_goto (tgt := 4) hx hb dX7_cameBack_68 (by decide) ?_
                obtain ⟨k_21, hm, h⟩ := h
                exact ihI4_1 k_21 hm 0 (v3_1 + 1) G_17 _ _ ls hw (lv_sub hl [2, 3, 1, 0] rfl) h
              · have h := h.2 c56_18
                refine lv_iconst (v := 1) hx hb dX7_cameBack_59 (by decide) ?_
                refine lv_goto (tgt := 64) hx hb dX7_cameBack_60 (by decide) ?_
                refine lv_istore_n (lv' := [(2, .int 1), (0, .ref (q 7)), (1, .int x1), (3, .int v3_1)]) hx hb dX7_cameBack_64 rfl hl (by decide) rfl (fun ls hl => ?_)
                refine lv_iinc (v := v3_1 + 1) (lv' := [(3, .int (v3_1 + 1)), (2, .int 1), (0, .ref (q 7)), (1, .int x1)]) hx hb dX7_cameBack_65 hl (k := 3) rfl rfl (by decide) rfl (fun ls hl => ?_)
                refine lv_goto (tgt := 4) hx hb dX7_cameBack_68 (by decide) ?_
                obtain ⟨k_23, hm, h⟩ := h
                exact ihI4_1 k_23 hm 1 (v3_1 + 1) G_17 _ _ ls hw (lv_sub hl [2, 3, 1, 0] rfl) h
  exact LI4_1 n_1 0 0 G _ _ ls hw (lv_sub hl [2, 3, 1, 0] rfl) h0

abbrev rmX7_look : Room := { frames := 2, cells := 0, slots := 0, locals := 46 }
def wp_X7_look (G : GS) (x1 : Int32) (x2 : Int32) (post : Int32 → GS → Prop) : Prop :=
  wp_X7_isReport G x1 (fun r_2 G_1 => ∃ J23_3 : Int32 → Prop, (∀ (w0_3 : Int32), J23_3 w0_3 → (∀ G_4 : GS, G_4 = sI G_1 7 0 w0_3 → (((G_4.1 7 0) ≤ 0 → ((¬ x2 = 0 → ((¬ x2 = 1 → ((¬ x2 = 2 → ((¬ x2 = 3 → (∃ j103_9 : Nat, j103_9 < 40 ∧ x1 = nI j103_9 ∧ (wp_X7_inHeap G_4 (G_4.1 26 j103_9) (fun r_12 G_11 => post r_12 G_11)))) ∧ (x2 = 3 → (wp_X7_cameBack G_4 x1 (fun r_14 G_13 => (r_14 = 0 → (post 0 G_13)) ∧ (¬ (r_14 = 0) → (post 1 G_13))))))) ∧ (x2 = 2 → (∃ j72_15 : Nat, j72_15 < 40 ∧ x1 = nI j72_15 ∧ (post (G_4.1 25 j72_15) G_4))))) ∧ (x2 = 1 → (∃ j58_16 : Nat, j58_16 < 40 ∧ x1 = nI j58_16 ∧ (post (G_4.1 23 j58_16) G_4))))) ∧ (x2 = 0 → (∃ j44_17 : Nat, j44_17 < 40 ∧ x1 = nI j44_17 ∧ (post (G_4.1 24 j44_17) G_4))))) ∧ (¬ ((G_4.1 7 0) ≤ 0) → (post 0 G_4))))) ∧ ((r_2 = 0 → (J23_3 1)) ∧ (¬ (r_2 = 0) → ((x2 < 0 → (J23_3 1)) ∧ (¬ (x2 < 0) → ((4 < x2 → (J23_3 1)) ∧ (¬ (4 < x2) → (J23_3 0))))))))
set_option maxHeartbeats 4000000 in
set_option maxRecDepth 100000 in
theorem m_X7_look (l : Launch) (D : va_G) (cy : Nat → ClassId) (q : Nat → Nat) (G : GS) (x1 : Int32) (x2 : Int32) (post : Int32 → GS → Prop) (h : wp_X7_look G x1 x2 post) : gMi l yX7_look wsX7_look rmX7_look D cy q [.ref (q 7), .int x1, .int x2] G post := by
  intro sz
  refine Met.ofW (cc := cX7_look) (maxL := 3) (ret := (some .int)) (by decide) rfl ?_
  intro p e s m args below meth c s₁ B hml hv
  obtain ⟨ha, hsz, X, hw, hA, hr, hlk⟩ := g_start B hml hv
  have hx := X.1.1
  have hb := X.1.2.1
  have hown := X.1.2.2.2.1
  have hts := X.1.2.2.2.2
  refine g_in ha (Nat.le_of_ble_eq_true rfl) (fun ls hl => ?_)
  have hl : lv_has ls 3 [(0, .ref (q 7)), (1, .int x1), (2, .int x2)] := hl
  unfold wp_X7_look at h
  have hinX7 : ∀ w ∈ wsX70, w ∈ wsX7_look := fun _ h9 => (List.mem_cons_of_mem _ (List.mem_append_right _ h9))
  refine lv_aload_n hx hb dX7_look_0 rfl (lv_at hl 0 rfl) ?_
  refine lv_aload_n hx hb dX7_look_1 rfl (lv_at hl 0 rfl) ?_
  refine lv_iload_n hx hb dX7_look_2 rfl (lv_at hl 1 rfl) ?_
  refine g_callVi 7 (C := RX7) (T := TX7) (N := 31) (As := [.int x1]) (rest := [.ref (q 7)]) X hw hA (m_X7_isReport l D cy q G x1 _ h) (by decide) rfl (cwV 1 hts gX7_look_X7_isReport rfl rfl rfl (by decide +kernel) ⟨Nat.le_of_ble_eq_true rfl, Nat.le_of_ble_eq_true rfl⟩) rfl hl.1 rfl (Nat.le_of_ble_eq_true rfl) dX7_look_3 ⟨Nat.zero_le _, Nat.zero_le _⟩ (fun r_2 G_1 H locs h hw => ?_)
  obtain ⟨J23_3, hJ23_3, h⟩ := h
  have LJ23_3 : ∀ (w0_3 : Int32) (H : Heap) (locs : List Loc) (ls : Array Slot), gH D cy q (gA q sz) s.heap G_1 H locs → lv_has ls 3 [(0, .ref (q 7)), (1, .int x1), (2, .int x2)] → J23_3 w0_3 → W p l e (headSpec wsX7_look rmX7_look).room s m args below meth c H locs 0 0 (MQ below (va_Qi post (gPo D cy q sz) (gA q sz)) args s 0 0 (gA q sz)) (F0 m 23 ls [.int w0_3, .ref (q 7)]) := by
    intro w0_3 H locs ls hw hl h
    have h := hJ23_3 w0_3 h
    refine g_put 7 0 (v := w0_3) (ty := .int) (C := RX7) (T := TX7) (N := 31) X hw (by decide) hinX7 tyX7_ok nmX7 rfl (by decide) (List.mem_cons_of_mem _ (List.mem_append_left _ (List.mem_of_getElem? (i := 0) rfl))) rfl (by decide +kernel) rfl rfl (Nat.le_of_ble_eq_true rfl) rfl dX7_look_23 (fun H locs hw => ?_)
    obtain ⟨G_4, eG_4⟩ : ∃ z, z = sI G_1 7 0 w0_3 := ⟨_, rfl⟩
    rw [← eG_4] at hw
    have h := h G_4 eG_4
    refine lv_aload_n hx hb dX7_look_26 rfl (lv_at hl 0 rfl) ?_
    refine g_get 7 0 (v := .int (G_4.1 7 0)) (C := RX7) (T := TX7) (N := 31) X hw (by decide) hinX7 rfl (by decide) (List.mem_cons_of_mem _ (List.mem_append_left _ (List.mem_of_getElem? (i := 0) rfl))) rfl dX7_look_27 ?_
    refine lv_if_le (tgt := 35) hx hb dX7_look_30 (by decide) (fun c30_4 => ?_) (fun c30_4 => ?_)
    · have h := h.1 c30_4
      refine lv_iload_n hx hb dX7_look_35 rfl (lv_at hl 2 rfl) ?_
      refine lv_if_ne (tgt := 48) hx hb dX7_look_36 (by decide) (fun c36_5 => ?_) (fun c36_5 => ?_)
      · have h := h.1 c36_5
        refine lv_iload_n hx hb dX7_look_48 rfl (lv_at hl 2 rfl) ?_
        refine lv_iconst (v := 1) hx hb dX7_look_49 (by decide) ?_
        refine lv_icmp_ne (tgt := 62) hx hb dX7_look_50 (by decide) (fun c50_6 => ?_) (fun c50_6 => ?_)
        · have h := h.1 c50_6
          refine lv_iload_n hx hb dX7_look_62 rfl (lv_at hl 2 rfl) ?_
          refine lv_iconst (v := 2) hx hb dX7_look_63 (by decide) ?_
          refine lv_icmp_ne (tgt := 76) hx hb dX7_look_64 (by decide) (fun c64_7 => ?_) (fun c64_7 => ?_)
          · have h := h.1 c64_7
            refine lv_iload_n hx hb dX7_look_76 rfl (lv_at hl 2 rfl) ?_
            refine lv_iconst (v := 3) hx hb dX7_look_77 (by decide) ?_
            refine lv_icmp_ne (tgt := 97) hx hb dX7_look_78 (by decide) (fun c78_8 => ?_) (fun c78_8 => ?_)
            · have h := h.1 c78_8
              refine lv_aload_n hx hb dX7_look_97 rfl (lv_at hl 0 rfl) ?_
              refine lv_aload_n hx hb dX7_look_98 rfl (lv_at hl 0 rfl) ?_
              refine g_get 7 10 (v := .ref (q 26)) (C := RX7) (T := TX7) (N := 31) X hw (by decide) hinX7 rfl (by decide) (List.mem_cons_of_mem _ (List.mem_append_left _ (List.mem_of_getElem? (i := 4) rfl))) rfl dX7_look_99 ?_
              refine lv_iload_n hx hb dX7_look_102 rfl (lv_at hl 1 rfl) ?_
              obtain ⟨j103_9, bj103_9, ej103_9, h⟩ := h
              refine g_iald 26 40 j103_9 X hw (Or.inr ⟨by decide, by decide⟩) rfl bj103_9 ej103_9 (by decide) dX7_look_103 ?_
              refine g_callVi 7 (C := RX7) (T := TX7) (N := 31) (As := [.int (G_4.1 26 j103_9)]) (rest := []) X hw hA (m_X7_inHeap l D cy q G_4 (G_4.1 26 j103_9) _ h) (by decide) rfl (cwV 1 hts gX7_look_X7_inHeap rfl rfl rfl (by decide +kernel) ⟨Nat.le_of_ble_eq_true rfl, Nat.le_of_ble_eq_true rfl⟩) rfl hl.1 rfl (Nat.le_of_ble_eq_true rfl) dX7_look_104 ⟨Nat.zero_le _, Nat.zero_le _⟩ (fun r_12 G_11 H locs h hw => ?_)
              exact g_iret X hw hr hlk h dX7_look_107
            · have h := h.2 c78_8
              refine lv_aload_n hx hb dX7_look_81 rfl (lv_at hl 0 rfl) ?_
              refine lv_iload_n hx hb dX7_look_82 rfl (lv_at hl 1 rfl) ?_
              refine g_callVi 7 (C := RX7) (T := TX7) (N := 31) (As := [.int x1]) (rest := []) X hw hA (m_X7_cameBack l D cy q G_4 x1 _ h) (by decide) rfl (cwV 1 hts gX7_look_X7_cameBack rfl rfl rfl (by decide +kernel) ⟨Nat.le_of_ble_eq_true rfl, Nat.le_of_ble_eq_true rfl⟩) rfl hl.1 rfl (Nat.le_of_ble_eq_true rfl) dX7_look_83 ⟨Nat.zero_le _, Nat.zero_le _⟩ (fun r_14 G_13 H locs h hw => ?_)
              refine lv_if_eq (tgt := 93) hx hb dX7_look_86 (by decide) (fun c86_14 => ?_) (fun c86_14 => ?_)
              · have h := h.1 c86_14
                refine lv_iconst (v := 0) hx hb dX7_look_93 (by decide) ?_
                refine lv_goto (tgt := 107) hx hb dX7_look_94 (by decide) ?_
                exact g_iret X hw hr hlk h dX7_look_107
              · have h := h.2 c86_14
                refine lv_iconst (v := 1) hx hb dX7_look_89 (by decide) ?_
                refine lv_goto (tgt := 107) hx hb dX7_look_90 (by decide) ?_
                exact g_iret X hw hr hlk h dX7_look_107
          · have h := h.2 c64_7
            refine lv_aload_n hx hb dX7_look_67 rfl (lv_at hl 0 rfl) ?_
            refine g_get 7 9 (v := .ref (q 25)) (C := RX7) (T := TX7) (N := 31) X hw (by decide) hinX7 rfl (by decide) (List.mem_cons_of_mem _ (List.mem_append_left _ (List.mem_of_getElem? (i := 3) rfl))) rfl dX7_look_68 ?_
            refine lv_iload_n hx hb dX7_look_71 rfl (lv_at hl 1 rfl) ?_
            obtain ⟨j72_15, bj72_15, ej72_15, h⟩ := h
            refine g_iald 25 40 j72_15 X hw (Or.inr ⟨by decide, by decide⟩) rfl bj72_15 ej72_15 (by decide) dX7_look_72 ?_
            refine lv_goto (tgt := 107) hx hb dX7_look_73 (by decide) ?_
            exact g_iret X hw hr hlk h dX7_look_107
        · have h := h.2 c50_6
          refine lv_aload_n hx hb dX7_look_53 rfl (lv_at hl 0 rfl) ?_
          refine g_get 7 7 (v := .ref (q 23)) (C := RX7) (T := TX7) (N := 31) X hw (by decide) hinX7 rfl (by decide) (List.mem_cons_of_mem _ (List.mem_append_left _ (List.mem_of_getElem? (i := 2) rfl))) rfl dX7_look_54 ?_
          refine lv_iload_n hx hb dX7_look_57 rfl (lv_at hl 1 rfl) ?_
          obtain ⟨j58_16, bj58_16, ej58_16, h⟩ := h
          refine g_iald 23 40 j58_16 X hw (Or.inr ⟨by decide, by decide⟩) rfl bj58_16 ej58_16 (by decide) dX7_look_58 ?_
          refine lv_goto (tgt := 107) hx hb dX7_look_59 (by decide) ?_
          exact g_iret X hw hr hlk h dX7_look_107
      · have h := h.2 c36_5
        refine lv_aload_n hx hb dX7_look_39 rfl (lv_at hl 0 rfl) ?_
        refine g_get 7 8 (v := .ref (q 24)) (C := RX7) (T := TX7) (N := 31) X hw (by decide) hinX7 rfl (by decide) (List.mem_cons_of_mem _ (List.mem_append_left _ (List.mem_of_getElem? (i := 1) rfl))) rfl dX7_look_40 ?_
        refine lv_iload_n hx hb dX7_look_43 rfl (lv_at hl 1 rfl) ?_
        obtain ⟨j44_17, bj44_17, ej44_17, h⟩ := h
        refine g_iald 24 40 j44_17 X hw (Or.inr ⟨by decide, by decide⟩) rfl bj44_17 ej44_17 (by decide) dX7_look_44 ?_
        refine lv_goto (tgt := 107) hx hb dX7_look_45 (by decide) ?_
        exact g_iret X hw hr hlk h dX7_look_107
    · have h := h.2 c30_4
      refine lv_iconst (v := 0) hx hb dX7_look_33 (by decide) ?_
      exact g_iret X hw hr hlk h dX7_look_34
  refine lv_if_eq (tgt := 22) hx hb dX7_look_6 (by decide) (fun c6_18 => ?_) (fun c6_18 => ?_)
  · have h := h.1 c6_18
    refine lv_iconst (v := 1) hx hb dX7_look_22 (by decide) ?_
    exact LJ23_3 1 _ _ ls hw (lv_sub hl [0, 1, 2] rfl) h
  · have h := h.2 c6_18
    refine lv_iload_n hx hb dX7_look_9 rfl (lv_at hl 2 rfl) ?_
    refine lv_if_lt (tgt := 22) hx hb dX7_look_10 (by decide) (fun c10_19 => ?_) (fun c10_19 => ?_)
    · have h := h.1 c10_19
      refine lv_iconst (v := 1) hx hb dX7_look_22 (by decide) ?_
      exact LJ23_3 1 _ _ ls hw (lv_sub hl [0, 1, 2] rfl) h
    · have h := h.2 c10_19
      refine lv_iload_n hx hb dX7_look_13 rfl (lv_at hl 2 rfl) ?_
      refine lv_iconst (v := 4) hx hb dX7_look_14 (by decide) ?_
      refine lv_icmp_gt (tgt := 22) hx hb dX7_look_15 (by decide) (fun c15_20 => ?_) (fun c15_20 => ?_)
      · have h := h.1 c15_20
        refine lv_iconst (v := 1) hx hb dX7_look_22 (by decide) ?_
        exact LJ23_3 1 _ _ ls hw (lv_sub hl [0, 1, 2] rfl) h
      · have h := h.2 c15_20
        refine lv_iconst (v := 0) hx hb dX7_look_18 (by decide) ?_
        refine lv_goto (tgt := 23) hx hb dX7_look_19 (by decide) ?_
        exact LJ23_3 0 _ _ ls hw (lv_sub hl [0, 1, 2] rfl) h

abbrev rmX7_count : Room := { frames := 2, cells := 0, slots := 0, locals := 47 }
def wp_X7_count (G : GS) (x1 : Int32) (post : Int32 → GS → Prop) : Prop :=
  ∀ G_1 : GS, G_1 = sI G 7 0 0 → ((x1 = 0 → (post (G_1.1 7 5) G_1)) ∧ (x1 = 1 → (wp_X7_heaps G_1 (fun r_3 G_2 => post r_3 G_2))) ∧ (x1 = 2 → (post (G_1.1 7 1) G_1)) ∧ (x1 = 3 → (post (G_1.1 7 18) G_1)) ∧ (x1 = 4 → (post (G_1.1 7 3) G_1)) ∧ (x1 = 5 → (∃ I83_4 : Nat → Int32 → Int32 → GS → Prop, (∃ n_4 : Nat, I83_4 n_4 0 1 G_1) ∧ ∀ (n_4 : Nat) (v2_4 : Int32) (v3_4 : Int32) (G_4 : GS), I83_4 n_4 v2_4 v3_4 G_4 → ((500 < v3_4 → (post v2_4 G_4)) ∧ (¬ (500 < v3_4) → (wp_X7_isCommon G_4 v3_4 (fun r_7 G_6 => (r_7 = 0 → (∀ y_9 : Int32, y_9 = v2_4 + 0 → (∃ k_11 : Nat, k_11 < n_4 ∧ I83_4 k_11 y_9 (v3_4 + 1) G_6))) ∧ (¬ (r_7 = 0) → (∀ y_12 : Int32, y_12 = v2_4 + 1 → (∃ k_14 : Nat, k_14 < n_4 ∧ I83_4 k_14 y_12 (v3_4 + 1) G_6))))))))) ∧ (x1 = 6 → (post (G_1.1 7 20) G_1)) ∧ (x1 = 7 → (∃ I121_15 : Nat → Int32 → Int32 → GS → Prop, (∃ n_15 : Nat, I121_15 n_15 0 0 G_1) ∧ ∀ (n_15 : Nat) (v2_15 : Int32) (v3_15 : Int32) (G_15 : GS), I121_15 n_15 v2_15 v3_15 G_15 → (((G_15.1 7 5) ≤ v3_15 → (post v2_15 G_15)) ∧ (¬ ((G_15.1 7 5) ≤ v3_15) → (wp_X7_cameBack G_15 v3_15 (fun r_18 G_17 => (r_18 = 0 → (∀ y_20 : Int32, y_20 = v2_15 + 0 → (∃ k_22 : Nat, k_22 < n_15 ∧ I121_15 k_22 y_20 (v3_15 + 1) G_17))) ∧ (¬ (r_18 = 0) → (∀ y_23 : Int32, y_23 = v2_15 + 1 → (∃ k_25 : Nat, k_25 < n_15 ∧ I121_15 k_25 y_23 (v3_15 + 1) G_17))))))))) ∧ (¬ x1 = 0 → ¬ x1 = 1 → ¬ x1 = 2 → ¬ x1 = 3 → ¬ x1 = 4 → ¬ x1 = 5 → ¬ x1 = 6 → ¬ x1 = 7 → (post (-1) G_1)))
set_option maxHeartbeats 4000000 in
set_option maxRecDepth 100000 in
theorem m_X7_count (l : Launch) (D : va_G) (cy : Nat → ClassId) (q : Nat → Nat) (G : GS) (x1 : Int32) (post : Int32 → GS → Prop) (h : wp_X7_count G x1 post) : gMi l yX7_count wsX7_count rmX7_count D cy q [.ref (q 7), .int x1] G post := by
  intro sz
  refine Met.ofW (cc := cX7_count) (maxL := 4) (ret := (some .int)) (by decide) rfl ?_
  intro p e s m args below meth c s₁ B hml hv
  obtain ⟨ha, hsz, X, hw, hA, hr, hlk⟩ := g_start B hml hv
  have hx := X.1.1
  have hb := X.1.2.1
  have hown := X.1.2.2.2.1
  have hts := X.1.2.2.2.2
  refine g_in ha (Nat.le_of_ble_eq_true rfl) (fun ls hl => ?_)
  have hl : lv_has ls 4 [(0, .ref (q 7)), (1, .int x1)] := hl
  unfold wp_X7_count at h
  have hinX7 : ∀ w ∈ wsX70, w ∈ wsX7_count := fun _ h9 => (List.mem_cons_of_mem _ (List.mem_append_right _ h9))
  refine lv_aload_n hx hb dX7_count_0 rfl (lv_at hl 0 rfl) ?_
  refine lv_iconst (v := 0) hx hb dX7_count_1 (by decide) ?_
  refine g_put 7 0 (v := 0) (ty := .int) (C := RX7) (T := TX7) (N := 31) X hw (by decide) hinX7 tyX7_ok nmX7 rfl (by decide) (List.mem_cons_of_mem _ (List.mem_append_left _ (List.mem_append_left _ (List.mem_of_getElem? (i := 0) rfl)))) rfl (by decide +kernel) rfl rfl (Nat.le_of_ble_eq_true rfl) rfl dX7_count_2 (fun H locs hw => ?_)
  obtain ⟨G_1, eG_1⟩ : ∃ z, z = sI G 7 0 0 := ⟨_, rfl⟩
  rw [← eG_1] at hw
  have h := h G_1 eG_1
  refine lv_iconst (v := 0) hx hb dX7_count_5 (by decide) ?_
  refine lv_istore_n (lv' := [(2, .int 0), (0, .ref (q 7)), (1, .int x1)]) hx hb dX7_count_6 rfl hl (by decide) rfl (fun ls hl => ?_)
  refine lv_iload_n hx hb dX7_count_7 rfl (lv_at hl 2 rfl) ?_
  by_cases c8_0 : x1 = 0
  · have h := h.1 c8_0
    refine lv_tableIn (off := 48) (tgt := 56) hx hb dX7_count_8 (by rw [c8_0]; decide) (by rw [c8_0]; decide) (by rw [c8_0]; rfl) (by decide) ?_
    refine lv_aload_n hx hb dX7_count_56 rfl (lv_at hl 1 rfl) ?_
    refine g_get 7 5 (v := .int (G_1.1 7 5)) (C := RX7) (T := TX7) (N := 31) X hw (by decide) hinX7 rfl (by decide) (List.mem_cons_of_mem _ (List.mem_append_left _ (List.mem_append_left _ (List.mem_of_getElem? (i := 1) rfl)))) rfl dX7_count_57 ?_
    exact g_iret X hw hr hlk h dX7_count_60
  by_cases c8_1 : x1 = 1
  · have h := h.2.1 c8_1
    refine lv_tableIn (off := 53) (tgt := 61) hx hb dX7_count_8 (by rw [c8_1]; decide) (by rw [c8_1]; decide) (by rw [c8_1]; rfl) (by decide) ?_
    refine lv_aload_n hx hb dX7_count_61 rfl (lv_at hl 1 rfl) ?_
    refine g_callVi 7 (C := RX7) (T := TX7) (N := 31) (As := []) (rest := []) X hw hA (m_X7_heaps l D cy q G_1 _ h) (by decide) rfl (cwV 0 hts gX7_count_X7_heaps rfl rfl rfl (by decide +kernel) ⟨Nat.le_of_ble_eq_true rfl, Nat.le_of_ble_eq_true rfl⟩) rfl hl.1 rfl (Nat.le_of_ble_eq_true rfl) dX7_count_62 ⟨Nat.zero_le _, Nat.zero_le _⟩ (fun r_3 G_2 H locs h hw => ?_)
    exact g_iret X hw hr hlk h dX7_count_65
  by_cases c8_2 : x1 = 2
  · have h := h.2.2.1 c8_2
    refine lv_tableIn (off := 58) (tgt := 66) hx hb dX7_count_8 (by rw [c8_2]; decide) (by rw [c8_2]; decide) (by rw [c8_2]; rfl) (by decide) ?_
    refine lv_aload_n hx hb dX7_count_66 rfl (lv_at hl 1 rfl) ?_
    refine g_get 7 1 (v := .int (G_1.1 7 1)) (C := RX7) (T := TX7) (N := 31) X hw (by decide) hinX7 rfl (by decide) (List.mem_cons_of_mem _ (List.mem_append_left _ (List.mem_append_left _ (List.mem_of_getElem? (i := 2) rfl)))) rfl dX7_count_67 ?_
    exact g_iret X hw hr hlk h dX7_count_70
  by_cases c8_3 : x1 = 3
  · have h := h.2.2.2.1 c8_3
    refine lv_tableIn (off := 63) (tgt := 71) hx hb dX7_count_8 (by rw [c8_3]; decide) (by rw [c8_3]; decide) (by rw [c8_3]; rfl) (by decide) ?_
    refine lv_aload_n hx hb dX7_count_71 rfl (lv_at hl 1 rfl) ?_
    refine g_get 7 18 (v := .int (G_1.1 7 18)) (C := RX7) (T := TX7) (N := 31) X hw (by decide) hinX7 rfl (by decide) (List.mem_cons_of_mem _ (List.mem_append_left _ (List.mem_append_left _ (List.mem_of_getElem? (i := 3) rfl)))) rfl dX7_count_72 ?_
    exact g_iret X hw hr hlk h dX7_count_75
  by_cases c8_4 : x1 = 4
  · have h := h.2.2.2.2.1 c8_4
    refine lv_tableIn (off := 68) (tgt := 76) hx hb dX7_count_8 (by rw [c8_4]; decide) (by rw [c8_4]; decide) (by rw [c8_4]; rfl) (by decide) ?_
    refine lv_aload_n hx hb dX7_count_76 rfl (lv_at hl 1 rfl) ?_
    refine g_get 7 3 (v := .int (G_1.1 7 3)) (C := RX7) (T := TX7) (N := 31) X hw (by decide) hinX7 rfl (by decide) (List.mem_cons_of_mem _ (List.mem_append_left _ (List.mem_append_left _ (List.mem_of_getElem? (i := 4) rfl)))) rfl dX7_count_77 ?_
    exact g_iret X hw hr hlk h dX7_count_80
  by_cases c8_5 : x1 = 5
  · have h := h.2.2.2.2.2.1 c8_5
    refine lv_tableIn (off := 73) (tgt := 81) hx hb dX7_count_8 (by rw [c8_5]; decide) (by rw [c8_5]; decide) (by rw [c8_5]; rfl) (by decide) ?_
    refine lv_iconst (v := 1) hx hb dX7_count_81 (by decide) ?_
    refine lv_istore_n (lv' := [(3, .int 1), (2, .int 0), (0, .ref (q 7)), (1, .int x1)]) hx hb dX7_count_82 rfl hl (by decide) rfl (fun ls hl => ?_)
    obtain ⟨I83_4, ⟨n_4, h0⟩, hI83_4⟩ := h
    have LI83_4 : ∀ (n_4 : Nat) (v2_4 : Int32) (v3_4 : Int32) (G_4 : GS) (H : Heap) (locs : List Loc) (ls : Array Slot), gH D cy q (gA q sz) s.heap G_4 H locs → lv_has ls 4 [(0, .ref (q 7)), (2, .int v2_4), (3, .int v3_4)] → I83_4 n_4 v2_4 v3_4 G_4 → W p l e (headSpec wsX7_count rmX7_count).room s m args below meth c H locs 0 0 (MQ below (va_Qi post (gPo D cy q sz) (gA q sz)) args s 0 0 (gA q sz)) (F0 m 83 ls []) := by
      intro n_4
      induction n_4 using Nat.strongRecOn with
      | ind n_4 ihI83_4 =>
        intro v2_4 v3_4 G_4 H locs ls hw hl h
        have h := hI83_4 n_4 v2_4 v3_4 G_4 h
        refine lv_iload_n hx hb dX7_count_83 rfl (lv_at hl 2 rfl) ?_
        refine lv_sipush (v := 500) hx hb dX7_count_84 (by decide) ?_
        refine lv_icmp_gt (tgt := 112) hx hb dX7_count_87 (by decide) (fun c87_4 => ?_) (fun c87_4 => ?_)
        · have h := h.1 c87_4
          refine lv_iload_n hx hb dX7_count_112 rfl (lv_at hl 1 rfl) ?_
          exact g_iret X hw hr hlk h dX7_count_113
        · have h := h.2 c87_4
          refine lv_iload_n hx hb dX7_count_90 rfl (lv_at hl 1 rfl) ?_
          refine lv_aload_n hx hb dX7_count_91 rfl (lv_at hl 0 rfl) ?_
          refine lv_iload_n hx hb dX7_count_92 rfl (lv_at hl 2 rfl) ?_
          refine g_callVi 7 (C := RX7) (T := TX7) (N := 31) (As := [.int v3_4]) (rest := [.int v2_4]) X hw hA (m_X7_isCommon l D cy q G_4 v3_4 _ h) (by decide) rfl (cwV 1 hts gX7_count_X7_isCommon rfl rfl rfl (by decide +kernel) ⟨Nat.le_of_ble_eq_true rfl, Nat.le_of_ble_eq_true rfl⟩) rfl hl.1 rfl (Nat.le_of_ble_eq_true rfl) dX7_count_93 ⟨Nat.zero_le _, Nat.zero_le _⟩ (fun r_7 G_6 H locs h hw => ?_)
          refine lv_if_eq (tgt := 103) hx hb dX7_count_96 (by decide) (fun c96_7 => ?_) (fun c96_7 => ?_)
          · have h := h.1 c96_7
            refine lv_iconst (v := 0) hx hb dX7_count_103 (by decide) ?_
            refine lv_iadd hx hb dX7_count_104 ?_
            refine lv_topi (fun y_9 ey_9 => ?_)
            have h := h y_9 ey_9
            refine lv_istore_n (lv' := [(2, .int y_9), (0, .ref (q 7)), (3, .int v3_4)]) hx hb dX7_count_105 rfl hl (by decide) rfl (fun ls hl => ?_)
            refine lv_iinc (v := v3_4 + 1) (lv' := [(3, .int (v3_4 + 1)), (2, .int y_9), (0, .ref (q 7))]) hx hb dX7_count_106 hl (k := 2) rfl rfl (by decide) rfl (fun ls hl => ?_)
            refine lv_goto (tgt := 83) hx hb dX7_count_109 (by decide) ?_
            obtain ⟨k_11, hm, h⟩ := h
            exact ihI83_4 k_11 hm y_9 (v3_4 + 1) G_6 _ _ ls hw (lv_sub hl [2, 1, 0] rfl) h
          · have h := h.2 c96_7
            refine lv_iconst (v := 1) hx hb dX7_count_99 (by decide) ?_
            refine lv_goto (tgt := 104) hx hb dX7_count_100 (by decide) ?_
            refine lv_iadd hx hb dX7_count_104 ?_
            refine lv_topi (fun y_12 ey_12 => ?_)
            have h := h y_12 ey_12
            refine lv_istore_n (lv' := [(2, .int y_12), (0, .ref (q 7)), (3, .int v3_4)]) hx hb dX7_count_105 rfl hl (by decide) rfl (fun ls hl => ?_)
            refine lv_iinc (v := v3_4 + 1) (lv' := [(3, .int (v3_4 + 1)), (2, .int y_12), (0, .ref (q 7))]) hx hb dX7_count_106 hl (k := 2) rfl rfl (by decide) rfl (fun ls hl => ?_)
            refine lv_goto (tgt := 83) hx hb dX7_count_109 (by decide) ?_
            obtain ⟨k_14, hm, h⟩ := h
            exact ihI83_4 k_14 hm y_12 (v3_4 + 1) G_6 _ _ ls hw (lv_sub hl [2, 1, 0] rfl) h
    exact LI83_4 n_4 0 1 G_1 _ _ ls hw (lv_sub hl [2, 1, 0] rfl) h0
  by_cases c8_6 : x1 = 6
  · have h := h.2.2.2.2.2.2.1 c8_6
    refine lv_tableIn (off := 106) (tgt := 114) hx hb dX7_count_8 (by rw [c8_6]; decide) (by rw [c8_6]; decide) (by rw [c8_6]; rfl) (by decide) ?_
    refine lv_aload_n hx hb dX7_count_114 rfl (lv_at hl 1 rfl) ?_
    refine g_get 7 20 (v := .int (G_1.1 7 20)) (C := RX7) (T := TX7) (N := 31) X hw (by decide) hinX7 rfl (by decide) (List.mem_cons_of_mem _ (List.mem_append_left _ (List.mem_append_left _ (List.mem_of_getElem? (i := 5) rfl)))) rfl dX7_count_115 ?_
    exact g_iret X hw hr hlk h dX7_count_118
  by_cases c8_7 : x1 = 7
  · have h := h.2.2.2.2.2.2.2.1 c8_7
    refine lv_tableIn (off := 111) (tgt := 119) hx hb dX7_count_8 (by rw [c8_7]; decide) (by rw [c8_7]; decide) (by rw [c8_7]; rfl) (by decide) ?_
    refine lv_iconst (v := 0) hx hb dX7_count_119 (by decide) ?_
    refine lv_istore_n (lv' := [(3, .int 0), (2, .int 0), (0, .ref (q 7)), (1, .int x1)]) hx hb dX7_count_120 rfl hl (by decide) rfl (fun ls hl => ?_)
    obtain ⟨I121_15, ⟨n_15, h0⟩, hI121_15⟩ := h
    have LI121_15 : ∀ (n_15 : Nat) (v2_15 : Int32) (v3_15 : Int32) (G_15 : GS) (H : Heap) (locs : List Loc) (ls : Array Slot), gH D cy q (gA q sz) s.heap G_15 H locs → lv_has ls 4 [(0, .ref (q 7)), (2, .int v2_15), (3, .int v3_15)] → I121_15 n_15 v2_15 v3_15 G_15 → W p l e (headSpec wsX7_count rmX7_count).room s m args below meth c H locs 0 0 (MQ below (va_Qi post (gPo D cy q sz) (gA q sz)) args s 0 0 (gA q sz)) (F0 m 121 ls []) := by
      intro n_15
      induction n_15 using Nat.strongRecOn with
      | ind n_15 ihI121_15 =>
        intro v2_15 v3_15 G_15 H locs ls hw hl h
        have h := hI121_15 n_15 v2_15 v3_15 G_15 h
        refine lv_iload_n hx hb dX7_count_121 rfl (lv_at hl 2 rfl) ?_
        refine lv_aload_n hx hb dX7_count_122 rfl (lv_at hl 0 rfl) ?_
        refine g_get 7 5 (v := .int (G_15.1 7 5)) (C := RX7) (T := TX7) (N := 31) X hw (by decide) hinX7 rfl (by decide) (List.mem_cons_of_mem _ (List.mem_append_left _ (List.mem_append_left _ (List.mem_of_getElem? (i := 1) rfl)))) rfl dX7_count_123 ?_
        refine lv_icmp_ge (tgt := 151) hx hb dX7_count_126 (by decide) (fun c126_15 => ?_) (fun c126_15 => ?_)
        · have h := h.1 c126_15
          refine lv_iload_n hx hb dX7_count_151 rfl (lv_at hl 1 rfl) ?_
          exact g_iret X hw hr hlk h dX7_count_152
        · have h := h.2 c126_15
          refine lv_iload_n hx hb dX7_count_129 rfl (lv_at hl 1 rfl) ?_
          refine lv_aload_n hx hb dX7_count_130 rfl (lv_at hl 0 rfl) ?_
          refine lv_iload_n hx hb dX7_count_131 rfl (lv_at hl 2 rfl) ?_
          refine g_callVi 7 (C := RX7) (T := TX7) (N := 31) (As := [.int v3_15]) (rest := [.int v2_15]) X hw hA (m_X7_cameBack l D cy q G_15 v3_15 _ h) (by decide) rfl (cwV 1 hts gX7_count_X7_cameBack rfl rfl rfl (by decide +kernel) ⟨Nat.le_of_ble_eq_true rfl, Nat.le_of_ble_eq_true rfl⟩) rfl hl.1 rfl (Nat.le_of_ble_eq_true rfl) dX7_count_132 ⟨Nat.zero_le _, Nat.zero_le _⟩ (fun r_18 G_17 H locs h hw => ?_)
          refine lv_if_eq (tgt := 142) hx hb dX7_count_135 (by decide) (fun c135_18 => ?_) (fun c135_18 => ?_)
          · have h := h.1 c135_18
            refine lv_iconst (v := 0) hx hb dX7_count_142 (by decide) ?_
            refine lv_iadd hx hb dX7_count_143 ?_
            refine lv_topi (fun y_20 ey_20 => ?_)
            have h := h y_20 ey_20
            refine lv_istore_n (lv' := [(2, .int y_20), (0, .ref (q 7)), (3, .int v3_15)]) hx hb dX7_count_144 rfl hl (by decide) rfl (fun ls hl => ?_)
            refine lv_iinc (v := v3_15 + 1) (lv' := [(3, .int (v3_15 + 1)), (2, .int y_20), (0, .ref (q 7))]) hx hb dX7_count_145 hl (k := 2) rfl rfl (by decide) rfl (fun ls hl => ?_)
            refine lv_goto (tgt := 121) hx hb dX7_count_148 (by decide) ?_
            obtain ⟨k_22, hm, h⟩ := h
            exact ihI121_15 k_22 hm y_20 (v3_15 + 1) G_17 _ _ ls hw (lv_sub hl [2, 1, 0] rfl) h
          · have h := h.2 c135_18
            refine lv_iconst (v := 1) hx hb dX7_count_138 (by decide) ?_
            refine lv_goto (tgt := 143) hx hb dX7_count_139 (by decide) ?_
            refine lv_iadd hx hb dX7_count_143 ?_
            refine lv_topi (fun y_23 ey_23 => ?_)
            have h := h y_23 ey_23
            refine lv_istore_n (lv' := [(2, .int y_23), (0, .ref (q 7)), (3, .int v3_15)]) hx hb dX7_count_144 rfl hl (by decide) rfl (fun ls hl => ?_)
            refine lv_iinc (v := v3_15 + 1) (lv' := [(3, .int (v3_15 + 1)), (2, .int y_23), (0, .ref (q 7))]) hx hb dX7_count_145 hl (k := 2) rfl rfl (by decide) rfl (fun ls hl => ?_)
            refine lv_goto (tgt := 121) hx hb dX7_count_148 (by decide) ?_
            obtain ⟨k_25, hm, h⟩ := h
            exact ihI121_15 k_25 hm y_23 (v3_15 + 1) G_17 _ _ ls hw (lv_sub hl [2, 1, 0] rfl) h
    exact LI121_15 n_15 0 0 G_1 _ _ ls hw (lv_sub hl [2, 1, 0] rfl) h0
  have h := h.2.2.2.2.2.2.2.2 c8_0 c8_1 c8_2 c8_3 c8_4 c8_5 c8_6 c8_7
  have n0 := lv_neT (a := 0) c8_0 rfl
  have n1 := lv_neT (a := 1) c8_1 rfl
  have n2 := lv_neT (a := 2) c8_2 rfl
  have n3 := lv_neT (a := 3) c8_3 rfl
  have n4 := lv_neT (a := 4) c8_4 rfl
  have n5 := lv_neT (a := 5) c8_5 rfl
  have n6 := lv_neT (a := 6) c8_6 rfl
  have n7 := lv_neT (a := 7) c8_7 rfl
  refine lv_tableOut (tgt := 153) hx hb dX7_count_8 (by omega) (by decide) ?_
  refine lv_iconst (v := (-1)) hx hb dX7_count_153 (by decide) ?_
  exact g_iret X hw hr hlk h dX7_count_154
