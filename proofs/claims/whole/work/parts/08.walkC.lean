abbrev rmX2_latestAt : Room := { frames := 0, cells := 0, slots := 0, locals := 0 }
def wp_X2_latestAt (G : GS) (x1 : Int32) (post : Int32 → GS → Prop) : Prop :=
  (x1 < 0 → (post (-1) G)) ∧ (¬ (x1 < 0) → (((G.1 6 4) ≤ x1 → (post (-1) G)) ∧ (¬ ((G.1 6 4) ≤ x1) → (∃ j17_2 : Nat, j17_2 < 3 ∧ x1 = nI j17_2 ∧ (post (G.1 19 j17_2) G)))))
set_option maxHeartbeats 4000000 in
set_option maxRecDepth 100000 in
theorem m_X2_latestAt (l : Launch) (D : va_G) (cy : Nat → ClassId) (q : Nat → Nat) (G : GS) (x1 : Int32) (post : Int32 → GS → Prop) (h : wp_X2_latestAt G x1 post) : gMi l yX2_latestAt wsX2_latestAt rmX2_latestAt D cy q [.ref (q 6), .int x1] G post := by
  intro sz
  refine Met.ofW (cc := cX2_latestAt) (maxL := 2) (ret := (some .int)) (by decide) rfl ?_
  intro p e s m args below meth c s₁ B hml hv
  obtain ⟨ha, hsz, X, hw, hA, hr, hlk⟩ := g_start B hml hv
  have hx := X.1.1
  have hb := X.1.2.1
  have hown := X.1.2.2.2.1
  have hts := X.1.2.2.2.2
  refine g_in ha (Nat.le_of_ble_eq_true rfl) (fun ls hl => ?_)
  have hl : lv_has ls 2 [(0, .ref (q 6)), (1, .int x1)] := hl
  unfold wp_X2_latestAt at h
  have hinX2 : ∀ w ∈ wsX20, w ∈ wsX2_latestAt := fun _ h9 => (List.mem_cons_of_mem _ (List.mem_append_right _ h9))
  refine lv_iload_n hx hb dX2_latestAt_0 rfl (lv_at hl 1 rfl) ?_
  refine lv_if_lt (tgt := 21) hx hb dX2_latestAt_1 (by decide) (fun c1_0 => ?_) (fun c1_0 => ?_)
  · have h := h.1 c1_0
    refine lv_iconst (v := (-1)) hx hb dX2_latestAt_21 (by decide) ?_
    exact g_iret X hw hr hlk h dX2_latestAt_22
  · have h := h.2 c1_0
    refine lv_iload_n hx hb dX2_latestAt_4 rfl (lv_at hl 1 rfl) ?_
    refine lv_aload_n hx hb dX2_latestAt_5 rfl (lv_at hl 0 rfl) ?_
    refine g_get 6 4 (v := .int (G.1 6 4)) (C := RX2) (T := TX2) (N := 5) X hw (by decide) hinX2 rfl (by decide) (List.mem_cons_of_mem _ (List.mem_append_left _ (List.mem_of_getElem? (i := 0) rfl))) rfl dX2_latestAt_6 ?_
    refine lv_icmp_ge (tgt := 21) hx hb dX2_latestAt_9 (by decide) (fun c9_1 => ?_) (fun c9_1 => ?_)
    · have h := h.1 c9_1
      refine lv_iconst (v := (-1)) hx hb dX2_latestAt_21 (by decide) ?_
      exact g_iret X hw hr hlk h dX2_latestAt_22
    · have h := h.2 c9_1
      refine lv_aload_n hx hb dX2_latestAt_12 rfl (lv_at hl 0 rfl) ?_
      refine g_get 6 3 (v := .ref (q 19)) (C := RX2) (T := TX2) (N := 5) X hw (by decide) hinX2 rfl (by decide) (List.mem_cons_of_mem _ (List.mem_append_left _ (List.mem_of_getElem? (i := 1) rfl))) rfl dX2_latestAt_13 ?_
      refine lv_iload_n hx hb dX2_latestAt_16 rfl (lv_at hl 1 rfl) ?_
      obtain ⟨j17_2, bj17_2, ej17_2, h⟩ := h
      refine g_iald 19 3 j17_2 X hw (Or.inr ⟨by decide, by decide⟩) rfl bj17_2 ej17_2 (by decide) dX2_latestAt_17 ?_
      refine lv_goto (tgt := 22) hx hb dX2_latestAt_18 (by decide) ?_
      exact g_iret X hw hr hlk h dX2_latestAt_22

abbrev rmX2_gatherShared : Room := { frames := 1, cells := 0, slots := 0, locals := 21 }
def wp_X2_gatherShared (G : GS) (x2 : Int64) (post : GS → Prop) : Prop :=
  ∀ G_1 : GS, G_1 = sI G 6 2 0 → (∃ I8_2 : Nat → Int32 → GS → Prop, (∃ n_2 : Nat, I8_2 n_2 1 G_1) ∧ ∀ (n_2 : Nat) (v4_2 : Int32) (G_2 : GS), I8_2 n_2 v4_2 G_2 → ((500 < v4_2 → (post G_2)) ∧ (¬ (500 < v4_2) → ((12 ≤ (G_2.1 6 2) → (post G_2)) ∧ (¬ (12 ≤ (G_2.1 6 2)) → (wp_X3_holdersOf G_2 v4_2 (fun r_6 G_5 => (¬ (lg_cmp (r_6 &&& x2) x2) = 0 → (∃ k_9 : Nat, k_9 < n_2 ∧ I8_2 k_9 (v4_2 + 1) G_5)) ∧ ((lg_cmp (r_6 &&& x2) x2) = 0 → (∃ j52_9 : Nat, j52_9 < 12 ∧ G_5.1 6 2 = nI j52_9 ∧ (∀ G_11 : GS, G_11 = sI G_5 18 j52_9 v4_2 → (∃ j63_11 : Nat, j63_11 < 12 ∧ G_11.1 6 2 = nI j63_11 ∧ (∀ G_13 : GS, G_13 = sL G_11 39 j63_11 r_6 → (∀ G_14 : GS, G_14 = sI G_13 6 2 ((G_13.1 6 2) + 1) → (∃ k_16 : Nat, k_16 < n_2 ∧ I8_2 k_16 (v4_2 + 1) G_14))))))))))))))
set_option maxHeartbeats 4000000 in
set_option maxRecDepth 100000 in
theorem m_X2_gatherShared (l : Launch) (D : va_G) (cy : Nat → ClassId) (q : Nat → Nat) (G : GS) (x2 : Int64) (post : GS → Prop) (h : wp_X2_gatherShared G x2 post) : gMv l yX2_gatherShared wsX2_gatherShared rmX2_gatherShared D cy q [.ref (q 6), .ref (q 3), .long x2] G post := by
  intro sz
  refine Met.ofW (cc := cX2_gatherShared) (maxL := 7) (ret := none) (by decide) rfl ?_
  intro p e s m args below meth c s₁ B hml hv
  obtain ⟨ha, hsz, X, hw, hA, hr, hlk⟩ := g_start B hml hv
  have hx := X.1.1
  have hb := X.1.2.1
  have hown := X.1.2.2.2.1
  have hts := X.1.2.2.2.2
  refine g_in ha (Nat.le_of_ble_eq_true rfl) (fun ls hl => ?_)
  have hl : lv_has ls 7 [(0, .ref (q 6)), (1, .ref (q 3)), (2, .long x2)] := hl
  unfold wp_X2_gatherShared at h
  have hinX2 : ∀ w ∈ wsX20, w ∈ wsX2_gatherShared := fun _ h9 => (List.mem_cons_of_mem _ (List.mem_append_left _ (List.mem_append_right _ h9)))
  refine lv_aload_n hx hb dX2_gatherShared_0 rfl (lv_at hl 0 rfl) ?_
  refine lv_iconst (v := 0) hx hb dX2_gatherShared_1 (by decide) ?_
  refine g_put 6 2 (v := 0) (ty := .int) (C := RX2) (T := TX2) (N := 5) X hw (by decide) hinX2 tyX2_ok nmX2 rfl (by decide) (List.mem_cons_of_mem _ (List.mem_append_left _ (List.mem_append_left _ (List.mem_of_getElem? (i := 0) rfl)))) rfl (by decide +kernel) rfl rfl (Nat.le_of_ble_eq_true rfl) rfl dX2_gatherShared_2 (fun H locs hw => ?_)
  obtain ⟨G_1, eG_1⟩ : ∃ z, z = sI G 6 2 0 := ⟨_, rfl⟩
  rw [← eG_1] at hw
  have h := h G_1 eG_1
  refine lv_iconst (v := 1) hx hb dX2_gatherShared_5 (by decide) ?_
  refine lv_istore (lv' := [(4, .int 1), (0, .ref (q 6)), (1, .ref (q 3)), (2, .long x2)]) hx hb dX2_gatherShared_6 hl (by decide) rfl (fun ls hl => ?_)
  obtain ⟨I8_2, ⟨n_2, h0⟩, hI8_2⟩ := h
  have LI8_2 : ∀ (n_2 : Nat) (v4_2 : Int32) (G_2 : GS) (H : Heap) (locs : List Loc) (ls : Array Slot), gH D cy q (gA q sz) s.heap G_2 H locs → lv_has ls 7 [(0, .ref (q 6)), (1, .ref (q 3)), (2, .long x2), (4, .int v4_2)] → I8_2 n_2 v4_2 G_2 → W p l e (headSpec wsX2_gatherShared rmX2_gatherShared).room s m args below meth c H locs 0 0 (MQ below (va_Qv post (gPo D cy q sz) (gA q sz)) args s 0 0 (gA q sz)) (F0 m 8 ls []) := by
    intro n_2
    induction n_2 using Nat.strongRecOn with
    | ind n_2 ihI8_2 =>
      intro v4_2 G_2 H locs ls hw hl h
      have h := hI8_2 n_2 v4_2 G_2 h
      refine lv_iload hx hb dX2_gatherShared_8 (lv_at hl 3 rfl) ?_
      refine lv_sipush (v := 500) hx hb dX2_gatherShared_10 (by decide) ?_
      refine lv_icmp_gt (tgt := 80) hx hb dX2_gatherShared_13 (by decide) (fun c13_2 => ?_) (fun c13_2 => ?_)
      · have h := h.1 c13_2
        exact g_vret X hw hr hlk h dX2_gatherShared_80
      · have h := h.2 c13_2
        refine lv_aload_n hx hb dX2_gatherShared_16 rfl (lv_at hl 0 rfl) ?_
        refine g_get 6 2 (v := .int (G_2.1 6 2)) (C := RX2) (T := TX2) (N := 5) X hw (by decide) hinX2 rfl (by decide) (List.mem_cons_of_mem _ (List.mem_append_left _ (List.mem_append_left _ (List.mem_of_getElem? (i := 0) rfl)))) rfl dX2_gatherShared_17 ?_
        refine lv_bipush (v := 12) hx hb dX2_gatherShared_20 (by decide) ?_
        refine lv_icmp_ge (tgt := 80) hx hb dX2_gatherShared_22 (by decide) (fun c22_3 => ?_) (fun c22_3 => ?_)
        · have h := h.1 c22_3
          exact g_vret X hw hr hlk h dX2_gatherShared_80
        · have h := h.2 c22_3
          refine lv_aload_n hx hb dX2_gatherShared_25 rfl (lv_at hl 1 rfl) ?_
          refine lv_iload hx hb dX2_gatherShared_26 (lv_at hl 3 rfl) ?_
          refine g_callVl 3 (C := RX3) (T := TX3) (N := 6) (As := [.int v4_2]) (rest := []) X hw hA (m_X3_holdersOf l D cy q G_2 v4_2 _ h) (by decide) rfl (cwV 1 hts gX2_gatherShared_X3_holdersOf rfl rfl rfl (by decide +kernel) ⟨Nat.le_of_ble_eq_true rfl, Nat.le_of_ble_eq_true rfl⟩) rfl hl.1 rfl (Nat.le_of_ble_eq_true rfl) dX2_gatherShared_28 ⟨Nat.zero_le _, Nat.zero_le _⟩ (fun r_6 G_5 H locs h hw => ?_)
          refine lv_lstore (lv' := [(5, .long r_6), (0, .ref (q 6)), (1, .ref (q 3)), (2, .long x2), (4, .int v4_2)]) hx hb dX2_gatherShared_31 hl (by decide) rfl (fun ls hl => ?_)
          refine lv_lload hx hb dX2_gatherShared_33 (lv_at hl 0 rfl) ?_
          refine lv_lload_n hx hb dX2_gatherShared_35 rfl (lv_at hl 3 rfl) ?_
          refine lv_land hx hb dX2_gatherShared_36 ?_
          refine lv_lload_n hx hb dX2_gatherShared_37 rfl (lv_at hl 3 rfl) ?_
          refine W.lcmp hx hb dX2_gatherShared_38 ?_
          refine lv_if_ne (tgt := 74) hx hb dX2_gatherShared_39 (by decide) (fun c39_6 => ?_) (fun c39_6 => ?_)
          · have h := h.1 c39_6
            refine lv_iinc (v := v4_2 + 1) (lv' := [(4, .int (v4_2 + 1)), (5, .long r_6), (0, .ref (q 6)), (1, .ref (q 3)), (2, .long x2)]) hx hb dX2_gatherShared_74 hl (k := 4) rfl rfl (by decide) rfl (fun ls hl => ?_)
            refine lv_goto (tgt := 8) hx hb dX2_gatherShared_77 (by decide) ?_
            obtain ⟨k_9, hm, h⟩ := h
            exact ihI8_2 k_9 hm (v4_2 + 1) G_5 _ _ ls hw (lv_sub hl [2, 3, 4, 0] rfl) h
          · have h := h.2 c39_6
            refine lv_aload_n hx hb dX2_gatherShared_42 rfl (lv_at hl 1 rfl) ?_
            refine g_get 6 0 (v := .ref (q 18)) (C := RX2) (T := TX2) (N := 5) X hw (by decide) hinX2 rfl (by decide) (List.mem_cons_of_mem _ (List.mem_append_left _ (List.mem_append_left _ (List.mem_of_getElem? (i := 1) rfl)))) rfl dX2_gatherShared_43 ?_
            refine lv_aload_n hx hb dX2_gatherShared_46 rfl (lv_at hl 1 rfl) ?_
            refine g_get 6 2 (v := .int (G_5.1 6 2)) (C := RX2) (T := TX2) (N := 5) X hw (by decide) hinX2 rfl (by decide) (List.mem_cons_of_mem _ (List.mem_append_left _ (List.mem_append_left _ (List.mem_of_getElem? (i := 0) rfl)))) rfl dX2_gatherShared_47 ?_
            refine lv_iload hx hb dX2_gatherShared_50 (lv_at hl 4 rfl) ?_
            obtain ⟨j52_9, bj52_9, ej52_9, h⟩ := h
            refine g_iast 18 12 j52_9 X hw (Or.inr ⟨by decide, by decide⟩) rfl bj52_9 ej52_9 (by decide) dX2_gatherShared_52 (fun H locs hw => ?_)
            obtain ⟨G_11, eG_11⟩ : ∃ z, z = sI G_5 18 j52_9 v4_2 := ⟨_, rfl⟩
            rw [← eG_11] at hw
            have h := h G_11 eG_11
            refine lv_aload_n hx hb dX2_gatherShared_53 rfl (lv_at hl 1 rfl) ?_
            refine g_get 6 1 (v := .ref (q 39)) (C := RX2) (T := TX2) (N := 5) X hw (by decide) hinX2 rfl (by decide) (List.mem_cons_of_mem _ (List.mem_append_left _ (List.mem_append_left _ (List.mem_of_getElem? (i := 2) rfl)))) rfl dX2_gatherShared_54 ?_
            refine lv_aload_n hx hb dX2_gatherShared_57 rfl (lv_at hl 1 rfl) ?_
            refine g_get 6 2 (v := .int (G_11.1 6 2)) (C := RX2) (T := TX2) (N := 5) X hw (by decide) hinX2 rfl (by decide) (List.mem_cons_of_mem _ (List.mem_append_left _ (List.mem_append_left _ (List.mem_of_getElem? (i := 0) rfl)))) rfl dX2_gatherShared_58 ?_
            refine lv_lload hx hb dX2_gatherShared_61 (lv_at hl 0 rfl) ?_
            obtain ⟨j63_11, bj63_11, ej63_11, h⟩ := h
            refine g_last 39 12 j63_11 X hw ⟨by decide, by decide⟩ rfl bj63_11 ej63_11 (by decide) dX2_gatherShared_63 (fun H locs hw => ?_)
            obtain ⟨G_13, eG_13⟩ : ∃ z, z = sL G_11 39 j63_11 r_6 := ⟨_, rfl⟩
            rw [← eG_13] at hw
            have h := h G_13 eG_13
            refine lv_aload_n hx hb dX2_gatherShared_64 rfl (lv_at hl 1 rfl) ?_
            refine lv_dup hx hb dX2_gatherShared_65 rfl ?_
            refine g_get 6 2 (v := .int (G_13.1 6 2)) (C := RX2) (T := TX2) (N := 5) X hw (by decide) hinX2 rfl (by decide) (List.mem_cons_of_mem _ (List.mem_append_left _ (List.mem_append_left _ (List.mem_of_getElem? (i := 0) rfl)))) rfl dX2_gatherShared_66 ?_
            refine lv_iconst (v := 1) hx hb dX2_gatherShared_69 (by decide) ?_
            refine lv_iadd hx hb dX2_gatherShared_70 ?_
            refine g_put 6 2 (v := (G_13.1 6 2) + 1) (ty := .int) (C := RX2) (T := TX2) (N := 5) X hw (by decide) hinX2 tyX2_ok nmX2 rfl (by decide) (List.mem_cons_of_mem _ (List.mem_append_left _ (List.mem_append_left _ (List.mem_of_getElem? (i := 0) rfl)))) rfl (by decide +kernel) rfl rfl (Nat.le_of_ble_eq_true rfl) rfl dX2_gatherShared_71 (fun H locs hw => ?_)
            obtain ⟨G_14, eG_14⟩ : ∃ z, z = sI G_13 6 2 ((G_13.1 6 2) + 1) := ⟨_, rfl⟩
            rw [← eG_14] at hw
            have h := h G_14 eG_14
            refine lv_iinc (v := v4_2 + 1) (lv' := [(4, .int (v4_2 + 1)), (5, .long r_6), (0, .ref (q 6)), (1, .ref (q 3)), (2, .long x2)]) hx hb dX2_gatherShared_74 hl (k := 4) rfl rfl (by decide) rfl (fun ls hl => ?_)
            refine lv_goto (tgt := 8) hx hb dX2_gatherShared_77 (by decide) ?_
            obtain ⟨k_16, hm, h⟩ := h
            exact ihI8_2 k_16 hm (v4_2 + 1) G_14 _ _ ls hw (lv_sub hl [2, 3, 4, 0] rfl) h
  exact LI8_2 n_2 1 G_1 _ _ ls hw (lv_sub hl [1, 2, 3, 0] rfl) h0

abbrev rmX2_findOne : Room := { frames := 0, cells := 0, slots := 0, locals := 0 }
def wp_X2_findOne (G : GS) (x1 : Int64) (post : Int32 → GS → Prop) : Prop :=
  ∃ I2_1 : Nat → Int32 → GS → Prop, (∃ n_1 : Nat, I2_1 n_1 0 G) ∧ ∀ (n_1 : Nat) (v3_1 : Int32) (G_1 : GS), I2_1 n_1 v3_1 G_1 → (((G_1.1 6 2) ≤ v3_1 → (post 0 G_1)) ∧ (¬ ((G_1.1 6 2) ≤ v3_1) → (∃ j15_2 : Nat, j15_2 < 12 ∧ v3_1 = nI j15_2 ∧ ((¬ (lg_cmp (G_1.2 39 j15_2) x1) = 0 → (∃ k_6 : Nat, k_6 < n_1 ∧ I2_1 k_6 (v3_1 + 1) G_1)) ∧ ((lg_cmp (G_1.2 39 j15_2) x1) = 0 → (∃ j31_6 : Nat, j31_6 < 12 ∧ v3_1 = nI j31_6 ∧ (∃ j32_7 : Nat, j32_7 < 3 ∧ 0 = nI j32_7 ∧ (∀ G_9 : GS, G_9 = sI G_1 19 j32_7 (G_1.1 18 j31_6) → (∀ G_10 : GS, G_10 = sI G_9 6 4 1 → (post 1 G_10))))))))))
set_option maxHeartbeats 4000000 in
set_option maxRecDepth 100000 in
theorem m_X2_findOne (l : Launch) (D : va_G) (cy : Nat → ClassId) (q : Nat → Nat) (G : GS) (x1 : Int64) (post : Int32 → GS → Prop) (h : wp_X2_findOne G x1 post) : gMi l yX2_findOne wsX2_findOne rmX2_findOne D cy q [.ref (q 6), .long x1] G post := by
  intro sz
  refine Met.ofW (cc := cX2_findOne) (maxL := 4) (ret := (some .boolean)) (by decide) rfl ?_
  intro p e s m args below meth c s₁ B hml hv
  obtain ⟨ha, hsz, X, hw, hA, hr, hlk⟩ := g_start B hml hv
  have hx := X.1.1
  have hb := X.1.2.1
  have hown := X.1.2.2.2.1
  have hts := X.1.2.2.2.2
  refine g_in ha (Nat.le_of_ble_eq_true rfl) (fun ls hl => ?_)
  have hl : lv_has ls 4 [(0, .ref (q 6)), (1, .long x1)] := hl
  unfold wp_X2_findOne at h
  have hinX2 : ∀ w ∈ wsX20, w ∈ wsX2_findOne := fun _ h9 => (List.mem_cons_of_mem _ (List.mem_append_right _ h9))
  refine lv_iconst (v := 0) hx hb dX2_findOne_0 (by decide) ?_
  refine lv_istore_n (lv' := [(3, .int 0), (0, .ref (q 6)), (1, .long x1)]) hx hb dX2_findOne_1 rfl hl (by decide) rfl (fun ls hl => ?_)
  obtain ⟨I2_1, ⟨n_1, h0⟩, hI2_1⟩ := h
  have LI2_1 : ∀ (n_1 : Nat) (v3_1 : Int32) (G_1 : GS) (H : Heap) (locs : List Loc) (ls : Array Slot), gH D cy q (gA q sz) s.heap G_1 H locs → lv_has ls 4 [(0, .ref (q 6)), (1, .long x1), (3, .int v3_1)] → I2_1 n_1 v3_1 G_1 → W p l e (headSpec wsX2_findOne rmX2_findOne).room s m args below meth c H locs 0 0 (MQ below (va_Qi post (gPo D cy q sz) (gA q sz)) args s 0 0 (gA q sz)) (F0 m 2 ls []) := by
    intro n_1
    induction n_1 using Nat.strongRecOn with
    | ind n_1 ihI2_1 =>
      intro v3_1 G_1 H locs ls hw hl h
      have h := hI2_1 n_1 v3_1 G_1 h
      refine lv_iload_n hx hb dX2_findOne_2 rfl (lv_at hl 2 rfl) ?_
      refine lv_aload_n hx hb dX2_findOne_3 rfl (lv_at hl 0 rfl) ?_
      refine g_get 6 2 (v := .int (G_1.1 6 2)) (C := RX2) (T := TX2) (N := 5) X hw (by decide) hinX2 rfl (by decide) (List.mem_cons_of_mem _ (List.mem_append_left _ (List.mem_of_getElem? (i := 0) rfl))) rfl dX2_findOne_4 ?_
      refine lv_icmp_ge (tgt := 46) hx hb dX2_findOne_7 (by decide) (fun c7_1 => ?_) (fun c7_1 => ?_)
      · have h := h.1 c7_1
        refine lv_iconst (v := 0) hx hb dX2_findOne_46 (by decide) ?_
        exact g_zret X hw hr hlk (by decide) h dX2_findOne_47
      · have h := h.2 c7_1
        refine lv_aload_n hx hb dX2_findOne_10 rfl (lv_at hl 0 rfl) ?_
        refine g_get 6 1 (v := .ref (q 39)) (C := RX2) (T := TX2) (N := 5) X hw (by decide) hinX2 rfl (by decide) (List.mem_cons_of_mem _ (List.mem_append_left _ (List.mem_of_getElem? (i := 1) rfl))) rfl dX2_findOne_11 ?_
        refine lv_iload_n hx hb dX2_findOne_14 rfl (lv_at hl 2 rfl) ?_
        obtain ⟨j15_2, bj15_2, ej15_2, h⟩ := h
        refine g_lald 39 12 j15_2 X hw ⟨by decide, by decide⟩ rfl bj15_2 ej15_2 (by decide) dX2_findOne_15 ?_
        refine lv_lload_n hx hb dX2_findOne_16 rfl (lv_at hl 1 rfl) ?_
        refine W.lcmp hx hb dX2_findOne_17 ?_
        refine lv_if_ne (tgt := 40) hx hb dX2_findOne_18 (by decide) (fun c18_3 => ?_) (fun c18_3 => ?_)
        · have h := h.1 c18_3
          refine lv_iinc (v := v3_1 + 1) (lv' := [(3, .int (v3_1 + 1)), (0, .ref (q 6)), (1, .long x1)]) hx hb dX2_findOne_40 hl (k := 2) rfl rfl (by decide) rfl (fun ls hl => ?_)
          refine lv_goto (tgt := 2) hx hb dX2_findOne_43 (by decide) ?_
          obtain ⟨k_6, hm, h⟩ := h
          exact ihI2_1 k_6 hm (v3_1 + 1) G_1 _ _ ls hw (lv_sub hl [1, 2, 0] rfl) h
        · have h := h.2 c18_3
          refine lv_aload_n hx hb dX2_findOne_21 rfl (lv_at hl 0 rfl) ?_
          refine g_get 6 3 (v := .ref (q 19)) (C := RX2) (T := TX2) (N := 5) X hw (by decide) hinX2 rfl (by decide) (List.mem_cons_of_mem _ (List.mem_append_left _ (List.mem_of_getElem? (i := 2) rfl))) rfl dX2_findOne_22 ?_
          refine lv_iconst (v := 0) hx hb dX2_findOne_25 (by decide) ?_
          refine lv_aload_n hx hb dX2_findOne_26 rfl (lv_at hl 0 rfl) ?_
          refine g_get 6 0 (v := .ref (q 18)) (C := RX2) (T := TX2) (N := 5) X hw (by decide) hinX2 rfl (by decide) (List.mem_cons_of_mem _ (List.mem_append_left _ (List.mem_of_getElem? (i := 3) rfl))) rfl dX2_findOne_27 ?_
          refine lv_iload_n hx hb dX2_findOne_30 rfl (lv_at hl 2 rfl) ?_
          obtain ⟨j31_6, bj31_6, ej31_6, h⟩ := h
          refine g_iald 18 12 j31_6 X hw (Or.inr ⟨by decide, by decide⟩) rfl bj31_6 ej31_6 (by decide) dX2_findOne_31 ?_
          obtain ⟨j32_7, bj32_7, ej32_7, h⟩ := h
          refine g_iast 19 3 j32_7 X hw (Or.inr ⟨by decide, by decide⟩) rfl bj32_7 ej32_7 (by decide) dX2_findOne_32 (fun H locs hw => ?_)
          obtain ⟨G_9, eG_9⟩ : ∃ z, z = sI G_1 19 j32_7 (G_1.1 18 j31_6) := ⟨_, rfl⟩
          rw [← eG_9] at hw
          have h := h G_9 eG_9
          refine lv_aload_n hx hb dX2_findOne_33 rfl (lv_at hl 0 rfl) ?_
          refine lv_iconst (v := 1) hx hb dX2_findOne_34 (by decide) ?_
          refine g_put 6 4 (v := 1) (ty := .int) (C := RX2) (T := TX2) (N := 5) X hw (by decide) hinX2 tyX2_ok nmX2 rfl (by decide) (List.mem_cons_of_mem _ (List.mem_append_left _ (List.mem_of_getElem? (i := 4) rfl))) rfl (by decide +kernel) rfl rfl (Nat.le_of_ble_eq_true rfl) rfl dX2_findOne_35 (fun H locs hw => ?_)
          obtain ⟨G_10, eG_10⟩ : ∃ z, z = sI G_9 6 4 1 := ⟨_, rfl⟩
          rw [← eG_10] at hw
          have h := h G_10 eG_10
          refine lv_iconst (v := 1) hx hb dX2_findOne_38 (by decide) ?_
          exact g_zret X hw hr hlk (by decide) h dX2_findOne_39
  exact LI2_1 n_1 0 G _ _ ls hw (lv_sub hl [1, 2, 0] rfl) h0

abbrev rmX2_findTwo : Room := { frames := 0, cells := 0, slots := 0, locals := 0 }
def wp_X2_findTwo (G : GS) (x1 : Int64) (post : Int32 → GS → Prop) : Prop :=
  ∃ I2_1 : Nat → Int32 → GS → Prop, (∃ n_1 : Nat, I2_1 n_1 0 G) ∧ ∀ (n_1 : Nat) (v3_1 : Int32) (G_1 : GS), I2_1 n_1 v3_1 G_1 → (((G_1.1 6 2) ≤ v3_1 → (post 0 G_1)) ∧ (¬ ((G_1.1 6 2) ≤ v3_1) → (∀ y_3 : Int32, y_3 = v3_1 + 1 → (∃ I15_4 : Nat → Int32 → GS → Prop, (∃ n_4 : Nat, I15_4 n_4 y_3 G_1) ∧ ∀ (n_4 : Nat) (v4_4 : Int32) (G_4 : GS), I15_4 n_4 v4_4 G_4 → (((G_4.1 6 2) ≤ v4_4 → (∃ k_7 : Nat, k_7 < n_1 ∧ I2_1 k_7 (v3_1 + 1) G_4)) ∧ (¬ ((G_4.1 6 2) ≤ v4_4) → (∃ j29_7 : Nat, j29_7 < 12 ∧ v3_1 = nI j29_7 ∧ (∃ j36_8 : Nat, j36_8 < 12 ∧ v4_4 = nI j36_8 ∧ ((¬ (lg_cmp ((G_4.2 39 j29_7) &&& (G_4.2 39 j36_8)) x1) = 0 → (∃ k_12 : Nat, k_12 < n_4 ∧ I15_4 k_12 (v4_4 + 1) G_4)) ∧ ((lg_cmp ((G_4.2 39 j29_7) &&& (G_4.2 39 j36_8)) x1) = 0 → (∃ j53_12 : Nat, j53_12 < 12 ∧ v3_1 = nI j53_12 ∧ (∃ j54_13 : Nat, j54_13 < 3 ∧ 0 = nI j54_13 ∧ (∀ G_15 : GS, G_15 = sI G_4 19 j54_13 (G_4.1 18 j53_12) → (∃ j66_15 : Nat, j66_15 < 12 ∧ v4_4 = nI j66_15 ∧ (∃ j67_16 : Nat, j67_16 < 3 ∧ 1 = nI j67_16 ∧ (∀ G_18 : GS, G_18 = sI G_15 19 j67_16 (G_15.1 18 j66_15) → (∀ G_19 : GS, G_19 = sI G_18 6 4 2 → (post 1 G_19))))))))))))))))))
set_option maxHeartbeats 4000000 in
set_option maxRecDepth 100000 in
theorem m_X2_findTwo (l : Launch) (D : va_G) (cy : Nat → ClassId) (q : Nat → Nat) (G : GS) (x1 : Int64) (post : Int32 → GS → Prop) (h : wp_X2_findTwo G x1 post) : gMi l yX2_findTwo wsX2_findTwo rmX2_findTwo D cy q [.ref (q 6), .long x1] G post := by
  intro sz
  refine Met.ofW (cc := cX2_findTwo) (maxL := 5) (ret := (some .boolean)) (by decide) rfl ?_
  intro p e s m args below meth c s₁ B hml hv
  obtain ⟨ha, hsz, X, hw, hA, hr, hlk⟩ := g_start B hml hv
  have hx := X.1.1
  have hb := X.1.2.1
  have hown := X.1.2.2.2.1
  have hts := X.1.2.2.2.2
  refine g_in ha (Nat.le_of_ble_eq_true rfl) (fun ls hl => ?_)
  have hl : lv_has ls 5 [(0, .ref (q 6)), (1, .long x1)] := hl
  unfold wp_X2_findTwo at h
  have hinX2 : ∀ w ∈ wsX20, w ∈ wsX2_findTwo := fun _ h9 => (List.mem_cons_of_mem _ (List.mem_append_right _ h9))
  refine lv_iconst (v := 0) hx hb dX2_findTwo_0 (by decide) ?_
  refine lv_istore_n (lv' := [(3, .int 0), (0, .ref (q 6)), (1, .long x1)]) hx hb dX2_findTwo_1 rfl hl (by decide) rfl (fun ls hl => ?_)
  obtain ⟨I2_1, ⟨n_1, h0⟩, hI2_1⟩ := h
  have LI2_1 : ∀ (n_1 : Nat) (v3_1 : Int32) (G_1 : GS) (H : Heap) (locs : List Loc) (ls : Array Slot), gH D cy q (gA q sz) s.heap G_1 H locs → lv_has ls 5 [(0, .ref (q 6)), (1, .long x1), (3, .int v3_1)] → I2_1 n_1 v3_1 G_1 → W p l e (headSpec wsX2_findTwo rmX2_findTwo).room s m args below meth c H locs 0 0 (MQ below (va_Qi post (gPo D cy q sz) (gA q sz)) args s 0 0 (gA q sz)) (F0 m 2 ls []) := by
    intro n_1
    induction n_1 using Nat.strongRecOn with
    | ind n_1 ihI2_1 =>
      intro v3_1 G_1 H locs ls hw hl h
      have h := hI2_1 n_1 v3_1 G_1 h
      refine lv_iload_n hx hb dX2_findTwo_2 rfl (lv_at hl 2 rfl) ?_
      refine lv_aload_n hx hb dX2_findTwo_3 rfl (lv_at hl 0 rfl) ?_
      refine g_get 6 2 (v := .int (G_1.1 6 2)) (C := RX2) (T := TX2) (N := 5) X hw (by decide) hinX2 rfl (by decide) (List.mem_cons_of_mem _ (List.mem_append_left _ (List.mem_of_getElem? (i := 0) rfl))) rfl dX2_findTwo_4 ?_
      refine lv_icmp_ge (tgt := 87) hx hb dX2_findTwo_7 (by decide) (fun c7_1 => ?_) (fun c7_1 => ?_)
      · have h := h.1 c7_1
        refine lv_iconst (v := 0) hx hb dX2_findTwo_87 (by decide) ?_
        exact g_zret X hw hr hlk (by decide) h dX2_findTwo_88
      · have h := h.2 c7_1
        refine lv_iload_n hx hb dX2_findTwo_10 rfl (lv_at hl 2 rfl) ?_
        refine lv_iconst (v := 1) hx hb dX2_findTwo_11 (by decide) ?_
        refine lv_iadd hx hb dX2_findTwo_12 ?_
        refine lv_topi (fun y_3 ey_3 => ?_)
        have h := h y_3 ey_3
        refine lv_istore (lv' := [(4, .int y_3), (0, .ref (q 6)), (1, .long x1), (3, .int v3_1)]) hx hb dX2_findTwo_13 hl (by decide) rfl (fun ls hl => ?_)
        obtain ⟨I15_4, ⟨n_4, h0⟩, hI15_4⟩ := h
        have LI15_4 : ∀ (n_4 : Nat) (v4_4 : Int32) (G_4 : GS) (H : Heap) (locs : List Loc) (ls : Array Slot), gH D cy q (gA q sz) s.heap G_4 H locs → lv_has ls 5 [(0, .ref (q 6)), (1, .long x1), (3, .int v3_1), (4, .int v4_4)] → I15_4 n_4 v4_4 G_4 → W p l e (headSpec wsX2_findTwo rmX2_findTwo).room s m args below meth c H locs 0 0 (MQ below (va_Qi post (gPo D cy q sz) (gA q sz)) args s 0 0 (gA q sz)) (F0 m 15 ls []) := by
          intro n_4
          induction n_4 using Nat.strongRecOn with
          | ind n_4 ihI15_4 =>
            intro v4_4 G_4 H locs ls hw hl h
            have h := hI15_4 n_4 v4_4 G_4 h
            refine lv_iload hx hb dX2_findTwo_15 (lv_at hl 3 rfl) ?_
            refine lv_aload_n hx hb dX2_findTwo_17 rfl (lv_at hl 0 rfl) ?_
            refine g_get 6 2 (v := .int (G_4.1 6 2)) (C := RX2) (T := TX2) (N := 5) X hw (by decide) hinX2 rfl (by decide) (List.mem_cons_of_mem _ (List.mem_append_left _ (List.mem_of_getElem? (i := 0) rfl))) rfl dX2_findTwo_18 ?_
            refine lv_icmp_ge (tgt := 81) hx hb dX2_findTwo_21 (by decide) (fun c21_4 => ?_) (fun c21_4 => ?_)
            · have h := h.1 c21_4
              refine lv_iinc (v := v3_1 + 1) (lv' := [(3, .int (v3_1 + 1)), (0, .ref (q 6)), (1, .long x1), (4, .int v4_4)]) hx hb dX2_findTwo_81 hl (k := 2) rfl rfl (by decide) rfl (fun ls hl => ?_)
              refine lv_goto (tgt := 2) hx hb dX2_findTwo_84 (by decide) ?_
              obtain ⟨k_7, hm, h⟩ := h
              exact ihI2_1 k_7 hm (v3_1 + 1) G_4 _ _ ls hw (lv_sub hl [1, 2, 0] rfl) h
            · have h := h.2 c21_4
              refine lv_aload_n hx hb dX2_findTwo_24 rfl (lv_at hl 0 rfl) ?_
              refine g_get 6 1 (v := .ref (q 39)) (C := RX2) (T := TX2) (N := 5) X hw (by decide) hinX2 rfl (by decide) (List.mem_cons_of_mem _ (List.mem_append_left _ (List.mem_of_getElem? (i := 1) rfl))) rfl dX2_findTwo_25 ?_
              refine lv_iload_n hx hb dX2_findTwo_28 rfl (lv_at hl 2 rfl) ?_
              obtain ⟨j29_7, bj29_7, ej29_7, h⟩ := h
              refine g_lald 39 12 j29_7 X hw ⟨by decide, by decide⟩ rfl bj29_7 ej29_7 (by decide) dX2_findTwo_29 ?_
              refine lv_aload_n hx hb dX2_findTwo_30 rfl (lv_at hl 0 rfl) ?_
              refine g_get 6 1 (v := .ref (q 39)) (C := RX2) (T := TX2) (N := 5) X hw (by decide) hinX2 rfl (by decide) (List.mem_cons_of_mem _ (List.mem_append_left _ (List.mem_of_getElem? (i := 1) rfl))) rfl dX2_findTwo_31 ?_
              refine lv_iload hx hb dX2_findTwo_34 (lv_at hl 3 rfl) ?_
              obtain ⟨j36_8, bj36_8, ej36_8, h⟩ := h
              refine g_lald 39 12 j36_8 X hw ⟨by decide, by decide⟩ rfl bj36_8 ej36_8 (by decide) dX2_findTwo_36 ?_
              refine lv_land hx hb dX2_findTwo_37 ?_
              refine lv_lload_n hx hb dX2_findTwo_38 rfl (lv_at hl 1 rfl) ?_
              refine W.lcmp hx hb dX2_findTwo_39 ?_
              refine lv_if_ne (tgt := 75) hx hb dX2_findTwo_40 (by decide) (fun c40_9 => ?_) (fun c40_9 => ?_)
              · have h := h.1 c40_9
                refine lv_iinc (v := v4_4 + 1) (lv' := [(4, .int (v4_4 + 1)), (0, .ref (q 6)), (1, .long x1), (3, .int v3_1)]) hx hb dX2_findTwo_75 hl (k := 3) rfl rfl (by decide) rfl (fun ls hl => ?_)
                refine lv_goto (tgt := 15) hx hb dX2_findTwo_78 (by decide) ?_
                obtain ⟨k_12, hm, h⟩ := h
                exact ihI15_4 k_12 hm (v4_4 + 1) G_4 _ _ ls hw (lv_sub hl [1, 2, 3, 0] rfl) h
              · have h := h.2 c40_9
                refine lv_aload_n hx hb dX2_findTwo_43 rfl (lv_at hl 0 rfl) ?_
                refine g_get 6 3 (v := .ref (q 19)) (C := RX2) (T := TX2) (N := 5) X hw (by decide) hinX2 rfl (by decide) (List.mem_cons_of_mem _ (List.mem_append_left _ (List.mem_of_getElem? (i := 2) rfl))) rfl dX2_findTwo_44 ?_
                refine lv_iconst (v := 0) hx hb dX2_findTwo_47 (by decide) ?_
                refine lv_aload_n hx hb dX2_findTwo_48 rfl (lv_at hl 0 rfl) ?_
                refine g_get 6 0 (v := .ref (q 18)) (C := RX2) (T := TX2) (N := 5) X hw (by decide) hinX2 rfl (by decide) (List.mem_cons_of_mem _ (List.mem_append_left _ (List.mem_of_getElem? (i := 3) rfl))) rfl dX2_findTwo_49 ?_
                refine lv_iload_n hx hb dX2_findTwo_52 rfl (lv_at hl 2 rfl) ?_
                obtain ⟨j53_12, bj53_12, ej53_12, h⟩ := h
                refine g_iald 18 12 j53_12 X hw (Or.inr ⟨by decide, by decide⟩) rfl bj53_12 ej53_12 (by decide) dX2_findTwo_53 ?_
                obtain ⟨j54_13, bj54_13, ej54_13, h⟩ := h
                refine g_iast 19 3 j54_13 X hw (Or.inr ⟨by decide, by decide⟩) rfl bj54_13 ej54_13 (by decide) dX2_findTwo_54 (fun H locs hw => ?_)
                obtain ⟨G_15, eG_15⟩ : ∃ z, z = sI G_4 19 j54_13 (G_4.1 18 j53_12) := ⟨_, rfl⟩
                rw [← eG_15] at hw
                have h := h G_15 eG_15
                refine lv_aload_n hx hb dX2_findTwo_55 rfl (lv_at hl 0 rfl) ?_
                refine g_get 6 3 (v := .ref (q 19)) (C := RX2) (T := TX2) (N := 5) X hw (by decide) hinX2 rfl (by decide) (List.mem_cons_of_mem _ (List.mem_append_left _ (List.mem_of_getElem? (i := 2) rfl))) rfl dX2_findTwo_56 ?_
                refine lv_iconst (v := 1) hx hb dX2_findTwo_59 (by decide) ?_
                refine lv_aload_n hx hb dX2_findTwo_60 rfl (lv_at hl 0 rfl) ?_
                refine g_get 6 0 (v := .ref (q 18)) (C := RX2) (T := TX2) (N := 5) X hw (by decide) hinX2 rfl (by decide) (List.mem_cons_of_mem _ (List.mem_append_left _ (List.mem_of_getElem? (i := 3) rfl))) rfl dX2_findTwo_61 ?_
                refine lv_iload hx hb dX2_findTwo_64 (lv_at hl 3 rfl) ?_
                obtain ⟨j66_15, bj66_15, ej66_15, h⟩ := h
                refine g_iald 18 12 j66_15 X hw (Or.inr ⟨by decide, by decide⟩) rfl bj66_15 ej66_15 (by decide) dX2_findTwo_66 ?_
                obtain ⟨j67_16, bj67_16, ej67_16, h⟩ := h
                refine g_iast 19 3 j67_16 X hw (Or.inr ⟨by decide, by decide⟩) rfl bj67_16 ej67_16 (by decide) dX2_findTwo_67 (fun H locs hw => ?_)
                obtain ⟨G_18, eG_18⟩ : ∃ z, z = sI G_15 19 j67_16 (G_15.1 18 j66_15) := ⟨_, rfl⟩
                rw [← eG_18] at hw
                have h := h G_18 eG_18
                refine lv_aload_n hx hb dX2_findTwo_68 rfl (lv_at hl 0 rfl) ?_
                refine lv_iconst (v := 2) hx hb dX2_findTwo_69 (by decide) ?_
                refine g_put 6 4 (v := 2) (ty := .int) (C := RX2) (T := TX2) (N := 5) X hw (by decide) hinX2 tyX2_ok nmX2 rfl (by decide) (List.mem_cons_of_mem _ (List.mem_append_left _ (List.mem_of_getElem? (i := 4) rfl))) rfl (by decide +kernel) rfl rfl (Nat.le_of_ble_eq_true rfl) rfl dX2_findTwo_70 (fun H locs hw => ?_)
                obtain ⟨G_19, eG_19⟩ : ∃ z, z = sI G_18 6 4 2 := ⟨_, rfl⟩
                rw [← eG_19] at hw
                have h := h G_19 eG_19
                refine lv_iconst (v := 1) hx hb dX2_findTwo_73 (by decide) ?_
                exact g_zret X hw hr hlk (by decide) h dX2_findTwo_74
        exact LI15_4 n_4 y_3 G_1 _ _ ls hw (lv_sub hl [1, 2, 3, 0] rfl) h0
  exact LI2_1 n_1 0 G _ _ ls hw (lv_sub hl [1, 2, 0] rfl) h0

abbrev rmX2_findThree : Room := { frames := 0, cells := 0, slots := 0, locals := 0 }
def wp_X2_findThree (G : GS) (x1 : Int64) (post : Int32 → GS → Prop) : Prop :=
  ∃ I2_1 : Nat → Int32 → GS → Prop, (∃ n_1 : Nat, I2_1 n_1 0 G) ∧ ∀ (n_1 : Nat) (v3_1 : Int32) (G_1 : GS), I2_1 n_1 v3_1 G_1 → (((G_1.1 6 2) ≤ v3_1 → (post 0 G_1)) ∧ (¬ ((G_1.1 6 2) ≤ v3_1) → (∀ y_3 : Int32, y_3 = v3_1 + 1 → (∃ I15_4 : Nat → Int32 → GS → Prop, (∃ n_4 : Nat, I15_4 n_4 y_3 G_1) ∧ ∀ (n_4 : Nat) (v4_4 : Int32) (G_4 : GS), I15_4 n_4 v4_4 G_4 → (((G_4.1 6 2) ≤ v4_4 → (∃ k_7 : Nat, k_7 < n_1 ∧ I2_1 k_7 (v3_1 + 1) G_4)) ∧ (¬ ((G_4.1 6 2) ≤ v4_4) → (∀ y_8 : Int32, y_8 = v4_4 + 1 → (∃ I30_9 : Nat → Int32 → GS → Prop, (∃ n_9 : Nat, I30_9 n_9 y_8 G_4) ∧ ∀ (n_9 : Nat) (v5_9 : Int32) (G_9 : GS), I30_9 n_9 v5_9 G_9 → (((G_9.1 6 2) ≤ v5_9 → (∃ k_12 : Nat, k_12 < n_4 ∧ I15_4 k_12 (v4_4 + 1) G_9)) ∧ (¬ ((G_9.1 6 2) ≤ v5_9) → (∃ j44_12 : Nat, j44_12 < 12 ∧ v3_1 = nI j44_12 ∧ (∃ j51_13 : Nat, j51_13 < 12 ∧ v4_4 = nI j51_13 ∧ (∃ j59_14 : Nat, j59_14 < 12 ∧ v5_9 = nI j59_14 ∧ ((¬ (lg_cmp (((G_9.2 39 j44_12) &&& (G_9.2 39 j51_13)) &&& (G_9.2 39 j59_14)) x1) = 0 → (∃ k_18 : Nat, k_18 < n_9 ∧ I30_9 k_18 (v5_9 + 1) G_9)) ∧ ((lg_cmp (((G_9.2 39 j44_12) &&& (G_9.2 39 j51_13)) &&& (G_9.2 39 j59_14)) x1) = 0 → (∃ j76_18 : Nat, j76_18 < 12 ∧ v3_1 = nI j76_18 ∧ (∃ j77_19 : Nat, j77_19 < 3 ∧ 0 = nI j77_19 ∧ (∀ G_21 : GS, G_21 = sI G_9 19 j77_19 (G_9.1 18 j76_18) → (∃ j89_21 : Nat, j89_21 < 12 ∧ v4_4 = nI j89_21 ∧ (∃ j90_22 : Nat, j90_22 < 3 ∧ 1 = nI j90_22 ∧ (∀ G_24 : GS, G_24 = sI G_21 19 j90_22 (G_21.1 18 j89_21) → (∃ j102_24 : Nat, j102_24 < 12 ∧ v5_9 = nI j102_24 ∧ (∃ j103_25 : Nat, j103_25 < 3 ∧ 2 = nI j103_25 ∧ (∀ G_27 : GS, G_27 = sI G_24 19 j103_25 (G_24.1 18 j102_24) → (∀ G_28 : GS, G_28 = sI G_27 6 4 3 → (post 1 G_28))))))))))))))))))))))))))
set_option maxHeartbeats 4000000 in
set_option maxRecDepth 100000 in
theorem m_X2_findThree (l : Launch) (D : va_G) (cy : Nat → ClassId) (q : Nat → Nat) (G : GS) (x1 : Int64) (post : Int32 → GS → Prop) (h : wp_X2_findThree G x1 post) : gMi l yX2_findThree wsX2_findThree rmX2_findThree D cy q [.ref (q 6), .long x1] G post := by
  intro sz
  refine Met.ofW (cc := cX2_findThree) (maxL := 6) (ret := (some .boolean)) (by decide) rfl ?_
  intro p e s m args below meth c s₁ B hml hv
  obtain ⟨ha, hsz, X, hw, hA, hr, hlk⟩ := g_start B hml hv
  have hx := X.1.1
  have hb := X.1.2.1
  have hown := X.1.2.2.2.1
  have hts := X.1.2.2.2.2
  refine g_in ha (Nat.le_of_ble_eq_true rfl) (fun ls hl => ?_)
  have hl : lv_has ls 6 [(0, .ref (q 6)), (1, .long x1)] := hl
  unfold wp_X2_findThree at h
  have hinX2 : ∀ w ∈ wsX20, w ∈ wsX2_findThree := fun _ h9 => (List.mem_cons_of_mem _ (List.mem_append_right _ h9))
  refine lv_iconst (v := 0) hx hb dX2_findThree_0 (by decide) ?_
  refine lv_istore_n (lv' := [(3, .int 0), (0, .ref (q 6)), (1, .long x1)]) hx hb dX2_findThree_1 rfl hl (by decide) rfl (fun ls hl => ?_)
  obtain ⟨I2_1, ⟨n_1, h0⟩, hI2_1⟩ := h
  have LI2_1 : ∀ (n_1 : Nat) (v3_1 : Int32) (G_1 : GS) (H : Heap) (locs : List Loc) (ls : Array Slot), gH D cy q (gA q sz) s.heap G_1 H locs → lv_has ls 6 [(0, .ref (q 6)), (1, .long x1), (3, .int v3_1)] → I2_1 n_1 v3_1 G_1 → W p l e (headSpec wsX2_findThree rmX2_findThree).room s m args below meth c H locs 0 0 (MQ below (va_Qi post (gPo D cy q sz) (gA q sz)) args s 0 0 (gA q sz)) (F0 m 2 ls []) := by
    intro n_1
    induction n_1 using Nat.strongRecOn with
    | ind n_1 ihI2_1 =>
      intro v3_1 G_1 H locs ls hw hl h
      have h := hI2_1 n_1 v3_1 G_1 h
      refine lv_iload_n hx hb dX2_findThree_2 rfl (lv_at hl 2 rfl) ?_
      refine lv_aload_n hx hb dX2_findThree_3 rfl (lv_at hl 0 rfl) ?_
      refine g_get 6 2 (v := .int (G_1.1 6 2)) (C := RX2) (T := TX2) (N := 5) X hw (by decide) hinX2 rfl (by decide) (List.mem_cons_of_mem _ (List.mem_append_left _ (List.mem_of_getElem? (i := 0) rfl))) rfl dX2_findThree_4 ?_
      refine lv_icmp_ge (tgt := 129) hx hb dX2_findThree_7 (by decide) (fun c7_1 => ?_) (fun c7_1 => ?_)
      · have h := h.1 c7_1
        refine lv_iconst (v := 0) hx hb dX2_findThree_129 (by decide) ?_
        exact g_zret X hw hr hlk (by decide) h dX2_findThree_130
      · have h := h.2 c7_1
        refine lv_iload_n hx hb dX2_findThree_10 rfl (lv_at hl 2 rfl) ?_
        refine lv_iconst (v := 1) hx hb dX2_findThree_11 (by decide) ?_
        refine lv_iadd hx hb dX2_findThree_12 ?_
        refine lv_topi (fun y_3 ey_3 => ?_)
        have h := h y_3 ey_3
        refine lv_istore (lv' := [(4, .int y_3), (0, .ref (q 6)), (1, .long x1), (3, .int v3_1)]) hx hb dX2_findThree_13 hl (by decide) rfl (fun ls hl => ?_)
        obtain ⟨I15_4, ⟨n_4, h0⟩, hI15_4⟩ := h
        have LI15_4 : ∀ (n_4 : Nat) (v4_4 : Int32) (G_4 : GS) (H : Heap) (locs : List Loc) (ls : Array Slot), gH D cy q (gA q sz) s.heap G_4 H locs → lv_has ls 6 [(0, .ref (q 6)), (1, .long x1), (3, .int v3_1), (4, .int v4_4)] → I15_4 n_4 v4_4 G_4 → W p l e (headSpec wsX2_findThree rmX2_findThree).room s m args below meth c H locs 0 0 (MQ below (va_Qi post (gPo D cy q sz) (gA q sz)) args s 0 0 (gA q sz)) (F0 m 15 ls []) := by
          intro n_4
          induction n_4 using Nat.strongRecOn with
          | ind n_4 ihI15_4 =>
            intro v4_4 G_4 H locs ls hw hl h
            have h := hI15_4 n_4 v4_4 G_4 h
            refine lv_iload hx hb dX2_findThree_15 (lv_at hl 3 rfl) ?_
            refine lv_aload_n hx hb dX2_findThree_17 rfl (lv_at hl 0 rfl) ?_
            refine g_get 6 2 (v := .int (G_4.1 6 2)) (C := RX2) (T := TX2) (N := 5) X hw (by decide) hinX2 rfl (by decide) (List.mem_cons_of_mem _ (List.mem_append_left _ (List.mem_of_getElem? (i := 0) rfl))) rfl dX2_findThree_18 ?_
            refine lv_icmp_ge (tgt := 123) hx hb dX2_findThree_21 (by decide) (fun c21_4 => ?_) (fun c21_4 => ?_)
            · have h := h.1 c21_4
              refine lv_iinc (v := v3_1 + 1) (lv' := [(3, .int (v3_1 + 1)), (0, .ref (q 6)), (1, .long x1), (4, .int v4_4)]) hx hb dX2_findThree_123 hl (k := 2) rfl rfl (by decide) rfl (fun ls hl => ?_)
              refine lv_goto (tgt := 2) hx hb dX2_findThree_126 (by decide) ?_
              obtain ⟨k_7, hm, h⟩ := h
              exact ihI2_1 k_7 hm (v3_1 + 1) G_4 _ _ ls hw (lv_sub hl [1, 2, 0] rfl) h
            · have h := h.2 c21_4
              refine lv_iload hx hb dX2_findThree_24 (lv_at hl 3 rfl) ?_
              refine lv_iconst (v := 1) hx hb dX2_findThree_26 (by decide) ?_
              refine lv_iadd hx hb dX2_findThree_27 ?_
              refine lv_topi (fun y_8 ey_8 => ?_)
              have h := h y_8 ey_8
              refine lv_istore (lv' := [(5, .int y_8), (0, .ref (q 6)), (1, .long x1), (3, .int v3_1), (4, .int v4_4)]) hx hb dX2_findThree_28 hl (by decide) rfl (fun ls hl => ?_)
              obtain ⟨I30_9, ⟨n_9, h0⟩, hI30_9⟩ := h
              have LI30_9 : ∀ (n_9 : Nat) (v5_9 : Int32) (G_9 : GS) (H : Heap) (locs : List Loc) (ls : Array Slot), gH D cy q (gA q sz) s.heap G_9 H locs → lv_has ls 6 [(0, .ref (q 6)), (1, .long x1), (3, .int v3_1), (4, .int v4_4), (5, .int v5_9)] → I30_9 n_9 v5_9 G_9 → W p l e (headSpec wsX2_findThree rmX2_findThree).room s m args below meth c H locs 0 0 (MQ below (va_Qi post (gPo D cy q sz) (gA q sz)) args s 0 0 (gA q sz)) (F0 m 30 ls []) := by
                intro n_9
                induction n_9 using Nat.strongRecOn with
                | ind n_9 ihI30_9 =>
                  intro v5_9 G_9 H locs ls hw hl h
                  have h := hI30_9 n_9 v5_9 G_9 h
                  refine lv_iload hx hb dX2_findThree_30 (lv_at hl 4 rfl) ?_
                  refine lv_aload_n hx hb dX2_findThree_32 rfl (lv_at hl 0 rfl) ?_
                  refine g_get 6 2 (v := .int (G_9.1 6 2)) (C := RX2) (T := TX2) (N := 5) X hw (by decide) hinX2 rfl (by decide) (List.mem_cons_of_mem _ (List.mem_append_left _ (List.mem_of_getElem? (i := 0) rfl))) rfl dX2_findThree_33 ?_
                  refine lv_icmp_ge (tgt := 117) hx hb dX2_findThree_36 (by decide) (fun c36_9 => ?_) (fun c36_9 => ?_)
                  · have h := h.1 c36_9
                    refine lv_iinc (v := v4_4 + 1) (lv' := [(4, .int (v4_4 + 1)), (0, .ref (q 6)), (1, .long x1), (3, .int v3_1), (5, .int v5_9)]) hx hb dX2_findThree_117 hl (k := 3) rfl rfl (by decide) rfl (fun ls hl => ?_)
                    refine lv_goto (tgt := 15) hx hb dX2_findThree_120 (by decide) ?_
                    obtain ⟨k_12, hm, h⟩ := h
                    exact ihI15_4 k_12 hm (v4_4 + 1) G_9 _ _ ls hw (lv_sub hl [1, 2, 3, 0] rfl) h
                  · have h := h.2 c36_9
                    refine lv_aload_n hx hb dX2_findThree_39 rfl (lv_at hl 0 rfl) ?_
                    refine g_get 6 1 (v := .ref (q 39)) (C := RX2) (T := TX2) (N := 5) X hw (by decide) hinX2 rfl (by decide) (List.mem_cons_of_mem _ (List.mem_append_left _ (List.mem_of_getElem? (i := 1) rfl))) rfl dX2_findThree_40 ?_
                    refine lv_iload_n hx hb dX2_findThree_43 rfl (lv_at hl 2 rfl) ?_
                    obtain ⟨j44_12, bj44_12, ej44_12, h⟩ := h
                    refine g_lald 39 12 j44_12 X hw ⟨by decide, by decide⟩ rfl bj44_12 ej44_12 (by decide) dX2_findThree_44 ?_
                    refine lv_aload_n hx hb dX2_findThree_45 rfl (lv_at hl 0 rfl) ?_
                    refine g_get 6 1 (v := .ref (q 39)) (C := RX2) (T := TX2) (N := 5) X hw (by decide) hinX2 rfl (by decide) (List.mem_cons_of_mem _ (List.mem_append_left _ (List.mem_of_getElem? (i := 1) rfl))) rfl dX2_findThree_46 ?_
                    refine lv_iload hx hb dX2_findThree_49 (lv_at hl 3 rfl) ?_
                    obtain ⟨j51_13, bj51_13, ej51_13, h⟩ := h
                    refine g_lald 39 12 j51_13 X hw ⟨by decide, by decide⟩ rfl bj51_13 ej51_13 (by decide) dX2_findThree_51 ?_
                    refine lv_land hx hb dX2_findThree_52 ?_
                    refine lv_aload_n hx hb dX2_findThree_53 rfl (lv_at hl 0 rfl) ?_
                    refine g_get 6 1 (v := .ref (q 39)) (C := RX2) (T := TX2) (N := 5) X hw (by decide) hinX2 rfl (by decide) (List.mem_cons_of_mem _ (List.mem_append_left _ (List.mem_of_getElem? (i := 1) rfl))) rfl dX2_findThree_54 ?_
                    refine lv_iload hx hb dX2_findThree_57 (lv_at hl 4 rfl) ?_
                    obtain ⟨j59_14, bj59_14, ej59_14, h⟩ := h
                    refine g_lald 39 12 j59_14 X hw ⟨by decide, by decide⟩ rfl bj59_14 ej59_14 (by decide) dX2_findThree_59 ?_
                    refine lv_land hx hb dX2_findThree_60 ?_
                    refine lv_lload_n hx hb dX2_findThree_61 rfl (lv_at hl 1 rfl) ?_
                    refine W.lcmp hx hb dX2_findThree_62 ?_
                    refine lv_if_ne (tgt := 111) hx hb dX2_findThree_63 (by decide) (fun c63_15 => ?_) (fun c63_15 => ?_)
                    · have h := h.1 c63_15
                      refine lv_iinc (v := v5_9 + 1) (lv' := [(5, .int (v5_9 + 1)), (0, .ref (q 6)), (1, .long x1), (3, .int v3_1), (4, .int v4_4)]) hx hb dX2_findThree_111 hl (k := 4) rfl rfl (by decide) rfl (fun ls hl => ?_)
                      refine lv_goto (tgt := 30) hx hb dX2_findThree_114 (by decide) ?_
                      obtain ⟨k_18, hm, h⟩ := h
                      exact ihI30_9 k_18 hm (v5_9 + 1) G_9 _ _ ls hw (lv_sub hl [1, 2, 3, 4, 0] rfl) h
                    · have h := h.2 c63_15
                      refine lv_aload_n hx hb dX2_findThree_66 rfl (lv_at hl 0 rfl) ?_
                      refine g_get 6 3 (v := .ref (q 19)) (C := RX2) (T := TX2) (N := 5) X hw (by decide) hinX2 rfl (by decide) (List.mem_cons_of_mem _ (List.mem_append_left _ (List.mem_of_getElem? (i := 2) rfl))) rfl dX2_findThree_67 ?_
                      refine lv_iconst (v := 0) hx hb dX2_findThree_70 (by decide) ?_
                      refine lv_aload_n hx hb dX2_findThree_71 rfl (lv_at hl 0 rfl) ?_
                      refine g_get 6 0 (v := .ref (q 18)) (C := RX2) (T := TX2) (N := 5) X hw (by decide) hinX2 rfl (by decide) (List.mem_cons_of_mem _ (List.mem_append_left _ (List.mem_of_getElem? (i := 3) rfl))) rfl dX2_findThree_72 ?_
                      refine lv_iload_n hx hb dX2_findThree_75 rfl (lv_at hl 2 rfl) ?_
                      obtain ⟨j76_18, bj76_18, ej76_18, h⟩ := h
                      refine g_iald 18 12 j76_18 X hw (Or.inr ⟨by decide, by decide⟩) rfl bj76_18 ej76_18 (by decide) dX2_findThree_76 ?_
                      obtain ⟨j77_19, bj77_19, ej77_19, h⟩ := h
                      refine g_iast 19 3 j77_19 X hw (Or.inr ⟨by decide, by decide⟩) rfl bj77_19 ej77_19 (by decide) dX2_findThree_77 (fun H locs hw => ?_)
                      obtain ⟨G_21, eG_21⟩ : ∃ z, z = sI G_9 19 j77_19 (G_9.1 18 j76_18) := ⟨_, rfl⟩
                      rw [← eG_21] at hw
                      have h := h G_21 eG_21
                      refine lv_aload_n hx hb dX2_findThree_78 rfl (lv_at hl 0 rfl) ?_
                      refine g_get 6 3 (v := .ref (q 19)) (C := RX2) (T := TX2) (N := 5) X hw (by decide) hinX2 rfl (by decide) (List.mem_cons_of_mem _ (List.mem_append_left _ (List.mem_of_getElem? (i := 2) rfl))) rfl dX2_findThree_79 ?_
                      refine lv_iconst (v := 1) hx hb dX2_findThree_82 (by decide) ?_
                      refine lv_aload_n hx hb dX2_findThree_83 rfl (lv_at hl 0 rfl) ?_
                      refine g_get 6 0 (v := .ref (q 18)) (C := RX2) (T := TX2) (N := 5) X hw (by decide) hinX2 rfl (by decide) (List.mem_cons_of_mem _ (List.mem_append_left _ (List.mem_of_getElem? (i := 3) rfl))) rfl dX2_findThree_84 ?_
                      refine lv_iload hx hb dX2_findThree_87 (lv_at hl 3 rfl) ?_
                      obtain ⟨j89_21, bj89_21, ej89_21, h⟩ := h
                      refine g_iald 18 12 j89_21 X hw (Or.inr ⟨by decide, by decide⟩) rfl bj89_21 ej89_21 (by decide) dX2_findThree_89 ?_
                      obtain ⟨j90_22, bj90_22, ej90_22, h⟩ := h
                      refine g_iast 19 3 j90_22 X hw (Or.inr ⟨by decide, by decide⟩) rfl bj90_22 ej90_22 (by decide) dX2_findThree_90 (fun H locs hw => ?_)
                      obtain ⟨G_24, eG_24⟩ : ∃ z, z = sI G_21 19 j90_22 (G_21.1 18 j89_21) := ⟨_, rfl⟩
                      rw [← eG_24] at hw
                      have h := h G_24 eG_24
                      refine lv_aload_n hx hb dX2_findThree_91 rfl (lv_at hl 0 rfl) ?_
                      refine g_get 6 3 (v := .ref (q 19)) (C := RX2) (T := TX2) (N := 5) X hw (by decide) hinX2 rfl (by decide) (List.mem_cons_of_mem _ (List.mem_append_left _ (List.mem_of_getElem? (i := 2) rfl))) rfl dX2_findThree_92 ?_
                      refine lv_iconst (v := 2) hx hb dX2_findThree_95 (by decide) ?_
                      refine lv_aload_n hx hb dX2_findThree_96 rfl (lv_at hl 0 rfl) ?_
                      refine g_get 6 0 (v := .ref (q 18)) (C := RX2) (T := TX2) (N := 5) X hw (by decide) hinX2 rfl (by decide) (List.mem_cons_of_mem _ (List.mem_append_left _ (List.mem_of_getElem? (i := 3) rfl))) rfl dX2_findThree_97 ?_
                      refine lv_iload hx hb dX2_findThree_100 (lv_at hl 4 rfl) ?_
                      obtain ⟨j102_24, bj102_24, ej102_24, h⟩ := h
                      refine g_iald 18 12 j102_24 X hw (Or.inr ⟨by decide, by decide⟩) rfl bj102_24 ej102_24 (by decide) dX2_findThree_102 ?_
                      obtain ⟨j103_25, bj103_25, ej103_25, h⟩ := h
                      refine g_iast 19 3 j103_25 X hw (Or.inr ⟨by decide, by decide⟩) rfl bj103_25 ej103_25 (by decide) dX2_findThree_103 (fun H locs hw => ?_)
                      obtain ⟨G_27, eG_27⟩ : ∃ z, z = sI G_24 19 j103_25 (G_24.1 18 j102_24) := ⟨_, rfl⟩
                      rw [← eG_27] at hw
                      have h := h G_27 eG_27
                      refine lv_aload_n hx hb dX2_findThree_104 rfl (lv_at hl 0 rfl) ?_
                      refine lv_iconst (v := 3) hx hb dX2_findThree_105 (by decide) ?_
                      refine g_put 6 4 (v := 3) (ty := .int) (C := RX2) (T := TX2) (N := 5) X hw (by decide) hinX2 tyX2_ok nmX2 rfl (by decide) (List.mem_cons_of_mem _ (List.mem_append_left _ (List.mem_of_getElem? (i := 4) rfl))) rfl (by decide +kernel) rfl rfl (Nat.le_of_ble_eq_true rfl) rfl dX2_findThree_106 (fun H locs hw => ?_)
                      obtain ⟨G_28, eG_28⟩ : ∃ z, z = sI G_27 6 4 3 := ⟨_, rfl⟩
                      rw [← eG_28] at hw
                      have h := h G_28 eG_28
                      refine lv_iconst (v := 1) hx hb dX2_findThree_109 (by decide) ?_
                      exact g_zret X hw hr hlk (by decide) h dX2_findThree_110
              exact LI30_9 n_9 y_8 G_4 _ _ ls hw (lv_sub hl [1, 2, 3, 4, 0] rfl) h0
        exact LI15_4 n_4 y_3 G_1 _ _ ls hw (lv_sub hl [1, 2, 3, 0] rfl) h0
  exact LI2_1 n_1 0 G _ _ ls hw (lv_sub hl [1, 2, 0] rfl) h0

abbrev rmX2_tell : Room := { frames := 2, cells := 0, slots := 0, locals := 47 }
def wp_X2_tell (G : GS) (x2 : Int64) (post : Int32 → GS → Prop) : Prop :=
  wp_X3_howMany G (fun r_2 G_1 => ∀ y_3 : Int64, y_3 = (1 <<< (Int32.toInt64 r_2 &&& 63)) - 1 → ((¬ (lg_cmp x2 y_3) = 0 → (wp_X2_gatherShared G_1 x2 (fun G_5 => wp_X2_findOne G_5 x2 (fun r_8 G_7 => (¬ r_8 = 0 → (post (G_7.1 6 4) G_7)) ∧ (r_8 = 0 → (wp_X2_findTwo G_7 x2 (fun r_11 G_10 => (¬ r_11 = 0 → (post (G_10.1 6 4) G_10)) ∧ (r_11 = 0 → (wp_X2_findThree G_10 x2 (fun r_14 G_13 => (r_14 = 0 → (post (-1) G_13)) ∧ (¬ (r_14 = 0) → (post (G_13.1 6 4) G_13)))))))))))) ∧ ((lg_cmp x2 y_3) = 0 → (∀ G_16 : GS, G_16 = sI G_1 6 4 0 → (post (G_16.1 6 4) G_16)))))
set_option maxHeartbeats 4000000 in
set_option maxRecDepth 100000 in
theorem m_X2_tell (l : Launch) (D : va_G) (cy : Nat → ClassId) (q : Nat → Nat) (G : GS) (x2 : Int64) (post : Int32 → GS → Prop) (h : wp_X2_tell G x2 post) : gMi l yX2_tell wsX2_tell rmX2_tell D cy q [.ref (q 6), .ref (q 3), .long x2] G post := by
  intro sz
  refine Met.ofW (cc := cX2_tell) (maxL := 6) (ret := (some .int)) (by decide) rfl ?_
  intro p e s m args below meth c s₁ B hml hv
  obtain ⟨ha, hsz, X, hw, hA, hr, hlk⟩ := g_start B hml hv
  have hx := X.1.1
  have hb := X.1.2.1
  have hown := X.1.2.2.2.1
  have hts := X.1.2.2.2.2
  refine g_in ha (Nat.le_of_ble_eq_true rfl) (fun ls hl => ?_)
  have hl : lv_has ls 6 [(0, .ref (q 6)), (1, .ref (q 3)), (2, .long x2)] := hl
  unfold wp_X2_tell at h
  have hinX2 : ∀ w ∈ wsX20, w ∈ wsX2_tell := fun _ h9 => (List.mem_cons_of_mem _ (List.mem_append_left _ (List.mem_append_right _ h9)))
  refine lv_lconst (v := 1) hx hb dX2_tell_0 (by decide) ?_
  refine lv_aload_n hx hb dX2_tell_1 rfl (lv_at hl 1 rfl) ?_
  refine g_callVi 3 (C := RX3) (T := TX3) (N := 6) (As := []) (rest := [.long 1]) X hw hA (m_X3_howMany l D cy q G _ h) (by decide) rfl (cwV 0 hts gX2_tell_X3_howMany rfl rfl rfl (by decide +kernel) ⟨Nat.le_of_ble_eq_true rfl, Nat.le_of_ble_eq_true rfl⟩) rfl hl.1 rfl (Nat.le_of_ble_eq_true rfl) dX2_tell_2 ⟨Nat.zero_le _, Nat.zero_le _⟩ (fun r_2 G_1 H locs h hw => ?_)
  refine lv_lshl (v := 1 <<< (Int32.toInt64 r_2 &&& 63)) hx hb dX2_tell_5 rfl ?_
  refine lv_lconst (v := 1) hx hb dX2_tell_6 (by decide) ?_
  refine lv_lsub hx hb dX2_tell_7 ?_
  refine lv_topl (fun y_3 ey_3 => ?_)
  have h := h y_3 ey_3
  refine lv_lstore (lv' := [(4, .long y_3), (0, .ref (q 6)), (1, .ref (q 3)), (2, .long x2)]) hx hb dX2_tell_8 hl (by decide) rfl (fun ls hl => ?_)
  refine lv_lload_n hx hb dX2_tell_10 rfl (lv_at hl 3 rfl) ?_
  refine lv_lload hx hb dX2_tell_11 (lv_at hl 0 rfl) ?_
  refine W.lcmp hx hb dX2_tell_13 ?_
  refine lv_if_ne (tgt := 27) hx hb dX2_tell_14 (by decide) (fun c14_3 => ?_) (fun c14_3 => ?_)
  · have h := h.1 c14_3
    refine lv_aload_n hx hb dX2_tell_27 rfl (lv_at hl 1 rfl) ?_
    refine lv_aload_n hx hb dX2_tell_28 rfl (lv_at hl 2 rfl) ?_
    refine lv_lload_n hx hb dX2_tell_29 rfl (lv_at hl 3 rfl) ?_
    refine g_callVv 6 (C := RX2) (T := TX2) (N := 5) (As := [.ref (q 3), .long x2]) (rest := []) X hw hA (m_X2_gatherShared l D cy q G_1 x2 _ h) (by decide) rfl (cwV 2 hts gX2_tell_X2_gatherShared rfl rfl rfl (by decide +kernel) ⟨Nat.le_of_ble_eq_true rfl, Nat.le_of_ble_eq_true rfl⟩) rfl hl.1 rfl (Nat.le_of_ble_eq_true rfl) dX2_tell_30 ⟨Nat.zero_le _, Nat.zero_le _⟩ (fun G_5 H locs h hw => ?_)
    refine lv_aload_n hx hb dX2_tell_33 rfl (lv_at hl 1 rfl) ?_
    refine lv_lload_n hx hb dX2_tell_34 rfl (lv_at hl 3 rfl) ?_
    refine g_callVi 6 (C := RX2) (T := TX2) (N := 5) (As := [.long x2]) (rest := []) X hw hA (m_X2_findOne l D cy q G_5 x2 _ h) (by decide) rfl (cwV 1 hts gX2_tell_X2_findOne rfl rfl rfl (by decide +kernel) ⟨Nat.le_of_ble_eq_true rfl, Nat.le_of_ble_eq_true rfl⟩) rfl hl.1 rfl (Nat.le_of_ble_eq_true rfl) dX2_tell_35 ⟨Nat.zero_le _, Nat.zero_le _⟩ (fun r_8 G_7 H locs h hw => ?_)
    refine lv_if_ne (tgt := 57) hx hb dX2_tell_38 (by decide) (fun c38_8 => ?_) (fun c38_8 => ?_)
    · have h := h.1 c38_8
      refine lv_aload_n hx hb dX2_tell_57 rfl (lv_at hl 1 rfl) ?_
      refine g_get 6 4 (v := .int (G_7.1 6 4)) (C := RX2) (T := TX2) (N := 5) X hw (by decide) hinX2 rfl (by decide) (List.mem_cons_of_mem _ (List.mem_append_left _ (List.mem_append_left _ (List.mem_append_left _ (List.mem_of_getElem? (i := 0) rfl))))) rfl dX2_tell_58 ?_
      refine lv_goto (tgt := 65) hx hb dX2_tell_61 (by decide) ?_
      exact g_iret X hw hr hlk h dX2_tell_65
    · have h := h.2 c38_8
      refine lv_aload_n hx hb dX2_tell_41 rfl (lv_at hl 1 rfl) ?_
      refine lv_lload_n hx hb dX2_tell_42 rfl (lv_at hl 3 rfl) ?_
      refine g_callVi 6 (C := RX2) (T := TX2) (N := 5) (As := [.long x2]) (rest := []) X hw hA (m_X2_findTwo l D cy q G_7 x2 _ h) (by decide) rfl (cwV 1 hts gX2_tell_X2_findTwo rfl rfl rfl (by decide +kernel) ⟨Nat.le_of_ble_eq_true rfl, Nat.le_of_ble_eq_true rfl⟩) rfl hl.1 rfl (Nat.le_of_ble_eq_true rfl) dX2_tell_43 ⟨Nat.zero_le _, Nat.zero_le _⟩ (fun r_11 G_10 H locs h hw => ?_)
      refine lv_if_ne (tgt := 57) hx hb dX2_tell_46 (by decide) (fun c46_11 => ?_) (fun c46_11 => ?_)
      · have h := h.1 c46_11
        refine lv_aload_n hx hb dX2_tell_57 rfl (lv_at hl 1 rfl) ?_
        refine g_get 6 4 (v := .int (G_10.1 6 4)) (C := RX2) (T := TX2) (N := 5) X hw (by decide) hinX2 rfl (by decide) (List.mem_cons_of_mem _ (List.mem_append_left _ (List.mem_append_left _ (List.mem_append_left _ (List.mem_of_getElem? (i := 0) rfl))))) rfl dX2_tell_58 ?_
        refine lv_goto (tgt := 65) hx hb dX2_tell_61 (by decide) ?_
        exact g_iret X hw hr hlk h dX2_tell_65
      · have h := h.2 c46_11
        refine lv_aload_n hx hb dX2_tell_49 rfl (lv_at hl 1 rfl) ?_
        refine lv_lload_n hx hb dX2_tell_50 rfl (lv_at hl 3 rfl) ?_
        refine g_callVi 6 (C := RX2) (T := TX2) (N := 5) (As := [.long x2]) (rest := []) X hw hA (m_X2_findThree l D cy q G_10 x2 _ h) (by decide) rfl (cwV 1 hts gX2_tell_X2_findThree rfl rfl rfl (by decide +kernel) ⟨Nat.le_of_ble_eq_true rfl, Nat.le_of_ble_eq_true rfl⟩) rfl hl.1 rfl (Nat.le_of_ble_eq_true rfl) dX2_tell_51 ⟨Nat.zero_le _, Nat.zero_le _⟩ (fun r_14 G_13 H locs h hw => ?_)
        refine lv_if_eq (tgt := 64) hx hb dX2_tell_54 (by decide) (fun c54_14 => ?_) (fun c54_14 => ?_)
        · have h := h.1 c54_14
          refine lv_iconst (v := (-1)) hx hb dX2_tell_64 (by decide) ?_
          exact g_iret X hw hr hlk h dX2_tell_65
        · have h := h.2 c54_14
          refine lv_aload_n hx hb dX2_tell_57 rfl (lv_at hl 1 rfl) ?_
          refine g_get 6 4 (v := .int (G_13.1 6 4)) (C := RX2) (T := TX2) (N := 5) X hw (by decide) hinX2 rfl (by decide) (List.mem_cons_of_mem _ (List.mem_append_left _ (List.mem_append_left _ (List.mem_append_left _ (List.mem_of_getElem? (i := 0) rfl))))) rfl dX2_tell_58 ?_
          refine lv_goto (tgt := 65) hx hb dX2_tell_61 (by decide) ?_
          exact g_iret X hw hr hlk h dX2_tell_65
  · have h := h.2 c14_3
    refine lv_aload_n hx hb dX2_tell_17 rfl (lv_at hl 1 rfl) ?_
    refine lv_iconst (v := 0) hx hb dX2_tell_18 (by decide) ?_
    refine g_put 6 4 (v := 0) (ty := .int) (C := RX2) (T := TX2) (N := 5) X hw (by decide) hinX2 tyX2_ok nmX2 rfl (by decide) (List.mem_cons_of_mem _ (List.mem_append_left _ (List.mem_append_left _ (List.mem_append_left _ (List.mem_of_getElem? (i := 0) rfl))))) rfl (by decide +kernel) rfl rfl (Nat.le_of_ble_eq_true rfl) rfl dX2_tell_19 (fun H locs hw => ?_)
    obtain ⟨G_16, eG_16⟩ : ∃ z, z = sI G_1 6 4 0 := ⟨_, rfl⟩
    rw [← eG_16] at hw
    have h := h G_16 eG_16
    refine lv_aload_n hx hb dX2_tell_22 rfl (lv_at hl 1 rfl) ?_
    refine g_get 6 4 (v := .int (G_16.1 6 4)) (C := RX2) (T := TX2) (N := 5) X hw (by decide) hinX2 rfl (by decide) (List.mem_cons_of_mem _ (List.mem_append_left _ (List.mem_append_left _ (List.mem_append_left _ (List.mem_of_getElem? (i := 0) rfl))))) rfl dX2_tell_23 ?_
    exact g_iret X hw hr hlk h dX2_tell_26

abbrev rmX6_frame : Room := { frames := 1, cells := 0, slots := 0, locals := 21 }
def wp_X6_frame (G : GS) (x1 : Int32) (post : Int32 → GS → Prop) : Prop :=
  wp_X4_put G x1 (fun r_2 G_1 => post r_2 G_1)
set_option maxHeartbeats 4000000 in
set_option maxRecDepth 100000 in
theorem m_X6_frame (l : Launch) (D : va_G) (cy : Nat → ClassId) (q : Nat → Nat) (G : GS) (x1 : Int32) (post : Int32 → GS → Prop) (h : wp_X6_frame G x1 post) : gMi l yX6_frame wsX6_frame rmX6_frame D cy q [.ref (q 0), .int x1] G post := by
  intro sz
  refine Met.ofW (cc := cX6_frame) (maxL := 2) (ret := (some .int)) (by decide) rfl ?_
  intro p e s m args below meth c s₁ B hml hv
  obtain ⟨ha, hsz, X, hw, hA, hr, hlk⟩ := g_start B hml hv
  have hx := X.1.1
  have hb := X.1.2.1
  have hown := X.1.2.2.2.1
  have hts := X.1.2.2.2.2
  refine g_in ha (Nat.le_of_ble_eq_true rfl) (fun ls hl => ?_)
  have hl : lv_has ls 2 [(0, .ref (q 0)), (1, .int x1)] := hl
  unfold wp_X6_frame at h
  have hinX6 : ∀ w ∈ wsX60, w ∈ wsX6_frame := fun _ h9 => (List.mem_cons_of_mem _ (List.mem_append_left _ (List.mem_append_right _ h9)))
  refine lv_aload_n hx hb dX6_frame_0 rfl (lv_at hl 0 rfl) ?_
  refine g_get 0 0 (v := .ref (q 1)) (C := RX6) (T := TX6) (N := 6) X hw (by decide) hinX6 rfl (by decide) (List.mem_cons_of_mem _ (List.mem_append_left _ (List.mem_append_left _ (List.mem_of_getElem? (i := 0) rfl)))) rfl dX6_frame_1 ?_
  refine lv_iload_n hx hb dX6_frame_4 rfl (lv_at hl 1 rfl) ?_
  refine g_callVi 1 (C := RX4) (T := TX4) (N := 2) (As := [.int x1]) (rest := []) X hw hA (m_X4_put l D cy q G x1 _ h) (by decide) rfl (cwV 1 hts gX6_frame_X4_put rfl rfl rfl (by decide +kernel) ⟨Nat.le_of_ble_eq_true rfl, Nat.le_of_ble_eq_true rfl⟩) rfl hl.1 rfl (Nat.le_of_ble_eq_true rfl) dX6_frame_5 ⟨Nat.zero_le _, Nat.zero_le _⟩ (fun r_2 G_1 H locs h hw => ?_)
  exact g_iret X hw hr hlk h dX6_frame_8

abbrev rmX6_version : Room := { frames := 2, cells := 0, slots := 0, locals := 43 }
def wp_X6_version (G : GS) (x1 : Int32) (post : Int32 → GS → Prop) : Prop :=
  wp_X5_make G x1 (fun r_2 G_1 => post r_2 G_1)
set_option maxHeartbeats 4000000 in
set_option maxRecDepth 100000 in
theorem m_X6_version (l : Launch) (D : va_G) (cy : Nat → ClassId) (q : Nat → Nat) (G : GS) (x1 : Int32) (post : Int32 → GS → Prop) (h : wp_X6_version G x1 post) : gMi l yX6_version wsX6_version rmX6_version D cy q [.ref (q 0), .int x1] G post := by
  intro sz
  refine Met.ofW (cc := cX6_version) (maxL := 2) (ret := (some .int)) (by decide) rfl ?_
  intro p e s m args below meth c s₁ B hml hv
  obtain ⟨ha, hsz, X, hw, hA, hr, hlk⟩ := g_start B hml hv
  have hx := X.1.1
  have hb := X.1.2.1
  have hown := X.1.2.2.2.1
  have hts := X.1.2.2.2.2
  refine g_in ha (Nat.le_of_ble_eq_true rfl) (fun ls hl => ?_)
  have hl : lv_has ls 2 [(0, .ref (q 0)), (1, .int x1)] := hl
  unfold wp_X6_version at h
  have hinX6 : ∀ w ∈ wsX60, w ∈ wsX6_version := fun _ h9 => (List.mem_cons_of_mem _ (List.mem_append_left _ (List.mem_append_right _ h9)))
  refine lv_aload_n hx hb dX6_version_0 rfl (lv_at hl 0 rfl) ?_
  refine g_get 0 1 (v := .ref (q 2)) (C := RX6) (T := TX6) (N := 6) X hw (by decide) hinX6 rfl (by decide) (List.mem_cons_of_mem _ (List.mem_append_left _ (List.mem_append_left _ (List.mem_of_getElem? (i := 0) rfl)))) rfl dX6_version_1 ?_
  refine lv_iload_n hx hb dX6_version_4 rfl (lv_at hl 1 rfl) ?_
  refine g_callVi 2 (C := RX5) (T := TX5) (N := 2) (As := [.int x1]) (rest := []) X hw hA (m_X5_make l D cy q G x1 _ h) (by decide) rfl (cwV 1 hts gX6_version_X5_make rfl rfl rfl (by decide +kernel) ⟨Nat.le_of_ble_eq_true rfl, Nat.le_of_ble_eq_true rfl⟩) rfl hl.1 rfl (Nat.le_of_ble_eq_true rfl) dX6_version_5 ⟨Nat.zero_le _, Nat.zero_le _⟩ (fun r_2 G_1 H locs h hw => ?_)
  exact g_iret X hw hr hlk h dX6_version_8

abbrev rmX6_report : Room := { frames := 4, cells := 0, slots := 0, locals := 94 }
def wp_X6_report (G : GS) (x1 : Int32) (post : Int32 → GS → Prop) : Prop :=
  wp_X4_isEmpty G (fun r_2 G_1 => (¬ r_2 = 0 → (post (-1) G_1)) ∧ (r_2 = 0 → (wp_X5_has G_1 x1 (fun r_5 G_4 => (r_5 = 0 → (post (-1) G_4)) ∧ (¬ (r_5 = 0) → (wp_X3_isFull G_4 (fun r_8 G_7 => (r_8 = 0 → (wp_X4_fold G_7 (fun G_10 => wp_X3_add G_10 x1 (fun r_13 G_12 => wp_X4_clear G_12 (fun G_14 => wp_X0_renew G_14 (fun G_16 => wp_X1_addAlone G_16 (fun G_18 => wp_X1_settle G_18 (fun G_20 => post r_13 G_20)))))))) ∧ (¬ (r_8 = 0) → (post (-1) G_7)))))))))
set_option maxHeartbeats 4000000 in
set_option maxRecDepth 100000 in
theorem m_X6_report (l : Launch) (D : va_G) (cy : Nat → ClassId) (q : Nat → Nat) (G : GS) (x1 : Int32) (post : Int32 → GS → Prop) (h : wp_X6_report G x1 post) : gMi l yX6_report wsX6_report rmX6_report D cy q [.ref (q 0), .int x1] G post := by
  intro sz
  refine Met.ofW (cc := cX6_report) (maxL := 3) (ret := (some .int)) (by decide) rfl ?_
  intro p e s m args below meth c s₁ B hml hv
  obtain ⟨ha, hsz, X, hw, hA, hr, hlk⟩ := g_start B hml hv
  have hx := X.1.1
  have hb := X.1.2.1
  have hown := X.1.2.2.2.1
  have hts := X.1.2.2.2.2
  refine g_in ha (Nat.le_of_ble_eq_true rfl) (fun ls hl => ?_)
  have hl : lv_has ls 3 [(0, .ref (q 0)), (1, .int x1)] := hl
  unfold wp_X6_report at h
  have hinX6 : ∀ w ∈ wsX60, w ∈ wsX6_report := fun _ h9 => (List.mem_cons_of_mem _ (List.mem_append_left _ (List.mem_append_left _ (List.mem_append_left _ (List.mem_append_left _ (List.mem_append_left _ (List.mem_append_right _ h9)))))))
  refine lv_aload_n hx hb dX6_report_0 rfl (lv_at hl 0 rfl) ?_
  refine g_get 0 0 (v := .ref (q 1)) (C := RX6) (T := TX6) (N := 6) X hw (by decide) hinX6 rfl (by decide) (List.mem_cons_of_mem _ (List.mem_append_left _ (List.mem_append_left _ (List.mem_append_left _ (List.mem_append_left _ (List.mem_append_left _ (List.mem_append_left _ (List.mem_append_left _ (List.mem_of_getElem? (i := 0) rfl))))))))) rfl dX6_report_1 ?_
  refine g_callVi 1 (C := RX4) (T := TX4) (N := 2) (As := []) (rest := []) X hw hA (m_X4_isEmpty l D cy q G _ h) (by decide) rfl (cwV 0 hts gX6_report_X4_isEmpty rfl rfl rfl (by decide +kernel) ⟨Nat.le_of_ble_eq_true rfl, Nat.le_of_ble_eq_true rfl⟩) rfl hl.1 rfl (Nat.le_of_ble_eq_true rfl) dX6_report_4 ⟨Nat.zero_le _, Nat.zero_le _⟩ (fun r_2 G_1 H locs h hw => ?_)
  refine lv_if_ne (tgt := 31) hx hb dX6_report_7 (by decide) (fun c7_2 => ?_) (fun c7_2 => ?_)
  · have h := h.1 c7_2
    refine lv_iconst (v := (-1)) hx hb dX6_report_31 (by decide) ?_
    exact g_iret X hw hr hlk h dX6_report_32
  · have h := h.2 c7_2
    refine lv_aload_n hx hb dX6_report_10 rfl (lv_at hl 0 rfl) ?_
    refine g_get 0 1 (v := .ref (q 2)) (C := RX6) (T := TX6) (N := 6) X hw (by decide) hinX6 rfl (by decide) (List.mem_cons_of_mem _ (List.mem_append_left _ (List.mem_append_left _ (List.mem_append_left _ (List.mem_append_left _ (List.mem_append_left _ (List.mem_append_left _ (List.mem_append_left _ (List.mem_of_getElem? (i := 1) rfl))))))))) rfl dX6_report_11 ?_
    refine lv_iload_n hx hb dX6_report_14 rfl (lv_at hl 1 rfl) ?_
    refine g_callVi 2 (C := RX5) (T := TX5) (N := 2) (As := [.int x1]) (rest := []) X hw hA (m_X5_has l D cy q G_1 x1 _ h) (by decide) rfl (cwV 1 hts gX6_report_X5_has rfl rfl rfl (by decide +kernel) ⟨Nat.le_of_ble_eq_true rfl, Nat.le_of_ble_eq_true rfl⟩) rfl hl.1 rfl (Nat.le_of_ble_eq_true rfl) dX6_report_15 ⟨Nat.zero_le _, Nat.zero_le _⟩ (fun r_5 G_4 H locs h hw => ?_)
    refine lv_if_eq (tgt := 31) hx hb dX6_report_18 (by decide) (fun c18_5 => ?_) (fun c18_5 => ?_)
    · have h := h.1 c18_5
      refine lv_iconst (v := (-1)) hx hb dX6_report_31 (by decide) ?_
      exact g_iret X hw hr hlk h dX6_report_32
    · have h := h.2 c18_5
      refine lv_aload_n hx hb dX6_report_21 rfl (lv_at hl 0 rfl) ?_
      refine g_get 0 2 (v := .ref (q 3)) (C := RX6) (T := TX6) (N := 6) X hw (by decide) hinX6 rfl (by decide) (List.mem_cons_of_mem _ (List.mem_append_left _ (List.mem_append_left _ (List.mem_append_left _ (List.mem_append_left _ (List.mem_append_left _ (List.mem_append_left _ (List.mem_append_left _ (List.mem_of_getElem? (i := 2) rfl))))))))) rfl dX6_report_22 ?_
      refine g_callVi 3 (C := RX3) (T := TX3) (N := 6) (As := []) (rest := []) X hw hA (m_X3_isFull l D cy q G_4 _ h) (by decide) rfl (cwV 0 hts gX6_report_X3_isFull rfl rfl rfl (by decide +kernel) ⟨Nat.le_of_ble_eq_true rfl, Nat.le_of_ble_eq_true rfl⟩) rfl hl.1 rfl (Nat.le_of_ble_eq_true rfl) dX6_report_25 ⟨Nat.zero_le _, Nat.zero_le _⟩ (fun r_8 G_7 H locs h hw => ?_)
      refine lv_if_eq (tgt := 33) hx hb dX6_report_28 (by decide) (fun c28_8 => ?_) (fun c28_8 => ?_)
      · have h := h.1 c28_8
        refine lv_aload_n hx hb dX6_report_33 rfl (lv_at hl 0 rfl) ?_
        refine g_get 0 0 (v := .ref (q 1)) (C := RX6) (T := TX6) (N := 6) X hw (by decide) hinX6 rfl (by decide) (List.mem_cons_of_mem _ (List.mem_append_left _ (List.mem_append_left _ (List.mem_append_left _ (List.mem_append_left _ (List.mem_append_left _ (List.mem_append_left _ (List.mem_append_left _ (List.mem_of_getElem? (i := 0) rfl))))))))) rfl dX6_report_34 ?_
        refine g_callVv 1 (C := RX4) (T := TX4) (N := 2) (As := []) (rest := []) X hw hA (m_X4_fold l D cy q G_7 _ h) (by decide) rfl (cwV 0 hts gX6_report_X4_fold rfl rfl rfl (by decide +kernel) ⟨Nat.le_of_ble_eq_true rfl, Nat.le_of_ble_eq_true rfl⟩) rfl hl.1 rfl (Nat.le_of_ble_eq_true rfl) dX6_report_37 ⟨Nat.zero_le _, Nat.zero_le _⟩ (fun G_10 H locs h hw => ?_)
        refine lv_aload_n hx hb dX6_report_40 rfl (lv_at hl 0 rfl) ?_
        refine g_get 0 2 (v := .ref (q 3)) (C := RX6) (T := TX6) (N := 6) X hw (by decide) hinX6 rfl (by decide) (List.mem_cons_of_mem _ (List.mem_append_left _ (List.mem_append_left _ (List.mem_append_left _ (List.mem_append_left _ (List.mem_append_left _ (List.mem_append_left _ (List.mem_append_left _ (List.mem_of_getElem? (i := 2) rfl))))))))) rfl dX6_report_41 ?_
        refine lv_aload_n hx hb dX6_report_44 rfl (lv_at hl 0 rfl) ?_
        refine g_get 0 0 (v := .ref (q 1)) (C := RX6) (T := TX6) (N := 6) X hw (by decide) hinX6 rfl (by decide) (List.mem_cons_of_mem _ (List.mem_append_left _ (List.mem_append_left _ (List.mem_append_left _ (List.mem_append_left _ (List.mem_append_left _ (List.mem_append_left _ (List.mem_append_left _ (List.mem_of_getElem? (i := 0) rfl))))))))) rfl dX6_report_45 ?_
        refine lv_iload_n hx hb dX6_report_48 rfl (lv_at hl 1 rfl) ?_
        refine g_callVi 3 (C := RX3) (T := TX3) (N := 6) (As := [.ref (q 1), .int x1]) (rest := []) X hw hA (m_X3_add l D cy q G_10 x1 _ h) (by decide) rfl (cwV 2 hts gX6_report_X3_add rfl rfl rfl (by decide +kernel) ⟨Nat.le_of_ble_eq_true rfl, Nat.le_of_ble_eq_true rfl⟩) rfl hl.1 rfl (Nat.le_of_ble_eq_true rfl) dX6_report_49 ⟨Nat.zero_le _, Nat.zero_le _⟩ (fun r_13 G_12 H locs h hw => ?_)
        refine lv_istore_n (lv' := [(2, .int r_13), (0, .ref (q 0)), (1, .int x1)]) hx hb dX6_report_52 rfl hl (by decide) rfl (fun ls hl => ?_)
        refine lv_aload_n hx hb dX6_report_53 rfl (lv_at hl 1 rfl) ?_
        refine g_get 0 0 (v := .ref (q 1)) (C := RX6) (T := TX6) (N := 6) X hw (by decide) hinX6 rfl (by decide) (List.mem_cons_of_mem _ (List.mem_append_left _ (List.mem_append_left _ (List.mem_append_left _ (List.mem_append_left _ (List.mem_append_left _ (List.mem_append_left _ (List.mem_append_left _ (List.mem_of_getElem? (i := 0) rfl))))))))) rfl dX6_report_54 ?_
        refine g_callVv 1 (C := RX4) (T := TX4) (N := 2) (As := []) (rest := []) X hw hA (m_X4_clear l D cy q G_12 _ h) (by decide) rfl (cwV 0 hts gX6_report_X4_clear rfl rfl rfl (by decide +kernel) ⟨Nat.le_of_ble_eq_true rfl, Nat.le_of_ble_eq_true rfl⟩) rfl hl.1 rfl (Nat.le_of_ble_eq_true rfl) dX6_report_57 ⟨Nat.zero_le _, Nat.zero_le _⟩ (fun G_14 H locs h hw => ?_)
        refine lv_aload_n hx hb dX6_report_60 rfl (lv_at hl 1 rfl) ?_
        refine g_get 0 3 (v := .ref (q 4)) (C := RX6) (T := TX6) (N := 6) X hw (by decide) hinX6 rfl (by decide) (List.mem_cons_of_mem _ (List.mem_append_left _ (List.mem_append_left _ (List.mem_append_left _ (List.mem_append_left _ (List.mem_append_left _ (List.mem_append_left _ (List.mem_append_left _ (List.mem_of_getElem? (i := 3) rfl))))))))) rfl dX6_report_61 ?_
        refine lv_aload_n hx hb dX6_report_64 rfl (lv_at hl 1 rfl) ?_
        refine g_get 0 2 (v := .ref (q 3)) (C := RX6) (T := TX6) (N := 6) X hw (by decide) hinX6 rfl (by decide) (List.mem_cons_of_mem _ (List.mem_append_left _ (List.mem_append_left _ (List.mem_append_left _ (List.mem_append_left _ (List.mem_append_left _ (List.mem_append_left _ (List.mem_append_left _ (List.mem_of_getElem? (i := 2) rfl))))))))) rfl dX6_report_65 ?_
        refine g_callVv 4 (C := RX0) (T := TX0) (N := 5) (As := [.ref (q 3)]) (rest := []) X hw hA (m_X0_renew l D cy q G_14 _ h) (by decide) rfl (cwV 1 hts gX6_report_X0_renew rfl rfl rfl (by decide +kernel) ⟨Nat.le_of_ble_eq_true rfl, Nat.le_of_ble_eq_true rfl⟩) rfl hl.1 rfl (Nat.le_of_ble_eq_true rfl) dX6_report_68 ⟨Nat.zero_le _, Nat.zero_le _⟩ (fun G_16 H locs h hw => ?_)
        refine lv_aload_n hx hb dX6_report_71 rfl (lv_at hl 1 rfl) ?_
        refine g_get 0 4 (v := .ref (q 5)) (C := RX6) (T := TX6) (N := 6) X hw (by decide) hinX6 rfl (by decide) (List.mem_cons_of_mem _ (List.mem_append_left _ (List.mem_append_left _ (List.mem_append_left _ (List.mem_append_left _ (List.mem_append_left _ (List.mem_append_left _ (List.mem_append_left _ (List.mem_of_getElem? (i := 4) rfl))))))))) rfl dX6_report_72 ?_
        refine g_callVv 5 (C := RX1) (T := TX1) (N := 15) (As := []) (rest := []) X hw hA (m_X1_addAlone l D cy q G_16 _ h) (by decide) rfl (cwV 0 hts gX6_report_X1_addAlone rfl rfl rfl (by decide +kernel) ⟨Nat.le_of_ble_eq_true rfl, Nat.le_of_ble_eq_true rfl⟩) rfl hl.1 rfl (Nat.le_of_ble_eq_true rfl) dX6_report_75 ⟨Nat.zero_le _, Nat.zero_le _⟩ (fun G_18 H locs h hw => ?_)
        refine lv_aload_n hx hb dX6_report_78 rfl (lv_at hl 1 rfl) ?_
        refine g_get 0 4 (v := .ref (q 5)) (C := RX6) (T := TX6) (N := 6) X hw (by decide) hinX6 rfl (by decide) (List.mem_cons_of_mem _ (List.mem_append_left _ (List.mem_append_left _ (List.mem_append_left _ (List.mem_append_left _ (List.mem_append_left _ (List.mem_append_left _ (List.mem_append_left _ (List.mem_of_getElem? (i := 4) rfl))))))))) rfl dX6_report_79 ?_
        refine lv_aload_n hx hb dX6_report_82 rfl (lv_at hl 1 rfl) ?_
        refine g_get 0 3 (v := .ref (q 4)) (C := RX6) (T := TX6) (N := 6) X hw (by decide) hinX6 rfl (by decide) (List.mem_cons_of_mem _ (List.mem_append_left _ (List.mem_append_left _ (List.mem_append_left _ (List.mem_append_left _ (List.mem_append_left _ (List.mem_append_left _ (List.mem_append_left _ (List.mem_of_getElem? (i := 3) rfl))))))))) rfl dX6_report_83 ?_
        refine g_callVv 5 (C := RX1) (T := TX1) (N := 15) (As := [.ref (q 4)]) (rest := []) X hw hA (m_X1_settle l D cy q G_18 _ h) (by decide) rfl (cwV 1 hts gX6_report_X1_settle rfl rfl rfl (by decide +kernel) ⟨Nat.le_of_ble_eq_true rfl, Nat.le_of_ble_eq_true rfl⟩) rfl hl.1 rfl (Nat.le_of_ble_eq_true rfl) dX6_report_86 ⟨Nat.zero_le _, Nat.zero_le _⟩ (fun G_20 H locs h hw => ?_)
        refine lv_iload_n hx hb dX6_report_89 rfl (lv_at hl 0 rfl) ?_
        exact g_iret X hw hr hlk h dX6_report_90
      · have h := h.2 c28_8
        refine lv_iconst (v := (-1)) hx hb dX6_report_31 (by decide) ?_
        exact g_iret X hw hr hlk h dX6_report_32

abbrev rmX6_pair : Room := { frames := 4, cells := 0, slots := 0, locals := 91 }
def wp_X6_pair (G : GS) (x1 : Int32) (x2 : Int32) (x3 : Int32) (post : Int32 → GS → Prop) : Prop :=
  wp_X3_hasTwo G x1 x2 (fun r_2 G_1 => (¬ r_2 = 0 → ((x3 = 0 → (wp_X1_wish G_1 x1 x2 1000 (fun G_5 => wp_X1_settle G_5 (fun G_7 => post 1 G_7)))) ∧ (¬ (x3 = 0) → (wp_X1_wish G_1 x1 x2 (-1000) (fun G_9 => wp_X1_settle G_9 (fun G_11 => post 1 G_11)))))) ∧ (r_2 = 0 → (post 0 G_1)))
set_option maxHeartbeats 4000000 in
set_option maxRecDepth 100000 in
theorem m_X6_pair (l : Launch) (D : va_G) (cy : Nat → ClassId) (q : Nat → Nat) (G : GS) (x1 : Int32) (x2 : Int32) (x3 : Int32) (post : Int32 → GS → Prop) (h : wp_X6_pair G x1 x2 x3 post) : gMi l yX6_pair wsX6_pair rmX6_pair D cy q [.ref (q 0), .int x1, .int x2, .int x3] G post := by
  intro sz
  refine Met.ofW (cc := cX6_pair) (maxL := 4) (ret := (some .boolean)) (by decide) rfl ?_
  intro p e s m args below meth c s₁ B hml hv
  obtain ⟨ha, hsz, X, hw, hA, hr, hlk⟩ := g_start B hml hv
  have hx := X.1.1
  have hb := X.1.2.1
  have hown := X.1.2.2.2.1
  have hts := X.1.2.2.2.2
  refine g_in ha (Nat.le_of_ble_eq_true rfl) (fun ls hl => ?_)
  have hl : lv_has ls 4 [(0, .ref (q 0)), (1, .int x1), (2, .int x2), (3, .int x3)] := hl
  unfold wp_X6_pair at h
  have hinX6 : ∀ w ∈ wsX60, w ∈ wsX6_pair := fun _ h9 => (List.mem_cons_of_mem _ (List.mem_append_left _ (List.mem_append_left _ (List.mem_append_left _ (List.mem_append_right _ h9)))))
  refine lv_aload_n hx hb dX6_pair_0 rfl (lv_at hl 0 rfl) ?_
  refine g_get 0 2 (v := .ref (q 3)) (C := RX6) (T := TX6) (N := 6) X hw (by decide) hinX6 rfl (by decide) (List.mem_cons_of_mem _ (List.mem_append_left _ (List.mem_append_left _ (List.mem_append_left _ (List.mem_append_left _ (List.mem_append_left _ (List.mem_of_getElem? (i := 0) rfl))))))) rfl dX6_pair_1 ?_
  refine lv_iload_n hx hb dX6_pair_4 rfl (lv_at hl 1 rfl) ?_
  refine lv_iload_n hx hb dX6_pair_5 rfl (lv_at hl 2 rfl) ?_
  refine g_callVi 3 (C := RX3) (T := TX3) (N := 6) (As := [.int x1, .int x2]) (rest := []) X hw hA (m_X3_hasTwo l D cy q G x1 x2 _ h) (by decide) rfl (cwV 2 hts gX6_pair_X3_hasTwo rfl rfl rfl (by decide +kernel) ⟨Nat.le_of_ble_eq_true rfl, Nat.le_of_ble_eq_true rfl⟩) rfl hl.1 rfl (Nat.le_of_ble_eq_true rfl) dX6_pair_6 ⟨Nat.zero_le _, Nat.zero_le _⟩ (fun r_2 G_1 H locs h hw => ?_)
  refine lv_if_ne (tgt := 14) hx hb dX6_pair_9 (by decide) (fun c9_2 => ?_) (fun c9_2 => ?_)
  · have h := h.1 c9_2
    refine lv_aload_n hx hb dX6_pair_14 rfl (lv_at hl 0 rfl) ?_
    refine g_get 0 4 (v := .ref (q 5)) (C := RX6) (T := TX6) (N := 6) X hw (by decide) hinX6 rfl (by decide) (List.mem_cons_of_mem _ (List.mem_append_left _ (List.mem_append_left _ (List.mem_append_left _ (List.mem_append_left _ (List.mem_append_left _ (List.mem_of_getElem? (i := 1) rfl))))))) rfl dX6_pair_15 ?_
    refine lv_iload_n hx hb dX6_pair_18 rfl (lv_at hl 1 rfl) ?_
    refine lv_iload_n hx hb dX6_pair_19 rfl (lv_at hl 2 rfl) ?_
    refine lv_iload_n hx hb dX6_pair_20 rfl (lv_at hl 3 rfl) ?_
    refine lv_if_eq (tgt := 30) hx hb dX6_pair_21 (by decide) (fun c21_3 => ?_) (fun c21_3 => ?_)
    · have h := h.1 c21_3
      refine lv_sipush (v := 1000) hx hb dX6_pair_30 (by decide) ?_
      refine g_callVv 5 (C := RX1) (T := TX1) (N := 15) (As := [.int x1, .int x2, .int 1000]) (rest := []) X hw hA (m_X1_wish l D cy q G_1 x1 x2 1000 _ h) (by decide) rfl (cwV 3 hts gX6_pair_X1_wish rfl rfl rfl (by decide +kernel) ⟨Nat.le_of_ble_eq_true rfl, Nat.le_of_ble_eq_true rfl⟩) rfl hl.1 rfl (Nat.le_of_ble_eq_true rfl) dX6_pair_33 ⟨Nat.zero_le _, Nat.zero_le _⟩ (fun G_5 H locs h hw => ?_)
      refine lv_aload_n hx hb dX6_pair_36 rfl (lv_at hl 0 rfl) ?_
      refine g_get 0 4 (v := .ref (q 5)) (C := RX6) (T := TX6) (N := 6) X hw (by decide) hinX6 rfl (by decide) (List.mem_cons_of_mem _ (List.mem_append_left _ (List.mem_append_left _ (List.mem_append_left _ (List.mem_append_left _ (List.mem_append_left _ (List.mem_of_getElem? (i := 1) rfl))))))) rfl dX6_pair_37 ?_
      refine lv_aload_n hx hb dX6_pair_40 rfl (lv_at hl 0 rfl) ?_
      refine g_get 0 3 (v := .ref (q 4)) (C := RX6) (T := TX6) (N := 6) X hw (by decide) hinX6 rfl (by decide) (List.mem_cons_of_mem _ (List.mem_append_left _ (List.mem_append_left _ (List.mem_append_left _ (List.mem_append_left _ (List.mem_append_left _ (List.mem_of_getElem? (i := 2) rfl))))))) rfl dX6_pair_41 ?_
      refine g_callVv 5 (C := RX1) (T := TX1) (N := 15) (As := [.ref (q 4)]) (rest := []) X hw hA (m_X1_settle l D cy q G_5 _ h) (by decide) rfl (cwV 1 hts gX6_pair_X1_settle rfl rfl rfl (by decide +kernel) ⟨Nat.le_of_ble_eq_true rfl, Nat.le_of_ble_eq_true rfl⟩) rfl hl.1 rfl (Nat.le_of_ble_eq_true rfl) dX6_pair_44 ⟨Nat.zero_le _, Nat.zero_le _⟩ (fun G_7 H locs h hw => ?_)
      refine lv_iconst (v := 1) hx hb dX6_pair_47 (by decide) ?_
      exact g_zret X hw hr hlk (by decide) h dX6_pair_48
    · have h := h.2 c21_3
      refine lv_sipush (v := (-1000)) hx hb dX6_pair_24 (by decide) ?_
      refine lv_goto (tgt := 33) hx hb dX6_pair_27 (by decide) ?_
      refine g_callVv 5 (C := RX1) (T := TX1) (N := 15) (As := [.int x1, .int x2, .int (-1000)]) (rest := []) X hw hA (m_X1_wish l D cy q G_1 x1 x2 (-1000) _ h) (by decide) rfl (cwV 3 hts gX6_pair_X1_wish rfl rfl rfl (by decide +kernel) ⟨Nat.le_of_ble_eq_true rfl, Nat.le_of_ble_eq_true rfl⟩) rfl hl.1 rfl (Nat.le_of_ble_eq_true rfl) dX6_pair_33 ⟨Nat.zero_le _, Nat.zero_le _⟩ (fun G_9 H locs h hw => ?_)
      refine lv_aload_n hx hb dX6_pair_36 rfl (lv_at hl 0 rfl) ?_
      refine g_get 0 4 (v := .ref (q 5)) (C := RX6) (T := TX6) (N := 6) X hw (by decide) hinX6 rfl (by decide) (List.mem_cons_of_mem _ (List.mem_append_left _ (List.mem_append_left _ (List.mem_append_left _ (List.mem_append_left _ (List.mem_append_left _ (List.mem_of_getElem? (i := 1) rfl))))))) rfl dX6_pair_37 ?_
      refine lv_aload_n hx hb dX6_pair_40 rfl (lv_at hl 0 rfl) ?_
      refine g_get 0 3 (v := .ref (q 4)) (C := RX6) (T := TX6) (N := 6) X hw (by decide) hinX6 rfl (by decide) (List.mem_cons_of_mem _ (List.mem_append_left _ (List.mem_append_left _ (List.mem_append_left _ (List.mem_append_left _ (List.mem_append_left _ (List.mem_of_getElem? (i := 2) rfl))))))) rfl dX6_pair_41 ?_
      refine g_callVv 5 (C := RX1) (T := TX1) (N := 15) (As := [.ref (q 4)]) (rest := []) X hw hA (m_X1_settle l D cy q G_9 _ h) (by decide) rfl (cwV 1 hts gX6_pair_X1_settle rfl rfl rfl (by decide +kernel) ⟨Nat.le_of_ble_eq_true rfl, Nat.le_of_ble_eq_true rfl⟩) rfl hl.1 rfl (Nat.le_of_ble_eq_true rfl) dX6_pair_44 ⟨Nat.zero_le _, Nat.zero_le _⟩ (fun G_11 H locs h hw => ?_)
      refine lv_iconst (v := 1) hx hb dX6_pair_47 (by decide) ?_
      exact g_zret X hw hr hlk (by decide) h dX6_pair_48
  · have h := h.2 c9_2
    refine lv_iconst (v := 0) hx hb dX6_pair_12 (by decide) ?_
    exact g_zret X hw hr hlk (by decide) h dX6_pair_13

abbrev rmX6_free : Room := { frames := 4, cells := 0, slots := 0, locals := 91 }
def wp_X6_free (G : GS) (x1 : Int32) (x2 : Int32) (post : Int32 → GS → Prop) : Prop :=
  wp_X3_hasTwo G x1 x2 (fun r_2 G_1 => (r_2 = 0 → (post 0 G_1)) ∧ (¬ (r_2 = 0) → (wp_X1_hasWish G_1 x1 x2 (fun r_5 G_4 => (¬ r_5 = 0 → (wp_X1_wish G_4 x1 x2 0 (fun G_7 => wp_X1_settle G_7 (fun G_9 => post 1 G_9)))) ∧ (r_5 = 0 → (post 0 G_4))))))
set_option maxHeartbeats 4000000 in
set_option maxRecDepth 100000 in
theorem m_X6_free (l : Launch) (D : va_G) (cy : Nat → ClassId) (q : Nat → Nat) (G : GS) (x1 : Int32) (x2 : Int32) (post : Int32 → GS → Prop) (h : wp_X6_free G x1 x2 post) : gMi l yX6_free wsX6_free rmX6_free D cy q [.ref (q 0), .int x1, .int x2] G post := by
  intro sz
  refine Met.ofW (cc := cX6_free) (maxL := 3) (ret := (some .boolean)) (by decide) rfl ?_
  intro p e s m args below meth c s₁ B hml hv
  obtain ⟨ha, hsz, X, hw, hA, hr, hlk⟩ := g_start B hml hv
  have hx := X.1.1
  have hb := X.1.2.1
  have hown := X.1.2.2.2.1
  have hts := X.1.2.2.2.2
  refine g_in ha (Nat.le_of_ble_eq_true rfl) (fun ls hl => ?_)
  have hl : lv_has ls 3 [(0, .ref (q 0)), (1, .int x1), (2, .int x2)] := hl
  unfold wp_X6_free at h
  have hinX6 : ∀ w ∈ wsX60, w ∈ wsX6_free := fun _ h9 => (List.mem_cons_of_mem _ (List.mem_append_left _ (List.mem_append_left _ (List.mem_append_left _ (List.mem_append_right _ h9)))))
  refine lv_aload_n hx hb dX6_free_0 rfl (lv_at hl 0 rfl) ?_
  refine g_get 0 2 (v := .ref (q 3)) (C := RX6) (T := TX6) (N := 6) X hw (by decide) hinX6 rfl (by decide) (List.mem_cons_of_mem _ (List.mem_append_left _ (List.mem_append_left _ (List.mem_append_left _ (List.mem_append_left _ (List.mem_append_left _ (List.mem_of_getElem? (i := 0) rfl))))))) rfl dX6_free_1 ?_
  refine lv_iload_n hx hb dX6_free_4 rfl (lv_at hl 1 rfl) ?_
  refine lv_iload_n hx hb dX6_free_5 rfl (lv_at hl 2 rfl) ?_
  refine g_callVi 3 (C := RX3) (T := TX3) (N := 6) (As := [.int x1, .int x2]) (rest := []) X hw hA (m_X3_hasTwo l D cy q G x1 x2 _ h) (by decide) rfl (cwV 2 hts gX6_free_X3_hasTwo rfl rfl rfl (by decide +kernel) ⟨Nat.le_of_ble_eq_true rfl, Nat.le_of_ble_eq_true rfl⟩) rfl hl.1 rfl (Nat.le_of_ble_eq_true rfl) dX6_free_6 ⟨Nat.zero_le _, Nat.zero_le _⟩ (fun r_2 G_1 H locs h hw => ?_)
  refine lv_if_eq (tgt := 24) hx hb dX6_free_9 (by decide) (fun c9_2 => ?_) (fun c9_2 => ?_)
  · have h := h.1 c9_2
    refine lv_iconst (v := 0) hx hb dX6_free_24 (by decide) ?_
    exact g_zret X hw hr hlk (by decide) h dX6_free_25
  · have h := h.2 c9_2
    refine lv_aload_n hx hb dX6_free_12 rfl (lv_at hl 0 rfl) ?_
    refine g_get 0 4 (v := .ref (q 5)) (C := RX6) (T := TX6) (N := 6) X hw (by decide) hinX6 rfl (by decide) (List.mem_cons_of_mem _ (List.mem_append_left _ (List.mem_append_left _ (List.mem_append_left _ (List.mem_append_left _ (List.mem_append_left _ (List.mem_of_getElem? (i := 1) rfl))))))) rfl dX6_free_13 ?_
    refine lv_iload_n hx hb dX6_free_16 rfl (lv_at hl 1 rfl) ?_
    refine lv_iload_n hx hb dX6_free_17 rfl (lv_at hl 2 rfl) ?_
    refine g_callVi 5 (C := RX1) (T := TX1) (N := 15) (As := [.int x1, .int x2]) (rest := []) X hw hA (m_X1_hasWish l D cy q G_1 x1 x2 _ h) (by decide) rfl (cwV 2 hts gX6_free_X1_hasWish rfl rfl rfl (by decide +kernel) ⟨Nat.le_of_ble_eq_true rfl, Nat.le_of_ble_eq_true rfl⟩) rfl hl.1 rfl (Nat.le_of_ble_eq_true rfl) dX6_free_18 ⟨Nat.zero_le _, Nat.zero_le _⟩ (fun r_5 G_4 H locs h hw => ?_)
    refine lv_if_ne (tgt := 26) hx hb dX6_free_21 (by decide) (fun c21_5 => ?_) (fun c21_5 => ?_)
    · have h := h.1 c21_5
      refine lv_aload_n hx hb dX6_free_26 rfl (lv_at hl 0 rfl) ?_
      refine g_get 0 4 (v := .ref (q 5)) (C := RX6) (T := TX6) (N := 6) X hw (by decide) hinX6 rfl (by decide) (List.mem_cons_of_mem _ (List.mem_append_left _ (List.mem_append_left _ (List.mem_append_left _ (List.mem_append_left _ (List.mem_append_left _ (List.mem_of_getElem? (i := 1) rfl))))))) rfl dX6_free_27 ?_
      refine lv_iload_n hx hb dX6_free_30 rfl (lv_at hl 1 rfl) ?_
      refine lv_iload_n hx hb dX6_free_31 rfl (lv_at hl 2 rfl) ?_
      refine lv_iconst (v := 0) hx hb dX6_free_32 (by decide) ?_
      refine g_callVv 5 (C := RX1) (T := TX1) (N := 15) (As := [.int x1, .int x2, .int 0]) (rest := []) X hw hA (m_X1_wish l D cy q G_4 x1 x2 0 _ h) (by decide) rfl (cwV 3 hts gX6_free_X1_wish rfl rfl rfl (by decide +kernel) ⟨Nat.le_of_ble_eq_true rfl, Nat.le_of_ble_eq_true rfl⟩) rfl hl.1 rfl (Nat.le_of_ble_eq_true rfl) dX6_free_33 ⟨Nat.zero_le _, Nat.zero_le _⟩ (fun G_7 H locs h hw => ?_)
      refine lv_aload_n hx hb dX6_free_36 rfl (lv_at hl 0 rfl) ?_
      refine g_get 0 4 (v := .ref (q 5)) (C := RX6) (T := TX6) (N := 6) X hw (by decide) hinX6 rfl (by decide) (List.mem_cons_of_mem _ (List.mem_append_left _ (List.mem_append_left _ (List.mem_append_left _ (List.mem_append_left _ (List.mem_append_left _ (List.mem_of_getElem? (i := 1) rfl))))))) rfl dX6_free_37 ?_
      refine lv_aload_n hx hb dX6_free_40 rfl (lv_at hl 0 rfl) ?_
      refine g_get 0 3 (v := .ref (q 4)) (C := RX6) (T := TX6) (N := 6) X hw (by decide) hinX6 rfl (by decide) (List.mem_cons_of_mem _ (List.mem_append_left _ (List.mem_append_left _ (List.mem_append_left _ (List.mem_append_left _ (List.mem_append_left _ (List.mem_of_getElem? (i := 2) rfl))))))) rfl dX6_free_41 ?_
      refine g_callVv 5 (C := RX1) (T := TX1) (N := 15) (As := [.ref (q 4)]) (rest := []) X hw hA (m_X1_settle l D cy q G_7 _ h) (by decide) rfl (cwV 1 hts gX6_free_X1_settle rfl rfl rfl (by decide +kernel) ⟨Nat.le_of_ble_eq_true rfl, Nat.le_of_ble_eq_true rfl⟩) rfl hl.1 rfl (Nat.le_of_ble_eq_true rfl) dX6_free_44 ⟨Nat.zero_le _, Nat.zero_le _⟩ (fun G_9 H locs h hw => ?_)
      refine lv_iconst (v := 1) hx hb dX6_free_47 (by decide) ?_
      exact g_zret X hw hr hlk (by decide) h dX6_free_48
    · have h := h.2 c21_5
      refine lv_iconst (v := 0) hx hb dX6_free_24 (by decide) ?_
      exact g_zret X hw hr hlk (by decide) h dX6_free_25

abbrev rmX6_mark : Room := { frames := 4, cells := 0, slots := 0, locals := 91 }
def wp_X6_mark (G : GS) (x1 : Int32) (post : Int32 → GS → Prop) : Prop :=
  wp_X1_setT G x1 (fun r_2 G_1 => (¬ r_2 = 0 → (wp_X1_settle G_1 (fun G_4 => post 1 G_4))) ∧ (r_2 = 0 → (post 0 G_1)))
set_option maxHeartbeats 4000000 in
set_option maxRecDepth 100000 in
theorem m_X6_mark (l : Launch) (D : va_G) (cy : Nat → ClassId) (q : Nat → Nat) (G : GS) (x1 : Int32) (post : Int32 → GS → Prop) (h : wp_X6_mark G x1 post) : gMi l yX6_mark wsX6_mark rmX6_mark D cy q [.ref (q 0), .int x1] G post := by
  intro sz
  refine Met.ofW (cc := cX6_mark) (maxL := 2) (ret := (some .boolean)) (by decide) rfl ?_
  intro p e s m args below meth c s₁ B hml hv
  obtain ⟨ha, hsz, X, hw, hA, hr, hlk⟩ := g_start B hml hv
  have hx := X.1.1
  have hb := X.1.2.1
  have hown := X.1.2.2.2.1
  have hts := X.1.2.2.2.2
  refine g_in ha (Nat.le_of_ble_eq_true rfl) (fun ls hl => ?_)
  have hl : lv_has ls 2 [(0, .ref (q 0)), (1, .int x1)] := hl
  unfold wp_X6_mark at h
  have hinX6 : ∀ w ∈ wsX60, w ∈ wsX6_mark := fun _ h9 => (List.mem_cons_of_mem _ (List.mem_append_left _ (List.mem_append_left _ (List.mem_append_right _ h9))))
  refine lv_aload_n hx hb dX6_mark_0 rfl (lv_at hl 0 rfl) ?_
  refine g_get 0 4 (v := .ref (q 5)) (C := RX6) (T := TX6) (N := 6) X hw (by decide) hinX6 rfl (by decide) (List.mem_cons_of_mem _ (List.mem_append_left _ (List.mem_append_left _ (List.mem_append_left _ (List.mem_append_left _ (List.mem_of_getElem? (i := 0) rfl)))))) rfl dX6_mark_1 ?_
  refine lv_iload_n hx hb dX6_mark_4 rfl (lv_at hl 1 rfl) ?_
  refine g_callVi 5 (C := RX1) (T := TX1) (N := 15) (As := [.int x1]) (rest := []) X hw hA (m_X1_setT l D cy q G x1 _ h) (by decide) rfl (cwV 1 hts gX6_mark_X1_setT rfl rfl rfl (by decide +kernel) ⟨Nat.le_of_ble_eq_true rfl, Nat.le_of_ble_eq_true rfl⟩) rfl hl.1 rfl (Nat.le_of_ble_eq_true rfl) dX6_mark_5 ⟨Nat.zero_le _, Nat.zero_le _⟩ (fun r_2 G_1 H locs h hw => ?_)
  refine lv_if_ne (tgt := 13) hx hb dX6_mark_8 (by decide) (fun c8_2 => ?_) (fun c8_2 => ?_)
  · have h := h.1 c8_2
    refine lv_aload_n hx hb dX6_mark_13 rfl (lv_at hl 0 rfl) ?_
    refine g_get 0 4 (v := .ref (q 5)) (C := RX6) (T := TX6) (N := 6) X hw (by decide) hinX6 rfl (by decide) (List.mem_cons_of_mem _ (List.mem_append_left _ (List.mem_append_left _ (List.mem_append_left _ (List.mem_append_left _ (List.mem_of_getElem? (i := 0) rfl)))))) rfl dX6_mark_14 ?_
    refine lv_aload_n hx hb dX6_mark_17 rfl (lv_at hl 0 rfl) ?_
    refine g_get 0 3 (v := .ref (q 4)) (C := RX6) (T := TX6) (N := 6) X hw (by decide) hinX6 rfl (by decide) (List.mem_cons_of_mem _ (List.mem_append_left _ (List.mem_append_left _ (List.mem_append_left _ (List.mem_append_left _ (List.mem_of_getElem? (i := 1) rfl)))))) rfl dX6_mark_18 ?_
    refine g_callVv 5 (C := RX1) (T := TX1) (N := 15) (As := [.ref (q 4)]) (rest := []) X hw hA (m_X1_settle l D cy q G_1 _ h) (by decide) rfl (cwV 1 hts gX6_mark_X1_settle rfl rfl rfl (by decide +kernel) ⟨Nat.le_of_ble_eq_true rfl, Nat.le_of_ble_eq_true rfl⟩) rfl hl.1 rfl (Nat.le_of_ble_eq_true rfl) dX6_mark_21 ⟨Nat.zero_le _, Nat.zero_le _⟩ (fun G_4 H locs h hw => ?_)
    refine lv_iconst (v := 1) hx hb dX6_mark_24 (by decide) ?_
    exact g_zret X hw hr hlk (by decide) h dX6_mark_25
  · have h := h.2 c8_2
    refine lv_iconst (v := 0) hx hb dX6_mark_11 (by decide) ?_
    exact g_zret X hw hr hlk (by decide) h dX6_mark_12

abbrev rmX6_resettle : Room := { frames := 4, cells := 0, slots := 0, locals := 91 }
def wp_X6_resettle (G : GS)  (post : Int32 → GS → Prop) : Prop :=
  wp_X1_partAll G (fun G_1 => wp_X1_settle G_1 (fun G_3 => wp_X1_howMany G_3 (fun r_6 G_5 => post r_6 G_5)))
set_option maxHeartbeats 4000000 in
set_option maxRecDepth 100000 in
theorem m_X6_resettle (l : Launch) (D : va_G) (cy : Nat → ClassId) (q : Nat → Nat) (G : GS)  (post : Int32 → GS → Prop) (h : wp_X6_resettle G  post) : gMi l yX6_resettle wsX6_resettle rmX6_resettle D cy q [.ref (q 0)] G post := by
  intro sz
  refine Met.ofW (cc := cX6_resettle) (maxL := 1) (ret := (some .int)) (by decide) rfl ?_
  intro p e s m args below meth c s₁ B hml hv
  obtain ⟨ha, hsz, X, hw, hA, hr, hlk⟩ := g_start B hml hv
  have hx := X.1.1
  have hb := X.1.2.1
  have hown := X.1.2.2.2.1
  have hts := X.1.2.2.2.2
  refine g_in ha (Nat.le_of_ble_eq_true rfl) (fun ls hl => ?_)
  have hl : lv_has ls 1 [(0, .ref (q 0))] := hl
  unfold wp_X6_resettle at h
  have hinX6 : ∀ w ∈ wsX60, w ∈ wsX6_resettle := fun _ h9 => (List.mem_cons_of_mem _ (List.mem_append_left _ (List.mem_append_left _ (List.mem_append_right _ h9))))
  refine lv_aload_n hx hb dX6_resettle_0 rfl (lv_at hl 0 rfl) ?_
  refine g_get 0 4 (v := .ref (q 5)) (C := RX6) (T := TX6) (N := 6) X hw (by decide) hinX6 rfl (by decide) (List.mem_cons_of_mem _ (List.mem_append_left _ (List.mem_append_left _ (List.mem_append_left _ (List.mem_append_left _ (List.mem_of_getElem? (i := 0) rfl)))))) rfl dX6_resettle_1 ?_
  refine g_callVv 5 (C := RX1) (T := TX1) (N := 15) (As := []) (rest := []) X hw hA (m_X1_partAll l D cy q G _ h) (by decide) rfl (cwV 0 hts gX6_resettle_X1_partAll rfl rfl rfl (by decide +kernel) ⟨Nat.le_of_ble_eq_true rfl, Nat.le_of_ble_eq_true rfl⟩) rfl hl.1 rfl (Nat.le_of_ble_eq_true rfl) dX6_resettle_4 ⟨Nat.zero_le _, Nat.zero_le _⟩ (fun G_1 H locs h hw => ?_)
  refine lv_aload_n hx hb dX6_resettle_7 rfl (lv_at hl 0 rfl) ?_
  refine g_get 0 4 (v := .ref (q 5)) (C := RX6) (T := TX6) (N := 6) X hw (by decide) hinX6 rfl (by decide) (List.mem_cons_of_mem _ (List.mem_append_left _ (List.mem_append_left _ (List.mem_append_left _ (List.mem_append_left _ (List.mem_of_getElem? (i := 0) rfl)))))) rfl dX6_resettle_8 ?_
  refine lv_aload_n hx hb dX6_resettle_11 rfl (lv_at hl 0 rfl) ?_
  refine g_get 0 3 (v := .ref (q 4)) (C := RX6) (T := TX6) (N := 6) X hw (by decide) hinX6 rfl (by decide) (List.mem_cons_of_mem _ (List.mem_append_left _ (List.mem_append_left _ (List.mem_append_left _ (List.mem_append_left _ (List.mem_of_getElem? (i := 1) rfl)))))) rfl dX6_resettle_12 ?_
  refine g_callVv 5 (C := RX1) (T := TX1) (N := 15) (As := [.ref (q 4)]) (rest := []) X hw hA (m_X1_settle l D cy q G_1 _ h) (by decide) rfl (cwV 1 hts gX6_resettle_X1_settle rfl rfl rfl (by decide +kernel) ⟨Nat.le_of_ble_eq_true rfl, Nat.le_of_ble_eq_true rfl⟩) rfl hl.1 rfl (Nat.le_of_ble_eq_true rfl) dX6_resettle_15 ⟨Nat.zero_le _, Nat.zero_le _⟩ (fun G_3 H locs h hw => ?_)
  refine lv_aload_n hx hb dX6_resettle_18 rfl (lv_at hl 0 rfl) ?_
  refine g_get 0 4 (v := .ref (q 5)) (C := RX6) (T := TX6) (N := 6) X hw (by decide) hinX6 rfl (by decide) (List.mem_cons_of_mem _ (List.mem_append_left _ (List.mem_append_left _ (List.mem_append_left _ (List.mem_append_left _ (List.mem_of_getElem? (i := 0) rfl)))))) rfl dX6_resettle_19 ?_
  refine g_callVi 5 (C := RX1) (T := TX1) (N := 15) (As := []) (rest := []) X hw hA (m_X1_howMany l D cy q G_3 _ h) (by decide) rfl (cwV 0 hts gX6_resettle_X1_howMany rfl rfl rfl (by decide +kernel) ⟨Nat.le_of_ble_eq_true rfl, Nat.le_of_ble_eq_true rfl⟩) rfl hl.1 rfl (Nat.le_of_ble_eq_true rfl) dX6_resettle_22 ⟨Nat.zero_le _, Nat.zero_le _⟩ (fun r_6 G_5 H locs h hw => ?_)
  exact g_iret X hw hr hlk h dX6_resettle_25

abbrev rmX6_distance : Room := { frames := 1, cells := 0, slots := 0, locals := 22 }
def wp_X6_distance (G : GS) (x1 : Int32) (x2 : Int32) (post : Int32 → GS → Prop) : Prop :=
  wp_X3_has G x1 (fun r_2 G_1 => (r_2 = 0 → (post (-1) G_1)) ∧ (¬ (r_2 = 0) → (wp_X3_has G_1 x2 (fun r_5 G_4 => (r_5 = 0 → (post (-1) G_4)) ∧ (¬ (r_5 = 0) → (wp_X0_between G_4 x1 x2 (fun r_8 G_7 => post r_8 G_7)))))))
set_option maxHeartbeats 4000000 in
set_option maxRecDepth 100000 in
theorem m_X6_distance (l : Launch) (D : va_G) (cy : Nat → ClassId) (q : Nat → Nat) (G : GS) (x1 : Int32) (x2 : Int32) (post : Int32 → GS → Prop) (h : wp_X6_distance G x1 x2 post) : gMi l yX6_distance wsX6_distance rmX6_distance D cy q [.ref (q 0), .int x1, .int x2] G post := by
  intro sz
  refine Met.ofW (cc := cX6_distance) (maxL := 3) (ret := (some .int)) (by decide) rfl ?_
  intro p e s m args below meth c s₁ B hml hv
  obtain ⟨ha, hsz, X, hw, hA, hr, hlk⟩ := g_start B hml hv
  have hx := X.1.1
  have hb := X.1.2.1
  have hown := X.1.2.2.2.1
  have hts := X.1.2.2.2.2
  refine g_in ha (Nat.le_of_ble_eq_true rfl) (fun ls hl => ?_)
  have hl : lv_has ls 3 [(0, .ref (q 0)), (1, .int x1), (2, .int x2)] := hl
  unfold wp_X6_distance at h
  have hinX6 : ∀ w ∈ wsX60, w ∈ wsX6_distance := fun _ h9 => (List.mem_cons_of_mem _ (List.mem_append_left _ (List.mem_append_left _ (List.mem_append_right _ h9))))
  refine lv_aload_n hx hb dX6_distance_0 rfl (lv_at hl 0 rfl) ?_
  refine g_get 0 2 (v := .ref (q 3)) (C := RX6) (T := TX6) (N := 6) X hw (by decide) hinX6 rfl (by decide) (List.mem_cons_of_mem _ (List.mem_append_left _ (List.mem_append_left _ (List.mem_append_left _ (List.mem_of_getElem? (i := 0) rfl))))) rfl dX6_distance_1 ?_
  refine lv_iload_n hx hb dX6_distance_4 rfl (lv_at hl 1 rfl) ?_
  refine g_callVi 3 (C := RX3) (T := TX3) (N := 6) (As := [.int x1]) (rest := []) X hw hA (m_X3_has l D cy q G x1 _ h) (by decide) rfl (cwV 1 hts gX6_distance_X3_has rfl rfl rfl (by decide +kernel) ⟨Nat.le_of_ble_eq_true rfl, Nat.le_of_ble_eq_true rfl⟩) rfl hl.1 rfl (Nat.le_of_ble_eq_true rfl) dX6_distance_5 ⟨Nat.zero_le _, Nat.zero_le _⟩ (fun r_2 G_1 H locs h hw => ?_)
  refine lv_if_eq (tgt := 34) hx hb dX6_distance_8 (by decide) (fun c8_2 => ?_) (fun c8_2 => ?_)
  · have h := h.1 c8_2
    refine lv_iconst (v := (-1)) hx hb dX6_distance_34 (by decide) ?_
    exact g_iret X hw hr hlk h dX6_distance_35
  · have h := h.2 c8_2
    refine lv_aload_n hx hb dX6_distance_11 rfl (lv_at hl 0 rfl) ?_
    refine g_get 0 2 (v := .ref (q 3)) (C := RX6) (T := TX6) (N := 6) X hw (by decide) hinX6 rfl (by decide) (List.mem_cons_of_mem _ (List.mem_append_left _ (List.mem_append_left _ (List.mem_append_left _ (List.mem_of_getElem? (i := 0) rfl))))) rfl dX6_distance_12 ?_
    refine lv_iload_n hx hb dX6_distance_15 rfl (lv_at hl 2 rfl) ?_
    refine g_callVi 3 (C := RX3) (T := TX3) (N := 6) (As := [.int x2]) (rest := []) X hw hA (m_X3_has l D cy q G_1 x2 _ h) (by decide) rfl (cwV 1 hts gX6_distance_X3_has rfl rfl rfl (by decide +kernel) ⟨Nat.le_of_ble_eq_true rfl, Nat.le_of_ble_eq_true rfl⟩) rfl hl.1 rfl (Nat.le_of_ble_eq_true rfl) dX6_distance_16 ⟨Nat.zero_le _, Nat.zero_le _⟩ (fun r_5 G_4 H locs h hw => ?_)
    refine lv_if_eq (tgt := 34) hx hb dX6_distance_19 (by decide) (fun c19_5 => ?_) (fun c19_5 => ?_)
    · have h := h.1 c19_5
      refine lv_iconst (v := (-1)) hx hb dX6_distance_34 (by decide) ?_
      exact g_iret X hw hr hlk h dX6_distance_35
    · have h := h.2 c19_5
      refine lv_aload_n hx hb dX6_distance_22 rfl (lv_at hl 0 rfl) ?_
      refine g_get 0 3 (v := .ref (q 4)) (C := RX6) (T := TX6) (N := 6) X hw (by decide) hinX6 rfl (by decide) (List.mem_cons_of_mem _ (List.mem_append_left _ (List.mem_append_left _ (List.mem_append_left _ (List.mem_of_getElem? (i := 1) rfl))))) rfl dX6_distance_23 ?_
      refine lv_iload_n hx hb dX6_distance_26 rfl (lv_at hl 1 rfl) ?_
      refine lv_iload_n hx hb dX6_distance_27 rfl (lv_at hl 2 rfl) ?_
      refine g_callVi 4 (C := RX0) (T := TX0) (N := 5) (As := [.int x1, .int x2]) (rest := []) X hw hA (m_X0_between l D cy q G_4 x1 x2 _ h) (by decide) rfl (cwV 2 hts gX6_distance_X0_between rfl rfl rfl (by decide +kernel) ⟨Nat.le_of_ble_eq_true rfl, Nat.le_of_ble_eq_true rfl⟩) rfl hl.1 rfl (Nat.le_of_ble_eq_true rfl) dX6_distance_28 ⟨Nat.zero_le _, Nat.zero_le _⟩ (fun r_8 G_7 H locs h hw => ?_)
      refine lv_goto (tgt := 35) hx hb dX6_distance_31 (by decide) ?_
      exact g_iret X hw hr hlk h dX6_distance_35

abbrev rmX6_heap : Room := { frames := 1, cells := 0, slots := 0, locals := 21 }
def wp_X6_heap (G : GS) (x1 : Int32) (post : Int32 → GS → Prop) : Prop :=
  wp_X3_has G x1 (fun r_2 G_1 => (r_2 = 0 → (post (-1) G_1)) ∧ (¬ (r_2 = 0) → (wp_X1_leastBeside G_1 x1 (fun r_5 G_4 => post r_5 G_4))))
set_option maxHeartbeats 4000000 in
set_option maxRecDepth 100000 in
theorem m_X6_heap (l : Launch) (D : va_G) (cy : Nat → ClassId) (q : Nat → Nat) (G : GS) (x1 : Int32) (post : Int32 → GS → Prop) (h : wp_X6_heap G x1 post) : gMi l yX6_heap wsX6_heap rmX6_heap D cy q [.ref (q 0), .int x1] G post := by
  intro sz
  refine Met.ofW (cc := cX6_heap) (maxL := 2) (ret := (some .int)) (by decide) rfl ?_
  intro p e s m args below meth c s₁ B hml hv
  obtain ⟨ha, hsz, X, hw, hA, hr, hlk⟩ := g_start B hml hv
  have hx := X.1.1
  have hb := X.1.2.1
  have hown := X.1.2.2.2.1
  have hts := X.1.2.2.2.2
  refine g_in ha (Nat.le_of_ble_eq_true rfl) (fun ls hl => ?_)
  have hl : lv_has ls 2 [(0, .ref (q 0)), (1, .int x1)] := hl
  unfold wp_X6_heap at h
  have hinX6 : ∀ w ∈ wsX60, w ∈ wsX6_heap := fun _ h9 => (List.mem_cons_of_mem _ (List.mem_append_left _ (List.mem_append_left _ (List.mem_append_right _ h9))))
  refine lv_aload_n hx hb dX6_heap_0 rfl (lv_at hl 0 rfl) ?_
  refine g_get 0 2 (v := .ref (q 3)) (C := RX6) (T := TX6) (N := 6) X hw (by decide) hinX6 rfl (by decide) (List.mem_cons_of_mem _ (List.mem_append_left _ (List.mem_append_left _ (List.mem_append_left _ (List.mem_of_getElem? (i := 0) rfl))))) rfl dX6_heap_1 ?_
  refine lv_iload_n hx hb dX6_heap_4 rfl (lv_at hl 1 rfl) ?_
  refine g_callVi 3 (C := RX3) (T := TX3) (N := 6) (As := [.int x1]) (rest := []) X hw hA (m_X3_has l D cy q G x1 _ h) (by decide) rfl (cwV 1 hts gX6_heap_X3_has rfl rfl rfl (by decide +kernel) ⟨Nat.le_of_ble_eq_true rfl, Nat.le_of_ble_eq_true rfl⟩) rfl hl.1 rfl (Nat.le_of_ble_eq_true rfl) dX6_heap_5 ⟨Nat.zero_le _, Nat.zero_le _⟩ (fun r_2 G_1 H locs h hw => ?_)
  refine lv_if_eq (tgt := 22) hx hb dX6_heap_8 (by decide) (fun c8_2 => ?_) (fun c8_2 => ?_)
  · have h := h.1 c8_2
    refine lv_iconst (v := (-1)) hx hb dX6_heap_22 (by decide) ?_
    exact g_iret X hw hr hlk h dX6_heap_23
  · have h := h.2 c8_2
    refine lv_aload_n hx hb dX6_heap_11 rfl (lv_at hl 0 rfl) ?_
    refine g_get 0 4 (v := .ref (q 5)) (C := RX6) (T := TX6) (N := 6) X hw (by decide) hinX6 rfl (by decide) (List.mem_cons_of_mem _ (List.mem_append_left _ (List.mem_append_left _ (List.mem_append_left _ (List.mem_of_getElem? (i := 1) rfl))))) rfl dX6_heap_12 ?_
    refine lv_iload_n hx hb dX6_heap_15 rfl (lv_at hl 1 rfl) ?_
    refine g_callVi 5 (C := RX1) (T := TX1) (N := 15) (As := [.int x1]) (rest := []) X hw hA (m_X1_leastBeside l D cy q G_1 x1 _ h) (by decide) rfl (cwV 1 hts gX6_heap_X1_leastBeside rfl rfl rfl (by decide +kernel) ⟨Nat.le_of_ble_eq_true rfl, Nat.le_of_ble_eq_true rfl⟩) rfl hl.1 rfl (Nat.le_of_ble_eq_true rfl) dX6_heap_16 ⟨Nat.zero_le _, Nat.zero_le _⟩ (fun r_5 G_4 H locs h hw => ?_)
    refine lv_goto (tgt := 23) hx hb dX6_heap_19 (by decide) ?_
    exact g_iret X hw hr hlk h dX6_heap_23

abbrev rmX6_cost : Room := { frames := 3, cells := 0, slots := 0, locals := 71 }
def wp_X6_cost (G : GS) (x1 : Int32) (x2 : Int32) (post : Int32 → GS → Prop) : Prop :=
  (¬ x2 = (-1) → (wp_X3_hasTwo G x1 x2 (fun r_3 G_2 => (r_3 = 0 → (post (-1) G_2)) ∧ (¬ (r_3 = 0) → (wp_X1_costOfPair G_2 x1 x2 (fun r_6 G_5 => post r_6 G_5)))))) ∧ (x2 = (-1) → (wp_X1_costOfAll G (fun r_8 G_7 => post r_8 G_7)))
set_option maxHeartbeats 4000000 in
set_option maxRecDepth 100000 in
theorem m_X6_cost (l : Launch) (D : va_G) (cy : Nat → ClassId) (q : Nat → Nat) (G : GS) (x1 : Int32) (x2 : Int32) (post : Int32 → GS → Prop) (h : wp_X6_cost G x1 x2 post) : gMi l yX6_cost wsX6_cost rmX6_cost D cy q [.ref (q 0), .int x1, .int x2] G post := by
  intro sz
  refine Met.ofW (cc := cX6_cost) (maxL := 3) (ret := (some .int)) (by decide) rfl ?_
  intro p e s m args below meth c s₁ B hml hv
  obtain ⟨ha, hsz, X, hw, hA, hr, hlk⟩ := g_start B hml hv
  have hx := X.1.1
  have hb := X.1.2.1
  have hown := X.1.2.2.2.1
  have hts := X.1.2.2.2.2
  refine g_in ha (Nat.le_of_ble_eq_true rfl) (fun ls hl => ?_)
  have hl : lv_has ls 3 [(0, .ref (q 0)), (1, .int x1), (2, .int x2)] := hl
  unfold wp_X6_cost at h
  have hinX6 : ∀ w ∈ wsX60, w ∈ wsX6_cost := fun _ h9 => (List.mem_cons_of_mem _ (List.mem_append_left _ (List.mem_append_left _ (List.mem_append_left _ (List.mem_append_right _ h9)))))
  refine lv_iload_n hx hb dX6_cost_0 rfl (lv_at hl 2 rfl) ?_
  refine lv_iconst (v := (-1)) hx hb dX6_cost_1 (by decide) ?_
  refine lv_icmp_ne (tgt := 17) hx hb dX6_cost_2 (by decide) (fun c2_0 => ?_) (fun c2_0 => ?_)
  · have h := h.1 c2_0
    refine lv_aload_n hx hb dX6_cost_17 rfl (lv_at hl 0 rfl) ?_
    refine g_get 0 2 (v := .ref (q 3)) (C := RX6) (T := TX6) (N := 6) X hw (by decide) hinX6 rfl (by decide) (List.mem_cons_of_mem _ (List.mem_append_left _ (List.mem_append_left _ (List.mem_append_left _ (List.mem_append_left _ (List.mem_append_left _ (List.mem_of_getElem? (i := 2) rfl))))))) rfl dX6_cost_18 ?_
    refine lv_iload_n hx hb dX6_cost_21 rfl (lv_at hl 1 rfl) ?_
    refine lv_iload_n hx hb dX6_cost_22 rfl (lv_at hl 2 rfl) ?_
    refine g_callVi 3 (C := RX3) (T := TX3) (N := 6) (As := [.int x1, .int x2]) (rest := []) X hw hA (m_X3_hasTwo l D cy q G x1 x2 _ h) (by decide) rfl (cwV 2 hts gX6_cost_X3_hasTwo rfl rfl rfl (by decide +kernel) ⟨Nat.le_of_ble_eq_true rfl, Nat.le_of_ble_eq_true rfl⟩) rfl hl.1 rfl (Nat.le_of_ble_eq_true rfl) dX6_cost_23 ⟨Nat.zero_le _, Nat.zero_le _⟩ (fun r_3 G_2 H locs h hw => ?_)
    refine lv_if_eq (tgt := 45) hx hb dX6_cost_26 (by decide) (fun c26_3 => ?_) (fun c26_3 => ?_)
    · have h := h.1 c26_3
      refine lv_iconst (v := (-1)) hx hb dX6_cost_45 (by decide) ?_
      exact g_iret X hw hr hlk h dX6_cost_46
    · have h := h.2 c26_3
      refine lv_aload_n hx hb dX6_cost_29 rfl (lv_at hl 0 rfl) ?_
      refine g_get 0 4 (v := .ref (q 5)) (C := RX6) (T := TX6) (N := 6) X hw (by decide) hinX6 rfl (by decide) (List.mem_cons_of_mem _ (List.mem_append_left _ (List.mem_append_left _ (List.mem_append_left _ (List.mem_append_left _ (List.mem_append_left _ (List.mem_of_getElem? (i := 0) rfl))))))) rfl dX6_cost_30 ?_
      refine lv_iload_n hx hb dX6_cost_33 rfl (lv_at hl 1 rfl) ?_
      refine lv_iload_n hx hb dX6_cost_34 rfl (lv_at hl 2 rfl) ?_
      refine lv_aload_n hx hb dX6_cost_35 rfl (lv_at hl 0 rfl) ?_
      refine g_get 0 3 (v := .ref (q 4)) (C := RX6) (T := TX6) (N := 6) X hw (by decide) hinX6 rfl (by decide) (List.mem_cons_of_mem _ (List.mem_append_left _ (List.mem_append_left _ (List.mem_append_left _ (List.mem_append_left _ (List.mem_append_left _ (List.mem_of_getElem? (i := 1) rfl))))))) rfl dX6_cost_36 ?_
      refine g_callVi 5 (C := RX1) (T := TX1) (N := 15) (As := [.int x1, .int x2, .ref (q 4)]) (rest := []) X hw hA (m_X1_costOfPair l D cy q G_2 x1 x2 _ h) (by decide) rfl (cwV 3 hts gX6_cost_X1_costOfPair rfl rfl rfl (by decide +kernel) ⟨Nat.le_of_ble_eq_true rfl, Nat.le_of_ble_eq_true rfl⟩) rfl hl.1 rfl (Nat.le_of_ble_eq_true rfl) dX6_cost_39 ⟨Nat.zero_le _, Nat.zero_le _⟩ (fun r_6 G_5 H locs h hw => ?_)
      refine lv_goto (tgt := 46) hx hb dX6_cost_42 (by decide) ?_
      exact g_iret X hw hr hlk h dX6_cost_46
  · have h := h.2 c2_0
    refine lv_aload_n hx hb dX6_cost_5 rfl (lv_at hl 0 rfl) ?_
    refine g_get 0 4 (v := .ref (q 5)) (C := RX6) (T := TX6) (N := 6) X hw (by decide) hinX6 rfl (by decide) (List.mem_cons_of_mem _ (List.mem_append_left _ (List.mem_append_left _ (List.mem_append_left _ (List.mem_append_left _ (List.mem_append_left _ (List.mem_of_getElem? (i := 0) rfl))))))) rfl dX6_cost_6 ?_
    refine lv_aload_n hx hb dX6_cost_9 rfl (lv_at hl 0 rfl) ?_
    refine g_get 0 3 (v := .ref (q 4)) (C := RX6) (T := TX6) (N := 6) X hw (by decide) hinX6 rfl (by decide) (List.mem_cons_of_mem _ (List.mem_append_left _ (List.mem_append_left _ (List.mem_append_left _ (List.mem_append_left _ (List.mem_append_left _ (List.mem_of_getElem? (i := 1) rfl))))))) rfl dX6_cost_10 ?_
    refine g_callVi 5 (C := RX1) (T := TX1) (N := 15) (As := [.ref (q 4)]) (rest := []) X hw hA (m_X1_costOfAll l D cy q G _ h) (by decide) rfl (cwV 1 hts gX6_cost_X1_costOfAll rfl rfl rfl (by decide +kernel) ⟨Nat.le_of_ble_eq_true rfl, Nat.le_of_ble_eq_true rfl⟩) rfl hl.1 rfl (Nat.le_of_ble_eq_true rfl) dX6_cost_13 ⟨Nat.zero_le _, Nat.zero_le _⟩ (fun r_8 G_7 H locs h hw => ?_)
    exact g_iret X hw hr hlk h dX6_cost_16

abbrev rmX6_row : Room := { frames := 2, cells := 0, slots := 0, locals := 43 }
def wp_X6_row (G : GS) (x1 : Int32) (x2 : Int32) (post : Int32 → GS → Prop) : Prop :=
  wp_X3_hasFrame G x1 x2 (fun r_2 G_1 => (r_2 = 0 → (post (-1) G_1)) ∧ (¬ (r_2 = 0) → (wp_X3_frameAt G_1 x1 x2 (fun r_5 G_4 => post r_5 G_4))))
set_option maxHeartbeats 4000000 in
set_option maxRecDepth 100000 in
theorem m_X6_row (l : Launch) (D : va_G) (cy : Nat → ClassId) (q : Nat → Nat) (G : GS) (x1 : Int32) (x2 : Int32) (post : Int32 → GS → Prop) (h : wp_X6_row G x1 x2 post) : gMi l yX6_row wsX6_row rmX6_row D cy q [.ref (q 0), .int x1, .int x2] G post := by
  intro sz
  refine Met.ofW (cc := cX6_row) (maxL := 3) (ret := (some .int)) (by decide) rfl ?_
  intro p e s m args below meth c s₁ B hml hv
  obtain ⟨ha, hsz, X, hw, hA, hr, hlk⟩ := g_start B hml hv
  have hx := X.1.1
  have hb := X.1.2.1
  have hown := X.1.2.2.2.1
  have hts := X.1.2.2.2.2
  refine g_in ha (Nat.le_of_ble_eq_true rfl) (fun ls hl => ?_)
  have hl : lv_has ls 3 [(0, .ref (q 0)), (1, .int x1), (2, .int x2)] := hl
  unfold wp_X6_row at h
  have hinX6 : ∀ w ∈ wsX60, w ∈ wsX6_row := fun _ h9 => (List.mem_cons_of_mem _ (List.mem_append_left _ (List.mem_append_right _ h9)))
  refine lv_aload_n hx hb dX6_row_0 rfl (lv_at hl 0 rfl) ?_
  refine g_get 0 2 (v := .ref (q 3)) (C := RX6) (T := TX6) (N := 6) X hw (by decide) hinX6 rfl (by decide) (List.mem_cons_of_mem _ (List.mem_append_left _ (List.mem_append_left _ (List.mem_of_getElem? (i := 0) rfl)))) rfl dX6_row_1 ?_
  refine lv_iload_n hx hb dX6_row_4 rfl (lv_at hl 1 rfl) ?_
  refine lv_iload_n hx hb dX6_row_5 rfl (lv_at hl 2 rfl) ?_
  refine g_callVi 3 (C := RX3) (T := TX3) (N := 6) (As := [.int x1, .int x2]) (rest := []) X hw hA (m_X3_hasFrame l D cy q G x1 x2 _ h) (by decide) rfl (cwV 2 hts gX6_row_X3_hasFrame rfl rfl rfl (by decide +kernel) ⟨Nat.le_of_ble_eq_true rfl, Nat.le_of_ble_eq_true rfl⟩) rfl hl.1 rfl (Nat.le_of_ble_eq_true rfl) dX6_row_6 ⟨Nat.zero_le _, Nat.zero_le _⟩ (fun r_2 G_1 H locs h hw => ?_)
  refine lv_if_eq (tgt := 24) hx hb dX6_row_9 (by decide) (fun c9_2 => ?_) (fun c9_2 => ?_)
  · have h := h.1 c9_2
    refine lv_iconst (v := (-1)) hx hb dX6_row_24 (by decide) ?_
    exact g_iret X hw hr hlk h dX6_row_25
  · have h := h.2 c9_2
    refine lv_aload_n hx hb dX6_row_12 rfl (lv_at hl 0 rfl) ?_
    refine g_get 0 2 (v := .ref (q 3)) (C := RX6) (T := TX6) (N := 6) X hw (by decide) hinX6 rfl (by decide) (List.mem_cons_of_mem _ (List.mem_append_left _ (List.mem_append_left _ (List.mem_of_getElem? (i := 0) rfl)))) rfl dX6_row_13 ?_
    refine lv_iload_n hx hb dX6_row_16 rfl (lv_at hl 1 rfl) ?_
    refine lv_iload_n hx hb dX6_row_17 rfl (lv_at hl 2 rfl) ?_
    refine g_callVi 3 (C := RX3) (T := TX3) (N := 6) (As := [.int x1, .int x2]) (rest := []) X hw hA (m_X3_frameAt l D cy q G_1 x1 x2 _ h) (by decide) rfl (cwV 2 hts gX6_row_X3_frameAt rfl rfl rfl (by decide +kernel) ⟨Nat.le_of_ble_eq_true rfl, Nat.le_of_ble_eq_true rfl⟩) rfl hl.1 rfl (Nat.le_of_ble_eq_true rfl) dX6_row_18 ⟨Nat.zero_le _, Nat.zero_le _⟩ (fun r_5 G_4 H locs h hw => ?_)
    refine lv_goto (tgt := 25) hx hb dX6_row_21 (by decide) ?_
    exact g_iret X hw hr hlk h dX6_row_25

abbrev rmX6_common : Room := { frames := 2, cells := 0, slots := 0, locals := 42 }
def wp_X6_common (G : GS) (x1 : Int32) (post : Int32 → GS → Prop) : Prop :=
  wp_X3_isCommon G x1 (fun r_2 G_1 => (r_2 = 0 → (post 0 G_1)) ∧ (¬ (r_2 = 0) → (post 1 G_1)))
set_option maxHeartbeats 4000000 in
set_option maxRecDepth 100000 in
theorem m_X6_common (l : Launch) (D : va_G) (cy : Nat → ClassId) (q : Nat → Nat) (G : GS) (x1 : Int32) (post : Int32 → GS → Prop) (h : wp_X6_common G x1 post) : gMi l yX6_common wsX6_common rmX6_common D cy q [.ref (q 0), .int x1] G post := by
  intro sz
  refine Met.ofW (cc := cX6_common) (maxL := 2) (ret := (some .int)) (by decide) rfl ?_
  intro p e s m args below meth c s₁ B hml hv
  obtain ⟨ha, hsz, X, hw, hA, hr, hlk⟩ := g_start B hml hv
  have hx := X.1.1
  have hb := X.1.2.1
  have hown := X.1.2.2.2.1
  have hts := X.1.2.2.2.2
  refine g_in ha (Nat.le_of_ble_eq_true rfl) (fun ls hl => ?_)
  have hl : lv_has ls 2 [(0, .ref (q 0)), (1, .int x1)] := hl
  unfold wp_X6_common at h
  have hinX6 : ∀ w ∈ wsX60, w ∈ wsX6_common := fun _ h9 => (List.mem_cons_of_mem _ (List.mem_append_left _ (List.mem_append_right _ h9)))
  refine lv_aload_n hx hb dX6_common_0 rfl (lv_at hl 0 rfl) ?_
  refine g_get 0 2 (v := .ref (q 3)) (C := RX6) (T := TX6) (N := 6) X hw (by decide) hinX6 rfl (by decide) (List.mem_cons_of_mem _ (List.mem_append_left _ (List.mem_append_left _ (List.mem_of_getElem? (i := 0) rfl)))) rfl dX6_common_1 ?_
  refine lv_iload_n hx hb dX6_common_4 rfl (lv_at hl 1 rfl) ?_
  refine g_callVi 3 (C := RX3) (T := TX3) (N := 6) (As := [.int x1]) (rest := []) X hw hA (m_X3_isCommon l D cy q G x1 _ h) (by decide) rfl (cwV 1 hts gX6_common_X3_isCommon rfl rfl rfl (by decide +kernel) ⟨Nat.le_of_ble_eq_true rfl, Nat.le_of_ble_eq_true rfl⟩) rfl hl.1 rfl (Nat.le_of_ble_eq_true rfl) dX6_common_5 ⟨Nat.zero_le _, Nat.zero_le _⟩ (fun r_2 G_1 H locs h hw => ?_)
  refine lv_if_eq (tgt := 15) hx hb dX6_common_8 (by decide) (fun c8_2 => ?_) (fun c8_2 => ?_)
  · have h := h.1 c8_2
    refine lv_iconst (v := 0) hx hb dX6_common_15 (by decide) ?_
    exact g_iret X hw hr hlk h dX6_common_16
  · have h := h.2 c8_2
    refine lv_iconst (v := 1) hx hb dX6_common_11 (by decide) ?_
    refine lv_goto (tgt := 16) hx hb dX6_common_12 (by decide) ?_
    exact g_iret X hw hr hlk h dX6_common_16

abbrev rmX6_sign : Room := { frames := 3, cells := 0, slots := 0, locals := 72 }
def wp_X6_sign (G : GS) (x1 : Int32) (post : Int32 → GS → Prop) : Prop :=
  wp_X3_has G x1 (fun r_2 G_1 => (r_2 = 0 → (post (-1) G_1)) ∧ (¬ (r_2 = 0) → (wp_X1_setBeside G_1 x1 (fun r_5 G_4 => wp_X2_tell G_4 r_5 (fun r_7 G_6 => post r_7 G_6)))))
set_option maxHeartbeats 4000000 in
set_option maxRecDepth 100000 in
theorem m_X6_sign (l : Launch) (D : va_G) (cy : Nat → ClassId) (q : Nat → Nat) (G : GS) (x1 : Int32) (post : Int32 → GS → Prop) (h : wp_X6_sign G x1 post) : gMi l yX6_sign wsX6_sign rmX6_sign D cy q [.ref (q 0), .int x1] G post := by
  intro sz
  refine Met.ofW (cc := cX6_sign) (maxL := 2) (ret := (some .int)) (by decide) rfl ?_
  intro p e s m args below meth c s₁ B hml hv
  obtain ⟨ha, hsz, X, hw, hA, hr, hlk⟩ := g_start B hml hv
  have hx := X.1.1
  have hb := X.1.2.1
  have hown := X.1.2.2.2.1
  have hts := X.1.2.2.2.2
  refine g_in ha (Nat.le_of_ble_eq_true rfl) (fun ls hl => ?_)
  have hl : lv_has ls 2 [(0, .ref (q 0)), (1, .int x1)] := hl
  unfold wp_X6_sign at h
  have hinX6 : ∀ w ∈ wsX60, w ∈ wsX6_sign := fun _ h9 => (List.mem_cons_of_mem _ (List.mem_append_left _ (List.mem_append_left _ (List.mem_append_left _ (List.mem_append_right _ h9)))))
  refine lv_aload_n hx hb dX6_sign_0 rfl (lv_at hl 0 rfl) ?_
  refine g_get 0 2 (v := .ref (q 3)) (C := RX6) (T := TX6) (N := 6) X hw (by decide) hinX6 rfl (by decide) (List.mem_cons_of_mem _ (List.mem_append_left _ (List.mem_append_left _ (List.mem_append_left _ (List.mem_append_left _ (List.mem_append_left _ (List.mem_of_getElem? (i := 0) rfl))))))) rfl dX6_sign_1 ?_
  refine lv_iload_n hx hb dX6_sign_4 rfl (lv_at hl 1 rfl) ?_
  refine g_callVi 3 (C := RX3) (T := TX3) (N := 6) (As := [.int x1]) (rest := []) X hw hA (m_X3_has l D cy q G x1 _ h) (by decide) rfl (cwV 1 hts gX6_sign_X3_has rfl rfl rfl (by decide +kernel) ⟨Nat.le_of_ble_eq_true rfl, Nat.le_of_ble_eq_true rfl⟩) rfl hl.1 rfl (Nat.le_of_ble_eq_true rfl) dX6_sign_5 ⟨Nat.zero_le _, Nat.zero_le _⟩ (fun r_2 G_1 H locs h hw => ?_)
  refine lv_if_eq (tgt := 33) hx hb dX6_sign_8 (by decide) (fun c8_2 => ?_) (fun c8_2 => ?_)
  · have h := h.1 c8_2
    refine lv_iconst (v := (-1)) hx hb dX6_sign_33 (by decide) ?_
    exact g_iret X hw hr hlk h dX6_sign_34
  · have h := h.2 c8_2
    refine lv_aload_n hx hb dX6_sign_11 rfl (lv_at hl 0 rfl) ?_
    refine g_get 0 5 (v := .ref (q 6)) (C := RX6) (T := TX6) (N := 6) X hw (by decide) hinX6 rfl (by decide) (List.mem_cons_of_mem _ (List.mem_append_left _ (List.mem_append_left _ (List.mem_append_left _ (List.mem_append_left _ (List.mem_append_left _ (List.mem_of_getElem? (i := 1) rfl))))))) rfl dX6_sign_12 ?_
    refine lv_aload_n hx hb dX6_sign_15 rfl (lv_at hl 0 rfl) ?_
    refine g_get 0 2 (v := .ref (q 3)) (C := RX6) (T := TX6) (N := 6) X hw (by decide) hinX6 rfl (by decide) (List.mem_cons_of_mem _ (List.mem_append_left _ (List.mem_append_left _ (List.mem_append_left _ (List.mem_append_left _ (List.mem_append_left _ (List.mem_of_getElem? (i := 0) rfl))))))) rfl dX6_sign_16 ?_
    refine lv_aload_n hx hb dX6_sign_19 rfl (lv_at hl 0 rfl) ?_
    refine g_get 0 4 (v := .ref (q 5)) (C := RX6) (T := TX6) (N := 6) X hw (by decide) hinX6 rfl (by decide) (List.mem_cons_of_mem _ (List.mem_append_left _ (List.mem_append_left _ (List.mem_append_left _ (List.mem_append_left _ (List.mem_append_left _ (List.mem_of_getElem? (i := 2) rfl))))))) rfl dX6_sign_20 ?_
    refine lv_iload_n hx hb dX6_sign_23 rfl (lv_at hl 1 rfl) ?_
    refine g_callVl 5 (C := RX1) (T := TX1) (N := 15) (As := [.int x1]) (rest := [.ref (q 3), .ref (q 6)]) X hw hA (m_X1_setBeside l D cy q G_1 x1 _ h) (by decide) rfl (cwV 1 hts gX6_sign_X1_setBeside rfl rfl rfl (by decide +kernel) ⟨Nat.le_of_ble_eq_true rfl, Nat.le_of_ble_eq_true rfl⟩) rfl hl.1 rfl (Nat.le_of_ble_eq_true rfl) dX6_sign_24 ⟨Nat.zero_le _, Nat.zero_le _⟩ (fun r_5 G_4 H locs h hw => ?_)
    refine g_callVi 6 (C := RX2) (T := TX2) (N := 5) (As := [.ref (q 3), .long r_5]) (rest := []) X hw hA (m_X2_tell l D cy q G_4 r_5 _ h) (by decide) rfl (cwV 2 hts gX6_sign_X2_tell rfl rfl rfl (by decide +kernel) ⟨Nat.le_of_ble_eq_true rfl, Nat.le_of_ble_eq_true rfl⟩) rfl hl.1 rfl (Nat.le_of_ble_eq_true rfl) dX6_sign_27 ⟨Nat.zero_le _, Nat.zero_le _⟩ (fun r_7 G_6 H locs h hw => ?_)
    refine lv_goto (tgt := 34) hx hb dX6_sign_30 (by decide) ?_
    exact g_iret X hw hr hlk h dX6_sign_34

abbrev rmX6_signed : Room := { frames := 1, cells := 0, slots := 0, locals := 21 }
def wp_X6_signed (G : GS) (x1 : Int32) (post : Int32 → GS → Prop) : Prop :=
  wp_X2_latestAt G x1 (fun r_2 G_1 => post r_2 G_1)
set_option maxHeartbeats 4000000 in
set_option maxRecDepth 100000 in
theorem m_X6_signed (l : Launch) (D : va_G) (cy : Nat → ClassId) (q : Nat → Nat) (G : GS) (x1 : Int32) (post : Int32 → GS → Prop) (h : wp_X6_signed G x1 post) : gMi l yX6_signed wsX6_signed rmX6_signed D cy q [.ref (q 0), .int x1] G post := by
  intro sz
  refine Met.ofW (cc := cX6_signed) (maxL := 2) (ret := (some .int)) (by decide) rfl ?_
  intro p e s m args below meth c s₁ B hml hv
  obtain ⟨ha, hsz, X, hw, hA, hr, hlk⟩ := g_start B hml hv
  have hx := X.1.1
  have hb := X.1.2.1
  have hown := X.1.2.2.2.1
  have hts := X.1.2.2.2.2
  refine g_in ha (Nat.le_of_ble_eq_true rfl) (fun ls hl => ?_)
  have hl : lv_has ls 2 [(0, .ref (q 0)), (1, .int x1)] := hl
  unfold wp_X6_signed at h
  have hinX6 : ∀ w ∈ wsX60, w ∈ wsX6_signed := fun _ h9 => (List.mem_cons_of_mem _ (List.mem_append_left _ (List.mem_append_right _ h9)))
  refine lv_aload_n hx hb dX6_signed_0 rfl (lv_at hl 0 rfl) ?_
  refine g_get 0 5 (v := .ref (q 6)) (C := RX6) (T := TX6) (N := 6) X hw (by decide) hinX6 rfl (by decide) (List.mem_cons_of_mem _ (List.mem_append_left _ (List.mem_append_left _ (List.mem_of_getElem? (i := 0) rfl)))) rfl dX6_signed_1 ?_
  refine lv_iload_n hx hb dX6_signed_4 rfl (lv_at hl 1 rfl) ?_
  refine g_callVi 6 (C := RX2) (T := TX2) (N := 5) (As := [.int x1]) (rest := []) X hw hA (m_X2_latestAt l D cy q G x1 _ h) (by decide) rfl (cwV 1 hts gX6_signed_X2_latestAt rfl rfl rfl (by decide +kernel) ⟨Nat.le_of_ble_eq_true rfl, Nat.le_of_ble_eq_true rfl⟩) rfl hl.1 rfl (Nat.le_of_ble_eq_true rfl) dX6_signed_5 ⟨Nat.zero_le _, Nat.zero_le _⟩ (fun r_2 G_1 H locs h hw => ?_)
  exact g_iret X hw hr hlk h dX6_signed_8

abbrev rmX6_fix : Room := { frames := 1, cells := 0, slots := 0, locals := 22 }
def wp_X6_fix (G : GS) (x1 : Int32) (x2 : Int32) (post : Int32 → GS → Prop) : Prop :=
  wp_X3_has G x1 (fun r_2 G_1 => (r_2 = 0 → (post 0 G_1)) ∧ (¬ (r_2 = 0) → (wp_X5_has G_1 x2 (fun r_5 G_4 => (¬ r_5 = 0 → (wp_X3_setFixedAt G_4 x1 x2 (fun G_7 => post 1 G_7))) ∧ (r_5 = 0 → (post 0 G_4))))))
set_option maxHeartbeats 4000000 in
set_option maxRecDepth 100000 in
theorem m_X6_fix (l : Launch) (D : va_G) (cy : Nat → ClassId) (q : Nat → Nat) (G : GS) (x1 : Int32) (x2 : Int32) (post : Int32 → GS → Prop) (h : wp_X6_fix G x1 x2 post) : gMi l yX6_fix wsX6_fix rmX6_fix D cy q [.ref (q 0), .int x1, .int x2] G post := by
  intro sz
  refine Met.ofW (cc := cX6_fix) (maxL := 3) (ret := (some .boolean)) (by decide) rfl ?_
  intro p e s m args below meth c s₁ B hml hv
  obtain ⟨ha, hsz, X, hw, hA, hr, hlk⟩ := g_start B hml hv
  have hx := X.1.1
  have hb := X.1.2.1
  have hown := X.1.2.2.2.1
  have hts := X.1.2.2.2.2
  refine g_in ha (Nat.le_of_ble_eq_true rfl) (fun ls hl => ?_)
  have hl : lv_has ls 3 [(0, .ref (q 0)), (1, .int x1), (2, .int x2)] := hl
  unfold wp_X6_fix at h
  have hinX6 : ∀ w ∈ wsX60, w ∈ wsX6_fix := fun _ h9 => (List.mem_cons_of_mem _ (List.mem_append_left _ (List.mem_append_left _ (List.mem_append_right _ h9))))
  refine lv_aload_n hx hb dX6_fix_0 rfl (lv_at hl 0 rfl) ?_
  refine g_get 0 2 (v := .ref (q 3)) (C := RX6) (T := TX6) (N := 6) X hw (by decide) hinX6 rfl (by decide) (List.mem_cons_of_mem _ (List.mem_append_left _ (List.mem_append_left _ (List.mem_append_left _ (List.mem_of_getElem? (i := 0) rfl))))) rfl dX6_fix_1 ?_
  refine lv_iload_n hx hb dX6_fix_4 rfl (lv_at hl 1 rfl) ?_
  refine g_callVi 3 (C := RX3) (T := TX3) (N := 6) (As := [.int x1]) (rest := []) X hw hA (m_X3_has l D cy q G x1 _ h) (by decide) rfl (cwV 1 hts gX6_fix_X3_has rfl rfl rfl (by decide +kernel) ⟨Nat.le_of_ble_eq_true rfl, Nat.le_of_ble_eq_true rfl⟩) rfl hl.1 rfl (Nat.le_of_ble_eq_true rfl) dX6_fix_5 ⟨Nat.zero_le _, Nat.zero_le _⟩ (fun r_2 G_1 H locs h hw => ?_)
  refine lv_if_eq (tgt := 22) hx hb dX6_fix_8 (by decide) (fun c8_2 => ?_) (fun c8_2 => ?_)
  · have h := h.1 c8_2
    refine lv_iconst (v := 0) hx hb dX6_fix_22 (by decide) ?_
    exact g_zret X hw hr hlk (by decide) h dX6_fix_23
  · have h := h.2 c8_2
    refine lv_aload_n hx hb dX6_fix_11 rfl (lv_at hl 0 rfl) ?_
    refine g_get 0 1 (v := .ref (q 2)) (C := RX6) (T := TX6) (N := 6) X hw (by decide) hinX6 rfl (by decide) (List.mem_cons_of_mem _ (List.mem_append_left _ (List.mem_append_left _ (List.mem_append_left _ (List.mem_of_getElem? (i := 1) rfl))))) rfl dX6_fix_12 ?_
    refine lv_iload_n hx hb dX6_fix_15 rfl (lv_at hl 2 rfl) ?_
    refine g_callVi 2 (C := RX5) (T := TX5) (N := 2) (As := [.int x2]) (rest := []) X hw hA (m_X5_has l D cy q G_1 x2 _ h) (by decide) rfl (cwV 1 hts gX6_fix_X5_has rfl rfl rfl (by decide +kernel) ⟨Nat.le_of_ble_eq_true rfl, Nat.le_of_ble_eq_true rfl⟩) rfl hl.1 rfl (Nat.le_of_ble_eq_true rfl) dX6_fix_16 ⟨Nat.zero_le _, Nat.zero_le _⟩ (fun r_5 G_4 H locs h hw => ?_)
    refine lv_if_ne (tgt := 24) hx hb dX6_fix_19 (by decide) (fun c19_5 => ?_) (fun c19_5 => ?_)
    · have h := h.1 c19_5
      refine lv_aload_n hx hb dX6_fix_24 rfl (lv_at hl 0 rfl) ?_
      refine g_get 0 2 (v := .ref (q 3)) (C := RX6) (T := TX6) (N := 6) X hw (by decide) hinX6 rfl (by decide) (List.mem_cons_of_mem _ (List.mem_append_left _ (List.mem_append_left _ (List.mem_append_left _ (List.mem_of_getElem? (i := 0) rfl))))) rfl dX6_fix_25 ?_
      refine lv_iload_n hx hb dX6_fix_28 rfl (lv_at hl 1 rfl) ?_
      refine lv_iload_n hx hb dX6_fix_29 rfl (lv_at hl 2 rfl) ?_
      refine g_callVv 3 (C := RX3) (T := TX3) (N := 6) (As := [.int x1, .int x2]) (rest := []) X hw hA (m_X3_setFixedAt l D cy q G_4 x1 x2 _ h) (by decide) rfl (cwV 2 hts gX6_fix_X3_setFixedAt rfl rfl rfl (by decide +kernel) ⟨Nat.le_of_ble_eq_true rfl, Nat.le_of_ble_eq_true rfl⟩) rfl hl.1 rfl (Nat.le_of_ble_eq_true rfl) dX6_fix_30 ⟨Nat.zero_le _, Nat.zero_le _⟩ (fun G_7 H locs h hw => ?_)
      refine lv_iconst (v := 1) hx hb dX6_fix_33 (by decide) ?_
      exact g_zret X hw hr hlk (by decide) h dX6_fix_34
    · have h := h.2 c19_5
      refine lv_iconst (v := 0) hx hb dX6_fix_22 (by decide) ?_
      exact g_zret X hw hr hlk (by decide) h dX6_fix_23

abbrev rmX6_behind : Room := { frames := 1, cells := 0, slots := 0, locals := 22 }
def wp_X6_behind (G : GS) (x1 : Int32) (x2 : Int32) (post : Int32 → GS → Prop) : Prop :=
  wp_X5_has G x1 (fun r_2 G_1 => (r_2 = 0 → (post (-1) G_1)) ∧ (¬ (r_2 = 0) → (wp_X5_has G_1 x2 (fun r_5 G_4 => (¬ r_5 = 0 → (wp_X5_isOrIsBehind G_4 x1 x2 (fun r_8 G_7 => (r_8 = 0 → (post 0 G_7)) ∧ (¬ (r_8 = 0) → (post 1 G_7))))) ∧ (r_5 = 0 → (post (-1) G_4))))))
set_option maxHeartbeats 4000000 in
set_option maxRecDepth 100000 in
theorem m_X6_behind (l : Launch) (D : va_G) (cy : Nat → ClassId) (q : Nat → Nat) (G : GS) (x1 : Int32) (x2 : Int32) (post : Int32 → GS → Prop) (h : wp_X6_behind G x1 x2 post) : gMi l yX6_behind wsX6_behind rmX6_behind D cy q [.ref (q 0), .int x1, .int x2] G post := by
  intro sz
  refine Met.ofW (cc := cX6_behind) (maxL := 3) (ret := (some .int)) (by decide) rfl ?_
  intro p e s m args below meth c s₁ B hml hv
  obtain ⟨ha, hsz, X, hw, hA, hr, hlk⟩ := g_start B hml hv
  have hx := X.1.1
  have hb := X.1.2.1
  have hown := X.1.2.2.2.1
  have hts := X.1.2.2.2.2
  refine g_in ha (Nat.le_of_ble_eq_true rfl) (fun ls hl => ?_)
  have hl : lv_has ls 3 [(0, .ref (q 0)), (1, .int x1), (2, .int x2)] := hl
  unfold wp_X6_behind at h
  have hinX6 : ∀ w ∈ wsX60, w ∈ wsX6_behind := fun _ h9 => (List.mem_cons_of_mem _ (List.mem_append_left _ (List.mem_append_right _ h9)))
  refine lv_aload_n hx hb dX6_behind_0 rfl (lv_at hl 0 rfl) ?_
  refine g_get 0 1 (v := .ref (q 2)) (C := RX6) (T := TX6) (N := 6) X hw (by decide) hinX6 rfl (by decide) (List.mem_cons_of_mem _ (List.mem_append_left _ (List.mem_append_left _ (List.mem_of_getElem? (i := 0) rfl)))) rfl dX6_behind_1 ?_
  refine lv_iload_n hx hb dX6_behind_4 rfl (lv_at hl 1 rfl) ?_
  refine g_callVi 2 (C := RX5) (T := TX5) (N := 2) (As := [.int x1]) (rest := []) X hw hA (m_X5_has l D cy q G x1 _ h) (by decide) rfl (cwV 1 hts gX6_behind_X5_has rfl rfl rfl (by decide +kernel) ⟨Nat.le_of_ble_eq_true rfl, Nat.le_of_ble_eq_true rfl⟩) rfl hl.1 rfl (Nat.le_of_ble_eq_true rfl) dX6_behind_5 ⟨Nat.zero_le _, Nat.zero_le _⟩ (fun r_2 G_1 H locs h hw => ?_)
  refine lv_if_eq (tgt := 22) hx hb dX6_behind_8 (by decide) (fun c8_2 => ?_) (fun c8_2 => ?_)
  · have h := h.1 c8_2
    refine lv_iconst (v := (-1)) hx hb dX6_behind_22 (by decide) ?_
    exact g_iret X hw hr hlk h dX6_behind_23
  · have h := h.2 c8_2
    refine lv_aload_n hx hb dX6_behind_11 rfl (lv_at hl 0 rfl) ?_
    refine g_get 0 1 (v := .ref (q 2)) (C := RX6) (T := TX6) (N := 6) X hw (by decide) hinX6 rfl (by decide) (List.mem_cons_of_mem _ (List.mem_append_left _ (List.mem_append_left _ (List.mem_of_getElem? (i := 0) rfl)))) rfl dX6_behind_12 ?_
    refine lv_iload_n hx hb dX6_behind_15 rfl (lv_at hl 2 rfl) ?_
    refine g_callVi 2 (C := RX5) (T := TX5) (N := 2) (As := [.int x2]) (rest := []) X hw hA (m_X5_has l D cy q G_1 x2 _ h) (by decide) rfl (cwV 1 hts gX6_behind_X5_has rfl rfl rfl (by decide +kernel) ⟨Nat.le_of_ble_eq_true rfl, Nat.le_of_ble_eq_true rfl⟩) rfl hl.1 rfl (Nat.le_of_ble_eq_true rfl) dX6_behind_16 ⟨Nat.zero_le _, Nat.zero_le _⟩ (fun r_5 G_4 H locs h hw => ?_)
    refine lv_if_ne (tgt := 24) hx hb dX6_behind_19 (by decide) (fun c19_5 => ?_) (fun c19_5 => ?_)
    · have h := h.1 c19_5
      refine lv_aload_n hx hb dX6_behind_24 rfl (lv_at hl 0 rfl) ?_
      refine g_get 0 1 (v := .ref (q 2)) (C := RX6) (T := TX6) (N := 6) X hw (by decide) hinX6 rfl (by decide) (List.mem_cons_of_mem _ (List.mem_append_left _ (List.mem_append_left _ (List.mem_of_getElem? (i := 0) rfl)))) rfl dX6_behind_25 ?_
      refine lv_iload_n hx hb dX6_behind_28 rfl (lv_at hl 1 rfl) ?_
      refine lv_iload_n hx hb dX6_behind_29 rfl (lv_at hl 2 rfl) ?_
      refine g_callVi 2 (C := RX5) (T := TX5) (N := 2) (As := [.int x1, .int x2]) (rest := []) X hw hA (m_X5_isOrIsBehind l D cy q G_4 x1 x2 _ h) (by decide) rfl (cwV 2 hts gX6_behind_X5_isOrIsBehind rfl rfl rfl (by decide +kernel) ⟨Nat.le_of_ble_eq_true rfl, Nat.le_of_ble_eq_true rfl⟩) rfl hl.1 rfl (Nat.le_of_ble_eq_true rfl) dX6_behind_30 ⟨Nat.zero_le _, Nat.zero_le _⟩ (fun r_8 G_7 H locs h hw => ?_)
      refine lv_if_eq (tgt := 40) hx hb dX6_behind_33 (by decide) (fun c33_8 => ?_) (fun c33_8 => ?_)
      · have h := h.1 c33_8
        refine lv_iconst (v := 0) hx hb dX6_behind_40 (by decide) ?_
        exact g_iret X hw hr hlk h dX6_behind_41
      · have h := h.2 c33_8
        refine lv_iconst (v := 1) hx hb dX6_behind_36 (by decide) ?_
        refine lv_goto (tgt := 41) hx hb dX6_behind_37 (by decide) ?_
        exact g_iret X hw hr hlk h dX6_behind_41
    · have h := h.2 c19_5
      refine lv_iconst (v := (-1)) hx hb dX6_behind_22 (by decide) ?_
      exact g_iret X hw hr hlk h dX6_behind_23

abbrev rmX6_cameBack : Room := { frames := 1, cells := 0, slots := 0, locals := 22 }
def wp_X6_cameBack (G : GS) (x1 : Int32) (post : Int32 → GS → Prop) : Prop :=
  wp_X3_versionOf G x1 (fun r_2 G_1 => ∃ I11_3 : Nat → Int32 → GS → Prop, (∃ n_3 : Nat, I11_3 n_3 0 G_1) ∧ ∀ (n_3 : Nat) (v3_3 : Int32) (G_3 : GS), I11_3 n_3 v3_3 G_3 → (wp_X3_howMany G_3 (fun r_5 G_4 => (r_5 ≤ v3_3 → (post 0 G_4)) ∧ (¬ (r_5 ≤ v3_3) → (wp_X3_fixedAt G_4 v3_3 (fun r_8 G_7 => (r_8 = (-1) → (∃ k_11 : Nat, k_11 < n_3 ∧ I11_3 k_11 (v3_3 + 1) G_7)) ∧ (¬ (r_8 = (-1)) → (wp_X1_areTogether G_7 x1 v3_3 (fun r_13 G_12 => (r_13 = 0 → (∃ k_16 : Nat, k_16 < n_3 ∧ I11_3 k_16 (v3_3 + 1) G_12)) ∧ (¬ (r_13 = 0) → (wp_X5_isOrIsBehind G_12 r_2 r_8 (fun r_18 G_17 => (r_18 = 0 → (∃ k_21 : Nat, k_21 < n_3 ∧ I11_3 k_21 (v3_3 + 1) G_17)) ∧ (¬ (r_18 = 0) → (post 1 G_17))))))))))))))
set_option maxHeartbeats 4000000 in
set_option maxRecDepth 100000 in
theorem m_X6_cameBack (l : Launch) (D : va_G) (cy : Nat → ClassId) (q : Nat → Nat) (G : GS) (x1 : Int32) (post : Int32 → GS → Prop) (h : wp_X6_cameBack G x1 post) : gMi l yX6_cameBack wsX6_cameBack rmX6_cameBack D cy q [.ref (q 0), .int x1] G post := by
  intro sz
  refine Met.ofW (cc := cX6_cameBack) (maxL := 5) (ret := (some .boolean)) (by decide) rfl ?_
  intro p e s m args below meth c s₁ B hml hv
  obtain ⟨ha, hsz, X, hw, hA, hr, hlk⟩ := g_start B hml hv
  have hx := X.1.1
  have hb := X.1.2.1
  have hown := X.1.2.2.2.1
  have hts := X.1.2.2.2.2
  refine g_in ha (Nat.le_of_ble_eq_true rfl) (fun ls hl => ?_)
  have hl : lv_has ls 5 [(0, .ref (q 0)), (1, .int x1)] := hl
  unfold wp_X6_cameBack at h
  have hinX6 : ∀ w ∈ wsX60, w ∈ wsX6_cameBack := fun _ h9 => (List.mem_cons_of_mem _ (List.mem_append_left _ (List.mem_append_left _ (List.mem_append_left _ (List.mem_append_right _ h9)))))
  refine lv_aload_n hx hb dX6_cameBack_0 rfl (lv_at hl 0 rfl) ?_
  refine g_get 0 2 (v := .ref (q 3)) (C := RX6) (T := TX6) (N := 6) X hw (by decide) hinX6 rfl (by decide) (List.mem_cons_of_mem _ (List.mem_append_left _ (List.mem_append_left _ (List.mem_append_left _ (List.mem_append_left _ (List.mem_append_left _ (List.mem_of_getElem? (i := 0) rfl))))))) rfl dX6_cameBack_1 ?_
  refine lv_iload_n hx hb dX6_cameBack_4 rfl (lv_at hl 1 rfl) ?_
  refine g_callVi 3 (C := RX3) (T := TX3) (N := 6) (As := [.int x1]) (rest := []) X hw hA (m_X3_versionOf l D cy q G x1 _ h) (by decide) rfl (cwV 1 hts gX6_cameBack_X3_versionOf rfl rfl rfl (by decide +kernel) ⟨Nat.le_of_ble_eq_true rfl, Nat.le_of_ble_eq_true rfl⟩) rfl hl.1 rfl (Nat.le_of_ble_eq_true rfl) dX6_cameBack_5 ⟨Nat.zero_le _, Nat.zero_le _⟩ (fun r_2 G_1 H locs h hw => ?_)
  refine lv_istore_n (lv' := [(2, .int r_2), (0, .ref (q 0)), (1, .int x1)]) hx hb dX6_cameBack_8 rfl hl (by decide) rfl (fun ls hl => ?_)
  refine lv_iconst (v := 0) hx hb dX6_cameBack_9 (by decide) ?_
  refine lv_istore_n (lv' := [(3, .int 0), (2, .int r_2), (0, .ref (q 0)), (1, .int x1)]) hx hb dX6_cameBack_10 rfl hl (by decide) rfl (fun ls hl => ?_)
  obtain ⟨I11_3, ⟨n_3, h0⟩, hI11_3⟩ := h
  have LI11_3 : ∀ (n_3 : Nat) (v3_3 : Int32) (G_3 : GS) (H : Heap) (locs : List Loc) (ls : Array Slot), gH D cy q (gA q sz) s.heap G_3 H locs → lv_has ls 5 [(0, .ref (q 0)), (1, .int x1), (2, .int r_2), (3, .int v3_3)] → I11_3 n_3 v3_3 G_3 → W p l e (headSpec wsX6_cameBack rmX6_cameBack).room s m args below meth c H locs 0 0 (MQ below (va_Qi post (gPo D cy q sz) (gA q sz)) args s 0 0 (gA q sz)) (F0 m 11 ls []) := by
    intro n_3
    induction n_3 using Nat.strongRecOn with
    | ind n_3 ihI11_3 =>
      intro v3_3 G_3 H locs ls hw hl h
      have h := hI11_3 n_3 v3_3 G_3 h
      refine lv_iload_n hx hb dX6_cameBack_11 rfl (lv_at hl 3 rfl) ?_
      refine lv_aload_n hx hb dX6_cameBack_12 rfl (lv_at hl 0 rfl) ?_
      refine g_get 0 2 (v := .ref (q 3)) (C := RX6) (T := TX6) (N := 6) X hw (by decide) hinX6 rfl (by decide) (List.mem_cons_of_mem _ (List.mem_append_left _ (List.mem_append_left _ (List.mem_append_left _ (List.mem_append_left _ (List.mem_append_left _ (List.mem_of_getElem? (i := 0) rfl))))))) rfl dX6_cameBack_13 ?_
      refine g_callVi 3 (C := RX3) (T := TX3) (N := 6) (As := []) (rest := [.int v3_3]) X hw hA (m_X3_howMany l D cy q G_3 _ h) (by decide) rfl (cwV 0 hts gX6_cameBack_X3_howMany rfl rfl rfl (by decide +kernel) ⟨Nat.le_of_ble_eq_true rfl, Nat.le_of_ble_eq_true rfl⟩) rfl hl.1 rfl (Nat.le_of_ble_eq_true rfl) dX6_cameBack_16 ⟨Nat.zero_le _, Nat.zero_le _⟩ (fun r_5 G_4 H locs h hw => ?_)
      refine lv_icmp_ge (tgt := 71) hx hb dX6_cameBack_19 (by decide) (fun c19_5 => ?_) (fun c19_5 => ?_)
      · have h := h.1 c19_5
        refine lv_iconst (v := 0) hx hb dX6_cameBack_71 (by decide) ?_
        exact g_zret X hw hr hlk (by decide) h dX6_cameBack_72
      · have h := h.2 c19_5
        refine lv_aload_n hx hb dX6_cameBack_22 rfl (lv_at hl 0 rfl) ?_
        refine g_get 0 2 (v := .ref (q 3)) (C := RX6) (T := TX6) (N := 6) X hw (by decide) hinX6 rfl (by decide) (List.mem_cons_of_mem _ (List.mem_append_left _ (List.mem_append_left _ (List.mem_append_left _ (List.mem_append_left _ (List.mem_append_left _ (List.mem_of_getElem? (i := 0) rfl))))))) rfl dX6_cameBack_23 ?_
        refine lv_iload_n hx hb dX6_cameBack_26 rfl (lv_at hl 3 rfl) ?_
        refine g_callVi 3 (C := RX3) (T := TX3) (N := 6) (As := [.int v3_3]) (rest := []) X hw hA (m_X3_fixedAt l D cy q G_4 v3_3 _ h) (by decide) rfl (cwV 1 hts gX6_cameBack_X3_fixedAt rfl rfl rfl (by decide +kernel) ⟨Nat.le_of_ble_eq_true rfl, Nat.le_of_ble_eq_true rfl⟩) rfl hl.1 rfl (Nat.le_of_ble_eq_true rfl) dX6_cameBack_27 ⟨Nat.zero_le _, Nat.zero_le _⟩ (fun r_8 G_7 H locs h hw => ?_)
        refine lv_istore (lv' := [(4, .int r_8), (0, .ref (q 0)), (1, .int x1), (2, .int r_2), (3, .int v3_3)]) hx hb dX6_cameBack_30 hl (by decide) rfl (fun ls hl => ?_)
        refine lv_iload hx hb dX6_cameBack_32 (lv_at hl 0 rfl) ?_
        refine lv_iconst (v := (-1)) hx hb dX6_cameBack_34 (by decide) ?_
        refine lv_icmp_eq (tgt := 65) hx hb dX6_cameBack_35 (by decide) (fun c35_8 => ?_) (fun c35_8 => ?_)
        · have h := h.1 c35_8
          refine lv_iinc (v := v3_3 + 1) (lv' := [(3, .int (v3_3 + 1)), (4, .int r_8), (0, .ref (q 0)), (1, .int x1), (2, .int r_2)]) hx hb dX6_cameBack_65 hl (k := 4) rfl rfl (by decide) rfl (fun ls hl => ?_)
          refine lv_goto (tgt := 11) hx hb dX6_cameBack_68 (by decide) ?_
          obtain ⟨k_11, hm, h⟩ := h
          exact ihI11_3 k_11 hm (v3_3 + 1) G_7 _ _ ls hw (lv_sub hl [2, 3, 4, 0] rfl) h
        · have h := h.2 c35_8
          refine lv_aload_n hx hb dX6_cameBack_38 rfl (lv_at hl 1 rfl) ?_
          refine g_get 0 4 (v := .ref (q 5)) (C := RX6) (T := TX6) (N := 6) X hw (by decide) hinX6 rfl (by decide) (List.mem_cons_of_mem _ (List.mem_append_left _ (List.mem_append_left _ (List.mem_append_left _ (List.mem_append_left _ (List.mem_append_left _ (List.mem_of_getElem? (i := 1) rfl))))))) rfl dX6_cameBack_39 ?_
          refine lv_iload_n hx hb dX6_cameBack_42 rfl (lv_at hl 2 rfl) ?_
          refine lv_iload_n hx hb dX6_cameBack_43 rfl (lv_at hl 4 rfl) ?_
          refine g_callVi 5 (C := RX1) (T := TX1) (N := 15) (As := [.int x1, .int v3_3]) (rest := []) X hw hA (m_X1_areTogether l D cy q G_7 x1 v3_3 _ h) (by decide) rfl (cwV 2 hts gX6_cameBack_X1_areTogether rfl rfl rfl (by decide +kernel) ⟨Nat.le_of_ble_eq_true rfl, Nat.le_of_ble_eq_true rfl⟩) rfl hl.1 rfl (Nat.le_of_ble_eq_true rfl) dX6_cameBack_44 ⟨Nat.zero_le _, Nat.zero_le _⟩ (fun r_13 G_12 H locs h hw => ?_)
          refine lv_if_eq (tgt := 65) hx hb dX6_cameBack_47 (by decide) (fun c47_13 => ?_) (fun c47_13 => ?_)
          · have h := h.1 c47_13
            refine lv_iinc (v := v3_3 + 1) (lv' := [(3, .int (v3_3 + 1)), (4, .int r_8), (0, .ref (q 0)), (1, .int x1), (2, .int r_2)]) hx hb dX6_cameBack_65 hl (k := 4) rfl rfl (by decide) rfl (fun ls hl => ?_)
            refine lv_goto (tgt := 11) hx hb dX6_cameBack_68 (by decide) ?_
            obtain ⟨k_16, hm, h⟩ := h
            exact ihI11_3 k_16 hm (v3_3 + 1) G_12 _ _ ls hw (lv_sub hl [2, 3, 4, 0] rfl) h
          · have h := h.2 c47_13
            refine lv_aload_n hx hb dX6_cameBack_50 rfl (lv_at hl 1 rfl) ?_
            refine g_get 0 1 (v := .ref (q 2)) (C := RX6) (T := TX6) (N := 6) X hw (by decide) hinX6 rfl (by decide) (List.mem_cons_of_mem _ (List.mem_append_left _ (List.mem_append_left _ (List.mem_append_left _ (List.mem_append_left _ (List.mem_append_left _ (List.mem_of_getElem? (i := 2) rfl))))))) rfl dX6_cameBack_51 ?_
            refine lv_iload_n hx hb dX6_cameBack_54 rfl (lv_at hl 3 rfl) ?_
            refine lv_iload hx hb dX6_cameBack_55 (lv_at hl 0 rfl) ?_
            refine g_callVi 2 (C := RX5) (T := TX5) (N := 2) (As := [.int r_2, .int r_8]) (rest := []) X hw hA (m_X5_isOrIsBehind l D cy q G_12 r_2 r_8 _ h) (by decide) rfl (cwV 2 hts gX6_cameBack_X5_isOrIsBehind rfl rfl rfl (by decide +kernel) ⟨Nat.le_of_ble_eq_true rfl, Nat.le_of_ble_eq_true rfl⟩) rfl hl.1 rfl (Nat.le_of_ble_eq_true rfl) dX6_cameBack_57 ⟨Nat.zero_le _, Nat.zero_le _⟩ (fun r_18 G_17 H locs h hw => ?_)
            refine lv_if_eq (tgt := 65) hx hb dX6_cameBack_60 (by decide) (fun c60_18 => ?_) (fun c60_18 => ?_)
            · have h := h.1 c60_18
              refine lv_iinc (v := v3_3 + 1) (lv' := [(3, .int (v3_3 + 1)), (4, .int r_8), (0, .ref (q 0)), (1, .int x1), (2, .int r_2)]) hx hb dX6_cameBack_65 hl (k := 4) rfl rfl (by decide) rfl (fun ls hl => ?_)
              refine lv_goto (tgt := 11) hx hb dX6_cameBack_68 (by decide) ?_
              obtain ⟨k_21, hm, h⟩ := h
              exact ihI11_3 k_21 hm (v3_3 + 1) G_17 _ _ ls hw (lv_sub hl [2, 3, 4, 0] rfl) h
            · have h := h.2 c60_18
              refine lv_iconst (v := 1) hx hb dX6_cameBack_63 (by decide) ?_
              exact g_zret X hw hr hlk (by decide) h dX6_cameBack_64
  exact LI11_3 n_3 0 G_1 _ _ ls hw (lv_sub hl [2, 3, 1, 0] rfl) h0

abbrev rmX6_howManyCameBack : Room := { frames := 2, cells := 0, slots := 0, locals := 46 }
def wp_X6_howManyCameBack (G : GS)  (post : Int32 → GS → Prop) : Prop :=
  ∃ I4_1 : Nat → Int32 → Int32 → GS → Prop, (∃ n_1 : Nat, I4_1 n_1 0 0 G) ∧ ∀ (n_1 : Nat) (v1_1 : Int32) (v2_1 : Int32) (G_1 : GS), I4_1 n_1 v1_1 v2_1 G_1 → (wp_X3_howMany G_1 (fun r_3 G_2 => (r_3 ≤ v2_1 → (post v1_1 G_2)) ∧ (¬ (r_3 ≤ v2_1) → (wp_X6_cameBack G_2 v2_1 (fun r_6 G_5 => (r_6 = 0 → (∃ k_9 : Nat, k_9 < n_1 ∧ I4_1 k_9 v1_1 (v2_1 + 1) G_5)) ∧ (¬ (r_6 = 0) → (∃ k_12 : Nat, k_12 < n_1 ∧ I4_1 k_12 (v1_1 + 1) (v2_1 + 1) G_5)))))))
set_option maxHeartbeats 4000000 in
set_option maxRecDepth 100000 in
theorem m_X6_howManyCameBack (l : Launch) (D : va_G) (cy : Nat → ClassId) (q : Nat → Nat) (G : GS)  (post : Int32 → GS → Prop) (h : wp_X6_howManyCameBack G  post) : gMi l yX6_howManyCameBack wsX6_howManyCameBack rmX6_howManyCameBack D cy q [.ref (q 0)] G post := by
  intro sz
  refine Met.ofW (cc := cX6_howManyCameBack) (maxL := 3) (ret := (some .int)) (by decide) rfl ?_
  intro p e s m args below meth c s₁ B hml hv
  obtain ⟨ha, hsz, X, hw, hA, hr, hlk⟩ := g_start B hml hv
  have hx := X.1.1
  have hb := X.1.2.1
  have hown := X.1.2.2.2.1
  have hts := X.1.2.2.2.2
  refine g_in ha (Nat.le_of_ble_eq_true rfl) (fun ls hl => ?_)
  have hl : lv_has ls 3 [(0, .ref (q 0))] := hl
  unfold wp_X6_howManyCameBack at h
  have hinX6 : ∀ w ∈ wsX60, w ∈ wsX6_howManyCameBack := fun _ h9 => (List.mem_cons_of_mem _ (List.mem_append_left _ (List.mem_append_left _ (List.mem_append_left _ (List.mem_append_right _ h9)))))
  refine lv_iconst (v := 0) hx hb dX6_howManyCameBack_0 (by decide) ?_
  refine lv_istore_n (lv' := [(1, .int 0), (0, .ref (q 0))]) hx hb dX6_howManyCameBack_1 rfl hl (by decide) rfl (fun ls hl => ?_)
  refine lv_iconst (v := 0) hx hb dX6_howManyCameBack_2 (by decide) ?_
  refine lv_istore_n (lv' := [(2, .int 0), (1, .int 0), (0, .ref (q 0))]) hx hb dX6_howManyCameBack_3 rfl hl (by decide) rfl (fun ls hl => ?_)
  obtain ⟨I4_1, ⟨n_1, h0⟩, hI4_1⟩ := h
  have LI4_1 : ∀ (n_1 : Nat) (v1_1 : Int32) (v2_1 : Int32) (G_1 : GS) (H : Heap) (locs : List Loc) (ls : Array Slot), gH D cy q (gA q sz) s.heap G_1 H locs → lv_has ls 3 [(0, .ref (q 0)), (1, .int v1_1), (2, .int v2_1)] → I4_1 n_1 v1_1 v2_1 G_1 → W p l e (headSpec wsX6_howManyCameBack rmX6_howManyCameBack).room s m args below meth c H locs 0 0 (MQ below (va_Qi post (gPo D cy q sz) (gA q sz)) args s 0 0 (gA q sz)) (F0 m 4 ls []) := by
    intro n_1
    induction n_1 using Nat.strongRecOn with
    | ind n_1 ihI4_1 =>
      intro v1_1 v2_1 G_1 H locs ls hw hl h
      have h := hI4_1 n_1 v1_1 v2_1 G_1 h
      refine lv_iload_n hx hb dX6_howManyCameBack_4 rfl (lv_at hl 2 rfl) ?_
      refine lv_aload_n hx hb dX6_howManyCameBack_5 rfl (lv_at hl 0 rfl) ?_
      refine g_get 0 2 (v := .ref (q 3)) (C := RX6) (T := TX6) (N := 6) X hw (by decide) hinX6 rfl (by decide) (List.mem_cons_of_mem _ (List.mem_append_left _ (List.mem_append_left _ (List.mem_append_left _ (List.mem_append_left _ (List.mem_append_left _ (List.mem_of_getElem? (i := 0) rfl))))))) rfl dX6_howManyCameBack_6 ?_
      refine g_callVi 3 (C := RX3) (T := TX3) (N := 6) (As := []) (rest := [.int v2_1]) X hw hA (m_X3_howMany l D cy q G_1 _ h) (by decide) rfl (cwV 0 hts gX6_howManyCameBack_X3_howMany rfl rfl rfl (by decide +kernel) ⟨Nat.le_of_ble_eq_true rfl, Nat.le_of_ble_eq_true rfl⟩) rfl hl.1 rfl (Nat.le_of_ble_eq_true rfl) dX6_howManyCameBack_9 ⟨Nat.zero_le _, Nat.zero_le _⟩ (fun r_3 G_2 H locs h hw => ?_)
      refine lv_icmp_ge (tgt := 32) hx hb dX6_howManyCameBack_12 (by decide) (fun c12_3 => ?_) (fun c12_3 => ?_)
      · have h := h.1 c12_3
        refine lv_iload_n hx hb dX6_howManyCameBack_32 rfl (lv_at hl 1 rfl) ?_
        exact g_iret X hw hr hlk h dX6_howManyCameBack_33
      · have h := h.2 c12_3
        refine lv_aload_n hx hb dX6_howManyCameBack_15 rfl (lv_at hl 0 rfl) ?_
        refine lv_iload_n hx hb dX6_howManyCameBack_16 rfl (lv_at hl 2 rfl) ?_
        refine g_callVi 0 (C := RX6) (T := TX6) (N := 6) (As := [.int v2_1]) (rest := []) X hw hA (m_X6_cameBack l D cy q G_2 v2_1 _ h) (by decide) rfl (cwV 1 hts gX6_howManyCameBack_X6_cameBack rfl rfl rfl (by decide +kernel) ⟨Nat.le_of_ble_eq_true rfl, Nat.le_of_ble_eq_true rfl⟩) rfl hl.1 rfl (Nat.le_of_ble_eq_true rfl) dX6_howManyCameBack_17 ⟨Nat.zero_le _, Nat.zero_le _⟩ (fun r_6 G_5 H locs h hw => ?_)
        refine lv_if_eq (tgt := 26) hx hb dX6_howManyCameBack_20 (by decide) (fun c20_6 => ?_) (fun c20_6 => ?_)
        · have h := h.1 c20_6
          refine lv_iinc (v := v2_1 + 1) (lv' := [(2, .int (v2_1 + 1)), (0, .ref (q 0)), (1, .int v1_1)]) hx hb dX6_howManyCameBack_26 hl (k := 2) rfl rfl (by decide) rfl (fun ls hl => ?_)
          refine lv_goto (tgt := 4) hx hb dX6_howManyCameBack_29 (by decide) ?_
          obtain ⟨k_9, hm, h⟩ := h
          exact ihI4_1 k_9 hm v1_1 (v2_1 + 1) G_5 _ _ ls hw (lv_sub hl [1, 2, 0] rfl) h
        · have h := h.2 c20_6
          refine lv_iinc (v := v1_1 + 1) (lv' := [(1, .int (v1_1 + 1)), (0, .ref (q 0)), (2, .int v2_1)]) hx hb dX6_howManyCameBack_23 hl (k := 1) rfl rfl (by decide) rfl (fun ls hl => ?_)
          refine lv_iinc (v := v2_1 + 1) (lv' := [(2, .int (v2_1 + 1)), (1, .int (v1_1 + 1)), (0, .ref (q 0))]) hx hb dX6_howManyCameBack_26 hl (k := 2) rfl rfl (by decide) rfl (fun ls hl => ?_)
          refine lv_goto (tgt := 4) hx hb dX6_howManyCameBack_29 (by decide) ?_
          obtain ⟨k_12, hm, h⟩ := h
          exact ihI4_1 k_12 hm (v1_1 + 1) (v2_1 + 1) G_5 _ _ ls hw (lv_sub hl [2, 1, 0] rfl) h
  exact LI4_1 n_1 0 0 G _ _ ls hw (lv_sub hl [2, 1, 0] rfl) h0

abbrev rmX6_count : Room := { frames := 3, cells := 0, slots := 0, locals := 68 }
def wp_X6_count (G : GS) (x1 : Int32) (post : Int32 → GS → Prop) : Prop :=
  (x1 = 0 → (wp_X3_howMany G (fun r_2 G_1 => post r_2 G_1))) ∧ (x1 = 1 → (wp_X1_howMany G (fun r_4 G_3 => post r_4 G_3))) ∧ (x1 = 2 → (wp_X5_howMany G (fun r_6 G_5 => post r_6 G_5))) ∧ (x1 = 3 → (wp_X1_getT G (fun r_8 G_7 => post r_8 G_7))) ∧ (x1 = 4 → (wp_X4_howMany G (fun r_10 G_9 => post r_10 G_9))) ∧ (x1 = 5 → (wp_X3_howManyCommon G (fun r_12 G_11 => post r_12 G_11))) ∧ (x1 = 6 → (wp_X1_changesDone G (fun r_14 G_13 => post r_14 G_13))) ∧ (x1 = 7 → (wp_X6_howManyCameBack G (fun r_16 G_15 => post r_16 G_15))) ∧ (¬ x1 = 0 → ¬ x1 = 1 → ¬ x1 = 2 → ¬ x1 = 3 → ¬ x1 = 4 → ¬ x1 = 5 → ¬ x1 = 6 → ¬ x1 = 7 → (post (-1) G))
set_option maxHeartbeats 4000000 in
set_option maxRecDepth 100000 in
theorem m_X6_count (l : Launch) (D : va_G) (cy : Nat → ClassId) (q : Nat → Nat) (G : GS) (x1 : Int32) (post : Int32 → GS → Prop) (h : wp_X6_count G x1 post) : gMi l yX6_count wsX6_count rmX6_count D cy q [.ref (q 0), .int x1] G post := by
  intro sz
  refine Met.ofW (cc := cX6_count) (maxL := 2) (ret := (some .int)) (by decide) rfl ?_
  intro p e s m args below meth c s₁ B hml hv
  obtain ⟨ha, hsz, X, hw, hA, hr, hlk⟩ := g_start B hml hv
  have hx := X.1.1
  have hb := X.1.2.1
  have hown := X.1.2.2.2.1
  have hts := X.1.2.2.2.2
  refine g_in ha (Nat.le_of_ble_eq_true rfl) (fun ls hl => ?_)
  have hl : lv_has ls 2 [(0, .ref (q 0)), (1, .int x1)] := hl
  unfold wp_X6_count at h
  have hinX6 : ∀ w ∈ wsX60, w ∈ wsX6_count := fun _ h9 => (List.mem_cons_of_mem _ (List.mem_append_left _ (List.mem_append_left _ (List.mem_append_left _ (List.mem_append_left _ (List.mem_append_right _ h9))))))
  refine lv_iload_n hx hb dX6_count_0 rfl (lv_at hl 1 rfl) ?_
  by_cases c1_0 : x1 = 0
  · have h := h.1 c1_0
    refine lv_tableIn (off := 47) (tgt := 48) hx hb dX6_count_1 (by rw [c1_0]; decide) (by rw [c1_0]; decide) (by rw [c1_0]; rfl) (by decide) ?_
    refine lv_aload_n hx hb dX6_count_48 rfl (lv_at hl 0 rfl) ?_
    refine g_get 0 2 (v := .ref (q 3)) (C := RX6) (T := TX6) (N := 6) X hw (by decide) hinX6 rfl (by decide) (List.mem_cons_of_mem _ (List.mem_append_left _ (List.mem_append_left _ (List.mem_append_left _ (List.mem_append_left _ (List.mem_append_left _ (List.mem_append_left _ (List.mem_of_getElem? (i := 0) rfl)))))))) rfl dX6_count_49 ?_
    refine g_callVi 3 (C := RX3) (T := TX3) (N := 6) (As := []) (rest := []) X hw hA (m_X3_howMany l D cy q G _ h) (by decide) rfl (cwV 0 hts gX6_count_X3_howMany rfl rfl rfl (by decide +kernel) ⟨Nat.le_of_ble_eq_true rfl, Nat.le_of_ble_eq_true rfl⟩) rfl hl.1 rfl (Nat.le_of_ble_eq_true rfl) dX6_count_52 ⟨Nat.zero_le _, Nat.zero_le _⟩ (fun r_2 G_1 H locs h hw => ?_)
    exact g_iret X hw hr hlk h dX6_count_55
  by_cases c1_1 : x1 = 1
  · have h := h.2.1 c1_1
    refine lv_tableIn (off := 55) (tgt := 56) hx hb dX6_count_1 (by rw [c1_1]; decide) (by rw [c1_1]; decide) (by rw [c1_1]; rfl) (by decide) ?_
    refine lv_aload_n hx hb dX6_count_56 rfl (lv_at hl 0 rfl) ?_
    refine g_get 0 4 (v := .ref (q 5)) (C := RX6) (T := TX6) (N := 6) X hw (by decide) hinX6 rfl (by decide) (List.mem_cons_of_mem _ (List.mem_append_left _ (List.mem_append_left _ (List.mem_append_left _ (List.mem_append_left _ (List.mem_append_left _ (List.mem_append_left _ (List.mem_of_getElem? (i := 1) rfl)))))))) rfl dX6_count_57 ?_
    refine g_callVi 5 (C := RX1) (T := TX1) (N := 15) (As := []) (rest := []) X hw hA (m_X1_howMany l D cy q G _ h) (by decide) rfl (cwV 0 hts gX6_count_X1_howMany rfl rfl rfl (by decide +kernel) ⟨Nat.le_of_ble_eq_true rfl, Nat.le_of_ble_eq_true rfl⟩) rfl hl.1 rfl (Nat.le_of_ble_eq_true rfl) dX6_count_60 ⟨Nat.zero_le _, Nat.zero_le _⟩ (fun r_4 G_3 H locs h hw => ?_)
    exact g_iret X hw hr hlk h dX6_count_63
  by_cases c1_2 : x1 = 2
  · have h := h.2.2.1 c1_2
    refine lv_tableIn (off := 63) (tgt := 64) hx hb dX6_count_1 (by rw [c1_2]; decide) (by rw [c1_2]; decide) (by rw [c1_2]; rfl) (by decide) ?_
    refine lv_aload_n hx hb dX6_count_64 rfl (lv_at hl 0 rfl) ?_
    refine g_get 0 1 (v := .ref (q 2)) (C := RX6) (T := TX6) (N := 6) X hw (by decide) hinX6 rfl (by decide) (List.mem_cons_of_mem _ (List.mem_append_left _ (List.mem_append_left _ (List.mem_append_left _ (List.mem_append_left _ (List.mem_append_left _ (List.mem_append_left _ (List.mem_of_getElem? (i := 2) rfl)))))))) rfl dX6_count_65 ?_
    refine g_callVi 2 (C := RX5) (T := TX5) (N := 2) (As := []) (rest := []) X hw hA (m_X5_howMany l D cy q G _ h) (by decide) rfl (cwV 0 hts gX6_count_X5_howMany rfl rfl rfl (by decide +kernel) ⟨Nat.le_of_ble_eq_true rfl, Nat.le_of_ble_eq_true rfl⟩) rfl hl.1 rfl (Nat.le_of_ble_eq_true rfl) dX6_count_68 ⟨Nat.zero_le _, Nat.zero_le _⟩ (fun r_6 G_5 H locs h hw => ?_)
    exact g_iret X hw hr hlk h dX6_count_71
  by_cases c1_3 : x1 = 3
  · have h := h.2.2.2.1 c1_3
    refine lv_tableIn (off := 71) (tgt := 72) hx hb dX6_count_1 (by rw [c1_3]; decide) (by rw [c1_3]; decide) (by rw [c1_3]; rfl) (by decide) ?_
    refine lv_aload_n hx hb dX6_count_72 rfl (lv_at hl 0 rfl) ?_
    refine g_get 0 4 (v := .ref (q 5)) (C := RX6) (T := TX6) (N := 6) X hw (by decide) hinX6 rfl (by decide) (List.mem_cons_of_mem _ (List.mem_append_left _ (List.mem_append_left _ (List.mem_append_left _ (List.mem_append_left _ (List.mem_append_left _ (List.mem_append_left _ (List.mem_of_getElem? (i := 1) rfl)))))))) rfl dX6_count_73 ?_
    refine g_callVi 5 (C := RX1) (T := TX1) (N := 15) (As := []) (rest := []) X hw hA (m_X1_getT l D cy q G _ h) (by decide) rfl (cwV 0 hts gX6_count_X1_getT rfl rfl rfl (by decide +kernel) ⟨Nat.le_of_ble_eq_true rfl, Nat.le_of_ble_eq_true rfl⟩) rfl hl.1 rfl (Nat.le_of_ble_eq_true rfl) dX6_count_76 ⟨Nat.zero_le _, Nat.zero_le _⟩ (fun r_8 G_7 H locs h hw => ?_)
    exact g_iret X hw hr hlk h dX6_count_79
  by_cases c1_4 : x1 = 4
  · have h := h.2.2.2.2.1 c1_4
    refine lv_tableIn (off := 79) (tgt := 80) hx hb dX6_count_1 (by rw [c1_4]; decide) (by rw [c1_4]; decide) (by rw [c1_4]; rfl) (by decide) ?_
    refine lv_aload_n hx hb dX6_count_80 rfl (lv_at hl 0 rfl) ?_
    refine g_get 0 0 (v := .ref (q 1)) (C := RX6) (T := TX6) (N := 6) X hw (by decide) hinX6 rfl (by decide) (List.mem_cons_of_mem _ (List.mem_append_left _ (List.mem_append_left _ (List.mem_append_left _ (List.mem_append_left _ (List.mem_append_left _ (List.mem_append_left _ (List.mem_of_getElem? (i := 3) rfl)))))))) rfl dX6_count_81 ?_
    refine g_callVi 1 (C := RX4) (T := TX4) (N := 2) (As := []) (rest := []) X hw hA (m_X4_howMany l D cy q G _ h) (by decide) rfl (cwV 0 hts gX6_count_X4_howMany rfl rfl rfl (by decide +kernel) ⟨Nat.le_of_ble_eq_true rfl, Nat.le_of_ble_eq_true rfl⟩) rfl hl.1 rfl (Nat.le_of_ble_eq_true rfl) dX6_count_84 ⟨Nat.zero_le _, Nat.zero_le _⟩ (fun r_10 G_9 H locs h hw => ?_)
    exact g_iret X hw hr hlk h dX6_count_87
  by_cases c1_5 : x1 = 5
  · have h := h.2.2.2.2.2.1 c1_5
    refine lv_tableIn (off := 87) (tgt := 88) hx hb dX6_count_1 (by rw [c1_5]; decide) (by rw [c1_5]; decide) (by rw [c1_5]; rfl) (by decide) ?_
    refine lv_aload_n hx hb dX6_count_88 rfl (lv_at hl 0 rfl) ?_
    refine g_get 0 2 (v := .ref (q 3)) (C := RX6) (T := TX6) (N := 6) X hw (by decide) hinX6 rfl (by decide) (List.mem_cons_of_mem _ (List.mem_append_left _ (List.mem_append_left _ (List.mem_append_left _ (List.mem_append_left _ (List.mem_append_left _ (List.mem_append_left _ (List.mem_of_getElem? (i := 0) rfl)))))))) rfl dX6_count_89 ?_
    refine g_callVi 3 (C := RX3) (T := TX3) (N := 6) (As := []) (rest := []) X hw hA (m_X3_howManyCommon l D cy q G _ h) (by decide) rfl (cwV 0 hts gX6_count_X3_howManyCommon rfl rfl rfl (by decide +kernel) ⟨Nat.le_of_ble_eq_true rfl, Nat.le_of_ble_eq_true rfl⟩) rfl hl.1 rfl (Nat.le_of_ble_eq_true rfl) dX6_count_92 ⟨Nat.zero_le _, Nat.zero_le _⟩ (fun r_12 G_11 H locs h hw => ?_)
    exact g_iret X hw hr hlk h dX6_count_95
  by_cases c1_6 : x1 = 6
  · have h := h.2.2.2.2.2.2.1 c1_6
    refine lv_tableIn (off := 95) (tgt := 96) hx hb dX6_count_1 (by rw [c1_6]; decide) (by rw [c1_6]; decide) (by rw [c1_6]; rfl) (by decide) ?_
    refine lv_aload_n hx hb dX6_count_96 rfl (lv_at hl 0 rfl) ?_
    refine g_get 0 4 (v := .ref (q 5)) (C := RX6) (T := TX6) (N := 6) X hw (by decide) hinX6 rfl (by decide) (List.mem_cons_of_mem _ (List.mem_append_left _ (List.mem_append_left _ (List.mem_append_left _ (List.mem_append_left _ (List.mem_append_left _ (List.mem_append_left _ (List.mem_of_getElem? (i := 1) rfl)))))))) rfl dX6_count_97 ?_
    refine g_callVi 5 (C := RX1) (T := TX1) (N := 15) (As := []) (rest := []) X hw hA (m_X1_changesDone l D cy q G _ h) (by decide) rfl (cwV 0 hts gX6_count_X1_changesDone rfl rfl rfl (by decide +kernel) ⟨Nat.le_of_ble_eq_true rfl, Nat.le_of_ble_eq_true rfl⟩) rfl hl.1 rfl (Nat.le_of_ble_eq_true rfl) dX6_count_100 ⟨Nat.zero_le _, Nat.zero_le _⟩ (fun r_14 G_13 H locs h hw => ?_)
    exact g_iret X hw hr hlk h dX6_count_103
  by_cases c1_7 : x1 = 7
  · have h := h.2.2.2.2.2.2.2.1 c1_7
    refine lv_tableIn (off := 103) (tgt := 104) hx hb dX6_count_1 (by rw [c1_7]; decide) (by rw [c1_7]; decide) (by rw [c1_7]; rfl) (by decide) ?_
    refine lv_aload_n hx hb dX6_count_104 rfl (lv_at hl 0 rfl) ?_
    refine g_callVi 0 (C := RX6) (T := TX6) (N := 6) (As := []) (rest := []) X hw hA (m_X6_howManyCameBack l D cy q G _ h) (by decide) rfl (cwV 0 hts gX6_count_X6_howManyCameBack rfl rfl rfl (by decide +kernel) ⟨Nat.le_of_ble_eq_true rfl, Nat.le_of_ble_eq_true rfl⟩) rfl hl.1 rfl (Nat.le_of_ble_eq_true rfl) dX6_count_105 ⟨Nat.zero_le _, Nat.zero_le _⟩ (fun r_16 G_15 H locs h hw => ?_)
    exact g_iret X hw hr hlk h dX6_count_108
  have h := h.2.2.2.2.2.2.2.2 c1_0 c1_1 c1_2 c1_3 c1_4 c1_5 c1_6 c1_7
  have n0 := lv_neT (a := 0) c1_0 rfl
  have n1 := lv_neT (a := 1) c1_1 rfl
  have n2 := lv_neT (a := 2) c1_2 rfl
  have n3 := lv_neT (a := 3) c1_3 rfl
  have n4 := lv_neT (a := 4) c1_4 rfl
  have n5 := lv_neT (a := 5) c1_5 rfl
  have n6 := lv_neT (a := 6) c1_6 rfl
  have n7 := lv_neT (a := 7) c1_7 rfl
  refine lv_tableOut (tgt := 109) hx hb dX6_count_1 (by omega) (by decide) ?_
  refine lv_iconst (v := (-1)) hx hb dX6_count_109 (by decide) ?_
  exact g_iret X hw hr hlk h dX6_count_110
