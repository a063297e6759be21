abbrev rmX0_between : Room := { frames := 0, cells := 0, slots := 0, locals := 0 }
def wp_X0_between (G : GS) (x1 : Int32) (x2 : Int32) (post : Int32 → GS → Prop) : Prop :=
  ∃ j5_0 : Nat, j5_0 < 40 ∧ x1 = nI j5_0 ∧ (∃ j7_1 : Nat, j7_1 < 40 ∧ x2 = nI j7_1 ∧ (post (G.1 (128 + j5_0) j7_1) G))
set_option maxHeartbeats 4000000 in
set_option maxRecDepth 100000 in
theorem m_X0_between (l : Launch) (D : va_G) (cy : Nat → ClassId) (q : Nat → Nat) (G : GS) (x1 : Int32) (x2 : Int32) (post : Int32 → GS → Prop) (h : wp_X0_between G x1 x2 post) : gMi l yX0_between wsX0_between rmX0_between D cy q [.ref (q 4), .int x1, .int x2] G post := by
  intro sz
  refine Met.ofW (cc := cX0_between) (maxL := 3) (ret := (some .int)) (by decide) rfl ?_
  intro p e s m args below meth c s₁ B hml hv
  obtain ⟨ha, hsz, X, hw, hA, hr, hlk⟩ := g_start B hml hv
  have hx := X.1.1
  have hb := X.1.2.1
  have hown := X.1.2.2.2.1
  have hts := X.1.2.2.2.2
  refine g_in ha (Nat.le_of_ble_eq_true rfl) (fun ls hl => ?_)
  have hl : lv_has ls 3 [(0, .ref (q 4)), (1, .int x1), (2, .int x2)] := hl
  unfold wp_X0_between at h
  have hinX0 : ∀ w ∈ wsX00, w ∈ wsX0_between := fun _ h9 => (List.mem_cons_of_mem _ (List.mem_append_right _ h9))
  refine lv_aload_n hx hb dX0_between_0 rfl (lv_at hl 0 rfl) ?_
  refine g_get 4 3 (v := .ref (q 43)) (C := RX0) (T := TX0) (N := 5) X hw (by decide) hinX0 rfl (by decide) (List.mem_cons_of_mem _ (List.mem_append_left _ (List.mem_of_getElem? (i := 0) rfl))) rfl dX0_between_1 ?_
  refine lv_iload_n hx hb dX0_between_4 rfl (lv_at hl 1 rfl) ?_
  obtain ⟨j5_0, bj5_0, ej5_0, h⟩ := h
  refine g_aald 43 40 j5_0 X hw ⟨by decide, by decide⟩ rfl bj5_0 ej5_0 (by decide) dX0_between_5 ?_
  refine lv_iload_n hx hb dX0_between_6 rfl (lv_at hl 2 rfl) ?_
  obtain ⟨j7_1, bj7_1, ej7_1, h⟩ := h
  refine g_iald (128 + j5_0) 40 j7_1 X hw (Or.inl ⟨by omega, by omega⟩) (gLen_40 (by omega) (by omega)) bj7_1 ej7_1 (by decide) dX0_between_7 ?_
  exact g_iret X hw hr hlk h dX0_between_8

abbrev rmX0_strip : Room := { frames := 2, cells := 0, slots := 0, locals := 42 }
def wp_X0_strip (G : GS) (x2 : Int32) (post : Int32 → GS → Prop) : Prop :=
  ∃ j5_0 : Nat, j5_0 < 40 ∧ x2 = nI j5_0 ∧ (∃ I16_2 : Nat → Int32 → Int32 → Int32 → GS → Prop, (∃ n_2 : Nat, I16_2 n_2 0 0 0 G) ∧ ∀ (n_2 : Nat) (v4_2 : Int32) (v5_2 : Int32) (v6_2 : Int32) (G_2 : GS), I16_2 n_2 v4_2 v5_2 v6_2 G_2 → (wp_X3_lengthOf G_2 x2 (fun r_4 G_3 => (r_4 ≤ v6_2 → ((¬ v5_2 = 0 → (∃ j110_6 : Nat, j110_6 < 40 ∧ x2 = nI j110_6 ∧ (∀ G_8 : GS, G_8 = sI G_3 13 j110_6 v4_2 → (post 1 G_8)))) ∧ (v5_2 = 0 → (∃ j92_8 : Nat, j92_8 < 40 ∧ x2 = nI j92_8 ∧ ((v4_2 = (G_3.1 13 j92_8) → (∃ j110_10 : Nat, j110_10 < 40 ∧ x2 = nI j110_10 ∧ (∀ G_12 : GS, G_12 = sI G_3 13 j110_10 v4_2 → (post 0 G_12)))) ∧ (¬ (v4_2 = (G_3.1 13 j92_8)) → (∃ j110_12 : Nat, j110_12 < 40 ∧ x2 = nI j110_12 ∧ (∀ G_14 : GS, G_14 = sI G_3 13 j110_12 v4_2 → (post 1 G_14))))))))) ∧ (¬ (r_4 ≤ v6_2) → (wp_X3_frameAt G_3 x2 v6_2 (fun r_16 G_15 => wp_X3_isCommon G_15 r_16 (fun r_18 G_17 => (¬ r_18 = 0 → (∃ k_21 : Nat, k_21 < n_2 ∧ I16_2 k_21 v4_2 v5_2 (v6_2 + 1) G_17)) ∧ (r_18 = 0 → ((¬ v5_2 = 0 → (∃ j70_22 : Nat, j70_22 < 12 ∧ v4_2 = nI j70_22 ∧ (∀ G_24 : GS, G_24 = sI G_17 (88 + j5_0) j70_22 r_16 → (∃ k_27 : Nat, k_27 < n_2 ∧ I16_2 k_27 (v4_2 + 1) 1 (v6_2 + 1) G_24)))) ∧ (v5_2 = 0 → (∃ j52_27 : Nat, j52_27 < 12 ∧ v4_2 = nI j52_27 ∧ (((G_17.1 (88 + j5_0) j52_27) = r_16 → (∃ j70_29 : Nat, j70_29 < 12 ∧ v4_2 = nI j70_29 ∧ (∀ G_31 : GS, G_31 = sI G_17 (88 + j5_0) j70_29 r_16 → (∃ k_34 : Nat, k_34 < n_2 ∧ I16_2 k_34 (v4_2 + 1) 0 (v6_2 + 1) G_31)))) ∧ (¬ ((G_17.1 (88 + j5_0) j52_27) = r_16) → (∃ j70_34 : Nat, j70_34 < 12 ∧ v4_2 = nI j70_34 ∧ (∀ G_36 : GS, G_36 = sI G_17 (88 + j5_0) j70_34 r_16 → (∃ k_39 : Nat, k_39 < n_2 ∧ I16_2 k_39 (v4_2 + 1) 1 (v6_2 + 1) G_36))))))))))))))))
set_option maxHeartbeats 4000000 in
set_option maxRecDepth 100000 in
theorem m_X0_strip (l : Launch) (D : va_G) (cy : Nat → ClassId) (q : Nat → Nat) (G : GS) (x2 : Int32) (post : Int32 → GS → Prop) (h : wp_X0_strip G x2 post) : gMi l yX0_strip wsX0_strip rmX0_strip D cy q [.ref (q 4), .ref (q 3), .int x2] G post := by
  intro sz
  refine Met.ofW (cc := cX0_strip) (maxL := 8) (ret := (some .boolean)) (by decide) rfl ?_
  intro p e s m args below meth c s₁ B hml hv
  obtain ⟨ha, hsz, X, hw, hA, hr, hlk⟩ := g_start B hml hv
  have hx := X.1.1
  have hb := X.1.2.1
  have hown := X.1.2.2.2.1
  have hts := X.1.2.2.2.2
  refine g_in ha (Nat.le_of_ble_eq_true rfl) (fun ls hl => ?_)
  have hl : lv_has ls 8 [(0, .ref (q 4)), (1, .ref (q 3)), (2, .int x2)] := hl
  unfold wp_X0_strip at h
  have hinX0 : ∀ w ∈ wsX00, w ∈ wsX0_strip := fun _ h9 => (List.mem_cons_of_mem _ (List.mem_append_left _ (List.mem_append_right _ h9)))
  refine lv_aload_n hx hb dX0_strip_0 rfl (lv_at hl 0 rfl) ?_
  refine g_get 4 0 (v := .ref (q 42)) (C := RX0) (T := TX0) (N := 5) X hw (by decide) hinX0 rfl (by decide) (List.mem_cons_of_mem _ (List.mem_append_left _ (List.mem_append_left _ (List.mem_append_left _ (List.mem_of_getElem? (i := 0) rfl))))) rfl dX0_strip_1 ?_
  refine lv_iload_n hx hb dX0_strip_4 rfl (lv_at hl 2 rfl) ?_
  obtain ⟨j5_0, bj5_0, ej5_0, h⟩ := h
  refine g_aald 42 40 j5_0 X hw ⟨by decide, by decide⟩ rfl bj5_0 ej5_0 (by decide) dX0_strip_5 ?_
  refine lv_astore_n (lv' := [(3, .ref (q (88 + j5_0))), (0, .ref (q 4)), (1, .ref (q 3)), (2, .int x2)]) hx hb dX0_strip_6 rfl hl (by decide) rfl (fun ls hl => ?_)
  refine lv_iconst (v := 0) hx hb dX0_strip_7 (by decide) ?_
  refine lv_istore (lv' := [(4, .int 0), (3, .ref (q (88 + j5_0))), (0, .ref (q 4)), (1, .ref (q 3)), (2, .int x2)]) hx hb dX0_strip_8 hl (by decide) rfl (fun ls hl => ?_)
  refine lv_iconst (v := 0) hx hb dX0_strip_10 (by decide) ?_
  refine lv_istore (lv' := [(5, .int 0), (4, .int 0), (3, .ref (q (88 + j5_0))), (0, .ref (q 4)), (1, .ref (q 3)), (2, .int x2)]) hx hb dX0_strip_11 hl (by decide) rfl (fun ls hl => ?_)
  refine lv_iconst (v := 0) hx hb dX0_strip_13 (by decide) ?_
  refine lv_istore (lv' := [(6, .int 0), (5, .int 0), (4, .int 0), (3, .ref (q (88 + j5_0))), (0, .ref (q 4)), (1, .ref (q 3)), (2, .int x2)]) hx hb dX0_strip_14 hl (by decide) rfl (fun ls hl => ?_)
  obtain ⟨I16_2, ⟨n_2, h0⟩, hI16_2⟩ := h
  have LI16_2 : ∀ (n_2 : Nat) (v4_2 : Int32) (v5_2 : Int32) (v6_2 : Int32) (G_2 : GS) (H : Heap) (locs : List Loc) (ls : Array Slot), gH D cy q (gA q sz) s.heap G_2 H locs → lv_has ls 8 [(0, .ref (q 4)), (1, .ref (q 3)), (2, .int x2), (3, .ref (q (88 + j5_0))), (4, .int v4_2), (5, .int v5_2), (6, .int v6_2)] → I16_2 n_2 v4_2 v5_2 v6_2 G_2 → W p l e (headSpec wsX0_strip rmX0_strip).room s m args below meth c H locs 0 0 (MQ below (va_Qi post (gPo D cy q sz) (gA q sz)) args s 0 0 (gA q sz)) (F0 m 16 ls []) := by
    intro n_2
    induction n_2 using Nat.strongRecOn with
    | ind n_2 ihI16_2 =>
      intro v4_2 v5_2 v6_2 G_2 H locs ls hw hl h
      have h := hI16_2 n_2 v4_2 v5_2 v6_2 G_2 h
      refine lv_iload hx hb dX0_strip_16 (lv_at hl 6 rfl) ?_
      refine lv_aload_n hx hb dX0_strip_18 rfl (lv_at hl 1 rfl) ?_
      refine lv_iload_n hx hb dX0_strip_19 rfl (lv_at hl 2 rfl) ?_
      refine g_callVi 3 (C := RX3) (T := TX3) (N := 6) (As := [.int x2]) (rest := [.int v6_2]) X hw hA (m_X3_lengthOf l D cy q G_2 x2 _ h) (by decide) rfl (cwV 1 hts gX0_strip_X3_lengthOf rfl rfl rfl (by decide +kernel) ⟨Nat.le_of_ble_eq_true rfl, Nat.le_of_ble_eq_true rfl⟩) rfl hl.1 rfl (Nat.le_of_ble_eq_true rfl) dX0_strip_20 ⟨Nat.zero_le _, Nat.zero_le _⟩ (fun r_4 G_3 H locs h hw => ?_)
      refine lv_icmp_ge (tgt := 80) hx hb dX0_strip_23 (by decide) (fun c23_4 => ?_) (fun c23_4 => ?_)
      · have h := h.1 c23_4
        refine lv_iload hx hb dX0_strip_80 (lv_at hl 5 rfl) ?_
        refine lv_if_ne (tgt := 96) hx hb dX0_strip_82 (by decide) (fun c82_5 => ?_) (fun c82_5 => ?_)
        · have h := h.1 c82_5
          refine lv_iconst (v := 1) hx hb dX0_strip_96 (by decide) ?_
          refine lv_goto (tgt := 101) hx hb dX0_strip_97 (by decide) ?_
          refine lv_istore (lv' := [(5, .int 1), (0, .ref (q 4)), (1, .ref (q 3)), (2, .int x2), (3, .ref (q (88 + j5_0))), (4, .int v4_2), (6, .int v6_2)]) hx hb dX0_strip_101 hl (by decide) rfl (fun ls hl => ?_)
          refine lv_aload_n hx hb dX0_strip_103 rfl (lv_at hl 1 rfl) ?_
          refine g_get 4 1 (v := .ref (q 13)) (C := RX0) (T := TX0) (N := 5) X hw (by decide) hinX0 rfl (by decide) (List.mem_cons_of_mem _ (List.mem_append_left _ (List.mem_append_left _ (List.mem_append_left _ (List.mem_of_getElem? (i := 1) rfl))))) rfl dX0_strip_104 ?_
          refine lv_iload_n hx hb dX0_strip_107 rfl (lv_at hl 3 rfl) ?_
          refine lv_iload hx hb dX0_strip_108 (lv_at hl 5 rfl) ?_
          obtain ⟨j110_6, bj110_6, ej110_6, h⟩ := h
          refine g_iast 13 40 j110_6 X hw (Or.inr ⟨by decide, by decide⟩) rfl bj110_6 ej110_6 (by decide) dX0_strip_110 (fun H locs hw => ?_)
          obtain ⟨G_8, eG_8⟩ : ∃ z, z = sI G_3 13 j110_6 v4_2 := ⟨_, rfl⟩
          rw [← eG_8] at hw
          have h := h G_8 eG_8
          refine lv_iload hx hb dX0_strip_111 (lv_at hl 0 rfl) ?_
          exact g_zret X hw hr hlk (by decide) h dX0_strip_113
        · have h := h.2 c82_5
          refine lv_iload hx hb dX0_strip_85 (lv_at hl 4 rfl) ?_
          refine lv_aload_n hx hb dX0_strip_87 rfl (lv_at hl 0 rfl) ?_
          refine g_get 4 1 (v := .ref (q 13)) (C := RX0) (T := TX0) (N := 5) X hw (by decide) hinX0 rfl (by decide) (List.mem_cons_of_mem _ (List.mem_append_left _ (List.mem_append_left _ (List.mem_append_left _ (List.mem_of_getElem? (i := 1) rfl))))) rfl dX0_strip_88 ?_
          refine lv_iload_n hx hb dX0_strip_91 rfl (lv_at hl 2 rfl) ?_
          obtain ⟨j92_8, bj92_8, ej92_8, h⟩ := h
          refine g_iald 13 40 j92_8 X hw (Or.inr ⟨by decide, by decide⟩) rfl bj92_8 ej92_8 (by decide) dX0_strip_92 ?_
          refine lv_icmp_eq (tgt := 100) hx hb dX0_strip_93 (by decide) (fun c93_9 => ?_) (fun c93_9 => ?_)
          · have h := h.1 c93_9
            refine lv_iconst (v := 0) hx hb dX0_strip_100 (by decide) ?_
            refine lv_istore (lv' := [(5, .int 0), (0, .ref (q 4)), (1, .ref (q 3)), (2, .int x2), (3, .ref (q (88 + j5_0))), (4, .int v4_2), (6, .int v6_2)]) hx hb dX0_strip_101 hl (by decide) rfl (fun ls hl => ?_)
            refine lv_aload_n hx hb dX0_strip_103 rfl (lv_at hl 1 rfl) ?_
            refine g_get 4 1 (v := .ref (q 13)) (C := RX0) (T := TX0) (N := 5) X hw (by decide) hinX0 rfl (by decide) (List.mem_cons_of_mem _ (List.mem_append_left _ (List.mem_append_left _ (List.mem_append_left _ (List.mem_of_getElem? (i := 1) rfl))))) rfl dX0_strip_104 ?_
            refine lv_iload_n hx hb dX0_strip_107 rfl (lv_at hl 3 rfl) ?_
            refine lv_iload hx hb dX0_strip_108 (lv_at hl 5 rfl) ?_
            obtain ⟨j110_10, bj110_10, ej110_10, h⟩ := h
            refine g_iast 13 40 j110_10 X hw (Or.inr ⟨by decide, by decide⟩) rfl bj110_10 ej110_10 (by decide) dX0_strip_110 (fun H locs hw => ?_)
            obtain ⟨G_12, eG_12⟩ : ∃ z, z = sI G_3 13 j110_10 v4_2 := ⟨_, rfl⟩
            rw [← eG_12] at hw
            have h := h G_12 eG_12
            refine lv_iload hx hb dX0_strip_111 (lv_at hl 0 rfl) ?_
            exact g_zret X hw hr hlk (by decide) h dX0_strip_113
          · have h := h.2 c93_9
            refine lv_iconst (v := 1) hx hb dX0_strip_96 (by decide) ?_
            refine lv_goto (tgt := 101) hx hb dX0_strip_97 (by decide) ?_
            refine lv_istore (lv' := [(5, .int 1), (0, .ref (q 4)), (1, .ref (q 3)), (2, .int x2), (3, .ref (q (88 + j5_0))), (4, .int v4_2), (6, .int v6_2)]) hx hb dX0_strip_101 hl (by decide) rfl (fun ls hl => ?_)
            refine lv_aload_n hx hb dX0_strip_103 rfl (lv_at hl 1 rfl) ?_
            refine g_get 4 1 (v := .ref (q 13)) (C := RX0) (T := TX0) (N := 5) X hw (by decide) hinX0 rfl (by decide) (List.mem_cons_of_mem _ (List.mem_append_left _ (List.mem_append_left _ (List.mem_append_left _ (List.mem_of_getElem? (i := 1) rfl))))) rfl dX0_strip_104 ?_
            refine lv_iload_n hx hb dX0_strip_107 rfl (lv_at hl 3 rfl) ?_
            refine lv_iload hx hb dX0_strip_108 (lv_at hl 5 rfl) ?_
            obtain ⟨j110_12, bj110_12, ej110_12, h⟩ := h
            refine g_iast 13 40 j110_12 X hw (Or.inr ⟨by decide, by decide⟩) rfl bj110_12 ej110_12 (by decide) dX0_strip_110 (fun H locs hw => ?_)
            obtain ⟨G_14, eG_14⟩ : ∃ z, z = sI G_3 13 j110_12 v4_2 := ⟨_, rfl⟩
            rw [← eG_14] at hw
            have h := h G_14 eG_14
            refine lv_iload hx hb dX0_strip_111 (lv_at hl 0 rfl) ?_
            exact g_zret X hw hr hlk (by decide) h dX0_strip_113
      · have h := h.2 c23_4
        refine lv_aload_n hx hb dX0_strip_26 rfl (lv_at hl 1 rfl) ?_
        refine lv_iload_n hx hb dX0_strip_27 rfl (lv_at hl 2 rfl) ?_
        refine lv_iload hx hb dX0_strip_28 (lv_at hl 6 rfl) ?_
        refine g_callVi 3 (C := RX3) (T := TX3) (N := 6) (As := [.int x2, .int v6_2]) (rest := []) X hw hA (m_X3_frameAt l D cy q G_3 x2 v6_2 _ h) (by decide) rfl (cwV 2 hts gX0_strip_X3_frameAt rfl rfl rfl (by decide +kernel) ⟨Nat.le_of_ble_eq_true rfl, Nat.le_of_ble_eq_true rfl⟩) rfl hl.1 rfl (Nat.le_of_ble_eq_true rfl) dX0_strip_30 ⟨Nat.zero_le _, Nat.zero_le _⟩ (fun r_16 G_15 H locs h hw => ?_)
        refine lv_istore (lv' := [(7, .int r_16), (0, .ref (q 4)), (1, .ref (q 3)), (2, .int x2), (3, .ref (q (88 + j5_0))), (4, .int v4_2), (5, .int v5_2), (6, .int v6_2)]) hx hb dX0_strip_33 hl (by decide) rfl (fun ls hl => ?_)
        refine lv_aload_n hx hb dX0_strip_35 rfl (lv_at hl 2 rfl) ?_
        refine lv_iload hx hb dX0_strip_36 (lv_at hl 0 rfl) ?_
        refine g_callVi 3 (C := RX3) (T := TX3) (N := 6) (As := [.int r_16]) (rest := []) X hw hA (m_X3_isCommon l D cy q G_15 r_16 _ h) (by decide) rfl (cwV 1 hts gX0_strip_X3_isCommon rfl rfl rfl (by decide +kernel) ⟨Nat.le_of_ble_eq_true rfl, Nat.le_of_ble_eq_true rfl⟩) rfl hl.1 rfl (Nat.le_of_ble_eq_true rfl) dX0_strip_38 ⟨Nat.zero_le _, Nat.zero_le _⟩ (fun r_18 G_17 H locs h hw => ?_)
        refine lv_if_ne (tgt := 74) hx hb dX0_strip_41 (by decide) (fun c41_18 => ?_) (fun c41_18 => ?_)
        · have h := h.1 c41_18
          refine lv_iinc (v := v6_2 + 1) (lv' := [(6, .int (v6_2 + 1)), (7, .int r_16), (0, .ref (q 4)), (1, .ref (q 3)), (2, .int x2), (3, .ref (q (88 + j5_0))), (4, .int v4_2), (5, .int v5_2)]) hx hb dX0_strip_74 hl (k := 7) rfl rfl (by decide) rfl (fun ls hl => ?_)
          refine lv_goto (tgt := 16) hx hb dX0_strip_77 (by decide) ?_
          obtain ⟨k_21, hm, h⟩ := h
          exact ihI16_2 k_21 hm v4_2 v5_2 (v6_2 + 1) G_17 _ _ ls hw (lv_sub hl [2, 3, 4, 5, 6, 7, 0] rfl) h
        · have h := h.2 c41_18
          refine lv_iload hx hb dX0_strip_44 (lv_at hl 6 rfl) ?_
          refine lv_if_ne (tgt := 58) hx hb dX0_strip_46 (by decide) (fun c46_21 => ?_) (fun c46_21 => ?_)
          · have h := h.1 c46_21
            refine lv_iconst (v := 1) hx hb dX0_strip_58 (by decide) ?_
            refine lv_goto (tgt := 63) hx hb dX0_strip_59 (by decide) ?_
            refine lv_istore (lv' := [(5, .int 1), (7, .int r_16), (0, .ref (q 4)), (1, .ref (q 3)), (2, .int x2), (3, .ref (q (88 + j5_0))), (4, .int v4_2), (6, .int v6_2)]) hx hb dX0_strip_63 hl (by decide) rfl (fun ls hl => ?_)
            refine lv_aload_n hx hb dX0_strip_65 rfl (lv_at hl 5 rfl) ?_
            refine lv_iload hx hb dX0_strip_66 (lv_at hl 6 rfl) ?_
            refine lv_iload hx hb dX0_strip_68 (lv_at hl 1 rfl) ?_
            obtain ⟨j70_22, bj70_22, ej70_22, h⟩ := h
            refine g_iast (88 + j5_0) 12 j70_22 X hw (Or.inl ⟨by omega, by omega⟩) (gLen_12 (by omega) (by omega)) bj70_22 ej70_22 (by decide) dX0_strip_70 (fun H locs hw => ?_)
            obtain ⟨G_24, eG_24⟩ : ∃ z, z = sI G_17 (88 + j5_0) j70_22 r_16 := ⟨_, rfl⟩
            rw [← eG_24] at hw
            have h := h G_24 eG_24
            refine lv_iinc (v := v4_2 + 1) (lv' := [(4, .int (v4_2 + 1)), (5, .int 1), (7, .int r_16), (0, .ref (q 4)), (1, .ref (q 3)), (2, .int x2), (3, .ref (q (88 + j5_0))), (6, .int v6_2)]) hx hb dX0_strip_71 hl (k := 6) rfl rfl (by decide) rfl (fun ls hl => ?_)
            refine lv_iinc (v := v6_2 + 1) (lv' := [(6, .int (v6_2 + 1)), (4, .int (v4_2 + 1)), (5, .int 1), (7, .int r_16), (0, .ref (q 4)), (1, .ref (q 3)), (2, .int x2), (3, .ref (q (88 + j5_0)))]) hx hb dX0_strip_74 hl (k := 7) rfl rfl (by decide) rfl (fun ls hl => ?_)
            refine lv_goto (tgt := 16) hx hb dX0_strip_77 (by decide) ?_
            obtain ⟨k_27, hm, h⟩ := h
            exact ihI16_2 k_27 hm (v4_2 + 1) 1 (v6_2 + 1) G_24 _ _ ls hw (lv_sub hl [4, 5, 6, 7, 1, 2, 0] rfl) h
          · have h := h.2 c46_21
            refine lv_aload_n hx hb dX0_strip_49 rfl (lv_at hl 4 rfl) ?_
            refine lv_iload hx hb dX0_strip_50 (lv_at hl 5 rfl) ?_
            obtain ⟨j52_27, bj52_27, ej52_27, h⟩ := h
            refine g_iald (88 + j5_0) 12 j52_27 X hw (Or.inl ⟨by omega, by omega⟩) (gLen_12 (by omega) (by omega)) bj52_27 ej52_27 (by decide) dX0_strip_52 ?_
            refine lv_iload hx hb dX0_strip_53 (lv_at hl 0 rfl) ?_
            refine lv_icmp_eq (tgt := 62) hx hb dX0_strip_55 (by decide) (fun c55_28 => ?_) (fun c55_28 => ?_)
            · have h := h.1 c55_28
              refine lv_iconst (v := 0) hx hb dX0_strip_62 (by decide) ?_
              refine lv_istore (lv' := [(5, .int 0), (7, .int r_16), (0, .ref (q 4)), (1, .ref (q 3)), (2, .int x2), (3, .ref (q (88 + j5_0))), (4, .int v4_2), (6, .int v6_2)]) hx hb dX0_strip_63 hl (by decide) rfl (fun ls hl => ?_)
              refine lv_aload_n hx hb dX0_strip_65 rfl (lv_at hl 5 rfl) ?_
              refine lv_iload hx hb dX0_strip_66 (lv_at hl 6 rfl) ?_
              refine lv_iload hx hb dX0_strip_68 (lv_at hl 1 rfl) ?_
              obtain ⟨j70_29, bj70_29, ej70_29, h⟩ := h
              refine g_iast (88 + j5_0) 12 j70_29 X hw (Or.inl ⟨by omega, by omega⟩) (gLen_12 (by omega) (by omega)) bj70_29 ej70_29 (by decide) dX0_strip_70 (fun H locs hw => ?_)
              obtain ⟨G_31, eG_31⟩ : ∃ z, z = sI G_17 (88 + j5_0) j70_29 r_16 := ⟨_, rfl⟩
              rw [← eG_31] at hw
              have h := h G_31 eG_31
              refine lv_iinc (v := v4_2 + 1) (lv' := [(4, .int (v4_2 + 1)), (5, .int 0), (7, .int r_16), (0, .ref (q 4)), (1, .ref (q 3)), (2, .int x2), (3, .ref (q (88 + j5_0))), (6, .int v6_2)]) hx hb dX0_strip_71 hl (k := 6) rfl rfl (by decide) rfl (fun ls hl => ?_)
              refine lv_iinc (v := v6_2 + 1) (lv' := [(6, .int (v6_2 + 1)), (4, .int (v4_2 + 1)), (5, .int 0), (7, .int r_16), (0, .ref (q 4)), (1, .ref (q 3)), (2, .int x2), (3, .ref (q (88 + j5_0)))]) hx hb dX0_strip_74 hl (k := 7) rfl rfl (by decide) rfl (fun ls hl => ?_)
              refine lv_goto (tgt := 16) hx hb dX0_strip_77 (by decide) ?_
              obtain ⟨k_34, hm, h⟩ := h
              exact ihI16_2 k_34 hm (v4_2 + 1) 0 (v6_2 + 1) G_31 _ _ ls hw (lv_sub hl [4, 5, 6, 7, 1, 2, 0] rfl) h
            · have h := h.2 c55_28
              refine lv_iconst (v := 1) hx hb dX0_strip_58 (by decide) ?_
              refine lv_goto (tgt := 63) hx hb dX0_strip_59 (by decide) ?_
              refine lv_istore (lv' := [(5, .int 1), (7, .int r_16), (0, .ref (q 4)), (1, .ref (q 3)), (2, .int x2), (3, .ref (q (88 + j5_0))), (4, .int v4_2), (6, .int v6_2)]) hx hb dX0_strip_63 hl (by decide) rfl (fun ls hl => ?_)
              refine lv_aload_n hx hb dX0_strip_65 rfl (lv_at hl 5 rfl) ?_
              refine lv_iload hx hb dX0_strip_66 (lv_at hl 6 rfl) ?_
              refine lv_iload hx hb dX0_strip_68 (lv_at hl 1 rfl) ?_
              obtain ⟨j70_34, bj70_34, ej70_34, h⟩ := h
              refine g_iast (88 + j5_0) 12 j70_34 X hw (Or.inl ⟨by omega, by omega⟩) (gLen_12 (by omega) (by omega)) bj70_34 ej70_34 (by decide) dX0_strip_70 (fun H locs hw => ?_)
              obtain ⟨G_36, eG_36⟩ : ∃ z, z = sI G_17 (88 + j5_0) j70_34 r_16 := ⟨_, rfl⟩
              rw [← eG_36] at hw
              have h := h G_36 eG_36
              refine lv_iinc (v := v4_2 + 1) (lv' := [(4, .int (v4_2 + 1)), (5, .int 1), (7, .int r_16), (0, .ref (q 4)), (1, .ref (q 3)), (2, .int x2), (3, .ref (q (88 + j5_0))), (6, .int v6_2)]) hx hb dX0_strip_71 hl (k := 6) rfl rfl (by decide) rfl (fun ls hl => ?_)
              refine lv_iinc (v := v6_2 + 1) (lv' := [(6, .int (v6_2 + 1)), (4, .int (v4_2 + 1)), (5, .int 1), (7, .int r_16), (0, .ref (q 4)), (1, .ref (q 3)), (2, .int x2), (3, .ref (q (88 + j5_0)))]) hx hb dX0_strip_74 hl (k := 7) rfl rfl (by decide) rfl (fun ls hl => ?_)
              refine lv_goto (tgt := 16) hx hb dX0_strip_77 (by decide) ?_
              obtain ⟨k_39, hm, h⟩ := h
              exact ihI16_2 k_39 hm (v4_2 + 1) 1 (v6_2 + 1) G_36 _ _ ls hw (lv_sub hl [4, 5, 6, 7, 1, 2, 0] rfl) h
  exact LI16_2 n_2 0 0 0 G _ _ ls hw (lv_sub hl [4, 5, 6, 3, 2, 1, 0] rfl) h0

abbrev rmX0_costOfOne : Room := { frames := 0, cells := 0, slots := 0, locals := 0 }
def wp_X0_costOfOne (G : GS) (x0 : Int32) (post : Int32 → GS → Prop) : Prop :=
  (¬ x0 = 0 → (post 2 G)) ∧ (x0 = 0 → (post 1 G))
set_option maxHeartbeats 4000000 in
set_option maxRecDepth 100000 in
theorem m_X0_costOfOne (l : Launch) (D : va_G) (cy : Nat → ClassId) (q : Nat → Nat) (G : GS) (x0 : Int32) (post : Int32 → GS → Prop) (h : wp_X0_costOfOne G x0 post) : gMi l yX0_costOfOne wsX0_costOfOne rmX0_costOfOne D cy q [.int x0] G post := by
  intro sz
  refine Met.ofW (cc := cX0_costOfOne) (maxL := 1) (ret := (some .int)) (by decide) rfl ?_
  intro p e s m args below meth c s₁ B hml hv
  obtain ⟨ha, hsz, X, hw, hA, hr, hlk⟩ := g_start B hml hv
  have hx := X.1.1
  have hb := X.1.2.1
  have hown := X.1.2.2.2.1
  have hts := X.1.2.2.2.2
  refine g_in ha (Nat.le_of_ble_eq_true rfl) (fun ls hl => ?_)
  have hl : lv_has ls 1 [(0, .int x0)] := hl
  unfold wp_X0_costOfOne at h
  refine lv_iload_n hx hb dX0_costOfOne_0 rfl (lv_at hl 0 rfl) ?_
  refine lv_if_ne (tgt := 8) hx hb dX0_costOfOne_1 (by decide) (fun c1_0 => ?_) (fun c1_0 => ?_)
  · have h := h.1 c1_0
    refine lv_iconst (v := 2) hx hb dX0_costOfOne_8 (by decide) ?_
    exact g_iret X hw hr hlk h dX0_costOfOne_9
  · have h := h.2 c1_0
    refine lv_iconst (v := 1) hx hb dX0_costOfOne_4 (by decide) ?_
    refine lv_goto (tgt := 9) hx hb dX0_costOfOne_5 (by decide) ?_
    exact g_iret X hw hr hlk h dX0_costOfOne_9

abbrev rmX0_costOfChange : Room := { frames := 0, cells := 0, slots := 0, locals := 0 }
def wp_X0_costOfChange (G : GS) (x0 : Int32) (x1 : Int32) (post : Int32 → GS → Prop) : Prop :=
  (¬ x0 = x1 → ((x0 = 0 → (post 2 G)) ∧ (¬ (x0 = 0) → ((¬ x1 = 0 → (post 3 G)) ∧ (x1 = 0 → (post 2 G)))))) ∧ (x0 = x1 → (post 0 G))
set_option maxHeartbeats 4000000 in
set_option maxRecDepth 100000 in
theorem m_X0_costOfChange (l : Launch) (D : va_G) (cy : Nat → ClassId) (q : Nat → Nat) (G : GS) (x0 : Int32) (x1 : Int32) (post : Int32 → GS → Prop) (h : wp_X0_costOfChange G x0 x1 post) : gMi l yX0_costOfChange wsX0_costOfChange rmX0_costOfChange D cy q [.int x0, .int x1] G post := by
  intro sz
  refine Met.ofW (cc := cX0_costOfChange) (maxL := 2) (ret := (some .int)) (by decide) rfl ?_
  intro p e s m args below meth c s₁ B hml hv
  obtain ⟨ha, hsz, X, hw, hA, hr, hlk⟩ := g_start B hml hv
  have hx := X.1.1
  have hb := X.1.2.1
  have hown := X.1.2.2.2.1
  have hts := X.1.2.2.2.2
  refine g_in ha (Nat.le_of_ble_eq_true rfl) (fun ls hl => ?_)
  have hl : lv_has ls 2 [(0, .int x0), (1, .int x1)] := hl
  unfold wp_X0_costOfChange at h
  refine lv_iload_n hx hb dX0_costOfChange_0 rfl (lv_at hl 0 rfl) ?_
  refine lv_iload_n hx hb dX0_costOfChange_1 rfl (lv_at hl 1 rfl) ?_
  refine lv_icmp_ne (tgt := 7) hx hb dX0_costOfChange_2 (by decide) (fun c2_0 => ?_) (fun c2_0 => ?_)
  · have h := h.1 c2_0
    refine lv_iload_n hx hb dX0_costOfChange_7 rfl (lv_at hl 0 rfl) ?_
    refine lv_if_eq (tgt := 15) hx hb dX0_costOfChange_8 (by decide) (fun c8_1 => ?_) (fun c8_1 => ?_)
    · have h := h.1 c8_1
      refine lv_iconst (v := 2) hx hb dX0_costOfChange_15 (by decide) ?_
      refine lv_goto (tgt := 20) hx hb dX0_costOfChange_16 (by decide) ?_
      exact g_iret X hw hr hlk h dX0_costOfChange_20
    · have h := h.2 c8_1
      refine lv_iload_n hx hb dX0_costOfChange_11 rfl (lv_at hl 1 rfl) ?_
      refine lv_if_ne (tgt := 19) hx hb dX0_costOfChange_12 (by decide) (fun c12_2 => ?_) (fun c12_2 => ?_)
      · have h := h.1 c12_2
        refine lv_iconst (v := 3) hx hb dX0_costOfChange_19 (by decide) ?_
        exact g_iret X hw hr hlk h dX0_costOfChange_20
      · have h := h.2 c12_2
        refine lv_iconst (v := 2) hx hb dX0_costOfChange_15 (by decide) ?_
        refine lv_goto (tgt := 20) hx hb dX0_costOfChange_16 (by decide) ?_
        exact g_iret X hw hr hlk h dX0_costOfChange_20
  · have h := h.2 c2_0
    refine lv_iconst (v := 0) hx hb dX0_costOfChange_5 (by decide) ?_
    exact g_iret X hw hr hlk h dX0_costOfChange_6

abbrev rmX0_measure : Room := { frames := 1, cells := 0, slots := 0, locals := 21 }
def wp_X0_measure (G : GS) (x1 : Int32) (x2 : Int32) (post : Int32 → GS → Prop) : Prop :=
  ∃ j5_0 : Nat, j5_0 < 40 ∧ x1 = nI j5_0 ∧ (∃ j12_1 : Nat, j12_1 < 40 ∧ x2 = nI j12_1 ∧ (∃ j20_2 : Nat, j20_2 < 13 ∧ 0 = nI j20_2 ∧ (∃ j23_3 : Nat, j23_3 < 13 ∧ 0 = nI j23_3 ∧ (∀ G_5 : GS, G_5 = sI G (288 + j20_2) j23_3 0 → (∃ I27_6 : Nat → Int32 → GS → Prop, (∃ n_6 : Nat, I27_6 n_6 1 G_5) ∧ ∀ (n_6 : Nat) (v5_6 : Int32) (G_6 : GS), I27_6 n_6 v5_6 G_6 → (∃ j34_6 : Nat, j34_6 < 40 ∧ x2 = nI j34_6 ∧ (((G_6.1 13 j34_6) < v5_6 → (∃ I78_9 : Nat → Int32 → GS → Prop, (∃ n_9 : Nat, I78_9 n_9 1 G_6) ∧ ∀ (n_9 : Nat) (v5_9 : Int32) (G_9 : GS), I78_9 n_9 v5_9 G_9 → (∃ j85_9 : Nat, j85_9 < 40 ∧ x1 = nI j85_9 ∧ (((G_9.1 13 j85_9) < v5_9 → (∃ j253_11 : Nat, j253_11 < 40 ∧ x1 = nI j253_11 ∧ (∃ j254_12 : Nat, j254_12 < 13 ∧ G_9.1 13 j253_11 = nI j254_12 ∧ (∃ j260_13 : Nat, j260_13 < 40 ∧ x2 = nI j260_13 ∧ (∃ j261_14 : Nat, j261_14 < 13 ∧ G_9.1 13 j260_13 = nI j261_14 ∧ (post (G_9.1 (288 + j254_12) j261_14) G_9)))))) ∧ (¬ ((G_9.1 13 j85_9) < v5_9) → (∃ j94_15 : Nat, j94_15 < 12 ∧ v5_9 - 1 = nI j94_15 ∧ (∀ y_17 : Int32, y_17 = G_9.1 (88 + j5_0) j94_15 → (∃ j103_17 : Nat, j103_17 < 13 ∧ v5_9 = nI j103_17 ∧ (∃ j113_18 : Nat, j113_18 < 13 ∧ v5_9 - 1 = nI j113_18 ∧ (∃ j115_19 : Nat, j115_19 < 13 ∧ 0 = nI j115_19 ∧ (wp_X0_costOfOne G_9 y_17 (fun r_22 G_21 => ∃ j122_22 : Nat, j122_22 < 13 ∧ 0 = nI j122_22 ∧ (∀ G_24 : GS, G_24 = sI G_21 (288 + j103_17) j122_22 ((G_9.1 (288 + j113_18) j115_19) + r_22) → (∃ I126_25 : Nat → Int32 → GS → Prop, (∃ n_25 : Nat, I126_25 n_25 1 G_24) ∧ ∀ (n_25 : Nat) (v7_25 : Int32) (G_25 : GS), I126_25 n_25 v7_25 G_25 → (∃ j133_25 : Nat, j133_25 < 40 ∧ x2 = nI j133_25 ∧ (((G_25.1 13 j133_25) < v7_25 → (∃ k_29 : Nat, k_29 < n_9 ∧ I78_9 k_29 (v5_9 + 1) G_25)) ∧ (¬ ((G_25.1 13 j133_25) < v7_25) → (∃ j143_29 : Nat, j143_29 < 12 ∧ v7_25 - 1 = nI j143_29 ∧ (∀ y_31 : Int32, y_31 = G_25.1 (88 + j12_1) j143_29 → (∃ j154_31 : Nat, j154_31 < 13 ∧ v5_9 - 1 = nI j154_31 ∧ (∃ j159_32 : Nat, j159_32 < 13 ∧ v7_25 - 1 = nI j159_32 ∧ (wp_X0_costOfChange G_25 y_17 y_31 (fun r_35 G_34 => ∀ y_36 : Int32, y_36 = (G_25.1 (288 + j154_31) j159_32) + r_35 → (∃ j178_36 : Nat, j178_36 < 13 ∧ v5_9 - 1 = nI j178_36 ∧ (∃ j181_37 : Nat, j181_37 < 13 ∧ v7_25 = nI j181_37 ∧ (wp_X0_costOfOne G_34 y_17 (fun r_40 G_39 => ∀ y_41 : Int32, y_41 = (G_34.1 (288 + j178_36) j181_37) + r_40 → (∃ j196_41 : Nat, j196_41 < 13 ∧ v5_9 = nI j196_41 ∧ (∃ j201_42 : Nat, j201_42 < 13 ∧ v7_25 - 1 = nI j201_42 ∧ (wp_X0_costOfOne G_39 y_31 (fun r_45 G_44 => ∀ y_46 : Int32, y_46 = (G_39.1 (288 + j196_41) j201_42) + r_45 → (∃ j216_46 : Nat, j216_46 < 13 ∧ v5_9 = nI j216_46 ∧ (∃ j231_47 : Nat, j231_47 < 13 ∧ v7_25 = nI j231_47 ∧ (∀ G_49 : GS, G_49 = sI G_44 (288 + j216_46) j231_47 (if (if y_46 < y_41 then y_46 else y_41) < y_36 then (if y_46 < y_41 then y_46 else y_41) else y_36) → (∃ k_51 : Nat, k_51 < n_25 ∧ I126_25 k_51 (v7_25 + 1) G_49))))))))))))))))))))))))))))))))))) ∧ (¬ ((G_6.1 13 j34_6) < v5_6) → (∃ j43_51 : Nat, j43_51 < 13 ∧ 0 = nI j43_51 ∧ (∃ j51_52 : Nat, j51_52 < 13 ∧ 0 = nI j51_52 ∧ (∃ j56_53 : Nat, j56_53 < 13 ∧ v5_6 - 1 = nI j56_53 ∧ (∃ j63_54 : Nat, j63_54 < 12 ∧ v5_6 - 1 = nI j63_54 ∧ (wp_X0_costOfOne G_6 (G_6.1 (88 + j12_1) j63_54) (fun r_57 G_56 => ∃ j68_57 : Nat, j68_57 < 13 ∧ v5_6 = nI j68_57 ∧ (∀ G_59 : GS, G_59 = sI G_56 (288 + j43_51) j68_57 ((G_6.1 (288 + j51_52) j56_53) + r_57) → (∃ k_61 : Nat, k_61 < n_6 ∧ I27_6 k_61 (v5_6 + 1) G_59))))))))))))))))
set_option maxHeartbeats 4000000 in
set_option maxRecDepth 100000 in
theorem m_X0_measure (l : Launch) (D : va_G) (cy : Nat → ClassId) (q : Nat → Nat) (G : GS) (x1 : Int32) (x2 : Int32) (post : Int32 → GS → Prop) (h : wp_X0_measure G x1 x2 post) : gMi l yX0_measure wsX0_measure rmX0_measure D cy q [.ref (q 4), .int x1, .int x2] G post := by
  intro sz
  refine Met.ofW (cc := cX0_measure) (maxL := 12) (ret := (some .int)) (by decide) rfl ?_
  intro p e s m args below meth c s₁ B hml hv
  obtain ⟨ha, hsz, X, hw, hA, hr, hlk⟩ := g_start B hml hv
  have hx := X.1.1
  have hb := X.1.2.1
  have hown := X.1.2.2.2.1
  have hts := X.1.2.2.2.2
  refine g_in ha (Nat.le_of_ble_eq_true rfl) (fun ls hl => ?_)
  have hl : lv_has ls 12 [(0, .ref (q 4)), (1, .int x1), (2, .int x2)] := hl
  unfold wp_X0_measure at h
  have hinX0 : ∀ w ∈ wsX00, w ∈ wsX0_measure := fun _ h9 => (List.mem_cons_of_mem _ (List.mem_append_right _ h9))
  refine lv_aload_n hx hb dX0_measure_0 rfl (lv_at hl 0 rfl) ?_
  refine g_get 4 0 (v := .ref (q 42)) (C := RX0) (T := TX0) (N := 5) X hw (by decide) hinX0 rfl (by decide) (List.mem_cons_of_mem _ (List.mem_append_left _ (List.mem_of_getElem? (i := 0) rfl))) rfl dX0_measure_1 ?_
  refine lv_iload_n hx hb dX0_measure_4 rfl (lv_at hl 1 rfl) ?_
  obtain ⟨j5_0, bj5_0, ej5_0, h⟩ := h
  refine g_aald 42 40 j5_0 X hw ⟨by decide, by decide⟩ rfl bj5_0 ej5_0 (by decide) dX0_measure_5 ?_
  refine lv_astore_n (lv' := [(3, .ref (q (88 + j5_0))), (0, .ref (q 4)), (1, .int x1), (2, .int x2)]) hx hb dX0_measure_6 rfl hl (by decide) rfl (fun ls hl => ?_)
  refine lv_aload_n hx hb dX0_measure_7 rfl (lv_at hl 1 rfl) ?_
  refine g_get 4 0 (v := .ref (q 42)) (C := RX0) (T := TX0) (N := 5) X hw (by decide) hinX0 rfl (by decide) (List.mem_cons_of_mem _ (List.mem_append_left _ (List.mem_of_getElem? (i := 0) rfl))) rfl dX0_measure_8 ?_
  refine lv_iload_n hx hb dX0_measure_11 rfl (lv_at hl 3 rfl) ?_
  obtain ⟨j12_1, bj12_1, ej12_1, h⟩ := h
  refine g_aald 42 40 j12_1 X hw ⟨by decide, by decide⟩ rfl bj12_1 ej12_1 (by decide) dX0_measure_12 ?_
  refine lv_astore (lv' := [(4, .ref (q (88 + j12_1))), (3, .ref (q (88 + j5_0))), (0, .ref (q 4)), (1, .int x1), (2, .int x2)]) hx hb dX0_measure_13 hl (by decide) rfl (fun ls hl => ?_)
  refine lv_aload_n hx hb dX0_measure_15 rfl (lv_at hl 2 rfl) ?_
  refine g_get 4 4 (v := .ref (q 44)) (C := RX0) (T := TX0) (N := 5) X hw (by decide) hinX0 rfl (by decide) (List.mem_cons_of_mem _ (List.mem_append_left _ (List.mem_of_getElem? (i := 1) rfl))) rfl dX0_measure_16 ?_
  refine lv_iconst (v := 0) hx hb dX0_measure_19 (by decide) ?_
  obtain ⟨j20_2, bj20_2, ej20_2, h⟩ := h
  refine g_aald 44 13 j20_2 X hw ⟨by decide, by decide⟩ rfl bj20_2 ej20_2 (by decide) dX0_measure_20 ?_
  refine lv_iconst (v := 0) hx hb dX0_measure_21 (by decide) ?_
  refine lv_iconst (v := 0) hx hb dX0_measure_22 (by decide) ?_
  obtain ⟨j23_3, bj23_3, ej23_3, h⟩ := h
  refine g_iast (288 + j20_2) 13 j23_3 X hw (Or.inl ⟨by omega, by omega⟩) (gLen_13 (by omega) (by omega)) bj23_3 ej23_3 (by decide) dX0_measure_23 (fun H locs hw => ?_)
  obtain ⟨G_5, eG_5⟩ : ∃ z, z = sI G (288 + j20_2) j23_3 0 := ⟨_, rfl⟩
  rw [← eG_5] at hw
  have h := h G_5 eG_5
  refine lv_iconst (v := 1) hx hb dX0_measure_24 (by decide) ?_
  refine lv_istore (lv' := [(5, .int 1), (4, .ref (q (88 + j12_1))), (3, .ref (q (88 + j5_0))), (0, .ref (q 4)), (1, .int x1), (2, .int x2)]) hx hb dX0_measure_25 hl (by decide) rfl (fun ls hl => ?_)
  obtain ⟨I27_6, ⟨n_6, h0⟩, hI27_6⟩ := h
  have LI27_6 : ∀ (n_6 : Nat) (v5_6 : Int32) (G_6 : GS) (H : Heap) (locs : List Loc) (ls : Array Slot), gH D cy q (gA q sz) s.heap G_6 H locs → lv_has ls 12 [(0, .ref (q 4)), (1, .int x1), (2, .int x2), (3, .ref (q (88 + j5_0))), (4, .ref (q (88 + j12_1))), (5, .int v5_6)] → I27_6 n_6 v5_6 G_6 → W p l e (headSpec wsX0_measure rmX0_measure).room s m args below meth c H locs 0 0 (MQ below (va_Qi post (gPo D cy q sz) (gA q sz)) args s 0 0 (gA q sz)) (F0 m 27 ls []) := by
    intro n_6
    induction n_6 using Nat.strongRecOn with
    | ind n_6 ihI27_6 =>
      intro v5_6 G_6 H locs ls hw hl h
      have h := hI27_6 n_6 v5_6 G_6 h
      refine lv_iload hx hb dX0_measure_27 (lv_at hl 5 rfl) ?_
      refine lv_aload_n hx hb dX0_measure_29 rfl (lv_at hl 0 rfl) ?_
      refine g_get 4 1 (v := .ref (q 13)) (C := RX0) (T := TX0) (N := 5) X hw (by decide) hinX0 rfl (by decide) (List.mem_cons_of_mem _ (List.mem_append_left _ (List.mem_of_getElem? (i := 2) rfl))) rfl dX0_measure_30 ?_
      refine lv_iload_n hx hb dX0_measure_33 rfl (lv_at hl 2 rfl) ?_
      obtain ⟨j34_6, bj34_6, ej34_6, h⟩ := h
      refine g_iald 13 40 j34_6 X hw (Or.inr ⟨by decide, by decide⟩) rfl bj34_6 ej34_6 (by decide) dX0_measure_34 ?_
      refine lv_icmp_gt (tgt := 75) hx hb dX0_measure_35 (by decide) (fun c35_7 => ?_) (fun c35_7 => ?_)
      · have h := h.1 c35_7
        refine lv_iconst (v := 1) hx hb dX0_measure_75 (by decide) ?_
        refine lv_istore (lv' := [(5, .int 1), (0, .ref (q 4)), (1, .int x1), (2, .int x2), (3, .ref (q (88 + j5_0))), (4, .ref (q (88 + j12_1)))]) hx hb dX0_measure_76 hl (by decide) rfl (fun ls hl => ?_)
        obtain ⟨I78_9, ⟨n_9, h0⟩, hI78_9⟩ := h
        have LI78_9 : ∀ (n_9 : Nat) (v5_9 : Int32) (G_9 : GS) (H : Heap) (locs : List Loc) (ls : Array Slot), gH D cy q (gA q sz) s.heap G_9 H locs → lv_has ls 12 [(0, .ref (q 4)), (1, .int x1), (2, .int x2), (3, .ref (q (88 + j5_0))), (4, .ref (q (88 + j12_1))), (5, .int v5_9)] → I78_9 n_9 v5_9 G_9 → W p l e (headSpec wsX0_measure rmX0_measure).room s m args below meth c H locs 0 0 (MQ below (va_Qi post (gPo D cy q sz) (gA q sz)) args s 0 0 (gA q sz)) (F0 m 78 ls []) := by
          intro n_9
          induction n_9 using Nat.strongRecOn with
          | ind n_9 ihI78_9 =>
            intro v5_9 G_9 H locs ls hw hl h
            have h := hI78_9 n_9 v5_9 G_9 h
            refine lv_iload hx hb dX0_measure_78 (lv_at hl 5 rfl) ?_
            refine lv_aload_n hx hb dX0_measure_80 rfl (lv_at hl 0 rfl) ?_
            refine g_get 4 1 (v := .ref (q 13)) (C := RX0) (T := TX0) (N := 5) X hw (by decide) hinX0 rfl (by decide) (List.mem_cons_of_mem _ (List.mem_append_left _ (List.mem_of_getElem? (i := 2) rfl))) rfl dX0_measure_81 ?_
            refine lv_iload_n hx hb dX0_measure_84 rfl (lv_at hl 1 rfl) ?_
            obtain ⟨j85_9, bj85_9, ej85_9, h⟩ := h
            refine g_iald 13 40 j85_9 X hw (Or.inr ⟨by decide, by decide⟩) rfl bj85_9 ej85_9 (by decide) dX0_measure_85 ?_
            refine lv_icmp_gt (tgt := 244) hx hb dX0_measure_86 (by decide) (fun c86_10 => ?_) (fun c86_10 => ?_)
            · have h := h.1 c86_10
              refine lv_aload_n hx hb dX0_measure_244 rfl (lv_at hl 0 rfl) ?_
              refine g_get 4 4 (v := .ref (q 44)) (C := RX0) (T := TX0) (N := 5) X hw (by decide) hinX0 rfl (by decide) (List.mem_cons_of_mem _ (List.mem_append_left _ (List.mem_of_getElem? (i := 1) rfl))) rfl dX0_measure_245 ?_
              refine lv_aload_n hx hb dX0_measure_248 rfl (lv_at hl 0 rfl) ?_
              refine g_get 4 1 (v := .ref (q 13)) (C := RX0) (T := TX0) (N := 5) X hw (by decide) hinX0 rfl (by decide) (List.mem_cons_of_mem _ (List.mem_append_left _ (List.mem_of_getElem? (i := 2) rfl))) rfl dX0_measure_249 ?_
              refine lv_iload_n hx hb dX0_measure_252 rfl (lv_at hl 1 rfl) ?_
              obtain ⟨j253_11, bj253_11, ej253_11, h⟩ := h
              refine g_iald 13 40 j253_11 X hw (Or.inr ⟨by decide, by decide⟩) rfl bj253_11 ej253_11 (by decide) dX0_measure_253 ?_
              obtain ⟨j254_12, bj254_12, ej254_12, h⟩ := h
              refine g_aald 44 13 j254_12 X hw ⟨by decide, by decide⟩ rfl bj254_12 ej254_12 (by decide) dX0_measure_254 ?_
              refine lv_aload_n hx hb dX0_measure_255 rfl (lv_at hl 0 rfl) ?_
              refine g_get 4 1 (v := .ref (q 13)) (C := RX0) (T := TX0) (N := 5) X hw (by decide) hinX0 rfl (by decide) (List.mem_cons_of_mem _ (List.mem_append_left _ (List.mem_of_getElem? (i := 2) rfl))) rfl dX0_measure_256 ?_
              refine lv_iload_n hx hb dX0_measure_259 rfl (lv_at hl 2 rfl) ?_
              obtain ⟨j260_13, bj260_13, ej260_13, h⟩ := h
              refine g_iald 13 40 j260_13 X hw (Or.inr ⟨by decide, by decide⟩) rfl bj260_13 ej260_13 (by decide) dX0_measure_260 ?_
              obtain ⟨j261_14, bj261_14, ej261_14, h⟩ := h
              refine g_iald (288 + j254_12) 13 j261_14 X hw (Or.inl ⟨by omega, by omega⟩) (gLen_13 (by omega) (by omega)) bj261_14 ej261_14 (by decide) dX0_measure_261 ?_
              exact g_iret X hw hr hlk h dX0_measure_262
            · have h := h.2 c86_10
              refine lv_aload_n hx hb dX0_measure_89 rfl (lv_at hl 3 rfl) ?_
              refine lv_iload hx hb dX0_measure_90 (lv_at hl 5 rfl) ?_
              refine lv_iconst (v := 1) hx hb dX0_measure_92 (by decide) ?_
              refine lv_isub hx hb dX0_measure_93 ?_
              obtain ⟨j94_15, bj94_15, ej94_15, h⟩ := h
              refine g_iald (88 + j5_0) 12 j94_15 X hw (Or.inl ⟨by omega, by omega⟩) (gLen_12 (by omega) (by omega)) bj94_15 ej94_15 (by decide) dX0_measure_94 ?_
              refine lv_topi (fun y_17 ey_17 => ?_)
              have h := h y_17 ey_17
              refine lv_istore (lv' := [(6, .int y_17), (0, .ref (q 4)), (1, .int x1), (2, .int x2), (3, .ref (q (88 + j5_0))), (4, .ref (q (88 + j12_1))), (5, .int v5_9)]) hx hb dX0_measure_95 hl (by decide) rfl (fun ls hl => ?_)
              refine lv_aload_n hx hb dX0_measure_97 rfl (lv_at hl 1 rfl) ?_
              refine g_get 4 4 (v := .ref (q 44)) (C := RX0) (T := TX0) (N := 5) X hw (by decide) hinX0 rfl (by decide) (List.mem_cons_of_mem _ (List.mem_append_left _ (List.mem_of_getElem? (i := 1) rfl))) rfl dX0_measure_98 ?_
              refine lv_iload hx hb dX0_measure_101 (lv_at hl 6 rfl) ?_
              obtain ⟨j103_17, bj103_17, ej103_17, h⟩ := h
              refine g_aald 44 13 j103_17 X hw ⟨by decide, by decide⟩ rfl bj103_17 ej103_17 (by decide) dX0_measure_103 ?_
              refine lv_iconst (v := 0) hx hb dX0_measure_104 (by decide) ?_
              refine lv_aload_n hx hb dX0_measure_105 rfl (lv_at hl 1 rfl) ?_
              refine g_get 4 4 (v := .ref (q 44)) (C := RX0) (T := TX0) (N := 5) X hw (by decide) hinX0 rfl (by decide) (List.mem_cons_of_mem _ (List.mem_append_left _ (List.mem_of_getElem? (i := 1) rfl))) rfl dX0_measure_106 ?_
              refine lv_iload hx hb dX0_measure_109 (lv_at hl 6 rfl) ?_
              refine lv_iconst (v := 1) hx hb dX0_measure_111 (by decide) ?_
              refine lv_isub hx hb dX0_measure_112 ?_
              obtain ⟨j113_18, bj113_18, ej113_18, h⟩ := h
              refine g_aald 44 13 j113_18 X hw ⟨by decide, by decide⟩ rfl bj113_18 ej113_18 (by decide) dX0_measure_113 ?_
              refine lv_iconst (v := 0) hx hb dX0_measure_114 (by decide) ?_
              obtain ⟨j115_19, bj115_19, ej115_19, h⟩ := h
              refine g_iald (288 + j113_18) 13 j115_19 X hw (Or.inl ⟨by omega, by omega⟩) (gLen_13 (by omega) (by omega)) bj115_19 ej115_19 (by decide) dX0_measure_115 ?_
              refine lv_iload hx hb dX0_measure_116 (lv_at hl 0 rfl) ?_
              refine g_callSi (As := [.int y_17]) (rest := [.int (G_9.1 (288 + j113_18) j115_19), .int 0, .ref (q (288 + j103_17))]) X hw hA (m_X0_costOfOne l D cy q G_9 y_17 _ h) (va_cwS 1 hts gX0_measure_X0_costOfOne rfl rfl rfl (by decide +kernel) ⟨Nat.le_of_ble_eq_true rfl, Nat.le_of_ble_eq_true rfl⟩) rfl hl.1 rfl (Nat.le_of_ble_eq_true rfl) dX0_measure_118 ⟨Nat.zero_le _, Nat.zero_le _⟩ (fun r_22 G_21 H locs h hw => ?_)
              refine lv_iadd hx hb dX0_measure_121 ?_
              obtain ⟨j122_22, bj122_22, ej122_22, h⟩ := h
              refine g_iast (288 + j103_17) 13 j122_22 X hw (Or.inl ⟨by omega, by omega⟩) (gLen_13 (by omega) (by omega)) bj122_22 ej122_22 (by decide) dX0_measure_122 (fun H locs hw => ?_)
              obtain ⟨G_24, eG_24⟩ : ∃ z, z = sI G_21 (288 + j103_17) j122_22 ((G_9.1 (288 + j113_18) j115_19) + r_22) := ⟨_, rfl⟩
              rw [← eG_24] at hw
              have h := h G_24 eG_24
              refine lv_iconst (v := 1) hx hb dX0_measure_123 (by decide) ?_
              refine lv_istore (lv' := [(7, .int 1), (6, .int y_17), (0, .ref (q 4)), (1, .int x1), (2, .int x2), (3, .ref (q (88 + j5_0))), (4, .ref (q (88 + j12_1))), (5, .int v5_9)]) hx hb dX0_measure_124 hl (by decide) rfl (fun ls hl => ?_)
              obtain ⟨I126_25, ⟨n_25, h0⟩, hI126_25⟩ := h
              have LI126_25 : ∀ (n_25 : Nat) (v7_25 : Int32) (G_25 : GS) (H : Heap) (locs : List Loc) (ls : Array Slot), gH D cy q (gA q sz) s.heap G_25 H locs → lv_has ls 12 [(0, .ref (q 4)), (1, .int x1), (2, .int x2), (3, .ref (q (88 + j5_0))), (4, .ref (q (88 + j12_1))), (5, .int v5_9), (6, .int y_17), (7, .int v7_25)] → I126_25 n_25 v7_25 G_25 → W p l e (headSpec wsX0_measure rmX0_measure).room s m args below meth c H locs 0 0 (MQ below (va_Qi post (gPo D cy q sz) (gA q sz)) args s 0 0 (gA q sz)) (F0 m 126 ls []) := by
                intro n_25
                induction n_25 using Nat.strongRecOn with
                | ind n_25 ihI126_25 =>
                  intro v7_25 G_25 H locs ls hw hl h
                  have h := hI126_25 n_25 v7_25 G_25 h
                  refine lv_iload hx hb dX0_measure_126 (lv_at hl 7 rfl) ?_
                  refine lv_aload_n hx hb dX0_measure_128 rfl (lv_at hl 0 rfl) ?_
                  refine g_get 4 1 (v := .ref (q 13)) (C := RX0) (T := TX0) (N := 5) X hw (by decide) hinX0 rfl (by decide) (List.mem_cons_of_mem _ (List.mem_append_left _ (List.mem_of_getElem? (i := 2) rfl))) rfl dX0_measure_129 ?_
                  refine lv_iload_n hx hb dX0_measure_132 rfl (lv_at hl 2 rfl) ?_
                  obtain ⟨j133_25, bj133_25, ej133_25, h⟩ := h
                  refine g_iald 13 40 j133_25 X hw (Or.inr ⟨by decide, by decide⟩) rfl bj133_25 ej133_25 (by decide) dX0_measure_133 ?_
                  refine lv_icmp_gt (tgt := 238) hx hb dX0_measure_134 (by decide) (fun c134_26 => ?_) (fun c134_26 => ?_)
                  · have h := h.1 c134_26
                    refine lv_iinc (v := v5_9 + 1) (lv' := [(5, .int (v5_9 + 1)), (0, .ref (q 4)), (1, .int x1), (2, .int x2), (3, .ref (q (88 + j5_0))), (4, .ref (q (88 + j12_1))), (6, .int y_17), (7, .int v7_25)]) hx hb dX0_measure_238 hl (k := 5) rfl rfl (by decide) rfl (fun ls hl => ?_)
                    refine lv_goto (tgt := 78) hx hb dX0_measure_241 (by decide) ?_
                    obtain ⟨k_29, hm, h⟩ := h
                    exact ihI78_9 k_29 hm (v5_9 + 1) G_25 _ _ ls hw (lv_sub hl [1, 2, 3, 4, 5, 0] rfl) h
                  · have h := h.2 c134_26
                    refine lv_aload hx hb dX0_measure_137 (lv_at hl 4 rfl) ?_
                    refine lv_iload hx hb dX0_measure_139 (lv_at hl 7 rfl) ?_
                    refine lv_iconst (v := 1) hx hb dX0_measure_141 (by decide) ?_
                    refine lv_isub hx hb dX0_measure_142 ?_
                    obtain ⟨j143_29, bj143_29, ej143_29, h⟩ := h
                    refine g_iald (88 + j12_1) 12 j143_29 X hw (Or.inl ⟨by omega, by omega⟩) (gLen_12 (by omega) (by omega)) bj143_29 ej143_29 (by decide) dX0_measure_143 ?_
                    refine lv_topi (fun y_31 ey_31 => ?_)
                    have h := h y_31 ey_31
                    refine lv_istore (lv' := [(8, .int y_31), (0, .ref (q 4)), (1, .int x1), (2, .int x2), (3, .ref (q (88 + j5_0))), (4, .ref (q (88 + j12_1))), (5, .int v5_9), (6, .int y_17), (7, .int v7_25)]) hx hb dX0_measure_144 hl (by decide) rfl (fun ls hl => ?_)
                    refine lv_aload_n hx hb dX0_measure_146 rfl (lv_at hl 1 rfl) ?_
                    refine g_get 4 4 (v := .ref (q 44)) (C := RX0) (T := TX0) (N := 5) X hw (by decide) hinX0 rfl (by decide) (List.mem_cons_of_mem _ (List.mem_append_left _ (List.mem_of_getElem? (i := 1) rfl))) rfl dX0_measure_147 ?_
                    refine lv_iload hx hb dX0_measure_150 (lv_at hl 6 rfl) ?_
                    refine lv_iconst (v := 1) hx hb dX0_measure_152 (by decide) ?_
                    refine lv_isub hx hb dX0_measure_153 ?_
                    obtain ⟨j154_31, bj154_31, ej154_31, h⟩ := h
                    refine g_aald 44 13 j154_31 X hw ⟨by decide, by decide⟩ rfl bj154_31 ej154_31 (by decide) dX0_measure_154 ?_
                    refine lv_iload hx hb dX0_measure_155 (lv_at hl 8 rfl) ?_
                    refine lv_iconst (v := 1) hx hb dX0_measure_157 (by decide) ?_
                    refine lv_isub hx hb dX0_measure_158 ?_
                    obtain ⟨j159_32, bj159_32, ej159_32, h⟩ := h
                    refine g_iald (288 + j154_31) 13 j159_32 X hw (Or.inl ⟨by omega, by omega⟩) (gLen_13 (by omega) (by omega)) bj159_32 ej159_32 (by decide) dX0_measure_159 ?_
                    refine lv_iload hx hb dX0_measure_160 (lv_at hl 7 rfl) ?_
                    refine lv_iload hx hb dX0_measure_162 (lv_at hl 0 rfl) ?_
                    refine g_callSi (As := [.int y_17, .int y_31]) (rest := [.int (G_25.1 (288 + j154_31) j159_32)]) X hw hA (m_X0_costOfChange l D cy q G_25 y_17 y_31 _ h) (va_cwS 2 hts gX0_measure_X0_costOfChange rfl rfl rfl (by decide +kernel) ⟨Nat.le_of_ble_eq_true rfl, Nat.le_of_ble_eq_true rfl⟩) rfl hl.1 rfl (Nat.le_of_ble_eq_true rfl) dX0_measure_164 ⟨Nat.zero_le _, Nat.zero_le _⟩ (fun r_35 G_34 H locs h hw => ?_)
                    refine lv_iadd hx hb dX0_measure_167 ?_
                    refine lv_topi (fun y_36 ey_36 => ?_)
                    have h := h y_36 ey_36
                    refine lv_istore (lv' := [(9, .int y_36), (8, .int y_31), (0, .ref (q 4)), (1, .int x1), (2, .int x2), (3, .ref (q (88 + j5_0))), (4, .ref (q (88 + j12_1))), (5, .int v5_9), (6, .int y_17), (7, .int v7_25)]) hx hb dX0_measure_168 hl (by decide) rfl (fun ls hl => ?_)
                    refine lv_aload_n hx hb dX0_measure_170 rfl (lv_at hl 2 rfl) ?_
                    refine g_get 4 4 (v := .ref (q 44)) (C := RX0) (T := TX0) (N := 5) X hw (by decide) hinX0 rfl (by decide) (List.mem_cons_of_mem _ (List.mem_append_left _ (List.mem_of_getElem? (i := 1) rfl))) rfl dX0_measure_171 ?_
                    refine lv_iload hx hb dX0_measure_174 (lv_at hl 7 rfl) ?_
                    refine lv_iconst (v := 1) hx hb dX0_measure_176 (by decide) ?_
                    refine lv_isub hx hb dX0_measure_177 ?_
                    obtain ⟨j178_36, bj178_36, ej178_36, h⟩ := h
                    refine g_aald 44 13 j178_36 X hw ⟨by decide, by decide⟩ rfl bj178_36 ej178_36 (by decide) dX0_measure_178 ?_
                    refine lv_iload hx hb dX0_measure_179 (lv_at hl 9 rfl) ?_
                    obtain ⟨j181_37, bj181_37, ej181_37, h⟩ := h
                    refine g_iald (288 + j178_36) 13 j181_37 X hw (Or.inl ⟨by omega, by omega⟩) (gLen_13 (by omega) (by omega)) bj181_37 ej181_37 (by decide) dX0_measure_181 ?_
                    refine lv_iload hx hb dX0_measure_182 (lv_at hl 8 rfl) ?_
                    refine g_callSi (As := [.int y_17]) (rest := [.int (G_34.1 (288 + j178_36) j181_37)]) X hw hA (m_X0_costOfOne l D cy q G_34 y_17 _ h) (va_cwS 1 hts gX0_measure_X0_costOfOne rfl rfl rfl (by decide +kernel) ⟨Nat.le_of_ble_eq_true rfl, Nat.le_of_ble_eq_true rfl⟩) rfl hl.1 rfl (Nat.le_of_ble_eq_true rfl) dX0_measure_184 ⟨Nat.zero_le _, Nat.zero_le _⟩ (fun r_40 G_39 H locs h hw => ?_)
                    refine lv_iadd hx hb dX0_measure_187 ?_
                    refine lv_topi (fun y_41 ey_41 => ?_)
                    have h := h y_41 ey_41
                    refine lv_istore (lv' := [(10, .int y_41), (9, .int y_36), (8, .int y_31), (0, .ref (q 4)), (1, .int x1), (2, .int x2), (3, .ref (q (88 + j5_0))), (4, .ref (q (88 + j12_1))), (5, .int v5_9), (6, .int y_17), (7, .int v7_25)]) hx hb dX0_measure_188 hl (by decide) rfl (fun ls hl => ?_)
                    refine lv_aload_n hx hb dX0_measure_190 rfl (lv_at hl 3 rfl) ?_
                    refine g_get 4 4 (v := .ref (q 44)) (C := RX0) (T := TX0) (N := 5) X hw (by decide) hinX0 rfl (by decide) (List.mem_cons_of_mem _ (List.mem_append_left _ (List.mem_of_getElem? (i := 1) rfl))) rfl dX0_measure_191 ?_
                    refine lv_iload hx hb dX0_measure_194 (lv_at hl 8 rfl) ?_
                    obtain ⟨j196_41, bj196_41, ej196_41, h⟩ := h
                    refine g_aald 44 13 j196_41 X hw ⟨by decide, by decide⟩ rfl bj196_41 ej196_41 (by decide) dX0_measure_196 ?_
                    refine lv_iload hx hb dX0_measure_197 (lv_at hl 10 rfl) ?_
                    refine lv_iconst (v := 1) hx hb dX0_measure_199 (by decide) ?_
                    refine lv_isub hx hb dX0_measure_200 ?_
                    obtain ⟨j201_42, bj201_42, ej201_42, h⟩ := h
                    refine g_iald (288 + j196_41) 13 j201_42 X hw (Or.inl ⟨by omega, by omega⟩) (gLen_13 (by omega) (by omega)) bj201_42 ej201_42 (by decide) dX0_measure_201 ?_
                    refine lv_iload hx hb dX0_measure_202 (lv_at hl 2 rfl) ?_
                    refine g_callSi (As := [.int y_31]) (rest := [.int (G_39.1 (288 + j196_41) j201_42)]) X hw hA (m_X0_costOfOne l D cy q G_39 y_31 _ h) (va_cwS 1 hts gX0_measure_X0_costOfOne rfl rfl rfl (by decide +kernel) ⟨Nat.le_of_ble_eq_true rfl, Nat.le_of_ble_eq_true rfl⟩) rfl hl.1 rfl (Nat.le_of_ble_eq_true rfl) dX0_measure_204 ⟨Nat.zero_le _, Nat.zero_le _⟩ (fun r_45 G_44 H locs h hw => ?_)
                    refine lv_iadd hx hb dX0_measure_207 ?_
                    refine lv_topi (fun y_46 ey_46 => ?_)
                    have h := h y_46 ey_46
                    refine lv_istore (lv' := [(11, .int y_46), (10, .int y_41), (9, .int y_36), (8, .int y_31), (0, .ref (q 4)), (1, .int x1), (2, .int x2), (3, .ref (q (88 + j5_0))), (4, .ref (q (88 + j12_1))), (5, .int v5_9), (6, .int y_17), (7, .int v7_25)]) hx hb dX0_measure_208 hl (by decide) rfl (fun ls hl => ?_)
                    refine lv_aload_n hx hb dX0_measure_210 rfl (lv_at hl 4 rfl) ?_
                    refine g_get 4 4 (v := .ref (q 44)) (C := RX0) (T := TX0) (N := 5) X hw (by decide) hinX0 rfl (by decide) (List.mem_cons_of_mem _ (List.mem_append_left _ (List.mem_of_getElem? (i := 1) rfl))) rfl dX0_measure_211 ?_
                    refine lv_iload hx hb dX0_measure_214 (lv_at hl 9 rfl) ?_
                    obtain ⟨j216_46, bj216_46, ej216_46, h⟩ := h
                    refine g_aald 44 13 j216_46 X hw ⟨by decide, by decide⟩ rfl bj216_46 ej216_46 (by decide) dX0_measure_216 ?_
                    refine lv_iload hx hb dX0_measure_217 (lv_at hl 11 rfl) ?_
                    refine lv_iload hx hb dX0_measure_219 (lv_at hl 2 rfl) ?_
                    refine lv_iload hx hb dX0_measure_221 (lv_at hl 1 rfl) ?_
                    refine lv_iload hx hb dX0_measure_223 (lv_at hl 0 rfl) ?_
                    refine va_mmin hx hb (by rw [hl.1]; exact X.1.2.2.1) hown (hts _ (List.mem_cons_of_mem _ (List.mem_append_left _ (List.mem_of_getElem? (i := 3) rfl)))) (hts _ (List.mem_cons_of_mem _ (List.mem_append_left _ (List.mem_of_getElem? (i := 4) rfl)))) (hts _ (List.mem_cons_of_mem _ (List.mem_append_left _ (List.mem_of_getElem? (i := 5) rfl)))) (hts _ (List.mem_cons_of_mem _ (List.mem_append_left _ (List.mem_of_getElem? (i := 6) rfl)))) (Nat.le_of_ble_eq_true rfl) (Nat.le_of_ble_eq_true rfl) (Nat.zero_le _) (Nat.zero_le _) dX0_measure_225 ?_
                    refine va_mmin hx hb (by rw [hl.1]; exact X.1.2.2.1) hown (hts _ (List.mem_cons_of_mem _ (List.mem_append_left _ (List.mem_of_getElem? (i := 3) rfl)))) (hts _ (List.mem_cons_of_mem _ (List.mem_append_left _ (List.mem_of_getElem? (i := 4) rfl)))) (hts _ (List.mem_cons_of_mem _ (List.mem_append_left _ (List.mem_of_getElem? (i := 5) rfl)))) (hts _ (List.mem_cons_of_mem _ (List.mem_append_left _ (List.mem_of_getElem? (i := 6) rfl)))) (Nat.le_of_ble_eq_true rfl) (Nat.le_of_ble_eq_true rfl) (Nat.zero_le _) (Nat.zero_le _) dX0_measure_228 ?_
                    obtain ⟨j231_47, bj231_47, ej231_47, h⟩ := h
                    refine g_iast (288 + j216_46) 13 j231_47 X hw (Or.inl ⟨by omega, by omega⟩) (gLen_13 (by omega) (by omega)) bj231_47 ej231_47 (by decide) dX0_measure_231 (fun H locs hw => ?_)
                    obtain ⟨G_49, eG_49⟩ : ∃ z, z = sI G_44 (288 + j216_46) j231_47 (if (if y_46 < y_41 then y_46 else y_41) < y_36 then (if y_46 < y_41 then y_46 else y_41) else y_36) := ⟨_, rfl⟩
                    rw [← eG_49] at hw
                    have h := h G_49 eG_49
                    refine lv_iinc (v := v7_25 + 1) (lv' := [(7, .int (v7_25 + 1)), (11, .int y_46), (10, .int y_41), (9, .int y_36), (8, .int y_31), (0, .ref (q 4)), (1, .int x1), (2, .int x2), (3, .ref (q (88 + j5_0))), (4, .ref (q (88 + j12_1))), (5, .int v5_9), (6, .int y_17)]) hx hb dX0_measure_232 hl (k := 11) rfl rfl (by decide) rfl (fun ls hl => ?_)
                    refine lv_goto (tgt := 126) hx hb dX0_measure_235 (by decide) ?_
                    obtain ⟨k_51, hm, h⟩ := h
                    exact ihI126_25 k_51 hm (v7_25 + 1) G_49 _ _ ls hw (lv_sub hl [5, 6, 7, 8, 9, 10, 11, 0] rfl) h
              exact LI126_25 n_25 1 G_24 _ _ ls hw (lv_sub hl [2, 3, 4, 5, 6, 7, 1, 0] rfl) h0
        exact LI78_9 n_9 1 G_6 _ _ ls hw (lv_sub hl [1, 2, 3, 4, 5, 0] rfl) h0
      · have h := h.2 c35_7
        refine lv_aload_n hx hb dX0_measure_38 rfl (lv_at hl 0 rfl) ?_
        refine g_get 4 4 (v := .ref (q 44)) (C := RX0) (T := TX0) (N := 5) X hw (by decide) hinX0 rfl (by decide) (List.mem_cons_of_mem _ (List.mem_append_left _ (List.mem_of_getElem? (i := 1) rfl))) rfl dX0_measure_39 ?_
        refine lv_iconst (v := 0) hx hb dX0_measure_42 (by decide) ?_
        obtain ⟨j43_51, bj43_51, ej43_51, h⟩ := h
        refine g_aald 44 13 j43_51 X hw ⟨by decide, by decide⟩ rfl bj43_51 ej43_51 (by decide) dX0_measure_43 ?_
        refine lv_iload hx hb dX0_measure_44 (lv_at hl 5 rfl) ?_
        refine lv_aload_n hx hb dX0_measure_46 rfl (lv_at hl 0 rfl) ?_
        refine g_get 4 4 (v := .ref (q 44)) (C := RX0) (T := TX0) (N := 5) X hw (by decide) hinX0 rfl (by decide) (List.mem_cons_of_mem _ (List.mem_append_left _ (List.mem_of_getElem? (i := 1) rfl))) rfl dX0_measure_47 ?_
        refine lv_iconst (v := 0) hx hb dX0_measure_50 (by decide) ?_
        obtain ⟨j51_52, bj51_52, ej51_52, h⟩ := h
        refine g_aald 44 13 j51_52 X hw ⟨by decide, by decide⟩ rfl bj51_52 ej51_52 (by decide) dX0_measure_51 ?_
        refine lv_iload hx hb dX0_measure_52 (lv_at hl 5 rfl) ?_
        refine lv_iconst (v := 1) hx hb dX0_measure_54 (by decide) ?_
        refine lv_isub hx hb dX0_measure_55 ?_
        obtain ⟨j56_53, bj56_53, ej56_53, h⟩ := h
        refine g_iald (288 + j51_52) 13 j56_53 X hw (Or.inl ⟨by omega, by omega⟩) (gLen_13 (by omega) (by omega)) bj56_53 ej56_53 (by decide) dX0_measure_56 ?_
        refine lv_aload hx hb dX0_measure_57 (lv_at hl 4 rfl) ?_
        refine lv_iload hx hb dX0_measure_59 (lv_at hl 5 rfl) ?_
        refine lv_iconst (v := 1) hx hb dX0_measure_61 (by decide) ?_
        refine lv_isub hx hb dX0_measure_62 ?_
        obtain ⟨j63_54, bj63_54, ej63_54, h⟩ := h
        refine g_iald (88 + j12_1) 12 j63_54 X hw (Or.inl ⟨by omega, by omega⟩) (gLen_12 (by omega) (by omega)) bj63_54 ej63_54 (by decide) dX0_measure_63 ?_
        refine g_callSi (As := [.int (G_6.1 (88 + j12_1) j63_54)]) (rest := [.int (G_6.1 (288 + j51_52) j56_53), .int v5_6, .ref (q (288 + j43_51))]) X hw hA (m_X0_costOfOne l D cy q G_6 (G_6.1 (88 + j12_1) j63_54) _ h) (va_cwS 1 hts gX0_measure_X0_costOfOne rfl rfl rfl (by decide +kernel) ⟨Nat.le_of_ble_eq_true rfl, Nat.le_of_ble_eq_true rfl⟩) rfl hl.1 rfl (Nat.le_of_ble_eq_true rfl) dX0_measure_64 ⟨Nat.zero_le _, Nat.zero_le _⟩ (fun r_57 G_56 H locs h hw => ?_)
        refine lv_iadd hx hb dX0_measure_67 ?_
        obtain ⟨j68_57, bj68_57, ej68_57, h⟩ := h
        refine g_iast (288 + j43_51) 13 j68_57 X hw (Or.inl ⟨by omega, by omega⟩) (gLen_13 (by omega) (by omega)) bj68_57 ej68_57 (by decide) dX0_measure_68 (fun H locs hw => ?_)
        obtain ⟨G_59, eG_59⟩ : ∃ z, z = sI G_56 (288 + j43_51) j68_57 ((G_6.1 (288 + j51_52) j56_53) + r_57) := ⟨_, rfl⟩
        rw [← eG_59] at hw
        have h := h G_59 eG_59
        refine lv_iinc (v := v5_6 + 1) (lv' := [(5, .int (v5_6 + 1)), (0, .ref (q 4)), (1, .int x1), (2, .int x2), (3, .ref (q (88 + j5_0))), (4, .ref (q (88 + j12_1)))]) hx hb dX0_measure_69 hl (k := 5) rfl rfl (by decide) rfl (fun ls hl => ?_)
        refine lv_goto (tgt := 27) hx hb dX0_measure_72 (by decide) ?_
        obtain ⟨k_61, hm, h⟩ := h
        exact ihI27_6 k_61 hm (v5_6 + 1) G_59 _ _ ls hw (lv_sub hl [1, 2, 3, 4, 5, 0] rfl) h
  exact LI27_6 n_6 1 G_5 _ _ ls hw (lv_sub hl [3, 4, 5, 2, 1, 0] rfl) h0

abbrev rmX0_renew : Room := { frames := 3, cells := 0, slots := 0, locals := 69 }
def wp_X0_renew (G : GS)  (post : GS → Prop) : Prop :=
  wp_X3_howMany G (fun r_2 G_1 => ∃ I7_3 : Nat → Int32 → GS → Prop, (∃ n_3 : Nat, I7_3 n_3 0 G_1) ∧ ∀ (n_3 : Nat) (v3_3 : Int32) (G_3 : GS), I7_3 n_3 v3_3 G_3 → ((r_2 ≤ v3_3 → (∃ I32_5 : Nat → Int32 → GS → Prop, (∃ n_5 : Nat, I32_5 n_5 0 G_3) ∧ ∀ (n_5 : Nat) (v3_5 : Int32) (G_5 : GS), I32_5 n_5 v3_5 G_5 → ((r_2 ≤ v3_5 → (post G_5)) ∧ (¬ (r_2 ≤ v3_5) → (∃ I40_7 : Nat → Int32 → GS → Prop, (∃ n_7 : Nat, I40_7 n_7 0 G_5) ∧ ∀ (n_7 : Nat) (v4_7 : Int32) (G_7 : GS), I40_7 n_7 v4_7 G_7 → ((v3_5 ≤ v4_7 → (∃ k_10 : Nat, k_10 < n_5 ∧ I32_5 k_10 (v3_5 + 1) G_7)) ∧ (¬ (v3_5 ≤ v4_7) → (∃ j51_10 : Nat, j51_10 < 40 ∧ v3_5 = nI j51_10 ∧ ((¬ (G_7.1 36 j51_10) = 0 → (wp_X0_measure G_7 v3_5 v4_7 (fun r_14 G_13 => ∃ j79_14 : Nat, j79_14 < 40 ∧ v3_5 = nI j79_14 ∧ (∃ j84_15 : Nat, j84_15 < 40 ∧ v4_7 = nI j84_15 ∧ (∀ G_17 : GS, G_17 = sI G_13 (128 + j79_14) j84_15 r_14 → (∃ j91_17 : Nat, j91_17 < 40 ∧ v4_7 = nI j91_17 ∧ (∃ j95_18 : Nat, j95_18 < 40 ∧ v3_5 = nI j95_18 ∧ (∀ G_20 : GS, G_20 = sI G_17 (128 + j91_17) j95_18 r_14 → (∃ k_22 : Nat, k_22 < n_7 ∧ I40_7 k_22 (v4_7 + 1) G_20))))))))) ∧ ((G_7.1 36 j51_10) = 0 → (∃ j61_22 : Nat, j61_22 < 40 ∧ v4_7 = nI j61_22 ∧ (((G_7.1 36 j61_22) = 0 → (∃ k_26 : Nat, k_26 < n_7 ∧ I40_7 k_26 (v4_7 + 1) G_7)) ∧ (¬ ((G_7.1 36 j61_22) = 0) → (wp_X0_measure G_7 v3_5 v4_7 (fun r_28 G_27 => ∃ j79_28 : Nat, j79_28 < 40 ∧ v3_5 = nI j79_28 ∧ (∃ j84_29 : Nat, j84_29 < 40 ∧ v4_7 = nI j84_29 ∧ (∀ G_31 : GS, G_31 = sI G_27 (128 + j79_28) j84_29 r_28 → (∃ j91_31 : Nat, j91_31 < 40 ∧ v4_7 = nI j91_31 ∧ (∃ j95_32 : Nat, j95_32 < 40 ∧ v3_5 = nI j95_32 ∧ (∀ G_34 : GS, G_34 = sI G_31 (128 + j91_31) j95_32 r_28 → (∃ k_36 : Nat, k_36 < n_7 ∧ I40_7 k_36 (v4_7 + 1) G_34))))))))))))))))))))) ∧ (¬ (r_2 ≤ v3_3) → (wp_X0_strip G_3 v3_3 (fun r_38 G_37 => ∃ j23_38 : Nat, j23_38 < 40 ∧ v3_3 = nI j23_38 ∧ ((r_38 = 0 ∨ r_38 = 1) ∧ (∀ G_40 : GS, G_40 = sI G_37 36 j23_38 r_38 → (∃ k_42 : Nat, k_42 < n_3 ∧ I7_3 k_42 (v3_3 + 1) G_40))))))))
set_option maxHeartbeats 4000000 in
set_option maxRecDepth 100000 in
theorem m_X0_renew (l : Launch) (D : va_G) (cy : Nat → ClassId) (q : Nat → Nat) (G : GS)  (post : GS → Prop) (h : wp_X0_renew G  post) : gMv l yX0_renew wsX0_renew rmX0_renew D cy q [.ref (q 4), .ref (q 3)] G post := by
  intro sz
  refine Met.ofW (cc := cX0_renew) (maxL := 6) (ret := none) (by decide) rfl ?_
  intro p e s m args below meth c s₁ B hml hv
  obtain ⟨ha, hsz, X, hw, hA, hr, hlk⟩ := g_start B hml hv
  have hx := X.1.1
  have hb := X.1.2.1
  have hown := X.1.2.2.2.1
  have hts := X.1.2.2.2.2
  refine g_in ha (Nat.le_of_ble_eq_true rfl) (fun ls hl => ?_)
  have hl : lv_has ls 6 [(0, .ref (q 4)), (1, .ref (q 3))] := hl
  unfold wp_X0_renew at h
  have hinX0 : ∀ w ∈ wsX00, w ∈ wsX0_renew := fun _ h9 => (List.mem_cons_of_mem _ (List.mem_append_left _ (List.mem_append_right _ h9)))
  refine lv_aload_n hx hb dX0_renew_0 rfl (lv_at hl 1 rfl) ?_
  refine g_callVi 3 (C := RX3) (T := TX3) (N := 6) (As := []) (rest := []) X hw hA (m_X3_howMany l D cy q G _ h) (by decide) rfl (cwV 0 hts gX0_renew_X3_howMany rfl rfl rfl (by decide +kernel) ⟨Nat.le_of_ble_eq_true rfl, Nat.le_of_ble_eq_true rfl⟩) rfl hl.1 rfl (Nat.le_of_ble_eq_true rfl) dX0_renew_1 ⟨Nat.zero_le _, Nat.zero_le _⟩ (fun r_2 G_1 H locs h hw => ?_)
  refine lv_istore_n (lv' := [(2, .int r_2), (0, .ref (q 4)), (1, .ref (q 3))]) hx hb dX0_renew_4 rfl hl (by decide) rfl (fun ls hl => ?_)
  refine lv_iconst (v := 0) hx hb dX0_renew_5 (by decide) ?_
  refine lv_istore_n (lv' := [(3, .int 0), (2, .int r_2), (0, .ref (q 4)), (1, .ref (q 3))]) hx hb dX0_renew_6 rfl hl (by decide) rfl (fun ls hl => ?_)
  obtain ⟨I7_3, ⟨n_3, h0⟩, hI7_3⟩ := h
  have LI7_3 : ∀ (n_3 : Nat) (v3_3 : Int32) (G_3 : GS) (H : Heap) (locs : List Loc) (ls : Array Slot), gH D cy q (gA q sz) s.heap G_3 H locs → lv_has ls 6 [(0, .ref (q 4)), (1, .ref (q 3)), (2, .int r_2), (3, .int v3_3)] → I7_3 n_3 v3_3 G_3 → W p l e (headSpec wsX0_renew rmX0_renew).room s m args below meth c H locs 0 0 (MQ below (va_Qv post (gPo D cy q sz) (gA q sz)) args s 0 0 (gA q sz)) (F0 m 7 ls []) := by
    intro n_3
    induction n_3 using Nat.strongRecOn with
    | ind n_3 ihI7_3 =>
      intro v3_3 G_3 H locs ls hw hl h
      have h := hI7_3 n_3 v3_3 G_3 h
      refine lv_iload_n hx hb dX0_renew_7 rfl (lv_at hl 3 rfl) ?_
      refine lv_iload_n hx hb dX0_renew_8 rfl (lv_at hl 2 rfl) ?_
      refine lv_icmp_ge (tgt := 30) hx hb dX0_renew_9 (by decide) (fun c9_3 => ?_) (fun c9_3 => ?_)
      · have h := h.1 c9_3
        refine lv_iconst (v := 0) hx hb dX0_renew_30 (by decide) ?_
        refine lv_istore_n (lv' := [(3, .int 0), (0, .ref (q 4)), (1, .ref (q 3)), (2, .int r_2)]) hx hb dX0_renew_31 rfl hl (by decide) rfl (fun ls hl => ?_)
        obtain ⟨I32_5, ⟨n_5, h0⟩, hI32_5⟩ := h
        have LI32_5 : ∀ (n_5 : Nat) (v3_5 : Int32) (G_5 : GS) (H : Heap) (locs : List Loc) (ls : Array Slot), gH D cy q (gA q sz) s.heap G_5 H locs → lv_has ls 6 [(0, .ref (q 4)), (2, .int r_2), (3, .int v3_5)] → I32_5 n_5 v3_5 G_5 → W p l e (headSpec wsX0_renew rmX0_renew).room s m args below meth c H locs 0 0 (MQ below (va_Qv post (gPo D cy q sz) (gA q sz)) args s 0 0 (gA q sz)) (F0 m 32 ls []) := by
          intro n_5
          induction n_5 using Nat.strongRecOn with
          | ind n_5 ihI32_5 =>
            intro v3_5 G_5 H locs ls hw hl h
            have h := hI32_5 n_5 v3_5 G_5 h
            refine lv_iload_n hx hb dX0_renew_32 rfl (lv_at hl 2 rfl) ?_
            refine lv_iload_n hx hb dX0_renew_33 rfl (lv_at hl 1 rfl) ?_
            refine lv_icmp_ge (tgt := 108) hx hb dX0_renew_34 (by decide) (fun c34_5 => ?_) (fun c34_5 => ?_)
            · have h := h.1 c34_5
              exact g_vret X hw hr hlk h dX0_renew_108
            · have h := h.2 c34_5
              refine lv_iconst (v := 0) hx hb dX0_renew_37 (by decide) ?_
              refine lv_istore (lv' := [(4, .int 0), (0, .ref (q 4)), (2, .int r_2), (3, .int v3_5)]) hx hb dX0_renew_38 hl (by decide) rfl (fun ls hl => ?_)
              obtain ⟨I40_7, ⟨n_7, h0⟩, hI40_7⟩ := h
              have LI40_7 : ∀ (n_7 : Nat) (v4_7 : Int32) (G_7 : GS) (H : Heap) (locs : List Loc) (ls : Array Slot), gH D cy q (gA q sz) s.heap G_7 H locs → lv_has ls 6 [(0, .ref (q 4)), (2, .int r_2), (3, .int v3_5), (4, .int v4_7)] → I40_7 n_7 v4_7 G_7 → W p l e (headSpec wsX0_renew rmX0_renew).room s m args below meth c H locs 0 0 (MQ below (va_Qv post (gPo D cy q sz) (gA q sz)) args s 0 0 (gA q sz)) (F0 m 40 ls []) := by
                intro n_7
                induction n_7 using Nat.strongRecOn with
                | ind n_7 ihI40_7 =>
                  intro v4_7 G_7 H locs ls hw hl h
                  have h := hI40_7 n_7 v4_7 G_7 h
                  refine lv_iload hx hb dX0_renew_40 (lv_at hl 3 rfl) ?_
                  refine lv_iload_n hx hb dX0_renew_42 rfl (lv_at hl 2 rfl) ?_
                  refine lv_icmp_ge (tgt := 102) hx hb dX0_renew_43 (by decide) (fun c43_7 => ?_) (fun c43_7 => ?_)
                  · have h := h.1 c43_7
                    refine lv_iinc (v := v3_5 + 1) (lv' := [(3, .int (v3_5 + 1)), (0, .ref (q 4)), (2, .int r_2), (4, .int v4_7)]) hx hb dX0_renew_102 hl (k := 2) rfl rfl (by decide) rfl (fun ls hl => ?_)
                    refine lv_goto (tgt := 32) hx hb dX0_renew_105 (by decide) ?_
                    obtain ⟨k_10, hm, h⟩ := h
                    exact ihI32_5 k_10 hm (v3_5 + 1) G_7 _ _ ls hw (lv_sub hl [1, 2, 0] rfl) h
                  · have h := h.2 c43_7
                    refine lv_aload_n hx hb dX0_renew_46 rfl (lv_at hl 0 rfl) ?_
                    refine g_get 4 2 (v := .ref (q 36)) (C := RX0) (T := TX0) (N := 5) X hw (by decide) hinX0 rfl (by decide) (List.mem_cons_of_mem _ (List.mem_append_left _ (List.mem_append_left _ (List.mem_append_left _ (List.mem_of_getElem? (i := 0) rfl))))) rfl dX0_renew_47 ?_
                    refine lv_iload_n hx hb dX0_renew_50 rfl (lv_at hl 2 rfl) ?_
                    obtain ⟨j51_10, bj51_10, ej51_10, h⟩ := h
                    refine g_zald 36 40 j51_10 X hw ⟨by decide, by decide⟩ rfl bj51_10 ej51_10 (by decide) dX0_renew_51 ?_
                    refine lv_if_ne (tgt := 65) hx hb dX0_renew_52 (by decide) (fun c52_11 => ?_) (fun c52_11 => ?_)
                    · have h := h.1 c52_11
                      refine lv_aload_n hx hb dX0_renew_65 rfl (lv_at hl 0 rfl) ?_
                      refine lv_iload_n hx hb dX0_renew_66 rfl (lv_at hl 2 rfl) ?_
                      refine lv_iload hx hb dX0_renew_67 (lv_at hl 3 rfl) ?_
                      refine g_callVi 4 (C := RX0) (T := TX0) (N := 5) (As := [.int v3_5, .int v4_7]) (rest := []) X hw hA (m_X0_measure l D cy q G_7 v3_5 v4_7 _ h) (by decide) rfl (cwV 2 hts gX0_renew_X0_measure rfl rfl rfl (by decide +kernel) ⟨Nat.le_of_ble_eq_true rfl, Nat.le_of_ble_eq_true rfl⟩) rfl hl.1 rfl (Nat.le_of_ble_eq_true rfl) dX0_renew_69 ⟨Nat.zero_le _, Nat.zero_le _⟩ (fun r_14 G_13 H locs h hw => ?_)
                      refine lv_istore (lv' := [(5, .int r_14), (0, .ref (q 4)), (2, .int r_2), (3, .int v3_5), (4, .int v4_7)]) hx hb dX0_renew_72 hl (by decide) rfl (fun ls hl => ?_)
                      refine lv_aload_n hx hb dX0_renew_74 rfl (lv_at hl 1 rfl) ?_
                      refine g_get 4 3 (v := .ref (q 43)) (C := RX0) (T := TX0) (N := 5) X hw (by decide) hinX0 rfl (by decide) (List.mem_cons_of_mem _ (List.mem_append_left _ (List.mem_append_left _ (List.mem_append_left _ (List.mem_of_getElem? (i := 1) rfl))))) rfl dX0_renew_75 ?_
                      refine lv_iload_n hx hb dX0_renew_78 rfl (lv_at hl 3 rfl) ?_
                      obtain ⟨j79_14, bj79_14, ej79_14, h⟩ := h
                      refine g_aald 43 40 j79_14 X hw ⟨by decide, by decide⟩ rfl bj79_14 ej79_14 (by decide) dX0_renew_79 ?_
                      refine lv_iload hx hb dX0_renew_80 (lv_at hl 4 rfl) ?_
                      refine lv_iload hx hb dX0_renew_82 (lv_at hl 0 rfl) ?_
                      obtain ⟨j84_15, bj84_15, ej84_15, h⟩ := h
                      refine g_iast (128 + j79_14) 40 j84_15 X hw (Or.inl ⟨by omega, by omega⟩) (gLen_40 (by omega) (by omega)) bj84_15 ej84_15 (by decide) dX0_renew_84 (fun H locs hw => ?_)
                      obtain ⟨G_17, eG_17⟩ : ∃ z, z = sI G_13 (128 + j79_14) j84_15 r_14 := ⟨_, rfl⟩
                      rw [← eG_17] at hw
                      have h := h G_17 eG_17
                      refine lv_aload_n hx hb dX0_renew_85 rfl (lv_at hl 1 rfl) ?_
                      refine g_get 4 3 (v := .ref (q 43)) (C := RX0) (T := TX0) (N := 5) X hw (by decide) hinX0 rfl (by decide) (List.mem_cons_of_mem _ (List.mem_append_left _ (List.mem_append_left _ (List.mem_append_left _ (List.mem_of_getElem? (i := 1) rfl))))) rfl dX0_renew_86 ?_
                      refine lv_iload hx hb dX0_renew_89 (lv_at hl 4 rfl) ?_
                      obtain ⟨j91_17, bj91_17, ej91_17, h⟩ := h
                      refine g_aald 43 40 j91_17 X hw ⟨by decide, by decide⟩ rfl bj91_17 ej91_17 (by decide) dX0_renew_91 ?_
                      refine lv_iload_n hx hb dX0_renew_92 rfl (lv_at hl 3 rfl) ?_
                      refine lv_iload hx hb dX0_renew_93 (lv_at hl 0 rfl) ?_
                      obtain ⟨j95_18, bj95_18, ej95_18, h⟩ := h
                      refine g_iast (128 + j91_17) 40 j95_18 X hw (Or.inl ⟨by omega, by omega⟩) (gLen_40 (by omega) (by omega)) bj95_18 ej95_18 (by decide) dX0_renew_95 (fun H locs hw => ?_)
                      obtain ⟨G_20, eG_20⟩ : ∃ z, z = sI G_17 (128 + j91_17) j95_18 r_14 := ⟨_, rfl⟩
                      rw [← eG_20] at hw
                      have h := h G_20 eG_20
                      refine lv_iinc (v := v4_7 + 1) (lv' := [(4, .int (v4_7 + 1)), (5, .int r_14), (0, .ref (q 4)), (2, .int r_2), (3, .int v3_5)]) hx hb dX0_renew_96 hl (k := 4) rfl rfl (by decide) rfl (fun ls hl => ?_)
                      refine lv_goto (tgt := 40) hx hb dX0_renew_99 (by decide) ?_
                      obtain ⟨k_22, hm, h⟩ := h
                      exact ihI40_7 k_22 hm (v4_7 + 1) G_20 _ _ ls hw (lv_sub hl [2, 3, 4, 0] rfl) h
                    · have h := h.2 c52_11
                      refine lv_aload_n hx hb dX0_renew_55 rfl (lv_at hl 0 rfl) ?_
                      refine g_get 4 2 (v := .ref (q 36)) (C := RX0) (T := TX0) (N := 5) X hw (by decide) hinX0 rfl (by decide) (List.mem_cons_of_mem _ (List.mem_append_left _ (List.mem_append_left _ (List.mem_append_left _ (List.mem_of_getElem? (i := 0) rfl))))) rfl dX0_renew_56 ?_
                      refine lv_iload hx hb dX0_renew_59 (lv_at hl 3 rfl) ?_
                      obtain ⟨j61_22, bj61_22, ej61_22, h⟩ := h
                      refine g_zald 36 40 j61_22 X hw ⟨by decide, by decide⟩ rfl bj61_22 ej61_22 (by decide) dX0_renew_61 ?_
                      refine lv_if_eq (tgt := 96) hx hb dX0_renew_62 (by decide) (fun c62_23 => ?_) (fun c62_23 => ?_)
                      · have h := h.1 c62_23
                        refine lv_iinc (v := v4_7 + 1) (lv' := [(4, .int (v4_7 + 1)), (0, .ref (q 4)), (2, .int r_2), (3, .int v3_5)]) hx hb dX0_renew_96 hl (k := 3) rfl rfl (by decide) rfl (fun ls hl => ?_)
                        refine lv_goto (tgt := 40) hx hb dX0_renew_99 (by decide) ?_
                        obtain ⟨k_26, hm, h⟩ := h
                        exact ihI40_7 k_26 hm (v4_7 + 1) G_7 _ _ ls hw (lv_sub hl [1, 2, 3, 0] rfl) h
                      · have h := h.2 c62_23
                        refine lv_aload_n hx hb dX0_renew_65 rfl (lv_at hl 0 rfl) ?_
                        refine lv_iload_n hx hb dX0_renew_66 rfl (lv_at hl 2 rfl) ?_
                        refine lv_iload hx hb dX0_renew_67 (lv_at hl 3 rfl) ?_
                        refine g_callVi 4 (C := RX0) (T := TX0) (N := 5) (As := [.int v3_5, .int v4_7]) (rest := []) X hw hA (m_X0_measure l D cy q G_7 v3_5 v4_7 _ h) (by decide) rfl (cwV 2 hts gX0_renew_X0_measure rfl rfl rfl (by decide +kernel) ⟨Nat.le_of_ble_eq_true rfl, Nat.le_of_ble_eq_true rfl⟩) rfl hl.1 rfl (Nat.le_of_ble_eq_true rfl) dX0_renew_69 ⟨Nat.zero_le _, Nat.zero_le _⟩ (fun r_28 G_27 H locs h hw => ?_)
                        refine lv_istore (lv' := [(5, .int r_28), (0, .ref (q 4)), (2, .int r_2), (3, .int v3_5), (4, .int v4_7)]) hx hb dX0_renew_72 hl (by decide) rfl (fun ls hl => ?_)
                        refine lv_aload_n hx hb dX0_renew_74 rfl (lv_at hl 1 rfl) ?_
                        refine g_get 4 3 (v := .ref (q 43)) (C := RX0) (T := TX0) (N := 5) X hw (by decide) hinX0 rfl (by decide) (List.mem_cons_of_mem _ (List.mem_append_left _ (List.mem_append_left _ (List.mem_append_left _ (List.mem_of_getElem? (i := 1) rfl))))) rfl dX0_renew_75 ?_
                        refine lv_iload_n hx hb dX0_renew_78 rfl (lv_at hl 3 rfl) ?_
                        obtain ⟨j79_28, bj79_28, ej79_28, h⟩ := h
                        refine g_aald 43 40 j79_28 X hw ⟨by decide, by decide⟩ rfl bj79_28 ej79_28 (by decide) dX0_renew_79 ?_
                        refine lv_iload hx hb dX0_renew_80 (lv_at hl 4 rfl) ?_
                        refine lv_iload hx hb dX0_renew_82 (lv_at hl 0 rfl) ?_
                        obtain ⟨j84_29, bj84_29, ej84_29, h⟩ := h
                        refine g_iast (128 + j79_28) 40 j84_29 X hw (Or.inl ⟨by omega, by omega⟩) (gLen_40 (by omega) (by omega)) bj84_29 ej84_29 (by decide) dX0_renew_84 (fun H locs hw => ?_)
                        obtain ⟨G_31, eG_31⟩ : ∃ z, z = sI G_27 (128 + j79_28) j84_29 r_28 := ⟨_, rfl⟩
                        rw [← eG_31] at hw
                        have h := h G_31 eG_31
                        refine lv_aload_n hx hb dX0_renew_85 rfl (lv_at hl 1 rfl) ?_
                        refine g_get 4 3 (v := .ref (q 43)) (C := RX0) (T := TX0) (N := 5) X hw (by decide) hinX0 rfl (by decide) (List.mem_cons_of_mem _ (List.mem_append_left _ (List.mem_append_left _ (List.mem_append_left _ (List.mem_of_getElem? (i := 1) rfl))))) rfl dX0_renew_86 ?_
                        refine lv_iload hx hb dX0_renew_89 (lv_at hl 4 rfl) ?_
                        obtain ⟨j91_31, bj91_31, ej91_31, h⟩ := h
                        refine g_aald 43 40 j91_31 X hw ⟨by decide, by decide⟩ rfl bj91_31 ej91_31 (by decide) dX0_renew_91 ?_
                        refine lv_iload_n hx hb dX0_renew_92 rfl (lv_at hl 3 rfl) ?_
                        refine lv_iload hx hb dX0_renew_93 (lv_at hl 0 rfl) ?_
                        obtain ⟨j95_32, bj95_32, ej95_32, h⟩ := h
                        refine g_iast (128 + j91_31) 40 j95_32 X hw (Or.inl ⟨by omega, by omega⟩) (gLen_40 (by omega) (by omega)) bj95_32 ej95_32 (by decide) dX0_renew_95 (fun H locs hw => ?_)
                        obtain ⟨G_34, eG_34⟩ : ∃ z, z = sI G_31 (128 + j91_31) j95_32 r_28 := ⟨_, rfl⟩
                        rw [← eG_34] at hw
                        have h := h G_34 eG_34
                        refine lv_iinc (v := v4_7 + 1) (lv' := [(4, .int (v4_7 + 1)), (5, .int r_28), (0, .ref (q 4)), (2, .int r_2), (3, .int v3_5)]) hx hb dX0_renew_96 hl (k := 4) rfl rfl (by decide) rfl (fun ls hl => ?_)
                        refine lv_goto (tgt := 40) hx hb dX0_renew_99 (by decide) ?_
                        obtain ⟨k_36, hm, h⟩ := h
                        exact ihI40_7 k_36 hm (v4_7 + 1) G_34 _ _ ls hw (lv_sub hl [2, 3, 4, 0] rfl) h
              exact LI40_7 n_7 0 G_5 _ _ ls hw (lv_sub hl [1, 2, 3, 0] rfl) h0
        exact LI32_5 n_5 0 G_3 _ _ ls hw (lv_sub hl [1, 3, 0] rfl) h0
      · have h := h.2 c9_3
        refine lv_aload_n hx hb dX0_renew_12 rfl (lv_at hl 0 rfl) ?_
        refine g_get 4 2 (v := .ref (q 36)) (C := RX0) (T := TX0) (N := 5) X hw (by decide) hinX0 rfl (by decide) (List.mem_cons_of_mem _ (List.mem_append_left _ (List.mem_append_left _ (List.mem_append_left _ (List.mem_of_getElem? (i := 0) rfl))))) rfl dX0_renew_13 ?_
        refine lv_iload_n hx hb dX0_renew_16 rfl (lv_at hl 3 rfl) ?_
        refine lv_aload_n hx hb dX0_renew_17 rfl (lv_at hl 0 rfl) ?_
        refine lv_aload_n hx hb dX0_renew_18 rfl (lv_at hl 1 rfl) ?_
        refine lv_iload_n hx hb dX0_renew_19 rfl (lv_at hl 3 rfl) ?_
        refine g_callVi 4 (C := RX0) (T := TX0) (N := 5) (As := [.ref (q 3), .int v3_3]) (rest := [.int v3_3, .ref (q 36)]) X hw hA (m_X0_strip l D cy q G_3 v3_3 _ h) (by decide) rfl (cwV 2 hts gX0_renew_X0_strip rfl rfl rfl (by decide +kernel) ⟨Nat.le_of_ble_eq_true rfl, Nat.le_of_ble_eq_true rfl⟩) rfl hl.1 rfl (Nat.le_of_ble_eq_true rfl) dX0_renew_20 ⟨Nat.zero_le _, Nat.zero_le _⟩ (fun r_38 G_37 H locs h hw => ?_)
        obtain ⟨j23_38, bj23_38, ej23_38, h⟩ := h
        obtain ⟨hz, h⟩ := h
        refine g_zast 36 40 j23_38 X hw ⟨by decide, by decide⟩ rfl bj23_38 ej23_38 hz (by decide) dX0_renew_23 (fun H locs hw => ?_)
        obtain ⟨G_40, eG_40⟩ : ∃ z, z = sI G_37 36 j23_38 r_38 := ⟨_, rfl⟩
        rw [← eG_40] at hw
        have h := h G_40 eG_40
        refine lv_iinc (v := v3_3 + 1) (lv' := [(3, .int (v3_3 + 1)), (0, .ref (q 4)), (1, .ref (q 3)), (2, .int r_2)]) hx hb dX0_renew_24 hl (k := 3) rfl rfl (by decide) rfl (fun ls hl => ?_)
        refine lv_goto (tgt := 7) hx hb dX0_renew_27 (by decide) ?_
        obtain ⟨k_42, hm, h⟩ := h
        exact ihI7_3 k_42 hm (v3_3 + 1) G_40 _ _ ls hw (lv_sub hl [1, 2, 3, 0] rfl) h
  exact LI7_3 n_3 0 G_1 _ _ ls hw (lv_sub hl [2, 3, 1, 0] rfl) h0

abbrev rmX1_howMany : Room := { frames := 0, cells := 0, slots := 0, locals := 0 }
def wp_X1_howMany (G : GS)  (post : Int32 → GS → Prop) : Prop :=
  post (G.1 5 8) G
set_option maxHeartbeats 4000000 in
set_option maxRecDepth 100000 in
theorem m_X1_howMany (l : Launch) (D : va_G) (cy : Nat → ClassId) (q : Nat → Nat) (G : GS)  (post : Int32 → GS → Prop) (h : wp_X1_howMany G  post) : gMi l yX1_howMany wsX1_howMany rmX1_howMany D cy q [.ref (q 5)] G post := by
  intro sz
  refine Met.ofW (cc := cX1_howMany) (maxL := 1) (ret := (some .int)) (by decide) rfl ?_
  intro p e s m args below meth c s₁ B hml hv
  obtain ⟨ha, hsz, X, hw, hA, hr, hlk⟩ := g_start B hml hv
  have hx := X.1.1
  have hb := X.1.2.1
  have hown := X.1.2.2.2.1
  have hts := X.1.2.2.2.2
  refine g_in ha (Nat.le_of_ble_eq_true rfl) (fun ls hl => ?_)
  have hl : lv_has ls 1 [(0, .ref (q 5))] := hl
  unfold wp_X1_howMany at h
  have hinX1 : ∀ w ∈ wsX10, w ∈ wsX1_howMany := fun _ h9 => (List.mem_cons_of_mem _ (List.mem_append_right _ h9))
  refine lv_aload_n hx hb dX1_howMany_0 rfl (lv_at hl 0 rfl) ?_
  refine g_get 5 8 (v := .int (G.1 5 8)) (C := RX1) (T := TX1) (N := 15) X hw (by decide) hinX1 rfl (by decide) (List.mem_cons_of_mem _ (List.mem_append_left _ (List.mem_of_getElem? (i := 0) rfl))) rfl dX1_howMany_1 ?_
  exact g_iret X hw hr hlk h dX1_howMany_4

abbrev rmX1_getT : Room := { frames := 0, cells := 0, slots := 0, locals := 0 }
def wp_X1_getT (G : GS)  (post : Int32 → GS → Prop) : Prop :=
  post (G.1 5 9) G
set_option maxHeartbeats 4000000 in
set_option maxRecDepth 100000 in
theorem m_X1_getT (l : Launch) (D : va_G) (cy : Nat → ClassId) (q : Nat → Nat) (G : GS)  (post : Int32 → GS → Prop) (h : wp_X1_getT G  post) : gMi l yX1_getT wsX1_getT rmX1_getT D cy q [.ref (q 5)] G post := by
  intro sz
  refine Met.ofW (cc := cX1_getT) (maxL := 1) (ret := (some .int)) (by decide) rfl ?_
  intro p e s m args below meth c s₁ B hml hv
  obtain ⟨ha, hsz, X, hw, hA, hr, hlk⟩ := g_start B hml hv
  have hx := X.1.1
  have hb := X.1.2.1
  have hown := X.1.2.2.2.1
  have hts := X.1.2.2.2.2
  refine g_in ha (Nat.le_of_ble_eq_true rfl) (fun ls hl => ?_)
  have hl : lv_has ls 1 [(0, .ref (q 5))] := hl
  unfold wp_X1_getT at h
  have hinX1 : ∀ w ∈ wsX10, w ∈ wsX1_getT := fun _ h9 => (List.mem_cons_of_mem _ (List.mem_append_right _ h9))
  refine lv_aload_n hx hb dX1_getT_0 rfl (lv_at hl 0 rfl) ?_
  refine g_get 5 9 (v := .int (G.1 5 9)) (C := RX1) (T := TX1) (N := 15) X hw (by decide) hinX1 rfl (by decide) (List.mem_cons_of_mem _ (List.mem_append_left _ (List.mem_of_getElem? (i := 0) rfl))) rfl dX1_getT_1 ?_
  exact g_iret X hw hr hlk h dX1_getT_4

abbrev rmX1_changesDone : Room := { frames := 0, cells := 0, slots := 0, locals := 0 }
def wp_X1_changesDone (G : GS)  (post : Int32 → GS → Prop) : Prop :=
  post (G.1 5 10) G
set_option maxHeartbeats 4000000 in
set_option maxRecDepth 100000 in
theorem m_X1_changesDone (l : Launch) (D : va_G) (cy : Nat → ClassId) (q : Nat → Nat) (G : GS)  (post : Int32 → GS → Prop) (h : wp_X1_changesDone G  post) : gMi l yX1_changesDone wsX1_changesDone rmX1_changesDone D cy q [.ref (q 5)] G post := by
  intro sz
  refine Met.ofW (cc := cX1_changesDone) (maxL := 1) (ret := (some .int)) (by decide) rfl ?_
  intro p e s m args below meth c s₁ B hml hv
  obtain ⟨ha, hsz, X, hw, hA, hr, hlk⟩ := g_start B hml hv
  have hx := X.1.1
  have hb := X.1.2.1
  have hown := X.1.2.2.2.1
  have hts := X.1.2.2.2.2
  refine g_in ha (Nat.le_of_ble_eq_true rfl) (fun ls hl => ?_)
  have hl : lv_has ls 1 [(0, .ref (q 5))] := hl
  unfold wp_X1_changesDone at h
  have hinX1 : ∀ w ∈ wsX10, w ∈ wsX1_changesDone := fun _ h9 => (List.mem_cons_of_mem _ (List.mem_append_right _ h9))
  refine lv_aload_n hx hb dX1_changesDone_0 rfl (lv_at hl 0 rfl) ?_
  refine g_get 5 10 (v := .int (G.1 5 10)) (C := RX1) (T := TX1) (N := 15) X hw (by decide) hinX1 rfl (by decide) (List.mem_cons_of_mem _ (List.mem_append_left _ (List.mem_of_getElem? (i := 0) rfl))) rfl dX1_changesDone_1 ?_
  exact g_iret X hw hr hlk h dX1_changesDone_4

abbrev rmX1_setT : Room := { frames := 0, cells := 0, slots := 0, locals := 0 }
def wp_X1_setT (G : GS) (x1 : Int32) (post : Int32 → GS → Prop) : Prop :=
  (x1 < 0 → (post 0 G)) ∧ (¬ (x1 < 0) → ((x1 ≤ 40 → (∀ G_3 : GS, G_3 = sI G 5 9 x1 → (post 1 G_3))) ∧ (¬ (x1 ≤ 40) → (post 0 G))))
set_option maxHeartbeats 4000000 in
set_option maxRecDepth 100000 in
theorem m_X1_setT (l : Launch) (D : va_G) (cy : Nat → ClassId) (q : Nat → Nat) (G : GS) (x1 : Int32) (post : Int32 → GS → Prop) (h : wp_X1_setT G x1 post) : gMi l yX1_setT wsX1_setT rmX1_setT D cy q [.ref (q 5), .int x1] G post := by
  intro sz
  refine Met.ofW (cc := cX1_setT) (maxL := 2) (ret := (some .boolean)) (by decide) rfl ?_
  intro p e s m args below meth c s₁ B hml hv
  obtain ⟨ha, hsz, X, hw, hA, hr, hlk⟩ := g_start B hml hv
  have hx := X.1.1
  have hb := X.1.2.1
  have hown := X.1.2.2.2.1
  have hts := X.1.2.2.2.2
  refine g_in ha (Nat.le_of_ble_eq_true rfl) (fun ls hl => ?_)
  have hl : lv_has ls 2 [(0, .ref (q 5)), (1, .int x1)] := hl
  unfold wp_X1_setT at h
  have hinX1 : ∀ w ∈ wsX10, w ∈ wsX1_setT := fun _ h9 => (List.mem_cons_of_mem _ (List.mem_append_right _ h9))
  refine lv_iload_n hx hb dX1_setT_0 rfl (lv_at hl 1 rfl) ?_
  refine lv_if_lt (tgt := 10) hx hb dX1_setT_1 (by decide) (fun c1_0 => ?_) (fun c1_0 => ?_)
  · have h := h.1 c1_0
    refine lv_iconst (v := 0) hx hb dX1_setT_10 (by decide) ?_
    exact g_zret X hw hr hlk (by decide) h dX1_setT_11
  · have h := h.2 c1_0
    refine lv_iload_n hx hb dX1_setT_4 rfl (lv_at hl 1 rfl) ?_
    refine lv_bipush (v := 40) hx hb dX1_setT_5 (by decide) ?_
    refine lv_icmp_le (tgt := 12) hx hb dX1_setT_7 (by decide) (fun c7_1 => ?_) (fun c7_1 => ?_)
    · have h := h.1 c7_1
      refine lv_aload_n hx hb dX1_setT_12 rfl (lv_at hl 0 rfl) ?_
      refine lv_iload_n hx hb dX1_setT_13 rfl (lv_at hl 1 rfl) ?_
      refine g_put 5 9 (v := x1) (ty := .int) (C := RX1) (T := TX1) (N := 15) X hw (by decide) hinX1 tyX1_ok nmX1 rfl (by decide) (List.mem_cons_of_mem _ (List.mem_append_left _ (List.mem_of_getElem? (i := 0) rfl))) rfl (by decide +kernel) rfl rfl (Nat.le_of_ble_eq_true rfl) rfl dX1_setT_14 (fun H locs hw => ?_)
      obtain ⟨G_3, eG_3⟩ : ∃ z, z = sI G 5 9 x1 := ⟨_, rfl⟩
      rw [← eG_3] at hw
      have h := h G_3 eG_3
      refine lv_iconst (v := 1) hx hb dX1_setT_17 (by decide) ?_
      exact g_zret X hw hr hlk (by decide) h dX1_setT_18
    · have h := h.2 c7_1
      refine lv_iconst (v := 0) hx hb dX1_setT_10 (by decide) ?_
      exact g_zret X hw hr hlk (by decide) h dX1_setT_11

abbrev rmX1_hasWish : Room := { frames := 0, cells := 0, slots := 0, locals := 0 }
def wp_X1_hasWish (G : GS) (x1 : Int32) (x2 : Int32) (post : Int32 → GS → Prop) : Prop :=
  ∃ j5_0 : Nat, j5_0 < 40 ∧ x1 = nI j5_0 ∧ (∃ j7_1 : Nat, j7_1 < 40 ∧ x2 = nI j7_1 ∧ (((G.1 (168 + j5_0) j7_1) = 0 → (post 0 G)) ∧ (¬ ((G.1 (168 + j5_0) j7_1) = 0) → (post 1 G))))
set_option maxHeartbeats 4000000 in
set_option maxRecDepth 100000 in
theorem m_X1_hasWish (l : Launch) (D : va_G) (cy : Nat → ClassId) (q : Nat → Nat) (G : GS) (x1 : Int32) (x2 : Int32) (post : Int32 → GS → Prop) (h : wp_X1_hasWish G x1 x2 post) : gMi l yX1_hasWish wsX1_hasWish rmX1_hasWish D cy q [.ref (q 5), .int x1, .int x2] G post := by
  intro sz
  refine Met.ofW (cc := cX1_hasWish) (maxL := 3) (ret := (some .boolean)) (by decide) rfl ?_
  intro p e s m args below meth c s₁ B hml hv
  obtain ⟨ha, hsz, X, hw, hA, hr, hlk⟩ := g_start B hml hv
  have hx := X.1.1
  have hb := X.1.2.1
  have hown := X.1.2.2.2.1
  have hts := X.1.2.2.2.2
  refine g_in ha (Nat.le_of_ble_eq_true rfl) (fun ls hl => ?_)
  have hl : lv_has ls 3 [(0, .ref (q 5)), (1, .int x1), (2, .int x2)] := hl
  unfold wp_X1_hasWish at h
  have hinX1 : ∀ w ∈ wsX10, w ∈ wsX1_hasWish := fun _ h9 => (List.mem_cons_of_mem _ (List.mem_append_right _ h9))
  refine lv_aload_n hx hb dX1_hasWish_0 rfl (lv_at hl 0 rfl) ?_
  refine g_get 5 0 (v := .ref (q 45)) (C := RX1) (T := TX1) (N := 15) X hw (by decide) hinX1 rfl (by decide) (List.mem_cons_of_mem _ (List.mem_append_left _ (List.mem_of_getElem? (i := 0) rfl))) rfl dX1_hasWish_1 ?_
  refine lv_iload_n hx hb dX1_hasWish_4 rfl (lv_at hl 1 rfl) ?_
  obtain ⟨j5_0, bj5_0, ej5_0, h⟩ := h
  refine g_aald 45 40 j5_0 X hw ⟨by decide, by decide⟩ rfl bj5_0 ej5_0 (by decide) dX1_hasWish_5 ?_
  refine lv_iload_n hx hb dX1_hasWish_6 rfl (lv_at hl 2 rfl) ?_
  obtain ⟨j7_1, bj7_1, ej7_1, h⟩ := h
  refine g_iald (168 + j5_0) 40 j7_1 X hw (Or.inl ⟨by omega, by omega⟩) (gLen_40 (by omega) (by omega)) bj7_1 ej7_1 (by decide) dX1_hasWish_7 ?_
  refine lv_if_eq (tgt := 15) hx hb dX1_hasWish_8 (by decide) (fun c8_2 => ?_) (fun c8_2 => ?_)
  · have h := h.1 c8_2
    refine lv_iconst (v := 0) hx hb dX1_hasWish_15 (by decide) ?_
    exact g_zret X hw hr hlk (by decide) h dX1_hasWish_16
  · have h := h.2 c8_2
    refine lv_iconst (v := 1) hx hb dX1_hasWish_11 (by decide) ?_
    refine lv_goto (tgt := 16) hx hb dX1_hasWish_12 (by decide) ?_
    exact g_zret X hw hr hlk (by decide) h dX1_hasWish_16

abbrev rmX1_wish : Room := { frames := 0, cells := 0, slots := 0, locals := 0 }
def wp_X1_wish (G : GS) (x1 : Int32) (x2 : Int32) (x3 : Int32) (post : GS → Prop) : Prop :=
  ∃ j5_0 : Nat, j5_0 < 40 ∧ x1 = nI j5_0 ∧ (∃ j8_1 : Nat, j8_1 < 40 ∧ x2 = nI j8_1 ∧ (∀ G_3 : GS, G_3 = sI G (168 + j5_0) j8_1 x3 → (∃ j14_3 : Nat, j14_3 < 40 ∧ x2 = nI j14_3 ∧ (∃ j17_4 : Nat, j17_4 < 40 ∧ x1 = nI j17_4 ∧ (∀ G_6 : GS, G_6 = sI G_3 (168 + j14_3) j17_4 x3 → (post G_6))))))
set_option maxHeartbeats 4000000 in
set_option maxRecDepth 100000 in
theorem m_X1_wish (l : Launch) (D : va_G) (cy : Nat → ClassId) (q : Nat → Nat) (G : GS) (x1 : Int32) (x2 : Int32) (x3 : Int32) (post : GS → Prop) (h : wp_X1_wish G x1 x2 x3 post) : gMv l yX1_wish wsX1_wish rmX1_wish D cy q [.ref (q 5), .int x1, .int x2, .int x3] G post := by
  intro sz
  refine Met.ofW (cc := cX1_wish) (maxL := 4) (ret := none) (by decide) rfl ?_
  intro p e s m args below meth c s₁ B hml hv
  obtain ⟨ha, hsz, X, hw, hA, hr, hlk⟩ := g_start B hml hv
  have hx := X.1.1
  have hb := X.1.2.1
  have hown := X.1.2.2.2.1
  have hts := X.1.2.2.2.2
  refine g_in ha (Nat.le_of_ble_eq_true rfl) (fun ls hl => ?_)
  have hl : lv_has ls 4 [(0, .ref (q 5)), (1, .int x1), (2, .int x2), (3, .int x3)] := hl
  unfold wp_X1_wish at h
  have hinX1 : ∀ w ∈ wsX10, w ∈ wsX1_wish := fun _ h9 => (List.mem_cons_of_mem _ (List.mem_append_right _ h9))
  refine lv_aload_n hx hb dX1_wish_0 rfl (lv_at hl 0 rfl) ?_
  refine g_get 5 0 (v := .ref (q 45)) (C := RX1) (T := TX1) (N := 15) X hw (by decide) hinX1 rfl (by decide) (List.mem_cons_of_mem _ (List.mem_append_left _ (List.mem_of_getElem? (i := 0) rfl))) rfl dX1_wish_1 ?_
  refine lv_iload_n hx hb dX1_wish_4 rfl (lv_at hl 1 rfl) ?_
  obtain ⟨j5_0, bj5_0, ej5_0, h⟩ := h
  refine g_aald 45 40 j5_0 X hw ⟨by decide, by decide⟩ rfl bj5_0 ej5_0 (by decide) dX1_wish_5 ?_
  refine lv_iload_n hx hb dX1_wish_6 rfl (lv_at hl 2 rfl) ?_
  refine lv_iload_n hx hb dX1_wish_7 rfl (lv_at hl 3 rfl) ?_
  obtain ⟨j8_1, bj8_1, ej8_1, h⟩ := h
  refine g_iast (168 + j5_0) 40 j8_1 X hw (Or.inl ⟨by omega, by omega⟩) (gLen_40 (by omega) (by omega)) bj8_1 ej8_1 (by decide) dX1_wish_8 (fun H locs hw => ?_)
  obtain ⟨G_3, eG_3⟩ : ∃ z, z = sI G (168 + j5_0) j8_1 x3 := ⟨_, rfl⟩
  rw [← eG_3] at hw
  have h := h G_3 eG_3
  refine lv_aload_n hx hb dX1_wish_9 rfl (lv_at hl 0 rfl) ?_
  refine g_get 5 0 (v := .ref (q 45)) (C := RX1) (T := TX1) (N := 15) X hw (by decide) hinX1 rfl (by decide) (List.mem_cons_of_mem _ (List.mem_append_left _ (List.mem_of_getElem? (i := 0) rfl))) rfl dX1_wish_10 ?_
  refine lv_iload_n hx hb dX1_wish_13 rfl (lv_at hl 2 rfl) ?_
  obtain ⟨j14_3, bj14_3, ej14_3, h⟩ := h
  refine g_aald 45 40 j14_3 X hw ⟨by decide, by decide⟩ rfl bj14_3 ej14_3 (by decide) dX1_wish_14 ?_
  refine lv_iload_n hx hb dX1_wish_15 rfl (lv_at hl 1 rfl) ?_
  refine lv_iload_n hx hb dX1_wish_16 rfl (lv_at hl 3 rfl) ?_
  obtain ⟨j17_4, bj17_4, ej17_4, h⟩ := h
  refine g_iast (168 + j14_3) 40 j17_4 X hw (Or.inl ⟨by omega, by omega⟩) (gLen_40 (by omega) (by omega)) bj17_4 ej17_4 (by decide) dX1_wish_17 (fun H locs hw => ?_)
  obtain ⟨G_6, eG_6⟩ : ∃ z, z = sI G_3 (168 + j14_3) j17_4 x3 := ⟨_, rfl⟩
  rw [← eG_6] at hw
  have h := h G_6 eG_6
  exact g_vret X hw hr hlk h dX1_wish_18

abbrev rmX1_areTogether : Room := { frames := 0, cells := 0, slots := 0, locals := 0 }
def wp_X1_areTogether (G : GS) (x1 : Int32) (x2 : Int32) (post : Int32 → GS → Prop) : Prop :=
  ∃ j5_0 : Nat, j5_0 < 40 ∧ x1 = nI j5_0 ∧ (∃ j11_1 : Nat, j11_1 < 40 ∧ x2 = nI j11_1 ∧ ((¬ (G.1 14 j5_0) = (G.1 14 j11_1) → (post 0 G)) ∧ ((G.1 14 j5_0) = (G.1 14 j11_1) → (post 1 G))))
set_option maxHeartbeats 4000000 in
set_option maxRecDepth 100000 in
theorem m_X1_areTogether (l : Launch) (D : va_G) (cy : Nat → ClassId) (q : Nat → Nat) (G : GS) (x1 : Int32) (x2 : Int32) (post : Int32 → GS → Prop) (h : wp_X1_areTogether G x1 x2 post) : gMi l yX1_areTogether wsX1_areTogether rmX1_areTogether D cy q [.ref (q 5), .int x1, .int x2] G post := by
  intro sz
  refine Met.ofW (cc := cX1_areTogether) (maxL := 3) (ret := (some .boolean)) (by decide) rfl ?_
  intro p e s m args below meth c s₁ B hml hv
  obtain ⟨ha, hsz, X, hw, hA, hr, hlk⟩ := g_start B hml hv
  have hx := X.1.1
  have hb := X.1.2.1
  have hown := X.1.2.2.2.1
  have hts := X.1.2.2.2.2
  refine g_in ha (Nat.le_of_ble_eq_true rfl) (fun ls hl => ?_)
  have hl : lv_has ls 3 [(0, .ref (q 5)), (1, .int x1), (2, .int x2)] := hl
  unfold wp_X1_areTogether at h
  have hinX1 : ∀ w ∈ wsX10, w ∈ wsX1_areTogether := fun _ h9 => (List.mem_cons_of_mem _ (List.mem_append_right _ h9))
  refine lv_aload_n hx hb dX1_areTogether_0 rfl (lv_at hl 0 rfl) ?_
  refine g_get 5 1 (v := .ref (q 14)) (C := RX1) (T := TX1) (N := 15) X hw (by decide) hinX1 rfl (by decide) (List.mem_cons_of_mem _ (List.mem_append_left _ (List.mem_of_getElem? (i := 0) rfl))) rfl dX1_areTogether_1 ?_
  refine lv_iload_n hx hb dX1_areTogether_4 rfl (lv_at hl 1 rfl) ?_
  obtain ⟨j5_0, bj5_0, ej5_0, h⟩ := h
  refine g_iald 14 40 j5_0 X hw (Or.inr ⟨by decide, by decide⟩) rfl bj5_0 ej5_0 (by decide) dX1_areTogether_5 ?_
  refine lv_aload_n hx hb dX1_areTogether_6 rfl (lv_at hl 0 rfl) ?_
  refine g_get 5 1 (v := .ref (q 14)) (C := RX1) (T := TX1) (N := 15) X hw (by decide) hinX1 rfl (by decide) (List.mem_cons_of_mem _ (List.mem_append_left _ (List.mem_of_getElem? (i := 0) rfl))) rfl dX1_areTogether_7 ?_
  refine lv_iload_n hx hb dX1_areTogether_10 rfl (lv_at hl 2 rfl) ?_
  obtain ⟨j11_1, bj11_1, ej11_1, h⟩ := h
  refine g_iald 14 40 j11_1 X hw (Or.inr ⟨by decide, by decide⟩) rfl bj11_1 ej11_1 (by decide) dX1_areTogether_11 ?_
  refine lv_icmp_ne (tgt := 19) hx hb dX1_areTogether_12 (by decide) (fun c12_2 => ?_) (fun c12_2 => ?_)
  · have h := h.1 c12_2
    refine lv_iconst (v := 0) hx hb dX1_areTogether_19 (by decide) ?_
    exact g_zret X hw hr hlk (by decide) h dX1_areTogether_20
  · have h := h.2 c12_2
    refine lv_iconst (v := 1) hx hb dX1_areTogether_15 (by decide) ?_
    refine lv_goto (tgt := 20) hx hb dX1_areTogether_16 (by decide) ?_
    exact g_zret X hw hr hlk (by decide) h dX1_areTogether_20

abbrev rmX1_leastBeside : Room := { frames := 0, cells := 0, slots := 0, locals := 0 }
def wp_X1_leastBeside (G : GS) (x1 : Int32) (post : Int32 → GS → Prop) : Prop :=
  ∃ j9_0 : Nat, j9_0 < 40 ∧ x1 = nI j9_0 ∧ (∃ j10_1 : Nat, j10_1 < 40 ∧ G.1 14 j9_0 = nI j10_1 ∧ (post (G.1 15 j10_1) G))
set_option maxHeartbeats 4000000 in
set_option maxRecDepth 100000 in
theorem m_X1_leastBeside (l : Launch) (D : va_G) (cy : Nat → ClassId) (q : Nat → Nat) (G : GS) (x1 : Int32) (post : Int32 → GS → Prop) (h : wp_X1_leastBeside G x1 post) : gMi l yX1_leastBeside wsX1_leastBeside rmX1_leastBeside D cy q [.ref (q 5), .int x1] G post := by
  intro sz
  refine Met.ofW (cc := cX1_leastBeside) (maxL := 2) (ret := (some .int)) (by decide) rfl ?_
  intro p e s m args below meth c s₁ B hml hv
  obtain ⟨ha, hsz, X, hw, hA, hr, hlk⟩ := g_start B hml hv
  have hx := X.1.1
  have hb := X.1.2.1
  have hown := X.1.2.2.2.1
  have hts := X.1.2.2.2.2
  refine g_in ha (Nat.le_of_ble_eq_true rfl) (fun ls hl => ?_)
  have hl : lv_has ls 2 [(0, .ref (q 5)), (1, .int x1)] := hl
  unfold wp_X1_leastBeside at h
  have hinX1 : ∀ w ∈ wsX10, w ∈ wsX1_leastBeside := fun _ h9 => (List.mem_cons_of_mem _ (List.mem_append_right _ h9))
  refine lv_aload_n hx hb dX1_leastBeside_0 rfl (lv_at hl 0 rfl) ?_
  refine g_get 5 2 (v := .ref (q 15)) (C := RX1) (T := TX1) (N := 15) X hw (by decide) hinX1 rfl (by decide) (List.mem_cons_of_mem _ (List.mem_append_left _ (List.mem_of_getElem? (i := 0) rfl))) rfl dX1_leastBeside_1 ?_
  refine lv_aload_n hx hb dX1_leastBeside_4 rfl (lv_at hl 0 rfl) ?_
  refine g_get 5 1 (v := .ref (q 14)) (C := RX1) (T := TX1) (N := 15) X hw (by decide) hinX1 rfl (by decide) (List.mem_cons_of_mem _ (List.mem_append_left _ (List.mem_of_getElem? (i := 1) rfl))) rfl dX1_leastBeside_5 ?_
  refine lv_iload_n hx hb dX1_leastBeside_8 rfl (lv_at hl 1 rfl) ?_
  obtain ⟨j9_0, bj9_0, ej9_0, h⟩ := h
  refine g_iald 14 40 j9_0 X hw (Or.inr ⟨by decide, by decide⟩) rfl bj9_0 ej9_0 (by decide) dX1_leastBeside_9 ?_
  obtain ⟨j10_1, bj10_1, ej10_1, h⟩ := h
  refine g_iald 15 40 j10_1 X hw (Or.inr ⟨by decide, by decide⟩) rfl bj10_1 ej10_1 (by decide) dX1_leastBeside_10 ?_
  exact g_iret X hw hr hlk h dX1_leastBeside_11

abbrev rmX1_sizeBeside : Room := { frames := 0, cells := 0, slots := 0, locals := 0 }
def wp_X1_sizeBeside (G : GS) (x1 : Int32) (post : Int32 → GS → Prop) : Prop :=
  ∃ j9_0 : Nat, j9_0 < 40 ∧ x1 = nI j9_0 ∧ (∃ j10_1 : Nat, j10_1 < 40 ∧ G.1 14 j9_0 = nI j10_1 ∧ (post (G.1 16 j10_1) G))
set_option maxHeartbeats 4000000 in
set_option maxRecDepth 100000 in
theorem m_X1_sizeBeside (l : Launch) (D : va_G) (cy : Nat → ClassId) (q : Nat → Nat) (G : GS) (x1 : Int32) (post : Int32 → GS → Prop) (h : wp_X1_sizeBeside G x1 post) : gMi l yX1_sizeBeside wsX1_sizeBeside rmX1_sizeBeside D cy q [.ref (q 5), .int x1] G post := by
  intro sz
  refine Met.ofW (cc := cX1_sizeBeside) (maxL := 2) (ret := (some .int)) (by decide) rfl ?_
  intro p e s m args below meth c s₁ B hml hv
  obtain ⟨ha, hsz, X, hw, hA, hr, hlk⟩ := g_start B hml hv
  have hx := X.1.1
  have hb := X.1.2.1
  have hown := X.1.2.2.2.1
  have hts := X.1.2.2.2.2
  refine g_in ha (Nat.le_of_ble_eq_true rfl) (fun ls hl => ?_)
  have hl : lv_has ls 2 [(0, .ref (q 5)), (1, .int x1)] := hl
  unfold wp_X1_sizeBeside at h
  have hinX1 : ∀ w ∈ wsX10, w ∈ wsX1_sizeBeside := fun _ h9 => (List.mem_cons_of_mem _ (List.mem_append_right _ h9))
  refine lv_aload_n hx hb dX1_sizeBeside_0 rfl (lv_at hl 0 rfl) ?_
  refine g_get 5 3 (v := .ref (q 16)) (C := RX1) (T := TX1) (N := 15) X hw (by decide) hinX1 rfl (by decide) (List.mem_cons_of_mem _ (List.mem_append_left _ (List.mem_of_getElem? (i := 0) rfl))) rfl dX1_sizeBeside_1 ?_
  refine lv_aload_n hx hb dX1_sizeBeside_4 rfl (lv_at hl 0 rfl) ?_
  refine g_get 5 1 (v := .ref (q 14)) (C := RX1) (T := TX1) (N := 15) X hw (by decide) hinX1 rfl (by decide) (List.mem_cons_of_mem _ (List.mem_append_left _ (List.mem_of_getElem? (i := 1) rfl))) rfl dX1_sizeBeside_5 ?_
  refine lv_iload_n hx hb dX1_sizeBeside_8 rfl (lv_at hl 1 rfl) ?_
  obtain ⟨j9_0, bj9_0, ej9_0, h⟩ := h
  refine g_iald 14 40 j9_0 X hw (Or.inr ⟨by decide, by decide⟩) rfl bj9_0 ej9_0 (by decide) dX1_sizeBeside_9 ?_
  obtain ⟨j10_1, bj10_1, ej10_1, h⟩ := h
  refine g_iald 16 40 j10_1 X hw (Or.inr ⟨by decide, by decide⟩) rfl bj10_1 ej10_1 (by decide) dX1_sizeBeside_10 ?_
  exact g_iret X hw hr hlk h dX1_sizeBeside_11

abbrev rmX1_setBeside : Room := { frames := 1, cells := 0, slots := 0, locals := 22 }
def wp_X1_setBeside (G : GS) (x1 : Int32) (post : Int64 → GS → Prop) : Prop :=
  ∃ I5_1 : Nat → Int64 → Int32 → GS → Prop, (∃ n_1 : Nat, I5_1 n_1 0 0 G) ∧ ∀ (n_1 : Nat) (v2_1 : Int64) (v4_1 : Int32) (G_1 : GS), I5_1 n_1 v2_1 v4_1 G_1 → (((G_1.1 5 7) ≤ v4_1 → (post v2_1 G_1)) ∧ (¬ ((G_1.1 5 7) ≤ v4_1) → (wp_X1_areTogether G_1 v4_1 x1 (fun r_4 G_3 => (r_4 = 0 → (∃ k_7 : Nat, k_7 < n_1 ∧ I5_1 k_7 v2_1 (v4_1 + 1) G_3)) ∧ (¬ (r_4 = 0) → (∀ y_8 : Int64, y_8 = v2_1 ||| (1 <<< (Int32.toInt64 v4_1 &&& 63)) → (∃ k_10 : Nat, k_10 < n_1 ∧ I5_1 k_10 y_8 (v4_1 + 1) G_3)))))))
set_option maxHeartbeats 4000000 in
set_option maxRecDepth 100000 in
theorem m_X1_setBeside (l : Launch) (D : va_G) (cy : Nat → ClassId) (q : Nat → Nat) (G : GS) (x1 : Int32) (post : Int64 → GS → Prop) (h : wp_X1_setBeside G x1 post) : gMl l yX1_setBeside wsX1_setBeside rmX1_setBeside D cy q [.ref (q 5), .int x1] G post := by
  intro sz
  refine Met.ofW (cc := cX1_setBeside) (maxL := 5) (ret := (some .long)) (by decide) rfl ?_
  intro p e s m args below meth c s₁ B hml hv
  obtain ⟨ha, hsz, X, hw, hA, hr, hlk⟩ := g_start B hml hv
  have hx := X.1.1
  have hb := X.1.2.1
  have hown := X.1.2.2.2.1
  have hts := X.1.2.2.2.2
  refine g_in ha (Nat.le_of_ble_eq_true rfl) (fun ls hl => ?_)
  have hl : lv_has ls 5 [(0, .ref (q 5)), (1, .int x1)] := hl
  unfold wp_X1_setBeside at h
  have hinX1 : ∀ w ∈ wsX10, w ∈ wsX1_setBeside := fun _ h9 => (List.mem_cons_of_mem _ (List.mem_append_right _ h9))
  refine lv_lconst (v := 0) hx hb dX1_setBeside_0 (by decide) ?_
  refine lv_lstore_n (lv' := [(2, .long 0), (0, .ref (q 5)), (1, .int x1)]) hx hb dX1_setBeside_1 rfl hl (by decide) rfl (fun ls hl => ?_)
  refine lv_iconst (v := 0) hx hb dX1_setBeside_2 (by decide) ?_
  refine lv_istore (lv' := [(4, .int 0), (2, .long 0), (0, .ref (q 5)), (1, .int x1)]) hx hb dX1_setBeside_3 hl (by decide) rfl (fun ls hl => ?_)
  obtain ⟨I5_1, ⟨n_1, h0⟩, hI5_1⟩ := h
  have LI5_1 : ∀ (n_1 : Nat) (v2_1 : Int64) (v4_1 : Int32) (G_1 : GS) (H : Heap) (locs : List Loc) (ls : Array Slot), gH D cy q (gA q sz) s.heap G_1 H locs → lv_has ls 5 [(0, .ref (q 5)), (1, .int x1), (2, .long v2_1), (4, .int v4_1)] → I5_1 n_1 v2_1 v4_1 G_1 → W p l e (headSpec wsX1_setBeside rmX1_setBeside).room s m args below meth c H locs 0 0 (MQ below (va_Ql post (gPo D cy q sz) (gA q sz)) args s 0 0 (gA q sz)) (F0 m 5 ls []) := by
    intro n_1
    induction n_1 using Nat.strongRecOn with
    | ind n_1 ihI5_1 =>
      intro v2_1 v4_1 G_1 H locs ls hw hl h
      have h := hI5_1 n_1 v2_1 v4_1 G_1 h
      refine lv_iload hx hb dX1_setBeside_5 (lv_at hl 3 rfl) ?_
      refine lv_aload_n hx hb dX1_setBeside_7 rfl (lv_at hl 0 rfl) ?_
      refine g_get 5 7 (v := .int (G_1.1 5 7)) (C := RX1) (T := TX1) (N := 15) X hw (by decide) hinX1 rfl (by decide) (List.mem_cons_of_mem _ (List.mem_append_left _ (List.mem_of_getElem? (i := 0) rfl))) rfl dX1_setBeside_8 ?_
      refine lv_icmp_ge (tgt := 37) hx hb dX1_setBeside_11 (by decide) (fun c11_1 => ?_) (fun c11_1 => ?_)
      · have h := h.1 c11_1
        refine lv_lload_n hx hb dX1_setBeside_37 rfl (lv_at hl 2 rfl) ?_
        exact g_lret X hw hr hlk h dX1_setBeside_38
      · have h := h.2 c11_1
        refine lv_aload_n hx hb dX1_setBeside_14 rfl (lv_at hl 0 rfl) ?_
        refine lv_iload hx hb dX1_setBeside_15 (lv_at hl 3 rfl) ?_
        refine lv_iload_n hx hb dX1_setBeside_17 rfl (lv_at hl 1 rfl) ?_
        refine g_callVi 5 (C := RX1) (T := TX1) (N := 15) (As := [.int v4_1, .int x1]) (rest := []) X hw hA (m_X1_areTogether l D cy q G_1 v4_1 x1 _ h) (by decide) rfl (cwV 2 hts gX1_setBeside_X1_areTogether rfl rfl rfl (by decide +kernel) ⟨Nat.le_of_ble_eq_true rfl, Nat.le_of_ble_eq_true rfl⟩) rfl hl.1 rfl (Nat.le_of_ble_eq_true rfl) dX1_setBeside_18 ⟨Nat.zero_le _, Nat.zero_le _⟩ (fun r_4 G_3 H locs h hw => ?_)
        refine lv_if_eq (tgt := 31) hx hb dX1_setBeside_21 (by decide) (fun c21_4 => ?_) (fun c21_4 => ?_)
        · have h := h.1 c21_4
          refine lv_iinc (v := v4_1 + 1) (lv' := [(4, .int (v4_1 + 1)), (0, .ref (q 5)), (1, .int x1), (2, .long v2_1)]) hx hb dX1_setBeside_31 hl (k := 3) rfl rfl (by decide) rfl (fun ls hl => ?_)
          refine lv_goto (tgt := 5) hx hb dX1_setBeside_34 (by decide) ?_
          obtain ⟨k_7, hm, h⟩ := h
          exact ihI5_1 k_7 hm v2_1 (v4_1 + 1) G_3 _ _ ls hw (lv_sub hl [1, 2, 3, 0] rfl) h
        · have h := h.2 c21_4
          refine lv_lload_n hx hb dX1_setBeside_24 rfl (lv_at hl 2 rfl) ?_
          refine lv_lconst (v := 1) hx hb dX1_setBeside_25 (by decide) ?_
          refine lv_iload hx hb dX1_setBeside_26 (lv_at hl 3 rfl) ?_
          refine lv_lshl (v := 1 <<< (Int32.toInt64 v4_1 &&& 63)) hx hb dX1_setBeside_28 rfl ?_
          refine lv_lor hx hb dX1_setBeside_29 ?_
          refine lv_topl (fun y_8 ey_8 => ?_)
          have h := h y_8 ey_8
          refine lv_lstore_n (lv' := [(2, .long y_8), (0, .ref (q 5)), (1, .int x1), (4, .int v4_1)]) hx hb dX1_setBeside_30 rfl hl (by decide) rfl (fun ls hl => ?_)
          refine lv_iinc (v := v4_1 + 1) (lv' := [(4, .int (v4_1 + 1)), (2, .long y_8), (0, .ref (q 5)), (1, .int x1)]) hx hb dX1_setBeside_31 hl (k := 3) rfl rfl (by decide) rfl (fun ls hl => ?_)
          refine lv_goto (tgt := 5) hx hb dX1_setBeside_34 (by decide) ?_
          obtain ⟨k_10, hm, h⟩ := h
          exact ihI5_1 k_10 hm y_8 (v4_1 + 1) G_3 _ _ ls hw (lv_sub hl [2, 3, 1, 0] rfl) h
  exact LI5_1 n_1 0 0 G _ _ ls hw (lv_sub hl [2, 3, 1, 0] rfl) h0

abbrev rmX1_costOfPair : Room := { frames := 1, cells := 0, slots := 0, locals := 22 }
def wp_X1_costOfPair (G : GS) (x1 : Int32) (x2 : Int32) (post : Int32 → GS → Prop) : Prop :=
  wp_X0_between G x1 x2 (fun r_2 G_1 => ∀ y_3 : Int32, y_3 = r_2 - (G_1.1 5 9) → (∃ j18_3 : Nat, j18_3 < 40 ∧ x1 = nI j18_3 ∧ (∃ j20_4 : Nat, j20_4 < 40 ∧ x2 = nI j20_4 ∧ (∀ y_6 : Int32, y_6 = G_1.1 (168 + j18_3) j20_4 → (wp_X1_areTogether G_1 x1 x2 (fun r_8 G_7 => (r_8 = 0 → (post ((if (-y_3) < 0 then 0 else (-y_3)) + (if (-y_6) < 0 then 0 else (-y_6))) G_7)) ∧ (¬ (r_8 = 0) → (post ((if y_3 < 0 then 0 else y_3) + (if y_6 < 0 then 0 else y_6)) G_7))))))))
set_option maxHeartbeats 4000000 in
set_option maxRecDepth 100000 in
theorem m_X1_costOfPair (l : Launch) (D : va_G) (cy : Nat → ClassId) (q : Nat → Nat) (G : GS) (x1 : Int32) (x2 : Int32) (post : Int32 → GS → Prop) (h : wp_X1_costOfPair G x1 x2 post) : gMi l yX1_costOfPair wsX1_costOfPair rmX1_costOfPair D cy q [.ref (q 5), .int x1, .int x2, .ref (q 4)] G post := by
  intro sz
  refine Met.ofW (cc := cX1_costOfPair) (maxL := 6) (ret := (some .int)) (by decide) rfl ?_
  intro p e s m args below meth c s₁ B hml hv
  obtain ⟨ha, hsz, X, hw, hA, hr, hlk⟩ := g_start B hml hv
  have hx := X.1.1
  have hb := X.1.2.1
  have hown := X.1.2.2.2.1
  have hts := X.1.2.2.2.2
  refine g_in ha (Nat.le_of_ble_eq_true rfl) (fun ls hl => ?_)
  have hl : lv_has ls 6 [(0, .ref (q 5)), (1, .int x1), (2, .int x2), (3, .ref (q 4))] := hl
  unfold wp_X1_costOfPair at h
  have hinX1 : ∀ w ∈ wsX10, w ∈ wsX1_costOfPair := fun _ h9 => (List.mem_cons_of_mem _ (List.mem_append_left _ (List.mem_append_right _ h9)))
  refine lv_aload_n hx hb dX1_costOfPair_0 rfl (lv_at hl 3 rfl) ?_
  refine lv_iload_n hx hb dX1_costOfPair_1 rfl (lv_at hl 1 rfl) ?_
  refine lv_iload_n hx hb dX1_costOfPair_2 rfl (lv_at hl 2 rfl) ?_
  refine g_callVi 4 (C := RX0) (T := TX0) (N := 5) (As := [.int x1, .int x2]) (rest := []) X hw hA (m_X0_between l D cy q G x1 x2 _ h) (by decide) rfl (cwV 2 hts gX1_costOfPair_X0_between rfl rfl rfl (by decide +kernel) ⟨Nat.le_of_ble_eq_true rfl, Nat.le_of_ble_eq_true rfl⟩) rfl hl.1 rfl (Nat.le_of_ble_eq_true rfl) dX1_costOfPair_3 ⟨Nat.zero_le _, Nat.zero_le _⟩ (fun r_2 G_1 H locs h hw => ?_)
  refine lv_aload_n hx hb dX1_costOfPair_6 rfl (lv_at hl 0 rfl) ?_
  refine g_get 5 9 (v := .int (G_1.1 5 9)) (C := RX1) (T := TX1) (N := 15) X hw (by decide) hinX1 rfl (by decide) (List.mem_cons_of_mem _ (List.mem_append_left _ (List.mem_append_left _ (List.mem_of_getElem? (i := 0) rfl)))) rfl dX1_costOfPair_7 ?_
  refine lv_isub hx hb dX1_costOfPair_10 ?_
  refine lv_topi (fun y_3 ey_3 => ?_)
  have h := h y_3 ey_3
  refine lv_istore (lv' := [(4, .int y_3), (0, .ref (q 5)), (1, .int x1), (2, .int x2), (3, .ref (q 4))]) hx hb dX1_costOfPair_11 hl (by decide) rfl (fun ls hl => ?_)
  refine lv_aload_n hx hb dX1_costOfPair_13 rfl (lv_at hl 1 rfl) ?_
  refine g_get 5 0 (v := .ref (q 45)) (C := RX1) (T := TX1) (N := 15) X hw (by decide) hinX1 rfl (by decide) (List.mem_cons_of_mem _ (List.mem_append_left _ (List.mem_append_left _ (List.mem_of_getElem? (i := 1) rfl)))) rfl dX1_costOfPair_14 ?_
  refine lv_iload_n hx hb dX1_costOfPair_17 rfl (lv_at hl 2 rfl) ?_
  obtain ⟨j18_3, bj18_3, ej18_3, h⟩ := h
  refine g_aald 45 40 j18_3 X hw ⟨by decide, by decide⟩ rfl bj18_3 ej18_3 (by decide) dX1_costOfPair_18 ?_
  refine lv_iload_n hx hb dX1_costOfPair_19 rfl (lv_at hl 3 rfl) ?_
  obtain ⟨j20_4, bj20_4, ej20_4, h⟩ := h
  refine g_iald (168 + j18_3) 40 j20_4 X hw (Or.inl ⟨by omega, by omega⟩) (gLen_40 (by omega) (by omega)) bj20_4 ej20_4 (by decide) dX1_costOfPair_20 ?_
  refine lv_topi (fun y_6 ey_6 => ?_)
  have h := h y_6 ey_6
  refine lv_istore (lv' := [(5, .int y_6), (4, .int y_3), (0, .ref (q 5)), (1, .int x1), (2, .int x2), (3, .ref (q 4))]) hx hb dX1_costOfPair_21 hl (by decide) rfl (fun ls hl => ?_)
  refine lv_aload_n hx hb dX1_costOfPair_23 rfl (lv_at hl 2 rfl) ?_
  refine lv_iload_n hx hb dX1_costOfPair_24 rfl (lv_at hl 3 rfl) ?_
  refine lv_iload_n hx hb dX1_costOfPair_25 rfl (lv_at hl 4 rfl) ?_
  refine g_callVi 5 (C := RX1) (T := TX1) (N := 15) (As := [.int x1, .int x2]) (rest := []) X hw hA (m_X1_areTogether l D cy q G_1 x1 x2 _ h) (by decide) rfl (cwV 2 hts gX1_costOfPair_X1_areTogether rfl rfl rfl (by decide +kernel) ⟨Nat.le_of_ble_eq_true rfl, Nat.le_of_ble_eq_true rfl⟩) rfl hl.1 rfl (Nat.le_of_ble_eq_true rfl) dX1_costOfPair_26 ⟨Nat.zero_le _, Nat.zero_le _⟩ (fun r_8 G_7 H locs h hw => ?_)
  refine lv_if_eq (tgt := 46) hx hb dX1_costOfPair_29 (by decide) (fun c29_8 => ?_) (fun c29_8 => ?_)
  · have h := h.1 c29_8
    refine lv_iload hx hb dX1_costOfPair_46 (lv_at hl 1 rfl) ?_
    refine lv_ineg hx hb dX1_costOfPair_48 ?_
    refine lv_iconst (v := 0) hx hb dX1_costOfPair_49 (by decide) ?_
    refine va_mmax hx hb (by rw [hl.1]; exact X.1.2.2.1) hown (hts _ (List.mem_cons_of_mem _ (List.mem_append_left _ (List.mem_append_left _ (List.mem_of_getElem? (i := 2) rfl))))) (hts _ (List.mem_cons_of_mem _ (List.mem_append_left _ (List.mem_append_left _ (List.mem_of_getElem? (i := 3) rfl))))) (hts _ (List.mem_cons_of_mem _ (List.mem_append_left _ (List.mem_append_left _ (List.mem_of_getElem? (i := 4) rfl))))) (hts _ (List.mem_cons_of_mem _ (List.mem_append_left _ (List.mem_append_left _ (List.mem_of_getElem? (i := 5) rfl))))) (Nat.le_of_ble_eq_true rfl) (Nat.le_of_ble_eq_true rfl) (Nat.zero_le _) (Nat.zero_le _) dX1_costOfPair_50 ?_
    refine lv_iload hx hb dX1_costOfPair_53 (lv_at hl 0 rfl) ?_
    refine lv_ineg hx hb dX1_costOfPair_55 ?_
    refine lv_iconst (v := 0) hx hb dX1_costOfPair_56 (by decide) ?_
    refine va_mmax hx hb (by rw [hl.1]; exact X.1.2.2.1) hown (hts _ (List.mem_cons_of_mem _ (List.mem_append_left _ (List.mem_append_left _ (List.mem_of_getElem? (i := 2) rfl))))) (hts _ (List.mem_cons_of_mem _ (List.mem_append_left _ (List.mem_append_left _ (List.mem_of_getElem? (i := 3) rfl))))) (hts _ (List.mem_cons_of_mem _ (List.mem_append_left _ (List.mem_append_left _ (List.mem_of_getElem? (i := 4) rfl))))) (hts _ (List.mem_cons_of_mem _ (List.mem_append_left _ (List.mem_append_left _ (List.mem_of_getElem? (i := 5) rfl))))) (Nat.le_of_ble_eq_true rfl) (Nat.le_of_ble_eq_true rfl) (Nat.zero_le _) (Nat.zero_le _) dX1_costOfPair_57 ?_
    refine lv_iadd hx hb dX1_costOfPair_60 ?_
    exact g_iret X hw hr hlk h dX1_costOfPair_61
  · have h := h.2 c29_8
    refine lv_iload hx hb dX1_costOfPair_32 (lv_at hl 1 rfl) ?_
    refine lv_iconst (v := 0) hx hb dX1_costOfPair_34 (by decide) ?_
    refine va_mmax hx hb (by rw [hl.1]; exact X.1.2.2.1) hown (hts _ (List.mem_cons_of_mem _ (List.mem_append_left _ (List.mem_append_left _ (List.mem_of_getElem? (i := 2) rfl))))) (hts _ (List.mem_cons_of_mem _ (List.mem_append_left _ (List.mem_append_left _ (List.mem_of_getElem? (i := 3) rfl))))) (hts _ (List.mem_cons_of_mem _ (List.mem_append_left _ (List.mem_append_left _ (List.mem_of_getElem? (i := 4) rfl))))) (hts _ (List.mem_cons_of_mem _ (List.mem_append_left _ (List.mem_append_left _ (List.mem_of_getElem? (i := 5) rfl))))) (Nat.le_of_ble_eq_true rfl) (Nat.le_of_ble_eq_true rfl) (Nat.zero_le _) (Nat.zero_le _) dX1_costOfPair_35 ?_
    refine lv_iload hx hb dX1_costOfPair_38 (lv_at hl 0 rfl) ?_
    refine lv_iconst (v := 0) hx hb dX1_costOfPair_40 (by decide) ?_
    refine va_mmax hx hb (by rw [hl.1]; exact X.1.2.2.1) hown (hts _ (List.mem_cons_of_mem _ (List.mem_append_left _ (List.mem_append_left _ (List.mem_of_getElem? (i := 2) rfl))))) (hts _ (List.mem_cons_of_mem _ (List.mem_append_left _ (List.mem_append_left _ (List.mem_of_getElem? (i := 3) rfl))))) (hts _ (List.mem_cons_of_mem _ (List.mem_append_left _ (List.mem_append_left _ (List.mem_of_getElem? (i := 4) rfl))))) (hts _ (List.mem_cons_of_mem _ (List.mem_append_left _ (List.mem_append_left _ (List.mem_of_getElem? (i := 5) rfl))))) (Nat.le_of_ble_eq_true rfl) (Nat.le_of_ble_eq_true rfl) (Nat.zero_le _) (Nat.zero_le _) dX1_costOfPair_41 ?_
    refine lv_iadd hx hb dX1_costOfPair_44 ?_
    exact g_iret X hw hr hlk h dX1_costOfPair_45

abbrev rmX1_costOfAll : Room := { frames := 2, cells := 0, slots := 0, locals := 47 }
def wp_X1_costOfAll (G : GS)  (post : Int32 → GS → Prop) : Prop :=
  ∃ I4_1 : Nat → Int32 → Int32 → GS → Prop, (∃ n_1 : Nat, I4_1 n_1 0 0 G) ∧ ∀ (n_1 : Nat) (v2_1 : Int32) (v3_1 : Int32) (G_1 : GS), I4_1 n_1 v2_1 v3_1 G_1 → (((G_1.1 5 7) ≤ v3_1 → (post v2_1 G_1)) ∧ (¬ ((G_1.1 5 7) ≤ v3_1) → (∃ I15_3 : Nat → Int32 → Int32 → GS → Prop, (∃ n_3 : Nat, I15_3 n_3 v2_1 0 G_1) ∧ ∀ (n_3 : Nat) (v2_3 : Int32) (v4_3 : Int32) (G_3 : GS), I15_3 n_3 v2_3 v4_3 G_3 → ((v3_1 ≤ v4_3 → (∃ k_6 : Nat, k_6 < n_1 ∧ I4_1 k_6 v2_3 (v3_1 + 1) G_3)) ∧ (¬ (v3_1 ≤ v4_3) → (wp_X1_costOfPair G_3 v3_1 v4_3 (fun r_8 G_7 => ∀ y_9 : Int32, y_9 = v2_3 + r_8 → (∃ k_11 : Nat, k_11 < n_3 ∧ I15_3 k_11 y_9 (v4_3 + 1) G_7))))))))
set_option maxHeartbeats 4000000 in
set_option maxRecDepth 100000 in
theorem m_X1_costOfAll (l : Launch) (D : va_G) (cy : Nat → ClassId) (q : Nat → Nat) (G : GS)  (post : Int32 → GS → Prop) (h : wp_X1_costOfAll G  post) : gMi l yX1_costOfAll wsX1_costOfAll rmX1_costOfAll D cy q [.ref (q 5), .ref (q 4)] G post := by
  intro sz
  refine Met.ofW (cc := cX1_costOfAll) (maxL := 5) (ret := (some .int)) (by decide) rfl ?_
  intro p e s m args below meth c s₁ B hml hv
  obtain ⟨ha, hsz, X, hw, hA, hr, hlk⟩ := g_start B hml hv
  have hx := X.1.1
  have hb := X.1.2.1
  have hown := X.1.2.2.2.1
  have hts := X.1.2.2.2.2
  refine g_in ha (Nat.le_of_ble_eq_true rfl) (fun ls hl => ?_)
  have hl : lv_has ls 5 [(0, .ref (q 5)), (1, .ref (q 4))] := hl
  unfold wp_X1_costOfAll at h
  have hinX1 : ∀ w ∈ wsX10, w ∈ wsX1_costOfAll := fun _ h9 => (List.mem_cons_of_mem _ (List.mem_append_left _ (List.mem_append_right _ h9)))
  refine lv_iconst (v := 0) hx hb dX1_costOfAll_0 (by decide) ?_
  refine lv_istore_n (lv' := [(2, .int 0), (0, .ref (q 5)), (1, .ref (q 4))]) hx hb dX1_costOfAll_1 rfl hl (by decide) rfl (fun ls hl => ?_)
  refine lv_iconst (v := 0) hx hb dX1_costOfAll_2 (by decide) ?_
  refine lv_istore_n (lv' := [(3, .int 0), (2, .int 0), (0, .ref (q 5)), (1, .ref (q 4))]) hx hb dX1_costOfAll_3 rfl hl (by decide) rfl (fun ls hl => ?_)
  obtain ⟨I4_1, ⟨n_1, h0⟩, hI4_1⟩ := h
  have LI4_1 : ∀ (n_1 : Nat) (v2_1 : Int32) (v3_1 : Int32) (G_1 : GS) (H : Heap) (locs : List Loc) (ls : Array Slot), gH D cy q (gA q sz) s.heap G_1 H locs → lv_has ls 5 [(0, .ref (q 5)), (1, .ref (q 4)), (2, .int v2_1), (3, .int v3_1)] → I4_1 n_1 v2_1 v3_1 G_1 → W p l e (headSpec wsX1_costOfAll rmX1_costOfAll).room s m args below meth c H locs 0 0 (MQ below (va_Qi post (gPo D cy q sz) (gA q sz)) args s 0 0 (gA q sz)) (F0 m 4 ls []) := by
    intro n_1
    induction n_1 using Nat.strongRecOn with
    | ind n_1 ihI4_1 =>
      intro v2_1 v3_1 G_1 H locs ls hw hl h
      have h := hI4_1 n_1 v2_1 v3_1 G_1 h
      refine lv_iload_n hx hb dX1_costOfAll_4 rfl (lv_at hl 3 rfl) ?_
      refine lv_aload_n hx hb dX1_costOfAll_5 rfl (lv_at hl 0 rfl) ?_
      refine g_get 5 7 (v := .int (G_1.1 5 7)) (C := RX1) (T := TX1) (N := 15) X hw (by decide) hinX1 rfl (by decide) (List.mem_cons_of_mem _ (List.mem_append_left _ (List.mem_append_left _ (List.mem_of_getElem? (i := 0) rfl)))) rfl dX1_costOfAll_6 ?_
      refine lv_icmp_ge (tgt := 44) hx hb dX1_costOfAll_9 (by decide) (fun c9_1 => ?_) (fun c9_1 => ?_)
      · have h := h.1 c9_1
        refine lv_iload_n hx hb dX1_costOfAll_44 rfl (lv_at hl 2 rfl) ?_
        exact g_iret X hw hr hlk h dX1_costOfAll_45
      · have h := h.2 c9_1
        refine lv_iconst (v := 0) hx hb dX1_costOfAll_12 (by decide) ?_
        refine lv_istore (lv' := [(4, .int 0), (0, .ref (q 5)), (1, .ref (q 4)), (2, .int v2_1), (3, .int v3_1)]) hx hb dX1_costOfAll_13 hl (by decide) rfl (fun ls hl => ?_)
        obtain ⟨I15_3, ⟨n_3, h0⟩, hI15_3⟩ := h
        have LI15_3 : ∀ (n_3 : Nat) (v2_3 : Int32) (v4_3 : Int32) (G_3 : GS) (H : Heap) (locs : List Loc) (ls : Array Slot), gH D cy q (gA q sz) s.heap G_3 H locs → lv_has ls 5 [(0, .ref (q 5)), (1, .ref (q 4)), (2, .int v2_3), (3, .int v3_1), (4, .int v4_3)] → I15_3 n_3 v2_3 v4_3 G_3 → W p l e (headSpec wsX1_costOfAll rmX1_costOfAll).room s m args below meth c H locs 0 0 (MQ below (va_Qi post (gPo D cy q sz) (gA q sz)) args s 0 0 (gA q sz)) (F0 m 15 ls []) := by
          intro n_3
          induction n_3 using Nat.strongRecOn with
          | ind n_3 ihI15_3 =>
            intro v2_3 v4_3 G_3 H locs ls hw hl h
            have h := hI15_3 n_3 v2_3 v4_3 G_3 h
            refine lv_iload hx hb dX1_costOfAll_15 (lv_at hl 4 rfl) ?_
            refine lv_iload_n hx hb dX1_costOfAll_17 rfl (lv_at hl 3 rfl) ?_
            refine lv_icmp_ge (tgt := 38) hx hb dX1_costOfAll_18 (by decide) (fun c18_3 => ?_) (fun c18_3 => ?_)
            · have h := h.1 c18_3
              refine lv_iinc (v := v3_1 + 1) (lv' := [(3, .int (v3_1 + 1)), (0, .ref (q 5)), (1, .ref (q 4)), (2, .int v2_3), (4, .int v4_3)]) hx hb dX1_costOfAll_38 hl (k := 3) rfl rfl (by decide) rfl (fun ls hl => ?_)
              refine lv_goto (tgt := 4) hx hb dX1_costOfAll_41 (by decide) ?_
              obtain ⟨k_6, hm, h⟩ := h
              exact ihI4_1 k_6 hm v2_3 (v3_1 + 1) G_3 _ _ ls hw (lv_sub hl [1, 2, 3, 0] rfl) h
            · have h := h.2 c18_3
              refine lv_iload_n hx hb dX1_costOfAll_21 rfl (lv_at hl 2 rfl) ?_
              refine lv_aload_n hx hb dX1_costOfAll_22 rfl (lv_at hl 0 rfl) ?_
              refine lv_iload_n hx hb dX1_costOfAll_23 rfl (lv_at hl 3 rfl) ?_
              refine lv_iload hx hb dX1_costOfAll_24 (lv_at hl 4 rfl) ?_
              refine lv_aload_n hx hb dX1_costOfAll_26 rfl (lv_at hl 1 rfl) ?_
              refine g_callVi 5 (C := RX1) (T := TX1) (N := 15) (As := [.int v3_1, .int v4_3, .ref (q 4)]) (rest := [.int v2_3]) X hw hA (m_X1_costOfPair l D cy q G_3 v3_1 v4_3 _ h) (by decide) rfl (cwV 3 hts gX1_costOfAll_X1_costOfPair rfl rfl rfl (by decide +kernel) ⟨Nat.le_of_ble_eq_true rfl, Nat.le_of_ble_eq_true rfl⟩) rfl hl.1 rfl (Nat.le_of_ble_eq_true rfl) dX1_costOfAll_27 ⟨Nat.zero_le _, Nat.zero_le _⟩ (fun r_8 G_7 H locs h hw => ?_)
              refine lv_iadd hx hb dX1_costOfAll_30 ?_
              refine lv_topi (fun y_9 ey_9 => ?_)
              have h := h y_9 ey_9
              refine lv_istore_n (lv' := [(2, .int y_9), (0, .ref (q 5)), (1, .ref (q 4)), (3, .int v3_1), (4, .int v4_3)]) hx hb dX1_costOfAll_31 rfl hl (by decide) rfl (fun ls hl => ?_)
              refine lv_iinc (v := v4_3 + 1) (lv' := [(4, .int (v4_3 + 1)), (2, .int y_9), (0, .ref (q 5)), (1, .ref (q 4)), (3, .int v3_1)]) hx hb dX1_costOfAll_32 hl (k := 4) rfl rfl (by decide) rfl (fun ls hl => ?_)
              refine lv_goto (tgt := 15) hx hb dX1_costOfAll_35 (by decide) ?_
              obtain ⟨k_11, hm, h⟩ := h
              exact ihI15_3 k_11 hm y_9 (v4_3 + 1) G_7 _ _ ls hw (lv_sub hl [2, 3, 1, 4, 0] rfl) h
        exact LI15_3 n_3 v2_1 0 G_1 _ _ ls hw (lv_sub hl [1, 2, 3, 4, 0] rfl) h0
  exact LI4_1 n_1 0 0 G _ _ ls hw (lv_sub hl [2, 3, 1, 0] rfl) h0

abbrev rmX1_numberAnew : Room := { frames := 1, cells := 0, slots := 0, locals := 23 }
def wp_X1_numberAnew (G : GS)  (post : GS → Prop) : Prop :=
  wp_J7_fill_53178 G 17 (-1) (fun G_1 => ∀ G_3 : GS, G_3 = sI G_1 5 8 0 → (∃ I15_4 : Nat → Int32 → GS → Prop, (∃ n_4 : Nat, I15_4 n_4 0 G_3) ∧ ∀ (n_4 : Nat) (v1_4 : Int32) (G_4 : GS), I15_4 n_4 v1_4 G_4 → (((G_4.1 5 7) ≤ v1_4 → (post G_4)) ∧ (¬ ((G_4.1 5 7) ≤ v1_4) → (∃ j28_5 : Nat, j28_5 < 40 ∧ v1_4 = nI j28_5 ∧ (∀ y_7 : Int32, y_7 = G_4.1 14 j28_5 → (∃ j35_7 : Nat, j35_7 < 41 ∧ y_7 = nI j35_7 ∧ (∃ J80_9 : GS → Prop, (∀ (G_10 : GS), J80_9 G_10 → (∃ j90_10 : Nat, j90_10 < 41 ∧ y_7 = nI j90_10 ∧ (∃ j91_11 : Nat, j91_11 < 40 ∧ v1_4 = nI j91_11 ∧ (∀ G_13 : GS, G_13 = sI G_10 14 j91_11 (G_10.1 17 j90_10) → (∃ j101_13 : Nat, j101_13 < 40 ∧ v1_4 = nI j101_13 ∧ (∃ j103_14 : Nat, j103_14 < 40 ∧ G_13.1 14 j101_13 = nI j103_14 ∧ (∃ j106_15 : Nat, j106_15 < 40 ∧ G_13.1 14 j101_13 = nI j106_15 ∧ (∀ G_17 : GS, G_17 = sI G_13 16 j106_15 ((G_13.1 16 j103_14) + 1) → (∃ k_19 : Nat, k_19 < n_4 ∧ I15_4 k_19 (v1_4 + 1) G_17))))))))) ∧ ((¬ (G_4.1 17 j35_7) = (-1) → (J80_9 G_4)) ∧ ((G_4.1 17 j35_7) = (-1) → (∃ j49_20 : Nat, j49_20 < 41 ∧ y_7 = nI j49_20 ∧ (∀ G_22 : GS, G_22 = sI G_4 17 j49_20 (G_4.1 5 8) → (∃ j59_22 : Nat, j59_22 < 40 ∧ G_22.1 5 8 = nI j59_22 ∧ (∀ G_24 : GS, G_24 = sI G_22 15 j59_22 v1_4 → (∃ j69_24 : Nat, j69_24 < 40 ∧ G_24.1 5 8 = nI j69_24 ∧ (∀ G_26 : GS, G_26 = sI G_24 16 j69_24 0 → (∀ G_27 : GS, G_27 = sI G_26 5 8 ((G_26.1 5 8) + 1) → (J80_9 G_27))))))))))))))))))
set_option maxHeartbeats 4000000 in
set_option maxRecDepth 100000 in
theorem m_X1_numberAnew (l : Launch) (D : va_G) (cy : Nat → ClassId) (q : Nat → Nat) (G : GS)  (post : GS → Prop) (h : wp_X1_numberAnew G  post) : gMv l yX1_numberAnew wsX1_numberAnew rmX1_numberAnew D cy q [.ref (q 5)] G post := by
  intro sz
  refine Met.ofW (cc := cX1_numberAnew) (maxL := 3) (ret := none) (by decide) rfl ?_
  intro p e s m args below meth c s₁ B hml hv
  obtain ⟨ha, hsz, X, hw, hA, hr, hlk⟩ := g_start B hml hv
  have hx := X.1.1
  have hb := X.1.2.1
  have hown := X.1.2.2.2.1
  have hts := X.1.2.2.2.2
  refine g_in ha (Nat.le_of_ble_eq_true rfl) (fun ls hl => ?_)
  have hl : lv_has ls 3 [(0, .ref (q 5))] := hl
  unfold wp_X1_numberAnew at h
  have hinX1 : ∀ w ∈ wsX10, w ∈ wsX1_numberAnew := fun _ h9 => (List.mem_cons_of_mem _ (List.mem_append_right _ h9))
  refine lv_aload_n hx hb dX1_numberAnew_0 rfl (lv_at hl 0 rfl) ?_
  refine g_get 5 4 (v := .ref (q 17)) (C := RX1) (T := TX1) (N := 15) X hw (by decide) hinX1 rfl (by decide) (List.mem_cons_of_mem _ (List.mem_append_left _ (List.mem_of_getElem? (i := 0) rfl))) rfl dX1_numberAnew_1 ?_
  refine lv_iconst (v := (-1)) hx hb dX1_numberAnew_4 (by decide) ?_
  refine g_callSv (As := [.ref (q 17), .int (-1)]) (rest := []) X hw hA (m_J7_fill_53178 l D cy q G 17 (-1) _ h) (va_cwS 2 hts gX1_numberAnew_J7_fill_53178 rfl rfl rfl (by decide +kernel) ⟨Nat.le_of_ble_eq_true rfl, Nat.le_of_ble_eq_true rfl⟩) rfl hl.1 rfl (Nat.le_of_ble_eq_true rfl) dX1_numberAnew_5 ⟨Nat.zero_le _, Nat.zero_le _⟩ (fun G_1 H locs h hw => ?_)
  refine lv_aload_n hx hb dX1_numberAnew_8 rfl (lv_at hl 0 rfl) ?_
  refine lv_iconst (v := 0) hx hb dX1_numberAnew_9 (by decide) ?_
  refine g_put 5 8 (v := 0) (ty := .int) (C := RX1) (T := TX1) (N := 15) X hw (by decide) hinX1 tyX1_ok nmX1 rfl (by decide) (List.mem_cons_of_mem _ (List.mem_append_left _ (List.mem_of_getElem? (i := 1) rfl))) rfl (by decide +kernel) rfl rfl (Nat.le_of_ble_eq_true rfl) rfl dX1_numberAnew_10 (fun H locs hw => ?_)
  obtain ⟨G_3, eG_3⟩ : ∃ z, z = sI G_1 5 8 0 := ⟨_, rfl⟩
  rw [← eG_3] at hw
  have h := h G_3 eG_3
  refine lv_iconst (v := 0) hx hb dX1_numberAnew_13 (by decide) ?_
  refine lv_istore_n (lv' := [(1, .int 0), (0, .ref (q 5))]) hx hb dX1_numberAnew_14 rfl hl (by decide) rfl (fun ls hl => ?_)
  obtain ⟨I15_4, ⟨n_4, h0⟩, hI15_4⟩ := h
  have LI15_4 : ∀ (n_4 : Nat) (v1_4 : Int32) (G_4 : GS) (H : Heap) (locs : List Loc) (ls : Array Slot), gH D cy q (gA q sz) s.heap G_4 H locs → lv_has ls 3 [(0, .ref (q 5)), (1, .int v1_4)] → I15_4 n_4 v1_4 G_4 → W p l e (headSpec wsX1_numberAnew rmX1_numberAnew).room s m args below meth c H locs 0 0 (MQ below (va_Qv post (gPo D cy q sz) (gA q sz)) args s 0 0 (gA q sz)) (F0 m 15 ls []) := by
    intro n_4
    induction n_4 using Nat.strongRecOn with
    | ind n_4 ihI15_4 =>
      intro v1_4 G_4 H locs ls hw hl h
      have h := hI15_4 n_4 v1_4 G_4 h
      refine lv_iload_n hx hb dX1_numberAnew_15 rfl (lv_at hl 1 rfl) ?_
      refine lv_aload_n hx hb dX1_numberAnew_16 rfl (lv_at hl 0 rfl) ?_
      refine g_get 5 7 (v := .int (G_4.1 5 7)) (C := RX1) (T := TX1) (N := 15) X hw (by decide) hinX1 rfl (by decide) (List.mem_cons_of_mem _ (List.mem_append_left _ (List.mem_of_getElem? (i := 2) rfl))) rfl dX1_numberAnew_17 ?_
      refine lv_icmp_ge (tgt := 113) hx hb dX1_numberAnew_20 (by decide) (fun c20_4 => ?_) (fun c20_4 => ?_)
      · have h := h.1 c20_4
        exact g_vret X hw hr hlk h dX1_numberAnew_113
      · have h := h.2 c20_4
        refine lv_aload_n hx hb dX1_numberAnew_23 rfl (lv_at hl 0 rfl) ?_
        refine g_get 5 1 (v := .ref (q 14)) (C := RX1) (T := TX1) (N := 15) X hw (by decide) hinX1 rfl (by decide) (List.mem_cons_of_mem _ (List.mem_append_left _ (List.mem_of_getElem? (i := 3) rfl))) rfl dX1_numberAnew_24 ?_
        refine lv_iload_n hx hb dX1_numberAnew_27 rfl (lv_at hl 1 rfl) ?_
        obtain ⟨j28_5, bj28_5, ej28_5, h⟩ := h
        refine g_iald 14 40 j28_5 X hw (Or.inr ⟨by decide, by decide⟩) rfl bj28_5 ej28_5 (by decide) dX1_numberAnew_28 ?_
        refine lv_topi (fun y_7 ey_7 => ?_)
        have h := h y_7 ey_7
        refine lv_istore_n (lv' := [(2, .int y_7), (0, .ref (q 5)), (1, .int v1_4)]) hx hb dX1_numberAnew_29 rfl hl (by decide) rfl (fun ls hl => ?_)
        refine lv_aload_n hx hb dX1_numberAnew_30 rfl (lv_at hl 1 rfl) ?_
        refine g_get 5 4 (v := .ref (q 17)) (C := RX1) (T := TX1) (N := 15) X hw (by decide) hinX1 rfl (by decide) (List.mem_cons_of_mem _ (List.mem_append_left _ (List.mem_of_getElem? (i := 0) rfl))) rfl dX1_numberAnew_31 ?_
        refine lv_iload_n hx hb dX1_numberAnew_34 rfl (lv_at hl 0 rfl) ?_
        obtain ⟨j35_7, bj35_7, ej35_7, h⟩ := h
        refine g_iald 17 41 j35_7 X hw (Or.inr ⟨by decide, by decide⟩) rfl bj35_7 ej35_7 (by decide) dX1_numberAnew_35 ?_
        refine lv_iconst (v := (-1)) hx hb dX1_numberAnew_36 (by decide) ?_
        obtain ⟨J80_9, hJ80_9, h⟩ := h
        have LJ80_9 : ∀ (G_10 : GS) (H : Heap) (locs : List Loc) (ls : Array Slot), gH D cy q (gA q sz) s.heap G_10 H locs → lv_has ls 3 [(0, .ref (q 5)), (1, .int v1_4), (2, .int y_7)] → J80_9 G_10 → W p l e (headSpec wsX1_numberAnew rmX1_numberAnew).room s m args below meth c H locs 0 0 (MQ below (va_Qv post (gPo D cy q sz) (gA q sz)) args s 0 0 (gA q sz)) (F0 m 80 ls []) := by
          intro G_10 H locs ls hw hl h
          have h := hJ80_9 G_10 h
          refine lv_aload_n hx hb dX1_numberAnew_80 rfl (lv_at hl 0 rfl) ?_
          refine g_get 5 1 (v := .ref (q 14)) (C := RX1) (T := TX1) (N := 15) X hw (by decide) hinX1 rfl (by decide) (List.mem_cons_of_mem _ (List.mem_append_left _ (List.mem_of_getElem? (i := 3) rfl))) rfl dX1_numberAnew_81 ?_
          refine lv_iload_n hx hb dX1_numberAnew_84 rfl (lv_at hl 1 rfl) ?_
          refine lv_aload_n hx hb dX1_numberAnew_85 rfl (lv_at hl 0 rfl) ?_
          refine g_get 5 4 (v := .ref (q 17)) (C := RX1) (T := TX1) (N := 15) X hw (by decide) hinX1 rfl (by decide) (List.mem_cons_of_mem _ (List.mem_append_left _ (List.mem_of_getElem? (i := 0) rfl))) rfl dX1_numberAnew_86 ?_
          refine lv_iload_n hx hb dX1_numberAnew_89 rfl (lv_at hl 2 rfl) ?_
          obtain ⟨j90_10, bj90_10, ej90_10, h⟩ := h
          refine g_iald 17 41 j90_10 X hw (Or.inr ⟨by decide, by decide⟩) rfl bj90_10 ej90_10 (by decide) dX1_numberAnew_90 ?_
          obtain ⟨j91_11, bj91_11, ej91_11, h⟩ := h
          refine g_iast 14 40 j91_11 X hw (Or.inr ⟨by decide, by decide⟩) rfl bj91_11 ej91_11 (by decide) dX1_numberAnew_91 (fun H locs hw => ?_)
          obtain ⟨G_13, eG_13⟩ : ∃ z, z = sI G_10 14 j91_11 (G_10.1 17 j90_10) := ⟨_, rfl⟩
          rw [← eG_13] at hw
          have h := h G_13 eG_13
          refine lv_aload_n hx hb dX1_numberAnew_92 rfl (lv_at hl 0 rfl) ?_
          refine g_get 5 3 (v := .ref (q 16)) (C := RX1) (T := TX1) (N := 15) X hw (by decide) hinX1 rfl (by decide) (List.mem_cons_of_mem _ (List.mem_append_left _ (List.mem_of_getElem? (i := 5) rfl))) rfl dX1_numberAnew_93 ?_
          refine lv_aload_n hx hb dX1_numberAnew_96 rfl (lv_at hl 0 rfl) ?_
          refine g_get 5 1 (v := .ref (q 14)) (C := RX1) (T := TX1) (N := 15) X hw (by decide) hinX1 rfl (by decide) (List.mem_cons_of_mem _ (List.mem_append_left _ (List.mem_of_getElem? (i := 3) rfl))) rfl dX1_numberAnew_97 ?_
          refine lv_iload_n hx hb dX1_numberAnew_100 rfl (lv_at hl 1 rfl) ?_
          obtain ⟨j101_13, bj101_13, ej101_13, h⟩ := h
          refine g_iald 14 40 j101_13 X hw (Or.inr ⟨by decide, by decide⟩) rfl bj101_13 ej101_13 (by decide) dX1_numberAnew_101 ?_
          refine lv_dup2_11 hx hb dX1_numberAnew_102 rfl rfl ?_
          obtain ⟨j103_14, bj103_14, ej103_14, h⟩ := h
          refine g_iald 16 40 j103_14 X hw (Or.inr ⟨by decide, by decide⟩) rfl bj103_14 ej103_14 (by decide) dX1_numberAnew_103 ?_
          refine lv_iconst (v := 1) hx hb dX1_numberAnew_104 (by decide) ?_
          refine lv_iadd hx hb dX1_numberAnew_105 ?_
          obtain ⟨j106_15, bj106_15, ej106_15, h⟩ := h
          refine g_iast 16 40 j106_15 X hw (Or.inr ⟨by decide, by decide⟩) rfl bj106_15 ej106_15 (by decide) dX1_numberAnew_106 (fun H locs hw => ?_)
          obtain ⟨G_17, eG_17⟩ : ∃ z, z = sI G_13 16 j106_15 ((G_13.1 16 j103_14) + 1) := ⟨_, rfl⟩
          rw [← eG_17] at hw
          have h := h G_17 eG_17
          refine lv_iinc (v := v1_4 + 1) (lv' := [(1, .int (v1_4 + 1)), (0, .ref (q 5)), (2, .int y_7)]) hx hb dX1_numberAnew_107 hl (k := 1) rfl rfl (by decide) rfl (fun ls hl => ?_)
          refine lv_goto (tgt := 15) hx hb dX1_numberAnew_110 (by decide) ?_
          obtain ⟨k_19, hm, h⟩ := h
          exact ihI15_4 k_19 hm (v1_4 + 1) G_17 _ _ ls hw (lv_sub hl [1, 0] rfl) h
        refine lv_icmp_ne (tgt := 80) hx hb dX1_numberAnew_37 (by decide) (fun c37_19 => ?_) (fun c37_19 => ?_)
        · have h := h.1 c37_19
          exact LJ80_9 G_4 _ _ ls hw (lv_sub hl [1, 2, 0] rfl) h
        · have h := h.2 c37_19
          refine lv_aload_n hx hb dX1_numberAnew_40 rfl (lv_at hl 1 rfl) ?_
          refine g_get 5 4 (v := .ref (q 17)) (C := RX1) (T := TX1) (N := 15) X hw (by decide) hinX1 rfl (by decide) (List.mem_cons_of_mem _ (List.mem_append_left _ (List.mem_of_getElem? (i := 0) rfl))) rfl dX1_numberAnew_41 ?_
          refine lv_iload_n hx hb dX1_numberAnew_44 rfl (lv_at hl 0 rfl) ?_
          refine lv_aload_n hx hb dX1_numberAnew_45 rfl (lv_at hl 1 rfl) ?_
          refine g_get 5 8 (v := .int (G_4.1 5 8)) (C := RX1) (T := TX1) (N := 15) X hw (by decide) hinX1 rfl (by decide) (List.mem_cons_of_mem _ (List.mem_append_left _ (List.mem_of_getElem? (i := 1) rfl))) rfl dX1_numberAnew_46 ?_
          obtain ⟨j49_20, bj49_20, ej49_20, h⟩ := h
          refine g_iast 17 41 j49_20 X hw (Or.inr ⟨by decide, by decide⟩) rfl bj49_20 ej49_20 (by decide) dX1_numberAnew_49 (fun H locs hw => ?_)
          obtain ⟨G_22, eG_22⟩ : ∃ z, z = sI G_4 17 j49_20 (G_4.1 5 8) := ⟨_, rfl⟩
          rw [← eG_22] at hw
          have h := h G_22 eG_22
          refine lv_aload_n hx hb dX1_numberAnew_50 rfl (lv_at hl 1 rfl) ?_
          refine g_get 5 2 (v := .ref (q 15)) (C := RX1) (T := TX1) (N := 15) X hw (by decide) hinX1 rfl (by decide) (List.mem_cons_of_mem _ (List.mem_append_left _ (List.mem_of_getElem? (i := 4) rfl))) rfl dX1_numberAnew_51 ?_
          refine lv_aload_n hx hb dX1_numberAnew_54 rfl (lv_at hl 1 rfl) ?_
          refine g_get 5 8 (v := .int (G_22.1 5 8)) (C := RX1) (T := TX1) (N := 15) X hw (by decide) hinX1 rfl (by decide) (List.mem_cons_of_mem _ (List.mem_append_left _ (List.mem_of_getElem? (i := 1) rfl))) rfl dX1_numberAnew_55 ?_
          refine lv_iload_n hx hb dX1_numberAnew_58 rfl (lv_at hl 2 rfl) ?_
          obtain ⟨j59_22, bj59_22, ej59_22, h⟩ := h
          refine g_iast 15 40 j59_22 X hw (Or.inr ⟨by decide, by decide⟩) rfl bj59_22 ej59_22 (by decide) dX1_numberAnew_59 (fun H locs hw => ?_)
          obtain ⟨G_24, eG_24⟩ : ∃ z, z = sI G_22 15 j59_22 v1_4 := ⟨_, rfl⟩
          rw [← eG_24] at hw
          have h := h G_24 eG_24
          refine lv_aload_n hx hb dX1_numberAnew_60 rfl (lv_at hl 1 rfl) ?_
          refine g_get 5 3 (v := .ref (q 16)) (C := RX1) (T := TX1) (N := 15) X hw (by decide) hinX1 rfl (by decide) (List.mem_cons_of_mem _ (List.mem_append_left _ (List.mem_of_getElem? (i := 5) rfl))) rfl dX1_numberAnew_61 ?_
          refine lv_aload_n hx hb dX1_numberAnew_64 rfl (lv_at hl 1 rfl) ?_
          refine g_get 5 8 (v := .int (G_24.1 5 8)) (C := RX1) (T := TX1) (N := 15) X hw (by decide) hinX1 rfl (by decide) (List.mem_cons_of_mem _ (List.mem_append_left _ (List.mem_of_getElem? (i := 1) rfl))) rfl dX1_numberAnew_65 ?_
          refine lv_iconst (v := 0) hx hb dX1_numberAnew_68 (by decide) ?_
          obtain ⟨j69_24, bj69_24, ej69_24, h⟩ := h
          refine g_iast 16 40 j69_24 X hw (Or.inr ⟨by decide, by decide⟩) rfl bj69_24 ej69_24 (by decide) dX1_numberAnew_69 (fun H locs hw => ?_)
          obtain ⟨G_26, eG_26⟩ : ∃ z, z = sI G_24 16 j69_24 0 := ⟨_, rfl⟩
          rw [← eG_26] at hw
          have h := h G_26 eG_26
          refine lv_aload_n hx hb dX1_numberAnew_70 rfl (lv_at hl 1 rfl) ?_
          refine lv_dup hx hb dX1_numberAnew_71 rfl ?_
          refine g_get 5 8 (v := .int (G_26.1 5 8)) (C := RX1) (T := TX1) (N := 15) X hw (by decide) hinX1 rfl (by decide) (List.mem_cons_of_mem _ (List.mem_append_left _ (List.mem_of_getElem? (i := 1) rfl))) rfl dX1_numberAnew_72 ?_
          refine lv_iconst (v := 1) hx hb dX1_numberAnew_75 (by decide) ?_
          refine lv_iadd hx hb dX1_numberAnew_76 ?_
          refine g_put 5 8 (v := (G_26.1 5 8) + 1) (ty := .int) (C := RX1) (T := TX1) (N := 15) X hw (by decide) hinX1 tyX1_ok nmX1 rfl (by decide) (List.mem_cons_of_mem _ (List.mem_append_left _ (List.mem_of_getElem? (i := 1) rfl))) rfl (by decide +kernel) rfl rfl (Nat.le_of_ble_eq_true rfl) rfl dX1_numberAnew_77 (fun H locs hw => ?_)
          obtain ⟨G_27, eG_27⟩ : ∃ z, z = sI G_26 5 8 ((G_26.1 5 8) + 1) := ⟨_, rfl⟩
          rw [← eG_27] at hw
          have h := h G_27 eG_27
          exact LJ80_9 G_27 _ _ ls hw (lv_sub hl [1, 2, 0] rfl) h
  exact LI15_4 n_4 0 G_3 _ _ ls hw (lv_sub hl [1, 0] rfl) h0

abbrev rmX1_addAlone : Room := { frames := 2, cells := 0, slots := 0, locals := 45 }
def wp_X1_addAlone (G : GS)  (post : GS → Prop) : Prop :=
  (40 ≤ (G.1 5 7) → (post G)) ∧ (¬ (40 ≤ (G.1 5 7)) → (∃ j21_1 : Nat, j21_1 < 40 ∧ G.1 5 7 = nI j21_1 ∧ (∀ G_3 : GS, G_3 = sI G 14 j21_1 (G.1 5 8) → (∀ G_4 : GS, G_4 = sI G_3 5 7 ((G_3.1 5 7) + 1) → (wp_X1_numberAnew G_4 (fun G_5 => post G_5))))))
set_option maxHeartbeats 4000000 in
set_option maxRecDepth 100000 in
theorem m_X1_addAlone (l : Launch) (D : va_G) (cy : Nat → ClassId) (q : Nat → Nat) (G : GS)  (post : GS → Prop) (h : wp_X1_addAlone G  post) : gMv l yX1_addAlone wsX1_addAlone rmX1_addAlone D cy q [.ref (q 5)] G post := by
  intro sz
  refine Met.ofW (cc := cX1_addAlone) (maxL := 1) (ret := none) (by decide) rfl ?_
  intro p e s m args below meth c s₁ B hml hv
  obtain ⟨ha, hsz, X, hw, hA, hr, hlk⟩ := g_start B hml hv
  have hx := X.1.1
  have hb := X.1.2.1
  have hown := X.1.2.2.2.1
  have hts := X.1.2.2.2.2
  refine g_in ha (Nat.le_of_ble_eq_true rfl) (fun ls hl => ?_)
  have hl : lv_has ls 1 [(0, .ref (q 5))] := hl
  unfold wp_X1_addAlone at h
  have hinX1 : ∀ w ∈ wsX10, w ∈ wsX1_addAlone := fun _ h9 => (List.mem_cons_of_mem _ (List.mem_append_right _ h9))
  refine lv_aload_n hx hb dX1_addAlone_0 rfl (lv_at hl 0 rfl) ?_
  refine g_get 5 7 (v := .int (G.1 5 7)) (C := RX1) (T := TX1) (N := 15) X hw (by decide) hinX1 rfl (by decide) (List.mem_cons_of_mem _ (List.mem_append_left _ (List.mem_of_getElem? (i := 0) rfl))) rfl dX1_addAlone_1 ?_
  refine lv_bipush (v := 40) hx hb dX1_addAlone_4 (by decide) ?_
  refine lv_icmp_ge (tgt := 36) hx hb dX1_addAlone_6 (by decide) (fun c6_0 => ?_) (fun c6_0 => ?_)
  · have h := h.1 c6_0
    exact g_vret X hw hr hlk h dX1_addAlone_36
  · have h := h.2 c6_0
    refine lv_aload_n hx hb dX1_addAlone_9 rfl (lv_at hl 0 rfl) ?_
    refine g_get 5 1 (v := .ref (q 14)) (C := RX1) (T := TX1) (N := 15) X hw (by decide) hinX1 rfl (by decide) (List.mem_cons_of_mem _ (List.mem_append_left _ (List.mem_of_getElem? (i := 1) rfl))) rfl dX1_addAlone_10 ?_
    refine lv_aload_n hx hb dX1_addAlone_13 rfl (lv_at hl 0 rfl) ?_
    refine g_get 5 7 (v := .int (G.1 5 7)) (C := RX1) (T := TX1) (N := 15) X hw (by decide) hinX1 rfl (by decide) (List.mem_cons_of_mem _ (List.mem_append_left _ (List.mem_of_getElem? (i := 0) rfl))) rfl dX1_addAlone_14 ?_
    refine lv_aload_n hx hb dX1_addAlone_17 rfl (lv_at hl 0 rfl) ?_
    refine g_get 5 8 (v := .int (G.1 5 8)) (C := RX1) (T := TX1) (N := 15) X hw (by decide) hinX1 rfl (by decide) (List.mem_cons_of_mem _ (List.mem_append_left _ (List.mem_of_getElem? (i := 2) rfl))) rfl dX1_addAlone_18 ?_
    obtain ⟨j21_1, bj21_1, ej21_1, h⟩ := h
    refine g_iast 14 40 j21_1 X hw (Or.inr ⟨by decide, by decide⟩) rfl bj21_1 ej21_1 (by decide) dX1_addAlone_21 (fun H locs hw => ?_)
    obtain ⟨G_3, eG_3⟩ : ∃ z, z = sI G 14 j21_1 (G.1 5 8) := ⟨_, rfl⟩
    rw [← eG_3] at hw
    have h := h G_3 eG_3
    refine lv_aload_n hx hb dX1_addAlone_22 rfl (lv_at hl 0 rfl) ?_
    refine lv_dup hx hb dX1_addAlone_23 rfl ?_
    refine g_get 5 7 (v := .int (G_3.1 5 7)) (C := RX1) (T := TX1) (N := 15) X hw (by decide) hinX1 rfl (by decide) (List.mem_cons_of_mem _ (List.mem_append_left _ (List.mem_of_getElem? (i := 0) rfl))) rfl dX1_addAlone_24 ?_
    refine lv_iconst (v := 1) hx hb dX1_addAlone_27 (by decide) ?_
    refine lv_iadd hx hb dX1_addAlone_28 ?_
    refine g_put 5 7 (v := (G_3.1 5 7) + 1) (ty := .int) (C := RX1) (T := TX1) (N := 15) X hw (by decide) hinX1 tyX1_ok nmX1 rfl (by decide) (List.mem_cons_of_mem _ (List.mem_append_left _ (List.mem_of_getElem? (i := 0) rfl))) rfl (by decide +kernel) rfl rfl (Nat.le_of_ble_eq_true rfl) rfl dX1_addAlone_29 (fun H locs hw => ?_)
    obtain ⟨G_4, eG_4⟩ : ∃ z, z = sI G_3 5 7 ((G_3.1 5 7) + 1) := ⟨_, rfl⟩
    rw [← eG_4] at hw
    have h := h G_4 eG_4
    refine lv_aload_n hx hb dX1_addAlone_32 rfl (lv_at hl 0 rfl) ?_
    refine g_callVv 5 (C := RX1) (T := TX1) (N := 15) (As := []) (rest := []) X hw hA (m_X1_numberAnew l D cy q G_4 _ h) (by decide) rfl (cwV 0 hts gX1_addAlone_X1_numberAnew rfl rfl rfl (by decide +kernel) ⟨Nat.le_of_ble_eq_true rfl, Nat.le_of_ble_eq_true rfl⟩) rfl hl.1 rfl (Nat.le_of_ble_eq_true rfl) dX1_addAlone_33 ⟨Nat.zero_le _, Nat.zero_le _⟩ (fun G_5 H locs h hw => ?_)
    exact g_vret X hw hr hlk h dX1_addAlone_36

abbrev rmX1_partAll : Room := { frames := 2, cells := 0, slots := 0, locals := 45 }
def wp_X1_partAll (G : GS)  (post : GS → Prop) : Prop :=
  ∃ I2_1 : Nat → Int32 → GS → Prop, (∃ n_1 : Nat, I2_1 n_1 0 G) ∧ ∀ (n_1 : Nat) (v1_1 : Int32) (G_1 : GS), I2_1 n_1 v1_1 G_1 → (((G_1.1 5 7) ≤ v1_1 → (wp_X1_numberAnew G_1 (fun G_3 => post G_3))) ∧ (¬ ((G_1.1 5 7) ≤ v1_1) → (∃ j16_4 : Nat, j16_4 < 40 ∧ v1_1 = nI j16_4 ∧ (∀ G_6 : GS, G_6 = sI G_1 14 j16_4 v1_1 → (∃ k_8 : Nat, k_8 < n_1 ∧ I2_1 k_8 (v1_1 + 1) G_6)))))
set_option maxHeartbeats 4000000 in
set_option maxRecDepth 100000 in
theorem m_X1_partAll (l : Launch) (D : va_G) (cy : Nat → ClassId) (q : Nat → Nat) (G : GS)  (post : GS → Prop) (h : wp_X1_partAll G  post) : gMv l yX1_partAll wsX1_partAll rmX1_partAll D cy q [.ref (q 5)] G post := by
  intro sz
  refine Met.ofW (cc := cX1_partAll) (maxL := 2) (ret := none) (by decide) rfl ?_
  intro p e s m args below meth c s₁ B hml hv
  obtain ⟨ha, hsz, X, hw, hA, hr, hlk⟩ := g_start B hml hv
  have hx := X.1.1
  have hb := X.1.2.1
  have hown := X.1.2.2.2.1
  have hts := X.1.2.2.2.2
  refine g_in ha (Nat.le_of_ble_eq_true rfl) (fun ls hl => ?_)
  have hl : lv_has ls 2 [(0, .ref (q 5))] := hl
  unfold wp_X1_partAll at h
  have hinX1 : ∀ w ∈ wsX10, w ∈ wsX1_partAll := fun _ h9 => (List.mem_cons_of_mem _ (List.mem_append_right _ h9))
  refine lv_iconst (v := 0) hx hb dX1_partAll_0 (by decide) ?_
  refine lv_istore_n (lv' := [(1, .int 0), (0, .ref (q 5))]) hx hb dX1_partAll_1 rfl hl (by decide) rfl (fun ls hl => ?_)
  obtain ⟨I2_1, ⟨n_1, h0⟩, hI2_1⟩ := h
  have LI2_1 : ∀ (n_1 : Nat) (v1_1 : Int32) (G_1 : GS) (H : Heap) (locs : List Loc) (ls : Array Slot), gH D cy q (gA q sz) s.heap G_1 H locs → lv_has ls 2 [(0, .ref (q 5)), (1, .int v1_1)] → I2_1 n_1 v1_1 G_1 → W p l e (headSpec wsX1_partAll rmX1_partAll).room s m args below meth c H locs 0 0 (MQ below (va_Qv post (gPo D cy q sz) (gA q sz)) args s 0 0 (gA q sz)) (F0 m 2 ls []) := by
    intro n_1
    induction n_1 using Nat.strongRecOn with
    | ind n_1 ihI2_1 =>
      intro v1_1 G_1 H locs ls hw hl h
      have h := hI2_1 n_1 v1_1 G_1 h
      refine lv_iload_n hx hb dX1_partAll_2 rfl (lv_at hl 1 rfl) ?_
      refine lv_aload_n hx hb dX1_partAll_3 rfl (lv_at hl 0 rfl) ?_
      refine g_get 5 7 (v := .int (G_1.1 5 7)) (C := RX1) (T := TX1) (N := 15) X hw (by decide) hinX1 rfl (by decide) (List.mem_cons_of_mem _ (List.mem_append_left _ (List.mem_of_getElem? (i := 0) rfl))) rfl dX1_partAll_4 ?_
      refine lv_icmp_ge (tgt := 23) hx hb dX1_partAll_7 (by decide) (fun c7_1 => ?_) (fun c7_1 => ?_)
      · have h := h.1 c7_1
        refine lv_aload_n hx hb dX1_partAll_23 rfl (lv_at hl 0 rfl) ?_
        refine g_callVv 5 (C := RX1) (T := TX1) (N := 15) (As := []) (rest := []) X hw hA (m_X1_numberAnew l D cy q G_1 _ h) (by decide) rfl (cwV 0 hts gX1_partAll_X1_numberAnew rfl rfl rfl (by decide +kernel) ⟨Nat.le_of_ble_eq_true rfl, Nat.le_of_ble_eq_true rfl⟩) rfl hl.1 rfl (Nat.le_of_ble_eq_true rfl) dX1_partAll_24 ⟨Nat.zero_le _, Nat.zero_le _⟩ (fun G_3 H locs h hw => ?_)
        exact g_vret X hw hr hlk h dX1_partAll_27
      · have h := h.2 c7_1
        refine lv_aload_n hx hb dX1_partAll_10 rfl (lv_at hl 0 rfl) ?_
        refine g_get 5 1 (v := .ref (q 14)) (C := RX1) (T := TX1) (N := 15) X hw (by decide) hinX1 rfl (by decide) (List.mem_cons_of_mem _ (List.mem_append_left _ (List.mem_of_getElem? (i := 1) rfl))) rfl dX1_partAll_11 ?_
        refine lv_iload_n hx hb dX1_partAll_14 rfl (lv_at hl 1 rfl) ?_
        refine lv_iload_n hx hb dX1_partAll_15 rfl (lv_at hl 1 rfl) ?_
        obtain ⟨j16_4, bj16_4, ej16_4, h⟩ := h
        refine g_iast 14 40 j16_4 X hw (Or.inr ⟨by decide, by decide⟩) rfl bj16_4 ej16_4 (by decide) dX1_partAll_16 (fun H locs hw => ?_)
        obtain ⟨G_6, eG_6⟩ : ∃ z, z = sI G_1 14 j16_4 v1_1 := ⟨_, rfl⟩
        rw [← eG_6] at hw
        have h := h G_6 eG_6
        refine lv_iinc (v := v1_1 + 1) (lv' := [(1, .int (v1_1 + 1)), (0, .ref (q 5))]) hx hb dX1_partAll_17 hl (k := 1) rfl rfl (by decide) rfl (fun ls hl => ?_)
        refine lv_goto (tgt := 2) hx hb dX1_partAll_20 (by decide) ?_
        obtain ⟨k_8, hm, h⟩ := h
        exact ihI2_1 k_8 hm (v1_1 + 1) G_6 _ _ ls hw (lv_sub hl [1, 0] rfl) h
  exact LI2_1 n_1 0 G _ _ ls hw (lv_sub hl [1, 0] rfl) h0

abbrev rmX1_weighJoining : Room := { frames := 1, cells := 0, slots := 0, locals := 23 }
def wp_X1_weighJoining (G : GS)  (post : GS → Prop) : Prop :=
  ∃ I2_1 : Nat → Int32 → GS → Prop, (∃ n_1 : Nat, I2_1 n_1 0 G) ∧ ∀ (n_1 : Nat) (v2_1 : Int32) (G_1 : GS), I2_1 n_1 v2_1 G_1 → (((G_1.1 5 7) ≤ v2_1 → (post G_1)) ∧ (¬ ((G_1.1 5 7) ≤ v2_1) → (∃ j15_2 : Nat, j15_2 < 40 ∧ v2_1 = nI j15_2 ∧ (wp_J7_fill_53178 G_1 (208 + j15_2) 0 (fun G_4 => ∃ I22_6 : Nat → Int32 → GS → Prop, (∃ n_6 : Nat, I22_6 n_6 0 G_4) ∧ ∀ (n_6 : Nat) (v3_6 : Int32) (G_6 : GS), I22_6 n_6 v3_6 G_6 → (((G_6.1 5 7) ≤ v3_6 → (∃ k_9 : Nat, k_9 < n_1 ∧ I2_1 k_9 (v2_1 + 1) G_6)) ∧ (¬ ((G_6.1 5 7) ≤ v3_6) → ((v3_6 = v2_1 → (∃ k_12 : Nat, k_12 < n_6 ∧ I22_6 k_12 (v3_6 + 1) G_6)) ∧ (¬ (v3_6 = v2_1) → (∃ j40_12 : Nat, j40_12 < 40 ∧ v2_1 = nI j40_12 ∧ (∃ j46_13 : Nat, j46_13 < 40 ∧ v3_6 = nI j46_13 ∧ (∃ j48_14 : Nat, j48_14 < 40 ∧ G_6.1 14 j46_13 = nI j48_14 ∧ (wp_X0_between G_6 v2_1 v3_6 (fun r_17 G_16 => ∃ j65_17 : Nat, j65_17 < 40 ∧ v2_1 = nI j65_17 ∧ (∃ j67_18 : Nat, j67_18 < 40 ∧ v3_6 = nI j67_18 ∧ (∃ j70_19 : Nat, j70_19 < 40 ∧ G_6.1 14 j46_13 = nI j70_19 ∧ (∀ G_21 : GS, G_21 = sI G_16 (208 + j40_12) j70_19 ((G_6.1 (208 + j40_12) j48_14) + ((r_17 - (G_16.1 5 9)) + (G_16.1 (168 + j65_17) j67_18))) → (∃ k_23 : Nat, k_23 < n_6 ∧ I22_6 k_23 (v3_6 + 1) G_21))))))))))))))))))
set_option maxHeartbeats 4000000 in
set_option maxRecDepth 100000 in
theorem m_X1_weighJoining (l : Launch) (D : va_G) (cy : Nat → ClassId) (q : Nat → Nat) (G : GS)  (post : GS → Prop) (h : wp_X1_weighJoining G  post) : gMv l yX1_weighJoining wsX1_weighJoining rmX1_weighJoining D cy q [.ref (q 5), .ref (q 4)] G post := by
  intro sz
  refine Met.ofW (cc := cX1_weighJoining) (maxL := 4) (ret := none) (by decide) rfl ?_
  intro p e s m args below meth c s₁ B hml hv
  obtain ⟨ha, hsz, X, hw, hA, hr, hlk⟩ := g_start B hml hv
  have hx := X.1.1
  have hb := X.1.2.1
  have hown := X.1.2.2.2.1
  have hts := X.1.2.2.2.2
  refine g_in ha (Nat.le_of_ble_eq_true rfl) (fun ls hl => ?_)
  have hl : lv_has ls 4 [(0, .ref (q 5)), (1, .ref (q 4))] := hl
  unfold wp_X1_weighJoining at h
  have hinX1 : ∀ w ∈ wsX10, w ∈ wsX1_weighJoining := fun _ h9 => (List.mem_cons_of_mem _ (List.mem_append_left _ (List.mem_append_right _ h9)))
  refine lv_iconst (v := 0) hx hb dX1_weighJoining_0 (by decide) ?_
  refine lv_istore_n (lv' := [(2, .int 0), (0, .ref (q 5)), (1, .ref (q 4))]) hx hb dX1_weighJoining_1 rfl hl (by decide) rfl (fun ls hl => ?_)
  obtain ⟨I2_1, ⟨n_1, h0⟩, hI2_1⟩ := h
  have LI2_1 : ∀ (n_1 : Nat) (v2_1 : Int32) (G_1 : GS) (H : Heap) (locs : List Loc) (ls : Array Slot), gH D cy q (gA q sz) s.heap G_1 H locs → lv_has ls 4 [(0, .ref (q 5)), (1, .ref (q 4)), (2, .int v2_1)] → I2_1 n_1 v2_1 G_1 → W p l e (headSpec wsX1_weighJoining rmX1_weighJoining).room s m args below meth c H locs 0 0 (MQ below (va_Qv post (gPo D cy q sz) (gA q sz)) args s 0 0 (gA q sz)) (F0 m 2 ls []) := by
    intro n_1
    induction n_1 using Nat.strongRecOn with
    | ind n_1 ihI2_1 =>
      intro v2_1 G_1 H locs ls hw hl h
      have h := hI2_1 n_1 v2_1 G_1 h
      refine lv_iload_n hx hb dX1_weighJoining_2 rfl (lv_at hl 2 rfl) ?_
      refine lv_aload_n hx hb dX1_weighJoining_3 rfl (lv_at hl 0 rfl) ?_
      refine g_get 5 7 (v := .int (G_1.1 5 7)) (C := RX1) (T := TX1) (N := 15) X hw (by decide) hinX1 rfl (by decide) (List.mem_cons_of_mem _ (List.mem_append_left _ (List.mem_append_left _ (List.mem_of_getElem? (i := 0) rfl)))) rfl dX1_weighJoining_4 ?_
      refine lv_icmp_ge (tgt := 83) hx hb dX1_weighJoining_7 (by decide) (fun c7_1 => ?_) (fun c7_1 => ?_)
      · have h := h.1 c7_1
        exact g_vret X hw hr hlk h dX1_weighJoining_83
      · have h := h.2 c7_1
        refine lv_aload_n hx hb dX1_weighJoining_10 rfl (lv_at hl 0 rfl) ?_
        refine g_get 5 5 (v := .ref (q 46)) (C := RX1) (T := TX1) (N := 15) X hw (by decide) hinX1 rfl (by decide) (List.mem_cons_of_mem _ (List.mem_append_left _ (List.mem_append_left _ (List.mem_of_getElem? (i := 1) rfl)))) rfl dX1_weighJoining_11 ?_
        refine lv_iload_n hx hb dX1_weighJoining_14 rfl (lv_at hl 2 rfl) ?_
        obtain ⟨j15_2, bj15_2, ej15_2, h⟩ := h
        refine g_aald 46 40 j15_2 X hw ⟨by decide, by decide⟩ rfl bj15_2 ej15_2 (by decide) dX1_weighJoining_15 ?_
        refine lv_iconst (v := 0) hx hb dX1_weighJoining_16 (by decide) ?_
        refine g_callSv (As := [.ref (q (208 + j15_2)), .int 0]) (rest := []) X hw hA (m_J7_fill_53178 l D cy q G_1 (208 + j15_2) 0 _ h) (va_cwS 2 hts gX1_weighJoining_J7_fill_53178 rfl rfl rfl (by decide +kernel) ⟨Nat.le_of_ble_eq_true rfl, Nat.le_of_ble_eq_true rfl⟩) rfl hl.1 rfl (Nat.le_of_ble_eq_true rfl) dX1_weighJoining_17 ⟨Nat.zero_le _, Nat.zero_le _⟩ (fun G_4 H locs h hw => ?_)
        refine lv_iconst (v := 0) hx hb dX1_weighJoining_20 (by decide) ?_
        refine lv_istore_n (lv' := [(3, .int 0), (0, .ref (q 5)), (1, .ref (q 4)), (2, .int v2_1)]) hx hb dX1_weighJoining_21 rfl hl (by decide) rfl (fun ls hl => ?_)
        obtain ⟨I22_6, ⟨n_6, h0⟩, hI22_6⟩ := h
        have LI22_6 : ∀ (n_6 : Nat) (v3_6 : Int32) (G_6 : GS) (H : Heap) (locs : List Loc) (ls : Array Slot), gH D cy q (gA q sz) s.heap G_6 H locs → lv_has ls 4 [(0, .ref (q 5)), (1, .ref (q 4)), (2, .int v2_1), (3, .int v3_6)] → I22_6 n_6 v3_6 G_6 → W p l e (headSpec wsX1_weighJoining rmX1_weighJoining).room s m args below meth c H locs 0 0 (MQ below (va_Qv post (gPo D cy q sz) (gA q sz)) args s 0 0 (gA q sz)) (F0 m 22 ls []) := by
          intro n_6
          induction n_6 using Nat.strongRecOn with
          | ind n_6 ihI22_6 =>
            intro v3_6 G_6 H locs ls hw hl h
            have h := hI22_6 n_6 v3_6 G_6 h
            refine lv_iload_n hx hb dX1_weighJoining_22 rfl (lv_at hl 3 rfl) ?_
            refine lv_aload_n hx hb dX1_weighJoining_23 rfl (lv_at hl 0 rfl) ?_
            refine g_get 5 7 (v := .int (G_6.1 5 7)) (C := RX1) (T := TX1) (N := 15) X hw (by decide) hinX1 rfl (by decide) (List.mem_cons_of_mem _ (List.mem_append_left _ (List.mem_append_left _ (List.mem_of_getElem? (i := 0) rfl)))) rfl dX1_weighJoining_24 ?_
            refine lv_icmp_ge (tgt := 77) hx hb dX1_weighJoining_27 (by decide) (fun c27_6 => ?_) (fun c27_6 => ?_)
            · have h := h.1 c27_6
              refine lv_iinc (v := v2_1 + 1) (lv' := [(2, .int (v2_1 + 1)), (0, .ref (q 5)), (1, .ref (q 4)), (3, .int v3_6)]) hx hb dX1_weighJoining_77 hl (k := 2) rfl rfl (by decide) rfl (fun ls hl => ?_)
              refine lv_goto (tgt := 2) hx hb dX1_weighJoining_80 (by decide) ?_
              obtain ⟨k_9, hm, h⟩ := h
              exact ihI2_1 k_9 hm (v2_1 + 1) G_6 _ _ ls hw (lv_sub hl [1, 2, 0] rfl) h
            · have h := h.2 c27_6
              refine lv_iload_n hx hb dX1_weighJoining_30 rfl (lv_at hl 3 rfl) ?_
              refine lv_iload_n hx hb dX1_weighJoining_31 rfl (lv_at hl 2 rfl) ?_
              refine lv_icmp_eq (tgt := 71) hx hb dX1_weighJoining_32 (by decide) (fun c32_9 => ?_) (fun c32_9 => ?_)
              · have h := h.1 c32_9
                refine lv_iinc (v := v3_6 + 1) (lv' := [(3, .int (v3_6 + 1)), (0, .ref (q 5)), (1, .ref (q 4)), (2, .int v2_1)]) hx hb dX1_weighJoining_71 hl (k := 3) rfl rfl (by decide) rfl (fun ls hl => ?_)
                refine lv_goto (tgt := 22) hx hb dX1_weighJoining_74 (by decide) ?_
                obtain ⟨k_12, hm, h⟩ := h
                exact ihI22_6 k_12 hm (v3_6 + 1) G_6 _ _ ls hw (lv_sub hl [1, 2, 3, 0] rfl) h
              · have h := h.2 c32_9
                refine lv_aload_n hx hb dX1_weighJoining_35 rfl (lv_at hl 0 rfl) ?_
                refine g_get 5 5 (v := .ref (q 46)) (C := RX1) (T := TX1) (N := 15) X hw (by decide) hinX1 rfl (by decide) (List.mem_cons_of_mem _ (List.mem_append_left _ (List.mem_append_left _ (List.mem_of_getElem? (i := 1) rfl)))) rfl dX1_weighJoining_36 ?_
                refine lv_iload_n hx hb dX1_weighJoining_39 rfl (lv_at hl 2 rfl) ?_
                obtain ⟨j40_12, bj40_12, ej40_12, h⟩ := h
                refine g_aald 46 40 j40_12 X hw ⟨by decide, by decide⟩ rfl bj40_12 ej40_12 (by decide) dX1_weighJoining_40 ?_
                refine lv_aload_n hx hb dX1_weighJoining_41 rfl (lv_at hl 0 rfl) ?_
                refine g_get 5 1 (v := .ref (q 14)) (C := RX1) (T := TX1) (N := 15) X hw (by decide) hinX1 rfl (by decide) (List.mem_cons_of_mem _ (List.mem_append_left _ (List.mem_append_left _ (List.mem_of_getElem? (i := 2) rfl)))) rfl dX1_weighJoining_42 ?_
                refine lv_iload_n hx hb dX1_weighJoining_45 rfl (lv_at hl 3 rfl) ?_
                obtain ⟨j46_13, bj46_13, ej46_13, h⟩ := h
                refine g_iald 14 40 j46_13 X hw (Or.inr ⟨by decide, by decide⟩) rfl bj46_13 ej46_13 (by decide) dX1_weighJoining_46 ?_
                refine lv_dup2_11 hx hb dX1_weighJoining_47 rfl rfl ?_
                obtain ⟨j48_14, bj48_14, ej48_14, h⟩ := h
                refine g_iald (208 + j40_12) 40 j48_14 X hw (Or.inl ⟨by omega, by omega⟩) (gLen_40 (by omega) (by omega)) bj48_14 ej48_14 (by decide) dX1_weighJoining_48 ?_
                refine lv_aload_n hx hb dX1_weighJoining_49 rfl (lv_at hl 1 rfl) ?_
                refine lv_iload_n hx hb dX1_weighJoining_50 rfl (lv_at hl 2 rfl) ?_
                refine lv_iload_n hx hb dX1_weighJoining_51 rfl (lv_at hl 3 rfl) ?_
                refine g_callVi 4 (C := RX0) (T := TX0) (N := 5) (As := [.int v2_1, .int v3_6]) (rest := [.int (G_6.1 (208 + j40_12) j48_14), .int (G_6.1 14 j46_13), .ref (q (208 + j40_12))]) X hw hA (m_X0_between l D cy q G_6 v2_1 v3_6 _ h) (by decide) rfl (cwV 2 hts gX1_weighJoining_X0_between rfl rfl rfl (by decide +kernel) ⟨Nat.le_of_ble_eq_true rfl, Nat.le_of_ble_eq_true rfl⟩) rfl hl.1 rfl (Nat.le_of_ble_eq_true rfl) dX1_weighJoining_52 ⟨Nat.zero_le _, Nat.zero_le _⟩ (fun r_17 G_16 H locs h hw => ?_)
                refine lv_aload_n hx hb dX1_weighJoining_55 rfl (lv_at hl 0 rfl) ?_
                refine g_get 5 9 (v := .int (G_16.1 5 9)) (C := RX1) (T := TX1) (N := 15) X hw (by decide) hinX1 rfl (by decide) (List.mem_cons_of_mem _ (List.mem_append_left _ (List.mem_append_left _ (List.mem_of_getElem? (i := 3) rfl)))) rfl dX1_weighJoining_56 ?_
                refine lv_isub hx hb dX1_weighJoining_59 ?_
                refine lv_aload_n hx hb dX1_weighJoining_60 rfl (lv_at hl 0 rfl) ?_
                refine g_get 5 0 (v := .ref (q 45)) (C := RX1) (T := TX1) (N := 15) X hw (by decide) hinX1 rfl (by decide) (List.mem_cons_of_mem _ (List.mem_append_left _ (List.mem_append_left _ (List.mem_of_getElem? (i := 4) rfl)))) rfl dX1_weighJoining_61 ?_
                refine lv_iload_n hx hb dX1_weighJoining_64 rfl (lv_at hl 2 rfl) ?_
                obtain ⟨j65_17, bj65_17, ej65_17, h⟩ := h
                refine g_aald 45 40 j65_17 X hw ⟨by decide, by decide⟩ rfl bj65_17 ej65_17 (by decide) dX1_weighJoining_65 ?_
                refine lv_iload_n hx hb dX1_weighJoining_66 rfl (lv_at hl 3 rfl) ?_
                obtain ⟨j67_18, bj67_18, ej67_18, h⟩ := h
                refine g_iald (168 + j65_17) 40 j67_18 X hw (Or.inl ⟨by omega, by omega⟩) (gLen_40 (by omega) (by omega)) bj67_18 ej67_18 (by decide) dX1_weighJoining_67 ?_
                refine lv_iadd hx hb dX1_weighJoining_68 ?_
                refine lv_iadd hx hb dX1_weighJoining_69 ?_
                obtain ⟨j70_19, bj70_19, ej70_19, h⟩ := h
                refine g_iast (208 + j40_12) 40 j70_19 X hw (Or.inl ⟨by omega, by omega⟩) (gLen_40 (by omega) (by omega)) bj70_19 ej70_19 (by decide) dX1_weighJoining_70 (fun H locs hw => ?_)
                obtain ⟨G_21, eG_21⟩ : ∃ z, z = sI G_16 (208 + j40_12) j70_19 ((G_6.1 (208 + j40_12) j48_14) + ((r_17 - (G_16.1 5 9)) + (G_16.1 (168 + j65_17) j67_18))) := ⟨_, rfl⟩
                rw [← eG_21] at hw
                have h := h G_21 eG_21
                refine lv_iinc (v := v3_6 + 1) (lv' := [(3, .int (v3_6 + 1)), (0, .ref (q 5)), (1, .ref (q 4)), (2, .int v2_1)]) hx hb dX1_weighJoining_71 hl (k := 3) rfl rfl (by decide) rfl (fun ls hl => ?_)
                refine lv_goto (tgt := 22) hx hb dX1_weighJoining_74 (by decide) ?_
                obtain ⟨k_23, hm, h⟩ := h
                exact ihI22_6 k_23 hm (v3_6 + 1) G_21 _ _ ls hw (lv_sub hl [1, 2, 3, 0] rfl) h
        exact LI22_6 n_6 0 G_4 _ _ ls hw (lv_sub hl [1, 2, 3, 0] rfl) h0
  exact LI2_1 n_1 0 G _ _ ls hw (lv_sub hl [1, 2, 0] rfl) h0

abbrev rmX1_weighMelting : Room := { frames := 1, cells := 0, slots := 0, locals := 23 }
def wp_X1_weighMelting (G : GS)  (post : GS → Prop) : Prop :=
  ∃ I2_1 : Nat → Int32 → GS → Prop, (∃ n_1 : Nat, I2_1 n_1 0 G) ∧ ∀ (n_1 : Nat) (v1_1 : Int32) (G_1 : GS), I2_1 n_1 v1_1 G_1 → (((G_1.1 5 8) ≤ v1_1 → (∃ I28_3 : Nat → Int32 → GS → Prop, (∃ n_3 : Nat, I28_3 n_3 0 G_1) ∧ ∀ (n_3 : Nat) (v1_3 : Int32) (G_3 : GS), I28_3 n_3 v1_3 G_3 → (((G_3.1 5 7) ≤ v1_3 → (post G_3)) ∧ (¬ ((G_3.1 5 7) ≤ v1_3) → (∃ I38_5 : Nat → Int32 → GS → Prop, (∃ n_5 : Nat, I38_5 n_5 0 G_3) ∧ ∀ (n_5 : Nat) (v2_5 : Int32) (G_5 : GS), I38_5 n_5 v2_5 G_5 → (((G_5.1 5 8) ≤ v2_5 → (∃ k_8 : Nat, k_8 < n_3 ∧ I28_3 k_8 (v1_3 + 1) G_5)) ∧ (¬ ((G_5.1 5 8) ≤ v2_5) → (∃ j55_8 : Nat, j55_8 < 40 ∧ v1_3 = nI j55_8 ∧ (∃ j56_9 : Nat, j56_9 < 40 ∧ G_5.1 14 j55_8 = nI j56_9 ∧ (∃ j59_10 : Nat, j59_10 < 40 ∧ v2_5 = nI j59_10 ∧ (∃ j65_11 : Nat, j65_11 < 40 ∧ v1_3 = nI j65_11 ∧ (∃ j67_12 : Nat, j67_12 < 40 ∧ v2_5 = nI j67_12 ∧ (∃ j69_13 : Nat, j69_13 < 40 ∧ v2_5 = nI j69_13 ∧ (∀ G_15 : GS, G_15 = sI G_5 (248 + j56_9) j69_13 ((G_5.1 (248 + j56_9) j59_10) + (G_5.1 (208 + j65_11) j67_12)) → (∃ k_17 : Nat, k_17 < n_5 ∧ I38_5 k_17 (v2_5 + 1) G_15))))))))))))))) ∧ (¬ ((G_1.1 5 8) ≤ v1_1) → (∃ j15_17 : Nat, j15_17 < 40 ∧ v1_1 = nI j15_17 ∧ (wp_J7_fill_53178 G_1 (248 + j15_17) 0 (fun G_19 => ∃ k_22 : Nat, k_22 < n_1 ∧ I2_1 k_22 (v1_1 + 1) G_19)))))
set_option maxHeartbeats 4000000 in
set_option maxRecDepth 100000 in
theorem m_X1_weighMelting (l : Launch) (D : va_G) (cy : Nat → ClassId) (q : Nat → Nat) (G : GS)  (post : GS → Prop) (h : wp_X1_weighMelting G  post) : gMv l yX1_weighMelting wsX1_weighMelting rmX1_weighMelting D cy q [.ref (q 5)] G post := by
  intro sz
  refine Met.ofW (cc := cX1_weighMelting) (maxL := 3) (ret := none) (by decide) rfl ?_
  intro p e s m args below meth c s₁ B hml hv
  obtain ⟨ha, hsz, X, hw, hA, hr, hlk⟩ := g_start B hml hv
  have hx := X.1.1
  have hb := X.1.2.1
  have hown := X.1.2.2.2.1
  have hts := X.1.2.2.2.2
  refine g_in ha (Nat.le_of_ble_eq_true rfl) (fun ls hl => ?_)
  have hl : lv_has ls 3 [(0, .ref (q 5))] := hl
  unfold wp_X1_weighMelting at h
  have hinX1 : ∀ w ∈ wsX10, w ∈ wsX1_weighMelting := fun _ h9 => (List.mem_cons_of_mem _ (List.mem_append_right _ h9))
  refine lv_iconst (v := 0) hx hb dX1_weighMelting_0 (by decide) ?_
  refine lv_istore_n (lv' := [(1, .int 0), (0, .ref (q 5))]) hx hb dX1_weighMelting_1 rfl hl (by decide) rfl (fun ls hl => ?_)
  obtain ⟨I2_1, ⟨n_1, h0⟩, hI2_1⟩ := h
  have LI2_1 : ∀ (n_1 : Nat) (v1_1 : Int32) (G_1 : GS) (H : Heap) (locs : List Loc) (ls : Array Slot), gH D cy q (gA q sz) s.heap G_1 H locs → lv_has ls 3 [(0, .ref (q 5)), (1, .int v1_1)] → I2_1 n_1 v1_1 G_1 → W p l e (headSpec wsX1_weighMelting rmX1_weighMelting).room s m args below meth c H locs 0 0 (MQ below (va_Qv post (gPo D cy q sz) (gA q sz)) args s 0 0 (gA q sz)) (F0 m 2 ls []) := by
    intro n_1
    induction n_1 using Nat.strongRecOn with
    | ind n_1 ihI2_1 =>
      intro v1_1 G_1 H locs ls hw hl h
      have h := hI2_1 n_1 v1_1 G_1 h
      refine lv_iload_n hx hb dX1_weighMelting_2 rfl (lv_at hl 1 rfl) ?_
      refine lv_aload_n hx hb dX1_weighMelting_3 rfl (lv_at hl 0 rfl) ?_
      refine g_get 5 8 (v := .int (G_1.1 5 8)) (C := RX1) (T := TX1) (N := 15) X hw (by decide) hinX1 rfl (by decide) (List.mem_cons_of_mem _ (List.mem_append_left _ (List.mem_of_getElem? (i := 0) rfl))) rfl dX1_weighMelting_4 ?_
      refine lv_icmp_ge (tgt := 26) hx hb dX1_weighMelting_7 (by decide) (fun c7_1 => ?_) (fun c7_1 => ?_)
      · have h := h.1 c7_1
        refine lv_iconst (v := 0) hx hb dX1_weighMelting_26 (by decide) ?_
        refine lv_istore_n (lv' := [(1, .int 0), (0, .ref (q 5))]) hx hb dX1_weighMelting_27 rfl hl (by decide) rfl (fun ls hl => ?_)
        obtain ⟨I28_3, ⟨n_3, h0⟩, hI28_3⟩ := h
        have LI28_3 : ∀ (n_3 : Nat) (v1_3 : Int32) (G_3 : GS) (H : Heap) (locs : List Loc) (ls : Array Slot), gH D cy q (gA q sz) s.heap G_3 H locs → lv_has ls 3 [(0, .ref (q 5)), (1, .int v1_3)] → I28_3 n_3 v1_3 G_3 → W p l e (headSpec wsX1_weighMelting rmX1_weighMelting).room s m args below meth c H locs 0 0 (MQ below (va_Qv post (gPo D cy q sz) (gA q sz)) args s 0 0 (gA q sz)) (F0 m 28 ls []) := by
          intro n_3
          induction n_3 using Nat.strongRecOn with
          | ind n_3 ihI28_3 =>
            intro v1_3 G_3 H locs ls hw hl h
            have h := hI28_3 n_3 v1_3 G_3 h
            refine lv_iload_n hx hb dX1_weighMelting_28 rfl (lv_at hl 1 rfl) ?_
            refine lv_aload_n hx hb dX1_weighMelting_29 rfl (lv_at hl 0 rfl) ?_
            refine g_get 5 7 (v := .int (G_3.1 5 7)) (C := RX1) (T := TX1) (N := 15) X hw (by decide) hinX1 rfl (by decide) (List.mem_cons_of_mem _ (List.mem_append_left _ (List.mem_of_getElem? (i := 2) rfl))) rfl dX1_weighMelting_30 ?_
            refine lv_icmp_ge (tgt := 82) hx hb dX1_weighMelting_33 (by decide) (fun c33_3 => ?_) (fun c33_3 => ?_)
            · have h := h.1 c33_3
              exact g_vret X hw hr hlk h dX1_weighMelting_82
            · have h := h.2 c33_3
              refine lv_iconst (v := 0) hx hb dX1_weighMelting_36 (by decide) ?_
              refine lv_istore_n (lv' := [(2, .int 0), (0, .ref (q 5)), (1, .int v1_3)]) hx hb dX1_weighMelting_37 rfl hl (by decide) rfl (fun ls hl => ?_)
              obtain ⟨I38_5, ⟨n_5, h0⟩, hI38_5⟩ := h
              have LI38_5 : ∀ (n_5 : Nat) (v2_5 : Int32) (G_5 : GS) (H : Heap) (locs : List Loc) (ls : Array Slot), gH D cy q (gA q sz) s.heap G_5 H locs → lv_has ls 3 [(0, .ref (q 5)), (1, .int v1_3), (2, .int v2_5)] → I38_5 n_5 v2_5 G_5 → W p l e (headSpec wsX1_weighMelting rmX1_weighMelting).room s m args below meth c H locs 0 0 (MQ below (va_Qv post (gPo D cy q sz) (gA q sz)) args s 0 0 (gA q sz)) (F0 m 38 ls []) := by
                intro n_5
                induction n_5 using Nat.strongRecOn with
                | ind n_5 ihI38_5 =>
                  intro v2_5 G_5 H locs ls hw hl h
                  have h := hI38_5 n_5 v2_5 G_5 h
                  refine lv_iload_n hx hb dX1_weighMelting_38 rfl (lv_at hl 2 rfl) ?_
                  refine lv_aload_n hx hb dX1_weighMelting_39 rfl (lv_at hl 0 rfl) ?_
                  refine g_get 5 8 (v := .int (G_5.1 5 8)) (C := RX1) (T := TX1) (N := 15) X hw (by decide) hinX1 rfl (by decide) (List.mem_cons_of_mem _ (List.mem_append_left _ (List.mem_of_getElem? (i := 0) rfl))) rfl dX1_weighMelting_40 ?_
                  refine lv_icmp_ge (tgt := 76) hx hb dX1_weighMelting_43 (by decide) (fun c43_5 => ?_) (fun c43_5 => ?_)
                  · have h := h.1 c43_5
                    refine lv_iinc (v := v1_3 + 1) (lv' := [(1, .int (v1_3 + 1)), (0, .ref (q 5)), (2, .int v2_5)]) hx hb dX1_weighMelting_76 hl (k := 1) rfl rfl (by decide) rfl (fun ls hl => ?_)
                    refine lv_goto (tgt := 28) hx hb dX1_weighMelting_79 (by decide) ?_
                    obtain ⟨k_8, hm, h⟩ := h
                    exact ihI28_3 k_8 hm (v1_3 + 1) G_5 _ _ ls hw (lv_sub hl [1, 0] rfl) h
                  · have h := h.2 c43_5
                    refine lv_aload_n hx hb dX1_weighMelting_46 rfl (lv_at hl 0 rfl) ?_
                    refine g_get 5 6 (v := .ref (q 47)) (C := RX1) (T := TX1) (N := 15) X hw (by decide) hinX1 rfl (by decide) (List.mem_cons_of_mem _ (List.mem_append_left _ (List.mem_of_getElem? (i := 1) rfl))) rfl dX1_weighMelting_47 ?_
                    refine lv_aload_n hx hb dX1_weighMelting_50 rfl (lv_at hl 0 rfl) ?_
                    refine g_get 5 1 (v := .ref (q 14)) (C := RX1) (T := TX1) (N := 15) X hw (by decide) hinX1 rfl (by decide) (List.mem_cons_of_mem _ (List.mem_append_left _ (List.mem_of_getElem? (i := 3) rfl))) rfl dX1_weighMelting_51 ?_
                    refine lv_iload_n hx hb dX1_weighMelting_54 rfl (lv_at hl 1 rfl) ?_
                    obtain ⟨j55_8, bj55_8, ej55_8, h⟩ := h
                    refine g_iald 14 40 j55_8 X hw (Or.inr ⟨by decide, by decide⟩) rfl bj55_8 ej55_8 (by decide) dX1_weighMelting_55 ?_
                    obtain ⟨j56_9, bj56_9, ej56_9, h⟩ := h
                    refine g_aald 47 40 j56_9 X hw ⟨by decide, by decide⟩ rfl bj56_9 ej56_9 (by decide) dX1_weighMelting_56 ?_
                    refine lv_iload_n hx hb dX1_weighMelting_57 rfl (lv_at hl 2 rfl) ?_
                    refine lv_dup2_11 hx hb dX1_weighMelting_58 rfl rfl ?_
                    obtain ⟨j59_10, bj59_10, ej59_10, h⟩ := h
                    refine g_iald (248 + j56_9) 40 j59_10 X hw (Or.inl ⟨by omega, by omega⟩) (gLen_40 (by omega) (by omega)) bj59_10 ej59_10 (by decide) dX1_weighMelting_59 ?_
                    refine lv_aload_n hx hb dX1_weighMelting_60 rfl (lv_at hl 0 rfl) ?_
                    refine g_get 5 5 (v := .ref (q 46)) (C := RX1) (T := TX1) (N := 15) X hw (by decide) hinX1 rfl (by decide) (List.mem_cons_of_mem _ (List.mem_append_left _ (List.mem_of_getElem? (i := 4) rfl))) rfl dX1_weighMelting_61 ?_
                    refine lv_iload_n hx hb dX1_weighMelting_64 rfl (lv_at hl 1 rfl) ?_
                    obtain ⟨j65_11, bj65_11, ej65_11, h⟩ := h
                    refine g_aald 46 40 j65_11 X hw ⟨by decide, by decide⟩ rfl bj65_11 ej65_11 (by decide) dX1_weighMelting_65 ?_
                    refine lv_iload_n hx hb dX1_weighMelting_66 rfl (lv_at hl 2 rfl) ?_
                    obtain ⟨j67_12, bj67_12, ej67_12, h⟩ := h
                    refine g_iald (208 + j65_11) 40 j67_12 X hw (Or.inl ⟨by omega, by omega⟩) (gLen_40 (by omega) (by omega)) bj67_12 ej67_12 (by decide) dX1_weighMelting_67 ?_
                    refine lv_iadd hx hb dX1_weighMelting_68 ?_
                    obtain ⟨j69_13, bj69_13, ej69_13, h⟩ := h
                    refine g_iast (248 + j56_9) 40 j69_13 X hw (Or.inl ⟨by omega, by omega⟩) (gLen_40 (by omega) (by omega)) bj69_13 ej69_13 (by decide) dX1_weighMelting_69 (fun H locs hw => ?_)
                    obtain ⟨G_15, eG_15⟩ : ∃ z, z = sI G_5 (248 + j56_9) j69_13 ((G_5.1 (248 + j56_9) j59_10) + (G_5.1 (208 + j65_11) j67_12)) := ⟨_, rfl⟩
                    rw [← eG_15] at hw
                    have h := h G_15 eG_15
                    refine lv_iinc (v := v2_5 + 1) (lv' := [(2, .int (v2_5 + 1)), (0, .ref (q 5)), (1, .int v1_3)]) hx hb dX1_weighMelting_70 hl (k := 2) rfl rfl (by decide) rfl (fun ls hl => ?_)
                    refine lv_goto (tgt := 38) hx hb dX1_weighMelting_73 (by decide) ?_
                    obtain ⟨k_17, hm, h⟩ := h
                    exact ihI38_5 k_17 hm (v2_5 + 1) G_15 _ _ ls hw (lv_sub hl [1, 2, 0] rfl) h
              exact LI38_5 n_5 0 G_3 _ _ ls hw (lv_sub hl [1, 2, 0] rfl) h0
        exact LI28_3 n_3 0 G_1 _ _ ls hw (lv_sub hl [1, 0] rfl) h0
      · have h := h.2 c7_1
        refine lv_aload_n hx hb dX1_weighMelting_10 rfl (lv_at hl 0 rfl) ?_
        refine g_get 5 6 (v := .ref (q 47)) (C := RX1) (T := TX1) (N := 15) X hw (by decide) hinX1 rfl (by decide) (List.mem_cons_of_mem _ (List.mem_append_left _ (List.mem_of_getElem? (i := 1) rfl))) rfl dX1_weighMelting_11 ?_
        refine lv_iload_n hx hb dX1_weighMelting_14 rfl (lv_at hl 1 rfl) ?_
        obtain ⟨j15_17, bj15_17, ej15_17, h⟩ := h
        refine g_aald 47 40 j15_17 X hw ⟨by decide, by decide⟩ rfl bj15_17 ej15_17 (by decide) dX1_weighMelting_15 ?_
        refine lv_iconst (v := 0) hx hb dX1_weighMelting_16 (by decide) ?_
        refine g_callSv (As := [.ref (q (248 + j15_17)), .int 0]) (rest := []) X hw hA (m_J7_fill_53178 l D cy q G_1 (248 + j15_17) 0 _ h) (va_cwS 2 hts gX1_weighMelting_J7_fill_53178 rfl rfl rfl (by decide +kernel) ⟨Nat.le_of_ble_eq_true rfl, Nat.le_of_ble_eq_true rfl⟩) rfl hl.1 rfl (Nat.le_of_ble_eq_true rfl) dX1_weighMelting_17 ⟨Nat.zero_le _, Nat.zero_le _⟩ (fun G_19 H locs h hw => ?_)
        refine lv_iinc (v := v1_1 + 1) (lv' := [(1, .int (v1_1 + 1)), (0, .ref (q 5))]) hx hb dX1_weighMelting_20 hl (k := 1) rfl rfl (by decide) rfl (fun ls hl => ?_)
        refine lv_goto (tgt := 2) hx hb dX1_weighMelting_23 (by decide) ?_
        obtain ⟨k_22, hm, h⟩ := h
        exact ihI2_1 k_22 hm (v1_1 + 1) G_19 _ _ ls hw (lv_sub hl [1, 0] rfl) h
  exact LI2_1 n_1 0 G _ _ ls hw (lv_sub hl [1, 0] rfl) h0

abbrev rmX1_weighMove : Room := { frames := 0, cells := 0, slots := 0, locals := 0 }
def wp_X1_weighMove (G : GS) (x1 : Int32) (x2 : Int32) (x3 : Int32) (post : GS → Prop) : Prop :=
  ((G.1 5 11) ≤ x3 → (post G)) ∧ (¬ ((G.1 5 11) ≤ x3) → (∀ G_2 : GS, G_2 = sI G 5 11 x3 → (∀ G_3 : GS, G_3 = sI G_2 5 12 x1 → (∀ G_4 : GS, G_4 = sI G_3 5 14 x2 → (post G_4)))))
set_option maxHeartbeats 4000000 in
set_option maxRecDepth 100000 in
theorem m_X1_weighMove (l : Launch) (D : va_G) (cy : Nat → ClassId) (q : Nat → Nat) (G : GS) (x1 : Int32) (x2 : Int32) (x3 : Int32) (post : GS → Prop) (h : wp_X1_weighMove G x1 x2 x3 post) : gMv l yX1_weighMove wsX1_weighMove rmX1_weighMove D cy q [.ref (q 5), .int x1, .int x2, .int x3] G post := by
  intro sz
  refine Met.ofW (cc := cX1_weighMove) (maxL := 4) (ret := none) (by decide) rfl ?_
  intro p e s m args below meth c s₁ B hml hv
  obtain ⟨ha, hsz, X, hw, hA, hr, hlk⟩ := g_start B hml hv
  have hx := X.1.1
  have hb := X.1.2.1
  have hown := X.1.2.2.2.1
  have hts := X.1.2.2.2.2
  refine g_in ha (Nat.le_of_ble_eq_true rfl) (fun ls hl => ?_)
  have hl : lv_has ls 4 [(0, .ref (q 5)), (1, .int x1), (2, .int x2), (3, .int x3)] := hl
  unfold wp_X1_weighMove at h
  have hinX1 : ∀ w ∈ wsX10, w ∈ wsX1_weighMove := fun _ h9 => (List.mem_cons_of_mem _ (List.mem_append_right _ h9))
  refine lv_iload_n hx hb dX1_weighMove_0 rfl (lv_at hl 3 rfl) ?_
  refine lv_aload_n hx hb dX1_weighMove_1 rfl (lv_at hl 0 rfl) ?_
  refine g_get 5 11 (v := .int (G.1 5 11)) (C := RX1) (T := TX1) (N := 15) X hw (by decide) hinX1 rfl (by decide) (List.mem_cons_of_mem _ (List.mem_append_left _ (List.mem_of_getElem? (i := 0) rfl))) rfl dX1_weighMove_2 ?_
  refine lv_icmp_ge (tgt := 23) hx hb dX1_weighMove_5 (by decide) (fun c5_0 => ?_) (fun c5_0 => ?_)
  · have h := h.1 c5_0
    exact g_vret X hw hr hlk h dX1_weighMove_23
  · have h := h.2 c5_0
    refine lv_aload_n hx hb dX1_weighMove_8 rfl (lv_at hl 0 rfl) ?_
    refine lv_iload_n hx hb dX1_weighMove_9 rfl (lv_at hl 3 rfl) ?_
    refine g_put 5 11 (v := x3) (ty := .int) (C := RX1) (T := TX1) (N := 15) X hw (by decide) hinX1 tyX1_ok nmX1 rfl (by decide) (List.mem_cons_of_mem _ (List.mem_append_left _ (List.mem_of_getElem? (i := 0) rfl))) rfl (by decide +kernel) rfl rfl (Nat.le_of_ble_eq_true rfl) rfl dX1_weighMove_10 (fun H locs hw => ?_)
    obtain ⟨G_2, eG_2⟩ : ∃ z, z = sI G 5 11 x3 := ⟨_, rfl⟩
    rw [← eG_2] at hw
    have h := h G_2 eG_2
    refine lv_aload_n hx hb dX1_weighMove_13 rfl (lv_at hl 0 rfl) ?_
    refine lv_iload_n hx hb dX1_weighMove_14 rfl (lv_at hl 1 rfl) ?_
    refine g_put 5 12 (v := x1) (ty := .int) (C := RX1) (T := TX1) (N := 15) X hw (by decide) hinX1 tyX1_ok nmX1 rfl (by decide) (List.mem_cons_of_mem _ (List.mem_append_left _ (List.mem_of_getElem? (i := 1) rfl))) rfl (by decide +kernel) rfl rfl (Nat.le_of_ble_eq_true rfl) rfl dX1_weighMove_15 (fun H locs hw => ?_)
    obtain ⟨G_3, eG_3⟩ : ∃ z, z = sI G_2 5 12 x1 := ⟨_, rfl⟩
    rw [← eG_3] at hw
    have h := h G_3 eG_3
    refine lv_aload_n hx hb dX1_weighMove_18 rfl (lv_at hl 0 rfl) ?_
    refine lv_iload_n hx hb dX1_weighMove_19 rfl (lv_at hl 2 rfl) ?_
    refine g_put 5 14 (v := x2) (ty := .int) (C := RX1) (T := TX1) (N := 15) X hw (by decide) hinX1 tyX1_ok nmX1 rfl (by decide) (List.mem_cons_of_mem _ (List.mem_append_left _ (List.mem_of_getElem? (i := 2) rfl))) rfl (by decide +kernel) rfl rfl (Nat.le_of_ble_eq_true rfl) rfl dX1_weighMove_20 (fun H locs hw => ?_)
    obtain ⟨G_4, eG_4⟩ : ∃ z, z = sI G_3 5 14 x2 := ⟨_, rfl⟩
    rw [← eG_4] at hw
    have h := h G_4 eG_4
    exact g_vret X hw hr hlk h dX1_weighMove_23

abbrev rmX1_findBestMove : Room := { frames := 1, cells := 0, slots := 0, locals := 23 }
def wp_X1_findBestMove (G : GS) (x1 : Int32) (post : GS → Prop) : Prop :=
  ∃ j5_0 : Nat, j5_0 < 40 ∧ x1 = nI j5_0 ∧ (∀ y_2 : Int32, y_2 = G.1 14 j5_0 → (∃ j12_2 : Nat, j12_2 < 40 ∧ x1 = nI j12_2 ∧ (∃ j14_3 : Nat, j14_3 < 40 ∧ y_2 = nI j14_3 ∧ (∀ y_5 : Int32, y_5 = -(G.1 (208 + j12_2) j14_3) → (∃ I20_6 : Nat → Int32 → GS → Prop, (∃ n_6 : Nat, I20_6 n_6 0 G) ∧ ∀ (n_6 : Nat) (v4_6 : Int32) (G_6 : GS), I20_6 n_6 v4_6 G_6 → (((G_6.1 5 8) ≤ v4_6 → (∃ j64_7 : Nat, j64_7 < 40 ∧ y_2 = nI j64_7 ∧ (((G_6.1 16 j64_7) ≤ 1 → (post G_6)) ∧ (¬ ((G_6.1 16 j64_7) ≤ 1) → (wp_X1_weighMove G_6 x1 (G_6.1 5 8) y_5 (fun G_10 => post G_10)))))) ∧ (¬ ((G_6.1 5 8) ≤ v4_6) → ((v4_6 = y_2 → (∃ k_14 : Nat, k_14 < n_6 ∧ I20_6 k_14 (v4_6 + 1) G_6)) ∧ (¬ (v4_6 = y_2) → (∃ j45_14 : Nat, j45_14 < 40 ∧ x1 = nI j45_14 ∧ (∃ j48_15 : Nat, j48_15 < 40 ∧ v4_6 = nI j48_15 ∧ (wp_X1_weighMove G_6 x1 v4_6 (y_5 + (G_6.1 (208 + j45_14) j48_15)) (fun G_17 => ∃ k_20 : Nat, k_20 < n_6 ∧ I20_6 k_20 (v4_6 + 1) G_17)))))))))))))
set_option maxHeartbeats 4000000 in
set_option maxRecDepth 100000 in
theorem m_X1_findBestMove (l : Launch) (D : va_G) (cy : Nat → ClassId) (q : Nat → Nat) (G : GS) (x1 : Int32) (post : GS → Prop) (h : wp_X1_findBestMove G x1 post) : gMv l yX1_findBestMove wsX1_findBestMove rmX1_findBestMove D cy q [.ref (q 5), .int x1] G post := by
  intro sz
  refine Met.ofW (cc := cX1_findBestMove) (maxL := 5) (ret := none) (by decide) rfl ?_
  intro p e s m args below meth c s₁ B hml hv
  obtain ⟨ha, hsz, X, hw, hA, hr, hlk⟩ := g_start B hml hv
  have hx := X.1.1
  have hb := X.1.2.1
  have hown := X.1.2.2.2.1
  have hts := X.1.2.2.2.2
  refine g_in ha (Nat.le_of_ble_eq_true rfl) (fun ls hl => ?_)
  have hl : lv_has ls 5 [(0, .ref (q 5)), (1, .int x1)] := hl
  unfold wp_X1_findBestMove at h
  have hinX1 : ∀ w ∈ wsX10, w ∈ wsX1_findBestMove := fun _ h9 => (List.mem_cons_of_mem _ (List.mem_append_right _ h9))
  refine lv_aload_n hx hb dX1_findBestMove_0 rfl (lv_at hl 0 rfl) ?_
  refine g_get 5 1 (v := .ref (q 14)) (C := RX1) (T := TX1) (N := 15) X hw (by decide) hinX1 rfl (by decide) (List.mem_cons_of_mem _ (List.mem_append_left _ (List.mem_of_getElem? (i := 0) rfl))) rfl dX1_findBestMove_1 ?_
  refine lv_iload_n hx hb dX1_findBestMove_4 rfl (lv_at hl 1 rfl) ?_
  obtain ⟨j5_0, bj5_0, ej5_0, h⟩ := h
  refine g_iald 14 40 j5_0 X hw (Or.inr ⟨by decide, by decide⟩) rfl bj5_0 ej5_0 (by decide) dX1_findBestMove_5 ?_
  refine lv_topi (fun y_2 ey_2 => ?_)
  have h := h y_2 ey_2
  refine lv_istore_n (lv' := [(2, .int y_2), (0, .ref (q 5)), (1, .int x1)]) hx hb dX1_findBestMove_6 rfl hl (by decide) rfl (fun ls hl => ?_)
  refine lv_aload_n hx hb dX1_findBestMove_7 rfl (lv_at hl 1 rfl) ?_
  refine g_get 5 5 (v := .ref (q 46)) (C := RX1) (T := TX1) (N := 15) X hw (by decide) hinX1 rfl (by decide) (List.mem_cons_of_mem _ (List.mem_append_left _ (List.mem_of_getElem? (i := 1) rfl))) rfl dX1_findBestMove_8 ?_
  refine lv_iload_n hx hb dX1_findBestMove_11 rfl (lv_at hl 2 rfl) ?_
  obtain ⟨j12_2, bj12_2, ej12_2, h⟩ := h
  refine g_aald 46 40 j12_2 X hw ⟨by decide, by decide⟩ rfl bj12_2 ej12_2 (by decide) dX1_findBestMove_12 ?_
  refine lv_iload_n hx hb dX1_findBestMove_13 rfl (lv_at hl 0 rfl) ?_
  obtain ⟨j14_3, bj14_3, ej14_3, h⟩ := h
  refine g_iald (208 + j12_2) 40 j14_3 X hw (Or.inl ⟨by omega, by omega⟩) (gLen_40 (by omega) (by omega)) bj14_3 ej14_3 (by decide) dX1_findBestMove_14 ?_
  refine lv_ineg hx hb dX1_findBestMove_15 ?_
  refine lv_topi (fun y_5 ey_5 => ?_)
  have h := h y_5 ey_5
  refine lv_istore_n (lv' := [(3, .int y_5), (2, .int y_2), (0, .ref (q 5)), (1, .int x1)]) hx hb dX1_findBestMove_16 rfl hl (by decide) rfl (fun ls hl => ?_)
  refine lv_iconst (v := 0) hx hb dX1_findBestMove_17 (by decide) ?_
  refine lv_istore (lv' := [(4, .int 0), (3, .int y_5), (2, .int y_2), (0, .ref (q 5)), (1, .int x1)]) hx hb dX1_findBestMove_18 hl (by decide) rfl (fun ls hl => ?_)
  obtain ⟨I20_6, ⟨n_6, h0⟩, hI20_6⟩ := h
  have LI20_6 : ∀ (n_6 : Nat) (v4_6 : Int32) (G_6 : GS) (H : Heap) (locs : List Loc) (ls : Array Slot), gH D cy q (gA q sz) s.heap G_6 H locs → lv_has ls 5 [(0, .ref (q 5)), (1, .int x1), (2, .int y_2), (3, .int y_5), (4, .int v4_6)] → I20_6 n_6 v4_6 G_6 → W p l e (headSpec wsX1_findBestMove rmX1_findBestMove).room s m args below meth c H locs 0 0 (MQ below (va_Qv post (gPo D cy q sz) (gA q sz)) args s 0 0 (gA q sz)) (F0 m 20 ls []) := by
    intro n_6
    induction n_6 using Nat.strongRecOn with
    | ind n_6 ihI20_6 =>
      intro v4_6 G_6 H locs ls hw hl h
      have h := hI20_6 n_6 v4_6 G_6 h
      refine lv_iload hx hb dX1_findBestMove_20 (lv_at hl 4 rfl) ?_
      refine lv_aload_n hx hb dX1_findBestMove_22 rfl (lv_at hl 0 rfl) ?_
      refine g_get 5 8 (v := .int (G_6.1 5 8)) (C := RX1) (T := TX1) (N := 15) X hw (by decide) hinX1 rfl (by decide) (List.mem_cons_of_mem _ (List.mem_append_left _ (List.mem_of_getElem? (i := 2) rfl))) rfl dX1_findBestMove_23 ?_
      refine lv_icmp_ge (tgt := 59) hx hb dX1_findBestMove_26 (by decide) (fun c26_6 => ?_) (fun c26_6 => ?_)
      · have h := h.1 c26_6
        refine lv_aload_n hx hb dX1_findBestMove_59 rfl (lv_at hl 0 rfl) ?_
        refine g_get 5 3 (v := .ref (q 16)) (C := RX1) (T := TX1) (N := 15) X hw (by decide) hinX1 rfl (by decide) (List.mem_cons_of_mem _ (List.mem_append_left _ (List.mem_of_getElem? (i := 3) rfl))) rfl dX1_findBestMove_60 ?_
        refine lv_iload_n hx hb dX1_findBestMove_63 rfl (lv_at hl 2 rfl) ?_
        obtain ⟨j64_7, bj64_7, ej64_7, h⟩ := h
        refine g_iald 16 40 j64_7 X hw (Or.inr ⟨by decide, by decide⟩) rfl bj64_7 ej64_7 (by decide) dX1_findBestMove_64 ?_
        refine lv_iconst (v := 1) hx hb dX1_findBestMove_65 (by decide) ?_
        refine lv_icmp_le (tgt := 79) hx hb dX1_findBestMove_66 (by decide) (fun c66_8 => ?_) (fun c66_8 => ?_)
        · have h := h.1 c66_8
          exact g_vret X hw hr hlk h dX1_findBestMove_79
        · have h := h.2 c66_8
          refine lv_aload_n hx hb dX1_findBestMove_69 rfl (lv_at hl 0 rfl) ?_
          refine lv_iload_n hx hb dX1_findBestMove_70 rfl (lv_at hl 1 rfl) ?_
          refine lv_aload_n hx hb dX1_findBestMove_71 rfl (lv_at hl 0 rfl) ?_
          refine g_get 5 8 (v := .int (G_6.1 5 8)) (C := RX1) (T := TX1) (N := 15) X hw (by decide) hinX1 rfl (by decide) (List.mem_cons_of_mem _ (List.mem_append_left _ (List.mem_of_getElem? (i := 2) rfl))) rfl dX1_findBestMove_72 ?_
          refine lv_iload_n hx hb dX1_findBestMove_75 rfl (lv_at hl 3 rfl) ?_
          refine g_callVv 5 (C := RX1) (T := TX1) (N := 15) (As := [.int x1, .int (G_6.1 5 8), .int y_5]) (rest := []) X hw hA (m_X1_weighMove l D cy q G_6 x1 (G_6.1 5 8) y_5 _ h) (by decide) rfl (cwV 3 hts gX1_findBestMove_X1_weighMove rfl rfl rfl (by decide +kernel) ⟨Nat.le_of_ble_eq_true rfl, Nat.le_of_ble_eq_true rfl⟩) rfl hl.1 rfl (Nat.le_of_ble_eq_true rfl) dX1_findBestMove_76 ⟨Nat.zero_le _, Nat.zero_le _⟩ (fun G_10 H locs h hw => ?_)
          exact g_vret X hw hr hlk h dX1_findBestMove_79
      · have h := h.2 c26_6
        refine lv_iload hx hb dX1_findBestMove_29 (lv_at hl 4 rfl) ?_
        refine lv_iload_n hx hb dX1_findBestMove_31 rfl (lv_at hl 2 rfl) ?_
        refine lv_icmp_eq (tgt := 53) hx hb dX1_findBestMove_32 (by decide) (fun c32_11 => ?_) (fun c32_11 => ?_)
        · have h := h.1 c32_11
          refine lv_iinc (v := v4_6 + 1) (lv' := [(4, .int (v4_6 + 1)), (0, .ref (q 5)), (1, .int x1), (2, .int y_2), (3, .int y_5)]) hx hb dX1_findBestMove_53 hl (k := 4) rfl rfl (by decide) rfl (fun ls hl => ?_)
          refine lv_goto (tgt := 20) hx hb dX1_findBestMove_56 (by decide) ?_
          obtain ⟨k_14, hm, h⟩ := h
          exact ihI20_6 k_14 hm (v4_6 + 1) G_6 _ _ ls hw (lv_sub hl [1, 2, 3, 4, 0] rfl) h
        · have h := h.2 c32_11
          refine lv_aload_n hx hb dX1_findBestMove_35 rfl (lv_at hl 0 rfl) ?_
          refine lv_iload_n hx hb dX1_findBestMove_36 rfl (lv_at hl 1 rfl) ?_
          refine lv_iload hx hb dX1_findBestMove_37 (lv_at hl 4 rfl) ?_
          refine lv_iload_n hx hb dX1_findBestMove_39 rfl (lv_at hl 3 rfl) ?_
          refine lv_aload_n hx hb dX1_findBestMove_40 rfl (lv_at hl 0 rfl) ?_
          refine g_get 5 5 (v := .ref (q 46)) (C := RX1) (T := TX1) (N := 15) X hw (by decide) hinX1 rfl (by decide) (List.mem_cons_of_mem _ (List.mem_append_left _ (List.mem_of_getElem? (i := 1) rfl))) rfl dX1_findBestMove_41 ?_
          refine lv_iload_n hx hb dX1_findBestMove_44 rfl (lv_at hl 1 rfl) ?_
          obtain ⟨j45_14, bj45_14, ej45_14, h⟩ := h
          refine g_aald 46 40 j45_14 X hw ⟨by decide, by decide⟩ rfl bj45_14 ej45_14 (by decide) dX1_findBestMove_45 ?_
          refine lv_iload hx hb dX1_findBestMove_46 (lv_at hl 4 rfl) ?_
          obtain ⟨j48_15, bj48_15, ej48_15, h⟩ := h
          refine g_iald (208 + j45_14) 40 j48_15 X hw (Or.inl ⟨by omega, by omega⟩) (gLen_40 (by omega) (by omega)) bj48_15 ej48_15 (by decide) dX1_findBestMove_48 ?_
          refine lv_iadd hx hb dX1_findBestMove_49 ?_
          refine g_callVv 5 (C := RX1) (T := TX1) (N := 15) (As := [.int x1, .int v4_6, .int (y_5 + (G_6.1 (208 + j45_14) j48_15))]) (rest := []) X hw hA (m_X1_weighMove l D cy q G_6 x1 v4_6 (y_5 + (G_6.1 (208 + j45_14) j48_15)) _ h) (by decide) rfl (cwV 3 hts gX1_findBestMove_X1_weighMove rfl rfl rfl (by decide +kernel) ⟨Nat.le_of_ble_eq_true rfl, Nat.le_of_ble_eq_true rfl⟩) rfl hl.1 rfl (Nat.le_of_ble_eq_true rfl) dX1_findBestMove_50 ⟨Nat.zero_le _, Nat.zero_le _⟩ (fun G_17 H locs h hw => ?_)
          refine lv_iinc (v := v4_6 + 1) (lv' := [(4, .int (v4_6 + 1)), (0, .ref (q 5)), (1, .int x1), (2, .int y_2), (3, .int y_5)]) hx hb dX1_findBestMove_53 hl (k := 4) rfl rfl (by decide) rfl (fun ls hl => ?_)
          refine lv_goto (tgt := 20) hx hb dX1_findBestMove_56 (by decide) ?_
          obtain ⟨k_20, hm, h⟩ := h
          exact ihI20_6 k_20 hm (v4_6 + 1) G_17 _ _ ls hw (lv_sub hl [1, 2, 3, 4, 0] rfl) h
  exact LI20_6 n_6 0 G _ _ ls hw (lv_sub hl [3, 4, 2, 1, 0] rfl) h0

abbrev rmX1_findBest : Room := { frames := 2, cells := 0, slots := 0, locals := 47 }
def wp_X1_findBest (G : GS)  (post : GS → Prop) : Prop :=
  ∀ G_1 : GS, G_1 = sI G 5 11 0 → (∃ I7_2 : Nat → Int32 → GS → Prop, (∃ n_2 : Nat, I7_2 n_2 0 G_1) ∧ ∀ (n_2 : Nat) (v1_2 : Int32) (G_2 : GS), I7_2 n_2 v1_2 G_2 → (((G_2.1 5 7) ≤ v1_2 → (∃ I28_4 : Nat → Int32 → GS → Prop, (∃ n_4 : Nat, I28_4 n_4 0 G_2) ∧ ∀ (n_4 : Nat) (v1_4 : Int32) (G_4 : GS), I28_4 n_4 v1_4 G_4 → (((G_4.1 5 8) ≤ v1_4 → (post G_4)) ∧ (¬ ((G_4.1 5 8) ≤ v1_4) → (∀ y_6 : Int32, y_6 = v1_4 + 1 → (∃ I40_7 : Nat → Int32 → GS → Prop, (∃ n_7 : Nat, I40_7 n_7 y_6 G_4) ∧ ∀ (n_7 : Nat) (v2_7 : Int32) (G_7 : GS), I40_7 n_7 v2_7 G_7 → (((G_7.1 5 8) ≤ v2_7 → (∃ k_10 : Nat, k_10 < n_4 ∧ I28_4 k_10 (v1_4 + 1) G_7)) ∧ (¬ ((G_7.1 5 8) ≤ v2_7) → (∃ j53_10 : Nat, j53_10 < 40 ∧ v1_4 = nI j53_10 ∧ (∃ j55_11 : Nat, j55_11 < 40 ∧ v2_7 = nI j55_11 ∧ (((G_7.1 5 11) ≤ (G_7.1 (248 + j53_10) j55_11) → (∃ k_15 : Nat, k_15 < n_7 ∧ I40_7 k_15 (v2_7 + 1) G_7)) ∧ (¬ ((G_7.1 5 11) ≤ (G_7.1 (248 + j53_10) j55_11)) → (∃ j69_15 : Nat, j69_15 < 40 ∧ v1_4 = nI j69_15 ∧ (∃ j71_16 : Nat, j71_16 < 40 ∧ v2_7 = nI j71_16 ∧ (∀ G_18 : GS, G_18 = sI G_7 5 11 (G_7.1 (248 + j69_15) j71_16) → (∀ G_19 : GS, G_19 = sI G_18 5 12 (-1) → (∀ G_20 : GS, G_20 = sI G_19 5 13 v2_7 → (∀ G_21 : GS, G_21 = sI G_20 5 14 v1_4 → (∃ k_23 : Nat, k_23 < n_7 ∧ I40_7 k_23 (v2_7 + 1) G_21))))))))))))))))))) ∧ (¬ ((G_2.1 5 7) ≤ v1_2) → (wp_X1_findBestMove G_2 v1_2 (fun G_24 => ∃ k_27 : Nat, k_27 < n_2 ∧ I7_2 k_27 (v1_2 + 1) G_24)))))
set_option maxHeartbeats 4000000 in
set_option maxRecDepth 100000 in
theorem m_X1_findBest (l : Launch) (D : va_G) (cy : Nat → ClassId) (q : Nat → Nat) (G : GS)  (post : GS → Prop) (h : wp_X1_findBest G  post) : gMv l yX1_findBest wsX1_findBest rmX1_findBest D cy q [.ref (q 5)] G post := by
  intro sz
  refine Met.ofW (cc := cX1_findBest) (maxL := 3) (ret := none) (by decide) rfl ?_
  intro p e s m args below meth c s₁ B hml hv
  obtain ⟨ha, hsz, X, hw, hA, hr, hlk⟩ := g_start B hml hv
  have hx := X.1.1
  have hb := X.1.2.1
  have hown := X.1.2.2.2.1
  have hts := X.1.2.2.2.2
  refine g_in ha (Nat.le_of_ble_eq_true rfl) (fun ls hl => ?_)
  have hl : lv_has ls 3 [(0, .ref (q 5))] := hl
  unfold wp_X1_findBest at h
  have hinX1 : ∀ w ∈ wsX10, w ∈ wsX1_findBest := fun _ h9 => (List.mem_cons_of_mem _ (List.mem_append_right _ h9))
  refine lv_aload_n hx hb dX1_findBest_0 rfl (lv_at hl 0 rfl) ?_
  refine lv_iconst (v := 0) hx hb dX1_findBest_1 (by decide) ?_
  refine g_put 5 11 (v := 0) (ty := .int) (C := RX1) (T := TX1) (N := 15) X hw (by decide) hinX1 tyX1_ok nmX1 rfl (by decide) (List.mem_cons_of_mem _ (List.mem_append_left _ (List.mem_of_getElem? (i := 0) rfl))) rfl (by decide +kernel) rfl rfl (Nat.le_of_ble_eq_true rfl) rfl dX1_findBest_2 (fun H locs hw => ?_)
  obtain ⟨G_1, eG_1⟩ : ∃ z, z = sI G 5 11 0 := ⟨_, rfl⟩
  rw [← eG_1] at hw
  have h := h G_1 eG_1
  refine lv_iconst (v := 0) hx hb dX1_findBest_5 (by decide) ?_
  refine lv_istore_n (lv' := [(1, .int 0), (0, .ref (q 5))]) hx hb dX1_findBest_6 rfl hl (by decide) rfl (fun ls hl => ?_)
  obtain ⟨I7_2, ⟨n_2, h0⟩, hI7_2⟩ := h
  have LI7_2 : ∀ (n_2 : Nat) (v1_2 : Int32) (G_2 : GS) (H : Heap) (locs : List Loc) (ls : Array Slot), gH D cy q (gA q sz) s.heap G_2 H locs → lv_has ls 3 [(0, .ref (q 5)), (1, .int v1_2)] → I7_2 n_2 v1_2 G_2 → W p l e (headSpec wsX1_findBest rmX1_findBest).room s m args below meth c H locs 0 0 (MQ below (va_Qv post (gPo D cy q sz) (gA q sz)) args s 0 0 (gA q sz)) (F0 m 7 ls []) := by
    intro n_2
    induction n_2 using Nat.strongRecOn with
    | ind n_2 ihI7_2 =>
      intro v1_2 G_2 H locs ls hw hl h
      have h := hI7_2 n_2 v1_2 G_2 h
      refine lv_iload_n hx hb dX1_findBest_7 rfl (lv_at hl 1 rfl) ?_
      refine lv_aload_n hx hb dX1_findBest_8 rfl (lv_at hl 0 rfl) ?_
      refine g_get 5 7 (v := .int (G_2.1 5 7)) (C := RX1) (T := TX1) (N := 15) X hw (by decide) hinX1 rfl (by decide) (List.mem_cons_of_mem _ (List.mem_append_left _ (List.mem_of_getElem? (i := 1) rfl))) rfl dX1_findBest_9 ?_
      refine lv_icmp_ge (tgt := 26) hx hb dX1_findBest_12 (by decide) (fun c12_2 => ?_) (fun c12_2 => ?_)
      · have h := h.1 c12_2
        refine lv_iconst (v := 0) hx hb dX1_findBest_26 (by decide) ?_
        refine lv_istore_n (lv' := [(1, .int 0), (0, .ref (q 5))]) hx hb dX1_findBest_27 rfl hl (by decide) rfl (fun ls hl => ?_)
        obtain ⟨I28_4, ⟨n_4, h0⟩, hI28_4⟩ := h
        have LI28_4 : ∀ (n_4 : Nat) (v1_4 : Int32) (G_4 : GS) (H : Heap) (locs : List Loc) (ls : Array Slot), gH D cy q (gA q sz) s.heap G_4 H locs → lv_has ls 3 [(0, .ref (q 5)), (1, .int v1_4)] → I28_4 n_4 v1_4 G_4 → W p l e (headSpec wsX1_findBest rmX1_findBest).room s m args below meth c H locs 0 0 (MQ below (va_Qv post (gPo D cy q sz) (gA q sz)) args s 0 0 (gA q sz)) (F0 m 28 ls []) := by
          intro n_4
          induction n_4 using Nat.strongRecOn with
          | ind n_4 ihI28_4 =>
            intro v1_4 G_4 H locs ls hw hl h
            have h := hI28_4 n_4 v1_4 G_4 h
            refine lv_iload_n hx hb dX1_findBest_28 rfl (lv_at hl 1 rfl) ?_
            refine lv_aload_n hx hb dX1_findBest_29 rfl (lv_at hl 0 rfl) ?_
            refine g_get 5 8 (v := .int (G_4.1 5 8)) (C := RX1) (T := TX1) (N := 15) X hw (by decide) hinX1 rfl (by decide) (List.mem_cons_of_mem _ (List.mem_append_left _ (List.mem_of_getElem? (i := 2) rfl))) rfl dX1_findBest_30 ?_
            refine lv_icmp_ge (tgt := 102) hx hb dX1_findBest_33 (by decide) (fun c33_4 => ?_) (fun c33_4 => ?_)
            · have h := h.1 c33_4
              exact g_vret X hw hr hlk h dX1_findBest_102
            · have h := h.2 c33_4
              refine lv_iload_n hx hb dX1_findBest_36 rfl (lv_at hl 1 rfl) ?_
              refine lv_iconst (v := 1) hx hb dX1_findBest_37 (by decide) ?_
              refine lv_iadd hx hb dX1_findBest_38 ?_
              refine lv_topi (fun y_6 ey_6 => ?_)
              have h := h y_6 ey_6
              refine lv_istore_n (lv' := [(2, .int y_6), (0, .ref (q 5)), (1, .int v1_4)]) hx hb dX1_findBest_39 rfl hl (by decide) rfl (fun ls hl => ?_)
              obtain ⟨I40_7, ⟨n_7, h0⟩, hI40_7⟩ := h
              have LI40_7 : ∀ (n_7 : Nat) (v2_7 : Int32) (G_7 : GS) (H : Heap) (locs : List Loc) (ls : Array Slot), gH D cy q (gA q sz) s.heap G_7 H locs → lv_has ls 3 [(0, .ref (q 5)), (1, .int v1_4), (2, .int v2_7)] → I40_7 n_7 v2_7 G_7 → W p l e (headSpec wsX1_findBest rmX1_findBest).room s m args below meth c H locs 0 0 (MQ below (va_Qv post (gPo D cy q sz) (gA q sz)) args s 0 0 (gA q sz)) (F0 m 40 ls []) := by
                intro n_7
                induction n_7 using Nat.strongRecOn with
                | ind n_7 ihI40_7 =>
                  intro v2_7 G_7 H locs ls hw hl h
                  have h := hI40_7 n_7 v2_7 G_7 h
                  refine lv_iload_n hx hb dX1_findBest_40 rfl (lv_at hl 2 rfl) ?_
                  refine lv_aload_n hx hb dX1_findBest_41 rfl (lv_at hl 0 rfl) ?_
                  refine g_get 5 8 (v := .int (G_7.1 5 8)) (C := RX1) (T := TX1) (N := 15) X hw (by decide) hinX1 rfl (by decide) (List.mem_cons_of_mem _ (List.mem_append_left _ (List.mem_of_getElem? (i := 2) rfl))) rfl dX1_findBest_42 ?_
                  refine lv_icmp_ge (tgt := 96) hx hb dX1_findBest_45 (by decide) (fun c45_7 => ?_) (fun c45_7 => ?_)
                  · have h := h.1 c45_7
                    refine lv_iinc (v := v1_4 + 1) (lv' := [(1, .int (v1_4 + 1)), (0, .ref (q 5)), (2, .int v2_7)]) hx hb dX1_findBest_96 hl (k := 1) rfl rfl (by decide) rfl (fun ls hl => ?_)
                    refine lv_goto (tgt := 28) hx hb dX1_findBest_99 (by decide) ?_
                    obtain ⟨k_10, hm, h⟩ := h
                    exact ihI28_4 k_10 hm (v1_4 + 1) G_7 _ _ ls hw (lv_sub hl [1, 0] rfl) h
                  · have h := h.2 c45_7
                    refine lv_aload_n hx hb dX1_findBest_48 rfl (lv_at hl 0 rfl) ?_
                    refine g_get 5 6 (v := .ref (q 47)) (C := RX1) (T := TX1) (N := 15) X hw (by decide) hinX1 rfl (by decide) (List.mem_cons_of_mem _ (List.mem_append_left _ (List.mem_of_getElem? (i := 3) rfl))) rfl dX1_findBest_49 ?_
                    refine lv_iload_n hx hb dX1_findBest_52 rfl (lv_at hl 1 rfl) ?_
                    obtain ⟨j53_10, bj53_10, ej53_10, h⟩ := h
                    refine g_aald 47 40 j53_10 X hw ⟨by decide, by decide⟩ rfl bj53_10 ej53_10 (by decide) dX1_findBest_53 ?_
                    refine lv_iload_n hx hb dX1_findBest_54 rfl (lv_at hl 2 rfl) ?_
                    obtain ⟨j55_11, bj55_11, ej55_11, h⟩ := h
                    refine g_iald (248 + j53_10) 40 j55_11 X hw (Or.inl ⟨by omega, by omega⟩) (gLen_40 (by omega) (by omega)) bj55_11 ej55_11 (by decide) dX1_findBest_55 ?_
                    refine lv_aload_n hx hb dX1_findBest_56 rfl (lv_at hl 0 rfl) ?_
                    refine g_get 5 11 (v := .int (G_7.1 5 11)) (C := RX1) (T := TX1) (N := 15) X hw (by decide) hinX1 rfl (by decide) (List.mem_cons_of_mem _ (List.mem_append_left _ (List.mem_of_getElem? (i := 0) rfl))) rfl dX1_findBest_57 ?_
                    refine lv_icmp_ge (tgt := 90) hx hb dX1_findBest_60 (by decide) (fun c60_12 => ?_) (fun c60_12 => ?_)
                    · have h := h.1 c60_12
                      refine lv_iinc (v := v2_7 + 1) (lv' := [(2, .int (v2_7 + 1)), (0, .ref (q 5)), (1, .int v1_4)]) hx hb dX1_findBest_90 hl (k := 2) rfl rfl (by decide) rfl (fun ls hl => ?_)
                      refine lv_goto (tgt := 40) hx hb dX1_findBest_93 (by decide) ?_
                      obtain ⟨k_15, hm, h⟩ := h
                      exact ihI40_7 k_15 hm (v2_7 + 1) G_7 _ _ ls hw (lv_sub hl [1, 2, 0] rfl) h
                    · have h := h.2 c60_12
                      refine lv_aload_n hx hb dX1_findBest_63 rfl (lv_at hl 0 rfl) ?_
                      refine lv_aload_n hx hb dX1_findBest_64 rfl (lv_at hl 0 rfl) ?_
                      refine g_get 5 6 (v := .ref (q 47)) (C := RX1) (T := TX1) (N := 15) X hw (by decide) hinX1 rfl (by decide) (List.mem_cons_of_mem _ (List.mem_append_left _ (List.mem_of_getElem? (i := 3) rfl))) rfl dX1_findBest_65 ?_
                      refine lv_iload_n hx hb dX1_findBest_68 rfl (lv_at hl 1 rfl) ?_
                      obtain ⟨j69_15, bj69_15, ej69_15, h⟩ := h
                      refine g_aald 47 40 j69_15 X hw ⟨by decide, by decide⟩ rfl bj69_15 ej69_15 (by decide) dX1_findBest_69 ?_
                      refine lv_iload_n hx hb dX1_findBest_70 rfl (lv_at hl 2 rfl) ?_
                      obtain ⟨j71_16, bj71_16, ej71_16, h⟩ := h
                      refine g_iald (248 + j69_15) 40 j71_16 X hw (Or.inl ⟨by omega, by omega⟩) (gLen_40 (by omega) (by omega)) bj71_16 ej71_16 (by decide) dX1_findBest_71 ?_
                      refine g_put 5 11 (v := G_7.1 (248 + j69_15) j71_16) (ty := .int) (C := RX1) (T := TX1) (N := 15) X hw (by decide) hinX1 tyX1_ok nmX1 rfl (by decide) (List.mem_cons_of_mem _ (List.mem_append_left _ (List.mem_of_getElem? (i := 0) rfl))) rfl (by decide +kernel) rfl rfl (Nat.le_of_ble_eq_true rfl) rfl dX1_findBest_72 (fun H locs hw => ?_)
                      obtain ⟨G_18, eG_18⟩ : ∃ z, z = sI G_7 5 11 (G_7.1 (248 + j69_15) j71_16) := ⟨_, rfl⟩
                      rw [← eG_18] at hw
                      have h := h G_18 eG_18
                      refine lv_aload_n hx hb dX1_findBest_75 rfl (lv_at hl 0 rfl) ?_
                      refine lv_iconst (v := (-1)) hx hb dX1_findBest_76 (by decide) ?_
                      refine g_put 5 12 (v := (-1)) (ty := .int) (C := RX1) (T := TX1) (N := 15) X hw (by decide) hinX1 tyX1_ok nmX1 rfl (by decide) (List.mem_cons_of_mem _ (List.mem_append_left _ (List.mem_of_getElem? (i := 4) rfl))) rfl (by decide +kernel) rfl rfl (Nat.le_of_ble_eq_true rfl) rfl dX1_findBest_77 (fun H locs hw => ?_)
                      obtain ⟨G_19, eG_19⟩ : ∃ z, z = sI G_18 5 12 (-1) := ⟨_, rfl⟩
                      rw [← eG_19] at hw
                      have h := h G_19 eG_19
                      refine lv_aload_n hx hb dX1_findBest_80 rfl (lv_at hl 0 rfl) ?_
                      refine lv_iload_n hx hb dX1_findBest_81 rfl (lv_at hl 2 rfl) ?_
                      refine g_put 5 13 (v := v2_7) (ty := .int) (C := RX1) (T := TX1) (N := 15) X hw (by decide) hinX1 tyX1_ok nmX1 rfl (by decide) (List.mem_cons_of_mem _ (List.mem_append_left _ (List.mem_of_getElem? (i := 5) rfl))) rfl (by decide +kernel) rfl rfl (Nat.le_of_ble_eq_true rfl) rfl dX1_findBest_82 (fun H locs hw => ?_)
                      obtain ⟨G_20, eG_20⟩ : ∃ z, z = sI G_19 5 13 v2_7 := ⟨_, rfl⟩
                      rw [← eG_20] at hw
                      have h := h G_20 eG_20
                      refine lv_aload_n hx hb dX1_findBest_85 rfl (lv_at hl 0 rfl) ?_
                      refine lv_iload_n hx hb dX1_findBest_86 rfl (lv_at hl 1 rfl) ?_
                      refine g_put 5 14 (v := v1_4) (ty := .int) (C := RX1) (T := TX1) (N := 15) X hw (by decide) hinX1 tyX1_ok nmX1 rfl (by decide) (List.mem_cons_of_mem _ (List.mem_append_left _ (List.mem_of_getElem? (i := 6) rfl))) rfl (by decide +kernel) rfl rfl (Nat.le_of_ble_eq_true rfl) rfl dX1_findBest_87 (fun H locs hw => ?_)
                      obtain ⟨G_21, eG_21⟩ : ∃ z, z = sI G_20 5 14 v1_4 := ⟨_, rfl⟩
                      rw [← eG_21] at hw
                      have h := h G_21 eG_21
                      refine lv_iinc (v := v2_7 + 1) (lv' := [(2, .int (v2_7 + 1)), (0, .ref (q 5)), (1, .int v1_4)]) hx hb dX1_findBest_90 hl (k := 2) rfl rfl (by decide) rfl (fun ls hl => ?_)
                      refine lv_goto (tgt := 40) hx hb dX1_findBest_93 (by decide) ?_
                      obtain ⟨k_23, hm, h⟩ := h
                      exact ihI40_7 k_23 hm (v2_7 + 1) G_21 _ _ ls hw (lv_sub hl [1, 2, 0] rfl) h
              exact LI40_7 n_7 y_6 G_4 _ _ ls hw (lv_sub hl [1, 2, 0] rfl) h0
        exact LI28_4 n_4 0 G_2 _ _ ls hw (lv_sub hl [1, 0] rfl) h0
      · have h := h.2 c12_2
        refine lv_aload_n hx hb dX1_findBest_15 rfl (lv_at hl 0 rfl) ?_
        refine lv_iload_n hx hb dX1_findBest_16 rfl (lv_at hl 1 rfl) ?_
        refine g_callVv 5 (C := RX1) (T := TX1) (N := 15) (As := [.int v1_2]) (rest := []) X hw hA (m_X1_findBestMove l D cy q G_2 v1_2 _ h) (by decide) rfl (cwV 1 hts gX1_findBest_X1_findBestMove rfl rfl rfl (by decide +kernel) ⟨Nat.le_of_ble_eq_true rfl, Nat.le_of_ble_eq_true rfl⟩) rfl hl.1 rfl (Nat.le_of_ble_eq_true rfl) dX1_findBest_17 ⟨Nat.zero_le _, Nat.zero_le _⟩ (fun G_24 H locs h hw => ?_)
        refine lv_iinc (v := v1_2 + 1) (lv' := [(1, .int (v1_2 + 1)), (0, .ref (q 5))]) hx hb dX1_findBest_20 hl (k := 1) rfl rfl (by decide) rfl (fun ls hl => ?_)
        refine lv_goto (tgt := 7) hx hb dX1_findBest_23 (by decide) ?_
        obtain ⟨k_27, hm, h⟩ := h
        exact ihI7_2 k_27 hm (v1_2 + 1) G_24 _ _ ls hw (lv_sub hl [1, 0] rfl) h
  exact LI7_2 n_2 0 G_1 _ _ ls hw (lv_sub hl [1, 0] rfl) h0

abbrev rmX1_doBest : Room := { frames := 2, cells := 0, slots := 0, locals := 45 }
def wp_X1_doBest (G : GS)  (post : GS → Prop) : Prop :=
  ((G.1 5 12) = (-1) → (∃ I26_2 : Nat → Int32 → GS → Prop, (∃ n_2 : Nat, I26_2 n_2 0 G) ∧ ∀ (n_2 : Nat) (v1_2 : Int32) (G_2 : GS), I26_2 n_2 v1_2 G_2 → (((G_2.1 5 7) ≤ v1_2 → (wp_X1_numberAnew G_2 (fun G_4 => post G_4))) ∧ (¬ ((G_2.1 5 7) ≤ v1_2) → (∃ j39_5 : Nat, j39_5 < 40 ∧ v1_2 = nI j39_5 ∧ ((¬ (G_2.1 14 j39_5) = (G_2.1 5 13) → (∃ k_9 : Nat, k_9 < n_2 ∧ I26_2 k_9 (v1_2 + 1) G_2)) ∧ ((G_2.1 14 j39_5) = (G_2.1 5 13) → (∃ j56_9 : Nat, j56_9 < 40 ∧ v1_2 = nI j56_9 ∧ (∀ G_11 : GS, G_11 = sI G_2 14 j56_9 (G_2.1 5 14) → (∃ k_13 : Nat, k_13 < n_2 ∧ I26_2 k_13 (v1_2 + 1) G_11)))))))))) ∧ (¬ ((G.1 5 12) = (-1)) → (∃ j20_13 : Nat, j20_13 < 40 ∧ G.1 5 12 = nI j20_13 ∧ (∀ G_15 : GS, G_15 = sI G 14 j20_13 (G.1 5 14) → (wp_X1_numberAnew G_15 (fun G_16 => post G_16)))))
set_option maxHeartbeats 4000000 in
set_option maxRecDepth 100000 in
theorem m_X1_doBest (l : Launch) (D : va_G) (cy : Nat → ClassId) (q : Nat → Nat) (G : GS)  (post : GS → Prop) (h : wp_X1_doBest G  post) : gMv l yX1_doBest wsX1_doBest rmX1_doBest D cy q [.ref (q 5)] G post := by
  intro sz
  refine Met.ofW (cc := cX1_doBest) (maxL := 2) (ret := none) (by decide) rfl ?_
  intro p e s m args below meth c s₁ B hml hv
  obtain ⟨ha, hsz, X, hw, hA, hr, hlk⟩ := g_start B hml hv
  have hx := X.1.1
  have hb := X.1.2.1
  have hown := X.1.2.2.2.1
  have hts := X.1.2.2.2.2
  refine g_in ha (Nat.le_of_ble_eq_true rfl) (fun ls hl => ?_)
  have hl : lv_has ls 2 [(0, .ref (q 5))] := hl
  unfold wp_X1_doBest at h
  have hinX1 : ∀ w ∈ wsX10, w ∈ wsX1_doBest := fun _ h9 => (List.mem_cons_of_mem _ (List.mem_append_right _ h9))
  refine lv_aload_n hx hb dX1_doBest_0 rfl (lv_at hl 0 rfl) ?_
  refine g_get 5 12 (v := .int (G.1 5 12)) (C := RX1) (T := TX1) (N := 15) X hw (by decide) hinX1 rfl (by decide) (List.mem_cons_of_mem _ (List.mem_append_left _ (List.mem_of_getElem? (i := 0) rfl))) rfl dX1_doBest_1 ?_
  refine lv_iconst (v := (-1)) hx hb dX1_doBest_4 (by decide) ?_
  refine lv_icmp_eq (tgt := 24) hx hb dX1_doBest_5 (by decide) (fun c5_0 => ?_) (fun c5_0 => ?_)
  · have h := h.1 c5_0
    refine lv_iconst (v := 0) hx hb dX1_doBest_24 (by decide) ?_
    refine lv_istore_n (lv' := [(1, .int 0), (0, .ref (q 5))]) hx hb dX1_doBest_25 rfl hl (by decide) rfl (fun ls hl => ?_)
    obtain ⟨I26_2, ⟨n_2, h0⟩, hI26_2⟩ := h
    have LI26_2 : ∀ (n_2 : Nat) (v1_2 : Int32) (G_2 : GS) (H : Heap) (locs : List Loc) (ls : Array Slot), gH D cy q (gA q sz) s.heap G_2 H locs → lv_has ls 2 [(0, .ref (q 5)), (1, .int v1_2)] → I26_2 n_2 v1_2 G_2 → W p l e (headSpec wsX1_doBest rmX1_doBest).room s m args below meth c H locs 0 0 (MQ below (va_Qv post (gPo D cy q sz) (gA q sz)) args s 0 0 (gA q sz)) (F0 m 26 ls []) := by
      intro n_2
      induction n_2 using Nat.strongRecOn with
      | ind n_2 ihI26_2 =>
        intro v1_2 G_2 H locs ls hw hl h
        have h := hI26_2 n_2 v1_2 G_2 h
        refine lv_iload_n hx hb dX1_doBest_26 rfl (lv_at hl 1 rfl) ?_
        refine lv_aload_n hx hb dX1_doBest_27 rfl (lv_at hl 0 rfl) ?_
        refine g_get 5 7 (v := .int (G_2.1 5 7)) (C := RX1) (T := TX1) (N := 15) X hw (by decide) hinX1 rfl (by decide) (List.mem_cons_of_mem _ (List.mem_append_left _ (List.mem_of_getElem? (i := 3) rfl))) rfl dX1_doBest_28 ?_
        refine lv_icmp_ge (tgt := 63) hx hb dX1_doBest_31 (by decide) (fun c31_2 => ?_) (fun c31_2 => ?_)
        · have h := h.1 c31_2
          refine lv_aload_n hx hb dX1_doBest_63 rfl (lv_at hl 0 rfl) ?_
          refine g_callVv 5 (C := RX1) (T := TX1) (N := 15) (As := []) (rest := []) X hw hA (m_X1_numberAnew l D cy q G_2 _ h) (by decide) rfl (cwV 0 hts gX1_doBest_X1_numberAnew rfl rfl rfl (by decide +kernel) ⟨Nat.le_of_ble_eq_true rfl, Nat.le_of_ble_eq_true rfl⟩) rfl hl.1 rfl (Nat.le_of_ble_eq_true rfl) dX1_doBest_64 ⟨Nat.zero_le _, Nat.zero_le _⟩ (fun G_4 H locs h hw => ?_)
          exact g_vret X hw hr hlk h dX1_doBest_67
        · have h := h.2 c31_2
          refine lv_aload_n hx hb dX1_doBest_34 rfl (lv_at hl 0 rfl) ?_
          refine g_get 5 1 (v := .ref (q 14)) (C := RX1) (T := TX1) (N := 15) X hw (by decide) hinX1 rfl (by decide) (List.mem_cons_of_mem _ (List.mem_append_left _ (List.mem_of_getElem? (i := 1) rfl))) rfl dX1_doBest_35 ?_
          refine lv_iload_n hx hb dX1_doBest_38 rfl (lv_at hl 1 rfl) ?_
          obtain ⟨j39_5, bj39_5, ej39_5, h⟩ := h
          refine g_iald 14 40 j39_5 X hw (Or.inr ⟨by decide, by decide⟩) rfl bj39_5 ej39_5 (by decide) dX1_doBest_39 ?_
          refine lv_aload_n hx hb dX1_doBest_40 rfl (lv_at hl 0 rfl) ?_
          refine g_get 5 13 (v := .int (G_2.1 5 13)) (C := RX1) (T := TX1) (N := 15) X hw (by decide) hinX1 rfl (by decide) (List.mem_cons_of_mem _ (List.mem_append_left _ (List.mem_of_getElem? (i := 4) rfl))) rfl dX1_doBest_41 ?_
          refine lv_icmp_ne (tgt := 57) hx hb dX1_doBest_44 (by decide) (fun c44_6 => ?_) (fun c44_6 => ?_)
          · have h := h.1 c44_6
            refine lv_iinc (v := v1_2 + 1) (lv' := [(1, .int (v1_2 + 1)), (0, .ref (q 5))]) hx hb dX1_doBest_57 hl (k := 1) rfl rfl (by decide) rfl (fun ls hl => ?_)
            refine lv_goto (tgt := 26) hx hb dX1_doBest_60 (by decide) ?_
            obtain ⟨k_9, hm, h⟩ := h
            exact ihI26_2 k_9 hm (v1_2 + 1) G_2 _ _ ls hw (lv_sub hl [1, 0] rfl) h
          · have h := h.2 c44_6
            refine lv_aload_n hx hb dX1_doBest_47 rfl (lv_at hl 0 rfl) ?_
            refine g_get 5 1 (v := .ref (q 14)) (C := RX1) (T := TX1) (N := 15) X hw (by decide) hinX1 rfl (by decide) (List.mem_cons_of_mem _ (List.mem_append_left _ (List.mem_of_getElem? (i := 1) rfl))) rfl dX1_doBest_48 ?_
            refine lv_iload_n hx hb dX1_doBest_51 rfl (lv_at hl 1 rfl) ?_
            refine lv_aload_n hx hb dX1_doBest_52 rfl (lv_at hl 0 rfl) ?_
            refine g_get 5 14 (v := .int (G_2.1 5 14)) (C := RX1) (T := TX1) (N := 15) X hw (by decide) hinX1 rfl (by decide) (List.mem_cons_of_mem _ (List.mem_append_left _ (List.mem_of_getElem? (i := 2) rfl))) rfl dX1_doBest_53 ?_
            obtain ⟨j56_9, bj56_9, ej56_9, h⟩ := h
            refine g_iast 14 40 j56_9 X hw (Or.inr ⟨by decide, by decide⟩) rfl bj56_9 ej56_9 (by decide) dX1_doBest_56 (fun H locs hw => ?_)
            obtain ⟨G_11, eG_11⟩ : ∃ z, z = sI G_2 14 j56_9 (G_2.1 5 14) := ⟨_, rfl⟩
            rw [← eG_11] at hw
            have h := h G_11 eG_11
            refine lv_iinc (v := v1_2 + 1) (lv' := [(1, .int (v1_2 + 1)), (0, .ref (q 5))]) hx hb dX1_doBest_57 hl (k := 1) rfl rfl (by decide) rfl (fun ls hl => ?_)
            refine lv_goto (tgt := 26) hx hb dX1_doBest_60 (by decide) ?_
            obtain ⟨k_13, hm, h⟩ := h
            exact ihI26_2 k_13 hm (v1_2 + 1) G_11 _ _ ls hw (lv_sub hl [1, 0] rfl) h
    exact LI26_2 n_2 0 G _ _ ls hw (lv_sub hl [1, 0] rfl) h0
  · have h := h.2 c5_0
    refine lv_aload_n hx hb dX1_doBest_8 rfl (lv_at hl 0 rfl) ?_
    refine g_get 5 1 (v := .ref (q 14)) (C := RX1) (T := TX1) (N := 15) X hw (by decide) hinX1 rfl (by decide) (List.mem_cons_of_mem _ (List.mem_append_left _ (List.mem_of_getElem? (i := 1) rfl))) rfl dX1_doBest_9 ?_
    refine lv_aload_n hx hb dX1_doBest_12 rfl (lv_at hl 0 rfl) ?_
    refine g_get 5 12 (v := .int (G.1 5 12)) (C := RX1) (T := TX1) (N := 15) X hw (by decide) hinX1 rfl (by decide) (List.mem_cons_of_mem _ (List.mem_append_left _ (List.mem_of_getElem? (i := 0) rfl))) rfl dX1_doBest_13 ?_
    refine lv_aload_n hx hb dX1_doBest_16 rfl (lv_at hl 0 rfl) ?_
    refine g_get 5 14 (v := .int (G.1 5 14)) (C := RX1) (T := TX1) (N := 15) X hw (by decide) hinX1 rfl (by decide) (List.mem_cons_of_mem _ (List.mem_append_left _ (List.mem_of_getElem? (i := 2) rfl))) rfl dX1_doBest_17 ?_
    obtain ⟨j20_13, bj20_13, ej20_13, h⟩ := h
    refine g_iast 14 40 j20_13 X hw (Or.inr ⟨by decide, by decide⟩) rfl bj20_13 ej20_13 (by decide) dX1_doBest_20 (fun H locs hw => ?_)
    obtain ⟨G_15, eG_15⟩ : ∃ z, z = sI G 14 j20_13 (G.1 5 14) := ⟨_, rfl⟩
    rw [← eG_15] at hw
    have h := h G_15 eG_15
    refine lv_goto (tgt := 63) hx hb dX1_doBest_21 (by decide) ?_
    refine lv_aload_n hx hb dX1_doBest_63 rfl (lv_at hl 0 rfl) ?_
    refine g_callVv 5 (C := RX1) (T := TX1) (N := 15) (As := []) (rest := []) X hw hA (m_X1_numberAnew l D cy q G_15 _ h) (by decide) rfl (cwV 0 hts gX1_doBest_X1_numberAnew rfl rfl rfl (by decide +kernel) ⟨Nat.le_of_ble_eq_true rfl, Nat.le_of_ble_eq_true rfl⟩) rfl hl.1 rfl (Nat.le_of_ble_eq_true rfl) dX1_doBest_64 ⟨Nat.zero_le _, Nat.zero_le _⟩ (fun G_16 H locs h hw => ?_)
    exact g_vret X hw hr hlk h dX1_doBest_67

abbrev rmX1_settle : Room := { frames := 3, cells := 0, slots := 0, locals := 69 }
def wp_X1_settle (G : GS)  (post : GS → Prop) : Prop :=
  ∃ I2_1 : Nat → Int32 → GS → Prop, (∃ n_1 : Nat, I2_1 n_1 0 G) ∧ ∀ (n_1 : Nat) (v2_1 : Int32) (G_1 : GS), I2_1 n_1 v2_1 G_1 → ((1000000 ≤ v2_1 → (post G_1)) ∧ (¬ (1000000 ≤ v2_1) → (wp_X1_weighJoining G_1 (fun G_3 => wp_X1_weighMelting G_3 (fun G_5 => wp_X1_findBest G_5 (fun G_7 => ((G_7.1 5 11) < 0 → (wp_X1_doBest G_7 (fun G_10 => ∀ G_12 : GS, G_12 = sI G_10 5 10 ((G_10.1 5 10) + 1) → (∃ k_14 : Nat, k_14 < n_1 ∧ I2_1 k_14 (v2_1 + 1) G_12)))) ∧ (¬ ((G_7.1 5 11) < 0) → (post G_7))))))))
set_option maxHeartbeats 4000000 in
set_option maxRecDepth 100000 in
theorem m_X1_settle (l : Launch) (D : va_G) (cy : Nat → ClassId) (q : Nat → Nat) (G : GS)  (post : GS → Prop) (h : wp_X1_settle G  post) : gMv l yX1_settle wsX1_settle rmX1_settle D cy q [.ref (q 5), .ref (q 4)] G post := by
  intro sz
  refine Met.ofW (cc := cX1_settle) (maxL := 3) (ret := none) (by decide) rfl ?_
  intro p e s m args below meth c s₁ B hml hv
  obtain ⟨ha, hsz, X, hw, hA, hr, hlk⟩ := g_start B hml hv
  have hx := X.1.1
  have hb := X.1.2.1
  have hown := X.1.2.2.2.1
  have hts := X.1.2.2.2.2
  refine g_in ha (Nat.le_of_ble_eq_true rfl) (fun ls hl => ?_)
  have hl : lv_has ls 3 [(0, .ref (q 5)), (1, .ref (q 4))] := hl
  unfold wp_X1_settle at h
  have hinX1 : ∀ w ∈ wsX10, w ∈ wsX1_settle := fun _ h9 => (List.mem_cons_of_mem _ (List.mem_append_left _ (List.mem_append_right _ h9)))
  refine lv_iconst (v := 0) hx hb dX1_settle_0 (by decide) ?_
  refine lv_istore_n (lv' := [(2, .int 0), (0, .ref (q 5)), (1, .ref (q 4))]) hx hb dX1_settle_1 rfl hl (by decide) rfl (fun ls hl => ?_)
  obtain ⟨I2_1, ⟨n_1, h0⟩, hI2_1⟩ := h
  have LI2_1 : ∀ (n_1 : Nat) (v2_1 : Int32) (G_1 : GS) (H : Heap) (locs : List Loc) (ls : Array Slot), gH D cy q (gA q sz) s.heap G_1 H locs → lv_has ls 3 [(0, .ref (q 5)), (1, .ref (q 4)), (2, .int v2_1)] → I2_1 n_1 v2_1 G_1 → W p l e (headSpec wsX1_settle rmX1_settle).room s m args below meth c H locs 0 0 (MQ below (va_Qv post (gPo D cy q sz) (gA q sz)) args s 0 0 (gA q sz)) (F0 m 2 ls []) := by
    intro n_1
    induction n_1 using Nat.strongRecOn with
    | ind n_1 ihI2_1 =>
      intro v2_1 G_1 H locs ls hw hl h
      have h := hI2_1 n_1 v2_1 G_1 h
      refine lv_iload_n hx hb dX1_settle_2 rfl (lv_at hl 2 rfl) ?_
      refine lv_ldc (v := 1000000) hx hb hown (hts _ (List.mem_cons_of_mem _ (List.mem_append_left _ (List.mem_append_left _ (List.mem_append_left _ (List.mem_of_getElem? (i := 0) rfl)))))) dX1_settle_3 ?_
      refine lv_icmp_ge (tgt := 49) hx hb dX1_settle_5 (by decide) (fun c5_1 => ?_) (fun c5_1 => ?_)
      · have h := h.1 c5_1
        exact g_vret X hw hr hlk h dX1_settle_49
      · have h := h.2 c5_1
        refine lv_aload_n hx hb dX1_settle_8 rfl (lv_at hl 0 rfl) ?_
        refine lv_aload_n hx hb dX1_settle_9 rfl (lv_at hl 1 rfl) ?_
        refine g_callVv 5 (C := RX1) (T := TX1) (N := 15) (As := [.ref (q 4)]) (rest := []) X hw hA (m_X1_weighJoining l D cy q G_1 _ h) (by decide) rfl (cwV 1 hts gX1_settle_X1_weighJoining rfl rfl rfl (by decide +kernel) ⟨Nat.le_of_ble_eq_true rfl, Nat.le_of_ble_eq_true rfl⟩) rfl hl.1 rfl (Nat.le_of_ble_eq_true rfl) dX1_settle_10 ⟨Nat.zero_le _, Nat.zero_le _⟩ (fun G_3 H locs h hw => ?_)
        refine lv_aload_n hx hb dX1_settle_13 rfl (lv_at hl 0 rfl) ?_
        refine g_callVv 5 (C := RX1) (T := TX1) (N := 15) (As := []) (rest := []) X hw hA (m_X1_weighMelting l D cy q G_3 _ h) (by decide) rfl (cwV 0 hts gX1_settle_X1_weighMelting rfl rfl rfl (by decide +kernel) ⟨Nat.le_of_ble_eq_true rfl, Nat.le_of_ble_eq_true rfl⟩) rfl hl.1 rfl (Nat.le_of_ble_eq_true rfl) dX1_settle_14 ⟨Nat.zero_le _, Nat.zero_le _⟩ (fun G_5 H locs h hw => ?_)
        refine lv_aload_n hx hb dX1_settle_17 rfl (lv_at hl 0 rfl) ?_
        refine g_callVv 5 (C := RX1) (T := TX1) (N := 15) (As := []) (rest := []) X hw hA (m_X1_findBest l D cy q G_5 _ h) (by decide) rfl (cwV 0 hts gX1_settle_X1_findBest rfl rfl rfl (by decide +kernel) ⟨Nat.le_of_ble_eq_true rfl, Nat.le_of_ble_eq_true rfl⟩) rfl hl.1 rfl (Nat.le_of_ble_eq_true rfl) dX1_settle_18 ⟨Nat.zero_le _, Nat.zero_le _⟩ (fun G_7 H locs h hw => ?_)
        refine lv_aload_n hx hb dX1_settle_21 rfl (lv_at hl 0 rfl) ?_
        refine g_get 5 11 (v := .int (G_7.1 5 11)) (C := RX1) (T := TX1) (N := 15) X hw (by decide) hinX1 rfl (by decide) (List.mem_cons_of_mem _ (List.mem_append_left _ (List.mem_append_left _ (List.mem_append_left _ (List.mem_of_getElem? (i := 1) rfl))))) rfl dX1_settle_22 ?_
        refine lv_if_lt (tgt := 29) hx hb dX1_settle_25 (by decide) (fun c25_8 => ?_) (fun c25_8 => ?_)
        · have h := h.1 c25_8
          refine lv_aload_n hx hb dX1_settle_29 rfl (lv_at hl 0 rfl) ?_
          refine g_callVv 5 (C := RX1) (T := TX1) (N := 15) (As := []) (rest := []) X hw hA (m_X1_doBest l D cy q G_7 _ h) (by decide) rfl (cwV 0 hts gX1_settle_X1_doBest rfl rfl rfl (by decide +kernel) ⟨Nat.le_of_ble_eq_true rfl, Nat.le_of_ble_eq_true rfl⟩) rfl hl.1 rfl (Nat.le_of_ble_eq_true rfl) dX1_settle_30 ⟨Nat.zero_le _, Nat.zero_le _⟩ (fun G_10 H locs h hw => ?_)
          refine lv_aload_n hx hb dX1_settle_33 rfl (lv_at hl 0 rfl) ?_
          refine lv_dup hx hb dX1_settle_34 rfl ?_
          refine g_get 5 10 (v := .int (G_10.1 5 10)) (C := RX1) (T := TX1) (N := 15) X hw (by decide) hinX1 rfl (by decide) (List.mem_cons_of_mem _ (List.mem_append_left _ (List.mem_append_left _ (List.mem_append_left _ (List.mem_of_getElem? (i := 2) rfl))))) rfl dX1_settle_35 ?_
          refine lv_iconst (v := 1) hx hb dX1_settle_38 (by decide) ?_
          refine lv_iadd hx hb dX1_settle_39 ?_
          refine g_put 5 10 (v := (G_10.1 5 10) + 1) (ty := .int) (C := RX1) (T := TX1) (N := 15) X hw (by decide) hinX1 tyX1_ok nmX1 rfl (by decide) (List.mem_cons_of_mem _ (List.mem_append_left _ (List.mem_append_left _ (List.mem_append_left _ (List.mem_of_getElem? (i := 2) rfl))))) rfl (by decide +kernel) rfl rfl (Nat.le_of_ble_eq_true rfl) rfl dX1_settle_40 (fun H locs hw => ?_)
          obtain ⟨G_12, eG_12⟩ : ∃ z, z = sI G_10 5 10 ((G_10.1 5 10) + 1) := ⟨_, rfl⟩
          rw [← eG_12] at hw
          have h := h G_12 eG_12
          refine lv_iinc (v := v2_1 + 1) (lv' := [(2, .int (v2_1 + 1)), (0, .ref (q 5)), (1, .ref (q 4))]) hx hb dX1_settle_43 hl (k := 2) rfl rfl (by decide) rfl (fun ls hl => ?_)
          refine lv_goto (tgt := 2) hx hb dX1_settle_46 (by decide) ?_
          obtain ⟨k_14, hm, h⟩ := h
          exact ihI2_1 k_14 hm (v2_1 + 1) G_12 _ _ ls hw (lv_sub hl [1, 2, 0] rfl) h
        · have h := h.2 c25_8
          exact g_vret X hw hr hlk h dX1_settle_28
  exact LI2_1 n_1 0 G _ _ ls hw (lv_sub hl [1, 2, 0] rfl) h0
