abbrev rmX3_howMany : Room := { frames := 0, cells := 0, slots := 0, locals := 0 }
def wp_X3_howMany (G : GS)  (post : Int32 → GS → Prop) : Prop :=
  post (G.1 3 5) G
set_option maxHeartbeats 4000000 in
set_option maxRecDepth 100000 in
theorem m_X3_howMany (l : Launch) (D : va_G) (cy : Nat → ClassId) (q : Nat → Nat) (G : GS)  (post : Int32 → GS → Prop) (h : wp_X3_howMany G  post) : gMi l yX3_howMany wsX3_howMany rmX3_howMany D cy q [.ref (q 3)] G post := by
  intro sz
  refine Met.ofW (cc := cX3_howMany) (maxL := 1) (ret := (some .int)) (by decide) rfl ?_
  intro p e s m args below meth c s₁ B hml hv
  obtain ⟨ha, hsz, X, hw, hA, hr, hlk⟩ := g_start B hml hv
  have hx := X.1.1
  have hb := X.1.2.1
  have hown := X.1.2.2.2.1
  have hts := X.1.2.2.2.2
  refine g_in ha (Nat.le_of_ble_eq_true rfl) (fun ls hl => ?_)
  have hl : lv_has ls 1 [(0, .ref (q 3))] := hl
  unfold wp_X3_howMany at h
  have hinX3 : ∀ w ∈ wsX30, w ∈ wsX3_howMany := fun _ h9 => (List.mem_cons_of_mem _ (List.mem_append_right _ h9))
  refine lv_aload_n hx hb dX3_howMany_0 rfl (lv_at hl 0 rfl) ?_
  refine g_get 3 5 (v := .int (G.1 3 5)) (C := RX3) (T := TX3) (N := 6) X hw (by decide) hinX3 rfl (by decide) (List.mem_cons_of_mem _ (List.mem_append_left _ (List.mem_of_getElem? (i := 0) rfl))) rfl dX3_howMany_1 ?_
  exact g_iret X hw hr hlk h dX3_howMany_4

abbrev rmX3_lengthOf : Room := { frames := 0, cells := 0, slots := 0, locals := 0 }
def wp_X3_lengthOf (G : GS) (x1 : Int32) (post : Int32 → GS → Prop) : Prop :=
  ∃ j5_0 : Nat, j5_0 < 40 ∧ x1 = nI j5_0 ∧ (post (G.1 10 j5_0) G)
set_option maxHeartbeats 4000000 in
set_option maxRecDepth 100000 in
theorem m_X3_lengthOf (l : Launch) (D : va_G) (cy : Nat → ClassId) (q : Nat → Nat) (G : GS) (x1 : Int32) (post : Int32 → GS → Prop) (h : wp_X3_lengthOf G x1 post) : gMi l yX3_lengthOf wsX3_lengthOf rmX3_lengthOf D cy q [.ref (q 3), .int x1] G post := by
  intro sz
  refine Met.ofW (cc := cX3_lengthOf) (maxL := 2) (ret := (some .int)) (by decide) rfl ?_
  intro p e s m args below meth c s₁ B hml hv
  obtain ⟨ha, hsz, X, hw, hA, hr, hlk⟩ := g_start B hml hv
  have hx := X.1.1
  have hb := X.1.2.1
  have hown := X.1.2.2.2.1
  have hts := X.1.2.2.2.2
  refine g_in ha (Nat.le_of_ble_eq_true rfl) (fun ls hl => ?_)
  have hl : lv_has ls 2 [(0, .ref (q 3)), (1, .int x1)] := hl
  unfold wp_X3_lengthOf at h
  have hinX3 : ∀ w ∈ wsX30, w ∈ wsX3_lengthOf := fun _ h9 => (List.mem_cons_of_mem _ (List.mem_append_right _ h9))
  refine lv_aload_n hx hb dX3_lengthOf_0 rfl (lv_at hl 0 rfl) ?_
  refine g_get 3 1 (v := .ref (q 10)) (C := RX3) (T := TX3) (N := 6) X hw (by decide) hinX3 rfl (by decide) (List.mem_cons_of_mem _ (List.mem_append_left _ (List.mem_of_getElem? (i := 0) rfl))) rfl dX3_lengthOf_1 ?_
  refine lv_iload_n hx hb dX3_lengthOf_4 rfl (lv_at hl 1 rfl) ?_
  obtain ⟨j5_0, bj5_0, ej5_0, h⟩ := h
  refine g_iald 10 40 j5_0 X hw (Or.inr ⟨by decide, by decide⟩) rfl bj5_0 ej5_0 (by decide) dX3_lengthOf_5 ?_
  exact g_iret X hw hr hlk h dX3_lengthOf_6

abbrev rmX3_frameAt : Room := { frames := 0, cells := 0, slots := 0, locals := 0 }
def wp_X3_frameAt (G : GS) (x1 : Int32) (x2 : Int32) (post : Int32 → GS → Prop) : Prop :=
  ∃ j5_0 : Nat, j5_0 < 40 ∧ x1 = nI j5_0 ∧ (∃ j7_1 : Nat, j7_1 < 12 ∧ x2 = nI j7_1 ∧ (post (G.1 (48 + j5_0) j7_1) G))
set_option maxHeartbeats 4000000 in
set_option maxRecDepth 100000 in
theorem m_X3_frameAt (l : Launch) (D : va_G) (cy : Nat → ClassId) (q : Nat → Nat) (G : GS) (x1 : Int32) (x2 : Int32) (post : Int32 → GS → Prop) (h : wp_X3_frameAt G x1 x2 post) : gMi l yX3_frameAt wsX3_frameAt rmX3_frameAt D cy q [.ref (q 3), .int x1, .int x2] G post := by
  intro sz
  refine Met.ofW (cc := cX3_frameAt) (maxL := 3) (ret := (some .int)) (by decide) rfl ?_
  intro p e s m args below meth c s₁ B hml hv
  obtain ⟨ha, hsz, X, hw, hA, hr, hlk⟩ := g_start B hml hv
  have hx := X.1.1
  have hb := X.1.2.1
  have hown := X.1.2.2.2.1
  have hts := X.1.2.2.2.2
  refine g_in ha (Nat.le_of_ble_eq_true rfl) (fun ls hl => ?_)
  have hl : lv_has ls 3 [(0, .ref (q 3)), (1, .int x1), (2, .int x2)] := hl
  unfold wp_X3_frameAt at h
  have hinX3 : ∀ w ∈ wsX30, w ∈ wsX3_frameAt := fun _ h9 => (List.mem_cons_of_mem _ (List.mem_append_right _ h9))
  refine lv_aload_n hx hb dX3_frameAt_0 rfl (lv_at hl 0 rfl) ?_
  refine g_get 3 0 (v := .ref (q 41)) (C := RX3) (T := TX3) (N := 6) X hw (by decide) hinX3 rfl (by decide) (List.mem_cons_of_mem _ (List.mem_append_left _ (List.mem_of_getElem? (i := 0) rfl))) rfl dX3_frameAt_1 ?_
  refine lv_iload_n hx hb dX3_frameAt_4 rfl (lv_at hl 1 rfl) ?_
  obtain ⟨j5_0, bj5_0, ej5_0, h⟩ := h
  refine g_aald 41 40 j5_0 X hw ⟨by decide, by decide⟩ rfl bj5_0 ej5_0 (by decide) dX3_frameAt_5 ?_
  refine lv_iload_n hx hb dX3_frameAt_6 rfl (lv_at hl 2 rfl) ?_
  obtain ⟨j7_1, bj7_1, ej7_1, h⟩ := h
  refine g_iald (48 + j5_0) 12 j7_1 X hw (Or.inl ⟨by omega, by omega⟩) (gLen_12 (by omega) (by omega)) bj7_1 ej7_1 (by decide) dX3_frameAt_7 ?_
  exact g_iret X hw hr hlk h dX3_frameAt_8

abbrev rmJ13_bitCount_95d88 : Room := { frames := 0, cells := 0, slots := 0, locals := 0 }
def wp_J13_bitCount_95d88 (G : GS) (x0 : Int64) (post : Int32 → GS → Prop) : Prop :=
  ∀ y_1 : Int64, y_1 = x0 - (((Int64.toUInt64 x0 >>> (Int64.toUInt64 (Int32.toInt64 1) &&& Int64.toUInt64 63)).toInt64) &&& 6148914691236517205) → (∀ y_2 : Int64, y_2 = (y_1 &&& 3689348814741910323) + (((Int64.toUInt64 y_1 >>> (Int64.toUInt64 (Int32.toInt64 2) &&& Int64.toUInt64 63)).toInt64) &&& 3689348814741910323) → (∀ y_3 : Int64, y_3 = (y_2 + ((Int64.toUInt64 y_2 >>> (Int64.toUInt64 (Int32.toInt64 4) &&& Int64.toUInt64 63)).toInt64)) &&& 1085102592571150095 → (∀ y_4 : Int64, y_4 = y_3 + ((Int64.toUInt64 y_3 >>> (Int64.toUInt64 (Int32.toInt64 8) &&& Int64.toUInt64 63)).toInt64) → (∀ y_5 : Int64, y_5 = y_4 + ((Int64.toUInt64 y_4 >>> (Int64.toUInt64 (Int32.toInt64 16) &&& Int64.toUInt64 63)).toInt64) → (∀ y_6 : Int64, y_6 = y_5 + ((Int64.toUInt64 y_5 >>> (Int64.toUInt64 (Int32.toInt64 32) &&& Int64.toUInt64 63)).toInt64) → (post ((Int64.toInt32 y_6) &&& 127) G))))))
set_option maxHeartbeats 4000000 in
set_option maxRecDepth 100000 in
theorem m_J13_bitCount_95d88 (l : Launch) (D : va_G) (cy : Nat → ClassId) (q : Nat → Nat) (G : GS) (x0 : Int64) (post : Int32 → GS → Prop) (h : wp_J13_bitCount_95d88 G x0 post) : gMi l yJ13_bitCount_95d88 wsJ13_bitCount_95d88 rmJ13_bitCount_95d88 D cy q [.long x0] G post := by
  intro sz
  refine Met.ofW (cc := cJ13_bitCount_95d88) (maxL := 2) (ret := (some .int)) (by decide) rfl ?_
  intro p e s m args below meth c s₁ B hml hv
  obtain ⟨ha, hsz, X, hw, hA, hr, hlk⟩ := g_start B hml hv
  have hx := X.1.1
  have hb := X.1.2.1
  have hown := X.1.2.2.2.1
  have hts := X.1.2.2.2.2
  refine g_in ha (Nat.le_of_ble_eq_true rfl) (fun ls hl => ?_)
  have hl : lv_has ls 2 [(0, .long x0)] := hl
  unfold wp_J13_bitCount_95d88 at h
  refine lv_lload_n hx hb dJ13_bitCount_95d88_0 rfl (lv_at hl 0 rfl) ?_
  refine lv_lload_n hx hb dJ13_bitCount_95d88_1 rfl (lv_at hl 0 rfl) ?_
  refine lv_iconst (v := 1) hx hb dJ13_bitCount_95d88_2 (by decide) ?_
  refine lv_lushr (v := (Int64.toUInt64 x0 >>> (Int64.toUInt64 (Int32.toInt64 1) &&& Int64.toUInt64 63)).toInt64) hx hb dJ13_bitCount_95d88_3 rfl ?_
  refine lv_ldc2 (v := 6148914691236517205) hx hb hown (hts _ (List.mem_cons_of_mem _ (List.mem_of_getElem? (i := 0) rfl))) dJ13_bitCount_95d88_4 ?_
  refine lv_land hx hb dJ13_bitCount_95d88_7 ?_
  refine lv_lsub hx hb dJ13_bitCount_95d88_8 ?_
  refine lv_topl (fun y_1 ey_1 => ?_)
  have h := h y_1 ey_1
  refine lv_lstore_n (lv' := [(0, .long y_1)]) hx hb dJ13_bitCount_95d88_9 rfl hl (by decide) rfl (fun ls hl => ?_)
  refine lv_lload_n hx hb dJ13_bitCount_95d88_10 rfl (lv_at hl 0 rfl) ?_
  refine lv_ldc2 (v := 3689348814741910323) hx hb hown (hts _ (List.mem_cons_of_mem _ (List.mem_of_getElem? (i := 1) rfl))) dJ13_bitCount_95d88_11 ?_
  refine lv_land hx hb dJ13_bitCount_95d88_14 ?_
  refine lv_lload_n hx hb dJ13_bitCount_95d88_15 rfl (lv_at hl 0 rfl) ?_
  refine lv_iconst (v := 2) hx hb dJ13_bitCount_95d88_16 (by decide) ?_
  refine lv_lushr (v := (Int64.toUInt64 y_1 >>> (Int64.toUInt64 (Int32.toInt64 2) &&& Int64.toUInt64 63)).toInt64) hx hb dJ13_bitCount_95d88_17 rfl ?_
  refine lv_ldc2 (v := 3689348814741910323) hx hb hown (hts _ (List.mem_cons_of_mem _ (List.mem_of_getElem? (i := 1) rfl))) dJ13_bitCount_95d88_18 ?_
  refine lv_land hx hb dJ13_bitCount_95d88_21 ?_
  refine lv_ladd hx hb dJ13_bitCount_95d88_22 ?_
  refine lv_topl (fun y_2 ey_2 => ?_)
  have h := h y_2 ey_2
  refine lv_lstore_n (lv' := [(0, .long y_2)]) hx hb dJ13_bitCount_95d88_23 rfl hl (by decide) rfl (fun ls hl => ?_)
  refine lv_lload_n hx hb dJ13_bitCount_95d88_24 rfl (lv_at hl 0 rfl) ?_
  refine lv_lload_n hx hb dJ13_bitCount_95d88_25 rfl (lv_at hl 0 rfl) ?_
  refine lv_iconst (v := 4) hx hb dJ13_bitCount_95d88_26 (by decide) ?_
  refine lv_lushr (v := (Int64.toUInt64 y_2 >>> (Int64.toUInt64 (Int32.toInt64 4) &&& Int64.toUInt64 63)).toInt64) hx hb dJ13_bitCount_95d88_27 rfl ?_
  refine lv_ladd hx hb dJ13_bitCount_95d88_28 ?_
  refine lv_ldc2 (v := 1085102592571150095) hx hb hown (hts _ (List.mem_cons_of_mem _ (List.mem_of_getElem? (i := 2) rfl))) dJ13_bitCount_95d88_29 ?_
  refine lv_land hx hb dJ13_bitCount_95d88_32 ?_
  refine lv_topl (fun y_3 ey_3 => ?_)
  have h := h y_3 ey_3
  refine lv_lstore_n (lv' := [(0, .long y_3)]) hx hb dJ13_bitCount_95d88_33 rfl hl (by decide) rfl (fun ls hl => ?_)
  refine lv_lload_n hx hb dJ13_bitCount_95d88_34 rfl (lv_at hl 0 rfl) ?_
  refine lv_lload_n hx hb dJ13_bitCount_95d88_35 rfl (lv_at hl 0 rfl) ?_
  refine lv_bipush (v := 8) hx hb dJ13_bitCount_95d88_36 (by decide) ?_
  refine lv_lushr (v := (Int64.toUInt64 y_3 >>> (Int64.toUInt64 (Int32.toInt64 8) &&& Int64.toUInt64 63)).toInt64) hx hb dJ13_bitCount_95d88_38 rfl ?_
  refine lv_ladd hx hb dJ13_bitCount_95d88_39 ?_
  refine lv_topl (fun y_4 ey_4 => ?_)
  have h := h y_4 ey_4
  refine lv_lstore_n (lv' := [(0, .long y_4)]) hx hb dJ13_bitCount_95d88_40 rfl hl (by decide) rfl (fun ls hl => ?_)
  refine lv_lload_n hx hb dJ13_bitCount_95d88_41 rfl (lv_at hl 0 rfl) ?_
  refine lv_lload_n hx hb dJ13_bitCount_95d88_42 rfl (lv_at hl 0 rfl) ?_
  refine lv_bipush (v := 16) hx hb dJ13_bitCount_95d88_43 (by decide) ?_
  refine lv_lushr (v := (Int64.toUInt64 y_4 >>> (Int64.toUInt64 (Int32.toInt64 16) &&& Int64.toUInt64 63)).toInt64) hx hb dJ13_bitCount_95d88_45 rfl ?_
  refine lv_ladd hx hb dJ13_bitCount_95d88_46 ?_
  refine lv_topl (fun y_5 ey_5 => ?_)
  have h := h y_5 ey_5
  refine lv_lstore_n (lv' := [(0, .long y_5)]) hx hb dJ13_bitCount_95d88_47 rfl hl (by decide) rfl (fun ls hl => ?_)
  refine lv_lload_n hx hb dJ13_bitCount_95d88_48 rfl (lv_at hl 0 rfl) ?_
  refine lv_lload_n hx hb dJ13_bitCount_95d88_49 rfl (lv_at hl 0 rfl) ?_
  refine lv_bipush (v := 32) hx hb dJ13_bitCount_95d88_50 (by decide) ?_
  refine lv_lushr (v := (Int64.toUInt64 y_5 >>> (Int64.toUInt64 (Int32.toInt64 32) &&& Int64.toUInt64 63)).toInt64) hx hb dJ13_bitCount_95d88_52 rfl ?_
  refine lv_ladd hx hb dJ13_bitCount_95d88_53 ?_
  refine lv_topl (fun y_6 ey_6 => ?_)
  have h := h y_6 ey_6
  refine lv_lstore_n (lv' := [(0, .long y_6)]) hx hb dJ13_bitCount_95d88_54 rfl hl (by decide) rfl (fun ls hl => ?_)
  refine lv_lload_n hx hb dJ13_bitCount_95d88_55 rfl (lv_at hl 0 rfl) ?_
  refine lv_l2i (v := Int64.toInt32 y_6) hx hb dJ13_bitCount_95d88_56 rfl ?_
  refine lv_bipush (v := 127) hx hb dJ13_bitCount_95d88_57 (by decide) ?_
  refine lv_iand hx hb dJ13_bitCount_95d88_59 ?_
  exact g_iret X hw hr hlk h dJ13_bitCount_95d88_60

abbrev rmX3_isCommon : Room := { frames := 1, cells := 0, slots := 0, locals := 21 }
def wp_X3_isCommon (G : GS) (x1 : Int32) (post : Int32 → GS → Prop) : Prop :=
  (x1 ≤ 0 → (post 0 G)) ∧ (¬ (x1 ≤ 0) → ((500 < x1 → (post 0 G)) ∧ (¬ (500 < x1) → ((5 ≤ (G.1 3 5) → (∃ j27_3 : Nat, j27_3 < 501 ∧ x1 = nI j27_3 ∧ (wp_J13_bitCount_95d88 G (G.2 38 j27_3) (fun r_6 G_5 => ((5 * r_6) < (4 * (G_5.1 3 5)) → (post 0 G_5)) ∧ (¬ ((5 * r_6) < (4 * (G_5.1 3 5))) → (post 1 G_5)))))) ∧ (¬ (5 ≤ (G.1 3 5)) → (post 0 G))))))
set_option maxHeartbeats 4000000 in
set_option maxRecDepth 100000 in
theorem m_X3_isCommon (l : Launch) (D : va_G) (cy : Nat → ClassId) (q : Nat → Nat) (G : GS) (x1 : Int32) (post : Int32 → GS → Prop) (h : wp_X3_isCommon G x1 post) : gMi l yX3_isCommon wsX3_isCommon rmX3_isCommon D cy q [.ref (q 3), .int x1] G post := by
  intro sz
  refine Met.ofW (cc := cX3_isCommon) (maxL := 2) (ret := (some .boolean)) (by decide) rfl ?_
  intro p e s m args below meth c s₁ B hml hv
  obtain ⟨ha, hsz, X, hw, hA, hr, hlk⟩ := g_start B hml hv
  have hx := X.1.1
  have hb := X.1.2.1
  have hown := X.1.2.2.2.1
  have hts := X.1.2.2.2.2
  refine g_in ha (Nat.le_of_ble_eq_true rfl) (fun ls hl => ?_)
  have hl : lv_has ls 2 [(0, .ref (q 3)), (1, .int x1)] := hl
  unfold wp_X3_isCommon at h
  have hinX3 : ∀ w ∈ wsX30, w ∈ wsX3_isCommon := fun _ h9 => (List.mem_cons_of_mem _ (List.mem_append_right _ h9))
  refine lv_iload_n hx hb dX3_isCommon_0 rfl (lv_at hl 1 rfl) ?_
  refine lv_if_le (tgt := 19) hx hb dX3_isCommon_1 (by decide) (fun c1_0 => ?_) (fun c1_0 => ?_)
  · have h := h.1 c1_0
    refine lv_iconst (v := 0) hx hb dX3_isCommon_19 (by decide) ?_
    exact g_zret X hw hr hlk (by decide) h dX3_isCommon_20
  · have h := h.2 c1_0
    refine lv_iload_n hx hb dX3_isCommon_4 rfl (lv_at hl 1 rfl) ?_
    refine lv_sipush (v := 500) hx hb dX3_isCommon_5 (by decide) ?_
    refine lv_icmp_gt (tgt := 19) hx hb dX3_isCommon_8 (by decide) (fun c8_1 => ?_) (fun c8_1 => ?_)
    · have h := h.1 c8_1
      refine lv_iconst (v := 0) hx hb dX3_isCommon_19 (by decide) ?_
      exact g_zret X hw hr hlk (by decide) h dX3_isCommon_20
    · have h := h.2 c8_1
      refine lv_aload_n hx hb dX3_isCommon_11 rfl (lv_at hl 0 rfl) ?_
      refine g_get 3 5 (v := .int (G.1 3 5)) (C := RX3) (T := TX3) (N := 6) X hw (by decide) hinX3 rfl (by decide) (List.mem_cons_of_mem _ (List.mem_append_left _ (List.mem_of_getElem? (i := 0) rfl))) rfl dX3_isCommon_12 ?_
      refine lv_iconst (v := 5) hx hb dX3_isCommon_15 (by decide) ?_
      refine lv_icmp_ge (tgt := 21) hx hb dX3_isCommon_16 (by decide) (fun c16_2 => ?_) (fun c16_2 => ?_)
      · have h := h.1 c16_2
        refine lv_iconst (v := 5) hx hb dX3_isCommon_21 (by decide) ?_
        refine lv_aload_n hx hb dX3_isCommon_22 rfl (lv_at hl 0 rfl) ?_
        refine g_get 3 4 (v := .ref (q 38)) (C := RX3) (T := TX3) (N := 6) X hw (by decide) hinX3 rfl (by decide) (List.mem_cons_of_mem _ (List.mem_append_left _ (List.mem_of_getElem? (i := 1) rfl))) rfl dX3_isCommon_23 ?_
        refine lv_iload_n hx hb dX3_isCommon_26 rfl (lv_at hl 1 rfl) ?_
        obtain ⟨j27_3, bj27_3, ej27_3, h⟩ := h
        refine g_lald 38 501 j27_3 X hw ⟨by decide, by decide⟩ rfl bj27_3 ej27_3 (by decide) dX3_isCommon_27 ?_
        refine g_callSi (As := [.long (G.2 38 j27_3)]) (rest := [.int 5]) X hw hA (m_J13_bitCount_95d88 l D cy q G (G.2 38 j27_3) _ h) (va_cwS 1 hts gX3_isCommon_J13_bitCount_95d88 rfl rfl rfl (by decide +kernel) ⟨Nat.le_of_ble_eq_true rfl, Nat.le_of_ble_eq_true rfl⟩) rfl hl.1 rfl (Nat.le_of_ble_eq_true rfl) dX3_isCommon_28 ⟨Nat.zero_le _, Nat.zero_le _⟩ (fun r_6 G_5 H locs h hw => ?_)
        refine lv_imul hx hb dX3_isCommon_31 ?_
        refine lv_iconst (v := 4) hx hb dX3_isCommon_32 (by decide) ?_
        refine lv_aload_n hx hb dX3_isCommon_33 rfl (lv_at hl 0 rfl) ?_
        refine g_get 3 5 (v := .int (G_5.1 3 5)) (C := RX3) (T := TX3) (N := 6) X hw (by decide) hinX3 rfl (by decide) (List.mem_cons_of_mem _ (List.mem_append_left _ (List.mem_of_getElem? (i := 0) rfl))) rfl dX3_isCommon_34 ?_
        refine lv_imul hx hb dX3_isCommon_37 ?_
        refine lv_icmp_lt (tgt := 45) hx hb dX3_isCommon_38 (by decide) (fun c38_6 => ?_) (fun c38_6 => ?_)
        · have h := h.1 c38_6
          refine lv_iconst (v := 0) hx hb dX3_isCommon_45 (by decide) ?_
          exact g_zret X hw hr hlk (by decide) h dX3_isCommon_46
        · have h := h.2 c38_6
          refine lv_iconst (v := 1) hx hb dX3_isCommon_41 (by decide) ?_
          refine lv_goto (tgt := 46) hx hb dX3_isCommon_42 (by decide) ?_
          exact g_zret X hw hr hlk (by decide) h dX3_isCommon_46
      · have h := h.2 c16_2
        refine lv_iconst (v := 0) hx hb dX3_isCommon_19 (by decide) ?_
        exact g_zret X hw hr hlk (by decide) h dX3_isCommon_20

abbrev rmJ7_fill_53178 : Room := { frames := 0, cells := 0, slots := 0, locals := 0 }
def wp_J7_fill_53178 (G : GS) (x0 : Nat) (x1 : Int32) (post : GS → Prop) : Prop :=
  gI x0 ∧ (∀ y_1 : Int32, y_1 = nI (gLen x0) → (∃ I5_2 : Nat → Int32 → GS → Prop, (∃ n_2 : Nat, I5_2 n_2 0 G) ∧ ∀ (n_2 : Nat) (v2_2 : Int32) (G_2 : GS), I5_2 n_2 v2_2 G_2 → ((y_1 ≤ v2_2 → (post G_2)) ∧ (¬ (y_1 ≤ v2_2) → (∃ j13_3 : Nat, j13_3 < (gLen x0) ∧ v2_2 = nI j13_3 ∧ (∀ G_5 : GS, G_5 = sI G_2 x0 j13_3 x1 → (∃ k_7 : Nat, k_7 < n_2 ∧ I5_2 k_7 (v2_2 + 1) G_5)))))))
set_option maxHeartbeats 4000000 in
set_option maxRecDepth 100000 in
theorem m_J7_fill_53178 (l : Launch) (D : va_G) (cy : Nat → ClassId) (q : Nat → Nat) (G : GS) (x0 : Nat) (x1 : Int32) (post : GS → Prop) (h : wp_J7_fill_53178 G x0 x1 post) : gMv l yJ7_fill_53178 wsJ7_fill_53178 rmJ7_fill_53178 D cy q [.ref (q x0), .int x1] G post := by
  intro sz
  refine Met.ofW (cc := cJ7_fill_53178) (maxL := 4) (ret := none) (by decide) rfl ?_
  intro p e s m args below meth c s₁ B hml hv
  obtain ⟨ha, hsz, X, hw, hA, hr, hlk⟩ := g_start B hml hv
  have hx := X.1.1
  have hb := X.1.2.1
  have hown := X.1.2.2.2.1
  have hts := X.1.2.2.2.2
  refine g_in ha (Nat.le_of_ble_eq_true rfl) (fun ls hl => ?_)
  have hl : lv_has ls 4 [(0, .ref (q x0)), (1, .int x1)] := hl
  unfold wp_J7_fill_53178 at h
  obtain ⟨hIx0, h⟩ := h
  refine lv_iconst (v := 0) hx hb dJ7_fill_53178_0 (by decide) ?_
  refine lv_istore_n (lv' := [(2, .int 0), (0, .ref (q x0)), (1, .int x1)]) hx hb dJ7_fill_53178_1 rfl hl (by decide) rfl (fun ls hl => ?_)
  refine lv_aload_n hx hb dJ7_fill_53178_2 rfl (lv_at hl 1 rfl) ?_
  refine g_alen x0 (gLen x0) (v := nI (gLen x0)) X hw hIx0 rfl rfl dJ7_fill_53178_3 ?_
  refine lv_topi (fun y_1 ey_1 => ?_)
  have h := h y_1 ey_1
  refine lv_istore_n (lv' := [(3, .int y_1), (2, .int 0), (0, .ref (q x0)), (1, .int x1)]) hx hb dJ7_fill_53178_4 rfl hl (by decide) rfl (fun ls hl => ?_)
  obtain ⟨I5_2, ⟨n_2, h0⟩, hI5_2⟩ := h
  have LI5_2 : ∀ (n_2 : Nat) (v2_2 : Int32) (G_2 : GS) (H : Heap) (locs : List Loc) (ls : Array Slot), gH D cy q (gA q sz) s.heap G_2 H locs → lv_has ls 4 [(0, .ref (q x0)), (1, .int x1), (2, .int v2_2), (3, .int y_1)] → I5_2 n_2 v2_2 G_2 → W p l e (headSpec wsJ7_fill_53178 rmJ7_fill_53178).room s m args below meth c H locs 0 0 (MQ below (va_Qv post (gPo D cy q sz) (gA q sz)) args s 0 0 (gA q sz)) (F0 m 5 ls []) := by
    intro n_2
    induction n_2 using Nat.strongRecOn with
    | ind n_2 ihI5_2 =>
      intro v2_2 G_2 H locs ls hw hl h
      have h := hI5_2 n_2 v2_2 G_2 h
      refine lv_iload_n hx hb dJ7_fill_53178_5 rfl (lv_at hl 2 rfl) ?_
      refine lv_iload_n hx hb dJ7_fill_53178_6 rfl (lv_at hl 3 rfl) ?_
      refine lv_icmp_ge (tgt := 20) hx hb dJ7_fill_53178_7 (by decide) (fun c7_2 => ?_) (fun c7_2 => ?_)
      · have h := h.1 c7_2
        exact g_vret X hw hr hlk h dJ7_fill_53178_20
      · have h := h.2 c7_2
        refine lv_aload_n hx hb dJ7_fill_53178_10 rfl (lv_at hl 0 rfl) ?_
        refine lv_iload_n hx hb dJ7_fill_53178_11 rfl (lv_at hl 2 rfl) ?_
        refine lv_iload_n hx hb dJ7_fill_53178_12 rfl (lv_at hl 1 rfl) ?_
        obtain ⟨j13_3, bj13_3, ej13_3, h⟩ := h
        refine g_iast x0 (gLen x0) j13_3 X hw hIx0 rfl bj13_3 ej13_3 (gLen_31 _) dJ7_fill_53178_13 (fun H locs hw => ?_)
        obtain ⟨G_5, eG_5⟩ : ∃ z, z = sI G_2 x0 j13_3 x1 := ⟨_, rfl⟩
        rw [← eG_5] at hw
        have h := h G_5 eG_5
        refine lv_iinc (v := v2_2 + 1) (lv' := [(2, .int (v2_2 + 1)), (0, .ref (q x0)), (1, .int x1), (3, .int y_1)]) hx hb dJ7_fill_53178_14 hl (k := 2) rfl rfl (by decide) rfl (fun ls hl => ?_)
        refine lv_goto (tgt := 5) hx hb dJ7_fill_53178_17 (by decide) ?_
        obtain ⟨k_7, hm, h⟩ := h
        exact ihI5_2 k_7 hm (v2_2 + 1) G_5 _ _ ls hw (lv_sub hl [1, 2, 0, 3] rfl) h
  exact LI5_2 n_2 0 G _ _ ls hw (lv_sub hl [2, 3, 1, 0] rfl) h0

abbrev rmX3_holdersOf : Room := { frames := 0, cells := 0, slots := 0, locals := 0 }
def wp_X3_holdersOf (G : GS) (x1 : Int32) (post : Int64 → GS → Prop) : Prop :=
  ∃ j5_0 : Nat, j5_0 < 501 ∧ x1 = nI j5_0 ∧ (post (G.2 38 j5_0) G)
set_option maxHeartbeats 4000000 in
set_option maxRecDepth 100000 in
theorem m_X3_holdersOf (l : Launch) (D : va_G) (cy : Nat → ClassId) (q : Nat → Nat) (G : GS) (x1 : Int32) (post : Int64 → GS → Prop) (h : wp_X3_holdersOf G x1 post) : gMl l yX3_holdersOf wsX3_holdersOf rmX3_holdersOf D cy q [.ref (q 3), .int x1] G post := by
  intro sz
  refine Met.ofW (cc := cX3_holdersOf) (maxL := 2) (ret := (some .long)) (by decide) rfl ?_
  intro p e s m args below meth c s₁ B hml hv
  obtain ⟨ha, hsz, X, hw, hA, hr, hlk⟩ := g_start B hml hv
  have hx := X.1.1
  have hb := X.1.2.1
  have hown := X.1.2.2.2.1
  have hts := X.1.2.2.2.2
  refine g_in ha (Nat.le_of_ble_eq_true rfl) (fun ls hl => ?_)
  have hl : lv_has ls 2 [(0, .ref (q 3)), (1, .int x1)] := hl
  unfold wp_X3_holdersOf at h
  have hinX3 : ∀ w ∈ wsX30, w ∈ wsX3_holdersOf := fun _ h9 => (List.mem_cons_of_mem _ (List.mem_append_right _ h9))
  refine lv_aload_n hx hb dX3_holdersOf_0 rfl (lv_at hl 0 rfl) ?_
  refine g_get 3 4 (v := .ref (q 38)) (C := RX3) (T := TX3) (N := 6) X hw (by decide) hinX3 rfl (by decide) (List.mem_cons_of_mem _ (List.mem_append_left _ (List.mem_of_getElem? (i := 0) rfl))) rfl dX3_holdersOf_1 ?_
  refine lv_iload_n hx hb dX3_holdersOf_4 rfl (lv_at hl 1 rfl) ?_
  obtain ⟨j5_0, bj5_0, ej5_0, h⟩ := h
  refine g_lald 38 501 j5_0 X hw ⟨by decide, by decide⟩ rfl bj5_0 ej5_0 (by decide) dX3_holdersOf_5 ?_
  exact g_lret X hw hr hlk h dX3_holdersOf_6

abbrev rmX3_has : Room := { frames := 0, cells := 0, slots := 0, locals := 0 }
def wp_X3_has (G : GS) (x1 : Int32) (post : Int32 → GS → Prop) : Prop :=
  (x1 < 0 → (post 0 G)) ∧ (¬ (x1 < 0) → (((G.1 3 5) ≤ x1 → (post 0 G)) ∧ (¬ ((G.1 3 5) ≤ x1) → (post 1 G))))
set_option maxHeartbeats 4000000 in
set_option maxRecDepth 100000 in
theorem m_X3_has (l : Launch) (D : va_G) (cy : Nat → ClassId) (q : Nat → Nat) (G : GS) (x1 : Int32) (post : Int32 → GS → Prop) (h : wp_X3_has G x1 post) : gMi l yX3_has wsX3_has rmX3_has D cy q [.ref (q 3), .int x1] G post := by
  intro sz
  refine Met.ofW (cc := cX3_has) (maxL := 2) (ret := (some .boolean)) (by decide) rfl ?_
  intro p e s m args below meth c s₁ B hml hv
  obtain ⟨ha, hsz, X, hw, hA, hr, hlk⟩ := g_start B hml hv
  have hx := X.1.1
  have hb := X.1.2.1
  have hown := X.1.2.2.2.1
  have hts := X.1.2.2.2.2
  refine g_in ha (Nat.le_of_ble_eq_true rfl) (fun ls hl => ?_)
  have hl : lv_has ls 2 [(0, .ref (q 3)), (1, .int x1)] := hl
  unfold wp_X3_has at h
  have hinX3 : ∀ w ∈ wsX30, w ∈ wsX3_has := fun _ h9 => (List.mem_cons_of_mem _ (List.mem_append_right _ h9))
  refine lv_iload_n hx hb dX3_has_0 rfl (lv_at hl 1 rfl) ?_
  refine lv_if_lt (tgt := 16) hx hb dX3_has_1 (by decide) (fun c1_0 => ?_) (fun c1_0 => ?_)
  · have h := h.1 c1_0
    refine lv_iconst (v := 0) hx hb dX3_has_16 (by decide) ?_
    exact g_zret X hw hr hlk (by decide) h dX3_has_17
  · have h := h.2 c1_0
    refine lv_iload_n hx hb dX3_has_4 rfl (lv_at hl 1 rfl) ?_
    refine lv_aload_n hx hb dX3_has_5 rfl (lv_at hl 0 rfl) ?_
    refine g_get 3 5 (v := .int (G.1 3 5)) (C := RX3) (T := TX3) (N := 6) X hw (by decide) hinX3 rfl (by decide) (List.mem_cons_of_mem _ (List.mem_append_left _ (List.mem_of_getElem? (i := 0) rfl))) rfl dX3_has_6 ?_
    refine lv_icmp_ge (tgt := 16) hx hb dX3_has_9 (by decide) (fun c9_1 => ?_) (fun c9_1 => ?_)
    · have h := h.1 c9_1
      refine lv_iconst (v := 0) hx hb dX3_has_16 (by decide) ?_
      exact g_zret X hw hr hlk (by decide) h dX3_has_17
    · have h := h.2 c9_1
      refine lv_iconst (v := 1) hx hb dX3_has_12 (by decide) ?_
      refine lv_goto (tgt := 17) hx hb dX3_has_13 (by decide) ?_
      exact g_zret X hw hr hlk (by decide) h dX3_has_17

abbrev rmX3_hasTwo : Room := { frames := 1, cells := 0, slots := 0, locals := 21 }
def wp_X3_hasTwo (G : GS) (x1 : Int32) (x2 : Int32) (post : Int32 → GS → Prop) : Prop :=
  wp_X3_has G x1 (fun r_2 G_1 => (r_2 = 0 → (post 0 G_1)) ∧ (¬ (r_2 = 0) → (wp_X3_has G_1 x2 (fun r_5 G_4 => (r_5 = 0 → (post 0 G_4)) ∧ (¬ (r_5 = 0) → ((x1 = x2 → (post 0 G_4)) ∧ (¬ (x1 = x2) → (post 1 G_4))))))))
set_option maxHeartbeats 4000000 in
set_option maxRecDepth 100000 in
theorem m_X3_hasTwo (l : Launch) (D : va_G) (cy : Nat → ClassId) (q : Nat → Nat) (G : GS) (x1 : Int32) (x2 : Int32) (post : Int32 → GS → Prop) (h : wp_X3_hasTwo G x1 x2 post) : gMi l yX3_hasTwo wsX3_hasTwo rmX3_hasTwo D cy q [.ref (q 3), .int x1, .int x2] G post := by
  intro sz
  refine Met.ofW (cc := cX3_hasTwo) (maxL := 3) (ret := (some .boolean)) (by decide) rfl ?_
  intro p e s m args below meth c s₁ B hml hv
  obtain ⟨ha, hsz, X, hw, hA, hr, hlk⟩ := g_start B hml hv
  have hx := X.1.1
  have hb := X.1.2.1
  have hown := X.1.2.2.2.1
  have hts := X.1.2.2.2.2
  refine g_in ha (Nat.le_of_ble_eq_true rfl) (fun ls hl => ?_)
  have hl : lv_has ls 3 [(0, .ref (q 3)), (1, .int x1), (2, .int x2)] := hl
  unfold wp_X3_hasTwo at h
  refine lv_aload_n hx hb dX3_hasTwo_0 rfl (lv_at hl 0 rfl) ?_
  refine lv_iload_n hx hb dX3_hasTwo_1 rfl (lv_at hl 1 rfl) ?_
  refine g_callVi 3 (C := RX3) (T := TX3) (N := 6) (As := [.int x1]) (rest := []) X hw hA (m_X3_has l D cy q G x1 _ h) (by decide) rfl (cwV 1 hts gX3_hasTwo_X3_has rfl rfl rfl (by decide +kernel) ⟨Nat.le_of_ble_eq_true rfl, Nat.le_of_ble_eq_true rfl⟩) rfl hl.1 rfl (Nat.le_of_ble_eq_true rfl) dX3_hasTwo_2 ⟨Nat.zero_le _, Nat.zero_le _⟩ (fun r_2 G_1 H locs h hw => ?_)
  refine lv_if_eq (tgt := 25) hx hb dX3_hasTwo_5 (by decide) (fun c5_2 => ?_) (fun c5_2 => ?_)
  · have h := h.1 c5_2
    refine lv_iconst (v := 0) hx hb dX3_hasTwo_25 (by decide) ?_
    exact g_zret X hw hr hlk (by decide) h dX3_hasTwo_26
  · have h := h.2 c5_2
    refine lv_aload_n hx hb dX3_hasTwo_8 rfl (lv_at hl 0 rfl) ?_
    refine lv_iload_n hx hb dX3_hasTwo_9 rfl (lv_at hl 2 rfl) ?_
    refine g_callVi 3 (C := RX3) (T := TX3) (N := 6) (As := [.int x2]) (rest := []) X hw hA (m_X3_has l D cy q G_1 x2 _ h) (by decide) rfl (cwV 1 hts gX3_hasTwo_X3_has rfl rfl rfl (by decide +kernel) ⟨Nat.le_of_ble_eq_true rfl, Nat.le_of_ble_eq_true rfl⟩) rfl hl.1 rfl (Nat.le_of_ble_eq_true rfl) dX3_hasTwo_10 ⟨Nat.zero_le _, Nat.zero_le _⟩ (fun r_5 G_4 H locs h hw => ?_)
    refine lv_if_eq (tgt := 25) hx hb dX3_hasTwo_13 (by decide) (fun c13_5 => ?_) (fun c13_5 => ?_)
    · have h := h.1 c13_5
      refine lv_iconst (v := 0) hx hb dX3_hasTwo_25 (by decide) ?_
      exact g_zret X hw hr hlk (by decide) h dX3_hasTwo_26
    · have h := h.2 c13_5
      refine lv_iload_n hx hb dX3_hasTwo_16 rfl (lv_at hl 1 rfl) ?_
      refine lv_iload_n hx hb dX3_hasTwo_17 rfl (lv_at hl 2 rfl) ?_
      refine lv_icmp_eq (tgt := 25) hx hb dX3_hasTwo_18 (by decide) (fun c18_6 => ?_) (fun c18_6 => ?_)
      · have h := h.1 c18_6
        refine lv_iconst (v := 0) hx hb dX3_hasTwo_25 (by decide) ?_
        exact g_zret X hw hr hlk (by decide) h dX3_hasTwo_26
      · have h := h.2 c18_6
        refine lv_iconst (v := 1) hx hb dX3_hasTwo_21 (by decide) ?_
        refine lv_goto (tgt := 26) hx hb dX3_hasTwo_22 (by decide) ?_
        exact g_zret X hw hr hlk (by decide) h dX3_hasTwo_26

abbrev rmX3_hasFrame : Room := { frames := 1, cells := 0, slots := 0, locals := 21 }
def wp_X3_hasFrame (G : GS) (x1 : Int32) (x2 : Int32) (post : Int32 → GS → Prop) : Prop :=
  wp_X3_has G x1 (fun r_2 G_1 => (r_2 = 0 → (post 0 G_1)) ∧ (¬ (r_2 = 0) → ((x2 < 0 → (post 0 G_1)) ∧ (¬ (x2 < 0) → (∃ j18_4 : Nat, j18_4 < 40 ∧ x1 = nI j18_4 ∧ (((G_1.1 10 j18_4) ≤ x2 → (post 0 G_1)) ∧ (¬ ((G_1.1 10 j18_4) ≤ x2) → (post 1 G_1))))))))
set_option maxHeartbeats 4000000 in
set_option maxRecDepth 100000 in
theorem m_X3_hasFrame (l : Launch) (D : va_G) (cy : Nat → ClassId) (q : Nat → Nat) (G : GS) (x1 : Int32) (x2 : Int32) (post : Int32 → GS → Prop) (h : wp_X3_hasFrame G x1 x2 post) : gMi l yX3_hasFrame wsX3_hasFrame rmX3_hasFrame D cy q [.ref (q 3), .int x1, .int x2] G post := by
  intro sz
  refine Met.ofW (cc := cX3_hasFrame) (maxL := 3) (ret := (some .boolean)) (by decide) rfl ?_
  intro p e s m args below meth c s₁ B hml hv
  obtain ⟨ha, hsz, X, hw, hA, hr, hlk⟩ := g_start B hml hv
  have hx := X.1.1
  have hb := X.1.2.1
  have hown := X.1.2.2.2.1
  have hts := X.1.2.2.2.2
  refine g_in ha (Nat.le_of_ble_eq_true rfl) (fun ls hl => ?_)
  have hl : lv_has ls 3 [(0, .ref (q 3)), (1, .int x1), (2, .int x2)] := hl
  unfold wp_X3_hasFrame at h
  have hinX3 : ∀ w ∈ wsX30, w ∈ wsX3_hasFrame := fun _ h9 => (List.mem_cons_of_mem _ (List.mem_append_right _ h9))
  refine lv_aload_n hx hb dX3_hasFrame_0 rfl (lv_at hl 0 rfl) ?_
  refine lv_iload_n hx hb dX3_hasFrame_1 rfl (lv_at hl 1 rfl) ?_
  refine g_callVi 3 (C := RX3) (T := TX3) (N := 6) (As := [.int x1]) (rest := []) X hw hA (m_X3_has l D cy q G x1 _ h) (by decide) rfl (cwV 1 hts gX3_hasFrame_X3_has rfl rfl rfl (by decide +kernel) ⟨Nat.le_of_ble_eq_true rfl, Nat.le_of_ble_eq_true rfl⟩) rfl hl.1 rfl (Nat.le_of_ble_eq_true rfl) dX3_hasFrame_2 ⟨Nat.zero_le _, Nat.zero_le _⟩ (fun r_2 G_1 H locs h hw => ?_)
  refine lv_if_eq (tgt := 26) hx hb dX3_hasFrame_5 (by decide) (fun c5_2 => ?_) (fun c5_2 => ?_)
  · have h := h.1 c5_2
    refine lv_iconst (v := 0) hx hb dX3_hasFrame_26 (by decide) ?_
    exact g_zret X hw hr hlk (by decide) h dX3_hasFrame_27
  · have h := h.2 c5_2
    refine lv_iload_n hx hb dX3_hasFrame_8 rfl (lv_at hl 2 rfl) ?_
    refine lv_if_lt (tgt := 26) hx hb dX3_hasFrame_9 (by decide) (fun c9_3 => ?_) (fun c9_3 => ?_)
    · have h := h.1 c9_3
      refine lv_iconst (v := 0) hx hb dX3_hasFrame_26 (by decide) ?_
      exact g_zret X hw hr hlk (by decide) h dX3_hasFrame_27
    · have h := h.2 c9_3
      refine lv_iload_n hx hb dX3_hasFrame_12 rfl (lv_at hl 2 rfl) ?_
      refine lv_aload_n hx hb dX3_hasFrame_13 rfl (lv_at hl 0 rfl) ?_
      refine g_get 3 1 (v := .ref (q 10)) (C := RX3) (T := TX3) (N := 6) X hw (by decide) hinX3 rfl (by decide) (List.mem_cons_of_mem _ (List.mem_append_left _ (List.mem_of_getElem? (i := 0) rfl))) rfl dX3_hasFrame_14 ?_
      refine lv_iload_n hx hb dX3_hasFrame_17 rfl (lv_at hl 1 rfl) ?_
      obtain ⟨j18_4, bj18_4, ej18_4, h⟩ := h
      refine g_iald 10 40 j18_4 X hw (Or.inr ⟨by decide, by decide⟩) rfl bj18_4 ej18_4 (by decide) dX3_hasFrame_18 ?_
      refine lv_icmp_ge (tgt := 26) hx hb dX3_hasFrame_19 (by decide) (fun c19_5 => ?_) (fun c19_5 => ?_)
      · have h := h.1 c19_5
        refine lv_iconst (v := 0) hx hb dX3_hasFrame_26 (by decide) ?_
        exact g_zret X hw hr hlk (by decide) h dX3_hasFrame_27
      · have h := h.2 c19_5
        refine lv_iconst (v := 1) hx hb dX3_hasFrame_22 (by decide) ?_
        refine lv_goto (tgt := 27) hx hb dX3_hasFrame_23 (by decide) ?_
        exact g_zret X hw hr hlk (by decide) h dX3_hasFrame_27

abbrev rmX3_isFull : Room := { frames := 0, cells := 0, slots := 0, locals := 0 }
def wp_X3_isFull (G : GS)  (post : Int32 → GS → Prop) : Prop :=
  ((G.1 3 5) < 40 → (post 0 G)) ∧ (¬ ((G.1 3 5) < 40) → (post 1 G))
set_option maxHeartbeats 4000000 in
set_option maxRecDepth 100000 in
theorem m_X3_isFull (l : Launch) (D : va_G) (cy : Nat → ClassId) (q : Nat → Nat) (G : GS)  (post : Int32 → GS → Prop) (h : wp_X3_isFull G  post) : gMi l yX3_isFull wsX3_isFull rmX3_isFull D cy q [.ref (q 3)] G post := by
  intro sz
  refine Met.ofW (cc := cX3_isFull) (maxL := 1) (ret := (some .boolean)) (by decide) rfl ?_
  intro p e s m args below meth c s₁ B hml hv
  obtain ⟨ha, hsz, X, hw, hA, hr, hlk⟩ := g_start B hml hv
  have hx := X.1.1
  have hb := X.1.2.1
  have hown := X.1.2.2.2.1
  have hts := X.1.2.2.2.2
  refine g_in ha (Nat.le_of_ble_eq_true rfl) (fun ls hl => ?_)
  have hl : lv_has ls 1 [(0, .ref (q 3))] := hl
  unfold wp_X3_isFull at h
  have hinX3 : ∀ w ∈ wsX30, w ∈ wsX3_isFull := fun _ h9 => (List.mem_cons_of_mem _ (List.mem_append_right _ h9))
  refine lv_aload_n hx hb dX3_isFull_0 rfl (lv_at hl 0 rfl) ?_
  refine g_get 3 5 (v := .int (G.1 3 5)) (C := RX3) (T := TX3) (N := 6) X hw (by decide) hinX3 rfl (by decide) (List.mem_cons_of_mem _ (List.mem_append_left _ (List.mem_of_getElem? (i := 0) rfl))) rfl dX3_isFull_1 ?_
  refine lv_bipush (v := 40) hx hb dX3_isFull_4 (by decide) ?_
  refine lv_icmp_lt (tgt := 13) hx hb dX3_isFull_6 (by decide) (fun c6_0 => ?_) (fun c6_0 => ?_)
  · have h := h.1 c6_0
    refine lv_iconst (v := 0) hx hb dX3_isFull_13 (by decide) ?_
    exact g_zret X hw hr hlk (by decide) h dX3_isFull_14
  · have h := h.2 c6_0
    refine lv_iconst (v := 1) hx hb dX3_isFull_9 (by decide) ?_
    refine lv_goto (tgt := 14) hx hb dX3_isFull_10 (by decide) ?_
    exact g_zret X hw hr hlk (by decide) h dX3_isFull_14

abbrev rmX4_howMany : Room := { frames := 0, cells := 0, slots := 0, locals := 0 }
def wp_X4_howMany (G : GS)  (post : Int32 → GS → Prop) : Prop :=
  post (G.1 1 1) G
set_option maxHeartbeats 4000000 in
set_option maxRecDepth 100000 in
theorem m_X4_howMany (l : Launch) (D : va_G) (cy : Nat → ClassId) (q : Nat → Nat) (G : GS)  (post : Int32 → GS → Prop) (h : wp_X4_howMany G  post) : gMi l yX4_howMany wsX4_howMany rmX4_howMany D cy q [.ref (q 1)] G post := by
  intro sz
  refine Met.ofW (cc := cX4_howMany) (maxL := 1) (ret := (some .int)) (by decide) rfl ?_
  intro p e s m args below meth c s₁ B hml hv
  obtain ⟨ha, hsz, X, hw, hA, hr, hlk⟩ := g_start B hml hv
  have hx := X.1.1
  have hb := X.1.2.1
  have hown := X.1.2.2.2.1
  have hts := X.1.2.2.2.2
  refine g_in ha (Nat.le_of_ble_eq_true rfl) (fun ls hl => ?_)
  have hl : lv_has ls 1 [(0, .ref (q 1))] := hl
  unfold wp_X4_howMany at h
  have hinX4 : ∀ w ∈ wsX40, w ∈ wsX4_howMany := fun _ h9 => (List.mem_cons_of_mem _ (List.mem_append_right _ h9))
  refine lv_aload_n hx hb dX4_howMany_0 rfl (lv_at hl 0 rfl) ?_
  refine g_get 1 1 (v := .int (G.1 1 1)) (C := RX4) (T := TX4) (N := 2) X hw (by decide) hinX4 rfl (by decide) (List.mem_cons_of_mem _ (List.mem_append_left _ (List.mem_of_getElem? (i := 0) rfl))) rfl dX4_howMany_1 ?_
  exact g_iret X hw hr hlk h dX4_howMany_4

abbrev rmX4_at : Room := { frames := 0, cells := 0, slots := 0, locals := 0 }
def wp_X4_at (G : GS) (x1 : Int32) (post : Int32 → GS → Prop) : Prop :=
  ∃ j5_0 : Nat, j5_0 < 12 ∧ x1 = nI j5_0 ∧ (post (G.1 8 j5_0) G)
set_option maxHeartbeats 4000000 in
set_option maxRecDepth 100000 in
theorem m_X4_at (l : Launch) (D : va_G) (cy : Nat → ClassId) (q : Nat → Nat) (G : GS) (x1 : Int32) (post : Int32 → GS → Prop) (h : wp_X4_at G x1 post) : gMi l yX4_at wsX4_at rmX4_at D cy q [.ref (q 1), .int x1] G post := by
  intro sz
  refine Met.ofW (cc := cX4_at) (maxL := 2) (ret := (some .int)) (by decide) rfl ?_
  intro p e s m args below meth c s₁ B hml hv
  obtain ⟨ha, hsz, X, hw, hA, hr, hlk⟩ := g_start B hml hv
  have hx := X.1.1
  have hb := X.1.2.1
  have hown := X.1.2.2.2.1
  have hts := X.1.2.2.2.2
  refine g_in ha (Nat.le_of_ble_eq_true rfl) (fun ls hl => ?_)
  have hl : lv_has ls 2 [(0, .ref (q 1)), (1, .int x1)] := hl
  unfold wp_X4_at at h
  have hinX4 : ∀ w ∈ wsX40, w ∈ wsX4_at := fun _ h9 => (List.mem_cons_of_mem _ (List.mem_append_right _ h9))
  refine lv_aload_n hx hb dX4_at_0 rfl (lv_at hl 0 rfl) ?_
  refine g_get 1 0 (v := .ref (q 8)) (C := RX4) (T := TX4) (N := 2) X hw (by decide) hinX4 rfl (by decide) (List.mem_cons_of_mem _ (List.mem_append_left _ (List.mem_of_getElem? (i := 0) rfl))) rfl dX4_at_1 ?_
  refine lv_iload_n hx hb dX4_at_4 rfl (lv_at hl 1 rfl) ?_
  obtain ⟨j5_0, bj5_0, ej5_0, h⟩ := h
  refine g_iald 8 12 j5_0 X hw (Or.inr ⟨by decide, by decide⟩) rfl bj5_0 ej5_0 (by decide) dX4_at_5 ?_
  exact g_iret X hw hr hlk h dX4_at_6

abbrev rmX3_add : Room := { frames := 1, cells := 0, slots := 0, locals := 21 }
def wp_X3_add (G : GS) (x2 : Int32) (post : Int32 → GS → Prop) : Prop :=
  ∀ y_1 : Int32, y_1 = G.1 3 5 → (wp_X4_howMany G (fun r_3 G_2 => ∃ j14_3 : Nat, j14_3 < 40 ∧ y_1 = nI j14_3 ∧ (∀ G_5 : GS, G_5 = sI G_2 10 j14_3 r_3 → (∃ I18_6 : Nat → Int32 → GS → Prop, (∃ n_6 : Nat, I18_6 n_6 0 G_5) ∧ ∀ (n_6 : Nat) (v4_6 : Int32) (G_6 : GS), I18_6 n_6 v4_6 G_6 → (wp_X4_howMany G_6 (fun r_8 G_7 => (r_8 ≤ v4_6 → (∃ j71_9 : Nat, j71_9 < 40 ∧ y_1 = nI j71_9 ∧ (∀ G_11 : GS, G_11 = sI G_7 11 j71_9 x2 → (∃ j78_11 : Nat, j78_11 < 40 ∧ y_1 = nI j78_11 ∧ (∀ G_13 : GS, G_13 = sI G_11 12 j78_11 (-1) → (∀ G_14 : GS, G_14 = sI G_13 3 5 ((G_13.1 3 5) + 1) → (post y_1 G_14))))))) ∧ (¬ (r_8 ≤ v4_6) → (wp_X4_at G_7 v4_6 (fun r_16 G_15 => ∃ j40_16 : Nat, j40_16 < 40 ∧ y_1 = nI j40_16 ∧ (∃ j45_17 : Nat, j45_17 < 12 ∧ v4_6 = nI j45_17 ∧ (∀ G_19 : GS, G_19 = sI G_15 (48 + j40_16) j45_17 r_16 → (∃ j53_19 : Nat, j53_19 < 501 ∧ r_16 = nI j53_19 ∧ (∃ j58_20 : Nat, j58_20 < 501 ∧ r_16 = nI j58_20 ∧ (∀ G_22 : GS, G_22 = sL G_19 38 j58_20 ((G_19.2 38 j53_19) ||| (1 <<< (Int32.toInt64 y_1 &&& 63))) → (∃ k_24 : Nat, k_24 < n_6 ∧ I18_6 k_24 (v4_6 + 1) G_22)))))))))))))))
set_option maxHeartbeats 4000000 in
set_option maxRecDepth 100000 in
theorem m_X3_add (l : Launch) (D : va_G) (cy : Nat → ClassId) (q : Nat → Nat) (G : GS) (x2 : Int32) (post : Int32 → GS → Prop) (h : wp_X3_add G x2 post) : gMi l yX3_add wsX3_add rmX3_add D cy q [.ref (q 3), .ref (q 1), .int x2] G post := by
  intro sz
  refine Met.ofW (cc := cX3_add) (maxL := 6) (ret := (some .int)) (by decide) rfl ?_
  intro p e s m args below meth c s₁ B hml hv
  obtain ⟨ha, hsz, X, hw, hA, hr, hlk⟩ := g_start B hml hv
  have hx := X.1.1
  have hb := X.1.2.1
  have hown := X.1.2.2.2.1
  have hts := X.1.2.2.2.2
  refine g_in ha (Nat.le_of_ble_eq_true rfl) (fun ls hl => ?_)
  have hl : lv_has ls 6 [(0, .ref (q 3)), (1, .ref (q 1)), (2, .int x2)] := hl
  unfold wp_X3_add at h
  have hinX3 : ∀ w ∈ wsX30, w ∈ wsX3_add := fun _ h9 => (List.mem_cons_of_mem _ (List.mem_append_left _ (List.mem_append_right _ h9)))
  refine lv_aload_n hx hb dX3_add_0 rfl (lv_at hl 0 rfl) ?_
  refine g_get 3 5 (v := .int (G.1 3 5)) (C := RX3) (T := TX3) (N := 6) X hw (by decide) hinX3 rfl (by decide) (List.mem_cons_of_mem _ (List.mem_append_left _ (List.mem_append_left _ (List.mem_of_getElem? (i := 0) rfl)))) rfl dX3_add_1 ?_
  refine lv_topi (fun y_1 ey_1 => ?_)
  have h := h y_1 ey_1
  refine lv_istore_n (lv' := [(3, .int y_1), (0, .ref (q 3)), (1, .ref (q 1)), (2, .int x2)]) hx hb dX3_add_4 rfl hl (by decide) rfl (fun ls hl => ?_)
  refine lv_aload_n hx hb dX3_add_5 rfl (lv_at hl 1 rfl) ?_
  refine g_get 3 1 (v := .ref (q 10)) (C := RX3) (T := TX3) (N := 6) X hw (by decide) hinX3 rfl (by decide) (List.mem_cons_of_mem _ (List.mem_append_left _ (List.mem_append_left _ (List.mem_of_getElem? (i := 1) rfl)))) rfl dX3_add_6 ?_
  refine lv_iload_n hx hb dX3_add_9 rfl (lv_at hl 0 rfl) ?_
  refine lv_aload_n hx hb dX3_add_10 rfl (lv_at hl 2 rfl) ?_
  refine g_callVi 1 (C := RX4) (T := TX4) (N := 2) (As := []) (rest := [.int y_1, .ref (q 10)]) X hw hA (m_X4_howMany l D cy q G _ h) (by decide) rfl (cwV 0 hts gX3_add_X4_howMany rfl rfl rfl (by decide +kernel) ⟨Nat.le_of_ble_eq_true rfl, Nat.le_of_ble_eq_true rfl⟩) rfl hl.1 rfl (Nat.le_of_ble_eq_true rfl) dX3_add_11 ⟨Nat.zero_le _, Nat.zero_le _⟩ (fun r_3 G_2 H locs h hw => ?_)
  obtain ⟨j14_3, bj14_3, ej14_3, h⟩ := h
  refine g_iast 10 40 j14_3 X hw (Or.inr ⟨by decide, by decide⟩) rfl bj14_3 ej14_3 (by decide) dX3_add_14 (fun H locs hw => ?_)
  obtain ⟨G_5, eG_5⟩ : ∃ z, z = sI G_2 10 j14_3 r_3 := ⟨_, rfl⟩
  rw [← eG_5] at hw
  have h := h G_5 eG_5
  refine lv_iconst (v := 0) hx hb dX3_add_15 (by decide) ?_
  refine lv_istore (lv' := [(4, .int 0), (3, .int y_1), (0, .ref (q 3)), (1, .ref (q 1)), (2, .int x2)]) hx hb dX3_add_16 hl (by decide) rfl (fun ls hl => ?_)
  obtain ⟨I18_6, ⟨n_6, h0⟩, hI18_6⟩ := h
  have LI18_6 : ∀ (n_6 : Nat) (v4_6 : Int32) (G_6 : GS) (H : Heap) (locs : List Loc) (ls : Array Slot), gH D cy q (gA q sz) s.heap G_6 H locs → lv_has ls 6 [(0, .ref (q 3)), (1, .ref (q 1)), (2, .int x2), (3, .int y_1), (4, .int v4_6)] → I18_6 n_6 v4_6 G_6 → W p l e (headSpec wsX3_add rmX3_add).room s m args below meth c H locs 0 0 (MQ below (va_Qi post (gPo D cy q sz) (gA q sz)) args s 0 0 (gA q sz)) (F0 m 18 ls []) := by
    intro n_6
    induction n_6 using Nat.strongRecOn with
    | ind n_6 ihI18_6 =>
      intro v4_6 G_6 H locs ls hw hl h
      have h := hI18_6 n_6 v4_6 G_6 h
      refine lv_iload hx hb dX3_add_18 (lv_at hl 4 rfl) ?_
      refine lv_aload_n hx hb dX3_add_20 rfl (lv_at hl 1 rfl) ?_
      refine g_callVi 1 (C := RX4) (T := TX4) (N := 2) (As := []) (rest := [.int v4_6]) X hw hA (m_X4_howMany l D cy q G_6 _ h) (by decide) rfl (cwV 0 hts gX3_add_X4_howMany rfl rfl rfl (by decide +kernel) ⟨Nat.le_of_ble_eq_true rfl, Nat.le_of_ble_eq_true rfl⟩) rfl hl.1 rfl (Nat.le_of_ble_eq_true rfl) dX3_add_21 ⟨Nat.zero_le _, Nat.zero_le _⟩ (fun r_8 G_7 H locs h hw => ?_)
      refine lv_icmp_ge (tgt := 65) hx hb dX3_add_24 (by decide) (fun c24_8 => ?_) (fun c24_8 => ?_)
      · have h := h.1 c24_8
        refine lv_aload_n hx hb dX3_add_65 rfl (lv_at hl 0 rfl) ?_
        refine g_get 3 2 (v := .ref (q 11)) (C := RX3) (T := TX3) (N := 6) X hw (by decide) hinX3 rfl (by decide) (List.mem_cons_of_mem _ (List.mem_append_left _ (List.mem_append_left _ (List.mem_of_getElem? (i := 4) rfl)))) rfl dX3_add_66 ?_
        refine lv_iload_n hx hb dX3_add_69 rfl (lv_at hl 3 rfl) ?_
        refine lv_iload_n hx hb dX3_add_70 rfl (lv_at hl 2 rfl) ?_
        obtain ⟨j71_9, bj71_9, ej71_9, h⟩ := h
        refine g_iast 11 40 j71_9 X hw (Or.inr ⟨by decide, by decide⟩) rfl bj71_9 ej71_9 (by decide) dX3_add_71 (fun H locs hw => ?_)
        obtain ⟨G_11, eG_11⟩ : ∃ z, z = sI G_7 11 j71_9 x2 := ⟨_, rfl⟩
        rw [← eG_11] at hw
        have h := h G_11 eG_11
        refine lv_aload_n hx hb dX3_add_72 rfl (lv_at hl 0 rfl) ?_
        refine g_get 3 3 (v := .ref (q 12)) (C := RX3) (T := TX3) (N := 6) X hw (by decide) hinX3 rfl (by decide) (List.mem_cons_of_mem _ (List.mem_append_left _ (List.mem_append_left _ (List.mem_of_getElem? (i := 5) rfl)))) rfl dX3_add_73 ?_
        refine lv_iload_n hx hb dX3_add_76 rfl (lv_at hl 3 rfl) ?_
        refine lv_iconst (v := (-1)) hx hb dX3_add_77 (by decide) ?_
        obtain ⟨j78_11, bj78_11, ej78_11, h⟩ := h
        refine g_iast 12 40 j78_11 X hw (Or.inr ⟨by decide, by decide⟩) rfl bj78_11 ej78_11 (by decide) dX3_add_78 (fun H locs hw => ?_)
        obtain ⟨G_13, eG_13⟩ : ∃ z, z = sI G_11 12 j78_11 (-1) := ⟨_, rfl⟩
        rw [← eG_13] at hw
        have h := h G_13 eG_13
        refine lv_aload_n hx hb dX3_add_79 rfl (lv_at hl 0 rfl) ?_
        refine lv_dup hx hb dX3_add_80 rfl ?_
        refine g_get 3 5 (v := .int (G_13.1 3 5)) (C := RX3) (T := TX3) (N := 6) X hw (by decide) hinX3 rfl (by decide) (List.mem_cons_of_mem _ (List.mem_append_left _ (List.mem_append_left _ (List.mem_of_getElem? (i := 0) rfl)))) rfl dX3_add_81 ?_
        refine lv_iconst (v := 1) hx hb dX3_add_84 (by decide) ?_
        refine lv_iadd hx hb dX3_add_85 ?_
        refine g_put 3 5 (v := (G_13.1 3 5) + 1) (ty := .int) (C := RX3) (T := TX3) (N := 6) X hw (by decide) hinX3 tyX3_ok nmX3 rfl (by decide) (List.mem_cons_of_mem _ (List.mem_append_left _ (List.mem_append_left _ (List.mem_of_getElem? (i := 0) rfl)))) rfl (by decide +kernel) rfl rfl (Nat.le_of_ble_eq_true rfl) rfl dX3_add_86 (fun H locs hw => ?_)
        obtain ⟨G_14, eG_14⟩ : ∃ z, z = sI G_13 3 5 ((G_13.1 3 5) + 1) := ⟨_, rfl⟩
        rw [← eG_14] at hw
        have h := h G_14 eG_14
        refine lv_iload_n hx hb dX3_add_89 rfl (lv_at hl 3 rfl) ?_
        exact g_iret X hw hr hlk h dX3_add_90
      · have h := h.2 c24_8
        refine lv_aload_n hx hb dX3_add_27 rfl (lv_at hl 1 rfl) ?_
        refine lv_iload hx hb dX3_add_28 (lv_at hl 4 rfl) ?_
        refine g_callVi 1 (C := RX4) (T := TX4) (N := 2) (As := [.int v4_6]) (rest := []) X hw hA (m_X4_at l D cy q G_7 v4_6 _ h) (by decide) rfl (cwV 1 hts gX3_add_X4_at rfl rfl rfl (by decide +kernel) ⟨Nat.le_of_ble_eq_true rfl, Nat.le_of_ble_eq_true rfl⟩) rfl hl.1 rfl (Nat.le_of_ble_eq_true rfl) dX3_add_30 ⟨Nat.zero_le _, Nat.zero_le _⟩ (fun r_16 G_15 H locs h hw => ?_)
        refine lv_istore (lv' := [(5, .int r_16), (0, .ref (q 3)), (1, .ref (q 1)), (2, .int x2), (3, .int y_1), (4, .int v4_6)]) hx hb dX3_add_33 hl (by decide) rfl (fun ls hl => ?_)
        refine lv_aload_n hx hb dX3_add_35 rfl (lv_at hl 1 rfl) ?_
        refine g_get 3 0 (v := .ref (q 41)) (C := RX3) (T := TX3) (N := 6) X hw (by decide) hinX3 rfl (by decide) (List.mem_cons_of_mem _ (List.mem_append_left _ (List.mem_append_left _ (List.mem_of_getElem? (i := 2) rfl)))) rfl dX3_add_36 ?_
        refine lv_iload_n hx hb dX3_add_39 rfl (lv_at hl 4 rfl) ?_
        obtain ⟨j40_16, bj40_16, ej40_16, h⟩ := h
        refine g_aald 41 40 j40_16 X hw ⟨by decide, by decide⟩ rfl bj40_16 ej40_16 (by decide) dX3_add_40 ?_
        refine lv_iload hx hb dX3_add_41 (lv_at hl 5 rfl) ?_
        refine lv_iload hx hb dX3_add_43 (lv_at hl 0 rfl) ?_
        obtain ⟨j45_17, bj45_17, ej45_17, h⟩ := h
        refine g_iast (48 + j40_16) 12 j45_17 X hw (Or.inl ⟨by omega, by omega⟩) (gLen_12 (by omega) (by omega)) bj45_17 ej45_17 (by decide) dX3_add_45 (fun H locs hw => ?_)
        obtain ⟨G_19, eG_19⟩ : ∃ z, z = sI G_15 (48 + j40_16) j45_17 r_16 := ⟨_, rfl⟩
        rw [← eG_19] at hw
        have h := h G_19 eG_19
        refine lv_aload_n hx hb dX3_add_46 rfl (lv_at hl 1 rfl) ?_
        refine g_get 3 4 (v := .ref (q 38)) (C := RX3) (T := TX3) (N := 6) X hw (by decide) hinX3 rfl (by decide) (List.mem_cons_of_mem _ (List.mem_append_left _ (List.mem_append_left _ (List.mem_of_getElem? (i := 3) rfl)))) rfl dX3_add_47 ?_
        refine lv_iload hx hb dX3_add_50 (lv_at hl 0 rfl) ?_
        refine lv_dup2_11 hx hb dX3_add_52 rfl rfl ?_
        obtain ⟨j53_19, bj53_19, ej53_19, h⟩ := h
        refine g_lald 38 501 j53_19 X hw ⟨by decide, by decide⟩ rfl bj53_19 ej53_19 (by decide) dX3_add_53 ?_
        refine lv_lconst (v := 1) hx hb dX3_add_54 (by decide) ?_
        refine lv_iload_n hx hb dX3_add_55 rfl (lv_at hl 4 rfl) ?_
        refine lv_lshl (v := 1 <<< (Int32.toInt64 y_1 &&& 63)) hx hb dX3_add_56 rfl ?_
        refine lv_lor hx hb dX3_add_57 ?_
        obtain ⟨j58_20, bj58_20, ej58_20, h⟩ := h
        refine g_last 38 501 j58_20 X hw ⟨by decide, by decide⟩ rfl bj58_20 ej58_20 (by decide) dX3_add_58 (fun H locs hw => ?_)
        obtain ⟨G_22, eG_22⟩ : ∃ z, z = sL G_19 38 j58_20 ((G_19.2 38 j53_19) ||| (1 <<< (Int32.toInt64 y_1 &&& 63))) := ⟨_, rfl⟩
        rw [← eG_22] at hw
        have h := h G_22 eG_22
        refine lv_iinc (v := v4_6 + 1) (lv' := [(4, .int (v4_6 + 1)), (5, .int r_16), (0, .ref (q 3)), (1, .ref (q 1)), (2, .int x2), (3, .int y_1)]) hx hb dX3_add_59 hl (k := 5) rfl rfl (by decide) rfl (fun ls hl => ?_)
        refine lv_goto (tgt := 18) hx hb dX3_add_62 (by decide) ?_
        obtain ⟨k_24, hm, h⟩ := h
        exact ihI18_6 k_24 hm (v4_6 + 1) G_22 _ _ ls hw (lv_sub hl [2, 3, 4, 5, 0] rfl) h
  exact LI18_6 n_6 0 G_5 _ _ ls hw (lv_sub hl [2, 3, 4, 1, 0] rfl) h0

abbrev rmX3_versionOf : Room := { frames := 0, cells := 0, slots := 0, locals := 0 }
def wp_X3_versionOf (G : GS) (x1 : Int32) (post : Int32 → GS → Prop) : Prop :=
  ∃ j5_0 : Nat, j5_0 < 40 ∧ x1 = nI j5_0 ∧ (post (G.1 11 j5_0) G)
set_option maxHeartbeats 4000000 in
set_option maxRecDepth 100000 in
theorem m_X3_versionOf (l : Launch) (D : va_G) (cy : Nat → ClassId) (q : Nat → Nat) (G : GS) (x1 : Int32) (post : Int32 → GS → Prop) (h : wp_X3_versionOf G x1 post) : gMi l yX3_versionOf wsX3_versionOf rmX3_versionOf D cy q [.ref (q 3), .int x1] G post := by
  intro sz
  refine Met.ofW (cc := cX3_versionOf) (maxL := 2) (ret := (some .int)) (by decide) rfl ?_
  intro p e s m args below meth c s₁ B hml hv
  obtain ⟨ha, hsz, X, hw, hA, hr, hlk⟩ := g_start B hml hv
  have hx := X.1.1
  have hb := X.1.2.1
  have hown := X.1.2.2.2.1
  have hts := X.1.2.2.2.2
  refine g_in ha (Nat.le_of_ble_eq_true rfl) (fun ls hl => ?_)
  have hl : lv_has ls 2 [(0, .ref (q 3)), (1, .int x1)] := hl
  unfold wp_X3_versionOf at h
  have hinX3 : ∀ w ∈ wsX30, w ∈ wsX3_versionOf := fun _ h9 => (List.mem_cons_of_mem _ (List.mem_append_right _ h9))
  refine lv_aload_n hx hb dX3_versionOf_0 rfl (lv_at hl 0 rfl) ?_
  refine g_get 3 2 (v := .ref (q 11)) (C := RX3) (T := TX3) (N := 6) X hw (by decide) hinX3 rfl (by decide) (List.mem_cons_of_mem _ (List.mem_append_left _ (List.mem_of_getElem? (i := 0) rfl))) rfl dX3_versionOf_1 ?_
  refine lv_iload_n hx hb dX3_versionOf_4 rfl (lv_at hl 1 rfl) ?_
  obtain ⟨j5_0, bj5_0, ej5_0, h⟩ := h
  refine g_iald 11 40 j5_0 X hw (Or.inr ⟨by decide, by decide⟩) rfl bj5_0 ej5_0 (by decide) dX3_versionOf_5 ?_
  exact g_iret X hw hr hlk h dX3_versionOf_6

abbrev rmX3_fixedAt : Room := { frames := 0, cells := 0, slots := 0, locals := 0 }
def wp_X3_fixedAt (G : GS) (x1 : Int32) (post : Int32 → GS → Prop) : Prop :=
  ∃ j5_0 : Nat, j5_0 < 40 ∧ x1 = nI j5_0 ∧ (post (G.1 12 j5_0) G)
set_option maxHeartbeats 4000000 in
set_option maxRecDepth 100000 in
theorem m_X3_fixedAt (l : Launch) (D : va_G) (cy : Nat → ClassId) (q : Nat → Nat) (G : GS) (x1 : Int32) (post : Int32 → GS → Prop) (h : wp_X3_fixedAt G x1 post) : gMi l yX3_fixedAt wsX3_fixedAt rmX3_fixedAt D cy q [.ref (q 3), .int x1] G post := by
  intro sz
  refine Met.ofW (cc := cX3_fixedAt) (maxL := 2) (ret := (some .int)) (by decide) rfl ?_
  intro p e s m args below meth c s₁ B hml hv
  obtain ⟨ha, hsz, X, hw, hA, hr, hlk⟩ := g_start B hml hv
  have hx := X.1.1
  have hb := X.1.2.1
  have hown := X.1.2.2.2.1
  have hts := X.1.2.2.2.2
  refine g_in ha (Nat.le_of_ble_eq_true rfl) (fun ls hl => ?_)
  have hl : lv_has ls 2 [(0, .ref (q 3)), (1, .int x1)] := hl
  unfold wp_X3_fixedAt at h
  have hinX3 : ∀ w ∈ wsX30, w ∈ wsX3_fixedAt := fun _ h9 => (List.mem_cons_of_mem _ (List.mem_append_right _ h9))
  refine lv_aload_n hx hb dX3_fixedAt_0 rfl (lv_at hl 0 rfl) ?_
  refine g_get 3 3 (v := .ref (q 12)) (C := RX3) (T := TX3) (N := 6) X hw (by decide) hinX3 rfl (by decide) (List.mem_cons_of_mem _ (List.mem_append_left _ (List.mem_of_getElem? (i := 0) rfl))) rfl dX3_fixedAt_1 ?_
  refine lv_iload_n hx hb dX3_fixedAt_4 rfl (lv_at hl 1 rfl) ?_
  obtain ⟨j5_0, bj5_0, ej5_0, h⟩ := h
  refine g_iald 12 40 j5_0 X hw (Or.inr ⟨by decide, by decide⟩) rfl bj5_0 ej5_0 (by decide) dX3_fixedAt_5 ?_
  exact g_iret X hw hr hlk h dX3_fixedAt_6

abbrev rmX3_setFixedAt : Room := { frames := 0, cells := 0, slots := 0, locals := 0 }
def wp_X3_setFixedAt (G : GS) (x1 : Int32) (x2 : Int32) (post : GS → Prop) : Prop :=
  ∃ j6_0 : Nat, j6_0 < 40 ∧ x1 = nI j6_0 ∧ (∀ G_2 : GS, G_2 = sI G 12 j6_0 x2 → (post G_2))
set_option maxHeartbeats 4000000 in
set_option maxRecDepth 100000 in
theorem m_X3_setFixedAt (l : Launch) (D : va_G) (cy : Nat → ClassId) (q : Nat → Nat) (G : GS) (x1 : Int32) (x2 : Int32) (post : GS → Prop) (h : wp_X3_setFixedAt G x1 x2 post) : gMv l yX3_setFixedAt wsX3_setFixedAt rmX3_setFixedAt D cy q [.ref (q 3), .int x1, .int x2] G post := by
  intro sz
  refine Met.ofW (cc := cX3_setFixedAt) (maxL := 3) (ret := none) (by decide) rfl ?_
  intro p e s m args below meth c s₁ B hml hv
  obtain ⟨ha, hsz, X, hw, hA, hr, hlk⟩ := g_start B hml hv
  have hx := X.1.1
  have hb := X.1.2.1
  have hown := X.1.2.2.2.1
  have hts := X.1.2.2.2.2
  refine g_in ha (Nat.le_of_ble_eq_true rfl) (fun ls hl => ?_)
  have hl : lv_has ls 3 [(0, .ref (q 3)), (1, .int x1), (2, .int x2)] := hl
  unfold wp_X3_setFixedAt at h
  have hinX3 : ∀ w ∈ wsX30, w ∈ wsX3_setFixedAt := fun _ h9 => (List.mem_cons_of_mem _ (List.mem_append_right _ h9))
  refine lv_aload_n hx hb dX3_setFixedAt_0 rfl (lv_at hl 0 rfl) ?_
  refine g_get 3 3 (v := .ref (q 12)) (C := RX3) (T := TX3) (N := 6) X hw (by decide) hinX3 rfl (by decide) (List.mem_cons_of_mem _ (List.mem_append_left _ (List.mem_of_getElem? (i := 0) rfl))) rfl dX3_setFixedAt_1 ?_
  refine lv_iload_n hx hb dX3_setFixedAt_4 rfl (lv_at hl 1 rfl) ?_
  refine lv_iload_n hx hb dX3_setFixedAt_5 rfl (lv_at hl 2 rfl) ?_
  obtain ⟨j6_0, bj6_0, ej6_0, h⟩ := h
  refine g_iast 12 40 j6_0 X hw (Or.inr ⟨by decide, by decide⟩) rfl bj6_0 ej6_0 (by decide) dX3_setFixedAt_6 (fun H locs hw => ?_)
  obtain ⟨G_2, eG_2⟩ : ∃ z, z = sI G 12 j6_0 x2 := ⟨_, rfl⟩
  rw [← eG_2] at hw
  have h := h G_2 eG_2
  exact g_vret X hw hr hlk h dX3_setFixedAt_7

abbrev rmX3_howManyCommon : Room := { frames := 2, cells := 0, slots := 0, locals := 42 }
def wp_X3_howManyCommon (G : GS)  (post : Int32 → GS → Prop) : Prop :=
  ∃ I4_1 : Nat → Int32 → Int32 → GS → Prop, (∃ n_1 : Nat, I4_1 n_1 0 1 G) ∧ ∀ (n_1 : Nat) (v1_1 : Int32) (v2_1 : Int32) (G_1 : GS), I4_1 n_1 v1_1 v2_1 G_1 → ((500 < v2_1 → (post v1_1 G_1)) ∧ (¬ (500 < v2_1) → (wp_X3_isCommon G_1 v2_1 (fun r_4 G_3 => (r_4 = 0 → (∃ k_7 : Nat, k_7 < n_1 ∧ I4_1 k_7 v1_1 (v2_1 + 1) G_3)) ∧ (¬ (r_4 = 0) → (∃ k_10 : Nat, k_10 < n_1 ∧ I4_1 k_10 (v1_1 + 1) (v2_1 + 1) G_3))))))
set_option maxHeartbeats 4000000 in
set_option maxRecDepth 100000 in
theorem m_X3_howManyCommon (l : Launch) (D : va_G) (cy : Nat → ClassId) (q : Nat → Nat) (G : GS)  (post : Int32 → GS → Prop) (h : wp_X3_howManyCommon G  post) : gMi l yX3_howManyCommon wsX3_howManyCommon rmX3_howManyCommon D cy q [.ref (q 3)] G post := by
  intro sz
  refine Met.ofW (cc := cX3_howManyCommon) (maxL := 3) (ret := (some .int)) (by decide) rfl ?_
  intro p e s m args below meth c s₁ B hml hv
  obtain ⟨ha, hsz, X, hw, hA, hr, hlk⟩ := g_start B hml hv
  have hx := X.1.1
  have hb := X.1.2.1
  have hown := X.1.2.2.2.1
  have hts := X.1.2.2.2.2
  refine g_in ha (Nat.le_of_ble_eq_true rfl) (fun ls hl => ?_)
  have hl : lv_has ls 3 [(0, .ref (q 3))] := hl
  unfold wp_X3_howManyCommon at h
  refine lv_iconst (v := 0) hx hb dX3_howManyCommon_0 (by decide) ?_
  refine lv_istore_n (lv' := [(1, .int 0), (0, .ref (q 3))]) hx hb dX3_howManyCommon_1 rfl hl (by decide) rfl (fun ls hl => ?_)
  refine lv_iconst (v := 1) hx hb dX3_howManyCommon_2 (by decide) ?_
  refine lv_istore_n (lv' := [(2, .int 1), (1, .int 0), (0, .ref (q 3))]) hx hb dX3_howManyCommon_3 rfl hl (by decide) rfl (fun ls hl => ?_)
  obtain ⟨I4_1, ⟨n_1, h0⟩, hI4_1⟩ := h
  have LI4_1 : ∀ (n_1 : Nat) (v1_1 : Int32) (v2_1 : Int32) (G_1 : GS) (H : Heap) (locs : List Loc) (ls : Array Slot), gH D cy q (gA q sz) s.heap G_1 H locs → lv_has ls 3 [(0, .ref (q 3)), (1, .int v1_1), (2, .int v2_1)] → I4_1 n_1 v1_1 v2_1 G_1 → W p l e (headSpec wsX3_howManyCommon rmX3_howManyCommon).room s m args below meth c H locs 0 0 (MQ below (va_Qi post (gPo D cy q sz) (gA q sz)) args s 0 0 (gA q sz)) (F0 m 4 ls []) := by
    intro n_1
    induction n_1 using Nat.strongRecOn with
    | ind n_1 ihI4_1 =>
      intro v1_1 v2_1 G_1 H locs ls hw hl h
      have h := hI4_1 n_1 v1_1 v2_1 G_1 h
      refine lv_iload_n hx hb dX3_howManyCommon_4 rfl (lv_at hl 2 rfl) ?_
      refine lv_sipush (v := 500) hx hb dX3_howManyCommon_5 (by decide) ?_
      refine lv_icmp_gt (tgt := 28) hx hb dX3_howManyCommon_8 (by decide) (fun c8_1 => ?_) (fun c8_1 => ?_)
      · have h := h.1 c8_1
        refine lv_iload_n hx hb dX3_howManyCommon_28 rfl (lv_at hl 1 rfl) ?_
        exact g_iret X hw hr hlk h dX3_howManyCommon_29
      · have h := h.2 c8_1
        refine lv_aload_n hx hb dX3_howManyCommon_11 rfl (lv_at hl 0 rfl) ?_
        refine lv_iload_n hx hb dX3_howManyCommon_12 rfl (lv_at hl 2 rfl) ?_
        refine g_callVi 3 (C := RX3) (T := TX3) (N := 6) (As := [.int v2_1]) (rest := []) X hw hA (m_X3_isCommon l D cy q G_1 v2_1 _ h) (by decide) rfl (cwV 1 hts gX3_howManyCommon_X3_isCommon rfl rfl rfl (by decide +kernel) ⟨Nat.le_of_ble_eq_true rfl, Nat.le_of_ble_eq_true rfl⟩) rfl hl.1 rfl (Nat.le_of_ble_eq_true rfl) dX3_howManyCommon_13 ⟨Nat.zero_le _, Nat.zero_le _⟩ (fun r_4 G_3 H locs h hw => ?_)
        refine lv_if_eq (tgt := 22) hx hb dX3_howManyCommon_16 (by decide) (fun c16_4 => ?_) (fun c16_4 => ?_)
        · have h := h.1 c16_4
          refine lv_iinc (v := v2_1 + 1) (lv' := [(2, .int (v2_1 + 1)), (0, .ref (q 3)), (1, .int v1_1)]) hx hb dX3_howManyCommon_22 hl (k := 2) rfl rfl (by decide) rfl (fun ls hl => ?_)
          refine lv_goto (tgt := 4) hx hb dX3_howManyCommon_25 (by decide) ?_
          obtain ⟨k_7, hm, h⟩ := h
          exact ihI4_1 k_7 hm v1_1 (v2_1 + 1) G_3 _ _ ls hw (lv_sub hl [1, 2, 0] rfl) h
        · have h := h.2 c16_4
          refine lv_iinc (v := v1_1 + 1) (lv' := [(1, .int (v1_1 + 1)), (0, .ref (q 3)), (2, .int v2_1)]) hx hb dX3_howManyCommon_19 hl (k := 1) rfl rfl (by decide) rfl (fun ls hl => ?_)
          refine lv_iinc (v := v2_1 + 1) (lv' := [(2, .int (v2_1 + 1)), (1, .int (v1_1 + 1)), (0, .ref (q 3))]) hx hb dX3_howManyCommon_22 hl (k := 2) rfl rfl (by decide) rfl (fun ls hl => ?_)
          refine lv_goto (tgt := 4) hx hb dX3_howManyCommon_25 (by decide) ?_
          obtain ⟨k_10, hm, h⟩ := h
          exact ihI4_1 k_10 hm (v1_1 + 1) (v2_1 + 1) G_3 _ _ ls hw (lv_sub hl [2, 1, 0] rfl) h
  exact LI4_1 n_1 0 1 G _ _ ls hw (lv_sub hl [2, 1, 0] rfl) h0

abbrev rmX4_put : Room := { frames := 0, cells := 0, slots := 0, locals := 0 }
def wp_X4_put (G : GS) (x1 : Int32) (post : Int32 → GS → Prop) : Prop :=
  (x1 < 0 → (post (-1) G)) ∧ (¬ (x1 < 0) → ((500 < x1 → (post (-1) G)) ∧ (¬ (500 < x1) → (((G.1 1 1) < 12 → (∃ j31_3 : Nat, j31_3 < 12 ∧ G.1 1 1 = nI j31_3 ∧ (∀ G_5 : GS, G_5 = sI G 8 j31_3 x1 → (∀ G_6 : GS, G_6 = sI G_5 1 1 ((G_5.1 1 1) + 1) → (post (G_6.1 1 1) G_6))))) ∧ (¬ ((G.1 1 1) < 12) → (post (-1) G))))))
set_option maxHeartbeats 4000000 in
set_option maxRecDepth 100000 in
theorem m_X4_put (l : Launch) (D : va_G) (cy : Nat → ClassId) (q : Nat → Nat) (G : GS) (x1 : Int32) (post : Int32 → GS → Prop) (h : wp_X4_put G x1 post) : gMi l yX4_put wsX4_put rmX4_put D cy q [.ref (q 1), .int x1] G post := by
  intro sz
  refine Met.ofW (cc := cX4_put) (maxL := 2) (ret := (some .int)) (by decide) rfl ?_
  intro p e s m args below meth c s₁ B hml hv
  obtain ⟨ha, hsz, X, hw, hA, hr, hlk⟩ := g_start B hml hv
  have hx := X.1.1
  have hb := X.1.2.1
  have hown := X.1.2.2.2.1
  have hts := X.1.2.2.2.2
  refine g_in ha (Nat.le_of_ble_eq_true rfl) (fun ls hl => ?_)
  have hl : lv_has ls 2 [(0, .ref (q 1)), (1, .int x1)] := hl
  unfold wp_X4_put at h
  have hinX4 : ∀ w ∈ wsX40, w ∈ wsX4_put := fun _ h9 => (List.mem_cons_of_mem _ (List.mem_append_right _ h9))
  refine lv_iload_n hx hb dX4_put_0 rfl (lv_at hl 1 rfl) ?_
  refine lv_if_lt (tgt := 20) hx hb dX4_put_1 (by decide) (fun c1_0 => ?_) (fun c1_0 => ?_)
  · have h := h.1 c1_0
    refine lv_iconst (v := (-1)) hx hb dX4_put_20 (by decide) ?_
    exact g_iret X hw hr hlk h dX4_put_21
  · have h := h.2 c1_0
    refine lv_iload_n hx hb dX4_put_4 rfl (lv_at hl 1 rfl) ?_
    refine lv_sipush (v := 500) hx hb dX4_put_5 (by decide) ?_
    refine lv_icmp_gt (tgt := 20) hx hb dX4_put_8 (by decide) (fun c8_1 => ?_) (fun c8_1 => ?_)
    · have h := h.1 c8_1
      refine lv_iconst (v := (-1)) hx hb dX4_put_20 (by decide) ?_
      exact g_iret X hw hr hlk h dX4_put_21
    · have h := h.2 c8_1
      refine lv_aload_n hx hb dX4_put_11 rfl (lv_at hl 0 rfl) ?_
      refine g_get 1 1 (v := .int (G.1 1 1)) (C := RX4) (T := TX4) (N := 2) X hw (by decide) hinX4 rfl (by decide) (List.mem_cons_of_mem _ (List.mem_append_left _ (List.mem_of_getElem? (i := 0) rfl))) rfl dX4_put_12 ?_
      refine lv_bipush (v := 12) hx hb dX4_put_15 (by decide) ?_
      refine lv_icmp_lt (tgt := 22) hx hb dX4_put_17 (by decide) (fun c17_2 => ?_) (fun c17_2 => ?_)
      · have h := h.1 c17_2
        refine lv_aload_n hx hb dX4_put_22 rfl (lv_at hl 0 rfl) ?_
        refine g_get 1 0 (v := .ref (q 8)) (C := RX4) (T := TX4) (N := 2) X hw (by decide) hinX4 rfl (by decide) (List.mem_cons_of_mem _ (List.mem_append_left _ (List.mem_of_getElem? (i := 1) rfl))) rfl dX4_put_23 ?_
        refine lv_aload_n hx hb dX4_put_26 rfl (lv_at hl 0 rfl) ?_
        refine g_get 1 1 (v := .int (G.1 1 1)) (C := RX4) (T := TX4) (N := 2) X hw (by decide) hinX4 rfl (by decide) (List.mem_cons_of_mem _ (List.mem_append_left _ (List.mem_of_getElem? (i := 0) rfl))) rfl dX4_put_27 ?_
        refine lv_iload_n hx hb dX4_put_30 rfl (lv_at hl 1 rfl) ?_
        obtain ⟨j31_3, bj31_3, ej31_3, h⟩ := h
        refine g_iast 8 12 j31_3 X hw (Or.inr ⟨by decide, by decide⟩) rfl bj31_3 ej31_3 (by decide) dX4_put_31 (fun H locs hw => ?_)
        obtain ⟨G_5, eG_5⟩ : ∃ z, z = sI G 8 j31_3 x1 := ⟨_, rfl⟩
        rw [← eG_5] at hw
        have h := h G_5 eG_5
        refine lv_aload_n hx hb dX4_put_32 rfl (lv_at hl 0 rfl) ?_
        refine lv_dup hx hb dX4_put_33 rfl ?_
        refine g_get 1 1 (v := .int (G_5.1 1 1)) (C := RX4) (T := TX4) (N := 2) X hw (by decide) hinX4 rfl (by decide) (List.mem_cons_of_mem _ (List.mem_append_left _ (List.mem_of_getElem? (i := 0) rfl))) rfl dX4_put_34 ?_
        refine lv_iconst (v := 1) hx hb dX4_put_37 (by decide) ?_
        refine lv_iadd hx hb dX4_put_38 ?_
        refine g_put 1 1 (v := (G_5.1 1 1) + 1) (ty := .int) (C := RX4) (T := TX4) (N := 2) X hw (by decide) hinX4 tyX4_ok nmX4 rfl (by decide) (List.mem_cons_of_mem _ (List.mem_append_left _ (List.mem_of_getElem? (i := 0) rfl))) rfl (by decide +kernel) rfl rfl (Nat.le_of_ble_eq_true rfl) rfl dX4_put_39 (fun H locs hw => ?_)
        obtain ⟨G_6, eG_6⟩ : ∃ z, z = sI G_5 1 1 ((G_5.1 1 1) + 1) := ⟨_, rfl⟩
        rw [← eG_6] at hw
        have h := h G_6 eG_6
        refine lv_aload_n hx hb dX4_put_42 rfl (lv_at hl 0 rfl) ?_
        refine g_get 1 1 (v := .int (G_6.1 1 1)) (C := RX4) (T := TX4) (N := 2) X hw (by decide) hinX4 rfl (by decide) (List.mem_cons_of_mem _ (List.mem_append_left _ (List.mem_of_getElem? (i := 0) rfl))) rfl dX4_put_43 ?_
        exact g_iret X hw hr hlk h dX4_put_46
      · have h := h.2 c17_2
        refine lv_iconst (v := (-1)) hx hb dX4_put_20 (by decide) ?_
        exact g_iret X hw hr hlk h dX4_put_21

abbrev rmX4_isEmpty : Room := { frames := 0, cells := 0, slots := 0, locals := 0 }
def wp_X4_isEmpty (G : GS)  (post : Int32 → GS → Prop) : Prop :=
  (¬ (G.1 1 1) = 0 → (post 0 G)) ∧ ((G.1 1 1) = 0 → (post 1 G))
set_option maxHeartbeats 4000000 in
set_option maxRecDepth 100000 in
theorem m_X4_isEmpty (l : Launch) (D : va_G) (cy : Nat → ClassId) (q : Nat → Nat) (G : GS)  (post : Int32 → GS → Prop) (h : wp_X4_isEmpty G  post) : gMi l yX4_isEmpty wsX4_isEmpty rmX4_isEmpty D cy q [.ref (q 1)] G post := by
  intro sz
  refine Met.ofW (cc := cX4_isEmpty) (maxL := 1) (ret := (some .boolean)) (by decide) rfl ?_
  intro p e s m args below meth c s₁ B hml hv
  obtain ⟨ha, hsz, X, hw, hA, hr, hlk⟩ := g_start B hml hv
  have hx := X.1.1
  have hb := X.1.2.1
  have hown := X.1.2.2.2.1
  have hts := X.1.2.2.2.2
  refine g_in ha (Nat.le_of_ble_eq_true rfl) (fun ls hl => ?_)
  have hl : lv_has ls 1 [(0, .ref (q 1))] := hl
  unfold wp_X4_isEmpty at h
  have hinX4 : ∀ w ∈ wsX40, w ∈ wsX4_isEmpty := fun _ h9 => (List.mem_cons_of_mem _ (List.mem_append_right _ h9))
  refine lv_aload_n hx hb dX4_isEmpty_0 rfl (lv_at hl 0 rfl) ?_
  refine g_get 1 1 (v := .int (G.1 1 1)) (C := RX4) (T := TX4) (N := 2) X hw (by decide) hinX4 rfl (by decide) (List.mem_cons_of_mem _ (List.mem_append_left _ (List.mem_of_getElem? (i := 0) rfl))) rfl dX4_isEmpty_1 ?_
  refine lv_if_ne (tgt := 11) hx hb dX4_isEmpty_4 (by decide) (fun c4_0 => ?_) (fun c4_0 => ?_)
  · have h := h.1 c4_0
    refine lv_iconst (v := 0) hx hb dX4_isEmpty_11 (by decide) ?_
    exact g_zret X hw hr hlk (by decide) h dX4_isEmpty_12
  · have h := h.2 c4_0
    refine lv_iconst (v := 1) hx hb dX4_isEmpty_7 (by decide) ?_
    refine lv_goto (tgt := 12) hx hb dX4_isEmpty_8 (by decide) ?_
    exact g_zret X hw hr hlk (by decide) h dX4_isEmpty_12

abbrev rmX4_clear : Room := { frames := 0, cells := 0, slots := 0, locals := 0 }
def wp_X4_clear (G : GS)  (post : GS → Prop) : Prop :=
  ∀ G_1 : GS, G_1 = sI G 1 1 0 → (post G_1)
set_option maxHeartbeats 4000000 in
set_option maxRecDepth 100000 in
theorem m_X4_clear (l : Launch) (D : va_G) (cy : Nat → ClassId) (q : Nat → Nat) (G : GS)  (post : GS → Prop) (h : wp_X4_clear G  post) : gMv l yX4_clear wsX4_clear rmX4_clear D cy q [.ref (q 1)] G post := by
  intro sz
  refine Met.ofW (cc := cX4_clear) (maxL := 1) (ret := none) (by decide) rfl ?_
  intro p e s m args below meth c s₁ B hml hv
  obtain ⟨ha, hsz, X, hw, hA, hr, hlk⟩ := g_start B hml hv
  have hx := X.1.1
  have hb := X.1.2.1
  have hown := X.1.2.2.2.1
  have hts := X.1.2.2.2.2
  refine g_in ha (Nat.le_of_ble_eq_true rfl) (fun ls hl => ?_)
  have hl : lv_has ls 1 [(0, .ref (q 1))] := hl
  unfold wp_X4_clear at h
  have hinX4 : ∀ w ∈ wsX40, w ∈ wsX4_clear := fun _ h9 => (List.mem_cons_of_mem _ (List.mem_append_right _ h9))
  refine lv_aload_n hx hb dX4_clear_0 rfl (lv_at hl 0 rfl) ?_
  refine lv_iconst (v := 0) hx hb dX4_clear_1 (by decide) ?_
  refine g_put 1 1 (v := 0) (ty := .int) (C := RX4) (T := TX4) (N := 2) X hw (by decide) hinX4 tyX4_ok nmX4 rfl (by decide) (List.mem_cons_of_mem _ (List.mem_append_left _ (List.mem_of_getElem? (i := 0) rfl))) rfl (by decide +kernel) rfl rfl (Nat.le_of_ble_eq_true rfl) rfl dX4_clear_2 (fun H locs hw => ?_)
  obtain ⟨G_1, eG_1⟩ : ∃ z, z = sI G 1 1 0 := ⟨_, rfl⟩
  rw [← eG_1] at hw
  have h := h G_1 eG_1
  exact g_vret X hw hr hlk h dX4_clear_5

abbrev rmX4_standsTwice : Room := { frames := 0, cells := 0, slots := 0, locals := 0 }
def wp_X4_standsTwice (G : GS) (x1 : Int32) (x2 : Int32) (post : Int32 → GS → Prop) : Prop :=
  ∃ I2_1 : Nat → Int32 → Prop, (∃ n_1 : Nat, I2_1 n_1 x1) ∧ ∀ (n_1 : Nat) (v3_1 : Int32), I2_1 n_1 v3_1 → (((x1 + x2) ≤ v3_1 → (post 1 G)) ∧ (¬ ((x1 + x2) ≤ v3_1) → (∃ j14_2 : Nat, j14_2 < 12 ∧ v3_1 = nI j14_2 ∧ (∃ j22_3 : Nat, j22_3 < 12 ∧ v3_1 + x2 = nI j22_3 ∧ (((G.1 8 j14_2) = (G.1 8 j22_3) → (∃ k_7 : Nat, k_7 < n_1 ∧ I2_1 k_7 (v3_1 + 1))) ∧ (¬ ((G.1 8 j14_2) = (G.1 8 j22_3)) → (post 0 G)))))))
set_option maxHeartbeats 4000000 in
set_option maxRecDepth 100000 in
theorem m_X4_standsTwice (l : Launch) (D : va_G) (cy : Nat → ClassId) (q : Nat → Nat) (G : GS) (x1 : Int32) (x2 : Int32) (post : Int32 → GS → Prop) (h : wp_X4_standsTwice G x1 x2 post) : gMi l yX4_standsTwice wsX4_standsTwice rmX4_standsTwice D cy q [.ref (q 1), .int x1, .int x2] G post := by
  intro sz
  refine Met.ofW (cc := cX4_standsTwice) (maxL := 4) (ret := (some .boolean)) (by decide) rfl ?_
  intro p e s m args below meth c s₁ B hml hv
  obtain ⟨ha, hsz, X, hw, hA, hr, hlk⟩ := g_start B hml hv
  have hx := X.1.1
  have hb := X.1.2.1
  have hown := X.1.2.2.2.1
  have hts := X.1.2.2.2.2
  refine g_in ha (Nat.le_of_ble_eq_true rfl) (fun ls hl => ?_)
  have hl : lv_has ls 4 [(0, .ref (q 1)), (1, .int x1), (2, .int x2)] := hl
  unfold wp_X4_standsTwice at h
  have hinX4 : ∀ w ∈ wsX40, w ∈ wsX4_standsTwice := fun _ h9 => (List.mem_cons_of_mem _ (List.mem_append_right _ h9))
  refine lv_iload_n hx hb dX4_standsTwice_0 rfl (lv_at hl 1 rfl) ?_
  refine lv_istore_n (lv' := [(3, .int x1), (0, .ref (q 1)), (1, .int x1), (2, .int x2)]) hx hb dX4_standsTwice_1 rfl hl (by decide) rfl (fun ls hl => ?_)
  obtain ⟨I2_1, ⟨n_1, h0⟩, hI2_1⟩ := h
  have LI2_1 : ∀ (n_1 : Nat) (v3_1 : Int32) (H : Heap) (locs : List Loc) (ls : Array Slot), gH D cy q (gA q sz) s.heap G H locs → lv_has ls 4 [(0, .ref (q 1)), (1, .int x1), (2, .int x2), (3, .int v3_1)] → I2_1 n_1 v3_1 → W p l e (headSpec wsX4_standsTwice rmX4_standsTwice).room s m args below meth c H locs 0 0 (MQ below (va_Qi post (gPo D cy q sz) (gA q sz)) args s 0 0 (gA q sz)) (F0 m 2 ls []) := by
    intro n_1
    induction n_1 using Nat.strongRecOn with
    | ind n_1 ihI2_1 =>
      intro v3_1 H locs ls hw hl h
      have h := hI2_1 n_1 v3_1 h
      refine lv_iload_n hx hb dX4_standsTwice_2 rfl (lv_at hl 3 rfl) ?_
      refine lv_iload_n hx hb dX4_standsTwice_3 rfl (lv_at hl 1 rfl) ?_
      refine lv_iload_n hx hb dX4_standsTwice_4 rfl (lv_at hl 2 rfl) ?_
      refine lv_iadd hx hb dX4_standsTwice_5 ?_
      refine lv_icmp_ge (tgt := 34) hx hb dX4_standsTwice_6 (by decide) (fun c6_1 => ?_) (fun c6_1 => ?_)
      · have h := h.1 c6_1
        refine lv_iconst (v := 1) hx hb dX4_standsTwice_34 (by decide) ?_
        exact g_zret X hw hr hlk (by decide) h dX4_standsTwice_35
      · have h := h.2 c6_1
        refine lv_aload_n hx hb dX4_standsTwice_9 rfl (lv_at hl 0 rfl) ?_
        refine g_get 1 0 (v := .ref (q 8)) (C := RX4) (T := TX4) (N := 2) X hw (by decide) hinX4 rfl (by decide) (List.mem_cons_of_mem _ (List.mem_append_left _ (List.mem_of_getElem? (i := 0) rfl))) rfl dX4_standsTwice_10 ?_
        refine lv_iload_n hx hb dX4_standsTwice_13 rfl (lv_at hl 3 rfl) ?_
        obtain ⟨j14_2, bj14_2, ej14_2, h⟩ := h
        refine g_iald 8 12 j14_2 X hw (Or.inr ⟨by decide, by decide⟩) rfl bj14_2 ej14_2 (by decide) dX4_standsTwice_14 ?_
        refine lv_aload_n hx hb dX4_standsTwice_15 rfl (lv_at hl 0 rfl) ?_
        refine g_get 1 0 (v := .ref (q 8)) (C := RX4) (T := TX4) (N := 2) X hw (by decide) hinX4 rfl (by decide) (List.mem_cons_of_mem _ (List.mem_append_left _ (List.mem_of_getElem? (i := 0) rfl))) rfl dX4_standsTwice_16 ?_
        refine lv_iload_n hx hb dX4_standsTwice_19 rfl (lv_at hl 3 rfl) ?_
        refine lv_iload_n hx hb dX4_standsTwice_20 rfl (lv_at hl 2 rfl) ?_
        refine lv_iadd hx hb dX4_standsTwice_21 ?_
        obtain ⟨j22_3, bj22_3, ej22_3, h⟩ := h
        refine g_iald 8 12 j22_3 X hw (Or.inr ⟨by decide, by decide⟩) rfl bj22_3 ej22_3 (by decide) dX4_standsTwice_22 ?_
        refine lv_icmp_eq (tgt := 28) hx hb dX4_standsTwice_23 (by decide) (fun c23_4 => ?_) (fun c23_4 => ?_)
        · have h := h.1 c23_4
          refine lv_iinc (v := v3_1 + 1) (lv' := [(3, .int (v3_1 + 1)), (0, .ref (q 1)), (1, .int x1), (2, .int x2)]) hx hb dX4_standsTwice_28 hl (k := 3) rfl rfl (by decide) rfl (fun ls hl => ?_)
          refine lv_goto (tgt := 2) hx hb dX4_standsTwice_31 (by decide) ?_
          obtain ⟨k_7, hm, h⟩ := h
          exact ihI2_1 k_7 hm (v3_1 + 1) _ _ ls hw (lv_sub hl [1, 2, 3, 0] rfl) h
        · have h := h.2 c23_4
          refine lv_iconst (v := 0) hx hb dX4_standsTwice_26 (by decide) ?_
          exact g_zret X hw hr hlk (by decide) h dX4_standsTwice_27
  exact LI2_1 n_1 x1 _ _ ls hw (lv_sub hl [1, 2, 3, 0] rfl) h0

abbrev rmX4_cut : Room := { frames := 0, cells := 0, slots := 0, locals := 0 }
def wp_X4_cut (G : GS) (x1 : Int32) (x2 : Int32) (post : GS → Prop) : Prop :=
  ∃ I2_1 : Nat → Int32 → GS → Prop, (∃ n_1 : Nat, I2_1 n_1 x1 G) ∧ ∀ (n_1 : Nat) (v3_1 : Int32) (G_1 : GS), I2_1 n_1 v3_1 G_1 → (((G_1.1 1 1) ≤ (v3_1 + x2) → (∀ G_3 : GS, G_3 = sI G_1 1 1 ((G_1.1 1 1) - x2) → (post G_3))) ∧ (¬ ((G_1.1 1 1) ≤ (v3_1 + x2)) → (∃ j24_3 : Nat, j24_3 < 12 ∧ v3_1 + x2 = nI j24_3 ∧ (∃ j25_4 : Nat, j25_4 < 12 ∧ v3_1 = nI j25_4 ∧ (∀ G_6 : GS, G_6 = sI G_1 8 j25_4 (G_1.1 8 j24_3) → (∃ k_8 : Nat, k_8 < n_1 ∧ I2_1 k_8 (v3_1 + 1) G_6))))))
set_option maxHeartbeats 4000000 in
set_option maxRecDepth 100000 in
theorem m_X4_cut (l : Launch) (D : va_G) (cy : Nat → ClassId) (q : Nat → Nat) (G : GS) (x1 : Int32) (x2 : Int32) (post : GS → Prop) (h : wp_X4_cut G x1 x2 post) : gMv l yX4_cut wsX4_cut rmX4_cut D cy q [.ref (q 1), .int x1, .int x2] G post := by
  intro sz
  refine Met.ofW (cc := cX4_cut) (maxL := 4) (ret := none) (by decide) rfl ?_
  intro p e s m args below meth c s₁ B hml hv
  obtain ⟨ha, hsz, X, hw, hA, hr, hlk⟩ := g_start B hml hv
  have hx := X.1.1
  have hb := X.1.2.1
  have hown := X.1.2.2.2.1
  have hts := X.1.2.2.2.2
  refine g_in ha (Nat.le_of_ble_eq_true rfl) (fun ls hl => ?_)
  have hl : lv_has ls 4 [(0, .ref (q 1)), (1, .int x1), (2, .int x2)] := hl
  unfold wp_X4_cut at h
  have hinX4 : ∀ w ∈ wsX40, w ∈ wsX4_cut := fun _ h9 => (List.mem_cons_of_mem _ (List.mem_append_right _ h9))
  refine lv_iload_n hx hb dX4_cut_0 rfl (lv_at hl 1 rfl) ?_
  refine lv_istore_n (lv' := [(3, .int x1), (0, .ref (q 1)), (1, .int x1), (2, .int x2)]) hx hb dX4_cut_1 rfl hl (by decide) rfl (fun ls hl => ?_)
  obtain ⟨I2_1, ⟨n_1, h0⟩, hI2_1⟩ := h
  have LI2_1 : ∀ (n_1 : Nat) (v3_1 : Int32) (G_1 : GS) (H : Heap) (locs : List Loc) (ls : Array Slot), gH D cy q (gA q sz) s.heap G_1 H locs → lv_has ls 4 [(0, .ref (q 1)), (2, .int x2), (3, .int v3_1)] → I2_1 n_1 v3_1 G_1 → W p l e (headSpec wsX4_cut rmX4_cut).room s m args below meth c H locs 0 0 (MQ below (va_Qv post (gPo D cy q sz) (gA q sz)) args s 0 0 (gA q sz)) (F0 m 2 ls []) := by
    intro n_1
    induction n_1 using Nat.strongRecOn with
    | ind n_1 ihI2_1 =>
      intro v3_1 G_1 H locs ls hw hl h
      have h := hI2_1 n_1 v3_1 G_1 h
      refine lv_iload_n hx hb dX4_cut_2 rfl (lv_at hl 2 rfl) ?_
      refine lv_iload_n hx hb dX4_cut_3 rfl (lv_at hl 1 rfl) ?_
      refine lv_iadd hx hb dX4_cut_4 ?_
      refine lv_aload_n hx hb dX4_cut_5 rfl (lv_at hl 0 rfl) ?_
      refine g_get 1 1 (v := .int (G_1.1 1 1)) (C := RX4) (T := TX4) (N := 2) X hw (by decide) hinX4 rfl (by decide) (List.mem_cons_of_mem _ (List.mem_append_left _ (List.mem_of_getElem? (i := 0) rfl))) rfl dX4_cut_6 ?_
      refine lv_icmp_ge (tgt := 32) hx hb dX4_cut_9 (by decide) (fun c9_1 => ?_) (fun c9_1 => ?_)
      · have h := h.1 c9_1
        refine lv_aload_n hx hb dX4_cut_32 rfl (lv_at hl 0 rfl) ?_
        refine lv_dup hx hb dX4_cut_33 rfl ?_
        refine g_get 1 1 (v := .int (G_1.1 1 1)) (C := RX4) (T := TX4) (N := 2) X hw (by decide) hinX4 rfl (by decide) (List.mem_cons_of_mem _ (List.mem_append_left _ (List.mem_of_getElem? (i := 0) rfl))) rfl dX4_cut_34 ?_
        refine lv_iload_n hx hb dX4_cut_37 rfl (lv_at hl 1 rfl) ?_
        refine lv_isub hx hb dX4_cut_38 ?_
        refine g_put 1 1 (v := (G_1.1 1 1) - x2) (ty := .int) (C := RX4) (T := TX4) (N := 2) X hw (by decide) hinX4 tyX4_ok nmX4 rfl (by decide) (List.mem_cons_of_mem _ (List.mem_append_left _ (List.mem_of_getElem? (i := 0) rfl))) rfl (by decide +kernel) rfl rfl (Nat.le_of_ble_eq_true rfl) rfl dX4_cut_39 (fun H locs hw => ?_)
        obtain ⟨G_3, eG_3⟩ : ∃ z, z = sI G_1 1 1 ((G_1.1 1 1) - x2) := ⟨_, rfl⟩
        rw [← eG_3] at hw
        have h := h G_3 eG_3
        exact g_vret X hw hr hlk h dX4_cut_42
      · have h := h.2 c9_1
        refine lv_aload_n hx hb dX4_cut_12 rfl (lv_at hl 0 rfl) ?_
        refine g_get 1 0 (v := .ref (q 8)) (C := RX4) (T := TX4) (N := 2) X hw (by decide) hinX4 rfl (by decide) (List.mem_cons_of_mem _ (List.mem_append_left _ (List.mem_of_getElem? (i := 1) rfl))) rfl dX4_cut_13 ?_
        refine lv_iload_n hx hb dX4_cut_16 rfl (lv_at hl 2 rfl) ?_
        refine lv_aload_n hx hb dX4_cut_17 rfl (lv_at hl 0 rfl) ?_
        refine g_get 1 0 (v := .ref (q 8)) (C := RX4) (T := TX4) (N := 2) X hw (by decide) hinX4 rfl (by decide) (List.mem_cons_of_mem _ (List.mem_append_left _ (List.mem_of_getElem? (i := 1) rfl))) rfl dX4_cut_18 ?_
        refine lv_iload_n hx hb dX4_cut_21 rfl (lv_at hl 2 rfl) ?_
        refine lv_iload_n hx hb dX4_cut_22 rfl (lv_at hl 1 rfl) ?_
        refine lv_iadd hx hb dX4_cut_23 ?_
        obtain ⟨j24_3, bj24_3, ej24_3, h⟩ := h
        refine g_iald 8 12 j24_3 X hw (Or.inr ⟨by decide, by decide⟩) rfl bj24_3 ej24_3 (by decide) dX4_cut_24 ?_
        obtain ⟨j25_4, bj25_4, ej25_4, h⟩ := h
        refine g_iast 8 12 j25_4 X hw (Or.inr ⟨by decide, by decide⟩) rfl bj25_4 ej25_4 (by decide) dX4_cut_25 (fun H locs hw => ?_)
        obtain ⟨G_6, eG_6⟩ : ∃ z, z = sI G_1 8 j25_4 (G_1.1 8 j24_3) := ⟨_, rfl⟩
        rw [← eG_6] at hw
        have h := h G_6 eG_6
        refine lv_iinc (v := v3_1 + 1) (lv' := [(3, .int (v3_1 + 1)), (0, .ref (q 1)), (2, .int x2)]) hx hb dX4_cut_26 hl (k := 2) rfl rfl (by decide) rfl (fun ls hl => ?_)
        refine lv_goto (tgt := 2) hx hb dX4_cut_29 (by decide) ?_
        obtain ⟨k_8, hm, h⟩ := h
        exact ihI2_1 k_8 hm (v3_1 + 1) G_6 _ _ ls hw (lv_sub hl [1, 2, 0] rfl) h
  exact LI2_1 n_1 x1 G _ _ ls hw (lv_sub hl [1, 3, 0] rfl) h0

abbrev rmX4_foldOnce : Room := { frames := 1, cells := 0, slots := 0, locals := 23 }
def wp_X4_foldOnce (G : GS)  (post : Int32 → GS → Prop) : Prop :=
  ∃ I2_1 : Nat → Int32 → GS → Prop, (∃ n_1 : Nat, I2_1 n_1 1 G) ∧ ∀ (n_1 : Nat) (v1_1 : Int32) (G_1 : GS), I2_1 n_1 v1_1 G_1 → ((3 < v1_1 → (post 0 G_1)) ∧ (¬ (3 < v1_1) → (∃ I9_3 : Nat → Int32 → GS → Prop, (∃ n_3 : Nat, I9_3 n_3 0 G_1) ∧ ∀ (n_3 : Nat) (v2_3 : Int32) (G_3 : GS), I9_3 n_3 v2_3 G_3 → (((G_3.1 1 1) < (v2_3 + (2 * v1_1)) → (∃ k_6 : Nat, k_6 < n_1 ∧ I2_1 k_6 (v1_1 + 1) G_3)) ∧ (¬ ((G_3.1 1 1) < (v2_3 + (2 * v1_1))) → (wp_X4_standsTwice G_3 v2_3 v1_1 (fun r_8 G_7 => (r_8 = 0 → (∃ k_11 : Nat, k_11 < n_3 ∧ I9_3 k_11 (v2_3 + 1) G_7)) ∧ (¬ (r_8 = 0) → (wp_X4_cut G_7 v2_3 v1_1 (fun G_12 => post 1 G_12))))))))))
set_option maxHeartbeats 4000000 in
set_option maxRecDepth 100000 in
theorem m_X4_foldOnce (l : Launch) (D : va_G) (cy : Nat → ClassId) (q : Nat → Nat) (G : GS)  (post : Int32 → GS → Prop) (h : wp_X4_foldOnce G  post) : gMi l yX4_foldOnce wsX4_foldOnce rmX4_foldOnce D cy q [.ref (q 1)] G post := by
  intro sz
  refine Met.ofW (cc := cX4_foldOnce) (maxL := 3) (ret := (some .boolean)) (by decide) rfl ?_
  intro p e s m args below meth c s₁ B hml hv
  obtain ⟨ha, hsz, X, hw, hA, hr, hlk⟩ := g_start B hml hv
  have hx := X.1.1
  have hb := X.1.2.1
  have hown := X.1.2.2.2.1
  have hts := X.1.2.2.2.2
  refine g_in ha (Nat.le_of_ble_eq_true rfl) (fun ls hl => ?_)
  have hl : lv_has ls 3 [(0, .ref (q 1))] := hl
  unfold wp_X4_foldOnce at h
  have hinX4 : ∀ w ∈ wsX40, w ∈ wsX4_foldOnce := fun _ h9 => (List.mem_cons_of_mem _ (List.mem_append_right _ h9))
  refine lv_iconst (v := 1) hx hb dX4_foldOnce_0 (by decide) ?_
  refine lv_istore_n (lv' := [(1, .int 1), (0, .ref (q 1))]) hx hb dX4_foldOnce_1 rfl hl (by decide) rfl (fun ls hl => ?_)
  obtain ⟨I2_1, ⟨n_1, h0⟩, hI2_1⟩ := h
  have LI2_1 : ∀ (n_1 : Nat) (v1_1 : Int32) (G_1 : GS) (H : Heap) (locs : List Loc) (ls : Array Slot), gH D cy q (gA q sz) s.heap G_1 H locs → lv_has ls 3 [(0, .ref (q 1)), (1, .int v1_1)] → I2_1 n_1 v1_1 G_1 → W p l e (headSpec wsX4_foldOnce rmX4_foldOnce).room s m args below meth c H locs 0 0 (MQ below (va_Qi post (gPo D cy q sz) (gA q sz)) args s 0 0 (gA q sz)) (F0 m 2 ls []) := by
    intro n_1
    induction n_1 using Nat.strongRecOn with
    | ind n_1 ihI2_1 =>
      intro v1_1 G_1 H locs ls hw hl h
      have h := hI2_1 n_1 v1_1 G_1 h
      refine lv_iload_n hx hb dX4_foldOnce_2 rfl (lv_at hl 1 rfl) ?_
      refine lv_iconst (v := 3) hx hb dX4_foldOnce_3 (by decide) ?_
      refine lv_icmp_gt (tgt := 50) hx hb dX4_foldOnce_4 (by decide) (fun c4_1 => ?_) (fun c4_1 => ?_)
      · have h := h.1 c4_1
        refine lv_iconst (v := 0) hx hb dX4_foldOnce_50 (by decide) ?_
        exact g_zret X hw hr hlk (by decide) h dX4_foldOnce_51
      · have h := h.2 c4_1
        refine lv_iconst (v := 0) hx hb dX4_foldOnce_7 (by decide) ?_
        refine lv_istore_n (lv' := [(2, .int 0), (0, .ref (q 1)), (1, .int v1_1)]) hx hb dX4_foldOnce_8 rfl hl (by decide) rfl (fun ls hl => ?_)
        obtain ⟨I9_3, ⟨n_3, h0⟩, hI9_3⟩ := h
        have LI9_3 : ∀ (n_3 : Nat) (v2_3 : Int32) (G_3 : GS) (H : Heap) (locs : List Loc) (ls : Array Slot), gH D cy q (gA q sz) s.heap G_3 H locs → lv_has ls 3 [(0, .ref (q 1)), (1, .int v1_1), (2, .int v2_3)] → I9_3 n_3 v2_3 G_3 → W p l e (headSpec wsX4_foldOnce rmX4_foldOnce).room s m args below meth c H locs 0 0 (MQ below (va_Qi post (gPo D cy q sz) (gA q sz)) args s 0 0 (gA q sz)) (F0 m 9 ls []) := by
          intro n_3
          induction n_3 using Nat.strongRecOn with
          | ind n_3 ihI9_3 =>
            intro v2_3 G_3 H locs ls hw hl h
            have h := hI9_3 n_3 v2_3 G_3 h
            refine lv_iload_n hx hb dX4_foldOnce_9 rfl (lv_at hl 2 rfl) ?_
            refine lv_iconst (v := 2) hx hb dX4_foldOnce_10 (by decide) ?_
            refine lv_iload_n hx hb dX4_foldOnce_11 rfl (lv_at hl 1 rfl) ?_
            refine lv_imul hx hb dX4_foldOnce_12 ?_
            refine lv_iadd hx hb dX4_foldOnce_13 ?_
            refine lv_aload_n hx hb dX4_foldOnce_14 rfl (lv_at hl 0 rfl) ?_
            refine g_get 1 1 (v := .int (G_3.1 1 1)) (C := RX4) (T := TX4) (N := 2) X hw (by decide) hinX4 rfl (by decide) (List.mem_cons_of_mem _ (List.mem_append_left _ (List.mem_of_getElem? (i := 0) rfl))) rfl dX4_foldOnce_15 ?_
            refine lv_icmp_gt (tgt := 44) hx hb dX4_foldOnce_18 (by decide) (fun c18_3 => ?_) (fun c18_3 => ?_)
            · have h := h.1 c18_3
              refine lv_iinc (v := v1_1 + 1) (lv' := [(1, .int (v1_1 + 1)), (0, .ref (q 1)), (2, .int v2_3)]) hx hb dX4_foldOnce_44 hl (k := 1) rfl rfl (by decide) rfl (fun ls hl => ?_)
              refine lv_goto (tgt := 2) hx hb dX4_foldOnce_47 (by decide) ?_
              obtain ⟨k_6, hm, h⟩ := h
              exact ihI2_1 k_6 hm (v1_1 + 1) G_3 _ _ ls hw (lv_sub hl [1, 0] rfl) h
            · have h := h.2 c18_3
              refine lv_aload_n hx hb dX4_foldOnce_21 rfl (lv_at hl 0 rfl) ?_
              refine lv_iload_n hx hb dX4_foldOnce_22 rfl (lv_at hl 2 rfl) ?_
              refine lv_iload_n hx hb dX4_foldOnce_23 rfl (lv_at hl 1 rfl) ?_
              refine g_callVi 1 (C := RX4) (T := TX4) (N := 2) (As := [.int v2_3, .int v1_1]) (rest := []) X hw hA (m_X4_standsTwice l D cy q G_3 v2_3 v1_1 _ h) (by decide) rfl (cwV 2 hts gX4_foldOnce_X4_standsTwice rfl rfl rfl (by decide +kernel) ⟨Nat.le_of_ble_eq_true rfl, Nat.le_of_ble_eq_true rfl⟩) rfl hl.1 rfl (Nat.le_of_ble_eq_true rfl) dX4_foldOnce_24 ⟨Nat.zero_le _, Nat.zero_le _⟩ (fun r_8 G_7 H locs h hw => ?_)
              refine lv_if_eq (tgt := 38) hx hb dX4_foldOnce_27 (by decide) (fun c27_8 => ?_) (fun c27_8 => ?_)
              · have h := h.1 c27_8
                refine lv_iinc (v := v2_3 + 1) (lv' := [(2, .int (v2_3 + 1)), (0, .ref (q 1)), (1, .int v1_1)]) hx hb dX4_foldOnce_38 hl (k := 2) rfl rfl (by decide) rfl (fun ls hl => ?_)
                refine lv_goto (tgt := 9) hx hb dX4_foldOnce_41 (by decide) ?_
                obtain ⟨k_11, hm, h⟩ := h
                exact ihI9_3 k_11 hm (v2_3 + 1) G_7 _ _ ls hw (lv_sub hl [1, 2, 0] rfl) h
              · have h := h.2 c27_8
                refine lv_aload_n hx hb dX4_foldOnce_30 rfl (lv_at hl 0 rfl) ?_
                refine lv_iload_n hx hb dX4_foldOnce_31 rfl (lv_at hl 2 rfl) ?_
                refine lv_iload_n hx hb dX4_foldOnce_32 rfl (lv_at hl 1 rfl) ?_
                refine g_callVv 1 (C := RX4) (T := TX4) (N := 2) (As := [.int v2_3, .int v1_1]) (rest := []) X hw hA (m_X4_cut l D cy q G_7 v2_3 v1_1 _ h) (by decide) rfl (cwV 2 hts gX4_foldOnce_X4_cut rfl rfl rfl (by decide +kernel) ⟨Nat.le_of_ble_eq_true rfl, Nat.le_of_ble_eq_true rfl⟩) rfl hl.1 rfl (Nat.le_of_ble_eq_true rfl) dX4_foldOnce_33 ⟨Nat.zero_le _, Nat.zero_le _⟩ (fun G_12 H locs h hw => ?_)
                refine lv_iconst (v := 1) hx hb dX4_foldOnce_36 (by decide) ?_
                exact g_zret X hw hr hlk (by decide) h dX4_foldOnce_37
        exact LI9_3 n_3 0 G_1 _ _ ls hw (lv_sub hl [1, 2, 0] rfl) h0
  exact LI2_1 n_1 1 G _ _ ls hw (lv_sub hl [1, 0] rfl) h0

abbrev rmX4_fold : Room := { frames := 2, cells := 0, slots := 0, locals := 45 }
def wp_X4_fold (G : GS)  (post : GS → Prop) : Prop :=
  ∃ I2_1 : Nat → Int32 → GS → Prop, (∃ n_1 : Nat, I2_1 n_1 0 G) ∧ ∀ (n_1 : Nat) (v1_1 : Int32) (G_1 : GS), I2_1 n_1 v1_1 G_1 → ((12 ≤ v1_1 → (post G_1)) ∧ (¬ (12 ≤ v1_1) → (wp_X4_foldOnce G_1 (fun r_4 G_3 => (¬ r_4 = 0 → (∃ k_7 : Nat, k_7 < n_1 ∧ I2_1 k_7 (v1_1 + 1) G_3)) ∧ (r_4 = 0 → (post G_3))))))
set_option maxHeartbeats 4000000 in
set_option maxRecDepth 100000 in
theorem m_X4_fold (l : Launch) (D : va_G) (cy : Nat → ClassId) (q : Nat → Nat) (G : GS)  (post : GS → Prop) (h : wp_X4_fold G  post) : gMv l yX4_fold wsX4_fold rmX4_fold D cy q [.ref (q 1)] G post := by
  intro sz
  refine Met.ofW (cc := cX4_fold) (maxL := 2) (ret := none) (by decide) rfl ?_
  intro p e s m args below meth c s₁ B hml hv
  obtain ⟨ha, hsz, X, hw, hA, hr, hlk⟩ := g_start B hml hv
  have hx := X.1.1
  have hb := X.1.2.1
  have hown := X.1.2.2.2.1
  have hts := X.1.2.2.2.2
  refine g_in ha (Nat.le_of_ble_eq_true rfl) (fun ls hl => ?_)
  have hl : lv_has ls 2 [(0, .ref (q 1))] := hl
  unfold wp_X4_fold at h
  refine lv_iconst (v := 0) hx hb dX4_fold_0 (by decide) ?_
  refine lv_istore_n (lv' := [(1, .int 0), (0, .ref (q 1))]) hx hb dX4_fold_1 rfl hl (by decide) rfl (fun ls hl => ?_)
  obtain ⟨I2_1, ⟨n_1, h0⟩, hI2_1⟩ := h
  have LI2_1 : ∀ (n_1 : Nat) (v1_1 : Int32) (G_1 : GS) (H : Heap) (locs : List Loc) (ls : Array Slot), gH D cy q (gA q sz) s.heap G_1 H locs → lv_has ls 2 [(0, .ref (q 1)), (1, .int v1_1)] → I2_1 n_1 v1_1 G_1 → W p l e (headSpec wsX4_fold rmX4_fold).room s m args below meth c H locs 0 0 (MQ below (va_Qv post (gPo D cy q sz) (gA q sz)) args s 0 0 (gA q sz)) (F0 m 2 ls []) := by
    intro n_1
    induction n_1 using Nat.strongRecOn with
    | ind n_1 ihI2_1 =>
      intro v1_1 G_1 H locs ls hw hl h
      have h := hI2_1 n_1 v1_1 G_1 h
      refine lv_iload_n hx hb dX4_fold_2 rfl (lv_at hl 1 rfl) ?_
      refine lv_bipush (v := 12) hx hb dX4_fold_3 (by decide) ?_
      refine lv_icmp_ge (tgt := 22) hx hb dX4_fold_5 (by decide) (fun c5_1 => ?_) (fun c5_1 => ?_)
      · have h := h.1 c5_1
        exact g_vret X hw hr hlk h dX4_fold_22
      · have h := h.2 c5_1
        refine lv_aload_n hx hb dX4_fold_8 rfl (lv_at hl 0 rfl) ?_
        refine g_callVi 1 (C := RX4) (T := TX4) (N := 2) (As := []) (rest := []) X hw hA (m_X4_foldOnce l D cy q G_1 _ h) (by decide) rfl (cwV 0 hts gX4_fold_X4_foldOnce rfl rfl rfl (by decide +kernel) ⟨Nat.le_of_ble_eq_true rfl, Nat.le_of_ble_eq_true rfl⟩) rfl hl.1 rfl (Nat.le_of_ble_eq_true rfl) dX4_fold_9 ⟨Nat.zero_le _, Nat.zero_le _⟩ (fun r_4 G_3 H locs h hw => ?_)
        refine lv_if_ne (tgt := 16) hx hb dX4_fold_12 (by decide) (fun c12_4 => ?_) (fun c12_4 => ?_)
        · have h := h.1 c12_4
          refine lv_iinc (v := v1_1 + 1) (lv' := [(1, .int (v1_1 + 1)), (0, .ref (q 1))]) hx hb dX4_fold_16 hl (k := 1) rfl rfl (by decide) rfl (fun ls hl => ?_)
          refine lv_goto (tgt := 2) hx hb dX4_fold_19 (by decide) ?_
          obtain ⟨k_7, hm, h⟩ := h
          exact ihI2_1 k_7 hm (v1_1 + 1) G_3 _ _ ls hw (lv_sub hl [1, 0] rfl) h
        · have h := h.2 c12_4
          exact g_vret X hw hr hlk h dX4_fold_15
  exact LI2_1 n_1 0 G _ _ ls hw (lv_sub hl [1, 0] rfl) h0

abbrev rmX5_has : Room := { frames := 0, cells := 0, slots := 0, locals := 0 }
def wp_X5_has (G : GS) (x1 : Int32) (post : Int32 → GS → Prop) : Prop :=
  (x1 < 0 → (post 0 G)) ∧ (¬ (x1 < 0) → (((G.1 2 1) ≤ x1 → (post 0 G)) ∧ (¬ ((G.1 2 1) ≤ x1) → (post 1 G))))
set_option maxHeartbeats 4000000 in
set_option maxRecDepth 100000 in
theorem m_X5_has (l : Launch) (D : va_G) (cy : Nat → ClassId) (q : Nat → Nat) (G : GS) (x1 : Int32) (post : Int32 → GS → Prop) (h : wp_X5_has G x1 post) : gMi l yX5_has wsX5_has rmX5_has D cy q [.ref (q 2), .int x1] G post := by
  intro sz
  refine Met.ofW (cc := cX5_has) (maxL := 2) (ret := (some .boolean)) (by decide) rfl ?_
  intro p e s m args below meth c s₁ B hml hv
  obtain ⟨ha, hsz, X, hw, hA, hr, hlk⟩ := g_start B hml hv
  have hx := X.1.1
  have hb := X.1.2.1
  have hown := X.1.2.2.2.1
  have hts := X.1.2.2.2.2
  refine g_in ha (Nat.le_of_ble_eq_true rfl) (fun ls hl => ?_)
  have hl : lv_has ls 2 [(0, .ref (q 2)), (1, .int x1)] := hl
  unfold wp_X5_has at h
  have hinX5 : ∀ w ∈ wsX50, w ∈ wsX5_has := fun _ h9 => (List.mem_cons_of_mem _ (List.mem_append_right _ h9))
  refine lv_iload_n hx hb dX5_has_0 rfl (lv_at hl 1 rfl) ?_
  refine lv_if_lt (tgt := 16) hx hb dX5_has_1 (by decide) (fun c1_0 => ?_) (fun c1_0 => ?_)
  · have h := h.1 c1_0
    refine lv_iconst (v := 0) hx hb dX5_has_16 (by decide) ?_
    exact g_zret X hw hr hlk (by decide) h dX5_has_17
  · have h := h.2 c1_0
    refine lv_iload_n hx hb dX5_has_4 rfl (lv_at hl 1 rfl) ?_
    refine lv_aload_n hx hb dX5_has_5 rfl (lv_at hl 0 rfl) ?_
    refine g_get 2 1 (v := .int (G.1 2 1)) (C := RX5) (T := TX5) (N := 2) X hw (by decide) hinX5 rfl (by decide) (List.mem_cons_of_mem _ (List.mem_append_left _ (List.mem_of_getElem? (i := 0) rfl))) rfl dX5_has_6 ?_
    refine lv_icmp_ge (tgt := 16) hx hb dX5_has_9 (by decide) (fun c9_1 => ?_) (fun c9_1 => ?_)
    · have h := h.1 c9_1
      refine lv_iconst (v := 0) hx hb dX5_has_16 (by decide) ?_
      exact g_zret X hw hr hlk (by decide) h dX5_has_17
    · have h := h.2 c9_1
      refine lv_iconst (v := 1) hx hb dX5_has_12 (by decide) ?_
      refine lv_goto (tgt := 17) hx hb dX5_has_13 (by decide) ?_
      exact g_zret X hw hr hlk (by decide) h dX5_has_17

abbrev rmX5_howMany : Room := { frames := 0, cells := 0, slots := 0, locals := 0 }
def wp_X5_howMany (G : GS)  (post : Int32 → GS → Prop) : Prop :=
  post (G.1 2 1) G
set_option maxHeartbeats 4000000 in
set_option maxRecDepth 100000 in
theorem m_X5_howMany (l : Launch) (D : va_G) (cy : Nat → ClassId) (q : Nat → Nat) (G : GS)  (post : Int32 → GS → Prop) (h : wp_X5_howMany G  post) : gMi l yX5_howMany wsX5_howMany rmX5_howMany D cy q [.ref (q 2)] G post := by
  intro sz
  refine Met.ofW (cc := cX5_howMany) (maxL := 1) (ret := (some .int)) (by decide) rfl ?_
  intro p e s m args below meth c s₁ B hml hv
  obtain ⟨ha, hsz, X, hw, hA, hr, hlk⟩ := g_start B hml hv
  have hx := X.1.1
  have hb := X.1.2.1
  have hown := X.1.2.2.2.1
  have hts := X.1.2.2.2.2
  refine g_in ha (Nat.le_of_ble_eq_true rfl) (fun ls hl => ?_)
  have hl : lv_has ls 1 [(0, .ref (q 2))] := hl
  unfold wp_X5_howMany at h
  have hinX5 : ∀ w ∈ wsX50, w ∈ wsX5_howMany := fun _ h9 => (List.mem_cons_of_mem _ (List.mem_append_right _ h9))
  refine lv_aload_n hx hb dX5_howMany_0 rfl (lv_at hl 0 rfl) ?_
  refine g_get 2 1 (v := .int (G.1 2 1)) (C := RX5) (T := TX5) (N := 2) X hw (by decide) hinX5 rfl (by decide) (List.mem_cons_of_mem _ (List.mem_append_left _ (List.mem_of_getElem? (i := 0) rfl))) rfl dX5_howMany_1 ?_
  exact g_iret X hw hr hlk h dX5_howMany_4

abbrev rmX5_make : Room := { frames := 1, cells := 0, slots := 0, locals := 21 }
def wp_X5_make (G : GS) (x1 : Int32) (post : Int32 → GS → Prop) : Prop :=
  wp_X5_has G x1 (fun r_2 G_1 => (r_2 = 0 → (post (-1) G_1)) ∧ (¬ (r_2 = 0) → (((G_1.1 2 1) < 30 → (∀ y_5 : Int32, y_5 = G_1.1 2 1 → (∃ j34_5 : Nat, j34_5 < 30 ∧ x1 = nI j34_5 ∧ (∃ j39_6 : Nat, j39_6 < 30 ∧ y_5 = nI j39_6 ∧ (∀ G_8 : GS, G_8 = sI G_1 9 j39_6 ((G_1.1 9 j34_5) ||| (1 <<< (y_5 &&& 31))) → (∀ G_9 : GS, G_9 = sI G_8 2 1 ((G_8.1 2 1) + 1) → (post y_5 G_9))))))) ∧ (¬ ((G_1.1 2 1) < 30) → (post (-1) G_1)))))
set_option maxHeartbeats 4000000 in
set_option maxRecDepth 100000 in
theorem m_X5_make (l : Launch) (D : va_G) (cy : Nat → ClassId) (q : Nat → Nat) (G : GS) (x1 : Int32) (post : Int32 → GS → Prop) (h : wp_X5_make G x1 post) : gMi l yX5_make wsX5_make rmX5_make D cy q [.ref (q 2), .int x1] G post := by
  intro sz
  refine Met.ofW (cc := cX5_make) (maxL := 3) (ret := (some .int)) (by decide) rfl ?_
  intro p e s m args below meth c s₁ B hml hv
  obtain ⟨ha, hsz, X, hw, hA, hr, hlk⟩ := g_start B hml hv
  have hx := X.1.1
  have hb := X.1.2.1
  have hown := X.1.2.2.2.1
  have hts := X.1.2.2.2.2
  refine g_in ha (Nat.le_of_ble_eq_true rfl) (fun ls hl => ?_)
  have hl : lv_has ls 3 [(0, .ref (q 2)), (1, .int x1)] := hl
  unfold wp_X5_make at h
  have hinX5 : ∀ w ∈ wsX50, w ∈ wsX5_make := fun _ h9 => (List.mem_cons_of_mem _ (List.mem_append_right _ h9))
  refine lv_aload_n hx hb dX5_make_0 rfl (lv_at hl 0 rfl) ?_
  refine lv_iload_n hx hb dX5_make_1 rfl (lv_at hl 1 rfl) ?_
  refine g_callVi 2 (C := RX5) (T := TX5) (N := 2) (As := [.int x1]) (rest := []) X hw hA (m_X5_has l D cy q G x1 _ h) (by decide) rfl (cwV 1 hts gX5_make_X5_has rfl rfl rfl (by decide +kernel) ⟨Nat.le_of_ble_eq_true rfl, Nat.le_of_ble_eq_true rfl⟩) rfl hl.1 rfl (Nat.le_of_ble_eq_true rfl) dX5_make_2 ⟨Nat.zero_le _, Nat.zero_le _⟩ (fun r_2 G_1 H locs h hw => ?_)
  refine lv_if_eq (tgt := 17) hx hb dX5_make_5 (by decide) (fun c5_2 => ?_) (fun c5_2 => ?_)
  · have h := h.1 c5_2
    refine lv_iconst (v := (-1)) hx hb dX5_make_17 (by decide) ?_
    exact g_iret X hw hr hlk h dX5_make_18
  · have h := h.2 c5_2
    refine lv_aload_n hx hb dX5_make_8 rfl (lv_at hl 0 rfl) ?_
    refine g_get 2 1 (v := .int (G_1.1 2 1)) (C := RX5) (T := TX5) (N := 2) X hw (by decide) hinX5 rfl (by decide) (List.mem_cons_of_mem _ (List.mem_append_left _ (List.mem_of_getElem? (i := 0) rfl))) rfl dX5_make_9 ?_
    refine lv_bipush (v := 30) hx hb dX5_make_12 (by decide) ?_
    refine lv_icmp_lt (tgt := 19) hx hb dX5_make_14 (by decide) (fun c14_3 => ?_) (fun c14_3 => ?_)
    · have h := h.1 c14_3
      refine lv_aload_n hx hb dX5_make_19 rfl (lv_at hl 0 rfl) ?_
      refine g_get 2 1 (v := .int (G_1.1 2 1)) (C := RX5) (T := TX5) (N := 2) X hw (by decide) hinX5 rfl (by decide) (List.mem_cons_of_mem _ (List.mem_append_left _ (List.mem_of_getElem? (i := 0) rfl))) rfl dX5_make_20 ?_
      refine lv_topi (fun y_5 ey_5 => ?_)
      have h := h y_5 ey_5
      refine lv_istore_n (lv' := [(2, .int y_5), (0, .ref (q 2)), (1, .int x1)]) hx hb dX5_make_23 rfl hl (by decide) rfl (fun ls hl => ?_)
      refine lv_aload_n hx hb dX5_make_24 rfl (lv_at hl 1 rfl) ?_
      refine g_get 2 0 (v := .ref (q 9)) (C := RX5) (T := TX5) (N := 2) X hw (by decide) hinX5 rfl (by decide) (List.mem_cons_of_mem _ (List.mem_append_left _ (List.mem_of_getElem? (i := 1) rfl))) rfl dX5_make_25 ?_
      refine lv_iload_n hx hb dX5_make_28 rfl (lv_at hl 0 rfl) ?_
      refine lv_aload_n hx hb dX5_make_29 rfl (lv_at hl 1 rfl) ?_
      refine g_get 2 0 (v := .ref (q 9)) (C := RX5) (T := TX5) (N := 2) X hw (by decide) hinX5 rfl (by decide) (List.mem_cons_of_mem _ (List.mem_append_left _ (List.mem_of_getElem? (i := 1) rfl))) rfl dX5_make_30 ?_
      refine lv_iload_n hx hb dX5_make_33 rfl (lv_at hl 2 rfl) ?_
      obtain ⟨j34_5, bj34_5, ej34_5, h⟩ := h
      refine g_iald 9 30 j34_5 X hw (Or.inr ⟨by decide, by decide⟩) rfl bj34_5 ej34_5 (by decide) dX5_make_34 ?_
      refine lv_iconst (v := 1) hx hb dX5_make_35 (by decide) ?_
      refine lv_iload_n hx hb dX5_make_36 rfl (lv_at hl 0 rfl) ?_
      refine lv_ishl hx hb dX5_make_37 ?_
      refine lv_ior hx hb dX5_make_38 ?_
      obtain ⟨j39_6, bj39_6, ej39_6, h⟩ := h
      refine g_iast 9 30 j39_6 X hw (Or.inr ⟨by decide, by decide⟩) rfl bj39_6 ej39_6 (by decide) dX5_make_39 (fun H locs hw => ?_)
      obtain ⟨G_8, eG_8⟩ : ∃ z, z = sI G_1 9 j39_6 ((G_1.1 9 j34_5) ||| (1 <<< (y_5 &&& 31))) := ⟨_, rfl⟩
      rw [← eG_8] at hw
      have h := h G_8 eG_8
      refine lv_aload_n hx hb dX5_make_40 rfl (lv_at hl 1 rfl) ?_
      refine lv_dup hx hb dX5_make_41 rfl ?_
      refine g_get 2 1 (v := .int (G_8.1 2 1)) (C := RX5) (T := TX5) (N := 2) X hw (by decide) hinX5 rfl (by decide) (List.mem_cons_of_mem _ (List.mem_append_left _ (List.mem_of_getElem? (i := 0) rfl))) rfl dX5_make_42 ?_
      refine lv_iconst (v := 1) hx hb dX5_make_45 (by decide) ?_
      refine lv_iadd hx hb dX5_make_46 ?_
      refine g_put 2 1 (v := (G_8.1 2 1) + 1) (ty := .int) (C := RX5) (T := TX5) (N := 2) X hw (by decide) hinX5 tyX5_ok nmX5 rfl (by decide) (List.mem_cons_of_mem _ (List.mem_append_left _ (List.mem_of_getElem? (i := 0) rfl))) rfl (by decide +kernel) rfl rfl (Nat.le_of_ble_eq_true rfl) rfl dX5_make_47 (fun H locs hw => ?_)
      obtain ⟨G_9, eG_9⟩ : ∃ z, z = sI G_8 2 1 ((G_8.1 2 1) + 1) := ⟨_, rfl⟩
      rw [← eG_9] at hw
      have h := h G_9 eG_9
      refine lv_iload_n hx hb dX5_make_50 rfl (lv_at hl 0 rfl) ?_
      exact g_iret X hw hr hlk h dX5_make_51
    · have h := h.2 c14_3
      refine lv_iconst (v := (-1)) hx hb dX5_make_17 (by decide) ?_
      exact g_iret X hw hr hlk h dX5_make_18

abbrev rmX5_isOrIsBehind : Room := { frames := 0, cells := 0, slots := 0, locals := 0 }
def wp_X5_isOrIsBehind (G : GS) (x1 : Int32) (x2 : Int32) (post : Int32 → GS → Prop) : Prop :=
  ∃ j5_0 : Nat, j5_0 < 30 ∧ x1 = nI j5_0 ∧ ((¬ (((G.1 9 j5_0) >>> (x2 &&& 31)) &&& 1) = 1 → (post 0 G)) ∧ ((((G.1 9 j5_0) >>> (x2 &&& 31)) &&& 1) = 1 → (post 1 G)))
set_option maxHeartbeats 4000000 in
set_option maxRecDepth 100000 in
theorem m_X5_isOrIsBehind (l : Launch) (D : va_G) (cy : Nat → ClassId) (q : Nat → Nat) (G : GS) (x1 : Int32) (x2 : Int32) (post : Int32 → GS → Prop) (h : wp_X5_isOrIsBehind G x1 x2 post) : gMi l yX5_isOrIsBehind wsX5_isOrIsBehind rmX5_isOrIsBehind D cy q [.ref (q 2), .int x1, .int x2] G post := by
  intro sz
  refine Met.ofW (cc := cX5_isOrIsBehind) (maxL := 3) (ret := (some .boolean)) (by decide) rfl ?_
  intro p e s m args below meth c s₁ B hml hv
  obtain ⟨ha, hsz, X, hw, hA, hr, hlk⟩ := g_start B hml hv
  have hx := X.1.1
  have hb := X.1.2.1
  have hown := X.1.2.2.2.1
  have hts := X.1.2.2.2.2
  refine g_in ha (Nat.le_of_ble_eq_true rfl) (fun ls hl => ?_)
  have hl : lv_has ls 3 [(0, .ref (q 2)), (1, .int x1), (2, .int x2)] := hl
  unfold wp_X5_isOrIsBehind at h
  have hinX5 : ∀ w ∈ wsX50, w ∈ wsX5_isOrIsBehind := fun _ h9 => (List.mem_cons_of_mem _ (List.mem_append_right _ h9))
  refine lv_aload_n hx hb dX5_isOrIsBehind_0 rfl (lv_at hl 0 rfl) ?_
  refine g_get 2 0 (v := .ref (q 9)) (C := RX5) (T := TX5) (N := 2) X hw (by decide) hinX5 rfl (by decide) (List.mem_cons_of_mem _ (List.mem_append_left _ (List.mem_of_getElem? (i := 0) rfl))) rfl dX5_isOrIsBehind_1 ?_
  refine lv_iload_n hx hb dX5_isOrIsBehind_4 rfl (lv_at hl 1 rfl) ?_
  obtain ⟨j5_0, bj5_0, ej5_0, h⟩ := h
  refine g_iald 9 30 j5_0 X hw (Or.inr ⟨by decide, by decide⟩) rfl bj5_0 ej5_0 (by decide) dX5_isOrIsBehind_5 ?_
  refine lv_iload_n hx hb dX5_isOrIsBehind_6 rfl (lv_at hl 2 rfl) ?_
  refine lv_ishr hx hb dX5_isOrIsBehind_7 ?_
  refine lv_iconst (v := 1) hx hb dX5_isOrIsBehind_8 (by decide) ?_
  refine lv_iand hx hb dX5_isOrIsBehind_9 ?_
  refine lv_iconst (v := 1) hx hb dX5_isOrIsBehind_10 (by decide) ?_
  refine lv_icmp_ne (tgt := 18) hx hb dX5_isOrIsBehind_11 (by decide) (fun c11_1 => ?_) (fun c11_1 => ?_)
  · have h := h.1 c11_1
    refine lv_iconst (v := 0) hx hb dX5_isOrIsBehind_18 (by decide) ?_
    exact g_zret X hw hr hlk (by decide) h dX5_isOrIsBehind_19
  · have h := h.2 c11_1
    refine lv_iconst (v := 1) hx hb dX5_isOrIsBehind_14 (by decide) ?_
    refine lv_goto (tgt := 19) hx hb dX5_isOrIsBehind_15 (by decide) ?_
    exact g_zret X hw hr hlk (by decide) h dX5_isOrIsBehind_19
