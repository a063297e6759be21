abbrev rmX7_seeks_d0 : Room := { frames := 2, cells := 0, slots := 0, locals := 50 }
def wp_X7_seeks_d0 (G : GS) (x1 : Int32) (x2 : Int32) (x3 : Int32) (x4 : Int32) (post : Int32 → GS → Prop) : Prop :=
  (¬ x3 = x2 → (∃ I16_2 : Nat → Int32 → GS → Prop, (∃ n_2 : Nat, I16_2 n_2 x4 G) ∧ ∀ (n_2 : Nat) (v5_2 : Int32) (G_2 : GS), I16_2 n_2 v5_2 G_2 → (((G_2.1 7 29) ≤ v5_2 → (post 0 G_2)) ∧ (¬ ((G_2.1 7 29) ≤ v5_2) → (∃ j36_3 : Nat, j36_3 < 12 ∧ v5_2 = nI j36_3 ∧ (∃ j37_4 : Nat, j37_4 < 3 ∧ x3 = nI j37_4 ∧ (∀ G_6 : GS, G_6 = sI G_2 34 j37_4 (G_2.1 35 j36_3) → False))))))) ∧ (x3 = x2 → (wp_X7_isMark G x1 x2 (fun r_8 G_7 => (r_8 = 0 ∨ r_8 = 1) ∧ post r_8 G_7)))
set_option maxHeartbeats 4000000 in
set_option maxRecDepth 100000 in
theorem m_X7_seeks_d0 (l : Launch) (D : va_G) (cy : Nat → ClassId) (q : Nat → Nat) (G : GS) (x1 : Int32) (x2 : Int32) (x3 : Int32) (x4 : Int32) (post : Int32 → GS → Prop) (h : wp_X7_seeks_d0 G x1 x2 x3 x4 post) : gMi l yX7_seeks wsX7_seeks rmX7_seeks_d0 D cy q [.ref (q 7), .int x1, .int x2, .int x3, .int x4] G post := by
  intro sz
  refine Met.ofW (cc := cX7_seeks) (maxL := 6) (ret := (some .boolean)) (by decide) rfl ?_
  intro p e s m args below meth c s₁ B hml hv
  obtain ⟨ha, hsz, X, hw, hA, hr, hlk⟩ := g_start B hml hv
  have hx := X.1.1
  have hb := X.1.2.1
  have hown := X.1.2.2.2.1
  have hts := X.1.2.2.2.2
  refine g_in ha (Nat.le_of_ble_eq_true rfl) (fun ls hl => ?_)
  have hl : lv_has ls 6 [(0, .ref (q 7)), (1, .int x1), (2, .int x2), (3, .int x3), (4, .int x4)] := hl
  unfold wp_X7_seeks_d0 at h
  have hinX7 : ∀ w ∈ wsX70, w ∈ wsX7_seeks := fun _ h9 => (List.mem_cons_of_mem _ (List.mem_append_right _ h9))
  refine lv_iload_n hx hb dX7_seeks_0 rfl (lv_at hl 3 rfl) ?_
  refine lv_iload_n hx hb dX7_seeks_1 rfl (lv_at hl 2 rfl) ?_
  refine lv_icmp_ne (tgt := 12) hx hb dX7_seeks_2 (by decide) (fun c2_0 => ?_) (fun c2_0 => ?_)
  · have h := h.1 c2_0
    refine lv_iload hx hb dX7_seeks_12 (lv_at hl 4 rfl) ?_
    refine lv_istore (lv' := [(5, .int x4), (0, .ref (q 7)), (1, .int x1), (2, .int x2), (3, .int x3), (4, .int x4)]) hx hb dX7_seeks_14 hl (by decide) rfl (fun ls hl => ?_)
    obtain ⟨I16_2, ⟨n_2, h0⟩, hI16_2⟩ := h
    have LI16_2 : ∀ (n_2 : Nat) (v5_2 : Int32) (G_2 : GS) (H : Heap) (locs : List Loc) (ls : Array Slot), gH D cy q (gA q sz) s.heap G_2 H locs → lv_has ls 6 [(0, .ref (q 7)), (1, .int x1), (2, .int x2), (3, .int x3), (5, .int v5_2)] → I16_2 n_2 v5_2 G_2 → W p l e (headSpec wsX7_seeks rmX7_seeks_d0).room s m args below meth c H locs 0 0 (MQ below (va_Qi post (gPo D cy q sz) (gA q sz)) args s 0 0 (gA q sz)) (F0 m 16 ls []) := by
      intro n_2
      induction n_2 using Nat.strongRecOn with
      | ind n_2 ihI16_2 =>
        intro v5_2 G_2 H locs ls hw hl h
        have h := hI16_2 n_2 v5_2 G_2 h
        refine lv_iload hx hb dX7_seeks_16 (lv_at hl 4 rfl) ?_
        refine lv_aload_n hx hb dX7_seeks_18 rfl (lv_at hl 0 rfl) ?_
        refine g_get 7 29 (v := .int (G_2.1 7 29)) (C := RX7) (T := TX7) (N := 31) X hw (by decide) hinX7 rfl (by decide) (List.mem_cons_of_mem _ (List.mem_append_left _ (List.mem_of_getElem? (i := 0) rfl))) rfl dX7_seeks_19 ?_
        refine lv_icmp_ge (tgt := 62) hx hb dX7_seeks_22 (by decide) (fun c22_2 => ?_) (fun c22_2 => ?_)
        · have h := h.1 c22_2
          refine lv_iconst (v := 0) hx hb dX7_seeks_62 (by decide) ?_
          exact g_zret X hw hr hlk (by decide) h dX7_seeks_63
        · have h := h.2 c22_2
          refine lv_aload_n hx hb dX7_seeks_25 rfl (lv_at hl 0 rfl) ?_
          refine g_get 7 28 (v := .ref (q 34)) (C := RX7) (T := TX7) (N := 31) X hw (by decide) hinX7 rfl (by decide) (List.mem_cons_of_mem _ (List.mem_append_left _ (List.mem_of_getElem? (i := 1) rfl))) rfl dX7_seeks_26 ?_
          refine lv_iload_n hx hb dX7_seeks_29 rfl (lv_at hl 3 rfl) ?_
          refine lv_aload_n hx hb dX7_seeks_30 rfl (lv_at hl 0 rfl) ?_
          refine g_get 7 30 (v := .ref (q 35)) (C := RX7) (T := TX7) (N := 31) X hw (by decide) hinX7 rfl (by decide) (List.mem_cons_of_mem _ (List.mem_append_left _ (List.mem_of_getElem? (i := 2) rfl))) rfl dX7_seeks_31 ?_
          refine lv_iload hx hb dX7_seeks_34 (lv_at hl 4 rfl) ?_
          obtain ⟨j36_3, bj36_3, ej36_3, h⟩ := h
          refine g_iald 35 12 j36_3 X hw (Or.inr ⟨by decide, by decide⟩) rfl bj36_3 ej36_3 (by decide) dX7_seeks_36 ?_
          obtain ⟨j37_4, bj37_4, ej37_4, h⟩ := h
          refine g_iast 34 3 j37_4 X hw (Or.inr ⟨by decide, by decide⟩) rfl bj37_4 ej37_4 (by decide) dX7_seeks_37 (fun H locs hw => ?_)
          obtain ⟨G_6, eG_6⟩ : ∃ z, z = sI G_2 34 j37_4 (G_2.1 35 j36_3) := ⟨_, rfl⟩
          rw [← eG_6] at hw
          have h := h G_6 eG_6
          refine lv_aload_n hx hb dX7_seeks_38 rfl (lv_at hl 0 rfl) ?_
          refine lv_iload_n hx hb dX7_seeks_39 rfl (lv_at hl 1 rfl) ?_
          refine lv_iload_n hx hb dX7_seeks_40 rfl (lv_at hl 2 rfl) ?_
          refine lv_iload_n hx hb dX7_seeks_41 rfl (lv_at hl 3 rfl) ?_
          refine lv_iconst (v := 1) hx hb dX7_seeks_42 (by decide) ?_
          refine lv_iadd hx hb dX7_seeks_43 ?_
          refine lv_iload hx hb dX7_seeks_44 (lv_at hl 4 rfl) ?_
          refine lv_iconst (v := 1) hx hb dX7_seeks_46 (by decide) ?_
          refine lv_iadd hx hb dX7_seeks_47 ?_
          exact h.elim
    exact LI16_2 n_2 x4 G _ _ ls hw (lv_sub hl [1, 2, 3, 4, 0] rfl) h0
  · have h := h.2 c2_0
    refine lv_aload_n hx hb dX7_seeks_5 rfl (lv_at hl 0 rfl) ?_
    refine lv_iload_n hx hb dX7_seeks_6 rfl (lv_at hl 1 rfl) ?_
    refine lv_iload_n hx hb dX7_seeks_7 rfl (lv_at hl 2 rfl) ?_
    refine g_callVi 7 (C := RX7) (T := TX7) (N := 31) (As := [.int x1, .int x2]) (rest := []) X hw hA (m_X7_isMark l D cy q G x1 x2 _ h) (by decide) rfl (cwV 2 hts gX7_seeks_X7_isMark rfl rfl rfl (by decide +kernel) ⟨Nat.le_of_ble_eq_true rfl, Nat.le_of_ble_eq_true rfl⟩) rfl hl.1 rfl (Nat.le_of_ble_eq_true rfl) dX7_seeks_8 ⟨Nat.zero_le _, Nat.zero_le _⟩ (fun r_8 G_7 H locs h hw => ?_)
    exact g_zret X hw hr hlk h.1 h.2 dX7_seeks_11

abbrev rmX7_seeks_d1 : Room := { frames := 3, cells := 0, slots := 0, locals := 75 }
def wp_X7_seeks_d1 (G : GS) (x1 : Int32) (x2 : Int32) (x3 : Int32) (x4 : Int32) (post : Int32 → GS → Prop) : Prop :=
  (¬ x3 = x2 → (∃ I16_2 : Nat → Int32 → GS → Prop, (∃ n_2 : Nat, I16_2 n_2 x4 G) ∧ ∀ (n_2 : Nat) (v5_2 : Int32) (G_2 : GS), I16_2 n_2 v5_2 G_2 → (((G_2.1 7 29) ≤ v5_2 → (post 0 G_2)) ∧ (¬ ((G_2.1 7 29) ≤ v5_2) → (∃ j36_3 : Nat, j36_3 < 12 ∧ v5_2 = nI j36_3 ∧ (∃ j37_4 : Nat, j37_4 < 3 ∧ x3 = nI j37_4 ∧ (∀ G_6 : GS, G_6 = sI G_2 34 j37_4 (G_2.1 35 j36_3) → (wp_X7_seeks_d0 G_6 x1 x2 (x3 + 1) (v5_2 + 1) (fun r_8 G_7 => (r_8 = 0 → (∃ k_11 : Nat, k_11 < n_2 ∧ I16_2 k_11 (v5_2 + 1) G_7)) ∧ (¬ (r_8 = 0) → (post 1 G_7))))))))))) ∧ (x3 = x2 → (wp_X7_isMark G x1 x2 (fun r_13 G_12 => (r_13 = 0 ∨ r_13 = 1) ∧ post r_13 G_12)))
set_option maxHeartbeats 4000000 in
set_option maxRecDepth 100000 in
theorem m_X7_seeks_d1 (l : Launch) (D : va_G) (cy : Nat → ClassId) (q : Nat → Nat) (G : GS) (x1 : Int32) (x2 : Int32) (x3 : Int32) (x4 : Int32) (post : Int32 → GS → Prop) (h : wp_X7_seeks_d1 G x1 x2 x3 x4 post) : gMi l yX7_seeks wsX7_seeks rmX7_seeks_d1 D cy q [.ref (q 7), .int x1, .int x2, .int x3, .int x4] G post := by
  intro sz
  refine Met.ofW (cc := cX7_seeks) (maxL := 6) (ret := (some .boolean)) (by decide) rfl ?_
  intro p e s m args below meth c s₁ B hml hv
  obtain ⟨ha, hsz, X, hw, hA, hr, hlk⟩ := g_start B hml hv
  have hx := X.1.1
  have hb := X.1.2.1
  have hown := X.1.2.2.2.1
  have hts := X.1.2.2.2.2
  refine g_in ha (Nat.le_of_ble_eq_true rfl) (fun ls hl => ?_)
  have hl : lv_has ls 6 [(0, .ref (q 7)), (1, .int x1), (2, .int x2), (3, .int x3), (4, .int x4)] := hl
  unfold wp_X7_seeks_d1 at h
  have hinX7 : ∀ w ∈ wsX70, w ∈ wsX7_seeks := fun _ h9 => (List.mem_cons_of_mem _ (List.mem_append_right _ h9))
  refine lv_iload_n hx hb dX7_seeks_0 rfl (lv_at hl 3 rfl) ?_
  refine lv_iload_n hx hb dX7_seeks_1 rfl (lv_at hl 2 rfl) ?_
  refine lv_icmp_ne (tgt := 12) hx hb dX7_seeks_2 (by decide) (fun c2_0 => ?_) (fun c2_0 => ?_)
  · have h := h.1 c2_0
    refine lv_iload hx hb dX7_seeks_12 (lv_at hl 4 rfl) ?_
    refine lv_istore (lv' := [(5, .int x4), (0, .ref (q 7)), (1, .int x1), (2, .int x2), (3, .int x3), (4, .int x4)]) hx hb dX7_seeks_14 hl (by decide) rfl (fun ls hl => ?_)
    obtain ⟨I16_2, ⟨n_2, h0⟩, hI16_2⟩ := h
    have LI16_2 : ∀ (n_2 : Nat) (v5_2 : Int32) (G_2 : GS) (H : Heap) (locs : List Loc) (ls : Array Slot), gH D cy q (gA q sz) s.heap G_2 H locs → lv_has ls 6 [(0, .ref (q 7)), (1, .int x1), (2, .int x2), (3, .int x3), (5, .int v5_2)] → I16_2 n_2 v5_2 G_2 → W p l e (headSpec wsX7_seeks rmX7_seeks_d1).room s m args below meth c H locs 0 0 (MQ below (va_Qi post (gPo D cy q sz) (gA q sz)) args s 0 0 (gA q sz)) (F0 m 16 ls []) := by
      intro n_2
      induction n_2 using Nat.strongRecOn with
      | ind n_2 ihI16_2 =>
        intro v5_2 G_2 H locs ls hw hl h
        have h := hI16_2 n_2 v5_2 G_2 h
        refine lv_iload hx hb dX7_seeks_16 (lv_at hl 4 rfl) ?_
        refine lv_aload_n hx hb dX7_seeks_18 rfl (lv_at hl 0 rfl) ?_
        refine g_get 7 29 (v := .int (G_2.1 7 29)) (C := RX7) (T := TX7) (N := 31) X hw (by decide) hinX7 rfl (by decide) (List.mem_cons_of_mem _ (List.mem_append_left _ (List.mem_of_getElem? (i := 0) rfl))) rfl dX7_seeks_19 ?_
        refine lv_icmp_ge (tgt := 62) hx hb dX7_seeks_22 (by decide) (fun c22_2 => ?_) (fun c22_2 => ?_)
        · have h := h.1 c22_2
          refine lv_iconst (v := 0) hx hb dX7_seeks_62 (by decide) ?_
          exact g_zret X hw hr hlk (by decide) h dX7_seeks_63
        · have h := h.2 c22_2
          refine lv_aload_n hx hb dX7_seeks_25 rfl (lv_at hl 0 rfl) ?_
          refine g_get 7 28 (v := .ref (q 34)) (C := RX7) (T := TX7) (N := 31) X hw (by decide) hinX7 rfl (by decide) (List.mem_cons_of_mem _ (List.mem_append_left _ (List.mem_of_getElem? (i := 1) rfl))) rfl dX7_seeks_26 ?_
          refine lv_iload_n hx hb dX7_seeks_29 rfl (lv_at hl 3 rfl) ?_
          refine lv_aload_n hx hb dX7_seeks_30 rfl (lv_at hl 0 rfl) ?_
          refine g_get 7 30 (v := .ref (q 35)) (C := RX7) (T := TX7) (N := 31) X hw (by decide) hinX7 rfl (by decide) (List.mem_cons_of_mem _ (List.mem_append_left _ (List.mem_of_getElem? (i := 2) rfl))) rfl dX7_seeks_31 ?_
          refine lv_iload hx hb dX7_seeks_34 (lv_at hl 4 rfl) ?_
          obtain ⟨j36_3, bj36_3, ej36_3, h⟩ := h
          refine g_iald 35 12 j36_3 X hw (Or.inr ⟨by decide, by decide⟩) rfl bj36_3 ej36_3 (by decide) dX7_seeks_36 ?_
          obtain ⟨j37_4, bj37_4, ej37_4, h⟩ := h
          refine g_iast 34 3 j37_4 X hw (Or.inr ⟨by decide, by decide⟩) rfl bj37_4 ej37_4 (by decide) dX7_seeks_37 (fun H locs hw => ?_)
          obtain ⟨G_6, eG_6⟩ : ∃ z, z = sI G_2 34 j37_4 (G_2.1 35 j36_3) := ⟨_, rfl⟩
          rw [← eG_6] at hw
          have h := h G_6 eG_6
          refine lv_aload_n hx hb dX7_seeks_38 rfl (lv_at hl 0 rfl) ?_
          refine lv_iload_n hx hb dX7_seeks_39 rfl (lv_at hl 1 rfl) ?_
          refine lv_iload_n hx hb dX7_seeks_40 rfl (lv_at hl 2 rfl) ?_
          refine lv_iload_n hx hb dX7_seeks_41 rfl (lv_at hl 3 rfl) ?_
          refine lv_iconst (v := 1) hx hb dX7_seeks_42 (by decide) ?_
          refine lv_iadd hx hb dX7_seeks_43 ?_
          refine lv_iload hx hb dX7_seeks_44 (lv_at hl 4 rfl) ?_
          refine lv_iconst (v := 1) hx hb dX7_seeks_46 (by decide) ?_
          refine lv_iadd hx hb dX7_seeks_47 ?_
          refine g_callVi 7 (C := RX7) (T := TX7) (N := 31) (As := [.int x1, .int x2, .int (x3 + 1), .int (v5_2 + 1)]) (rest := []) X hw hA (m_X7_seeks_d0 l D cy q G_6 x1 x2 (x3 + 1) (v5_2 + 1) _ h) (by decide) rfl (cwV 4 hts gX7_seeks_X7_seeks rfl rfl rfl (by decide +kernel) ⟨Nat.le_of_ble_eq_true rfl, Nat.le_of_ble_eq_true rfl⟩) rfl hl.1 rfl (Nat.le_of_ble_eq_true rfl) dX7_seeks_48 ⟨Nat.zero_le _, Nat.zero_le _⟩ (fun r_8 G_7 H locs h hw => ?_)
          refine lv_if_eq (tgt := 56) hx hb dX7_seeks_51 (by decide) (fun c51_8 => ?_) (fun c51_8 => ?_)
          · have h := h.1 c51_8
            refine lv_iinc (v := v5_2 + 1) (lv' := [(5, .int (v5_2 + 1)), (0, .ref (q 7)), (1, .int x1), (2, .int x2), (3, .int x3)]) hx hb dX7_seeks_56 hl (k := 4) rfl rfl (by decide) rfl (fun ls hl => ?_)
            refine lv_goto (tgt := 16) hx hb dX7_seeks_59 (by decide) ?_
            obtain ⟨k_11, hm, h⟩ := h
            exact ihI16_2 k_11 hm (v5_2 + 1) G_7 _ _ ls hw (lv_sub hl [1, 2, 3, 4, 0] rfl) h
          · have h := h.2 c51_8
            refine lv_iconst (v := 1) hx hb dX7_seeks_54 (by decide) ?_
            exact g_zret X hw hr hlk (by decide) h dX7_seeks_55
    exact LI16_2 n_2 x4 G _ _ ls hw (lv_sub hl [1, 2, 3, 4, 0] rfl) h0
  · have h := h.2 c2_0
    refine lv_aload_n hx hb dX7_seeks_5 rfl (lv_at hl 0 rfl) ?_
    refine lv_iload_n hx hb dX7_seeks_6 rfl (lv_at hl 1 rfl) ?_
    refine lv_iload_n hx hb dX7_seeks_7 rfl (lv_at hl 2 rfl) ?_
    refine g_callVi 7 (C := RX7) (T := TX7) (N := 31) (As := [.int x1, .int x2]) (rest := []) X hw hA (m_X7_isMark l D cy q G x1 x2 _ h) (by decide) rfl (cwV 2 hts gX7_seeks_X7_isMark rfl rfl rfl (by decide +kernel) ⟨Nat.le_of_ble_eq_true rfl, Nat.le_of_ble_eq_true rfl⟩) rfl hl.1 rfl (Nat.le_of_ble_eq_true rfl) dX7_seeks_8 ⟨Nat.zero_le _, Nat.zero_le _⟩ (fun r_13 G_12 H locs h hw => ?_)
    exact g_zret X hw hr hlk h.1 h.2 dX7_seeks_11

abbrev rmX7_seeks_d2 : Room := { frames := 4, cells := 0, slots := 0, locals := 100 }
def wp_X7_seeks_d2 (G : GS) (x1 : Int32) (x2 : Int32) (x3 : Int32) (x4 : Int32) (post : Int32 → GS → Prop) : Prop :=
  (¬ x3 = x2 → (∃ I16_2 : Nat → Int32 → GS → Prop, (∃ n_2 : Nat, I16_2 n_2 x4 G) ∧ ∀ (n_2 : Nat) (v5_2 : Int32) (G_2 : GS), I16_2 n_2 v5_2 G_2 → (((G_2.1 7 29) ≤ v5_2 → (post 0 G_2)) ∧ (¬ ((G_2.1 7 29) ≤ v5_2) → (∃ j36_3 : Nat, j36_3 < 12 ∧ v5_2 = nI j36_3 ∧ (∃ j37_4 : Nat, j37_4 < 3 ∧ x3 = nI j37_4 ∧ (∀ G_6 : GS, G_6 = sI G_2 34 j37_4 (G_2.1 35 j36_3) → (wp_X7_seeks_d1 G_6 x1 x2 (x3 + 1) (v5_2 + 1) (fun r_8 G_7 => (r_8 = 0 → (∃ k_11 : Nat, k_11 < n_2 ∧ I16_2 k_11 (v5_2 + 1) G_7)) ∧ (¬ (r_8 = 0) → (post 1 G_7))))))))))) ∧ (x3 = x2 → (wp_X7_isMark G x1 x2 (fun r_13 G_12 => (r_13 = 0 ∨ r_13 = 1) ∧ post r_13 G_12)))
set_option maxHeartbeats 4000000 in
set_option maxRecDepth 100000 in
theorem m_X7_seeks_d2 (l : Launch) (D : va_G) (cy : Nat → ClassId) (q : Nat → Nat) (G : GS) (x1 : Int32) (x2 : Int32) (x3 : Int32) (x4 : Int32) (post : Int32 → GS → Prop) (h : wp_X7_seeks_d2 G x1 x2 x3 x4 post) : gMi l yX7_seeks wsX7_seeks rmX7_seeks_d2 D cy q [.ref (q 7), .int x1, .int x2, .int x3, .int x4] G post := by
  intro sz
  refine Met.ofW (cc := cX7_seeks) (maxL := 6) (ret := (some .boolean)) (by decide) rfl ?_
  intro p e s m args below meth c s₁ B hml hv
  obtain ⟨ha, hsz, X, hw, hA, hr, hlk⟩ := g_start B hml hv
  have hx := X.1.1
  have hb := X.1.2.1
  have hown := X.1.2.2.2.1
  have hts := X.1.2.2.2.2
  refine g_in ha (Nat.le_of_ble_eq_true rfl) (fun ls hl => ?_)
  have hl : lv_has ls 6 [(0, .ref (q 7)), (1, .int x1), (2, .int x2), (3, .int x3), (4, .int x4)] := hl
  unfold wp_X7_seeks_d2 at h
  have hinX7 : ∀ w ∈ wsX70, w ∈ wsX7_seeks := fun _ h9 => (List.mem_cons_of_mem _ (List.mem_append_right _ h9))
  refine lv_iload_n hx hb dX7_seeks_0 rfl (lv_at hl 3 rfl) ?_
  refine lv_iload_n hx hb dX7_seeks_1 rfl (lv_at hl 2 rfl) ?_
  refine lv_icmp_ne (tgt := 12) hx hb dX7_seeks_2 (by decide) (fun c2_0 => ?_) (fun c2_0 => ?_)
  · have h := h.1 c2_0
    refine lv_iload hx hb dX7_seeks_12 (lv_at hl 4 rfl) ?_
    refine lv_istore (lv' := [(5, .int x4), (0, .ref (q 7)), (1, .int x1), (2, .int x2), (3, .int x3), (4, .int x4)]) hx hb dX7_seeks_14 hl (by decide) rfl (fun ls hl => ?_)
    obtain ⟨I16_2, ⟨n_2, h0⟩, hI16_2⟩ := h
    have LI16_2 : ∀ (n_2 : Nat) (v5_2 : Int32) (G_2 : GS) (H : Heap) (locs : List Loc) (ls : Array Slot), gH D cy q (gA q sz) s.heap G_2 H locs → lv_has ls 6 [(0, .ref (q 7)), (1, .int x1), (2, .int x2), (3, .int x3), (5, .int v5_2)] → I16_2 n_2 v5_2 G_2 → W p l e (headSpec wsX7_seeks rmX7_seeks_d2).room s m args below meth c H locs 0 0 (MQ below (va_Qi post (gPo D cy q sz) (gA q sz)) args s 0 0 (gA q sz)) (F0 m 16 ls []) := by
      intro n_2
      induction n_2 using Nat.strongRecOn with
      | ind n_2 ihI16_2 =>
        intro v5_2 G_2 H locs ls hw hl h
        have h := hI16_2 n_2 v5_2 G_2 h
        refine lv_iload hx hb dX7_seeks_16 (lv_at hl 4 rfl) ?_
        refine lv_aload_n hx hb dX7_seeks_18 rfl (lv_at hl 0 rfl) ?_
        refine g_get 7 29 (v := .int (G_2.1 7 29)) (C := RX7) (T := TX7) (N := 31) X hw (by decide) hinX7 rfl (by decide) (List.mem_cons_of_mem _ (List.mem_append_left _ (List.mem_of_getElem? (i := 0) rfl))) rfl dX7_seeks_19 ?_
        refine lv_icmp_ge (tgt := 62) hx hb dX7_seeks_22 (by decide) (fun c22_2 => ?_) (fun c22_2 => ?_)
        · have h := h.1 c22_2
          refine lv_iconst (v := 0) hx hb dX7_seeks_62 (by decide) ?_
          exact g_zret X hw hr hlk (by decide) h dX7_seeks_63
        · have h := h.2 c22_2
          refine lv_aload_n hx hb dX7_seeks_25 rfl (lv_at hl 0 rfl) ?_
          refine g_get 7 28 (v := .ref (q 34)) (C := RX7) (T := TX7) (N := 31) X hw (by decide) hinX7 rfl (by decide) (List.mem_cons_of_mem _ (List.mem_append_left _ (List.mem_of_getElem? (i := 1) rfl))) rfl dX7_seeks_26 ?_
          refine lv_iload_n hx hb dX7_seeks_29 rfl (lv_at hl 3 rfl) ?_
          refine lv_aload_n hx hb dX7_seeks_30 rfl (lv_at hl 0 rfl) ?_
          refine g_get 7 30 (v := .ref (q 35)) (C := RX7) (T := TX7) (N := 31) X hw (by decide) hinX7 rfl (by decide) (List.mem_cons_of_mem _ (List.mem_append_left _ (List.mem_of_getElem? (i := 2) rfl))) rfl dX7_seeks_31 ?_
          refine lv_iload hx hb dX7_seeks_34 (lv_at hl 4 rfl) ?_
          obtain ⟨j36_3, bj36_3, ej36_3, h⟩ := h
          refine g_iald 35 12 j36_3 X hw (Or.inr ⟨by decide, by decide⟩) rfl bj36_3 ej36_3 (by decide) dX7_seeks_36 ?_
          obtain ⟨j37_4, bj37_4, ej37_4, h⟩ := h
          refine g_iast 34 3 j37_4 X hw (Or.inr ⟨by decide, by decide⟩) rfl bj37_4 ej37_4 (by decide) dX7_seeks_37 (fun H locs hw => ?_)
          obtain ⟨G_6, eG_6⟩ : ∃ z, z = sI G_2 34 j37_4 (G_2.1 35 j36_3) := ⟨_, rfl⟩
          rw [← eG_6] at hw
          have h := h G_6 eG_6
          refine lv_aload_n hx hb dX7_seeks_38 rfl (lv_at hl 0 rfl) ?_
          refine lv_iload_n hx hb dX7_seeks_39 rfl (lv_at hl 1 rfl) ?_
          refine lv_iload_n hx hb dX7_seeks_40 rfl (lv_at hl 2 rfl) ?_
          refine lv_iload_n hx hb dX7_seeks_41 rfl (lv_at hl 3 rfl) ?_
          refine lv_iconst (v := 1) hx hb dX7_seeks_42 (by decide) ?_
          refine lv_iadd hx hb dX7_seeks_43 ?_
          refine lv_iload hx hb dX7_seeks_44 (lv_at hl 4 rfl) ?_
          refine lv_iconst (v := 1) hx hb dX7_seeks_46 (by decide) ?_
          refine lv_iadd hx hb dX7_seeks_47 ?_
          refine g_callVi 7 (C := RX7) (T := TX7) (N := 31) (As := [.int x1, .int x2, .int (x3 + 1), .int (v5_2 + 1)]) (rest := []) X hw hA (m_X7_seeks_d1 l D cy q G_6 x1 x2 (x3 + 1) (v5_2 + 1) _ h) (by decide) rfl (cwV 4 hts gX7_seeks_X7_seeks rfl rfl rfl (by decide +kernel) ⟨Nat.le_of_ble_eq_true rfl, Nat.le_of_ble_eq_true rfl⟩) rfl hl.1 rfl (Nat.le_of_ble_eq_true rfl) dX7_seeks_48 ⟨Nat.zero_le _, Nat.zero_le _⟩ (fun r_8 G_7 H locs h hw => ?_)
          refine lv_if_eq (tgt := 56) hx hb dX7_seeks_51 (by decide) (fun c51_8 => ?_) (fun c51_8 => ?_)
          · have h := h.1 c51_8
            refine lv_iinc (v := v5_2 + 1) (lv' := [(5, .int (v5_2 + 1)), (0, .ref (q 7)), (1, .int x1), (2, .int x2), (3, .int x3)]) hx hb dX7_seeks_56 hl (k := 4) rfl rfl (by decide) rfl (fun ls hl => ?_)
            refine lv_goto (tgt := 16) hx hb dX7_seeks_59 (by decide) ?_
            obtain ⟨k_11, hm, h⟩ := h
            exact ihI16_2 k_11 hm (v5_2 + 1) G_7 _ _ ls hw (lv_sub hl [1, 2, 3, 4, 0] rfl) h
          · have h := h.2 c51_8
            refine lv_iconst (v := 1) hx hb dX7_seeks_54 (by decide) ?_
            exact g_zret X hw hr hlk (by decide) h dX7_seeks_55
    exact LI16_2 n_2 x4 G _ _ ls hw (lv_sub hl [1, 2, 3, 4, 0] rfl) h0
  · have h := h.2 c2_0
    refine lv_aload_n hx hb dX7_seeks_5 rfl (lv_at hl 0 rfl) ?_
    refine lv_iload_n hx hb dX7_seeks_6 rfl (lv_at hl 1 rfl) ?_
    refine lv_iload_n hx hb dX7_seeks_7 rfl (lv_at hl 2 rfl) ?_
    refine g_callVi 7 (C := RX7) (T := TX7) (N := 31) (As := [.int x1, .int x2]) (rest := []) X hw hA (m_X7_isMark l D cy q G x1 x2 _ h) (by decide) rfl (cwV 2 hts gX7_seeks_X7_isMark rfl rfl rfl (by decide +kernel) ⟨Nat.le_of_ble_eq_true rfl, Nat.le_of_ble_eq_true rfl⟩) rfl hl.1 rfl (Nat.le_of_ble_eq_true rfl) dX7_seeks_8 ⟨Nat.zero_le _, Nat.zero_le _⟩ (fun r_13 G_12 H locs h hw => ?_)
    exact g_zret X hw hr hlk h.1 h.2 dX7_seeks_11

abbrev rmX7_seeks_d3 : Room := { frames := 5, cells := 0, slots := 0, locals := 125 }
def wp_X7_seeks_d3 (G : GS) (x1 : Int32) (x2 : Int32) (x3 : Int32) (x4 : Int32) (post : Int32 → GS → Prop) : Prop :=
  (¬ x3 = x2 → (∃ I16_2 : Nat → Int32 → GS → Prop, (∃ n_2 : Nat, I16_2 n_2 x4 G) ∧ ∀ (n_2 : Nat) (v5_2 : Int32) (G_2 : GS), I16_2 n_2 v5_2 G_2 → (((G_2.1 7 29) ≤ v5_2 → (post 0 G_2)) ∧ (¬ ((G_2.1 7 29) ≤ v5_2) → (∃ j36_3 : Nat, j36_3 < 12 ∧ v5_2 = nI j36_3 ∧ (∃ j37_4 : Nat, j37_4 < 3 ∧ x3 = nI j37_4 ∧ (∀ G_6 : GS, G_6 = sI G_2 34 j37_4 (G_2.1 35 j36_3) → (wp_X7_seeks_d2 G_6 x1 x2 (x3 + 1) (v5_2 + 1) (fun r_8 G_7 => (r_8 = 0 → (∃ k_11 : Nat, k_11 < n_2 ∧ I16_2 k_11 (v5_2 + 1) G_7)) ∧ (¬ (r_8 = 0) → (post 1 G_7))))))))))) ∧ (x3 = x2 → (wp_X7_isMark G x1 x2 (fun r_13 G_12 => (r_13 = 0 ∨ r_13 = 1) ∧ post r_13 G_12)))
set_option maxHeartbeats 4000000 in
set_option maxRecDepth 100000 in
theorem m_X7_seeks_d3 (l : Launch) (D : va_G) (cy : Nat → ClassId) (q : Nat → Nat) (G : GS) (x1 : Int32) (x2 : Int32) (x3 : Int32) (x4 : Int32) (post : Int32 → GS → Prop) (h : wp_X7_seeks_d3 G x1 x2 x3 x4 post) : gMi l yX7_seeks wsX7_seeks rmX7_seeks_d3 D cy q [.ref (q 7), .int x1, .int x2, .int x3, .int x4] G post := by
  intro sz
  refine Met.ofW (cc := cX7_seeks) (maxL := 6) (ret := (some .boolean)) (by decide) rfl ?_
  intro p e s m args below meth c s₁ B hml hv
  obtain ⟨ha, hsz, X, hw, hA, hr, hlk⟩ := g_start B hml hv
  have hx := X.1.1
  have hb := X.1.2.1
  have hown := X.1.2.2.2.1
  have hts := X.1.2.2.2.2
  refine g_in ha (Nat.le_of_ble_eq_true rfl) (fun ls hl => ?_)
  have hl : lv_has ls 6 [(0, .ref (q 7)), (1, .int x1), (2, .int x2), (3, .int x3), (4, .int x4)] := hl
  unfold wp_X7_seeks_d3 at h
  have hinX7 : ∀ w ∈ wsX70, w ∈ wsX7_seeks := fun _ h9 => (List.mem_cons_of_mem _ (List.mem_append_right _ h9))
  refine lv_iload_n hx hb dX7_seeks_0 rfl (lv_at hl 3 rfl) ?_
  refine lv_iload_n hx hb dX7_seeks_1 rfl (lv_at hl 2 rfl) ?_
  refine lv_icmp_ne (tgt := 12) hx hb dX7_seeks_2 (by decide) (fun c2_0 => ?_) (fun c2_0 => ?_)
  · have h := h.1 c2_0
    refine lv_iload hx hb dX7_seeks_12 (lv_at hl 4 rfl) ?_
    refine lv_istore (lv' := [(5, .int x4), (0, .ref (q 7)), (1, .int x1), (2, .int x2), (3, .int x3), (4, .int x4)]) hx hb dX7_seeks_14 hl (by decide) rfl (fun ls hl => ?_)
    obtain ⟨I16_2, ⟨n_2, h0⟩, hI16_2⟩ := h
    have LI16_2 : ∀ (n_2 : Nat) (v5_2 : Int32) (G_2 : GS) (H : Heap) (locs : List Loc) (ls : Array Slot), gH D cy q (gA q sz) s.heap G_2 H locs → lv_has ls 6 [(0, .ref (q 7)), (1, .int x1), (2, .int x2), (3, .int x3), (5, .int v5_2)] → I16_2 n_2 v5_2 G_2 → W p l e (headSpec wsX7_seeks rmX7_seeks_d3).room s m args below meth c H locs 0 0 (MQ below (va_Qi post (gPo D cy q sz) (gA q sz)) args s 0 0 (gA q sz)) (F0 m 16 ls []) := by
      intro n_2
      induction n_2 using Nat.strongRecOn with
      | ind n_2 ihI16_2 =>
        intro v5_2 G_2 H locs ls hw hl h
        have h := hI16_2 n_2 v5_2 G_2 h
        refine lv_iload hx hb dX7_seeks_16 (lv_at hl 4 rfl) ?_
        refine lv_aload_n hx hb dX7_seeks_18 rfl (lv_at hl 0 rfl) ?_
        refine g_get 7 29 (v := .int (G_2.1 7 29)) (C := RX7) (T := TX7) (N := 31) X hw (by decide) hinX7 rfl (by decide) (List.mem_cons_of_mem _ (List.mem_append_left _ (List.mem_of_getElem? (i := 0) rfl))) rfl dX7_seeks_19 ?_
        refine lv_icmp_ge (tgt := 62) hx hb dX7_seeks_22 (by decide) (fun c22_2 => ?_) (fun c22_2 => ?_)
        · have h := h.1 c22_2
          refine lv_iconst (v := 0) hx hb dX7_seeks_62 (by decide) ?_
          exact g_zret X hw hr hlk (by decide) h dX7_seeks_63
        · have h := h.2 c22_2
          refine lv_aload_n hx hb dX7_seeks_25 rfl (lv_at hl 0 rfl) ?_
          refine g_get 7 28 (v := .ref (q 34)) (C := RX7) (T := TX7) (N := 31) X hw (by decide) hinX7 rfl (by decide) (List.mem_cons_of_mem _ (List.mem_append_left _ (List.mem_of_getElem? (i := 1) rfl))) rfl dX7_seeks_26 ?_
          refine lv_iload_n hx hb dX7_seeks_29 rfl (lv_at hl 3 rfl) ?_
          refine lv_aload_n hx hb dX7_seeks_30 rfl (lv_at hl 0 rfl) ?_
          refine g_get 7 30 (v := .ref (q 35)) (C := RX7) (T := TX7) (N := 31) X hw (by decide) hinX7 rfl (by decide) (List.mem_cons_of_mem _ (List.mem_append_left _ (List.mem_of_getElem? (i := 2) rfl))) rfl dX7_seeks_31 ?_
          refine lv_iload hx hb dX7_seeks_34 (lv_at hl 4 rfl) ?_
          obtain ⟨j36_3, bj36_3, ej36_3, h⟩ := h
          refine g_iald 35 12 j36_3 X hw (Or.inr ⟨by decide, by decide⟩) rfl bj36_3 ej36_3 (by decide) dX7_seeks_36 ?_
          obtain ⟨j37_4, bj37_4, ej37_4, h⟩ := h
          refine g_iast 34 3 j37_4 X hw (Or.inr ⟨by decide, by decide⟩) rfl bj37_4 ej37_4 (by decide) dX7_seeks_37 (fun H locs hw => ?_)
          obtain ⟨G_6, eG_6⟩ : ∃ z, z = sI G_2 34 j37_4 (G_2.1 35 j36_3) := ⟨_, rfl⟩
          rw [← eG_6] at hw
          have h := h G_6 eG_6
          refine lv_aload_n hx hb dX7_seeks_38 rfl (lv_at hl 0 rfl) ?_
          refine lv_iload_n hx hb dX7_seeks_39 rfl (lv_at hl 1 rfl) ?_
          refine lv_iload_n hx hb dX7_seeks_40 rfl (lv_at hl 2 rfl) ?_
          refine lv_iload_n hx hb dX7_seeks_41 rfl (lv_at hl 3 rfl) ?_
          refine lv_iconst (v := 1) hx hb dX7_seeks_42 (by decide) ?_
          refine lv_iadd hx hb dX7_seeks_43 ?_
          refine lv_iload hx hb dX7_seeks_44 (lv_at hl 4 rfl) ?_
          refine lv_iconst (v := 1) hx hb dX7_seeks_46 (by decide) ?_
          refine lv_iadd hx hb dX7_seeks_47 ?_
          refine g_callVi 7 (C := RX7) (T := TX7) (N := 31) (As := [.int x1, .int x2, .int (x3 + 1), .int (v5_2 + 1)]) (rest := []) X hw hA (m_X7_seeks_d2 l D cy q G_6 x1 x2 (x3 + 1) (v5_2 + 1) _ h) (by decide) rfl (cwV 4 hts gX7_seeks_X7_seeks rfl rfl rfl (by decide +kernel) ⟨Nat.le_of_ble_eq_true rfl, Nat.le_of_ble_eq_true rfl⟩) rfl hl.1 rfl (Nat.le_of_ble_eq_true rfl) dX7_seeks_48 ⟨Nat.zero_le _, Nat.zero_le _⟩ (fun r_8 G_7 H locs h hw => ?_)
          refine lv_if_eq (tgt := 56) hx hb dX7_seeks_51 (by decide) (fun c51_8 => ?_) (fun c51_8 => ?_)
          · have h := h.1 c51_8
            refine lv_iinc (v := v5_2 + 1) (lv' := [(5, .int (v5_2 + 1)), (0, .ref (q 7)), (1, .int x1), (2, .int x2), (3, .int x3)]) hx hb dX7_seeks_56 hl (k := 4) rfl rfl (by decide) rfl (fun ls hl => ?_)
            refine lv_goto (tgt := 16) hx hb dX7_seeks_59 (by decide) ?_
            obtain ⟨k_11, hm, h⟩ := h
            exact ihI16_2 k_11 hm (v5_2 + 1) G_7 _ _ ls hw (lv_sub hl [1, 2, 3, 4, 0] rfl) h
          · have h := h.2 c51_8
            refine lv_iconst (v := 1) hx hb dX7_seeks_54 (by decide) ?_
            exact g_zret X hw hr hlk (by decide) h dX7_seeks_55
    exact LI16_2 n_2 x4 G _ _ ls hw (lv_sub hl [1, 2, 3, 4, 0] rfl) h0
  · have h := h.2 c2_0
    refine lv_aload_n hx hb dX7_seeks_5 rfl (lv_at hl 0 rfl) ?_
    refine lv_iload_n hx hb dX7_seeks_6 rfl (lv_at hl 1 rfl) ?_
    refine lv_iload_n hx hb dX7_seeks_7 rfl (lv_at hl 2 rfl) ?_
    refine g_callVi 7 (C := RX7) (T := TX7) (N := 31) (As := [.int x1, .int x2]) (rest := []) X hw hA (m_X7_isMark l D cy q G x1 x2 _ h) (by decide) rfl (cwV 2 hts gX7_seeks_X7_isMark rfl rfl rfl (by decide +kernel) ⟨Nat.le_of_ble_eq_true rfl, Nat.le_of_ble_eq_true rfl⟩) rfl hl.1 rfl (Nat.le_of_ble_eq_true rfl) dX7_seeks_8 ⟨Nat.zero_le _, Nat.zero_le _⟩ (fun r_13 G_12 H locs h hw => ?_)
    exact g_zret X hw hr hlk h.1 h.2 dX7_seeks_11

abbrev rmX7_sign : Room := { frames := 6, cells := 0, slots := 0, locals := 150 }
def wp_X7_sign (G : GS) (x1 : Int32) (post : Int32 → GS → Prop) : Prop :=
  ∀ G_1 : GS, G_1 = sI G 7 0 0 → (wp_X7_isReport G_1 x1 (fun r_3 G_2 => (¬ r_3 = 0 → (∃ j21_4 : Nat, j21_4 < 40 ∧ x1 = nI j21_4 ∧ (wp_X7_findShared G_2 (G_2.1 26 j21_4) (fun G_6 => ∃ I27_8 : Nat → Int32 → GS → Prop, (∃ n_8 : Nat, I27_8 n_8 0 G_6) ∧ ∀ (n_8 : Nat) (v2_8 : Int32) (G_8 : GS), I27_8 n_8 v2_8 G_8 → ((3 < v2_8 → (post (-1) G_8)) ∧ (¬ (3 < v2_8) → (∃ j38_9 : Nat, j38_9 < 40 ∧ x1 = nI j38_9 ∧ (wp_X7_seeks_d3 G_8 (G_8.1 26 j38_9) v2_8 0 0 (fun r_12 G_11 => (r_12 = 0 → (∃ k_15 : Nat, k_15 < n_8 ∧ I27_8 k_15 (v2_8 + 1) G_11)) ∧ (¬ (r_12 = 0) → (∀ G_16 : GS, G_16 = sI G_11 7 26 v2_8 → (∃ I55_17 : Nat → Int32 → GS → Prop, (∃ n_17 : Nat, I55_17 n_17 0 G_16) ∧ ∀ (n_17 : Nat) (v3_17 : Int32) (G_17 : GS), I55_17 n_17 v3_17 G_17 → ((v2_8 ≤ v3_17 → (post v2_8 G_17)) ∧ (¬ (v2_8 ≤ v3_17) → (∃ j70_18 : Nat, j70_18 < 3 ∧ v3_17 = nI j70_18 ∧ (∃ j71_19 : Nat, j71_19 < 3 ∧ v3_17 = nI j71_19 ∧ (∀ G_21 : GS, G_21 = sI G_17 33 j71_19 (G_17.1 34 j70_18) → (∃ k_23 : Nat, k_23 < n_17 ∧ I55_17 k_23 (v3_17 + 1) G_21)))))))))))))))))) ∧ (r_3 = 0 → (post (-1) G_2))))
set_option maxHeartbeats 4000000 in
set_option maxRecDepth 100000 in
theorem m_X7_sign (l : Launch) (D : va_G) (cy : Nat → ClassId) (q : Nat → Nat) (G : GS) (x1 : Int32) (post : Int32 → GS → Prop) (h : wp_X7_sign G x1 post) : gMi l yX7_sign wsX7_sign rmX7_sign D cy q [.ref (q 7), .int x1] G post := by
  intro sz
  refine Met.ofW (cc := cX7_sign) (maxL := 4) (ret := (some .int)) (by decide) rfl ?_
  intro p e s m args below meth c s₁ B hml hv
  obtain ⟨ha, hsz, X, hw, hA, hr, hlk⟩ := g_start B hml hv
  have hx := X.1.1
  have hb := X.1.2.1
  have hown := X.1.2.2.2.1
  have hts := X.1.2.2.2.2
  refine g_in ha (Nat.le_of_ble_eq_true rfl) (fun ls hl => ?_)
  have hl : lv_has ls 4 [(0, .ref (q 7)), (1, .int x1)] := hl
  unfold wp_X7_sign at h
  have hinX7 : ∀ w ∈ wsX70, w ∈ wsX7_sign := fun _ h9 => (List.mem_cons_of_mem _ (List.mem_append_right _ h9))
  refine lv_aload_n hx hb dX7_sign_0 rfl (lv_at hl 0 rfl) ?_
  refine lv_iconst (v := 0) hx hb dX7_sign_1 (by decide) ?_
  refine g_put 7 0 (v := 0) (ty := .int) (C := RX7) (T := TX7) (N := 31) X hw (by decide) hinX7 tyX7_ok nmX7 rfl (by decide) (List.mem_cons_of_mem _ (List.mem_append_left _ (List.mem_append_left _ (List.mem_of_getElem? (i := 0) rfl)))) rfl (by decide +kernel) rfl rfl (Nat.le_of_ble_eq_true rfl) rfl dX7_sign_2 (fun H locs hw => ?_)
  obtain ⟨G_1, eG_1⟩ : ∃ z, z = sI G 7 0 0 := ⟨_, rfl⟩
  rw [← eG_1] at hw
  have h := h G_1 eG_1
  refine lv_aload_n hx hb dX7_sign_5 rfl (lv_at hl 0 rfl) ?_
  refine lv_iload_n hx hb dX7_sign_6 rfl (lv_at hl 1 rfl) ?_
  refine g_callVi 7 (C := RX7) (T := TX7) (N := 31) (As := [.int x1]) (rest := []) X hw hA (m_X7_isReport l D cy q G_1 x1 _ h) (by decide) rfl (cwV 1 hts gX7_sign_X7_isReport rfl rfl rfl (by decide +kernel) ⟨Nat.le_of_ble_eq_true rfl, Nat.le_of_ble_eq_true rfl⟩) rfl hl.1 rfl (Nat.le_of_ble_eq_true rfl) dX7_sign_7 ⟨Nat.zero_le _, Nat.zero_le _⟩ (fun r_3 G_2 H locs h hw => ?_)
  refine lv_if_ne (tgt := 15) hx hb dX7_sign_10 (by decide) (fun c10_3 => ?_) (fun c10_3 => ?_)
  · have h := h.1 c10_3
    refine lv_aload_n hx hb dX7_sign_15 rfl (lv_at hl 0 rfl) ?_
    refine lv_aload_n hx hb dX7_sign_16 rfl (lv_at hl 0 rfl) ?_
    refine g_get 7 10 (v := .ref (q 26)) (C := RX7) (T := TX7) (N := 31) X hw (by decide) hinX7 rfl (by decide) (List.mem_cons_of_mem _ (List.mem_append_left _ (List.mem_append_left _ (List.mem_of_getElem? (i := 1) rfl)))) rfl dX7_sign_17 ?_
    refine lv_iload_n hx hb dX7_sign_20 rfl (lv_at hl 1 rfl) ?_
    obtain ⟨j21_4, bj21_4, ej21_4, h⟩ := h
    refine g_iald 26 40 j21_4 X hw (Or.inr ⟨by decide, by decide⟩) rfl bj21_4 ej21_4 (by decide) dX7_sign_21 ?_
    refine g_callVv 7 (C := RX7) (T := TX7) (N := 31) (As := [.int (G_2.1 26 j21_4)]) (rest := []) X hw hA (m_X7_findShared l D cy q G_2 (G_2.1 26 j21_4) _ h) (by decide) rfl (cwV 1 hts gX7_sign_X7_findShared rfl rfl rfl (by decide +kernel) ⟨Nat.le_of_ble_eq_true rfl, Nat.le_of_ble_eq_true rfl⟩) rfl hl.1 rfl (Nat.le_of_ble_eq_true rfl) dX7_sign_22 ⟨Nat.zero_le _, Nat.zero_le _⟩ (fun G_6 H locs h hw => ?_)
    refine lv_iconst (v := 0) hx hb dX7_sign_25 (by decide) ?_
    refine lv_istore_n (lv' := [(2, .int 0), (0, .ref (q 7)), (1, .int x1)]) hx hb dX7_sign_26 rfl hl (by decide) rfl (fun ls hl => ?_)
    obtain ⟨I27_8, ⟨n_8, h0⟩, hI27_8⟩ := h
    have LI27_8 : ∀ (n_8 : Nat) (v2_8 : Int32) (G_8 : GS) (H : Heap) (locs : List Loc) (ls : Array Slot), gH D cy q (gA q sz) s.heap G_8 H locs → lv_has ls 4 [(0, .ref (q 7)), (1, .int x1), (2, .int v2_8)] → I27_8 n_8 v2_8 G_8 → W p l e (headSpec wsX7_sign rmX7_sign).room s m args below meth c H locs 0 0 (MQ below (va_Qi post (gPo D cy q sz) (gA q sz)) args s 0 0 (gA q sz)) (F0 m 27 ls []) := by
      intro n_8
      induction n_8 using Nat.strongRecOn with
      | ind n_8 ihI27_8 =>
        intro v2_8 G_8 H locs ls hw hl h
        have h := hI27_8 n_8 v2_8 G_8 h
        refine lv_iload_n hx hb dX7_sign_27 rfl (lv_at hl 2 rfl) ?_
        refine lv_iconst (v := 3) hx hb dX7_sign_28 (by decide) ?_
        refine lv_icmp_gt (tgt := 86) hx hb dX7_sign_29 (by decide) (fun c29_8 => ?_) (fun c29_8 => ?_)
        · have h := h.1 c29_8
          refine lv_iconst (v := (-1)) hx hb dX7_sign_86 (by decide) ?_
          exact g_iret X hw hr hlk h dX7_sign_87
        · have h := h.2 c29_8
          refine lv_aload_n hx hb dX7_sign_32 rfl (lv_at hl 0 rfl) ?_
          refine lv_aload_n hx hb dX7_sign_33 rfl (lv_at hl 0 rfl) ?_
          refine g_get 7 10 (v := .ref (q 26)) (C := RX7) (T := TX7) (N := 31) X hw (by decide) hinX7 rfl (by decide) (List.mem_cons_of_mem _ (List.mem_append_left _ (List.mem_append_left _ (List.mem_of_getElem? (i := 1) rfl)))) rfl dX7_sign_34 ?_
          refine lv_iload_n hx hb dX7_sign_37 rfl (lv_at hl 1 rfl) ?_
          obtain ⟨j38_9, bj38_9, ej38_9, h⟩ := h
          refine g_iald 26 40 j38_9 X hw (Or.inr ⟨by decide, by decide⟩) rfl bj38_9 ej38_9 (by decide) dX7_sign_38 ?_
          refine lv_iload_n hx hb dX7_sign_39 rfl (lv_at hl 2 rfl) ?_
          refine lv_iconst (v := 0) hx hb dX7_sign_40 (by decide) ?_
          refine lv_iconst (v := 0) hx hb dX7_sign_41 (by decide) ?_
          refine g_callVi 7 (C := RX7) (T := TX7) (N := 31) (As := [.int (G_8.1 26 j38_9), .int v2_8, .int 0, .int 0]) (rest := []) X hw hA (m_X7_seeks_d3 l D cy q G_8 (G_8.1 26 j38_9) v2_8 0 0 _ h) (by decide) rfl (cwV 4 hts gX7_sign_X7_seeks rfl rfl rfl (by decide +kernel) ⟨Nat.le_of_ble_eq_true rfl, Nat.le_of_ble_eq_true rfl⟩) rfl hl.1 rfl (Nat.le_of_ble_eq_true rfl) dX7_sign_42 ⟨Nat.zero_le _, Nat.zero_le _⟩ (fun r_12 G_11 H locs h hw => ?_)
          refine lv_if_eq (tgt := 80) hx hb dX7_sign_45 (by decide) (fun c45_12 => ?_) (fun c45_12 => ?_)
          · have h := h.1 c45_12
            refine lv_iinc (v := v2_8 + 1) (lv' := [(2, .int (v2_8 + 1)), (0, .ref (q 7)), (1, .int x1)]) hx hb dX7_sign_80 hl (k := 2) rfl rfl (by decide) rfl (fun ls hl => ?_)
            refine lv_goto (tgt := 27) hx hb dX7_sign_83 (by decide) ?_
            obtain ⟨k_15, hm, h⟩ := h
            exact ihI27_8 k_15 hm (v2_8 + 1) G_11 _ _ ls hw (lv_sub hl [1, 2, 0] rfl) h
          · have h := h.2 c45_12
            refine lv_aload_n hx hb dX7_sign_48 rfl (lv_at hl 0 rfl) ?_
            refine lv_iload_n hx hb dX7_sign_49 rfl (lv_at hl 2 rfl) ?_
            refine g_put 7 26 (v := v2_8) (ty := .int) (C := RX7) (T := TX7) (N := 31) X hw (by decide) hinX7 tyX7_ok nmX7 rfl (by decide) (List.mem_cons_of_mem _ (List.mem_append_left _ (List.mem_append_left _ (List.mem_of_getElem? (i := 2) rfl)))) rfl (by decide +kernel) rfl rfl (Nat.le_of_ble_eq_true rfl) rfl dX7_sign_50 (fun H locs hw => ?_)
            obtain ⟨G_16, eG_16⟩ : ∃ z, z = sI G_11 7 26 v2_8 := ⟨_, rfl⟩
            rw [← eG_16] at hw
            have h := h G_16 eG_16
            refine lv_iconst (v := 0) hx hb dX7_sign_53 (by decide) ?_
            refine lv_istore_n (lv' := [(3, .int 0), (0, .ref (q 7)), (1, .int x1), (2, .int v2_8)]) hx hb dX7_sign_54 rfl hl (by decide) rfl (fun ls hl => ?_)
            obtain ⟨I55_17, ⟨n_17, h0⟩, hI55_17⟩ := h
            have LI55_17 : ∀ (n_17 : Nat) (v3_17 : Int32) (G_17 : GS) (H : Heap) (locs : List Loc) (ls : Array Slot), gH D cy q (gA q sz) s.heap G_17 H locs → lv_has ls 4 [(0, .ref (q 7)), (2, .int v2_8), (3, .int v3_17)] → I55_17 n_17 v3_17 G_17 → W p l e (headSpec wsX7_sign rmX7_sign).room s m args below meth c H locs 0 0 (MQ below (va_Qi post (gPo D cy q sz) (gA q sz)) args s 0 0 (gA q sz)) (F0 m 55 ls []) := by
              intro n_17
              induction n_17 using Nat.strongRecOn with
              | ind n_17 ihI55_17 =>
                intro v3_17 G_17 H locs ls hw hl h
                have h := hI55_17 n_17 v3_17 G_17 h
                refine lv_iload_n hx hb dX7_sign_55 rfl (lv_at hl 2 rfl) ?_
                refine lv_iload_n hx hb dX7_sign_56 rfl (lv_at hl 1 rfl) ?_
                refine lv_icmp_ge (tgt := 78) hx hb dX7_sign_57 (by decide) (fun c57_17 => ?_) (fun c57_17 => ?_)
                · have h := h.1 c57_17
                  refine lv_iload_n hx hb dX7_sign_78 rfl (lv_at hl 1 rfl) ?_
                  exact g_iret X hw hr hlk h dX7_sign_79
                · have h := h.2 c57_17
                  refine lv_aload_n hx hb dX7_sign_60 rfl (lv_at hl 0 rfl) ?_
                  refine g_get 7 27 (v := .ref (q 33)) (C := RX7) (T := TX7) (N := 31) X hw (by decide) hinX7 rfl (by decide) (List.mem_cons_of_mem _ (List.mem_append_left _ (List.mem_append_left _ (List.mem_of_getElem? (i := 3) rfl)))) rfl dX7_sign_61 ?_
                  refine lv_iload_n hx hb dX7_sign_64 rfl (lv_at hl 2 rfl) ?_
                  refine lv_aload_n hx hb dX7_sign_65 rfl (lv_at hl 0 rfl) ?_
                  refine g_get 7 28 (v := .ref (q 34)) (C := RX7) (T := TX7) (N := 31) X hw (by decide) hinX7 rfl (by decide) (List.mem_cons_of_mem _ (List.mem_append_left _ (List.mem_append_left _ (List.mem_of_getElem? (i := 4) rfl)))) rfl dX7_sign_66 ?_
                  refine lv_iload_n hx hb dX7_sign_69 rfl (lv_at hl 2 rfl) ?_
                  obtain ⟨j70_18, bj70_18, ej70_18, h⟩ := h
                  refine g_iald 34 3 j70_18 X hw (Or.inr ⟨by decide, by decide⟩) rfl bj70_18 ej70_18 (by decide) dX7_sign_70 ?_
                  obtain ⟨j71_19, bj71_19, ej71_19, h⟩ := h
                  refine g_iast 33 3 j71_19 X hw (Or.inr ⟨by decide, by decide⟩) rfl bj71_19 ej71_19 (by decide) dX7_sign_71 (fun H locs hw => ?_)
                  obtain ⟨G_21, eG_21⟩ : ∃ z, z = sI G_17 33 j71_19 (G_17.1 34 j70_18) := ⟨_, rfl⟩
                  rw [← eG_21] at hw
                  have h := h G_21 eG_21
                  refine lv_iinc (v := v3_17 + 1) (lv' := [(3, .int (v3_17 + 1)), (0, .ref (q 7)), (2, .int v2_8)]) hx hb dX7_sign_72 hl (k := 2) rfl rfl (by decide) rfl (fun ls hl => ?_)
                  refine lv_goto (tgt := 55) hx hb dX7_sign_75 (by decide) ?_
                  obtain ⟨k_23, hm, h⟩ := h
                  exact ihI55_17 k_23 hm (v3_17 + 1) G_21 _ _ ls hw (lv_sub hl [1, 2, 0] rfl) h
            exact LI55_17 n_17 0 G_16 _ _ ls hw (lv_sub hl [1, 3, 0] rfl) h0
    exact LI27_8 n_8 0 G_6 _ _ ls hw (lv_sub hl [1, 2, 0] rfl) h0
  · have h := h.2 c10_3
    refine lv_iconst (v := (-1)) hx hb dX7_sign_13 (by decide) ?_
    exact g_iret X hw hr hlk h dX7_sign_14
