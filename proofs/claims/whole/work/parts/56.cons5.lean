theorem LsX4_c : ∀ a ∈ LsX4, ∀ b ∈ rfs a, b ∈ LsX4 := by decide +kernel
theorem LsX5_c : ∀ a ∈ LsX5, ∀ b ∈ rfs a, b ∈ LsX5 := by decide +kernel
theorem LsX3_c : ∀ a ∈ LsX3, ∀ b ∈ rfs a, b ∈ LsX3 := by decide +kernel
theorem LsX0_c : ∀ a ∈ LsX0, ∀ b ∈ rfs a, b ∈ LsX0 := by decide +kernel
theorem LsX1_c : ∀ a ∈ LsX1, ∀ b ∈ rfs a, b ∈ LsX1 := by decide +kernel
theorem LsX2_c : ∀ a ∈ LsX2, ∀ b ∈ rfs a, b ∈ LsX2 := by decide +kernel
theorem LsX7_c : ∀ a ∈ LsX7, ∀ b ∈ rfs a, b ∈ LsX7 := by decide +kernel
def Lc1 : List Nat := LsX4 ++ LsX5
theorem Lc1_c : ∀ a ∈ Lc1, ∀ b ∈ rfs a, b ∈ Lc1 := by decide +kernel
theorem Lc1_d : ∀ a ∈ LsX5, a ∉ LsX4 := by decide +kernel
def Lc2 : List Nat := Lc1 ++ LsX3
theorem Lc2_c : ∀ a ∈ Lc2, ∀ b ∈ rfs a, b ∈ Lc2 := by decide +kernel
theorem Lc2_d : ∀ a ∈ LsX3, a ∉ Lc1 := by decide +kernel
def Lc3 : List Nat := Lc2 ++ LsX0
theorem Lc3_c : ∀ a ∈ Lc3, ∀ b ∈ rfs a, b ∈ Lc3 := by decide +kernel
theorem Lc3_d : ∀ a ∈ LsX0, a ∉ Lc2 := by decide +kernel
def Lc4 : List Nat := Lc3 ++ LsX1
theorem Lc4_c : ∀ a ∈ Lc4, ∀ b ∈ rfs a, b ∈ Lc4 := by decide +kernel
theorem Lc4_d : ∀ a ∈ LsX1, a ∉ Lc3 := by decide +kernel
def Lc5 : List Nat := Lc4 ++ LsX2
theorem Lc5_c : ∀ a ∈ Lc5, ∀ b ∈ rfs a, b ∈ Lc5 := by decide +kernel
theorem Lc5_d : ∀ a ∈ LsX2, a ∉ Lc4 := by decide +kernel
def LsX6 : List Nat := 0 :: Lc5
theorem LsX6_c : ∀ a ∈ LsX6, ∀ b ∈ rfs a, b ∈ LsX6 := by decide +kernel
theorem aoa_ok : eOk (va_AOA .int) := fun _ _ hW h => aoa_warm hW h
/-- what the nest gives -/
def E6 (U : State) : Prop := va_AOA .int U ∧ va_Nw (.methodLinkNest RX6 9 yX4_init "FaultHeaps") U ∧ va_Nw (.methodLinkNest RX6 25 yX3_init "FaultHeaps") U ∧ va_Nw (.methodLinkNest RX6 39 yX1_init "FaultHeaps") U ∧ va_Nw (.methodLinkNest RX6 46 yX2_init "FaultHeaps") U
theorem E6_ok : eOk E6 := fun _ _ hW h => ⟨aoa_warm hW h.1, h.2.1.warmM hW, h.2.2.1.warmM hW, h.2.2.2.1.warmM hW, h.2.2.2.2.warmM hW⟩
abbrev rmX6_init : Room := { frames := 2, cells := 281, slots := 8748, locals := 43 }
set_option maxHeartbeats 8000000 in
set_option maxRecDepth 100000 in
theorem m_X6_init (l : Launch) (D : va_G) (cy : Nat → ClassId) (h0 : Nat) : cMet l yX6_init wsX6_init rmX6_init D cy E6 0 h0 6 [.null, .null, .null, .null, .null, .null] LsX6 281 8748 := by
  intro sz
  refine Met.ofW (cc := cX6_init) (maxL := 1) (ret := none) (by decide) rfl ?_
  intro p e s m args below meth c s₁ B hml hv
  obtain ⟨ha, X, hw, hA, hr, hlk, hini, ho, hn4, hn3, hn1, hn2⟩ := n_start B rfl hml hv
  generalize va_A [(h0, (.inr (6, [.null, .null, .null, .null, .null, .null]) : va_E))] sz = A at hw hA ⊢
  have hx := X.1.1
  have hb := X.1.2.1
  have hown := X.1.2.2.2.1
  have hts := X.1.2.2.2.2
  have hinX6 : ∀ w ∈ wsX60, w ∈ wsX6_init := fun _ h9 => (List.mem_cons_of_mem _ (List.mem_append_left _ (List.mem_append_left _ (List.mem_append_left _ (List.mem_append_left _ (List.mem_append_left _ (List.mem_append_right _ h9)))))))
  refine g_in ha (Nat.le_of_ble_eq_true rfl) (fun ls hl => ?_)
  have hl : lv_has ls 1 [(0, .ref h0)] := hl
  have hw : nH D A s.heap ((h0, .inr (6, [.null, .null, .null, .null, .null, .null])) :: []) s.heap [] := hw
  refine lv_aload_n hx hb dX6_init_0 rfl (lv_at hl 0 rfl) ?_
  refine n_obj X (List.mem_cons_of_mem _ (List.mem_append_left _ (List.mem_append_left _ (List.mem_append_left _ (List.mem_append_left _ (List.mem_append_left _ (List.mem_append_left _ (List.mem_append_left _ (List.mem_append_left _ (List.mem_of_getElem? (i := 0) rfl)))))))))) (List.mem_cons_of_mem _ (List.mem_append_left _ (List.mem_append_left _ (List.mem_append_left _ (List.mem_append_left _ (List.mem_append_left _ (List.mem_append_left _ (List.mem_append_left _ (List.mem_append_left _ (List.mem_of_getElem? (i := 1) rfl)))))))))) (List.mem_cons_of_mem _ (List.mem_append_left _ (List.mem_append_left _ (List.mem_append_left _ (List.mem_append_left _ (List.mem_append_left _ (List.mem_append_left _ (List.mem_append_left _ (List.mem_append_left _ (List.mem_of_getElem? (i := 2) rfl)))))))))) hl.1 dX6_init_1 (Nat.le_of_ble_eq_true rfl) (Nat.le_of_ble_eq_true rfl) ?_
  refine lv_aload_n hx hb dX6_init_4 rfl (lv_at hl 0 rfl) ?_
  have hinX4 : ∀ w ∈ wsX40, w ∈ wsX6_init := fun _ h9 => (List.mem_cons_of_mem _ (List.mem_append_left _ (List.mem_append_left _ (List.mem_append_left _ (List.mem_append_left _ (List.mem_append_left _ (List.mem_append_left _ (List.mem_append_right _ h9))))))))
  refine n_new (ci := 4) (C := RX4) (T := TX4) (N := 2) (fs := [.null, .int 0]) (ty0 := tyX4) X hw hA hinX4 tyX4_ok (List.mem_cons_of_mem _ (List.mem_append_left _ (List.mem_append_left _ (List.mem_append_left _ (List.mem_append_left _ (List.mem_append_left _ (List.mem_append_left _ (List.mem_append_left _ (List.mem_append_left _ (List.mem_of_getElem? (i := 3) rfl)))))))))) (List.mem_cons_of_mem _ (List.mem_append_left _ (List.mem_append_left _ (List.mem_append_left _ (List.mem_append_left _ (List.mem_append_left _ (List.mem_append_left _ (List.mem_append_left _ (List.mem_append_left _ (List.mem_of_getElem? (i := 4) rfl)))))))))) (List.mem_cons_of_mem _ (List.mem_append_left _ (List.mem_append_left _ (List.mem_append_left _ (List.mem_append_left _ (List.mem_append_left _ (List.mem_append_left _ (List.mem_append_left _ (List.mem_append_left _ (List.mem_of_getElem? (i := 5) rfl)))))))))) rfl (by decide +kernel) (Nat.le_of_ble_eq_true rfl) (Nat.le_of_ble_eq_true rfl) dX6_init_5 (fun h1 H hw => ?_)
  refine lv_dup hx hb dX6_init_8 rfl ?_
  refine n_initN X hw hA (m_X4_init l D cy h1) aoa_ok ho ⟨va_cnB (host := "FaultHeaps") 0 hts gX6_init_X4_init_n9 rfl rfl rfl hn4 (hts _ (List.mem_cons_of_mem _ (List.mem_append_left _ (List.mem_append_left _ (List.mem_append_left _ (List.mem_append_left _ (List.mem_append_left _ (List.mem_append_left _ (List.mem_append_left _ (List.mem_append_left _ (List.mem_of_getElem? (i := 5) rfl))))))))))) (by decide +kernel) ⟨Nat.le_of_ble_eq_true rfl, Nat.le_of_ble_eq_true rfl⟩, rfl, hts _ (List.mem_cons_of_mem _ (List.mem_append_left _ (List.mem_append_left _ (List.mem_append_left _ (List.mem_append_left _ (List.mem_append_left _ (List.mem_append_left _ (List.mem_append_left _ (List.mem_append_right _ (List.mem_append_left _ (List.mem_of_getElem? (i := 3) rfl)))))))))))⟩ hl.1 (Nat.le_of_ble_eq_true rfl) dX6_init_9 ⟨Nat.le_of_ble_eq_true rfl, Nat.le_of_ble_eq_true rfl⟩ (fun p1 H locs k1 hw => ?_)
  have hw : nH D A s.heap ((h0, .inr (6, [.null, .null, .null, .null, .null, .null])) :: gWl LsX4 cy p1 G0) H locs := hw
  refine n_putF 0 (v := .ref h1) (ty := .object "FaultHeaps$ToldRow") (fs' := [.ref h1, .null, .null, .null, .null, .null]) (C := RX6) (T := TX6) (N := 6) X hw hinX6 tyX6_ok nmX6 rfl (by decide) (List.mem_cons_of_mem _ (List.mem_append_left _ (List.mem_append_left _ (List.mem_append_left _ (List.mem_append_left _ (List.mem_append_left _ (List.mem_append_left _ (List.mem_append_left _ (List.mem_append_left _ (List.mem_of_getElem? (i := 6) rfl)))))))))) rfl hini rfl (by decide +kernel) rfl rfl (Nat.le_of_ble_eq_true rfl) rfl dX6_init_12 (fun H locs hw => ?_)
  refine lv_aload_n hx hb dX6_init_15 rfl (lv_at hl 0 rfl) ?_
  have hinX5 : ∀ w ∈ wsX50, w ∈ wsX6_init := fun _ h9 => (List.mem_cons_of_mem _ (List.mem_append_left _ (List.mem_append_left _ (List.mem_append_left _ (List.mem_append_left _ (List.mem_append_right _ h9))))))
  refine n_new (ci := 5) (C := RX5) (T := TX5) (N := 2) (fs := [.null, .int 0]) (ty0 := tyX5) X hw hA hinX5 tyX5_ok (List.mem_cons_of_mem _ (List.mem_append_left _ (List.mem_append_left _ (List.mem_append_left _ (List.mem_append_left _ (List.mem_append_left _ (List.mem_append_left _ (List.mem_append_left _ (List.mem_append_left _ (List.mem_of_getElem? (i := 7) rfl)))))))))) (List.mem_cons_of_mem _ (List.mem_append_left _ (List.mem_append_left _ (List.mem_append_left _ (List.mem_append_left _ (List.mem_append_left _ (List.mem_append_left _ (List.mem_append_left _ (List.mem_append_left _ (List.mem_of_getElem? (i := 8) rfl)))))))))) (List.mem_cons_of_mem _ (List.mem_append_left _ (List.mem_append_left _ (List.mem_append_left _ (List.mem_append_left _ (List.mem_append_left _ (List.mem_append_left _ (List.mem_append_left _ (List.mem_append_left _ (List.mem_of_getElem? (i := 9) rfl)))))))))) rfl (by decide +kernel) (Nat.le_of_ble_eq_true rfl) (Nat.le_of_ble_eq_true rfl) dX6_init_16 (fun h2 H hw => ?_)
  refine lv_dup hx hb dX6_init_19 rfl ?_
  refine n_init X hw hA (m_X5_init l D cy h2) aoa_ok ho (cwI 0 hts gX6_init_X5_init rfl rfl rfl (hts _ (List.mem_cons_of_mem _ (List.mem_append_left _ (List.mem_append_left _ (List.mem_append_left _ (List.mem_append_left _ (List.mem_append_left _ (List.mem_append_left _ (List.mem_append_left _ (List.mem_append_left _ (List.mem_of_getElem? (i := 9) rfl))))))))))) (hts _ (List.mem_cons_of_mem _ (List.mem_append_left _ (List.mem_append_left _ (List.mem_append_left _ (List.mem_append_left _ (List.mem_append_left _ (List.mem_append_left _ (List.mem_append_left _ (List.mem_append_right _ (List.mem_append_left _ (List.mem_of_getElem? (i := 9) rfl)))))))))))) (hts _ (List.mem_cons_of_mem _ (List.mem_append_left _ (List.mem_append_left _ (List.mem_append_left _ (List.mem_append_left _ (List.mem_append_left _ (List.mem_append_left _ (List.mem_append_left _ (List.mem_append_right _ (List.mem_append_left _ (List.mem_of_getElem? (i := 10) rfl)))))))))))) rfl (by decide +kernel) ⟨Nat.le_of_ble_eq_true rfl, Nat.le_of_ble_eq_true rfl⟩) hl.1 (Nat.le_of_ble_eq_true rfl) dX6_init_20 ⟨Nat.le_of_ble_eq_true rfl, Nat.le_of_ble_eq_true rfl⟩ (fun p2 H locs k2 hw => ?_)
  have hw : nH D A s.heap ((h0, .inr (6, [.ref h1, .null, .null, .null, .null, .null])) :: gWl Lc1 cy (glue LsX4 p1 p2) G0) H locs := by
    unfold Lc1
    rw [← gWl_glue (L := LsX4) (M := LsX5) (q := p1) (q' := p2) LsX4_c LsX5_c Lc1_d]
    exact hw
  obtain ⟨g1, eg1⟩ : ∃ z, z = glue LsX4 p1 p2 := ⟨_, rfl⟩
  rw [← eg1] at hw
  have k1_1 : g1 1 = h1 := by rw [eg1]; exact (if_pos (by decide +kernel)).trans k1
  have k2_1 : g1 2 = h2 := by rw [eg1]; exact (if_neg (by decide +kernel)).trans k2
  refine n_putF 1 (v := .ref h2) (ty := .object "FaultHeaps$Versions") (fs' := [.ref h1, .ref h2, .null, .null, .null, .null]) (C := RX6) (T := TX6) (N := 6) X hw hinX6 tyX6_ok nmX6 rfl (by decide) (List.mem_cons_of_mem _ (List.mem_append_left _ (List.mem_append_left _ (List.mem_append_left _ (List.mem_append_left _ (List.mem_append_left _ (List.mem_append_left _ (List.mem_append_left _ (List.mem_append_left _ (List.mem_of_getElem? (i := 10) rfl)))))))))) rfl hini rfl (by decide +kernel) rfl rfl (Nat.le_of_ble_eq_true rfl) rfl dX6_init_23 (fun H locs hw => ?_)
  refine lv_aload_n hx hb dX6_init_26 rfl (lv_at hl 0 rfl) ?_
  have hinX3 : ∀ w ∈ wsX30, w ∈ wsX6_init := fun _ h9 => (List.mem_cons_of_mem _ (List.mem_append_left _ (List.mem_append_left _ (List.mem_append_left _ (List.mem_append_right _ h9)))))
  refine n_new (ci := 3) (C := RX3) (T := TX3) (N := 6) (fs := [.null, .null, .null, .null, .null, .int 0]) (ty0 := tyX3) X hw hA hinX3 tyX3_ok (List.mem_cons_of_mem _ (List.mem_append_left _ (List.mem_append_left _ (List.mem_append_left _ (List.mem_append_left _ (List.mem_append_left _ (List.mem_append_left _ (List.mem_append_left _ (List.mem_append_left _ (List.mem_of_getElem? (i := 11) rfl)))))))))) (List.mem_cons_of_mem _ (List.mem_append_left _ (List.mem_append_left _ (List.mem_append_left _ (List.mem_append_left _ (List.mem_append_left _ (List.mem_append_left _ (List.mem_append_left _ (List.mem_append_left _ (List.mem_of_getElem? (i := 12) rfl)))))))))) (List.mem_cons_of_mem _ (List.mem_append_left _ (List.mem_append_left _ (List.mem_append_left _ (List.mem_append_left _ (List.mem_append_left _ (List.mem_append_left _ (List.mem_append_left _ (List.mem_append_left _ (List.mem_of_getElem? (i := 13) rfl)))))))))) rfl (by decide +kernel) (Nat.le_of_ble_eq_true rfl) (Nat.le_of_ble_eq_true rfl) dX6_init_27 (fun h3 H hw => ?_)
  refine lv_dup hx hb dX6_init_30 rfl ?_
  refine n_initN X hw hA (m_X3_init l D cy h3) aoa_ok ho ⟨va_cnB (host := "FaultHeaps") 0 hts gX6_init_X3_init_n25 rfl rfl rfl hn3 (hts _ (List.mem_cons_of_mem _ (List.mem_append_left _ (List.mem_append_left _ (List.mem_append_left _ (List.mem_append_left _ (List.mem_append_left _ (List.mem_append_left _ (List.mem_append_left _ (List.mem_append_left _ (List.mem_of_getElem? (i := 13) rfl))))))))))) (by decide +kernel) ⟨Nat.le_of_ble_eq_true rfl, Nat.le_of_ble_eq_true rfl⟩, rfl, hts _ (List.mem_cons_of_mem _ (List.mem_append_left _ (List.mem_append_left _ (List.mem_append_left _ (List.mem_append_left _ (List.mem_append_left _ (List.mem_append_left _ (List.mem_append_left _ (List.mem_append_right _ (List.mem_append_left _ (List.mem_of_getElem? (i := 15) rfl)))))))))))⟩ hl.1 (Nat.le_of_ble_eq_true rfl) dX6_init_31 ⟨Nat.le_of_ble_eq_true rfl, Nat.le_of_ble_eq_true rfl⟩ (fun p3 H locs k3 hw => ?_)
  have hw : nH D A s.heap ((h0, .inr (6, [.ref h1, .ref h2, .null, .null, .null, .null])) :: gWl Lc2 cy (glue Lc1 g1 p3) G0) H locs := by
    unfold Lc2
    rw [← gWl_glue (L := Lc1) (M := LsX3) (q := g1) (q' := p3) Lc1_c LsX3_c Lc2_d]
    exact hw
  obtain ⟨g2, eg2⟩ : ∃ z, z = glue Lc1 g1 p3 := ⟨_, rfl⟩
  rw [← eg2] at hw
  have k1_2 : g2 1 = h1 := by rw [eg2]; exact (if_pos (by decide +kernel)).trans k1_1
  have k2_2 : g2 2 = h2 := by rw [eg2]; exact (if_pos (by decide +kernel)).trans k2_1
  have k3_2 : g2 3 = h3 := by rw [eg2]; exact (if_neg (by decide +kernel)).trans k3
  refine n_putF 2 (v := .ref h3) (ty := .object "FaultHeaps$Reports") (fs' := [.ref h1, .ref h2, .ref h3, .null, .null, .null]) (C := RX6) (T := TX6) (N := 6) X hw hinX6 tyX6_ok nmX6 rfl (by decide) (List.mem_cons_of_mem _ (List.mem_append_left _ (List.mem_append_left _ (List.mem_append_left _ (List.mem_append_left _ (List.mem_append_left _ (List.mem_append_left _ (List.mem_append_left _ (List.mem_append_left _ (List.mem_of_getElem? (i := 14) rfl)))))))))) rfl hini rfl (by decide +kernel) rfl rfl (Nat.le_of_ble_eq_true rfl) rfl dX6_init_34 (fun H locs hw => ?_)
  refine lv_aload_n hx hb dX6_init_37 rfl (lv_at hl 0 rfl) ?_
  have hinX0 : ∀ w ∈ wsX00, w ∈ wsX6_init := fun _ h9 => (List.mem_cons_of_mem _ (List.mem_append_left _ (List.mem_append_left _ (List.mem_append_right _ h9))))
  refine n_new (ci := 0) (C := RX0) (T := TX0) (N := 5) (fs := [.null, .null, .null, .null, .null]) (ty0 := tyX0) X hw hA hinX0 tyX0_ok (List.mem_cons_of_mem _ (List.mem_append_left _ (List.mem_append_left _ (List.mem_append_left _ (List.mem_append_left _ (List.mem_append_left _ (List.mem_append_left _ (List.mem_append_left _ (List.mem_append_left _ (List.mem_of_getElem? (i := 15) rfl)))))))))) (List.mem_cons_of_mem _ (List.mem_append_left _ (List.mem_append_left _ (List.mem_append_left _ (List.mem_append_left _ (List.mem_append_left _ (List.mem_append_left _ (List.mem_append_left _ (List.mem_append_left _ (List.mem_of_getElem? (i := 16) rfl)))))))))) (List.mem_cons_of_mem _ (List.mem_append_left _ (List.mem_append_left _ (List.mem_append_left _ (List.mem_append_left _ (List.mem_append_left _ (List.mem_append_left _ (List.mem_append_left _ (List.mem_append_left _ (List.mem_of_getElem? (i := 17) rfl)))))))))) rfl (by decide +kernel) (Nat.le_of_ble_eq_true rfl) (Nat.le_of_ble_eq_true rfl) dX6_init_38 (fun h4 H hw => ?_)
  refine lv_dup hx hb dX6_init_41 rfl ?_
  refine n_init X hw hA (m_X0_init l D cy h4) aoa_ok ho (cwI 0 hts gX6_init_X0_init rfl rfl rfl (hts _ (List.mem_cons_of_mem _ (List.mem_append_left _ (List.mem_append_left _ (List.mem_append_left _ (List.mem_append_left _ (List.mem_append_left _ (List.mem_append_left _ (List.mem_append_left _ (List.mem_append_left _ (List.mem_of_getElem? (i := 17) rfl))))))))))) (hts _ (List.mem_cons_of_mem _ (List.mem_append_left _ (List.mem_append_left _ (List.mem_append_left _ (List.mem_append_left _ (List.mem_append_left _ (List.mem_append_left _ (List.mem_append_left _ (List.mem_append_right _ (List.mem_append_right _ (List.mem_append_left _ (List.mem_of_getElem? (i := 2) rfl))))))))))))) (hts _ (List.mem_cons_of_mem _ (List.mem_append_left _ (List.mem_append_left _ (List.mem_append_left _ (List.mem_append_left _ (List.mem_append_left _ (List.mem_append_left _ (List.mem_append_left _ (List.mem_append_right _ (List.mem_append_right _ (List.mem_append_left _ (List.mem_of_getElem? (i := 3) rfl))))))))))))) rfl (by decide +kernel) ⟨Nat.le_of_ble_eq_true rfl, Nat.le_of_ble_eq_true rfl⟩) hl.1 (Nat.le_of_ble_eq_true rfl) dX6_init_42 ⟨Nat.le_of_ble_eq_true rfl, Nat.le_of_ble_eq_true rfl⟩ (fun p4 H locs k4 hw => ?_)
  have hw : nH D A s.heap ((h0, .inr (6, [.ref h1, .ref h2, .ref h3, .null, .null, .null])) :: gWl Lc3 cy (glue Lc2 g2 p4) G0) H locs := by
    unfold Lc3
    rw [← gWl_glue (L := Lc2) (M := LsX0) (q := g2) (q' := p4) Lc2_c LsX0_c Lc3_d]
    exact hw
  obtain ⟨g3, eg3⟩ : ∃ z, z = glue Lc2 g2 p4 := ⟨_, rfl⟩
  rw [← eg3] at hw
  have k1_3 : g3 1 = h1 := by rw [eg3]; exact (if_pos (by decide +kernel)).trans k1_2
  have k2_3 : g3 2 = h2 := by rw [eg3]; exact (if_pos (by decide +kernel)).trans k2_2
  have k3_3 : g3 3 = h3 := by rw [eg3]; exact (if_pos (by decide +kernel)).trans k3_2
  have k4_3 : g3 4 = h4 := by rw [eg3]; exact (if_neg (by decide +kernel)).trans k4
  refine n_putF 3 (v := .ref h4) (ty := .object "FaultHeaps$Distances") (fs' := [.ref h1, .ref h2, .ref h3, .ref h4, .null, .null]) (C := RX6) (T := TX6) (N := 6) X hw hinX6 tyX6_ok nmX6 rfl (by decide) (List.mem_cons_of_mem _ (List.mem_append_left _ (List.mem_append_left _ (List.mem_append_left _ (List.mem_append_left _ (List.mem_append_left _ (List.mem_append_left _ (List.mem_append_left _ (List.mem_append_left _ (List.mem_of_getElem? (i := 18) rfl)))))))))) rfl hini rfl (by decide +kernel) rfl rfl (Nat.le_of_ble_eq_true rfl) rfl dX6_init_45 (fun H locs hw => ?_)
  refine lv_aload_n hx hb dX6_init_48 rfl (lv_at hl 0 rfl) ?_
  have hinX1 : ∀ w ∈ wsX10, w ∈ wsX6_init := fun _ h9 => (List.mem_cons_of_mem _ (List.mem_append_left _ (List.mem_append_right _ h9)))
  refine n_new (ci := 1) (C := RX1) (T := TX1) (N := 15) (fs := [.null, .null, .null, .null, .null, .null, .null, .int 0, .int 0, .int 0, .int 0, .int 0, .int 0, .int 0, .int 0]) (ty0 := tyX1) X hw hA hinX1 tyX1_ok (List.mem_cons_of_mem _ (List.mem_append_left _ (List.mem_append_left _ (List.mem_append_left _ (List.mem_append_left _ (List.mem_append_left _ (List.mem_append_left _ (List.mem_append_left _ (List.mem_append_left _ (List.mem_of_getElem? (i := 19) rfl)))))))))) (List.mem_cons_of_mem _ (List.mem_append_left _ (List.mem_append_left _ (List.mem_append_left _ (List.mem_append_left _ (List.mem_append_left _ (List.mem_append_left _ (List.mem_append_left _ (List.mem_append_left _ (List.mem_of_getElem? (i := 20) rfl)))))))))) (List.mem_cons_of_mem _ (List.mem_append_left _ (List.mem_append_left _ (List.mem_append_left _ (List.mem_append_left _ (List.mem_append_left _ (List.mem_append_left _ (List.mem_append_left _ (List.mem_append_left _ (List.mem_of_getElem? (i := 21) rfl)))))))))) rfl (by decide +kernel) (Nat.le_of_ble_eq_true rfl) (Nat.le_of_ble_eq_true rfl) dX6_init_49 (fun h5 H hw => ?_)
  refine lv_dup hx hb dX6_init_52 rfl ?_
  refine n_initN X hw hA (m_X1_init l D cy h5) aoa_ok ho ⟨va_cnB (host := "FaultHeaps") 0 hts gX6_init_X1_init_n39 rfl rfl rfl hn1 (hts _ (List.mem_cons_of_mem _ (List.mem_append_left _ (List.mem_append_left _ (List.mem_append_left _ (List.mem_append_left _ (List.mem_append_left _ (List.mem_append_left _ (List.mem_append_left _ (List.mem_append_left _ (List.mem_of_getElem? (i := 21) rfl))))))))))) (by decide +kernel) ⟨Nat.le_of_ble_eq_true rfl, Nat.le_of_ble_eq_true rfl⟩, rfl, hts _ (List.mem_cons_of_mem _ (List.mem_append_left _ (List.mem_append_left _ (List.mem_append_left _ (List.mem_append_left _ (List.mem_append_left _ (List.mem_append_left _ (List.mem_append_left _ (List.mem_append_right _ (List.mem_append_right _ (List.mem_append_left _ (List.mem_of_getElem? (i := 17) rfl))))))))))))⟩ hl.1 (Nat.le_of_ble_eq_true rfl) dX6_init_53 ⟨Nat.le_of_ble_eq_true rfl, Nat.le_of_ble_eq_true rfl⟩ (fun p5 H locs k5 hw => ?_)
  have hw : nH D A s.heap ((h0, .inr (6, [.ref h1, .ref h2, .ref h3, .ref h4, .null, .null])) :: gWl Lc4 cy (glue Lc3 g3 p5) G0) H locs := by
    unfold Lc4
    rw [← gWl_glue (L := Lc3) (M := LsX1) (q := g3) (q' := p5) Lc3_c LsX1_c Lc4_d]
    exact hw
  obtain ⟨g4, eg4⟩ : ∃ z, z = glue Lc3 g3 p5 := ⟨_, rfl⟩
  rw [← eg4] at hw
  have k1_4 : g4 1 = h1 := by rw [eg4]; exact (if_pos (by decide +kernel)).trans k1_3
  have k2_4 : g4 2 = h2 := by rw [eg4]; exact (if_pos (by decide +kernel)).trans k2_3
  have k3_4 : g4 3 = h3 := by rw [eg4]; exact (if_pos (by decide +kernel)).trans k3_3
  have k4_4 : g4 4 = h4 := by rw [eg4]; exact (if_pos (by decide +kernel)).trans k4_3
  have k5_4 : g4 5 = h5 := by rw [eg4]; exact (if_neg (by decide +kernel)).trans k5
  refine n_putF 4 (v := .ref h5) (ty := .object "FaultHeaps$Heaps") (fs' := [.ref h1, .ref h2, .ref h3, .ref h4, .ref h5, .null]) (C := RX6) (T := TX6) (N := 6) X hw hinX6 tyX6_ok nmX6 rfl (by decide) (List.mem_cons_of_mem _ (List.mem_append_left _ (List.mem_append_left _ (List.mem_append_left _ (List.mem_append_left _ (List.mem_append_left _ (List.mem_append_left _ (List.mem_append_left _ (List.mem_append_left _ (List.mem_of_getElem? (i := 22) rfl)))))))))) rfl hini rfl (by decide +kernel) rfl rfl (Nat.le_of_ble_eq_true rfl) rfl dX6_init_56 (fun H locs hw => ?_)
  refine lv_aload_n hx hb dX6_init_59 rfl (lv_at hl 0 rfl) ?_
  have hinX2 : ∀ w ∈ wsX20, w ∈ wsX6_init := fun _ h9 => (List.mem_cons_of_mem _ (List.mem_append_right _ h9))
  refine n_new (ci := 2) (C := RX2) (T := TX2) (N := 5) (fs := [.null, .null, .int 0, .null, .int 0]) (ty0 := tyX2) X hw hA hinX2 tyX2_ok (List.mem_cons_of_mem _ (List.mem_append_left _ (List.mem_append_left _ (List.mem_append_left _ (List.mem_append_left _ (List.mem_append_left _ (List.mem_append_left _ (List.mem_append_left _ (List.mem_append_left _ (List.mem_of_getElem? (i := 23) rfl)))))))))) (List.mem_cons_of_mem _ (List.mem_append_left _ (List.mem_append_left _ (List.mem_append_left _ (List.mem_append_left _ (List.mem_append_left _ (List.mem_append_left _ (List.mem_append_left _ (List.mem_append_right _ (List.mem_append_left _ (List.mem_of_getElem? (i := 0) rfl))))))))))) (List.mem_cons_of_mem _ (List.mem_append_left _ (List.mem_append_left _ (List.mem_append_left _ (List.mem_append_left _ (List.mem_append_left _ (List.mem_append_left _ (List.mem_append_left _ (List.mem_append_right _ (List.mem_append_left _ (List.mem_of_getElem? (i := 1) rfl))))))))))) rfl (by decide +kernel) (Nat.le_of_ble_eq_true rfl) (Nat.le_of_ble_eq_true rfl) dX6_init_60 (fun h6 H hw => ?_)
  refine lv_dup hx hb dX6_init_63 rfl ?_
  refine n_initN X hw hA (m_X2_init l D cy h6) aoa_ok ho ⟨va_cnB (host := "FaultHeaps") 0 hts gX6_init_X2_init_n46 rfl rfl rfl hn2 (hts _ (List.mem_cons_of_mem _ (List.mem_append_left _ (List.mem_append_left _ (List.mem_append_left _ (List.mem_append_left _ (List.mem_append_left _ (List.mem_append_left _ (List.mem_append_left _ (List.mem_append_right _ (List.mem_append_left _ (List.mem_of_getElem? (i := 1) rfl)))))))))))) (by decide +kernel) ⟨Nat.le_of_ble_eq_true rfl, Nat.le_of_ble_eq_true rfl⟩, rfl, hts _ (List.mem_cons_of_mem _ (List.mem_append_left _ (List.mem_append_left _ (List.mem_append_left _ (List.mem_append_left _ (List.mem_append_left _ (List.mem_append_left _ (List.mem_append_left _ (List.mem_append_right _ (List.mem_append_right _ (List.mem_append_right _ (List.mem_of_getElem? (i := 12) rfl))))))))))))⟩ hl.1 (Nat.le_of_ble_eq_true rfl) dX6_init_64 ⟨Nat.le_of_ble_eq_true rfl, Nat.le_of_ble_eq_true rfl⟩ (fun p6 H locs k6 hw => ?_)
  have hw : nH D A s.heap ((h0, .inr (6, [.ref h1, .ref h2, .ref h3, .ref h4, .ref h5, .null])) :: gWl Lc5 cy (glue Lc4 g4 p6) G0) H locs := by
    unfold Lc5
    rw [← gWl_glue (L := Lc4) (M := LsX2) (q := g4) (q' := p6) Lc4_c LsX2_c Lc5_d]
    exact hw
  obtain ⟨g5, eg5⟩ : ∃ z, z = glue Lc4 g4 p6 := ⟨_, rfl⟩
  rw [← eg5] at hw
  have k1_5 : g5 1 = h1 := by rw [eg5]; exact (if_pos (by decide +kernel)).trans k1_4
  have k2_5 : g5 2 = h2 := by rw [eg5]; exact (if_pos (by decide +kernel)).trans k2_4
  have k3_5 : g5 3 = h3 := by rw [eg5]; exact (if_pos (by decide +kernel)).trans k3_4
  have k4_5 : g5 4 = h4 := by rw [eg5]; exact (if_pos (by decide +kernel)).trans k4_4
  have k5_5 : g5 5 = h5 := by rw [eg5]; exact (if_pos (by decide +kernel)).trans k5_4
  have k6_5 : g5 6 = h6 := by rw [eg5]; exact (if_neg (by decide +kernel)).trans k6
  refine n_putF 5 (v := .ref h6) (ty := .object "FaultHeaps$Marks") (fs' := [.ref h1, .ref h2, .ref h3, .ref h4, .ref h5, .ref h6]) (C := RX6) (T := TX6) (N := 6) X hw hinX6 tyX6_ok nmX6 rfl (by decide) (List.mem_cons_of_mem _ (List.mem_append_left _ (List.mem_append_left _ (List.mem_append_left _ (List.mem_append_left _ (List.mem_append_left _ (List.mem_append_left _ (List.mem_append_left _ (List.mem_append_right _ (List.mem_append_left _ (List.mem_of_getElem? (i := 2) rfl))))))))))) rfl hini rfl (by decide +kernel) rfl rfl (Nat.le_of_ble_eq_true rfl) rfl dX6_init_67 (fun H locs hw => ?_)
  exact n_end (a := 0) (q := fun a => if a = 0 then h0 else g5 a) (Ls := LsX6) X hw hr hlk rfl (by
    unfold LsX6
    rw [gWl_cons, gWl_cong (q := fun a => if a = 0 then h0 else g5 a) (q' := g5) Lc5_c (fun a ha => if_neg (fun e => absurd (e ▸ ha) (by decide +kernel : 0 ∉ Lc5)))]
    rw [← k1_5, ← k2_5, ← k3_5, ← k4_5, ← k5_5, ← k6_5]
    rfl) dX6_init_70
