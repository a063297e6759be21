/-! the law's calls -/
section LAW
variable {p : Program} {l : Launch} {e : Env} {s : State} {m : MethodId} {args : Array Value} {below : List Frame} {meth : Method} {c : Code} {H : Heap} {locs : List Loc} {cells slots : Nat} {Q : State → Prop} {R : Room}
variable {pc : Nat} {ls : Array Slot} {rest : List Value} {D : va_G} {cy : Nat → ClassId} {q : Nat → Nat} {A : Nat → Prop} {G : GS} {b L k : Nat} {xs : Nat → Int32}
/-- the law's locals at a call -/
abbrev lvL (q : Nat → Nat) (b k : Nat) : List (Nat × Value) := [(0, .ref b), (1, .ref (q 0)), (2, .ref (q 7)), (3, .ref (q 40)), (4, .int (nI (4 * k)))]
/-- what stays the same in the law -/
def lK (p : Program) (s : State) (m : MethodId) (args : Array Value) (c : Code) (D : va_G) (cy : Nat → ClassId) (A : Nat → Prop) (b L : Nat) (xs : Nat → Int32) : Prop := gC p s m args c cL_law 7 wsL_lawB RL D cy ∧ (∀ x, s.heap.size ≤ x → A x) ∧ va_X b L xs s s.heap ∧ b < s.heap.size ∧ ¬ A b ∧ L ≤ 2048
theorem l_arg1 (Y : lK p s m args c D cy A b L xs) (hw : gH D cy q A s.heap G H locs) (hl : lv_has ls 7 (lvL q b k)) (hk : 4 * k + 4 ≤ L) (d0 : decode cL_law pc = .ok (.aload_n 0, 1)) (d1 : decode cL_law (pc + 1) = .ok (.iload 4, 2)) (d3 : decode cL_law (pc + 3) = .ok (.iconst 1, 1)) (d4 : decode cL_law (pc + 4) = .ok (.iadd, 1)) (d5 : decode cL_law (pc + 5) = .ok (.iaload, 1))
    (kk : W p l e R s m args below meth c H locs cells slots Q (F0 m (pc + 6) ls (.int (xs (4 * k + 1)) :: rest))) : W p l e R s m args below meth c H locs cells slots Q (F0 m pc ls rest) := by
  obtain ⟨⟨⟨hx, hb, hml, hown, hts⟩, hK⟩, hA, hX, hbl, hbA, hL⟩ := Y
  refine lv_aload_n hx hb d0 rfl (lv_at hl 0 rfl) ?_
  refine lv_iload hx hb d1 (lv_at hl 4 rfl) ?_
  refine lv_iconst (v := 1) hx hb d3 (by decide) ?_
  refine lv_iadd hx hb d4 ?_
  refine g_top (show nI (4 * k) + 1 = nI (4 * k + 1) from nI_add _ 1) ?_
  refine va_sld hx hb hX hbl hbA hw.2.2 (vp_in_nI (show 4 * k + 1 < L by omega) (by omega)) d5 ?_
  rw [nI_clamp (by omega)]
  exact kk
theorem l_arg2 (Y : lK p s m args c D cy A b L xs) (hw : gH D cy q A s.heap G H locs) (hl : lv_has ls 7 (lvL q b k)) (hk : 4 * k + 4 ≤ L) (d0 : decode cL_law pc = .ok (.aload_n 0, 1)) (d1 : decode cL_law (pc + 1) = .ok (.iload 4, 2)) (d3 : decode cL_law (pc + 3) = .ok (.iconst 2, 1)) (d4 : decode cL_law (pc + 4) = .ok (.iadd, 1)) (d5 : decode cL_law (pc + 5) = .ok (.iaload, 1))
    (kk : W p l e R s m args below meth c H locs cells slots Q (F0 m (pc + 6) ls (.int (xs (4 * k + 2)) :: rest))) : W p l e R s m args below meth c H locs cells slots Q (F0 m pc ls rest) := by
  obtain ⟨⟨⟨hx, hb, hml, hown, hts⟩, hK⟩, hA, hX, hbl, hbA, hL⟩ := Y
  refine lv_aload_n hx hb d0 rfl (lv_at hl 0 rfl) ?_
  refine lv_iload hx hb d1 (lv_at hl 4 rfl) ?_
  refine lv_iconst (v := 2) hx hb d3 (by decide) ?_
  refine lv_iadd hx hb d4 ?_
  refine g_top (show nI (4 * k) + 2 = nI (4 * k + 2) from nI_add _ 2) ?_
  refine va_sld hx hb hX hbl hbA hw.2.2 (vp_in_nI (show 4 * k + 2 < L by omega) (by omega)) d5 ?_
  rw [nI_clamp (by omega)]
  exact kk
theorem l_arg3 (Y : lK p s m args c D cy A b L xs) (hw : gH D cy q A s.heap G H locs) (hl : lv_has ls 7 (lvL q b k)) (hk : 4 * k + 4 ≤ L) (d0 : decode cL_law pc = .ok (.aload_n 0, 1)) (d1 : decode cL_law (pc + 1) = .ok (.iload 4, 2)) (d3 : decode cL_law (pc + 3) = .ok (.iconst 3, 1)) (d4 : decode cL_law (pc + 4) = .ok (.iadd, 1)) (d5 : decode cL_law (pc + 5) = .ok (.iaload, 1))
    (kk : W p l e R s m args below meth c H locs cells slots Q (F0 m (pc + 6) ls (.int (xs (4 * k + 3)) :: rest))) : W p l e R s m args below meth c H locs cells slots Q (F0 m pc ls rest) := by
  obtain ⟨⟨⟨hx, hb, hml, hown, hts⟩, hK⟩, hA, hX, hbl, hbA, hL⟩ := Y
  refine lv_aload_n hx hb d0 rfl (lv_at hl 0 rfl) ?_
  refine lv_iload hx hb d1 (lv_at hl 4 rfl) ?_
  refine lv_iconst (v := 3) hx hb d3 (by decide) ?_
  refine lv_iadd hx hb d4 ?_
  refine g_top (show nI (4 * k) + 3 = nI (4 * k + 3) from nI_add _ 3) ?_
  refine va_sld hx hb hX hbl hbA hw.2.2 (vp_in_nI (show 4 * k + 3 < L by omega) (by omega)) d5 ?_
  rw [nI_clamp (by omega)]
  exact kk

set_option maxHeartbeats 4000000 in
set_option maxRecDepth 100000 in
theorem law_frame (Y : lK p s m args c D cy A b L xs) (hw : gH D cy q A s.heap G H locs) (hl : lv_has ls 7 (lvL q b k)) (hk : 4 * k + 4 ≤ L) (hc : cells ≤ room_1.cells ∧ slots ≤ room_1.slots) (hI : Inv G) (kk : ∀ (G1 : GS) (H1 : Heap) (locs1 : List Loc), Inv G1 → gH D cy q A s.heap G1 H1 locs1 → W p l e room_1 s m args below meth c H1 locs1 cells slots Q (F0 m 717 ls [])) : W p l e room_1 s m args below meth c H locs cells slots Q (F0 m 124 ls []) := by
  obtain ⟨X, hA, hX, hbl, hbA, hL⟩ := id Y
  have hx := X.1.1
  have hb := X.1.2.1
  have hts := X.1.2.2.2.2
  refine lv_aload_n hx hb dL_law_124 rfl (lv_at hl 1 rfl) ?_
  refine l_arg1 Y hw hl hk dL_law_125 dL_law_126 dL_law_128 dL_law_129 dL_law_130 ?_
  refine g_callVi 0 (C := RX6) (T := TX6) (N := 6) (As := [.int (xs (4 * k + 1))]) (rest := []) X hw hA (m_X6_frame l D cy q G (xs (4 * k + 1)) _ (op_frame hI (xs (4 * k + 1)))) (by decide) rfl (cwV 1 hts gB_X6_frame rfl rfl rfl (by decide +kernel) ⟨Nat.le_of_ble_eq_true rfl, Nat.le_of_ble_eq_true rfl⟩) rfl hl.1 rfl (Nat.le_of_ble_eq_true rfl) dL_law_131 hc (fun r G1 H locs h hw => ?_)
  refine lv_aload_n hx hb dL_law_134 rfl (lv_at hl 2 rfl) ?_
  refine l_arg1 Y hw hl hk dL_law_135 dL_law_136 dL_law_138 dL_law_139 dL_law_140 ?_
  refine g_callVi 7 (C := RX7) (T := TX7) (N := 31) (As := [.int (xs (4 * k + 1))]) (rest := [.int r]) X hw hA (m_X7_frame l D cy q G1 (xs (4 * k + 1)) _ h) (by decide) rfl (cwV 1 hts gB_X7_frame rfl rfl rfl (by decide +kernel) ⟨Nat.le_of_ble_eq_true rfl, Nat.le_of_ble_eq_true rfl⟩) rfl hl.1 rfl (Nat.le_of_ble_eq_true rfl) dL_law_141 hc (fun r' G2 H locs h hw => ?_)
  exact lv_icmp_eq (tgt := 717) hx hb dL_law_144 (by decide) (fun _ => kk G2 _ _ h.2 hw) (fun z => absurd h.1 z)

set_option maxHeartbeats 4000000 in
set_option maxRecDepth 100000 in
theorem law_version (Y : lK p s m args c D cy A b L xs) (hw : gH D cy q A s.heap G H locs) (hl : lv_has ls 7 (lvL q b k)) (hk : 4 * k + 4 ≤ L) (hc : cells ≤ room_1.cells ∧ slots ≤ room_1.slots) (hI : Inv G) (kk : ∀ (G1 : GS) (H1 : Heap) (locs1 : List Loc), Inv G1 → gH D cy q A s.heap G1 H1 locs1 → W p l e room_1 s m args below meth c H1 locs1 cells slots Q (F0 m 717 ls [])) : W p l e room_1 s m args below meth c H locs cells slots Q (F0 m 149 ls []) := by
  obtain ⟨X, hA, hX, hbl, hbA, hL⟩ := id Y
  have hx := X.1.1
  have hb := X.1.2.1
  have hts := X.1.2.2.2.2
  refine lv_aload_n hx hb dL_law_149 rfl (lv_at hl 1 rfl) ?_
  refine l_arg1 Y hw hl hk dL_law_150 dL_law_151 dL_law_153 dL_law_154 dL_law_155 ?_
  refine g_callVi 0 (C := RX6) (T := TX6) (N := 6) (As := [.int (xs (4 * k + 1))]) (rest := []) X hw hA (m_X6_version l D cy q G (xs (4 * k + 1)) _ (op_version hI (xs (4 * k + 1)))) (by decide) rfl (cwV 1 hts gB_X6_version rfl rfl rfl (by decide +kernel) ⟨Nat.le_of_ble_eq_true rfl, Nat.le_of_ble_eq_true rfl⟩) rfl hl.1 rfl (Nat.le_of_ble_eq_true rfl) dL_law_156 hc (fun r G1 H locs h hw => ?_)
  refine lv_aload_n hx hb dL_law_159 rfl (lv_at hl 2 rfl) ?_
  refine l_arg1 Y hw hl hk dL_law_160 dL_law_161 dL_law_163 dL_law_164 dL_law_165 ?_
  refine g_callVi 7 (C := RX7) (T := TX7) (N := 31) (As := [.int (xs (4 * k + 1))]) (rest := [.int r]) X hw hA (m_X7_version l D cy q G1 (xs (4 * k + 1)) _ h) (by decide) rfl (cwV 1 hts gB_X7_version rfl rfl rfl (by decide +kernel) ⟨Nat.le_of_ble_eq_true rfl, Nat.le_of_ble_eq_true rfl⟩) rfl hl.1 rfl (Nat.le_of_ble_eq_true rfl) dL_law_166 hc (fun r' G2 H locs h hw => ?_)
  exact lv_icmp_eq (tgt := 717) hx hb dL_law_169 (by decide) (fun _ => kk G2 _ _ h.2 hw) (fun z => absurd h.1 z)

set_option maxHeartbeats 4000000 in
set_option maxRecDepth 100000 in
theorem law_report (Y : lK p s m args c D cy A b L xs) (hw : gH D cy q A s.heap G H locs) (hl : lv_has ls 7 (lvL q b k)) (hk : 4 * k + 4 ≤ L) (hc : cells ≤ room_1.cells ∧ slots ≤ room_1.slots) (hI : Inv G) (kk : ∀ (G1 : GS) (H1 : Heap) (locs1 : List Loc), Inv G1 → gH D cy q A s.heap G1 H1 locs1 → W p l e room_1 s m args below meth c H1 locs1 cells slots Q (F0 m 717 ls [])) : W p l e room_1 s m args below meth c H locs cells slots Q (F0 m 174 ls []) := by
  obtain ⟨X, hA, hX, hbl, hbA, hL⟩ := id Y
  have hx := X.1.1
  have hb := X.1.2.1
  have hts := X.1.2.2.2.2
  refine lv_aload_n hx hb dL_law_174 rfl (lv_at hl 1 rfl) ?_
  refine l_arg1 Y hw hl hk dL_law_175 dL_law_176 dL_law_178 dL_law_179 dL_law_180 ?_
  refine g_callVi 0 (C := RX6) (T := TX6) (N := 6) (As := [.int (xs (4 * k + 1))]) (rest := []) X hw hA (m_X6_report l D cy q G (xs (4 * k + 1)) _ (op_report hI (xs (4 * k + 1)))) (by decide) rfl (cwV 1 hts gB_X6_report rfl rfl rfl (by decide +kernel) ⟨Nat.le_of_ble_eq_true rfl, Nat.le_of_ble_eq_true rfl⟩) rfl hl.1 rfl (Nat.le_of_ble_eq_true rfl) dL_law_181 hc (fun r G1 H locs h hw => ?_)
  refine lv_aload_n hx hb dL_law_184 rfl (lv_at hl 2 rfl) ?_
  refine l_arg1 Y hw hl hk dL_law_185 dL_law_186 dL_law_188 dL_law_189 dL_law_190 ?_
  refine g_callVi 7 (C := RX7) (T := TX7) (N := 31) (As := [.int (xs (4 * k + 1))]) (rest := [.int r]) X hw hA (m_X7_report l D cy q G1 (xs (4 * k + 1)) _ h) (by decide) rfl (cwV 1 hts gB_X7_report rfl rfl rfl (by decide +kernel) ⟨Nat.le_of_ble_eq_true rfl, Nat.le_of_ble_eq_true rfl⟩) rfl hl.1 rfl (Nat.le_of_ble_eq_true rfl) dL_law_191 hc (fun r' G2 H locs h hw => ?_)
  exact lv_icmp_eq (tgt := 717) hx hb dL_law_194 (by decide) (fun _ => kk G2 _ _ h.2 hw) (fun z => absurd h.1 z)

set_option maxHeartbeats 4000000 in
set_option maxRecDepth 100000 in
theorem law_pair (Y : lK p s m args c D cy A b L xs) (hw : gH D cy q A s.heap G H locs) (hl : lv_has ls 7 (lvL q b k)) (hk : 4 * k + 4 ≤ L) (hc : cells ≤ room_1.cells ∧ slots ≤ room_1.slots) (hI : Inv G) (kk : ∀ (G1 : GS) (H1 : Heap) (locs1 : List Loc), Inv G1 → gH D cy q A s.heap G1 H1 locs1 → W p l e room_1 s m args below meth c H1 locs1 cells slots Q (F0 m 717 ls [])) : W p l e room_1 s m args below meth c H locs cells slots Q (F0 m 199 ls []) := by
  obtain ⟨X, hA, hX, hbl, hbA, hL⟩ := id Y
  have hx := X.1.1
  have hb := X.1.2.1
  have hts := X.1.2.2.2.2
  refine lv_aload_n hx hb dL_law_199 rfl (lv_at hl 1 rfl) ?_
  refine l_arg1 Y hw hl hk dL_law_200 dL_law_201 dL_law_203 dL_law_204 dL_law_205 ?_
  refine l_arg2 Y hw hl hk dL_law_206 dL_law_207 dL_law_209 dL_law_210 dL_law_211 ?_
  refine l_arg3 Y hw hl hk dL_law_212 dL_law_213 dL_law_215 dL_law_216 dL_law_217 ?_
  have K : ∀ w : Int32, w = (if xs (4 * k + 3) = 0 then 0 else 1) → W p l e room_1 s m args below meth c H locs cells slots Q (F0 m 226 ls [.int w, .int (xs (4 * k + 2)), .int (xs (4 * k + 1)), .ref (q 0)]) := by
    intro w ew
    refine g_callVi 0 (C := RX6) (T := TX6) (N := 6) (As := [.int (xs (4 * k + 1)), .int (xs (4 * k + 2)), .int w]) (rest := []) X hw hA (m_X6_pair l D cy q G (xs (4 * k + 1)) (xs (4 * k + 2)) w _ (op_pair hI (xs (4 * k + 1)) (xs (4 * k + 2)) w)) (by decide) rfl (cwV 3 hts gB_X6_pair rfl rfl rfl (by decide +kernel) ⟨Nat.le_of_ble_eq_true rfl, Nat.le_of_ble_eq_true rfl⟩) rfl hl.1 rfl (Nat.le_of_ble_eq_true rfl) dL_law_226 hc (fun r G1 H locs h hw => ?_)
    refine lv_aload_n hx hb dL_law_229 rfl (lv_at hl 2 rfl) ?_
    refine l_arg1 Y hw hl hk dL_law_230 dL_law_231 dL_law_233 dL_law_234 dL_law_235 ?_
    refine l_arg2 Y hw hl hk dL_law_236 dL_law_237 dL_law_239 dL_law_240 dL_law_241 ?_
    refine l_arg3 Y hw hl hk dL_law_242 dL_law_243 dL_law_245 dL_law_246 dL_law_247 ?_
    have K2 : W p l e room_1 s m args below meth c H locs cells slots Q (F0 m 256 ls [.int w, .int (xs (4 * k + 2)), .int (xs (4 * k + 1)), .ref (q 7), .int r]) := by
      refine g_callVi 7 (C := RX7) (T := TX7) (N := 31) (As := [.int (xs (4 * k + 1)), .int (xs (4 * k + 2)), .int w]) (rest := [.int r]) X hw hA (m_X7_pair l D cy q G1 (xs (4 * k + 1)) (xs (4 * k + 2)) w _ h) (by decide) rfl (cwV 3 hts gB_X7_pair rfl rfl rfl (by decide +kernel) ⟨Nat.le_of_ble_eq_true rfl, Nat.le_of_ble_eq_true rfl⟩) rfl hl.1 rfl (Nat.le_of_ble_eq_true rfl) dL_law_256 hc (fun r' G2 H locs h hw => ?_)
      exact lv_icmp_eq (tgt := 717) hx hb dL_law_259 (by decide) (fun _ => kk G2 _ _ h.2 hw) (fun z => absurd h.1 z)
    refine lv_if_eq (tgt := 255) hx hb dL_law_248 (by decide) (fun z => ?_) (fun z => ?_)
    · have e : w = 0 := ew.trans (if_pos z)
      rw [e] at K2
      exact lv_iconst (v := 0) hx hb dL_law_255 (by decide) K2
    · have e : w = 1 := ew.trans (if_neg z)
      rw [e] at K2
      exact lv_iconst (v := 1) hx hb dL_law_251 (by decide) (lv_goto (tgt := 256) hx hb dL_law_252 (by decide) K2)
  refine lv_if_eq (tgt := 225) hx hb dL_law_218 (by decide) (fun z => ?_) (fun z => ?_)
  · exact lv_iconst (v := 0) hx hb dL_law_225 (by decide) (K 0 ((if_pos z).symm))
  · exact lv_iconst (v := 1) hx hb dL_law_221 (by decide) (lv_goto (tgt := 226) hx hb dL_law_222 (by decide) (K 1 ((if_neg z).symm)))

set_option maxHeartbeats 4000000 in
set_option maxRecDepth 100000 in
theorem law_free (Y : lK p s m args c D cy A b L xs) (hw : gH D cy q A s.heap G H locs) (hl : lv_has ls 7 (lvL q b k)) (hk : 4 * k + 4 ≤ L) (hc : cells ≤ room_1.cells ∧ slots ≤ room_1.slots) (hI : Inv G) (kk : ∀ (G1 : GS) (H1 : Heap) (locs1 : List Loc), Inv G1 → gH D cy q A s.heap G1 H1 locs1 → W p l e room_1 s m args below meth c H1 locs1 cells slots Q (F0 m 717 ls [])) : W p l e room_1 s m args below meth c H locs cells slots Q (F0 m 264 ls []) := by
  obtain ⟨X, hA, hX, hbl, hbA, hL⟩ := id Y
  have hx := X.1.1
  have hb := X.1.2.1
  have hts := X.1.2.2.2.2
  refine lv_aload_n hx hb dL_law_264 rfl (lv_at hl 1 rfl) ?_
  refine l_arg1 Y hw hl hk dL_law_265 dL_law_266 dL_law_268 dL_law_269 dL_law_270 ?_
  refine l_arg2 Y hw hl hk dL_law_271 dL_law_272 dL_law_274 dL_law_275 dL_law_276 ?_
  refine g_callVi 0 (C := RX6) (T := TX6) (N := 6) (As := [.int (xs (4 * k + 1)), .int (xs (4 * k + 2))]) (rest := []) X hw hA (m_X6_free l D cy q G (xs (4 * k + 1)) (xs (4 * k + 2)) _ (op_free hI (xs (4 * k + 1)) (xs (4 * k + 2)))) (by decide) rfl (cwV 2 hts gB_X6_free rfl rfl rfl (by decide +kernel) ⟨Nat.le_of_ble_eq_true rfl, Nat.le_of_ble_eq_true rfl⟩) rfl hl.1 rfl (Nat.le_of_ble_eq_true rfl) dL_law_277 hc (fun r G1 H locs h hw => ?_)
  refine lv_aload_n hx hb dL_law_280 rfl (lv_at hl 2 rfl) ?_
  refine l_arg1 Y hw hl hk dL_law_281 dL_law_282 dL_law_284 dL_law_285 dL_law_286 ?_
  refine l_arg2 Y hw hl hk dL_law_287 dL_law_288 dL_law_290 dL_law_291 dL_law_292 ?_
  refine g_callVi 7 (C := RX7) (T := TX7) (N := 31) (As := [.int (xs (4 * k + 1)), .int (xs (4 * k + 2))]) (rest := [.int r]) X hw hA (m_X7_free l D cy q G1 (xs (4 * k + 1)) (xs (4 * k + 2)) _ h) (by decide) rfl (cwV 2 hts gB_X7_free rfl rfl rfl (by decide +kernel) ⟨Nat.le_of_ble_eq_true rfl, Nat.le_of_ble_eq_true rfl⟩) rfl hl.1 rfl (Nat.le_of_ble_eq_true rfl) dL_law_293 hc (fun r' G2 H locs h hw => ?_)
  exact lv_icmp_eq (tgt := 717) hx hb dL_law_296 (by decide) (fun _ => kk G2 _ _ h.2 hw) (fun z => absurd h.1 z)

set_option maxHeartbeats 4000000 in
set_option maxRecDepth 100000 in
theorem law_mark (Y : lK p s m args c D cy A b L xs) (hw : gH D cy q A s.heap G H locs) (hl : lv_has ls 7 (lvL q b k)) (hk : 4 * k + 4 ≤ L) (hc : cells ≤ room_1.cells ∧ slots ≤ room_1.slots) (hI : Inv G) (kk : ∀ (G1 : GS) (H1 : Heap) (locs1 : List Loc), Inv G1 → gH D cy q A s.heap G1 H1 locs1 → W p l e room_1 s m args below meth c H1 locs1 cells slots Q (F0 m 717 ls [])) : W p l e room_1 s m args below meth c H locs cells slots Q (F0 m 301 ls []) := by
  obtain ⟨X, hA, hX, hbl, hbA, hL⟩ := id Y
  have hx := X.1.1
  have hb := X.1.2.1
  have hts := X.1.2.2.2.2
  refine lv_aload_n hx hb dL_law_301 rfl (lv_at hl 1 rfl) ?_
  refine l_arg1 Y hw hl hk dL_law_302 dL_law_303 dL_law_305 dL_law_306 dL_law_307 ?_
  refine g_callVi 0 (C := RX6) (T := TX6) (N := 6) (As := [.int (xs (4 * k + 1))]) (rest := []) X hw hA (m_X6_mark l D cy q G (xs (4 * k + 1)) _ (op_mark hI (xs (4 * k + 1)))) (by decide) rfl (cwV 1 hts gB_X6_mark rfl rfl rfl (by decide +kernel) ⟨Nat.le_of_ble_eq_true rfl, Nat.le_of_ble_eq_true rfl⟩) rfl hl.1 rfl (Nat.le_of_ble_eq_true rfl) dL_law_308 hc (fun r G1 H locs h hw => ?_)
  refine lv_aload_n hx hb dL_law_311 rfl (lv_at hl 2 rfl) ?_
  refine l_arg1 Y hw hl hk dL_law_312 dL_law_313 dL_law_315 dL_law_316 dL_law_317 ?_
  refine g_callVi 7 (C := RX7) (T := TX7) (N := 31) (As := [.int (xs (4 * k + 1))]) (rest := [.int r]) X hw hA (m_X7_mark l D cy q G1 (xs (4 * k + 1)) _ h) (by decide) rfl (cwV 1 hts gB_X7_mark rfl rfl rfl (by decide +kernel) ⟨Nat.le_of_ble_eq_true rfl, Nat.le_of_ble_eq_true rfl⟩) rfl hl.1 rfl (Nat.le_of_ble_eq_true rfl) dL_law_318 hc (fun r' G2 H locs h hw => ?_)
  exact lv_icmp_eq (tgt := 717) hx hb dL_law_321 (by decide) (fun _ => kk G2 _ _ h.2 hw) (fun z => absurd h.1 z)

set_option maxHeartbeats 4000000 in
set_option maxRecDepth 100000 in
theorem law_resettle (Y : lK p s m args c D cy A b L xs) (hw : gH D cy q A s.heap G H locs) (hl : lv_has ls 7 (lvL q b k)) (hk : 4 * k + 4 ≤ L) (hc : cells ≤ room_1.cells ∧ slots ≤ room_1.slots) (hI : Inv G) (kk : ∀ (G1 : GS) (H1 : Heap) (locs1 : List Loc), Inv G1 → gH D cy q A s.heap G1 H1 locs1 → W p l e room_1 s m args below meth c H1 locs1 cells slots Q (F0 m 717 ls [])) : W p l e room_1 s m args below meth c H locs cells slots Q (F0 m 326 ls []) := by
  obtain ⟨X, hA, hX, hbl, hbA, hL⟩ := id Y
  have hx := X.1.1
  have hb := X.1.2.1
  have hts := X.1.2.2.2.2
  refine lv_aload_n hx hb dL_law_326 rfl (lv_at hl 1 rfl) ?_
  refine g_callVi 0 (C := RX6) (T := TX6) (N := 6) (As := []) (rest := []) X hw hA (m_X6_resettle l D cy q G _ (op_resettle hI)) (by decide) rfl (cwV 0 hts gB_X6_resettle rfl rfl rfl (by decide +kernel) ⟨Nat.le_of_ble_eq_true rfl, Nat.le_of_ble_eq_true rfl⟩) rfl hl.1 rfl (Nat.le_of_ble_eq_true rfl) dL_law_327 hc (fun r G1 H locs h hw => ?_)
  refine lv_aload_n hx hb dL_law_330 rfl (lv_at hl 2 rfl) ?_
  refine g_callVi 7 (C := RX7) (T := TX7) (N := 31) (As := []) (rest := [.int r]) X hw hA (m_X7_resettle l D cy q G1 _ h) (by decide) rfl (cwV 0 hts gB_X7_resettle rfl rfl rfl (by decide +kernel) ⟨Nat.le_of_ble_eq_true rfl, Nat.le_of_ble_eq_true rfl⟩) rfl hl.1 rfl (Nat.le_of_ble_eq_true rfl) dL_law_331 hc (fun r' G2 H locs h hw => ?_)
  exact lv_icmp_eq (tgt := 717) hx hb dL_law_334 (by decide) (fun _ => kk G2 _ _ h.2 hw) (fun z => absurd h.1 z)

set_option maxHeartbeats 4000000 in
set_option maxRecDepth 100000 in
theorem law_distance (Y : lK p s m args c D cy A b L xs) (hw : gH D cy q A s.heap G H locs) (hl : lv_has ls 7 (lvL q b k)) (hk : 4 * k + 4 ≤ L) (hc : cells ≤ room_1.cells ∧ slots ≤ room_1.slots) (hI : Inv G) (kk : ∀ (G1 : GS) (H1 : Heap) (locs1 : List Loc), Inv G1 → gH D cy q A s.heap G1 H1 locs1 → W p l e room_1 s m args below meth c H1 locs1 cells slots Q (F0 m 717 ls [])) : W p l e room_1 s m args below meth c H locs cells slots Q (F0 m 339 ls []) := by
  obtain ⟨X, hA, hX, hbl, hbA, hL⟩ := id Y
  have hx := X.1.1
  have hb := X.1.2.1
  have hts := X.1.2.2.2.2
  refine lv_aload_n hx hb dL_law_339 rfl (lv_at hl 1 rfl) ?_
  refine l_arg1 Y hw hl hk dL_law_340 dL_law_341 dL_law_343 dL_law_344 dL_law_345 ?_
  refine l_arg2 Y hw hl hk dL_law_346 dL_law_347 dL_law_349 dL_law_350 dL_law_351 ?_
  refine g_callVi 0 (C := RX6) (T := TX6) (N := 6) (As := [.int (xs (4 * k + 1)), .int (xs (4 * k + 2))]) (rest := []) X hw hA (m_X6_distance l D cy q G (xs (4 * k + 1)) (xs (4 * k + 2)) _ (op_distance hI (xs (4 * k + 1)) (xs (4 * k + 2)))) (by decide) rfl (cwV 2 hts gB_X6_distance rfl rfl rfl (by decide +kernel) ⟨Nat.le_of_ble_eq_true rfl, Nat.le_of_ble_eq_true rfl⟩) rfl hl.1 rfl (Nat.le_of_ble_eq_true rfl) dL_law_352 hc (fun r G1 H locs h hw => ?_)
  refine lv_aload_n hx hb dL_law_355 rfl (lv_at hl 2 rfl) ?_
  refine l_arg1 Y hw hl hk dL_law_356 dL_law_357 dL_law_359 dL_law_360 dL_law_361 ?_
  refine l_arg2 Y hw hl hk dL_law_362 dL_law_363 dL_law_365 dL_law_366 dL_law_367 ?_
  refine g_callVi 7 (C := RX7) (T := TX7) (N := 31) (As := [.int (xs (4 * k + 1)), .int (xs (4 * k + 2))]) (rest := [.int r]) X hw hA (m_X7_distance l D cy q G1 (xs (4 * k + 1)) (xs (4 * k + 2)) _ h) (by decide) rfl (cwV 2 hts gB_X7_distance rfl rfl rfl (by decide +kernel) ⟨Nat.le_of_ble_eq_true rfl, Nat.le_of_ble_eq_true rfl⟩) rfl hl.1 rfl (Nat.le_of_ble_eq_true rfl) dL_law_368 hc (fun r' G2 H locs h hw => ?_)
  exact lv_icmp_eq (tgt := 717) hx hb dL_law_371 (by decide) (fun _ => kk G2 _ _ h.2 hw) (fun z => absurd h.1 z)

set_option maxHeartbeats 4000000 in
set_option maxRecDepth 100000 in
theorem law_heap (Y : lK p s m args c D cy A b L xs) (hw : gH D cy q A s.heap G H locs) (hl : lv_has ls 7 (lvL q b k)) (hk : 4 * k + 4 ≤ L) (hc : cells ≤ room_1.cells ∧ slots ≤ room_1.slots) (hI : Inv G) (kk : ∀ (G1 : GS) (H1 : Heap) (locs1 : List Loc), Inv G1 → gH D cy q A s.heap G1 H1 locs1 → W p l e room_1 s m args below meth c H1 locs1 cells slots Q (F0 m 717 ls [])) : W p l e room_1 s m args below meth c H locs cells slots Q (F0 m 376 ls []) := by
  obtain ⟨X, hA, hX, hbl, hbA, hL⟩ := id Y
  have hx := X.1.1
  have hb := X.1.2.1
  have hts := X.1.2.2.2.2
  refine lv_aload_n hx hb dL_law_376 rfl (lv_at hl 1 rfl) ?_
  refine l_arg1 Y hw hl hk dL_law_377 dL_law_378 dL_law_380 dL_law_381 dL_law_382 ?_
  refine g_callVi 0 (C := RX6) (T := TX6) (N := 6) (As := [.int (xs (4 * k + 1))]) (rest := []) X hw hA (m_X6_heap l D cy q G (xs (4 * k + 1)) _ (op_heap hI (xs (4 * k + 1)))) (by decide) rfl (cwV 1 hts gB_X6_heap rfl rfl rfl (by decide +kernel) ⟨Nat.le_of_ble_eq_true rfl, Nat.le_of_ble_eq_true rfl⟩) rfl hl.1 rfl (Nat.le_of_ble_eq_true rfl) dL_law_383 hc (fun r G1 H locs h hw => ?_)
  refine lv_aload_n hx hb dL_law_386 rfl (lv_at hl 2 rfl) ?_
  refine l_arg1 Y hw hl hk dL_law_387 dL_law_388 dL_law_390 dL_law_391 dL_law_392 ?_
  refine g_callVi 7 (C := RX7) (T := TX7) (N := 31) (As := [.int (xs (4 * k + 1))]) (rest := [.int r]) X hw hA (m_X7_heap l D cy q G1 (xs (4 * k + 1)) _ h) (by decide) rfl (cwV 1 hts gB_X7_heap rfl rfl rfl (by decide +kernel) ⟨Nat.le_of_ble_eq_true rfl, Nat.le_of_ble_eq_true rfl⟩) rfl hl.1 rfl (Nat.le_of_ble_eq_true rfl) dL_law_393 hc (fun r' G2 H locs h hw => ?_)
  exact lv_icmp_eq (tgt := 717) hx hb dL_law_396 (by decide) (fun _ => kk G2 _ _ h.2 hw) (fun z => absurd h.1 z)

set_option maxHeartbeats 4000000 in
set_option maxRecDepth 100000 in
theorem law_cost (Y : lK p s m args c D cy A b L xs) (hw : gH D cy q A s.heap G H locs) (hl : lv_has ls 7 (lvL q b k)) (hk : 4 * k + 4 ≤ L) (hc : cells ≤ room_1.cells ∧ slots ≤ room_1.slots) (hI : Inv G) (kk : ∀ (G1 : GS) (H1 : Heap) (locs1 : List Loc), Inv G1 → gH D cy q A s.heap G1 H1 locs1 → W p l e room_1 s m args below meth c H1 locs1 cells slots Q (F0 m 717 ls [])) : W p l e room_1 s m args below meth c H locs cells slots Q (F0 m 401 ls []) := by
  obtain ⟨X, hA, hX, hbl, hbA, hL⟩ := id Y
  have hx := X.1.1
  have hb := X.1.2.1
  have hts := X.1.2.2.2.2
  refine lv_aload_n hx hb dL_law_401 rfl (lv_at hl 1 rfl) ?_
  refine l_arg1 Y hw hl hk dL_law_402 dL_law_403 dL_law_405 dL_law_406 dL_law_407 ?_
  refine l_arg2 Y hw hl hk dL_law_408 dL_law_409 dL_law_411 dL_law_412 dL_law_413 ?_
  refine g_callVi 0 (C := RX6) (T := TX6) (N := 6) (As := [.int (xs (4 * k + 1)), .int (xs (4 * k + 2))]) (rest := []) X hw hA (m_X6_cost l D cy q G (xs (4 * k + 1)) (xs (4 * k + 2)) _ (op_cost hI (xs (4 * k + 1)) (xs (4 * k + 2)))) (by decide) rfl (cwV 2 hts gB_X6_cost rfl rfl rfl (by decide +kernel) ⟨Nat.le_of_ble_eq_true rfl, Nat.le_of_ble_eq_true rfl⟩) rfl hl.1 rfl (Nat.le_of_ble_eq_true rfl) dL_law_414 hc (fun r G1 H locs h hw => ?_)
  refine lv_aload_n hx hb dL_law_417 rfl (lv_at hl 2 rfl) ?_
  refine l_arg1 Y hw hl hk dL_law_418 dL_law_419 dL_law_421 dL_law_422 dL_law_423 ?_
  refine l_arg2 Y hw hl hk dL_law_424 dL_law_425 dL_law_427 dL_law_428 dL_law_429 ?_
  refine g_callVi 7 (C := RX7) (T := TX7) (N := 31) (As := [.int (xs (4 * k + 1)), .int (xs (4 * k + 2))]) (rest := [.int r]) X hw hA (m_X7_cost l D cy q G1 (xs (4 * k + 1)) (xs (4 * k + 2)) _ h) (by decide) rfl (cwV 2 hts gB_X7_cost rfl rfl rfl (by decide +kernel) ⟨Nat.le_of_ble_eq_true rfl, Nat.le_of_ble_eq_true rfl⟩) rfl hl.1 rfl (Nat.le_of_ble_eq_true rfl) dL_law_430 hc (fun r' G2 H locs h hw => ?_)
  exact lv_icmp_eq (tgt := 717) hx hb dL_law_433 (by decide) (fun _ => kk G2 _ _ h.2 hw) (fun z => absurd h.1 z)

set_option maxHeartbeats 4000000 in
set_option maxRecDepth 100000 in
theorem law_row (Y : lK p s m args c D cy A b L xs) (hw : gH D cy q A s.heap G H locs) (hl : lv_has ls 7 (lvL q b k)) (hk : 4 * k + 4 ≤ L) (hc : cells ≤ room_1.cells ∧ slots ≤ room_1.slots) (hI : Inv G) (kk : ∀ (G1 : GS) (H1 : Heap) (locs1 : List Loc), Inv G1 → gH D cy q A s.heap G1 H1 locs1 → W p l e room_1 s m args below meth c H1 locs1 cells slots Q (F0 m 717 ls [])) : W p l e room_1 s m args below meth c H locs cells slots Q (F0 m 438 ls []) := by
  obtain ⟨X, hA, hX, hbl, hbA, hL⟩ := id Y
  have hx := X.1.1
  have hb := X.1.2.1
  have hts := X.1.2.2.2.2
  refine lv_aload_n hx hb dL_law_438 rfl (lv_at hl 1 rfl) ?_
  refine l_arg1 Y hw hl hk dL_law_439 dL_law_440 dL_law_442 dL_law_443 dL_law_444 ?_
  refine l_arg2 Y hw hl hk dL_law_445 dL_law_446 dL_law_448 dL_law_449 dL_law_450 ?_
  refine g_callVi 0 (C := RX6) (T := TX6) (N := 6) (As := [.int (xs (4 * k + 1)), .int (xs (4 * k + 2))]) (rest := []) X hw hA (m_X6_row l D cy q G (xs (4 * k + 1)) (xs (4 * k + 2)) _ (op_row hI (xs (4 * k + 1)) (xs (4 * k + 2)))) (by decide) rfl (cwV 2 hts gB_X6_row rfl rfl rfl (by decide +kernel) ⟨Nat.le_of_ble_eq_true rfl, Nat.le_of_ble_eq_true rfl⟩) rfl hl.1 rfl (Nat.le_of_ble_eq_true rfl) dL_law_451 hc (fun r G1 H locs h hw => ?_)
  refine lv_aload_n hx hb dL_law_454 rfl (lv_at hl 2 rfl) ?_
  refine l_arg1 Y hw hl hk dL_law_455 dL_law_456 dL_law_458 dL_law_459 dL_law_460 ?_
  refine l_arg2 Y hw hl hk dL_law_461 dL_law_462 dL_law_464 dL_law_465 dL_law_466 ?_
  refine g_callVi 7 (C := RX7) (T := TX7) (N := 31) (As := [.int (xs (4 * k + 1)), .int (xs (4 * k + 2))]) (rest := [.int r]) X hw hA (m_X7_row l D cy q G1 (xs (4 * k + 1)) (xs (4 * k + 2)) _ h) (by decide) rfl (cwV 2 hts gB_X7_row rfl rfl rfl (by decide +kernel) ⟨Nat.le_of_ble_eq_true rfl, Nat.le_of_ble_eq_true rfl⟩) rfl hl.1 rfl (Nat.le_of_ble_eq_true rfl) dL_law_467 hc (fun r' G2 H locs h hw => ?_)
  exact lv_icmp_eq (tgt := 717) hx hb dL_law_470 (by decide) (fun _ => kk G2 _ _ h.2 hw) (fun z => absurd h.1 z)

set_option maxHeartbeats 4000000 in
set_option maxRecDepth 100000 in
theorem law_common (Y : lK p s m args c D cy A b L xs) (hw : gH D cy q A s.heap G H locs) (hl : lv_has ls 7 (lvL q b k)) (hk : 4 * k + 4 ≤ L) (hc : cells ≤ room_1.cells ∧ slots ≤ room_1.slots) (hI : Inv G) (kk : ∀ (G1 : GS) (H1 : Heap) (locs1 : List Loc), Inv G1 → gH D cy q A s.heap G1 H1 locs1 → W p l e room_1 s m args below meth c H1 locs1 cells slots Q (F0 m 717 ls [])) : W p l e room_1 s m args below meth c H locs cells slots Q (F0 m 475 ls []) := by
  obtain ⟨X, hA, hX, hbl, hbA, hL⟩ := id Y
  have hx := X.1.1
  have hb := X.1.2.1
  have hts := X.1.2.2.2.2
  refine lv_aload_n hx hb dL_law_475 rfl (lv_at hl 1 rfl) ?_
  refine l_arg1 Y hw hl hk dL_law_476 dL_law_477 dL_law_479 dL_law_480 dL_law_481 ?_
  refine g_callVi 0 (C := RX6) (T := TX6) (N := 6) (As := [.int (xs (4 * k + 1))]) (rest := []) X hw hA (m_X6_common l D cy q G (xs (4 * k + 1)) _ (op_common hI (xs (4 * k + 1)))) (by decide) rfl (cwV 1 hts gB_X6_common rfl rfl rfl (by decide +kernel) ⟨Nat.le_of_ble_eq_true rfl, Nat.le_of_ble_eq_true rfl⟩) rfl hl.1 rfl (Nat.le_of_ble_eq_true rfl) dL_law_482 hc (fun r G1 H locs h hw => ?_)
  refine lv_aload_n hx hb dL_law_485 rfl (lv_at hl 2 rfl) ?_
  refine l_arg1 Y hw hl hk dL_law_486 dL_law_487 dL_law_489 dL_law_490 dL_law_491 ?_
  refine g_callVi 7 (C := RX7) (T := TX7) (N := 31) (As := [.int (xs (4 * k + 1))]) (rest := [.int r]) X hw hA (m_X7_common l D cy q G1 (xs (4 * k + 1)) _ h) (by decide) rfl (cwV 1 hts gB_X7_common rfl rfl rfl (by decide +kernel) ⟨Nat.le_of_ble_eq_true rfl, Nat.le_of_ble_eq_true rfl⟩) rfl hl.1 rfl (Nat.le_of_ble_eq_true rfl) dL_law_492 hc (fun r' G2 H locs h hw => ?_)
  exact lv_icmp_eq (tgt := 717) hx hb dL_law_495 (by decide) (fun _ => kk G2 _ _ h.2 hw) (fun z => absurd h.1 z)

set_option maxHeartbeats 4000000 in
set_option maxRecDepth 100000 in
theorem law_sign (Y : lK p s m args c D cy A b L xs) (hw : gH D cy q A s.heap G H locs) (hl : lv_has ls 7 (lvL q b k)) (hk : 4 * k + 4 ≤ L) (hc : cells ≤ room_1.cells ∧ slots ≤ room_1.slots) (hI : Inv G) (kk : ∀ (G1 : GS) (H1 : Heap) (locs1 : List Loc), Inv G1 → gH D cy q A s.heap G1 H1 locs1 → W p l e room_1 s m args below meth c H1 locs1 cells slots Q (F0 m 717 ls [])) : W p l e room_1 s m args below meth c H locs cells slots Q (F0 m 500 ls []) := by
  obtain ⟨X, hA, hX, hbl, hbA, hL⟩ := id Y
  have hx := X.1.1
  have hb := X.1.2.1
  have hts := X.1.2.2.2.2
  refine lv_aload_n hx hb dL_law_500 rfl (lv_at hl 1 rfl) ?_
  refine l_arg1 Y hw hl hk dL_law_501 dL_law_502 dL_law_504 dL_law_505 dL_law_506 ?_
  refine g_callVi 0 (C := RX6) (T := TX6) (N := 6) (As := [.int (xs (4 * k + 1))]) (rest := []) X hw hA (m_X6_sign l D cy q G (xs (4 * k + 1)) _ (op_sign hI (xs (4 * k + 1)))) (by decide) rfl (cwV 1 hts gB_X6_sign rfl rfl rfl (by decide +kernel) ⟨Nat.le_of_ble_eq_true rfl, Nat.le_of_ble_eq_true rfl⟩) rfl hl.1 rfl (Nat.le_of_ble_eq_true rfl) dL_law_507 hc (fun r G1 H locs h hw => ?_)
  refine lv_aload_n hx hb dL_law_510 rfl (lv_at hl 2 rfl) ?_
  refine l_arg1 Y hw hl hk dL_law_511 dL_law_512 dL_law_514 dL_law_515 dL_law_516 ?_
  refine g_callVi 7 (C := RX7) (T := TX7) (N := 31) (As := [.int (xs (4 * k + 1))]) (rest := [.int r]) X hw hA (m_X7_sign l D cy q G1 (xs (4 * k + 1)) _ h) (by decide) rfl (cwV 1 hts gB_X7_sign rfl rfl rfl (by decide +kernel) ⟨Nat.le_of_ble_eq_true rfl, Nat.le_of_ble_eq_true rfl⟩) rfl hl.1 rfl (Nat.le_of_ble_eq_true rfl) dL_law_517 hc (fun r' G2 H locs h hw => ?_)
  exact lv_icmp_eq (tgt := 717) hx hb dL_law_520 (by decide) (fun _ => kk G2 _ _ h.2 hw) (fun z => absurd h.1 z)

set_option maxHeartbeats 4000000 in
set_option maxRecDepth 100000 in
theorem law_signed (Y : lK p s m args c D cy A b L xs) (hw : gH D cy q A s.heap G H locs) (hl : lv_has ls 7 (lvL q b k)) (hk : 4 * k + 4 ≤ L) (hc : cells ≤ room_1.cells ∧ slots ≤ room_1.slots) (hI : Inv G) (kk : ∀ (G1 : GS) (H1 : Heap) (locs1 : List Loc), Inv G1 → gH D cy q A s.heap G1 H1 locs1 → W p l e room_1 s m args below meth c H1 locs1 cells slots Q (F0 m 717 ls [])) : W p l e room_1 s m args below meth c H locs cells slots Q (F0 m 525 ls []) := by
  obtain ⟨X, hA, hX, hbl, hbA, hL⟩ := id Y
  have hx := X.1.1
  have hb := X.1.2.1
  have hts := X.1.2.2.2.2
  refine lv_aload_n hx hb dL_law_525 rfl (lv_at hl 1 rfl) ?_
  refine l_arg1 Y hw hl hk dL_law_526 dL_law_527 dL_law_529 dL_law_530 dL_law_531 ?_
  refine g_callVi 0 (C := RX6) (T := TX6) (N := 6) (As := [.int (xs (4 * k + 1))]) (rest := []) X hw hA (m_X6_signed l D cy q G (xs (4 * k + 1)) _ (op_signed hI (xs (4 * k + 1)))) (by decide) rfl (cwV 1 hts gB_X6_signed rfl rfl rfl (by decide +kernel) ⟨Nat.le_of_ble_eq_true rfl, Nat.le_of_ble_eq_true rfl⟩) rfl hl.1 rfl (Nat.le_of_ble_eq_true rfl) dL_law_532 hc (fun r G1 H locs h hw => ?_)
  refine lv_aload_n hx hb dL_law_535 rfl (lv_at hl 2 rfl) ?_
  refine l_arg1 Y hw hl hk dL_law_536 dL_law_537 dL_law_539 dL_law_540 dL_law_541 ?_
  refine g_callVi 7 (C := RX7) (T := TX7) (N := 31) (As := [.int (xs (4 * k + 1))]) (rest := [.int r]) X hw hA (m_X7_signed l D cy q G1 (xs (4 * k + 1)) _ h) (by decide) rfl (cwV 1 hts gB_X7_signed rfl rfl rfl (by decide +kernel) ⟨Nat.le_of_ble_eq_true rfl, Nat.le_of_ble_eq_true rfl⟩) rfl hl.1 rfl (Nat.le_of_ble_eq_true rfl) dL_law_542 hc (fun r' G2 H locs h hw => ?_)
  exact lv_icmp_eq (tgt := 717) hx hb dL_law_545 (by decide) (fun _ => kk G2 _ _ h.2 hw) (fun z => absurd h.1 z)

set_option maxHeartbeats 4000000 in
set_option maxRecDepth 100000 in
theorem law_fix (Y : lK p s m args c D cy A b L xs) (hw : gH D cy q A s.heap G H locs) (hl : lv_has ls 7 (lvL q b k)) (hk : 4 * k + 4 ≤ L) (hc : cells ≤ room_1.cells ∧ slots ≤ room_1.slots) (hI : Inv G) (kk : ∀ (G1 : GS) (H1 : Heap) (locs1 : List Loc), Inv G1 → gH D cy q A s.heap G1 H1 locs1 → W p l e room_1 s m args below meth c H1 locs1 cells slots Q (F0 m 717 ls [])) : W p l e room_1 s m args below meth c H locs cells slots Q (F0 m 550 ls []) := by
  obtain ⟨X, hA, hX, hbl, hbA, hL⟩ := id Y
  have hx := X.1.1
  have hb := X.1.2.1
  have hts := X.1.2.2.2.2
  refine lv_aload_n hx hb dL_law_550 rfl (lv_at hl 1 rfl) ?_
  refine l_arg1 Y hw hl hk dL_law_551 dL_law_552 dL_law_554 dL_law_555 dL_law_556 ?_
  refine l_arg2 Y hw hl hk dL_law_557 dL_law_558 dL_law_560 dL_law_561 dL_law_562 ?_
  refine g_callVi 0 (C := RX6) (T := TX6) (N := 6) (As := [.int (xs (4 * k + 1)), .int (xs (4 * k + 2))]) (rest := []) X hw hA (m_X6_fix l D cy q G (xs (4 * k + 1)) (xs (4 * k + 2)) _ (op_fix hI (xs (4 * k + 1)) (xs (4 * k + 2)))) (by decide) rfl (cwV 2 hts gB_X6_fix rfl rfl rfl (by decide +kernel) ⟨Nat.le_of_ble_eq_true rfl, Nat.le_of_ble_eq_true rfl⟩) rfl hl.1 rfl (Nat.le_of_ble_eq_true rfl) dL_law_563 hc (fun r G1 H locs h hw => ?_)
  refine lv_aload_n hx hb dL_law_566 rfl (lv_at hl 2 rfl) ?_
  refine l_arg1 Y hw hl hk dL_law_567 dL_law_568 dL_law_570 dL_law_571 dL_law_572 ?_
  refine l_arg2 Y hw hl hk dL_law_573 dL_law_574 dL_law_576 dL_law_577 dL_law_578 ?_
  refine g_callVi 7 (C := RX7) (T := TX7) (N := 31) (As := [.int (xs (4 * k + 1)), .int (xs (4 * k + 2))]) (rest := [.int r]) X hw hA (m_X7_fix l D cy q G1 (xs (4 * k + 1)) (xs (4 * k + 2)) _ h) (by decide) rfl (cwV 2 hts gB_X7_fix rfl rfl rfl (by decide +kernel) ⟨Nat.le_of_ble_eq_true rfl, Nat.le_of_ble_eq_true rfl⟩) rfl hl.1 rfl (Nat.le_of_ble_eq_true rfl) dL_law_579 hc (fun r' G2 H locs h hw => ?_)
  exact lv_icmp_eq (tgt := 717) hx hb dL_law_582 (by decide) (fun _ => kk G2 _ _ h.2 hw) (fun z => absurd h.1 z)

set_option maxHeartbeats 4000000 in
set_option maxRecDepth 100000 in
theorem law_behind (Y : lK p s m args c D cy A b L xs) (hw : gH D cy q A s.heap G H locs) (hl : lv_has ls 7 (lvL q b k)) (hk : 4 * k + 4 ≤ L) (hc : cells ≤ room_1.cells ∧ slots ≤ room_1.slots) (hI : Inv G) (kk : ∀ (G1 : GS) (H1 : Heap) (locs1 : List Loc), Inv G1 → gH D cy q A s.heap G1 H1 locs1 → W p l e room_1 s m args below meth c H1 locs1 cells slots Q (F0 m 717 ls [])) : W p l e room_1 s m args below meth c H locs cells slots Q (F0 m 655 ls []) := by
  obtain ⟨X, hA, hX, hbl, hbA, hL⟩ := id Y
  have hx := X.1.1
  have hb := X.1.2.1
  have hts := X.1.2.2.2.2
  refine lv_aload_n hx hb dL_law_655 rfl (lv_at hl 1 rfl) ?_
  refine l_arg1 Y hw hl hk dL_law_656 dL_law_657 dL_law_659 dL_law_660 dL_law_661 ?_
  refine l_arg2 Y hw hl hk dL_law_662 dL_law_663 dL_law_665 dL_law_666 dL_law_667 ?_
  refine g_callVi 0 (C := RX6) (T := TX6) (N := 6) (As := [.int (xs (4 * k + 1)), .int (xs (4 * k + 2))]) (rest := []) X hw hA (m_X6_behind l D cy q G (xs (4 * k + 1)) (xs (4 * k + 2)) _ (op_behind hI (xs (4 * k + 1)) (xs (4 * k + 2)))) (by decide) rfl (cwV 2 hts gB_X6_behind rfl rfl rfl (by decide +kernel) ⟨Nat.le_of_ble_eq_true rfl, Nat.le_of_ble_eq_true rfl⟩) rfl hl.1 rfl (Nat.le_of_ble_eq_true rfl) dL_law_668 hc (fun r G1 H locs h hw => ?_)
  refine lv_aload_n hx hb dL_law_671 rfl (lv_at hl 2 rfl) ?_
  refine l_arg1 Y hw hl hk dL_law_672 dL_law_673 dL_law_675 dL_law_676 dL_law_677 ?_
  refine l_arg2 Y hw hl hk dL_law_678 dL_law_679 dL_law_681 dL_law_682 dL_law_683 ?_
  refine g_callVi 7 (C := RX7) (T := TX7) (N := 31) (As := [.int (xs (4 * k + 1)), .int (xs (4 * k + 2))]) (rest := [.int r]) X hw hA (m_X7_behind l D cy q G1 (xs (4 * k + 1)) (xs (4 * k + 2)) _ h) (by decide) rfl (cwV 2 hts gB_X7_behind rfl rfl rfl (by decide +kernel) ⟨Nat.le_of_ble_eq_true rfl, Nat.le_of_ble_eq_true rfl⟩) rfl hl.1 rfl (Nat.le_of_ble_eq_true rfl) dL_law_684 hc (fun r' G2 H locs h hw => ?_)
  exact lv_icmp_eq (tgt := 717) hx hb dL_law_687 (by decide) (fun _ => kk G2 _ _ h.2 hw) (fun z => absurd h.1 z)

set_option maxHeartbeats 4000000 in
set_option maxRecDepth 100000 in
theorem law_count (Y : lK p s m args c D cy A b L xs) (hw : gH D cy q A s.heap G H locs) (hl : lv_has ls 7 (lvL q b k)) (hk : 4 * k + 4 ≤ L) (hc : cells ≤ room_1.cells ∧ slots ≤ room_1.slots) (hI : Inv G) (kk : ∀ (G1 : GS) (H1 : Heap) (locs1 : List Loc), Inv G1 → gH D cy q A s.heap G1 H1 locs1 → W p l e room_1 s m args below meth c H1 locs1 cells slots Q (F0 m 717 ls [])) : W p l e room_1 s m args below meth c H locs cells slots Q (F0 m 692 ls []) := by
  obtain ⟨X, hA, hX, hbl, hbA, hL⟩ := id Y
  have hx := X.1.1
  have hb := X.1.2.1
  have hts := X.1.2.2.2.2
  refine lv_aload_n hx hb dL_law_692 rfl (lv_at hl 1 rfl) ?_
  refine l_arg1 Y hw hl hk dL_law_693 dL_law_694 dL_law_696 dL_law_697 dL_law_698 ?_
  refine g_callVi 0 (C := RX6) (T := TX6) (N := 6) (As := [.int (xs (4 * k + 1))]) (rest := []) X hw hA (m_X6_count l D cy q G (xs (4 * k + 1)) _ (op_count hI (xs (4 * k + 1)))) (by decide) rfl (cwV 1 hts gB_X6_count rfl rfl rfl (by decide +kernel) ⟨Nat.le_of_ble_eq_true rfl, Nat.le_of_ble_eq_true rfl⟩) rfl hl.1 rfl (Nat.le_of_ble_eq_true rfl) dL_law_699 hc (fun r G1 H locs h hw => ?_)
  refine lv_aload_n hx hb dL_law_702 rfl (lv_at hl 2 rfl) ?_
  refine l_arg1 Y hw hl hk dL_law_703 dL_law_704 dL_law_706 dL_law_707 dL_law_708 ?_
  refine g_callVi 7 (C := RX7) (T := TX7) (N := 31) (As := [.int (xs (4 * k + 1))]) (rest := [.int r]) X hw hA (m_X7_count l D cy q G1 (xs (4 * k + 1)) _ h) (by decide) rfl (cwV 1 hts gB_X7_count rfl rfl rfl (by decide +kernel) ⟨Nat.le_of_ble_eq_true rfl, Nat.le_of_ble_eq_true rfl⟩) rfl hl.1 rfl (Nat.le_of_ble_eq_true rfl) dL_law_709 hc (fun r' G2 H locs h hw => ?_)
  exact lv_icmp_eq (tgt := 717) hx hb dL_law_712 (by decide) (fun _ => kk G2 _ _ h.2 hw) (fun z => absurd h.1 z)

theorem lcmp_0 {x y : Int64} (h : x = y) : lg_cmp x y = 0 := by
  subst h
  unfold lg_cmp
  rw [if_neg (by rw [gt_iff_lt, Int64.lt_iff_toInt_lt]; omega), if_pos rfl]
set_option maxHeartbeats 4000000 in
set_option maxRecDepth 100000 in
theorem law_look (hl0 : l.stackTraces = false) (hn : nsP s) (hz : nsZ A s s.heap) (Y : lK p s m args c D cy A b L xs) (hw : gH D cy q A s.heap G H locs) (hl : lv_has ls 7 (lvL q b k)) (hk : 4 * k + 4 ≤ L) (hc : cells + 1 ≤ room_1.cells ∧ slots + 6 ≤ room_1.slots) (hI : Inv G) (kk : ∀ (G1 : GS) (H1 : Heap) (locs1 : List Loc) (ls1 : Array Slot), Inv G1 → gH D cy q A s.heap G1 H1 locs1 → lv_has ls1 7 (lvL q b k) → W p l e room_1 s m args below meth c H1 locs1 (cells + 1) (slots + 6) Q (F0 m 717 ls1 [])) : W p l e room_1 s m args below meth c H locs cells slots Q (F0 m 587 ls []) := by
  obtain ⟨X, hA, hX, hbl, hbA, hL⟩ := id Y
  have hx := X.1.1
  have hb := X.1.2.1
  have hts := X.1.2.2.2.2
  refine lv_aload_n hx hb dL_law_587 rfl (lv_at hl 1 rfl) ?_
  refine l_arg1 Y hw hl hk dL_law_588 dL_law_589 dL_law_591 dL_law_592 dL_law_593 ?_
  refine l_arg2 Y hw hl hk dL_law_594 dL_law_595 dL_law_597 dL_law_598 dL_law_599 ?_
  refine lv_aload_n hx hb dL_law_600 rfl (lv_at hl 3 rfl) ?_
  refine va_calli (vx_runSW (As := [.ref (q 0), .int (xs (4 * k + 1)), .int (xs (4 * k + 2)), .ref (q 40)]) (rest := []) X.1 (m_L_look l hl0 D cy q G (xs (4 * k + 1)) (xs (4 * k + 2)) _ (op_look hI _ _) H.size) (vx_cwSW 4 hts gB_L_look rfl rfl rfl (by decide +kernel) ⟨Nat.le_of_ble_eq_true rfl, Nat.le_of_ble_eq_true rfl⟩)
    ⟨gPreX_blind, fun U hU hW => ⟨rfl, ⟨by rw [hU], by rw [hU]; exact hw.1, va_K.moved hW.alike X.2, hw.2.1.weaken (fun _ _ _ _ => trivial)⟩, hn.warm hW, by rw [hU]; exact ((hz.kept hw.2.2.2.1).narrow (gA_in hw hA)).moved hW.alike⟩⟩ rfl rfl hl.1 rfl (lv_room (Nat.le_of_ble_eq_true rfl)) dL_law_601 hc) hw.2.2 (fun x _ h => gA_in hw hA x h) (gA_in hw hA) (fun r G1 t H1 locs1 ht hvm h hB hz1 hk1 hS1 => ?_)
  obtain ⟨hP1, hK1, hD1⟩ := hB
  rw [ht] at hP1
  have hw : gH D cy q A s.heap G1 H1 locs1 := ⟨hP1, hD1.weaken (fun k z hk h => gA_in hw hA _ h), hS1⟩
  refine lv_istore (lv' := (5, .int r) :: lvL q b k) hx hb dL_law_604 hl (by decide) rfl (fun ls hl5 => ?_)
  have hl : lv_has ls 7 (lvL q b k) := lv_sub hl5 [1, 2, 3, 4, 5] rfl
  refine lv_aload_n hx hb dL_law_606 rfl (lv_at hl 2 rfl) ?_
  refine l_arg1 Y hw hl hk dL_law_607 dL_law_608 dL_law_610 dL_law_611 dL_law_612 ?_
  refine l_arg2 Y hw hl hk dL_law_613 dL_law_614 dL_law_616 dL_law_617 dL_law_618 ?_
  refine g_callVi 7 (C := RX7) (T := TX7) (N := 31) (As := [.int (xs (4 * k + 1)), .int (xs (4 * k + 2))]) (rest := []) X hw hA (m_X7_look l D cy q G1 (xs (4 * k + 1)) (xs (4 * k + 2)) _ h) (by decide) rfl (cwV 2 hts gB_X7_look rfl rfl rfl (by decide +kernel) ⟨Nat.le_of_ble_eq_true rfl, Nat.le_of_ble_eq_true rfl⟩) rfl hl.1 rfl (Nat.le_of_ble_eq_true rfl) dL_law_619 hc (fun w G2 H locs h hw => ?_)
  refine lv_istore (lv' := (6, .int w) :: (5, .int r) :: lvL q b k) hx hb dL_law_622 hl5 (by decide) rfl (fun ls hl6 => ?_)
  have hl : lv_has ls 7 (lvL q b k) := lv_sub hl6 [2, 3, 4, 5, 6] rfl
  refine lv_aload_n hx hb dL_law_624 rfl (lv_at hl 2 rfl) ?_
  refine g_callVi 7 (C := RX7) (T := TX7) (N := 31) (As := []) (rest := []) X hw hA (m_X7_thrown l D cy q G2 _ h) (by decide) rfl (cwV 0 hts gB_X7_thrown rfl rfl rfl (by decide +kernel) ⟨Nat.le_of_ble_eq_true rfl, Nat.le_of_ble_eq_true rfl⟩) rfl hl.1 rfl (Nat.le_of_ble_eq_true rfl) dL_law_625 hc (fun th G3 H locs h hw => ?_)
  obtain ⟨h1, h2, h3⟩ := h
  refine lv_iload hx hb dL_law_628 (lv_at hl6 1 rfl) ?_
  refine lv_icmp_eq (tgt := 635) hx hb dL_law_630 (by decide) (fun _ => ?_) (fun z => absurd h1 z)
  refine lv_iload hx hb dL_law_635 (lv_at hl6 1 rfl) ?_
  refine lv_if_ne (tgt := 652) hx hb dL_law_637 (by decide) (fun _ => ?_) (fun z => ?_)
  · exact lv_goto (tgt := 717) hx hb dL_law_652 (by decide) (kk G3 _ _ ls h3 hw hl)
  · refine lv_aload_n hx hb dL_law_640 rfl (lv_at hl 3 rfl) ?_
    refine lv_iconst (v := 0) hx hb dL_law_641 (by decide) ?_
    refine g_lald 40 1 0 X hw ⟨by decide, by decide⟩ rfl (by decide) rfl (by decide) dL_law_642 ?_
    refine lv_iload hx hb dL_law_643 (lv_at hl6 0 rfl) ?_
    refine lv_i2l (v := Int32.toInt64 w) hx hb dL_law_645 rfl ?_
    refine W.lcmp hx hb dL_law_646 ?_
    refine lv_if_eq (tgt := 652) hx hb dL_law_647 (by decide) (fun _ => ?_) (fun z9 => absurd (lcmp_0 (h2 z)) z9)
    exact lv_goto (tgt := 717) hx hb dL_law_652 (by decide) (kk G3 _ _ ls h3 hw hl)
end LAW
