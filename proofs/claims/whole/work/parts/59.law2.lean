/-! THE CLAIM OUT OF ONE WALK OF THE LAW'S BODY. Your part is whole_start (and what it stands on); all else here is the same for every law, but numbers. -/
def R_law : String := "FaultHeapsLaw"
def lw_P (b : Addr) (xs : List Int32) (args : Array Value) (s : State) : Prop := args = #[.ref b] ∧ s.IntsAt b xs ∧ xs.length ≤ 2048 ∧ (Jvm.Cond.and given_1 narrow_1).before args s = true
def lw_Q (_ : Array Value) (s : State) (o : Outcome) (t : State) : Prop := o = .returned (some (.int 1)) ∧ Framed s o t [] 601024 7293034
def lw_Z (below : List Frame) (a : Array Value) (s : State) : State → Prop := fun t => ∃ o, t.status = .running ∧ Ended t below o ∧ lw_Q a s o t
/-- the law's own end, with 1 on the stack, nothing written that was there before, its room as the claim has it -/
theorem lw_ret {p : Program} {l : Launch} {e : Env} {s : State} {m : MethodId} {below : List Frame} {meth : Method} {c : Code} {b : Nat} (hx : p.tables.exec = Jvm.exec) (hb : c.code = code) (hr : meth.sig.returnType = ret) (hlocks : meth.locks = false) {pc : Nat} {H : Heap} {ls : Array Slot} (hdg : decode code pc = .ok (.ireturn, 1)) : W p l e room_1 s m #[Value.ref b] below meth c H [] 601024 7293034 (lw_Z below #[Value.ref b] s) (F0 m pc ls [.int 1]) := by
  intro T hT X
  obtain ⟨fs, hret, hrun, hended, hW, hframe⟩ := X.leave (v := some (.int 1)) (hlocks := hlocks) (fun h => by rw [hr] at h; cases h)
  have hmeth' : T.vm.method? m = some meth := X.method'
  refine ⟨T.setFrames fs, ?_, .returned (some (.int 1)), hrun, hended, rfl, ⟨_, rfl⟩, hW, hframe⟩
  jvm_step X.here [X.here.top, hx, hb, hdg, hmeth', hr, ret, narrow_b1]
  (try refine ⟨rfl, ?_⟩); (try refine ⟨rfl, ?_⟩)
  first | (intro acts; rw [hret _ acts rfl rfl rfl]) | rw [hret _ _ rfl rfl rfl]
  exact Steps.refl _
/-- what holds at the law's entry: the machine, the code, the tables' words (any of lw_tbl by 'hts w (by decide +kernel)'), the script of L ints xs at the cell b, what the Statement gives of the start (any of its parts by flat_of_before) -/
def lw_At (p : Program) (s : State) (m : MethodId) (meth : Method) (c : Code) (b L : Nat) (xs : Nat → Int32) : Prop :=
  p.tables.exec = Jvm.exec ∧ c.code = code ∧ meth.sig.returnType = ret ∧ c.maxLocals = 7 ∧ s.vm.findClass R_law = some m.cls ∧ (∀ w ∈ lw_tbl, w.before #[Value.ref b] s = true) ∧ va_X b L xs s s.heap ∧ b < s.heap.size ∧ meth.locks = false ∧ (Jvm.Cond.and given_1 narrow_1).before #[Value.ref b] s = true
section LAW2
variable {p : Program} {l : Launch} {e : Env} {s : State} {m : MethodId} {below : List Frame} {meth : Method} {c : Code} {D : va_G} {cy : Nat → ClassId} {q : Nat → Nat} {b L : Nat} {xs : Nat → Int32}
theorem L4 {L : Nat} (h : L ≤ 2048) : (Int32.ofNat L - 4).toInt = (L : Int) - 4 := by
  have h1 : (Int32.ofNat L).toInt = L := nI_toInt (n := L) (by omega)
  rw [Int32.toInt_sub, h1, show (4 : Int32).toInt = 4 by decide]
  rw [Int.bmod_eq_of_le (by omega) (by omega)]
set_option maxHeartbeats 4000000 in
set_option maxRecDepth 100000 in
/-- the law's loop -/
theorem law_loop (hl0 : l.stackTraces = false) (hn : nsP s) (hz : nsZ (fun x => s.heap.size ≤ x) s s.heap) (Y : lK p s m #[Value.ref b] c D cy (fun x => s.heap.size ≤ x) b L xs) (hr : meth.sig.returnType = ret) (hlk : meth.locks = false) : ∀ (d k : Nat) (G : GS) (H : Heap) (locs : List Loc) (ls : Array Slot), d = 512 - k → k ≤ 512 → Inv G → gH D cy q (fun x => s.heap.size ≤ x) s.heap G H locs → lv_has ls 7 (lvL q b k) → W p l e room_1 s m #[Value.ref b] below meth c H locs (301 + k) (13420 + 6 * k) (lw_Z below #[Value.ref b] s) (F0 m 23 ls []) := by
  obtain ⟨X, hA, hX, hbl, hbA, hL⟩ := id Y
  have hx := X.1.1
  have hb := X.1.2.1
  intro d
  induction d with
  | zero =>
    intro k G H locs ls hd hk5 hI hw hl
    refine lv_iload hx hb dL_law_23 (lv_at hl 4 rfl) ?_
    refine lv_aload_n hx hb dL_law_25 rfl (lv_at hl 0 rfl) ?_
    refine va_slen hx hb hX hbl hbA hw.2.2 dL_law_26 ?_
    refine lv_iconst (v := 4) hx hb dL_law_27 (by decide) ?_
    refine lv_isub hx hb dL_law_28 ?_
    refine lv_icmp_gt (tgt := 723) hx hb dL_law_29 (by decide) (fun c29 => ?_) (fun c29 => ?_)
    · refine va_forget (fun z hz => hw.2.2.2.2 z hz) ?_
      refine W.widen (k := 601024) (n := 7293034) (by omega) (by omega) ?_
      refine lv_iconst (v := 1) hx hb dL_law_723 (by decide) ?_
      exact lw_ret hx hb hr hlk dL_law_724
    · have h1 := Int32.not_lt.mp c29
      have h2 := Int32.le_iff_toInt_le.mp h1
      rw [L4 hL, nI_toInt (by omega)] at h2
      omega
  | succ d ih =>
    intro k G H locs ls hd hk5 hI hw hl
    refine lv_iload hx hb dL_law_23 (lv_at hl 4 rfl) ?_
    refine lv_aload_n hx hb dL_law_25 rfl (lv_at hl 0 rfl) ?_
    refine va_slen hx hb hX hbl hbA hw.2.2 dL_law_26 ?_
    refine lv_iconst (v := 4) hx hb dL_law_27 (by decide) ?_
    refine lv_isub hx hb dL_law_28 ?_
    refine lv_icmp_gt (tgt := 723) hx hb dL_law_29 (by decide) (fun c29 => ?_) (fun c29 => ?_)
    · refine va_forget (fun z hz => hw.2.2.2.2 z hz) ?_
      refine W.widen (k := 601024) (n := 7293034) (by omega) (by omega) ?_
      refine lv_iconst (v := 1) hx hb dL_law_723 (by decide) ?_
      exact lw_ret hx hb hr hlk dL_law_724
    · have hlt : 4 * k + 4 ≤ L := by
        have h1 := Int32.not_lt.mp c29
        have h2 := Int32.le_iff_toInt_le.mp h1
        rw [L4 hL, nI_toInt (by omega)] at h2
        omega
      have nxt : ∀ (G1 : GS) (H1 : Heap) (locs1 : List Loc) (ls1 : Array Slot), Inv G1 → gH D cy q (fun x => s.heap.size ≤ x) s.heap G1 H1 locs1 → lv_has ls1 7 (lvL q b k) → W p l e room_1 s m #[Value.ref b] below meth c H1 locs1 (301 + k + 1) (13420 + 6 * k + 6) (lw_Z below #[Value.ref b] s) (F0 m 717 ls1 []) := fun G1 H1 locs1 ls1 hI1 hw1 hl1 => by
        refine lv_iinc (v := nI (4 * k) + 4) (lv' := [(4, .int (nI (4 * k) + 4)), (0, .ref b), (1, .ref (q 0)), (2, .ref (q 7)), (3, .ref (q 40))]) hx hb dL_law_717 hl1 (k := 4) rfl rfl (by decide) rfl (fun ls hl => ?_)
        rw [show nI (4 * k) + 4 = nI (4 * (k + 1)) from nI_add _ 4] at hl
        refine lv_goto (tgt := 23) hx hb dL_law_720 (by decide) ?_
        exact ih (k + 1) G1 H1 locs1 ls (by omega) (by omega) hI1 hw1 (lv_sub hl [1, 2, 3, 4, 0] rfl)
      refine lv_aload_n hx hb dL_law_32 rfl (lv_at hl 0 rfl) ?_
      refine lv_iload hx hb dL_law_33 (lv_at hl 4 rfl) ?_
      refine va_sld hx hb hX hbl hbA hw.2.2 (vp_in_nI (show 4 * k < L by omega) (by omega)) dL_law_35 ?_
      rw [nI_clamp (by omega)]
      refine lv_bipush (v := 31) hx hb dL_law_36 (by decide) ?_
      refine lv_iand hx hb dL_law_38 ?_
      by_cases c0 : (xs (4 * k) &&& 31) = 0
      · refine lv_tableIn (off := 85) (tgt := 124) hx hb dL_law_39 (by rw [c0]; decide) (by rw [c0]; decide) (by rw [c0]; rfl) (by decide) ?_
        exact W.widen (k := 301 + k + 1) (n := 13420 + 6 * k + 6) (by omega) (by omega) (law_frame Y hw hl hlt ⟨by show 301 + k + 1 ≤ 601024; omega, by show 13420 + 6 * k + 6 ≤ 7293034; omega⟩ hI (fun G1 H1 locs1 hI1 hw1 => nxt G1 H1 locs1 ls hI1 hw1 hl))
      by_cases c1 : (xs (4 * k) &&& 31) = 1
      · refine lv_tableIn (off := 110) (tgt := 149) hx hb dL_law_39 (by rw [c1]; decide) (by rw [c1]; decide) (by rw [c1]; rfl) (by decide) ?_
        exact W.widen (k := 301 + k + 1) (n := 13420 + 6 * k + 6) (by omega) (by omega) (law_version Y hw hl hlt ⟨by show 301 + k + 1 ≤ 601024; omega, by show 13420 + 6 * k + 6 ≤ 7293034; omega⟩ hI (fun G1 H1 locs1 hI1 hw1 => nxt G1 H1 locs1 ls hI1 hw1 hl))
      by_cases c2 : (xs (4 * k) &&& 31) = 2
      · refine lv_tableIn (off := 135) (tgt := 174) hx hb dL_law_39 (by rw [c2]; decide) (by rw [c2]; decide) (by rw [c2]; rfl) (by decide) ?_
        exact W.widen (k := 301 + k + 1) (n := 13420 + 6 * k + 6) (by omega) (by omega) (law_report Y hw hl hlt ⟨by show 301 + k + 1 ≤ 601024; omega, by show 13420 + 6 * k + 6 ≤ 7293034; omega⟩ hI (fun G1 H1 locs1 hI1 hw1 => nxt G1 H1 locs1 ls hI1 hw1 hl))
      by_cases c3 : (xs (4 * k) &&& 31) = 3
      · refine lv_tableIn (off := 160) (tgt := 199) hx hb dL_law_39 (by rw [c3]; decide) (by rw [c3]; decide) (by rw [c3]; rfl) (by decide) ?_
        exact W.widen (k := 301 + k + 1) (n := 13420 + 6 * k + 6) (by omega) (by omega) (law_pair Y hw hl hlt ⟨by show 301 + k + 1 ≤ 601024; omega, by show 13420 + 6 * k + 6 ≤ 7293034; omega⟩ hI (fun G1 H1 locs1 hI1 hw1 => nxt G1 H1 locs1 ls hI1 hw1 hl))
      by_cases c4 : (xs (4 * k) &&& 31) = 4
      · refine lv_tableIn (off := 225) (tgt := 264) hx hb dL_law_39 (by rw [c4]; decide) (by rw [c4]; decide) (by rw [c4]; rfl) (by decide) ?_
        exact W.widen (k := 301 + k + 1) (n := 13420 + 6 * k + 6) (by omega) (by omega) (law_free Y hw hl hlt ⟨by show 301 + k + 1 ≤ 601024; omega, by show 13420 + 6 * k + 6 ≤ 7293034; omega⟩ hI (fun G1 H1 locs1 hI1 hw1 => nxt G1 H1 locs1 ls hI1 hw1 hl))
      by_cases c5 : (xs (4 * k) &&& 31) = 5
      · refine lv_tableIn (off := 262) (tgt := 301) hx hb dL_law_39 (by rw [c5]; decide) (by rw [c5]; decide) (by rw [c5]; rfl) (by decide) ?_
        exact W.widen (k := 301 + k + 1) (n := 13420 + 6 * k + 6) (by omega) (by omega) (law_mark Y hw hl hlt ⟨by show 301 + k + 1 ≤ 601024; omega, by show 13420 + 6 * k + 6 ≤ 7293034; omega⟩ hI (fun G1 H1 locs1 hI1 hw1 => nxt G1 H1 locs1 ls hI1 hw1 hl))
      by_cases c6 : (xs (4 * k) &&& 31) = 6
      · refine lv_tableIn (off := 287) (tgt := 326) hx hb dL_law_39 (by rw [c6]; decide) (by rw [c6]; decide) (by rw [c6]; rfl) (by decide) ?_
        exact W.widen (k := 301 + k + 1) (n := 13420 + 6 * k + 6) (by omega) (by omega) (law_resettle Y hw hl hlt ⟨by show 301 + k + 1 ≤ 601024; omega, by show 13420 + 6 * k + 6 ≤ 7293034; omega⟩ hI (fun G1 H1 locs1 hI1 hw1 => nxt G1 H1 locs1 ls hI1 hw1 hl))
      by_cases c7 : (xs (4 * k) &&& 31) = 7
      · refine lv_tableIn (off := 300) (tgt := 339) hx hb dL_law_39 (by rw [c7]; decide) (by rw [c7]; decide) (by rw [c7]; rfl) (by decide) ?_
        exact W.widen (k := 301 + k + 1) (n := 13420 + 6 * k + 6) (by omega) (by omega) (law_distance Y hw hl hlt ⟨by show 301 + k + 1 ≤ 601024; omega, by show 13420 + 6 * k + 6 ≤ 7293034; omega⟩ hI (fun G1 H1 locs1 hI1 hw1 => nxt G1 H1 locs1 ls hI1 hw1 hl))
      by_cases c8 : (xs (4 * k) &&& 31) = 8
      · refine lv_tableIn (off := 337) (tgt := 376) hx hb dL_law_39 (by rw [c8]; decide) (by rw [c8]; decide) (by rw [c8]; rfl) (by decide) ?_
        exact W.widen (k := 301 + k + 1) (n := 13420 + 6 * k + 6) (by omega) (by omega) (law_heap Y hw hl hlt ⟨by show 301 + k + 1 ≤ 601024; omega, by show 13420 + 6 * k + 6 ≤ 7293034; omega⟩ hI (fun G1 H1 locs1 hI1 hw1 => nxt G1 H1 locs1 ls hI1 hw1 hl))
      by_cases c9 : (xs (4 * k) &&& 31) = 9
      · refine lv_tableIn (off := 362) (tgt := 401) hx hb dL_law_39 (by rw [c9]; decide) (by rw [c9]; decide) (by rw [c9]; rfl) (by decide) ?_
        exact W.widen (k := 301 + k + 1) (n := 13420 + 6 * k + 6) (by omega) (by omega) (law_cost Y hw hl hlt ⟨by show 301 + k + 1 ≤ 601024; omega, by show 13420 + 6 * k + 6 ≤ 7293034; omega⟩ hI (fun G1 H1 locs1 hI1 hw1 => nxt G1 H1 locs1 ls hI1 hw1 hl))
      by_cases c10 : (xs (4 * k) &&& 31) = 10
      · refine lv_tableIn (off := 399) (tgt := 438) hx hb dL_law_39 (by rw [c10]; decide) (by rw [c10]; decide) (by rw [c10]; rfl) (by decide) ?_
        exact W.widen (k := 301 + k + 1) (n := 13420 + 6 * k + 6) (by omega) (by omega) (law_row Y hw hl hlt ⟨by show 301 + k + 1 ≤ 601024; omega, by show 13420 + 6 * k + 6 ≤ 7293034; omega⟩ hI (fun G1 H1 locs1 hI1 hw1 => nxt G1 H1 locs1 ls hI1 hw1 hl))
      by_cases c11 : (xs (4 * k) &&& 31) = 11
      · refine lv_tableIn (off := 436) (tgt := 475) hx hb dL_law_39 (by rw [c11]; decide) (by rw [c11]; decide) (by rw [c11]; rfl) (by decide) ?_
        exact W.widen (k := 301 + k + 1) (n := 13420 + 6 * k + 6) (by omega) (by omega) (law_common Y hw hl hlt ⟨by show 301 + k + 1 ≤ 601024; omega, by show 13420 + 6 * k + 6 ≤ 7293034; omega⟩ hI (fun G1 H1 locs1 hI1 hw1 => nxt G1 H1 locs1 ls hI1 hw1 hl))
      by_cases c12 : (xs (4 * k) &&& 31) = 12
      · refine lv_tableIn (off := 461) (tgt := 500) hx hb dL_law_39 (by rw [c12]; decide) (by rw [c12]; decide) (by rw [c12]; rfl) (by decide) ?_
        exact W.widen (k := 301 + k + 1) (n := 13420 + 6 * k + 6) (by omega) (by omega) (law_sign Y hw hl hlt ⟨by show 301 + k + 1 ≤ 601024; omega, by show 13420 + 6 * k + 6 ≤ 7293034; omega⟩ hI (fun G1 H1 locs1 hI1 hw1 => nxt G1 H1 locs1 ls hI1 hw1 hl))
      by_cases c13 : (xs (4 * k) &&& 31) = 13
      · refine lv_tableIn (off := 486) (tgt := 525) hx hb dL_law_39 (by rw [c13]; decide) (by rw [c13]; decide) (by rw [c13]; rfl) (by decide) ?_
        exact W.widen (k := 301 + k + 1) (n := 13420 + 6 * k + 6) (by omega) (by omega) (law_signed Y hw hl hlt ⟨by show 301 + k + 1 ≤ 601024; omega, by show 13420 + 6 * k + 6 ≤ 7293034; omega⟩ hI (fun G1 H1 locs1 hI1 hw1 => nxt G1 H1 locs1 ls hI1 hw1 hl))
      by_cases c14 : (xs (4 * k) &&& 31) = 14
      · refine lv_tableIn (off := 511) (tgt := 550) hx hb dL_law_39 (by rw [c14]; decide) (by rw [c14]; decide) (by rw [c14]; rfl) (by decide) ?_
        exact W.widen (k := 301 + k + 1) (n := 13420 + 6 * k + 6) (by omega) (by omega) (law_fix Y hw hl hlt ⟨by show 301 + k + 1 ≤ 601024; omega, by show 13420 + 6 * k + 6 ≤ 7293034; omega⟩ hI (fun G1 H1 locs1 hI1 hw1 => nxt G1 H1 locs1 ls hI1 hw1 hl))
      by_cases c15 : (xs (4 * k) &&& 31) = 15
      · refine lv_tableIn (off := 548) (tgt := 587) hx hb dL_law_39 (by rw [c15]; decide) (by rw [c15]; decide) (by rw [c15]; rfl) (by decide) ?_
        exact law_look hl0 hn hz Y hw hl hlt ⟨by show 301 + k + 1 ≤ 601024; omega, by show 13420 + 6 * k + 6 ≤ 7293034; omega⟩ hI (fun G1 H1 locs1 ls1 hI1 hw1 hl1 => nxt G1 H1 locs1 ls1 hI1 hw1 hl1)
      by_cases c16 : (xs (4 * k) &&& 31) = 16
      · refine lv_tableIn (off := 616) (tgt := 655) hx hb dL_law_39 (by rw [c16]; decide) (by rw [c16]; decide) (by rw [c16]; rfl) (by decide) ?_
        exact W.widen (k := 301 + k + 1) (n := 13420 + 6 * k + 6) (by omega) (by omega) (law_behind Y hw hl hlt ⟨by show 301 + k + 1 ≤ 601024; omega, by show 13420 + 6 * k + 6 ≤ 7293034; omega⟩ hI (fun G1 H1 locs1 hI1 hw1 => nxt G1 H1 locs1 ls hI1 hw1 hl))
      by_cases c17 : (xs (4 * k) &&& 31) = 17
      · refine lv_tableIn (off := 653) (tgt := 692) hx hb dL_law_39 (by rw [c17]; decide) (by rw [c17]; decide) (by rw [c17]; rfl) (by decide) ?_
        exact W.widen (k := 301 + k + 1) (n := 13420 + 6 * k + 6) (by omega) (by omega) (law_count Y hw hl hlt ⟨by show 301 + k + 1 ≤ 601024; omega, by show 13420 + 6 * k + 6 ≤ 7293034; omega⟩ hI (fun G1 H1 locs1 hI1 hw1 => nxt G1 H1 locs1 ls hI1 hw1 hl))
      have n0 := lv_neT (a := 0) c0 rfl
      have n1 := lv_neT (a := 1) c1 rfl
      have n2 := lv_neT (a := 2) c2 rfl
      have n3 := lv_neT (a := 3) c3 rfl
      have n4 := lv_neT (a := 4) c4 rfl
      have n5 := lv_neT (a := 5) c5 rfl
      have n6 := lv_neT (a := 6) c6 rfl
      have n7 := lv_neT (a := 7) c7 rfl
      have n8 := lv_neT (a := 8) c8 rfl
      have n9 := lv_neT (a := 9) c9 rfl
      have n10 := lv_neT (a := 10) c10 rfl
      have n11 := lv_neT (a := 11) c11 rfl
      have n12 := lv_neT (a := 12) c12 rfl
      have n13 := lv_neT (a := 13) c13 rfl
      have n14 := lv_neT (a := 14) c14 rfl
      have n15 := lv_neT (a := 15) c15 rfl
      have n16 := lv_neT (a := 16) c16 rfl
      have n17 := lv_neT (a := 17) c17 rfl
      refine lv_tableOut (tgt := 717) hx hb dL_law_39 (by omega) (by decide) ?_
      exact W.widen (by omega) (by omega) (nxt G H locs ls hI hw hl)
end LAW2
