-- ===== end of PART A; then your names; then what follows =====
/-! THE CLAIM OUT OF ONE WALK OF THE LAW'S BODY. Your part is whole_start (and what it stands on); all else here is the same for every law, but numbers. -/
def R_law : String := "EachOnHisCueLaw"
def lw_P (b : Addr) (xs : List Int32) (args : Array Value) (s : State) : Prop := args = #[.ref b] ∧ s.IntsAt b xs ∧ xs.length ≤ 3 ∧ (Jvm.Cond.and given_1 narrow_1).before args s = true
def lw_Q (_ : Array Value) (s : State) (o : Outcome) (t : State) : Prop := o = .returned (some (.int 1)) ∧ Framed s o t [] 600000 7302250
def lw_Z (below : List Frame) (a : Array Value) (s : State) : State → Prop := fun t => ∃ o, t.status = .running ∧ Ended t below o ∧ lw_Q a s o t
/-- the law's own end, with 1 on the stack, nothing written that was there before, its room as the claim has it -/
theorem lw_ret {p : Program} {l : Launch} {e : Env} {s : State} {m : MethodId} {below : List Frame} {meth : Method} {c : Code} {b : Nat} (hx : p.tables.exec = Jvm.exec) (hb : c.code = code) (hr : meth.sig.returnType = ret) (hlocks : meth.locks = false) {pc : Nat} {H : Heap} {ls : Array Slot} (hdg : decode code pc = .ok (.ireturn, 1)) : W p l e room_1 s m #[Value.ref b] below meth c H [] 600000 7302250 (lw_Z below #[Value.ref b] s) (F0 m pc ls [.int 1]) := by
  intro T hT X
  obtain ⟨fs, hret, hrun, hended, hW, hframe⟩ := X.leave (v := some (.int 1)) (hlocks := hlocks) (fun h => by rw [hr] at h; cases h)
  have hmeth' : T.vm.method? m = some meth := X.method'
  refine ⟨T.setFrames fs, ?_, .returned (some (.int 1)), hrun, hended, rfl, ⟨_, rfl⟩, hW, hframe⟩
  jvm_step X.here [X.here.top, hx, hb, hdg, hmeth', hr, ret, narrow_b1]
  (try refine ⟨rfl, ?_⟩); (try refine ⟨rfl, ?_⟩)
  first | (intro acts; rw [hret _ acts rfl rfl rfl]) | rw [hret _ _ rfl rfl rfl]
  exact Steps.refl _
/-- what holds at the law's entry: the machine, the code, the tables' words (any of lw_tbl by 'hts w (by decide +kernel)'), the script of L ints xs at the cell b, what the Statement gives of the start (any of its parts by flat_of_before) -/
def lw_At (p : Program) (s : State) (m : MethodId) (meth : Method) (c : Code) (b L : Nat) (xs : Nat → Int32) : Prop :=
  p.tables.exec = Jvm.exec ∧ c.code = code ∧ meth.sig.returnType = ret ∧ c.maxLocals = 4 ∧ s.vm.findClass R_law = some m.cls ∧ (∀ w ∈ lw_tbl, w.before #[Value.ref b] s = true) ∧ va_X b L xs s s.heap ∧ b < s.heap.size ∧ meth.locks = false ∧ (Jvm.Cond.and given_1 narrow_1).before #[Value.ref b] s = true
set_option maxHeartbeats 4000000 in
set_option maxRecDepth 100000 in
/-- behind one call: the loop goes round once, and ends -/
theorem law_back {p : Program} {l : Launch} {e : Env} {s : State} {m : MethodId} {below : List Frame} {meth : Method} {c : Code} {b L : Nat} {xs : Nat → Int32} {A : Nat → Prop} (hx : p.tables.exec = Jvm.exec) (hb : c.code = cL_law) (hr : meth.sig.returnType = ret) (hlocks : meth.locks = false) (hA2 : ∀ q, A q → s.heap.size ≤ q) {H : Heap} {locs : List Loc} {ls : Array Slot} (hS : va_S A s.heap H locs) : W p l e room_1 s m #[Value.ref b] below meth c H locs 46 1336 (lw_Z below #[Value.ref b] s) (F0 m 869 ls []) := by
  refine lv_iconst (v := 1) hx hb dL_law_869 (by decide) ?_
  refine va_forget (fun q hq => hA2 _ (hS.2.2 q hq)) ?_
  refine W.widen (k := 600000) (n := 7302250) (Nat.le_of_ble_eq_true rfl) (Nat.le_of_ble_eq_true rfl) ?_
  exact lw_ret hx hb hr hlocks dL_law_870
set_option maxHeartbeats 4000000 in
set_option maxRecDepth 100000 in
theorem law_round {p : Program} {l : Launch} {e : Env} {s : State} {m : MethodId} {below : List Frame} {meth : Method} {c : Code} {b oX oM : Nat} {xs : Nat → Int32} {A : Nat → Prop} (hx : p.tables.exec = Jvm.exec) (hb : c.code = cL_law) (hr : meth.sig.returnType = ret) (hlocks : meth.locks = false) (hX : va_X b 3 xs s s.heap) (hbl : b < s.heap.size) (hbA : ¬ A b) (hA2 : ∀ q, A q → s.heap.size ≤ q) {ls : Array Slot} (hl : lv_has ls 4 [(3, .int 0), (2, .ref oM), (1, .ref oX), (0, .ref b)]) (H : Heap) (locs : List Loc) (hS : va_S A s.heap H locs) : W p l e room_1 s m #[Value.ref b] below meth c H locs 46 1336 (lw_Z below #[Value.ref b] s) (F0 m 863 ls []) := by
  refine lv_iinc (v := 3) (lv' := [(3, .int 3), (2, .ref oM), (1, .ref oX), (0, .ref b)]) hx hb dL_law_863 hl (k := 0) rfl (by decide) (by decide) rfl (fun ls hl => ?_)
  refine lv_goto (tgt := 18) hx hb dL_law_866 (by decide) ?_
  refine lv_iload_n hx hb dL_law_18 rfl (lv_at hl 0 rfl) ?_
  refine lv_aload_n hx hb dL_law_19 rfl (lv_at hl 3 rfl) ?_
  refine va_slen hx hb hX hbl hbA hS dL_law_20 ?_
  refine lv_topi (fun y1 ey1 => ?_)
  obtain rfl : y1 = 3 := ey1.trans (by first | rfl | decide)
  refine lv_iconst (v := 3) hx hb dL_law_21 (by decide) ?_
  refine lv_isub hx hb dL_law_22 ?_
  refine lv_topi (fun y2 ey2 => ?_)
  obtain rfl : y2 = 0 := ey2.trans (by decide)
  refine lv_icmp_gt (tgt := 869) hx hb dL_law_23 (by decide) (fun hc => ?_) (fun hc => ?_)
  rotate_left; exact absurd hc (by decide)
  exact law_back (b := b) (xs := xs) (L := 3) hx hb hr hlocks hA2 hS
theorem z_start {b : Nat} {s : State} (htsT : ∀ w ∈ lw_tbl, w.before #[Value.ref b] s = true) : ∃ (dC : Nat → ClassId) (dI : Nat → Nat → Nat) (cI cQ : ClassId), zK dC dI cI cQ s := by
  have hts : ∀ w ∈ vsL, w.before #[Value.ref b] s = true := fun w h => htsT w (vsL_in w h)
  obtain ⟨c0, iS0, hKn0⟩ := u_known (C := RX0) (T := TX0) (N := 1) (n := 1) hts inlX0 (hts (.instantiable RX0 1) (by decide +kernel))
  obtain ⟨c1, iS1, hKn1⟩ := u_known (C := RX1) (T := TX1) (N := 1) (n := 1) hts inlX1 (hts (.instantiable RX1 1) (by decide +kernel))
  obtain ⟨c2, iS2, hKn2⟩ := u_known (C := RX2) (T := TX2) (N := 3) (n := 3) hts inlX2 (hts (.instantiable RX2 3) (by decide +kernel))
  obtain ⟨c3, iS3, hKn3⟩ := u_known (C := RX3) (T := TX3) (N := 1) (n := 1) hts inlX3 (hts (.instantiable RX3 1) (by decide +kernel))
  obtain ⟨c4, iS4, hKn4⟩ := u_known (C := RX4) (T := TX4) (N := 2) (n := 2) hts inlX4 (hts (.instantiable RX4 2) (by decide +kernel))
  obtain ⟨c5, iS5, hKn5⟩ := u_known (C := RX5) (T := TX5) (N := 2) (n := 2) hts inlX5 (hts (.instantiable RX5 2) (by decide +kernel))
  obtain ⟨c6, iS6, hKn6⟩ := u_known (C := RX6) (T := TX6) (N := 1) (n := 1) hts inlX6 (hts (.instantiable RX6 1) (by decide +kernel))
  obtain ⟨c7, iS7, hKn7⟩ := u_known (C := RX7) (T := TX7) (N := 12) (n := 12) hts inlX7 (hts (.instantiable RX7 12) (by decide +kernel))
  obtain ⟨c8, iS8, hKn8⟩ := u_known (C := RX8) (T := TX8) (N := 1) (n := 1) hts inlX8 (hts (.instantiable RX8 1) (by decide +kernel))
  obtain ⟨c9, iS9, hKn9⟩ := u_known (C := RX9) (T := TX9) (N := 5) (n := 5) hts inlX9 (hts (.instantiable RX9 5) (by decide +kernel))
  obtain ⟨c10, iS10, hKn10⟩ := u_known (C := RX10) (T := TX10) (N := 1) (n := 1) hts inlX10 (hts (.instantiable RX10 1) (by decide +kernel))
  obtain ⟨c11, iS11, hKn11⟩ := u_known (C := RX11) (T := TX11) (N := 9) (n := 9) hts inlX11 (hts (.instantiable RX11 9) (by decide +kernel))
  obtain ⟨c12, iS12, hKn12⟩ := u_known (C := RX12) (T := TX12) (N := 38) (n := 38) hts inlX12 (hts (.instantiable RX12 38) (by decide +kernel))
  obtain ⟨cI, kA, comp, f1, f2, f3⟩ := Cond.arrayClass_spec (hts (.arrayClass .int) (by decide +kernel))
  have hAO : va_AO "EachOnHisCue$Next" s := va_AO.of (htsT (.arrayOver (.object "EachOnHisCue$Next")) (by decide +kernel))
  obtain ⟨comp2, cQ, kQ, g1, g2, g3, g4, g5⟩ := Cond.arrayOver_spec (va_AO.use (A := #[]) hAO)
  refine ⟨fun k => [c0, c1, c2, c3, c4, c5, c6, c7, c8, c9, c10, c11, c12].getD k c0, fun k => [iS0, iS1, iS2, iS3, iS4, iS5, iS6, iS7, iS8, iS9, iS10, iS11, iS12].getD k iS0, cI, cQ, ⟨?_, ?_⟩, hAO, ?_⟩
  · intro k q hq
    match k, hq with
    | 0, hq => cases hq; exact hKn0
    | 1, hq => cases hq; exact hKn1
    | 2, hq => cases hq; exact hKn2
    | 3, hq => cases hq; exact hKn3
    | 4, hq => cases hq; exact hKn4
    | 5, hq => cases hq; exact hKn5
    | 6, hq => cases hq; exact hKn6
    | 7, hq => cases hq; exact hKn7
    | 8, hq => cases hq; exact hKn8
    | 9, hq => cases hq; exact hKn9
    | 10, hq => cases hq; exact hKn10
    | 11, hq => cases hq; exact hKn11
    | 12, hq => cases hq; exact hKn12
    | k + 13, hq => simp [vwCl] at hq
  · intro k q hq
    match k, hq with
    | 0, hq => cases hq; exact ⟨fun n z => ⟨fun k h => (by cases h), kA, f2, comp, f3⟩, f1⟩
    | 1, hq => cases hq; exact ⟨fun n z => ⟨fun k h => (by cases h), kQ, g3, comp2, g4⟩, kQ, comp2, g3, g4, g1, g5⟩
    | k + 2, hq => simp at hq
  · exact ⟨va_Nw.of rfl (htsT (.methodLinkNest RX11 9 yX7_init "EachOnHisCue") (by decide +kernel)), va_Nw.of rfl (htsT (.methodLinkNest RX11 25 yX2_init "EachOnHisCue") (by decide +kernel)), va_Nw.of rfl (htsT (.methodLinkNest RX11 37 yX4_init "EachOnHisCue") (by decide +kernel)), va_Nw.of rfl (htsT (.methodLinkNest RX2 11 yX5_init "EachOnHisCue") (by decide +kernel)), va_Nw.of rfl (htsT (.methodLinkNest RX2 20 yX9_init "EachOnHisCue") (by decide +kernel)), va_Nw.of rfl (htsT (.methodLinkNest RX7 51 yX9_init "EachOnHisCue") (by decide +kernel))⟩
set_option maxHeartbeats 4000000 in
set_option maxRecDepth 100000 in
theorem law_in {p : Program} {l : Launch} {e : Env} {s : State} {m : MethodId} {below : List Frame} {meth : Method} {c : Code} {b L : Nat} {xs : Nat → Int32} {dC : Nat → ClassId} {dI : Nat → Nat → Nat} {cI cQ : ClassId} {A : Nat → Prop} (hL : L ≤ 3) (hx : p.tables.exec = Jvm.exec) (hb : c.code = cL_law) (hr : meth.sig.returnType = ret) (hml : c.maxLocals = 4) (hown : s.vm.findClass RL = some m.cls) (hts : ∀ w ∈ vsL, w.before #[Value.ref b] s = true) (hX : va_X b L xs s s.heap) (hbl : b < s.heap.size) (hlocks : meth.locks = false) (hbA : ¬ A b) (hA : ∀ q : Nat, s.heap.size ≤ q → A q) (hA2 : ∀ q, A q → s.heap.size ≤ q) (hZ : zK dC dI cI cQ s) {ad : Nat → Nat} {H : Heap} {locs : List Loc} {ls : Array Slot} (hP : va_P (dC, dI) vwCl (zF cI cQ ad) H) (hD : va_D A (zF cI cQ ad)) (hS : va_S A s.heap H locs) (hl : lv_has ls 4 [(3, .int 0), (2, .ref (ad 27)), (1, .ref (ad 0)), (0, .ref b)]) : W p l e room_1 s m #[Value.ref b] below meth c H locs 46 1336 (lw_Z below #[Value.ref b] s) (F0 m 18 ls []) := by
  rcases (show L = 0 ∨ L = 1 ∨ L = 2 ∨ L = 3 by omega) with rfl | rfl | rfl | rfl
  · refine lv_iload_n hx hb dL_law_18 rfl (lv_at hl 0 rfl) ?_
    refine lv_aload_n hx hb dL_law_19 rfl (lv_at hl 3 rfl) ?_
    refine va_slen hx hb hX hbl hbA hS dL_law_20 ?_
    refine lv_topi (fun y1 ey1 => ?_)
    obtain rfl : y1 = 0 := ey1.trans (by first | rfl | decide)
    refine lv_iconst (v := 3) hx hb dL_law_21 (by decide) ?_
    refine lv_isub hx hb dL_law_22 ?_
    refine lv_topi (fun y2 ey2 => ?_)
    obtain rfl : y2 = (-3) := ey2.trans (by decide)
    refine lv_icmp_gt (tgt := 869) hx hb dL_law_23 (by decide) (fun hc => ?_) (fun hc => ?_)
    rotate_left; exact absurd hc (by decide)
    exact law_back (b := b) (xs := xs) (L := 0) hx hb hr hlocks hA2 hS
  · refine lv_iload_n hx hb dL_law_18 rfl (lv_at hl 0 rfl) ?_
    refine lv_aload_n hx hb dL_law_19 rfl (lv_at hl 3 rfl) ?_
    refine va_slen hx hb hX hbl hbA hS dL_law_20 ?_
    refine lv_topi (fun y1 ey1 => ?_)
    obtain rfl : y1 = 1 := ey1.trans (by first | rfl | decide)
    refine lv_iconst (v := 3) hx hb dL_law_21 (by decide) ?_
    refine lv_isub hx hb dL_law_22 ?_
    refine lv_topi (fun y2 ey2 => ?_)
    obtain rfl : y2 = (-2) := ey2.trans (by decide)
    refine lv_icmp_gt (tgt := 869) hx hb dL_law_23 (by decide) (fun hc => ?_) (fun hc => ?_)
    rotate_left; exact absurd hc (by decide)
    exact law_back (b := b) (xs := xs) (L := 1) hx hb hr hlocks hA2 hS
  · refine lv_iload_n hx hb dL_law_18 rfl (lv_at hl 0 rfl) ?_
    refine lv_aload_n hx hb dL_law_19 rfl (lv_at hl 3 rfl) ?_
    refine va_slen hx hb hX hbl hbA hS dL_law_20 ?_
    refine lv_topi (fun y1 ey1 => ?_)
    obtain rfl : y1 = 2 := ey1.trans (by first | rfl | decide)
    refine lv_iconst (v := 3) hx hb dL_law_21 (by decide) ?_
    refine lv_isub hx hb dL_law_22 ?_
    refine lv_topi (fun y2 ey2 => ?_)
    obtain rfl : y2 = (-1) := ey2.trans (by decide)
    refine lv_icmp_gt (tgt := 869) hx hb dL_law_23 (by decide) (fun hc => ?_) (fun hc => ?_)
    rotate_left; exact absurd hc (by decide)
    exact law_back (b := b) (xs := xs) (L := 2) hx hb hr hlocks hA2 hS
  · refine lv_iload_n hx hb dL_law_18 rfl (lv_at hl 0 rfl) ?_
    refine lv_aload_n hx hb dL_law_19 rfl (lv_at hl 3 rfl) ?_
    refine va_slen hx hb hX hbl hbA hS dL_law_20 ?_
    refine lv_topi (fun y1 ey1 => ?_)
    obtain rfl : y1 = 3 := ey1.trans (by first | rfl | decide)
    refine lv_iconst (v := 3) hx hb dL_law_21 (by decide) ?_
    refine lv_isub hx hb dL_law_22 ?_
    refine lv_topi (fun y2 ey2 => ?_)
    obtain rfl : y2 = 0 := ey2.trans (by decide)
    refine lv_icmp_gt (tgt := 869) hx hb dL_law_23 (by decide) (fun hc => ?_) (fun hc => ?_)
    · exact absurd hc (by decide)
    refine lv_aload_n hx hb dL_law_26 rfl (lv_at hl 3 rfl) ?_
    refine lv_iload_n hx hb dL_law_27 rfl (lv_at hl 0 rfl) ?_
    refine va_sld hx hb hX hbl hbA hS (by unfold vp_in; decide) dL_law_28 ?_
    refine lv_bipush (v := 31) hx hb dL_law_29 (by decide) ?_
    refine lv_iand hx hb dL_law_31 ?_
    obtain ⟨j, hj, ej⟩ := pk_andE (xs (0 : Int32).toNatClampNeg) (m := 31) 5 (by decide)
    rw [ej]
    have hend := law_round (m := m) (l := l) (e := e) (below := below) hx hb hr hlocks hX hbl hbA hA2 hl
    rcases (show j = 0 ∨ j = 1 ∨ j = 2 ∨ j = 3 ∨ j = 4 ∨ j = 5 ∨ j = 6 ∨ j = 7 ∨ j = 8 ∨ j = 9 ∨ j = 10 ∨ j = 11 ∨ j = 12 ∨ j = 13 ∨ j = 14 ∨ j = 15 ∨ j = 16 ∨ j = 17 ∨ j = 18 ∨ j = 19 ∨ j = 20 ∨ j = 21 ∨ j = 22 ∨ j = 23 ∨ j = 24 ∨ j = 25 ∨ j = 26 ∨ j = 27 ∨ j = 28 ∨ j = 29 ∨ j = 30 ∨ j = 31 by omega) with rfl | rfl | rfl | rfl | rfl | rfl | rfl | rfl | rfl | rfl | rfl | rfl | rfl | rfl | rfl | rfl | rfl | rfl | rfl | rfl | rfl | rfl | rfl | rfl | rfl | rfl | rfl | rfl | rfl | rfl | rfl | rfl
    · refine lv_tableIn (tgt := 176) hx hb dL_law_32 (by decide) (by decide) (off := 144) (by decide) (by decide) ?_
      exact lk_0 hx hb hml hown hts hX hbl hbA hA hZ hP hD hS hl (xs 1) rfl hend
    · refine lv_tableIn (tgt := 199) hx hb dL_law_32 (by decide) (by decide) (off := 167) (by decide) (by decide) ?_
      exact lk_1 hx hb hml hown hts hX hbl hbA hA hZ hP hD hS hl hend
    · refine lv_tableIn (tgt := 212) hx hb dL_law_32 (by decide) (by decide) (off := 180) (by decide) (by decide) ?_
      exact lk_2 hx hb hml hown hts hX hbl hbA hA hZ hP hD hS hl (xs 1) rfl (xs 2) rfl hend
    · refine lv_tableIn (tgt := 245) hx hb dL_law_32 (by decide) (by decide) (off := 213) (by decide) (by decide) ?_
      exact lk_3 hx hb hml hown hts hX hbl hbA hA hZ hP hD hS hl (xs 1) rfl (xs 2) rfl hend
    · refine lv_tableIn (tgt := 278) hx hb dL_law_32 (by decide) (by decide) (off := 246) (by decide) (by decide) ?_
      exact lk_4 hx hb hml hown hts hX hbl hbA hA hZ hP hD hS hl (xs 1) rfl (xs 2) rfl hend
    · refine lv_tableIn (tgt := 311) hx hb dL_law_32 (by decide) (by decide) (off := 279) (by decide) (by decide) ?_
      exact lk_5 hx hb hml hown hts hX hbl hbA hA hZ hP hD hS hl (xs 1) rfl (xs 2) rfl hend
    · refine lv_tableIn (tgt := 344) hx hb dL_law_32 (by decide) (by decide) (off := 312) (by decide) (by decide) ?_
      exact lk_6 hx hb hml hown hts hX hbl hbA hA hZ hP hD hS hl (xs 1) rfl hend
    · refine lv_tableIn (tgt := 367) hx hb dL_law_32 (by decide) (by decide) (off := 335) (by decide) (by decide) ?_
      exact lk_7 hx hb hml hown hts hX hbl hbA hA hZ hP hD hS hl (xs 1) rfl hend
    · refine lv_tableIn (tgt := 390) hx hb dL_law_32 (by decide) (by decide) (off := 358) (by decide) (by decide) ?_
      exact lk_8 hx hb hml hown hts hX hbl hbA hA hZ hP hD hS hl hend
    · refine lv_tableIn (tgt := 403) hx hb dL_law_32 (by decide) (by decide) (off := 371) (by decide) (by decide) ?_
      exact lk_9 hx hb hml hown hts hX hbl hbA hA hZ hP hD hS hl hend
    · refine lv_tableIn (tgt := 416) hx hb dL_law_32 (by decide) (by decide) (off := 384) (by decide) (by decide) ?_
      exact lk_10 hx hb hml hown hts hX hbl hbA hA hZ hP hD hS hl (xs 1) rfl hend
    · refine lv_tableIn (tgt := 439) hx hb dL_law_32 (by decide) (by decide) (off := 407) (by decide) (by decide) ?_
      exact lk_11 hx hb hml hown hts hX hbl hbA hA hZ hP hD hS hl (xs 1) rfl hend
    · refine lv_tableIn (tgt := 462) hx hb dL_law_32 (by decide) (by decide) (off := 430) (by decide) (by decide) ?_
      exact lk_12 hx hb hml hown hts hX hbl hbA hA hZ hP hD hS hl (xs 1) rfl hend
    · refine lv_tableIn (tgt := 485) hx hb dL_law_32 (by decide) (by decide) (off := 453) (by decide) (by decide) ?_
      exact lk_13 hx hb hml hown hts hX hbl hbA hA hZ hP hD hS hl (xs 1) rfl hend
    · refine lv_tableIn (tgt := 508) hx hb dL_law_32 (by decide) (by decide) (off := 476) (by decide) (by decide) ?_
      exact lk_14 hx hb hml hown hts hX hbl hbA hA hZ hP hD hS hl hend
    · refine lv_tableIn (tgt := 521) hx hb dL_law_32 (by decide) (by decide) (off := 489) (by decide) (by decide) ?_
      exact lk_15 hx hb hml hown hts hX hbl hbA hA hZ hP hD hS hl (xs 1) rfl hend
    · refine lv_tableIn (tgt := 544) hx hb dL_law_32 (by decide) (by decide) (off := 512) (by decide) (by decide) ?_
      exact lk_16 hx hb hml hown hts hX hbl hbA hA hZ hP hD hS hl hend
    · refine lv_tableIn (tgt := 557) hx hb dL_law_32 (by decide) (by decide) (off := 525) (by decide) (by decide) ?_
      exact lk_17 hx hb hml hown hts hX hbl hbA hA hZ hP hD hS hl (xs 1) rfl hend
    · refine lv_tableIn (tgt := 581) hx hb dL_law_32 (by decide) (by decide) (off := 549) (by decide) (by decide) ?_
      exact lk_18 hx hb hml hown hts hX hbl hbA hA hZ hP hD hS hl (xs 1) rfl hend
    · refine lv_tableIn (tgt := 604) hx hb dL_law_32 (by decide) (by decide) (off := 572) (by decide) (by decide) ?_
      exact lk_19 hx hb hml hown hts hX hbl hbA hA hZ hP hD hS hl hend
    · refine lv_tableIn (tgt := 617) hx hb dL_law_32 (by decide) (by decide) (off := 585) (by decide) (by decide) ?_
      exact lk_20 hx hb hml hown hts hX hbl hbA hA hZ hP hD hS hl (xs 1) rfl (xs 2) rfl hend
    · refine lv_tableIn (tgt := 650) hx hb dL_law_32 (by decide) (by decide) (off := 618) (by decide) (by decide) ?_
      exact lk_21 hx hb hml hown hts hX hbl hbA hA hZ hP hD hS hl (xs 1) rfl hend
    · refine lv_tableIn (tgt := 673) hx hb dL_law_32 (by decide) (by decide) (off := 641) (by decide) (by decide) ?_
      exact lk_22 hx hb hml hown hts hX hbl hbA hA hZ hP hD hS hl hend
    · refine lv_tableIn (tgt := 686) hx hb dL_law_32 (by decide) (by decide) (off := 654) (by decide) (by decide) ?_
      exact lk_23 hx hb hml hown hts hX hbl hbA hA hZ hP hD hS hl hend
    · refine lv_tableIn (tgt := 699) hx hb dL_law_32 (by decide) (by decide) (off := 667) (by decide) (by decide) ?_
      exact lk_24 hx hb hml hown hts hX hbl hbA hA hZ hP hD hS hl (xs 1) rfl (xs 2) rfl hend
    · refine lv_tableIn (tgt := 732) hx hb dL_law_32 (by decide) (by decide) (off := 700) (by decide) (by decide) ?_
      exact lk_25 hx hb hml hown hts hX hbl hbA hA hZ hP hD hS hl (xs 1) rfl hend
    · refine lv_tableIn (tgt := 755) hx hb dL_law_32 (by decide) (by decide) (off := 723) (by decide) (by decide) ?_
      exact lk_26 hx hb hml hown hts hX hbl hbA hA hZ hP hD hS hl hend
    · refine lv_tableIn (tgt := 768) hx hb dL_law_32 (by decide) (by decide) (off := 736) (by decide) (by decide) ?_
      exact lk_27 hx hb hml hown hts hX hbl hbA hA hZ hP hD hS hl hend
    · refine lv_tableIn (tgt := 781) hx hb dL_law_32 (by decide) (by decide) (off := 749) (by decide) (by decide) ?_
      exact lk_28 hx hb hml hown hts hX hbl hbA hA hZ hP hD hS hl (xs 1) rfl (xs 2) rfl hend
    · refine lv_tableIn (tgt := 814) hx hb dL_law_32 (by decide) (by decide) (off := 782) (by decide) (by decide) ?_
      exact lk_29 hx hb hml hown hts hX hbl hbA hA hZ hP hD hS hl hend
    · refine lv_tableIn (tgt := 827) hx hb dL_law_32 (by decide) (by decide) (off := 795) (by decide) (by decide) ?_
      exact lk_30 hx hb hml hown hts hX hbl hbA hA hZ hP hD hS hl hend
    · refine lv_tableIn (tgt := 840) hx hb dL_law_32 (by decide) (by decide) (off := 808) (by decide) (by decide) ?_
      exact lk_31 hx hb hml hown hts hX hbl hbA hA hZ hP hD hS hl (xs 1) rfl hend
set_option maxHeartbeats 4000000 in
set_option maxRecDepth 100000 in
theorem whole_start {p : Program} {e : Env} {s : State} {m : MethodId} {below : List Frame} {meth : Method} {c : Code} (l : Launch) {b L : Nat} {xs : Nat → Int32} (hL : L ≤ 3) (C0 : lw_At p s m meth c b L xs) : W p l e room_1 s m #[Value.ref b] below meth c s.heap [] 0 0 (lw_Z below #[Value.ref b] s) (entryFrame m ([Value.ref b] : List Value).toArray 4) := by
  obtain ⟨hx, hb, hr, hml, hown, htsT, hX, hbl, hlocks, hgv⟩ := id C0
  have hts : ∀ w ∈ vsL, w.before #[Value.ref b] s = true := fun w h => htsT w (vsL_in w h)
  obtain ⟨dC, dI, cI, cQ, hZ⟩ := z_start htsT
  obtain ⟨hK, hAO, hN⟩ := id hZ
  obtain ⟨A, hAe⟩ : ∃ A : Nat → Prop, A = fun q => s.heap.size ≤ q := ⟨_, rfl⟩
  have hA : ∀ q : Nat, s.heap.size ≤ q → A q := fun q h => by rw [hAe]; exact h
  have hA2 : ∀ q : Nat, A q → s.heap.size ≤ q := fun q h => by rw [hAe] at h; exact h
  have hbA : ¬ A b := fun h => Nat.not_le.mpr hbl (hA2 b h)
  have hS : va_S A s.heap s.heap [] := va_S.rf
  have hP : va_P (dC, dI) vwCl [] s.heap := fun k q h => by simp at h
  have hD : va_D A [] := ⟨fun i j p q h => by simp at h, fun k q h => by simp at h⟩
  have hl := lv_entry ([.ref b]) (n := 4) (Nat.le_of_ble_eq_true rfl)
  rw [lg_entry_eq]
  generalize (lg_sl ([.ref b]) ++ List.replicate (4 - (lg_sl ([.ref b])).length) Slot.unset).toArray = ls at hl ⊢
  have hl : lv_has ls 4 [(0, .ref b)] := hl
  refine va_new (ci := 11) (fs := [.null, .null, .int 0, .null, .null, .null, .null, .int 0, .null]) (C := RX11) (T := TX11) (N := 9) hx hb hts inlX11 tyX11 tyX11_ok hown (hts (.classLink RL 7 RX11) (by decide +kernel)) (hts (.instantiable RX11 9) (by decide +kernel)) (hts (.initialized RX11) (by decide +kernel)) hK hP hD hS hA rfl (fun j hj => by rcases (show j = 0 ∨ j = 1 ∨ j = 2 ∨ j = 3 ∨ j = 4 ∨ j = 5 ∨ j = 6 ∨ j = 7 ∨ j = 8 by omega) with rfl | rfl | rfl | rfl | rfl | rfl | rfl | rfl | rfl <;> rfl) (Nat.le_of_ble_eq_true rfl) (Nat.le_of_ble_eq_true rfl) dL_law_0 (fun q1 H hP hD hS => ?_)
  have hP : va_P (dC, dI) vwCl [(q1, .inr (11, [.null, .null, .int 0, .null, .null, .null, .null, .int 0, .null]))] H := hP
  have hD : va_D A [(q1, .inr (11, [.null, .null, .int 0, .null, .null, .null, .null, .int 0, .null]))] := hD
  refine W.widen (k := 1) (n := 9) (Nat.le_of_ble_eq_true rfl) (Nat.le_of_ble_eq_true rfl) ?_
  refine lv_dup hx hb dL_law_3 rfl ?_
  refine z_callv (wc := [(q1, .inr (11, [.null, .null, .int 0, .null, .null, .null, .null, .int 0, .null]))]) (wr := []) (w1 := (fun ad2 => [(q1, .inr (11, [.ref (ad2 0), .ref (ad2 9), .int 0, .ref (ad2 18), .ref (ad2 19), .ref (ad2 22), .ref (ad2 24), .int 0, .ref (ad2 25)])), ((ad2 0), .inr (7, [.ref (ad2 1), .ref (ad2 2), .ref (ad2 3), .int 0, .ref (ad2 4), .ref (ad2 5), .ref (ad2 6), .ref (ad2 7), .int 0, .int 0, .int 10, .ref (ad2 8)])), ((ad2 1), .inl (cQ, 5, .inr (.inr (.inr (.inr (fun _ => none)))))), ((ad2 2), .inl (cI, 5, .inl (fun _ => 0))), ((ad2 3), .inl (cI, 5, .inl (fun _ => 0))), ((ad2 4), .inl (cI, 12, .inl (fun _ => 0))), ((ad2 5), .inl (cI, 12, .inl (fun _ => 0))), ((ad2 6), .inl (cI, 12, .inl (fun _ => 0))), ((ad2 7), .inl (cI, 12, .inl (fun _ => 0))), ((ad2 8), .inr (9, [.int 0, .int 0, .int (-9), .int 0, .int 0])), ((ad2 9), .inr (7, [.ref (ad2 10), .ref (ad2 11), .ref (ad2 12), .int 0, .ref (ad2 13), .ref (ad2 14), .ref (ad2 15), .ref (ad2 16), .int 0, .int 0, .int 10, .ref (ad2 17)])), ((ad2 10), .inl (cQ, 5, .inr (.inr (.inr (.inr (fun _ => none)))))), ((ad2 11), .inl (cI, 5, .inl (fun _ => 0))), ((ad2 12), .inl (cI, 5, .inl (fun _ => 0))), ((ad2 13), .inl (cI, 12, .inl (fun _ => 0))), ((ad2 14), .inl (cI, 12, .inl (fun _ => 0))), ((ad2 15), .inl (cI, 12, .inl (fun _ => 0))), ((ad2 16), .inl (cI, 12, .inl (fun _ => 0))), ((ad2 17), .inr (9, [.int 0, .int 0, .int (-9), .int 0, .int 0])), ((ad2 18), .inr (2, [.ref (ad2 19), .ref (ad2 21), .int 0])), ((ad2 19), .inr (5, [.ref (ad2 20), .int 0])), ((ad2 20), .inl (cI, 12, .inl (fun _ => 0))), ((ad2 21), .inr (9, [.int 0, .int 0, .int (-9), .int 0, .int 0])), ((ad2 22), .inr (4, [.ref (ad2 23), .int 0])), ((ad2 23), .inl (cI, 80, .inl (fun _ => 0))), ((ad2 24), .inl (cI, 12, .inl (fun _ => 0))), ((ad2 25), .inl (cI, 7, .inl (fun _ => 0)))])) (va_runI (As := []) (rest := [.ref q1]) ⟨hx, hb, hml, hown, hts⟩ (kX11_init l dC dI cI cQ q1 H.size) (cwI 0 hts gv_L_law_X11_init_9 rfl rfl rfl (hts (.initialized RX11) (by decide +kernel)) (hts (.methodLink RL 9 yX11_init) (by decide +kernel)) (hts (.instanceMethod yX11_init) (by decide +kernel)) rfl (by decide +kernel) ⟨Nat.le_of_ble_eq_true rfl, Nat.le_of_ble_eq_true rfl⟩) ⟨z_blind, z_pre hZ hP hD [0] rfl (by decide)⟩ rfl rfl hl.1 rfl (lv_room (Nat.le_of_ble_eq_true rfl)) dL_law_4 ⟨Nat.le_of_ble_eq_true rfl, Nat.le_of_ble_eq_true rfl⟩) hP hD hS hA [0] [] rfl rfl (by decide) (by decide) (fun ad2 H locs hP hD hS => ?_)
  have hP : va_P (dC, dI) vwCl [(q1, .inr (11, [.ref (ad2 0), .ref (ad2 9), .int 0, .ref (ad2 18), .ref (ad2 19), .ref (ad2 22), .ref (ad2 24), .int 0, .ref (ad2 25)])), ((ad2 0), .inr (7, [.ref (ad2 1), .ref (ad2 2), .ref (ad2 3), .int 0, .ref (ad2 4), .ref (ad2 5), .ref (ad2 6), .ref (ad2 7), .int 0, .int 0, .int 10, .ref (ad2 8)])), ((ad2 1), .inl (cQ, 5, .inr (.inr (.inr (.inr (fun _ => none)))))), ((ad2 2), .inl (cI, 5, .inl (fun _ => 0))), ((ad2 3), .inl (cI, 5, .inl (fun _ => 0))), ((ad2 4), .inl (cI, 12, .inl (fun _ => 0))), ((ad2 5), .inl (cI, 12, .inl (fun _ => 0))), ((ad2 6), .inl (cI, 12, .inl (fun _ => 0))), ((ad2 7), .inl (cI, 12, .inl (fun _ => 0))), ((ad2 8), .inr (9, [.int 0, .int 0, .int (-9), .int 0, .int 0])), ((ad2 9), .inr (7, [.ref (ad2 10), .ref (ad2 11), .ref (ad2 12), .int 0, .ref (ad2 13), .ref (ad2 14), .ref (ad2 15), .ref (ad2 16), .int 0, .int 0, .int 10, .ref (ad2 17)])), ((ad2 10), .inl (cQ, 5, .inr (.inr (.inr (.inr (fun _ => none)))))), ((ad2 11), .inl (cI, 5, .inl (fun _ => 0))), ((ad2 12), .inl (cI, 5, .inl (fun _ => 0))), ((ad2 13), .inl (cI, 12, .inl (fun _ => 0))), ((ad2 14), .inl (cI, 12, .inl (fun _ => 0))), ((ad2 15), .inl (cI, 12, .inl (fun _ => 0))), ((ad2 16), .inl (cI, 12, .inl (fun _ => 0))), ((ad2 17), .inr (9, [.int 0, .int 0, .int (-9), .int 0, .int 0])), ((ad2 18), .inr (2, [.ref (ad2 19), .ref (ad2 21), .int 0])), ((ad2 19), .inr (5, [.ref (ad2 20), .int 0])), ((ad2 20), .inl (cI, 12, .inl (fun _ => 0))), ((ad2 21), .inr (9, [.int 0, .int 0, .int (-9), .int 0, .int 0])), ((ad2 22), .inr (4, [.ref (ad2 23), .int 0])), ((ad2 23), .inl (cI, 80, .inl (fun _ => 0))), ((ad2 24), .inl (cI, 12, .inl (fun _ => 0))), ((ad2 25), .inl (cI, 7, .inl (fun _ => 0)))] H := hP
  have hD : va_D A [(q1, .inr (11, [.ref (ad2 0), .ref (ad2 9), .int 0, .ref (ad2 18), .ref (ad2 19), .ref (ad2 22), .ref (ad2 24), .int 0, .ref (ad2 25)])), ((ad2 0), .inr (7, [.ref (ad2 1), .ref (ad2 2), .ref (ad2 3), .int 0, .ref (ad2 4), .ref (ad2 5), .ref (ad2 6), .ref (ad2 7), .int 0, .int 0, .int 10, .ref (ad2 8)])), ((ad2 1), .inl (cQ, 5, .inr (.inr (.inr (.inr (fun _ => none)))))), ((ad2 2), .inl (cI, 5, .inl (fun _ => 0))), ((ad2 3), .inl (cI, 5, .inl (fun _ => 0))), ((ad2 4), .inl (cI, 12, .inl (fun _ => 0))), ((ad2 5), .inl (cI, 12, .inl (fun _ => 0))), ((ad2 6), .inl (cI, 12, .inl (fun _ => 0))), ((ad2 7), .inl (cI, 12, .inl (fun _ => 0))), ((ad2 8), .inr (9, [.int 0, .int 0, .int (-9), .int 0, .int 0])), ((ad2 9), .inr (7, [.ref (ad2 10), .ref (ad2 11), .ref (ad2 12), .int 0, .ref (ad2 13), .ref (ad2 14), .ref (ad2 15), .ref (ad2 16), .int 0, .int 0, .int 10, .ref (ad2 17)])), ((ad2 10), .inl (cQ, 5, .inr (.inr (.inr (.inr (fun _ => none)))))), ((ad2 11), .inl (cI, 5, .inl (fun _ => 0))), ((ad2 12), .inl (cI, 5, .inl (fun _ => 0))), ((ad2 13), .inl (cI, 12, .inl (fun _ => 0))), ((ad2 14), .inl (cI, 12, .inl (fun _ => 0))), ((ad2 15), .inl (cI, 12, .inl (fun _ => 0))), ((ad2 16), .inl (cI, 12, .inl (fun _ => 0))), ((ad2 17), .inr (9, [.int 0, .int 0, .int (-9), .int 0, .int 0])), ((ad2 18), .inr (2, [.ref (ad2 19), .ref (ad2 21), .int 0])), ((ad2 19), .inr (5, [.ref (ad2 20), .int 0])), ((ad2 20), .inl (cI, 12, .inl (fun _ => 0))), ((ad2 21), .inr (9, [.int 0, .int 0, .int (-9), .int 0, .int 0])), ((ad2 22), .inr (4, [.ref (ad2 23), .int 0])), ((ad2 23), .inl (cI, 80, .inl (fun _ => 0))), ((ad2 24), .inl (cI, 12, .inl (fun _ => 0))), ((ad2 25), .inl (cI, 7, .inl (fun _ => 0)))] := hD
  refine W.widen (k := 27) (n := 292) (Nat.le_of_ble_eq_true rfl) (Nat.le_of_ble_eq_true rfl) ?_
  refine lv_astore_n (lv' := [(1, .ref q1), (0, .ref b)]) hx hb dL_law_7 rfl hl (by decide) rfl (fun ls hl => ?_)
  refine va_new (ci := 12) (fs := [.null, .null, .null, .null, .null, .null, .null, .null, .null, .int 0, .int 0, .int 0, .int 0, .int 0, .int 0, .int 0, .null, .null, .null, .null, .int 0, .int 0, .int 0, .null, .int 0, .int 0, .int 0, .int 0, .int 0, .null, .int 0, .int 0, .int 0, .null, .null, .null, .int 0, .int 0]) (C := RX12) (T := TX12) (N := 38) hx hb hts inlX12 tyX12 tyX12_ok hown (hts (.classLink RL 10 RX12) (by decide +kernel)) (hts (.instantiable RX12 38) (by decide +kernel)) (hts (.initialized RX12) (by decide +kernel)) hK hP hD hS hA rfl (fun j hj => by rcases (show j = 0 ∨ j = 1 ∨ j = 2 ∨ j = 3 ∨ j = 4 ∨ j = 5 ∨ j = 6 ∨ j = 7 ∨ j = 8 ∨ j = 9 ∨ j = 10 ∨ j = 11 ∨ j = 12 ∨ j = 13 ∨ j = 14 ∨ j = 15 ∨ j = 16 ∨ j = 17 ∨ j = 18 ∨ j = 19 ∨ j = 20 ∨ j = 21 ∨ j = 22 ∨ j = 23 ∨ j = 24 ∨ j = 25 ∨ j = 26 ∨ j = 27 ∨ j = 28 ∨ j = 29 ∨ j = 30 ∨ j = 31 ∨ j = 32 ∨ j = 33 ∨ j = 34 ∨ j = 35 ∨ j = 36 ∨ j = 37 by omega) with rfl | rfl | rfl | rfl | rfl | rfl | rfl | rfl | rfl | rfl | rfl | rfl | rfl | rfl | rfl | rfl | rfl | rfl | rfl | rfl | rfl | rfl | rfl | rfl | rfl | rfl | rfl | rfl | rfl | rfl | rfl | rfl | rfl | rfl | rfl | rfl | rfl | rfl <;> rfl) (Nat.le_of_ble_eq_true rfl) (Nat.le_of_ble_eq_true rfl) dL_law_8 (fun q3 H hP hD hS => ?_)
  have hP : va_P (dC, dI) vwCl [(q1, .inr (11, [.ref (ad2 0), .ref (ad2 9), .int 0, .ref (ad2 18), .ref (ad2 19), .ref (ad2 22), .ref (ad2 24), .int 0, .ref (ad2 25)])), ((ad2 0), .inr (7, [.ref (ad2 1), .ref (ad2 2), .ref (ad2 3), .int 0, .ref (ad2 4), .ref (ad2 5), .ref (ad2 6), .ref (ad2 7), .int 0, .int 0, .int 10, .ref (ad2 8)])), ((ad2 1), .inl (cQ, 5, .inr (.inr (.inr (.inr (fun _ => none)))))), ((ad2 2), .inl (cI, 5, .inl (fun _ => 0))), ((ad2 3), .inl (cI, 5, .inl (fun _ => 0))), ((ad2 4), .inl (cI, 12, .inl (fun _ => 0))), ((ad2 5), .inl (cI, 12, .inl (fun _ => 0))), ((ad2 6), .inl (cI, 12, .inl (fun _ => 0))), ((ad2 7), .inl (cI, 12, .inl (fun _ => 0))), ((ad2 8), .inr (9, [.int 0, .int 0, .int (-9), .int 0, .int 0])), ((ad2 9), .inr (7, [.ref (ad2 10), .ref (ad2 11), .ref (ad2 12), .int 0, .ref (ad2 13), .ref (ad2 14), .ref (ad2 15), .ref (ad2 16), .int 0, .int 0, .int 10, .ref (ad2 17)])), ((ad2 10), .inl (cQ, 5, .inr (.inr (.inr (.inr (fun _ => none)))))), ((ad2 11), .inl (cI, 5, .inl (fun _ => 0))), ((ad2 12), .inl (cI, 5, .inl (fun _ => 0))), ((ad2 13), .inl (cI, 12, .inl (fun _ => 0))), ((ad2 14), .inl (cI, 12, .inl (fun _ => 0))), ((ad2 15), .inl (cI, 12, .inl (fun _ => 0))), ((ad2 16), .inl (cI, 12, .inl (fun _ => 0))), ((ad2 17), .inr (9, [.int 0, .int 0, .int (-9), .int 0, .int 0])), ((ad2 18), .inr (2, [.ref (ad2 19), .ref (ad2 21), .int 0])), ((ad2 19), .inr (5, [.ref (ad2 20), .int 0])), ((ad2 20), .inl (cI, 12, .inl (fun _ => 0))), ((ad2 21), .inr (9, [.int 0, .int 0, .int (-9), .int 0, .int 0])), ((ad2 22), .inr (4, [.ref (ad2 23), .int 0])), ((ad2 23), .inl (cI, 80, .inl (fun _ => 0))), ((ad2 24), .inl (cI, 12, .inl (fun _ => 0))), ((ad2 25), .inl (cI, 7, .inl (fun _ => 0))), (q3, .inr (12, [.null, .null, .null, .null, .null, .null, .null, .null, .null, .int 0, .int 0, .int 0, .int 0, .int 0, .int 0, .int 0, .null, .null, .null, .null, .int 0, .int 0, .int 0, .null, .int 0, .int 0, .int 0, .int 0, .int 0, .null, .int 0, .int 0, .int 0, .null, .null, .null, .int 0, .int 0]))] H := hP
  have hD : va_D A [(q1, .inr (11, [.ref (ad2 0), .ref (ad2 9), .int 0, .ref (ad2 18), .ref (ad2 19), .ref (ad2 22), .ref (ad2 24), .int 0, .ref (ad2 25)])), ((ad2 0), .inr (7, [.ref (ad2 1), .ref (ad2 2), .ref (ad2 3), .int 0, .ref (ad2 4), .ref (ad2 5), .ref (ad2 6), .ref (ad2 7), .int 0, .int 0, .int 10, .ref (ad2 8)])), ((ad2 1), .inl (cQ, 5, .inr (.inr (.inr (.inr (fun _ => none)))))), ((ad2 2), .inl (cI, 5, .inl (fun _ => 0))), ((ad2 3), .inl (cI, 5, .inl (fun _ => 0))), ((ad2 4), .inl (cI, 12, .inl (fun _ => 0))), ((ad2 5), .inl (cI, 12, .inl (fun _ => 0))), ((ad2 6), .inl (cI, 12, .inl (fun _ => 0))), ((ad2 7), .inl (cI, 12, .inl (fun _ => 0))), ((ad2 8), .inr (9, [.int 0, .int 0, .int (-9), .int 0, .int 0])), ((ad2 9), .inr (7, [.ref (ad2 10), .ref (ad2 11), .ref (ad2 12), .int 0, .ref (ad2 13), .ref (ad2 14), .ref (ad2 15), .ref (ad2 16), .int 0, .int 0, .int 10, .ref (ad2 17)])), ((ad2 10), .inl (cQ, 5, .inr (.inr (.inr (.inr (fun _ => none)))))), ((ad2 11), .inl (cI, 5, .inl (fun _ => 0))), ((ad2 12), .inl (cI, 5, .inl (fun _ => 0))), ((ad2 13), .inl (cI, 12, .inl (fun _ => 0))), ((ad2 14), .inl (cI, 12, .inl (fun _ => 0))), ((ad2 15), .inl (cI, 12, .inl (fun _ => 0))), ((ad2 16), .inl (cI, 12, .inl (fun _ => 0))), ((ad2 17), .inr (9, [.int 0, .int 0, .int (-9), .int 0, .int 0])), ((ad2 18), .inr (2, [.ref (ad2 19), .ref (ad2 21), .int 0])), ((ad2 19), .inr (5, [.ref (ad2 20), .int 0])), ((ad2 20), .inl (cI, 12, .inl (fun _ => 0))), ((ad2 21), .inr (9, [.int 0, .int 0, .int (-9), .int 0, .int 0])), ((ad2 22), .inr (4, [.ref (ad2 23), .int 0])), ((ad2 23), .inl (cI, 80, .inl (fun _ => 0))), ((ad2 24), .inl (cI, 12, .inl (fun _ => 0))), ((ad2 25), .inl (cI, 7, .inl (fun _ => 0))), (q3, .inr (12, [.null, .null, .null, .null, .null, .null, .null, .null, .null, .int 0, .int 0, .int 0, .int 0, .int 0, .int 0, .int 0, .null, .null, .null, .null, .int 0, .int 0, .int 0, .null, .int 0, .int 0, .int 0, .int 0, .int 0, .null, .int 0, .int 0, .int 0, .null, .null, .null, .int 0, .int 0]))] := hD
  refine W.widen (k := 28) (n := 330) (Nat.le_of_ble_eq_true rfl) (Nat.le_of_ble_eq_true rfl) ?_
  refine lv_dup hx hb dL_law_11 rfl ?_
  refine z_callv (wc := [(q3, .inr (12, [.null, .null, .null, .null, .null, .null, .null, .null, .null, .int 0, .int 0, .int 0, .int 0, .int 0, .int 0, .int 0, .null, .null, .null, .null, .int 0, .int 0, .int 0, .null, .int 0, .int 0, .int 0, .int 0, .int 0, .null, .int 0, .int 0, .int 0, .null, .null, .null, .int 0, .int 0]))]) (wr := [(q1, .inr (11, [.ref (ad2 0), .ref (ad2 9), .int 0, .ref (ad2 18), .ref (ad2 19), .ref (ad2 22), .ref (ad2 24), .int 0, .ref (ad2 25)])), ((ad2 0), .inr (7, [.ref (ad2 1), .ref (ad2 2), .ref (ad2 3), .int 0, .ref (ad2 4), .ref (ad2 5), .ref (ad2 6), .ref (ad2 7), .int 0, .int 0, .int 10, .ref (ad2 8)])), ((ad2 1), .inl (cQ, 5, .inr (.inr (.inr (.inr (fun _ => none)))))), ((ad2 2), .inl (cI, 5, .inl (fun _ => 0))), ((ad2 3), .inl (cI, 5, .inl (fun _ => 0))), ((ad2 4), .inl (cI, 12, .inl (fun _ => 0))), ((ad2 5), .inl (cI, 12, .inl (fun _ => 0))), ((ad2 6), .inl (cI, 12, .inl (fun _ => 0))), ((ad2 7), .inl (cI, 12, .inl (fun _ => 0))), ((ad2 8), .inr (9, [.int 0, .int 0, .int (-9), .int 0, .int 0])), ((ad2 9), .inr (7, [.ref (ad2 10), .ref (ad2 11), .ref (ad2 12), .int 0, .ref (ad2 13), .ref (ad2 14), .ref (ad2 15), .ref (ad2 16), .int 0, .int 0, .int 10, .ref (ad2 17)])), ((ad2 10), .inl (cQ, 5, .inr (.inr (.inr (.inr (fun _ => none)))))), ((ad2 11), .inl (cI, 5, .inl (fun _ => 0))), ((ad2 12), .inl (cI, 5, .inl (fun _ => 0))), ((ad2 13), .inl (cI, 12, .inl (fun _ => 0))), ((ad2 14), .inl (cI, 12, .inl (fun _ => 0))), ((ad2 15), .inl (cI, 12, .inl (fun _ => 0))), ((ad2 16), .inl (cI, 12, .inl (fun _ => 0))), ((ad2 17), .inr (9, [.int 0, .int 0, .int (-9), .int 0, .int 0])), ((ad2 18), .inr (2, [.ref (ad2 19), .ref (ad2 21), .int 0])), ((ad2 19), .inr (5, [.ref (ad2 20), .int 0])), ((ad2 20), .inl (cI, 12, .inl (fun _ => 0))), ((ad2 21), .inr (9, [.int 0, .int 0, .int (-9), .int 0, .int 0])), ((ad2 22), .inr (4, [.ref (ad2 23), .int 0])), ((ad2 23), .inl (cI, 80, .inl (fun _ => 0))), ((ad2 24), .inl (cI, 12, .inl (fun _ => 0))), ((ad2 25), .inl (cI, 7, .inl (fun _ => 0)))]) (w1 := (fun ad4 => [(q3, .inr (12, [.ref (ad4 0), .ref (ad4 1), .ref (ad4 2), .ref (ad4 3), .ref (ad4 4), .ref (ad4 5), .ref (ad4 6), .ref (ad4 7), .ref (ad4 8), .int 0, .int 0, .int 10, .int 0, .int 0, .int (-9), .int 0, .ref (ad4 9), .ref (ad4 10), .ref (ad4 11), .ref (ad4 12), .int 0, .int 0, .int 0, .ref (ad4 13), .int 0, .int 0, .int 0, .int (-9), .int 0, .ref (ad4 14), .int 0, .int 0, .int 0, .ref (ad4 15), .ref (ad4 16), .ref (ad4 17), .int 0, .int 0])), ((ad4 0), .inl (cI, 7, .inl (fun _ => 0))), ((ad4 1), .inl (cI, 5, .inl (fun _ => 0))), ((ad4 2), .inl (cI, 5, .inl (fun _ => 0))), ((ad4 3), .inl (cI, 5, .inl (fun _ => 0))), ((ad4 4), .inl (cI, 12, .inl (fun _ => 0))), ((ad4 5), .inl (cI, 12, .inl (fun _ => 0))), ((ad4 6), .inl (cI, 12, .inl (fun _ => 0))), ((ad4 7), .inl (cI, 12, .inl (fun _ => 0))), ((ad4 8), .inl (cI, 60, .inl (fun _ => 0))), ((ad4 9), .inl (cI, 80, .inl (fun _ => 0))), ((ad4 10), .inl (cI, 40, .inl (fun _ => 0))), ((ad4 11), .inl (cI, 40, .inl (fun _ => 0))), ((ad4 12), .inl (cI, 320, .inl (fun _ => 0))), ((ad4 13), .inl (cI, 300, .inl (fun _ => 0))), ((ad4 14), .inl (cI, 60, .inl (fun _ => 0))), ((ad4 15), .inl (cI, 12, .inl (fun _ => 0))), ((ad4 16), .inl (cI, 12, .inl (fun _ => 0))), ((ad4 17), .inl (cI, 12, .inl (fun _ => 0)))])) (va_runI (As := []) (rest := [.ref q3]) ⟨hx, hb, hml, hown, hts⟩ (kX12_init l dC dI cI cQ q3 H.size) (cwI 0 hts gv_L_law_X12_init_12 rfl rfl rfl (hts (.initialized RX12) (by decide +kernel)) (hts (.methodLink RL 12 yX12_init) (by decide +kernel)) (hts (.instanceMethod yX12_init) (by decide +kernel)) rfl (by decide +kernel) ⟨Nat.le_of_ble_eq_true rfl, Nat.le_of_ble_eq_true rfl⟩) ⟨z_blind, z_pre hZ hP hD [27] rfl (by decide)⟩ rfl rfl hl.1 rfl (lv_room (Nat.le_of_ble_eq_true rfl)) dL_law_12 ⟨Nat.le_of_ble_eq_true rfl, Nat.le_of_ble_eq_true rfl⟩) hP hD hS hA [27] [0, 1, 2, 3, 4, 5, 6, 7, 8, 9, 10, 11, 12, 13, 14, 15, 16, 17, 18, 19, 20, 21, 22, 23, 24, 25, 26] rfl rfl (by decide) (by decide) (fun ad4 H locs hP hD hS => ?_)
  have hP : va_P (dC, dI) vwCl [(q1, .inr (11, [.ref (ad2 0), .ref (ad2 9), .int 0, .ref (ad2 18), .ref (ad2 19), .ref (ad2 22), .ref (ad2 24), .int 0, .ref (ad2 25)])), ((ad2 0), .inr (7, [.ref (ad2 1), .ref (ad2 2), .ref (ad2 3), .int 0, .ref (ad2 4), .ref (ad2 5), .ref (ad2 6), .ref (ad2 7), .int 0, .int 0, .int 10, .ref (ad2 8)])), ((ad2 1), .inl (cQ, 5, .inr (.inr (.inr (.inr (fun _ => none)))))), ((ad2 2), .inl (cI, 5, .inl (fun _ => 0))), ((ad2 3), .inl (cI, 5, .inl (fun _ => 0))), ((ad2 4), .inl (cI, 12, .inl (fun _ => 0))), ((ad2 5), .inl (cI, 12, .inl (fun _ => 0))), ((ad2 6), .inl (cI, 12, .inl (fun _ => 0))), ((ad2 7), .inl (cI, 12, .inl (fun _ => 0))), ((ad2 8), .inr (9, [.int 0, .int 0, .int (-9), .int 0, .int 0])), ((ad2 9), .inr (7, [.ref (ad2 10), .ref (ad2 11), .ref (ad2 12), .int 0, .ref (ad2 13), .ref (ad2 14), .ref (ad2 15), .ref (ad2 16), .int 0, .int 0, .int 10, .ref (ad2 17)])), ((ad2 10), .inl (cQ, 5, .inr (.inr (.inr (.inr (fun _ => none)))))), ((ad2 11), .inl (cI, 5, .inl (fun _ => 0))), ((ad2 12), .inl (cI, 5, .inl (fun _ => 0))), ((ad2 13), .inl (cI, 12, .inl (fun _ => 0))), ((ad2 14), .inl (cI, 12, .inl (fun _ => 0))), ((ad2 15), .inl (cI, 12, .inl (fun _ => 0))), ((ad2 16), .inl (cI, 12, .inl (fun _ => 0))), ((ad2 17), .inr (9, [.int 0, .int 0, .int (-9), .int 0, .int 0])), ((ad2 18), .inr (2, [.ref (ad2 19), .ref (ad2 21), .int 0])), ((ad2 19), .inr (5, [.ref (ad2 20), .int 0])), ((ad2 20), .inl (cI, 12, .inl (fun _ => 0))), ((ad2 21), .inr (9, [.int 0, .int 0, .int (-9), .int 0, .int 0])), ((ad2 22), .inr (4, [.ref (ad2 23), .int 0])), ((ad2 23), .inl (cI, 80, .inl (fun _ => 0))), ((ad2 24), .inl (cI, 12, .inl (fun _ => 0))), ((ad2 25), .inl (cI, 7, .inl (fun _ => 0))), (q3, .inr (12, [.ref (ad4 0), .ref (ad4 1), .ref (ad4 2), .ref (ad4 3), .ref (ad4 4), .ref (ad4 5), .ref (ad4 6), .ref (ad4 7), .ref (ad4 8), .int 0, .int 0, .int 10, .int 0, .int 0, .int (-9), .int 0, .ref (ad4 9), .ref (ad4 10), .ref (ad4 11), .ref (ad4 12), .int 0, .int 0, .int 0, .ref (ad4 13), .int 0, .int 0, .int 0, .int (-9), .int 0, .ref (ad4 14), .int 0, .int 0, .int 0, .ref (ad4 15), .ref (ad4 16), .ref (ad4 17), .int 0, .int 0])), ((ad4 0), .inl (cI, 7, .inl (fun _ => 0))), ((ad4 1), .inl (cI, 5, .inl (fun _ => 0))), ((ad4 2), .inl (cI, 5, .inl (fun _ => 0))), ((ad4 3), .inl (cI, 5, .inl (fun _ => 0))), ((ad4 4), .inl (cI, 12, .inl (fun _ => 0))), ((ad4 5), .inl (cI, 12, .inl (fun _ => 0))), ((ad4 6), .inl (cI, 12, .inl (fun _ => 0))), ((ad4 7), .inl (cI, 12, .inl (fun _ => 0))), ((ad4 8), .inl (cI, 60, .inl (fun _ => 0))), ((ad4 9), .inl (cI, 80, .inl (fun _ => 0))), ((ad4 10), .inl (cI, 40, .inl (fun _ => 0))), ((ad4 11), .inl (cI, 40, .inl (fun _ => 0))), ((ad4 12), .inl (cI, 320, .inl (fun _ => 0))), ((ad4 13), .inl (cI, 300, .inl (fun _ => 0))), ((ad4 14), .inl (cI, 60, .inl (fun _ => 0))), ((ad4 15), .inl (cI, 12, .inl (fun _ => 0))), ((ad4 16), .inl (cI, 12, .inl (fun _ => 0))), ((ad4 17), .inl (cI, 12, .inl (fun _ => 0)))] H := hP
  have hD : va_D A [(q1, .inr (11, [.ref (ad2 0), .ref (ad2 9), .int 0, .ref (ad2 18), .ref (ad2 19), .ref (ad2 22), .ref (ad2 24), .int 0, .ref (ad2 25)])), ((ad2 0), .inr (7, [.ref (ad2 1), .ref (ad2 2), .ref (ad2 3), .int 0, .ref (ad2 4), .ref (ad2 5), .ref (ad2 6), .ref (ad2 7), .int 0, .int 0, .int 10, .ref (ad2 8)])), ((ad2 1), .inl (cQ, 5, .inr (.inr (.inr (.inr (fun _ => none)))))), ((ad2 2), .inl (cI, 5, .inl (fun _ => 0))), ((ad2 3), .inl (cI, 5, .inl (fun _ => 0))), ((ad2 4), .inl (cI, 12, .inl (fun _ => 0))), ((ad2 5), .inl (cI, 12, .inl (fun _ => 0))), ((ad2 6), .inl (cI, 12, .inl (fun _ => 0))), ((ad2 7), .inl (cI, 12, .inl (fun _ => 0))), ((ad2 8), .inr (9, [.int 0, .int 0, .int (-9), .int 0, .int 0])), ((ad2 9), .inr (7, [.ref (ad2 10), .ref (ad2 11), .ref (ad2 12), .int 0, .ref (ad2 13), .ref (ad2 14), .ref (ad2 15), .ref (ad2 16), .int 0, .int 0, .int 10, .ref (ad2 17)])), ((ad2 10), .inl (cQ, 5, .inr (.inr (.inr (.inr (fun _ => none)))))), ((ad2 11), .inl (cI, 5, .inl (fun _ => 0))), ((ad2 12), .inl (cI, 5, .inl (fun _ => 0))), ((ad2 13), .inl (cI, 12, .inl (fun _ => 0))), ((ad2 14), .inl (cI, 12, .inl (fun _ => 0))), ((ad2 15), .inl (cI, 12, .inl (fun _ => 0))), ((ad2 16), .inl (cI, 12, .inl (fun _ => 0))), ((ad2 17), .inr (9, [.int 0, .int 0, .int (-9), .int 0, .int 0])), ((ad2 18), .inr (2, [.ref (ad2 19), .ref (ad2 21), .int 0])), ((ad2 19), .inr (5, [.ref (ad2 20), .int 0])), ((ad2 20), .inl (cI, 12, .inl (fun _ => 0))), ((ad2 21), .inr (9, [.int 0, .int 0, .int (-9), .int 0, .int 0])), ((ad2 22), .inr (4, [.ref (ad2 23), .int 0])), ((ad2 23), .inl (cI, 80, .inl (fun _ => 0))), ((ad2 24), .inl (cI, 12, .inl (fun _ => 0))), ((ad2 25), .inl (cI, 7, .inl (fun _ => 0))), (q3, .inr (12, [.ref (ad4 0), .ref (ad4 1), .ref (ad4 2), .ref (ad4 3), .ref (ad4 4), .ref (ad4 5), .ref (ad4 6), .ref (ad4 7), .ref (ad4 8), .int 0, .int 0, .int 10, .int 0, .int 0, .int (-9), .int 0, .ref (ad4 9), .ref (ad4 10), .ref (ad4 11), .ref (ad4 12), .int 0, .int 0, .int 0, .ref (ad4 13), .int 0, .int 0, .int 0, .int (-9), .int 0, .ref (ad4 14), .int 0, .int 0, .int 0, .ref (ad4 15), .ref (ad4 16), .ref (ad4 17), .int 0, .int 0])), ((ad4 0), .inl (cI, 7, .inl (fun _ => 0))), ((ad4 1), .inl (cI, 5, .inl (fun _ => 0))), ((ad4 2), .inl (cI, 5, .inl (fun _ => 0))), ((ad4 3), .inl (cI, 5, .inl (fun _ => 0))), ((ad4 4), .inl (cI, 12, .inl (fun _ => 0))), ((ad4 5), .inl (cI, 12, .inl (fun _ => 0))), ((ad4 6), .inl (cI, 12, .inl (fun _ => 0))), ((ad4 7), .inl (cI, 12, .inl (fun _ => 0))), ((ad4 8), .inl (cI, 60, .inl (fun _ => 0))), ((ad4 9), .inl (cI, 80, .inl (fun _ => 0))), ((ad4 10), .inl (cI, 40, .inl (fun _ => 0))), ((ad4 11), .inl (cI, 40, .inl (fun _ => 0))), ((ad4 12), .inl (cI, 320, .inl (fun _ => 0))), ((ad4 13), .inl (cI, 300, .inl (fun _ => 0))), ((ad4 14), .inl (cI, 60, .inl (fun _ => 0))), ((ad4 15), .inl (cI, 12, .inl (fun _ => 0))), ((ad4 16), .inl (cI, 12, .inl (fun _ => 0))), ((ad4 17), .inl (cI, 12, .inl (fun _ => 0)))] := hD
  refine W.widen (k := 46) (n := 1336) (Nat.le_of_ble_eq_true rfl) (Nat.le_of_ble_eq_true rfl) ?_
  refine lv_astore_n (lv' := [(2, .ref q3), (1, .ref q1), (0, .ref b)]) hx hb dL_law_15 rfl hl (by decide) rfl (fun ls hl => ?_)
  refine lv_iconst (v := 0) hx hb dL_law_16 (by decide) ?_
  refine lv_istore_n (lv' := [(3, .int 0), (2, .ref q3), (1, .ref q1), (0, .ref b)]) hx hb dL_law_17 rfl hl (by decide) rfl (fun ls hl => ?_)
  have hP9 : va_P (dC, dI) vwCl (zF cI cQ (fun k => [q1, (ad2 0), (ad2 1), (ad2 2), (ad2 3), (ad2 4), (ad2 5), (ad2 6), (ad2 7), (ad2 8), (ad2 9), (ad2 10), (ad2 11), (ad2 12), (ad2 13), (ad2 14), (ad2 15), (ad2 16), (ad2 17), (ad2 18), (ad2 19), (ad2 20), (ad2 21), (ad2 22), (ad2 23), (ad2 24), (ad2 25), q3, (ad4 0), (ad4 1), (ad4 2), (ad4 3), (ad4 4), (ad4 5), (ad4 6), (ad4 7), (ad4 8), (ad4 9), (ad4 10), (ad4 11), (ad4 12), (ad4 13), (ad4 14), (ad4 15), (ad4 16), (ad4 17)].getD k 0)) _ := hP.sub [0, 1, 2, 3, 4, 5, 6, 7, 8, 9, 10, 11, 12, 13, 14, 15, 16, 17, 18, 19, 20, 21, 22, 23, 24, 25, 26, 27, 28, 29, 30, 31, 32, 33, 34, 35, 36, 37, 38, 39, 40, 41, 42, 43, 44, 45] rfl
  have hD9 : va_D A (zF cI cQ (fun k => [q1, (ad2 0), (ad2 1), (ad2 2), (ad2 3), (ad2 4), (ad2 5), (ad2 6), (ad2 7), (ad2 8), (ad2 9), (ad2 10), (ad2 11), (ad2 12), (ad2 13), (ad2 14), (ad2 15), (ad2 16), (ad2 17), (ad2 18), (ad2 19), (ad2 20), (ad2 21), (ad2 22), (ad2 23), (ad2 24), (ad2 25), q3, (ad4 0), (ad4 1), (ad4 2), (ad4 3), (ad4 4), (ad4 5), (ad4 6), (ad4 7), (ad4 8), (ad4 9), (ad4 10), (ad4 11), (ad4 12), (ad4 13), (ad4 14), (ad4 15), (ad4 16), (ad4 17)].getD k 0)) := hD.sub [0, 1, 2, 3, 4, 5, 6, 7, 8, 9, 10, 11, 12, 13, 14, 15, 16, 17, 18, 19, 20, 21, 22, 23, 24, 25, 26, 27, 28, 29, 30, 31, 32, 33, 34, 35, 36, 37, 38, 39, 40, 41, 42, 43, 44, 45] (by decide) rfl
  generalize hadE : (fun k => [q1, (ad2 0), (ad2 1), (ad2 2), (ad2 3), (ad2 4), (ad2 5), (ad2 6), (ad2 7), (ad2 8), (ad2 9), (ad2 10), (ad2 11), (ad2 12), (ad2 13), (ad2 14), (ad2 15), (ad2 16), (ad2 17), (ad2 18), (ad2 19), (ad2 20), (ad2 21), (ad2 22), (ad2 23), (ad2 24), (ad2 25), q3, (ad4 0), (ad4 1), (ad4 2), (ad4 3), (ad4 4), (ad4 5), (ad4 6), (ad4 7), (ad4 8), (ad4 9), (ad4 10), (ad4 11), (ad4 12), (ad4 13), (ad4 14), (ad4 15), (ad4 16), (ad4 17)].getD k 0) = ad at hP9 hD9
  have hl : lv_has ls 4 [(3, .int 0), (2, .ref (ad 27)), (1, .ref (ad 0)), (0, .ref b)] := by rw [← hadE]; exact hl
  exact law_in hL hx hb hr hml hown hts hX hbl hlocks hbA hA hA2 hZ hP9 hD9 hS hl
