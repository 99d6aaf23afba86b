set_option maxHeartbeats 4000000 in
set_option maxRecDepth 100000 in
theorem law_loop {p : Program} {l : Launch} {e : Env} {s : State} {m : MethodId} {below : List Frame} {meth : Method} {c : Code} {b L : Nat} {xs : Nat → Int32} {dC : Nat → ClassId} {dI : Nat → Nat → Nat} {cI cQ : ClassId} {A : Nat → Prop} {hox_0_0 hox_0_1 hox_0_2 hox_0_4 hox_0_5 hox_0_6 hox_0_7 hox_0_11 hox_0 hox_1_0 hox_1_1 hox_1_2 hox_1_4 hox_1_5 hox_1_6 hox_1_7 hox_1_11 hox_1 hox_3_0_0 hox_3_0 hox_3_1 hox_3 hox_5_0 hox_5 hox_6 hox_8 hox hom_0 hom_1 hom_2 hom_3 hom_4 hom_5 hom_6 hom_7 hom_8 hom_16 hom_17 hom_18 hom_19 hom_23 hom_29 hom_33 hom_34 hom_35 hom : Nat} (hx : p.tables.exec = Jvm.exec) (hb : c.code = cL_law) (hml : c.maxLocals = 4) (hown : s.vm.findClass RL = some m.cls) (hts : ∀ w ∈ vsL, w.before #[Value.ref b] s = true) (hX : va_X b L xs s s.heap) (hbl : b < s.heap.size) (hbA : ¬ A b) (hA : ∀ q : Nat, s.heap.size ≤ q → A q) (hZ : zK dC dI cI cQ s) (hr : meth.sig.returnType = ret) (hlocks : meth.locks = false) (hA2 : ∀ q, A q → s.heap.size ≤ q) (hL : L ≤ 192) : ∀ (n : Nat) (i : Int32) (H : Heap) (locs : List Loc) (ls : Array Slot) (cells slots : Nat), 0 ≤ i.toInt → i.toInt ≤ 200 → cells ≤ 1000 + 80 * i.toInt.toNat → slots ≤ 3000 + 80 * i.toInt.toNat → (200 - i.toInt).toNat < n → zIv dC dI cI cQ A hox_0_0 hox_0_1 hox_0_2 hox_0_4 hox_0_5 hox_0_6 hox_0_7 hox_0_11 hox_0 hox_1_0 hox_1_1 hox_1_2 hox_1_4 hox_1_5 hox_1_6 hox_1_7 hox_1_11 hox_1 hox_3_0_0 hox_3_0 hox_3_1 hox_3 hox_5_0 hox_5 hox_6 hox_8 hox hom_0 hom_1 hom_2 hom_3 hom_4 hom_5 hom_6 hom_7 hom_8 hom_16 hom_17 hom_18 hom_19 hom_23 hom_29 hom_33 hom_34 hom_35 hom (i.toInt) H → va_S A s.heap H locs → lv_has ls 4 [(3, .int i), (2, .ref hom), (1, .ref hox), (0, .ref b)] → W p l e room_1 s m #[Value.ref b] below meth c H locs cells slots (lw_Z below #[Value.ref b] s) (F0 m 18 ls []) := by
  intro n
  induction n with
  | zero => intro i H locs ls cells slots h0 h1 h2 h3 h4 hI hS hl; exact absurd h4 (Nat.not_lt_zero _)
  | succ n ih =>
    intro i H locs ls cells slots h0 h1 h2 h3 h4 hI hS hl
    refine lv_iload_n hx hb dL_law_18 rfl (lv_at hl 0 rfl) ?_
    refine lv_aload_n hx hb dL_law_19 rfl (lv_at hl 3 rfl) ?_
    refine va_slen hx hb hX hbl hbA hS dL_law_20 ?_
    refine lv_topi (fun y1 ey1 => ?_)
    have hy1 : y1.toInt = (L : Int) := by rw [ey1]; exact Int32.toInt_ofNat_of_lt (by omega)
    refine lv_iconst (v := 3) hx hb dL_law_21 (by decide) ?_
    refine lv_isub hx hb dL_law_22 ?_
    refine lv_topi (fun y2 ey2 => ?_)
    have hy2 : y2.toInt = y1.toInt - 3 := by rw [ey2]; exact z_sub rfl (by decide) (by omega) (by omega)
    refine lv_icmp_gt (tgt := 868) hx hb dL_law_23 (by decide) (fun hc => ?_) (fun hc => ?_)
    · refine lv_iconst (v := 1) hx hb dL_law_868 (by decide) ?_
      refine va_forget (fun q hq => hA2 _ (hS.2.2 q hq)) ?_
      refine W.widen (k := 600000) (n := 7302250) (by omega) (by omega) ?_
      exact lw_ret hx hb hr hlocks dL_law_869
    have hi1 : i.toInt ≤ y2.toInt := z_nlt rfl rfl hc
    refine lv_aload_n hx hb dL_law_26 rfl (lv_at hl 3 rfl) ?_
    refine lv_iload_n hx hb dL_law_27 rfl (lv_at hl 0 rfl) ?_
    refine va_sld hx hb hX hbl hbA hS (z_in (by omega) (by omega)) dL_law_28 ?_
    refine lv_bipush (v := 31) hx hb dL_law_29 (by decide) ?_
    refine lv_iand hx hb dL_law_31 ?_
    obtain ⟨j, hj, ej⟩ := pk_andE (xs i.toNatClampNeg) (m := 31) 5 (by decide)
    rw [ej]
    have kk : ∀ (H : Heap) (locs : List Loc) (ls : Array Slot), zIv dC dI cI cQ A hox_0_0 hox_0_1 hox_0_2 hox_0_4 hox_0_5 hox_0_6 hox_0_7 hox_0_11 hox_0 hox_1_0 hox_1_1 hox_1_2 hox_1_4 hox_1_5 hox_1_6 hox_1_7 hox_1_11 hox_1 hox_3_0_0 hox_3_0 hox_3_1 hox_3 hox_5_0 hox_5 hox_6 hox_8 hox hom_0 hom_1 hom_2 hom_3 hom_4 hom_5 hom_6 hom_7 hom_8 hom_16 hom_17 hom_18 hom_19 hom_23 hom_29 hom_33 hom_34 hom_35 hom (i.toInt + 3) H → va_S A s.heap H locs → lv_has ls 4 [(3, .int i), (2, .ref hom), (1, .ref hox), (0, .ref b)] → W p l e room_1 s m #[Value.ref b] below meth c H locs (cells + 80) (slots + 80) (lw_Z below #[Value.ref b] s) (F0 m 862 ls []) := by
      intro H locs ls hI hS hl
      obtain ⟨y, ey⟩ : ∃ y : Int32, y = i + 3 := ⟨_, rfl⟩
      have hy : y.toInt = i.toInt + 3 := by rw [ey]; exact z_add rfl (by decide) (by omega) (by omega)
      refine lv_iinc (v := y) (lv' := [(3, .int y), (2, .ref hom), (1, .ref hox), (0, .ref b)]) hx hb dL_law_862 hl (k := 0) rfl (by rw [ey]; rfl) (by decide) rfl (fun ls hl => ?_)
      refine lv_goto (tgt := 18) hx hb dL_law_865 (by decide) ?_
      exact ih y H locs ls (cells + 80) (slots + 80) (by omega) (by omega) (by omega) (by omega) (by omega) (by rw [hy]; exact hI) hS hl
    rcases (show j = 0 ∨ j = 1 ∨ j = 2 ∨ j = 3 ∨ j = 4 ∨ j = 5 ∨ j = 6 ∨ j = 7 ∨ j = 8 ∨ j = 9 ∨ j = 10 ∨ j = 11 ∨ j = 12 ∨ j = 13 ∨ j = 14 ∨ j = 15 ∨ j = 16 ∨ j = 17 ∨ j = 18 ∨ j = 19 ∨ j = 20 ∨ j = 21 ∨ j = 22 ∨ j = 23 ∨ j = 24 ∨ j = 25 ∨ j = 26 ∨ j = 27 ∨ j = 28 ∨ j = 29 ∨ j = 30 ∨ j = 31 by omega) with rfl | rfl | rfl | rfl | rfl | rfl | rfl | rfl | rfl | rfl | rfl | rfl | rfl | rfl | rfl | rfl | rfl | rfl | rfl | rfl | rfl | rfl | rfl | rfl | rfl | rfl | rfl | rfl | rfl | rfl | rfl | rfl
    · refine lv_tableIn (tgt := 176) hx hb dL_law_32 (by decide) (by decide) (off := 144) (by decide) (by decide) ?_
      exact lk_0 hx hb hml hown hts hX hbl hbA hA hZ h0 (by omega) (by omega) (by omega) (by omega) hI hS hl kk
    · refine lv_tableIn (tgt := 199) hx hb dL_law_32 (by decide) (by decide) (off := 167) (by decide) (by decide) ?_
      exact lk_1 hx hb hml hown hts hX hbl hbA hA hZ h0 (by omega) (by omega) (by omega) (by omega) hI hS hl kk
    · refine lv_tableIn (tgt := 212) hx hb dL_law_32 (by decide) (by decide) (off := 180) (by decide) (by decide) ?_
      exact lk_2 hx hb hml hown hts hX hbl hbA hA hZ h0 (by omega) (by omega) (by omega) (by omega) hI hS hl kk
    · refine lv_tableIn (tgt := 245) hx hb dL_law_32 (by decide) (by decide) (off := 213) (by decide) (by decide) ?_
      exact lk_3 hx hb hml hown hts hX hbl hbA hA hZ h0 (by omega) (by omega) (by omega) (by omega) hI hS hl kk
    · refine lv_tableIn (tgt := 278) hx hb dL_law_32 (by decide) (by decide) (off := 246) (by decide) (by decide) ?_
      exact lk_4 hx hb hml hown hts hX hbl hbA hA hZ h0 (by omega) (by omega) (by omega) (by omega) hI hS hl kk
    · refine lv_tableIn (tgt := 311) hx hb dL_law_32 (by decide) (by decide) (off := 279) (by decide) (by decide) ?_
      exact lk_5 hx hb hml hown hts hX hbl hbA hA hZ h0 (by omega) (by omega) (by omega) (by omega) hI hS hl kk
    · refine lv_tableIn (tgt := 344) hx hb dL_law_32 (by decide) (by decide) (off := 312) (by decide) (by decide) ?_
      exact lk_6 hx hb hml hown hts hX hbl hbA hA hZ h0 (by omega) (by omega) (by omega) (by omega) hI hS hl kk
    · refine lv_tableIn (tgt := 367) hx hb dL_law_32 (by decide) (by decide) (off := 335) (by decide) (by decide) ?_
      exact lk_7 hx hb hml hown hts hX hbl hbA hA hZ h0 (by omega) (by omega) (by omega) (by omega) hI hS hl kk
    · refine lv_tableIn (tgt := 390) hx hb dL_law_32 (by decide) (by decide) (off := 358) (by decide) (by decide) ?_
      exact lk_8 hx hb hml hown hts hX hbl hbA hA hZ h0 (by omega) (by omega) (by omega) (by omega) hI hS hl kk
    · refine lv_tableIn (tgt := 403) hx hb dL_law_32 (by decide) (by decide) (off := 371) (by decide) (by decide) ?_
      exact lk_9 hx hb hml hown hts hX hbl hbA hA hZ h0 (by omega) (by omega) (by omega) (by omega) hI hS hl kk
    · refine lv_tableIn (tgt := 416) hx hb dL_law_32 (by decide) (by decide) (off := 384) (by decide) (by decide) ?_
      exact lk_10 hx hb hml hown hts hX hbl hbA hA hZ h0 (by omega) (by omega) (by omega) (by omega) hI hS hl kk
    · refine lv_tableIn (tgt := 439) hx hb dL_law_32 (by decide) (by decide) (off := 407) (by decide) (by decide) ?_
      exact lk_11 hx hb hml hown hts hX hbl hbA hA hZ h0 (by omega) (by omega) (by omega) (by omega) hI hS hl kk
    · refine lv_tableIn (tgt := 462) hx hb dL_law_32 (by decide) (by decide) (off := 430) (by decide) (by decide) ?_
      exact lk_12 hx hb hml hown hts hX hbl hbA hA hZ h0 (by omega) (by omega) (by omega) (by omega) hI hS hl kk
    · refine lv_tableIn (tgt := 485) hx hb dL_law_32 (by decide) (by decide) (off := 453) (by decide) (by decide) ?_
      exact lk_13 hx hb hml hown hts hX hbl hbA hA hZ h0 (by omega) (by omega) (by omega) (by omega) hI hS hl kk
    · refine lv_tableIn (tgt := 508) hx hb dL_law_32 (by decide) (by decide) (off := 476) (by decide) (by decide) ?_
      exact lk_14 hx hb hml hown hts hX hbl hbA hA hZ h0 (by omega) (by omega) (by omega) (by omega) hI hS hl kk
    · refine lv_tableIn (tgt := 521) hx hb dL_law_32 (by decide) (by decide) (off := 489) (by decide) (by decide) ?_
      exact lk_15 hx hb hml hown hts hX hbl hbA hA hZ h0 (by omega) (by omega) (by omega) (by omega) hI hS hl kk
    · refine lv_tableIn (tgt := 544) hx hb dL_law_32 (by decide) (by decide) (off := 512) (by decide) (by decide) ?_
      exact lk_16 hx hb hml hown hts hX hbl hbA hA hZ h0 (by omega) (by omega) (by omega) (by omega) hI hS hl kk
    · refine lv_tableIn (tgt := 557) hx hb dL_law_32 (by decide) (by decide) (off := 525) (by decide) (by decide) ?_
      exact lk_17 hx hb hml hown hts hX hbl hbA hA hZ h0 (by omega) (by omega) (by omega) (by omega) hI hS hl kk
    · refine lv_tableIn (tgt := 580) hx hb dL_law_32 (by decide) (by decide) (off := 548) (by decide) (by decide) ?_
      exact lk_18 hx hb hml hown hts hX hbl hbA hA hZ h0 (by omega) (by omega) (by omega) (by omega) hI hS hl kk
    · refine lv_tableIn (tgt := 603) hx hb dL_law_32 (by decide) (by decide) (off := 571) (by decide) (by decide) ?_
      exact lk_19 hx hb hml hown hts hX hbl hbA hA hZ h0 (by omega) (by omega) (by omega) (by omega) hI hS hl kk
    · refine lv_tableIn (tgt := 616) hx hb dL_law_32 (by decide) (by decide) (off := 584) (by decide) (by decide) ?_
      exact lk_20 hx hb hml hown hts hX hbl hbA hA hZ h0 (by omega) (by omega) (by omega) (by omega) hI hS hl kk
    · refine lv_tableIn (tgt := 649) hx hb dL_law_32 (by decide) (by decide) (off := 617) (by decide) (by decide) ?_
      exact lk_21 hx hb hml hown hts hX hbl hbA hA hZ h0 (by omega) (by omega) (by omega) (by omega) hI hS hl kk
    · refine lv_tableIn (tgt := 672) hx hb dL_law_32 (by decide) (by decide) (off := 640) (by decide) (by decide) ?_
      exact lk_22 hx hb hml hown hts hX hbl hbA hA hZ h0 (by omega) (by omega) (by omega) (by omega) hI hS hl kk
    · refine lv_tableIn (tgt := 685) hx hb dL_law_32 (by decide) (by decide) (off := 653) (by decide) (by decide) ?_
      exact lk_23 hx hb hml hown hts hX hbl hbA hA hZ h0 (by omega) (by omega) (by omega) (by omega) hI hS hl kk
    · refine lv_tableIn (tgt := 698) hx hb dL_law_32 (by decide) (by decide) (off := 666) (by decide) (by decide) ?_
      exact lk_24 hx hb hml hown hts hX hbl hbA hA hZ h0 (by omega) (by omega) (by omega) (by omega) hI hS hl kk
    · refine lv_tableIn (tgt := 731) hx hb dL_law_32 (by decide) (by decide) (off := 699) (by decide) (by decide) ?_
      exact lk_25 hx hb hml hown hts hX hbl hbA hA hZ h0 (by omega) (by omega) (by omega) (by omega) hI hS hl kk
    · refine lv_tableIn (tgt := 754) hx hb dL_law_32 (by decide) (by decide) (off := 722) (by decide) (by decide) ?_
      exact lk_26 hx hb hml hown hts hX hbl hbA hA hZ h0 (by omega) (by omega) (by omega) (by omega) hI hS hl kk
    · refine lv_tableIn (tgt := 767) hx hb dL_law_32 (by decide) (by decide) (off := 735) (by decide) (by decide) ?_
      exact lk_27 hx hb hml hown hts hX hbl hbA hA hZ h0 (by omega) (by omega) (by omega) (by omega) hI hS hl kk
    · refine lv_tableIn (tgt := 780) hx hb dL_law_32 (by decide) (by decide) (off := 748) (by decide) (by decide) ?_
      exact lk_28 hx hb hml hown hts hX hbl hbA hA hZ h0 (by omega) (by omega) (by omega) (by omega) hI hS hl kk
    · refine lv_tableIn (tgt := 813) hx hb dL_law_32 (by decide) (by decide) (off := 781) (by decide) (by decide) ?_
      exact lk_29 hx hb hml hown hts hX hbl hbA hA hZ h0 (by omega) (by omega) (by omega) (by omega) hI hS hl kk
    · refine lv_tableIn (tgt := 826) hx hb dL_law_32 (by decide) (by decide) (off := 794) (by decide) (by decide) ?_
      exact lk_30 hx hb hml hown hts hX hbl hbA hA hZ h0 (by omega) (by omega) (by omega) (by omega) hI hS hl kk
    · refine lv_tableIn (tgt := 839) hx hb dL_law_32 (by decide) (by decide) (off := 807) (by decide) (by decide) ?_
      exact lk_31 hx hb hml hown hts hX hbl hbA hA hZ h0 (by omega) (by omega) (by omega) (by omega) hI hS hl kk
