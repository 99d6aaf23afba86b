theorem dX4_firstFault_0 : decode cX4_firstFault 0 = .ok (.aload_n 0, 1) := by decide +kernel
theorem dX4_firstFault_1 : decode cX4_firstFault 1 = .ok (.invokevirtual 23, 3) := by decide +kernel
theorem dX4_firstFault_4 : decode cX4_firstFault 4 = .ok (.istore_n 2, 1) := by decide +kernel
theorem dX4_firstFault_5 : decode cX4_firstFault 5 = .ok (.iload_n 2, 1) := by decide +kernel
theorem dX4_firstFault_6 : decode cX4_firstFault 6 = .ok (.bipush (-9), 2) := by decide +kernel
theorem dX4_firstFault_8 : decode cX4_firstFault 8 = .ok (.if_icmp .eq 9, 3) := by decide +kernel
theorem dX4_firstFault_11 : decode cX4_firstFault 11 = .ok (.sipush (-1000), 3) := by decide +kernel
theorem dX4_firstFault_14 : decode cX4_firstFault 14 = .ok (.iload_n 2, 1) := by decide +kernel
theorem dX4_firstFault_15 : decode cX4_firstFault 15 = .ok (.isub, 1) := by decide +kernel
theorem dX4_firstFault_16 : decode cX4_firstFault 16 = .ok (.ireturn, 1) := by decide +kernel
theorem dX4_firstFault_17 : decode cX4_firstFault 17 = .ok (.aload_n 0, 1) := by decide +kernel
theorem dX4_firstFault_18 : decode cX4_firstFault 18 = .ok (.aload_n 1, 1) := by decide +kernel
theorem dX4_firstFault_19 : decode cX4_firstFault 19 = .ok (.invokevirtual 27, 3) := by decide +kernel
theorem dX4_firstFault_22 : decode cX4_firstFault 22 = .ok (.istore_n 2, 1) := by decide +kernel
theorem dX4_firstFault_23 : decode cX4_firstFault 23 = .ok (.iload_n 2, 1) := by decide +kernel
theorem dX4_firstFault_24 : decode cX4_firstFault 24 = .ok (.bipush (-9), 2) := by decide +kernel
theorem dX4_firstFault_26 : decode cX4_firstFault 26 = .ok (.if_icmp .ne 7, 3) := by decide +kernel
theorem dX4_firstFault_29 : decode cX4_firstFault 29 = .ok (.iconst 0, 1) := by decide +kernel
theorem dX4_firstFault_30 : decode cX4_firstFault 30 = .ok (.goto 8, 3) := by decide +kernel
theorem dX4_firstFault_33 : decode cX4_firstFault 33 = .ok (.sipush (-2000), 3) := by decide +kernel
theorem dX4_firstFault_36 : decode cX4_firstFault 36 = .ok (.iload_n 2, 1) := by decide +kernel
theorem dX4_firstFault_37 : decode cX4_firstFault 37 = .ok (.isub, 1) := by decide +kernel
theorem dX4_firstFault_38 : decode cX4_firstFault 38 = .ok (.ireturn, 1) := by decide +kernel
noncomputable def vsX4_firstFault : List Cond := .code yX4_firstFault cX4_firstFault 3 (some .int) :: (([.methodLink RX4 23 yX4_firstWrongLetter, .instanceMethod yX4_firstWrongLetter, .selects RX4 yX4_firstWrongLetter yX4_firstWrongLetter, .initialized RX4, .code yX4_firstWrongLetter cX4_firstWrongLetter 4 (some .int), .fieldLink RX4 15 "EachOnHisCue$Letters" "size" "I", .methodLink RX4 31 yX4_stateBehind, .instanceMethod yX4_stateBehind, .selects RX4 yX4_stateBehind yX4_stateBehind, .code yX4_stateBehind cX4_stateBehind 5 (some .int), .methodLink RX4 19 yX4_at, .instanceMethod yX4_at, .selects RX4 yX4_at yX4_at, .code yX4_at cX4_at 2 (some .int), .fieldLink RX4 9 "EachOnHisCue$Letters" "row" "[I", .methodLink RX4 35 yX4_isDigit, .instanceMethod yX4_isDigit, .selects RX4 yX4_isDigit yX4_isDigit, .code yX4_isDigit cX4_isDigit 2 (some .boolean), .methodLink RX4 39 yX4_isWord, .instanceMethod yX4_isWord, .selects RX4 yX4_isWord yX4_isWord, .code yX4_isWord cX4_isWord 2 (some .boolean), .methodLink RX4 27 yX4_firstWrongStatement, .instanceMethod yX4_firstWrongStatement, .selects RX4 yX4_firstWrongStatement yX4_firstWrongStatement, .code yX4_firstWrongStatement cX4_firstWrongStatement 6 (some .int), .fieldLink RX4 42 "EachOnHisCue$Play" "players" "I", .fieldLink RX4 47 "EachOnHisCue$Play" "lines" "I", .methodLink RX4 50 yX4_begins, .instanceMethod yX4_begins, .selects RX4 yX4_begins yX4_begins, .code yX4_begins cX4_begins 2 (some .boolean), .methodLink RX4 57 yX4_isLine, .instanceMethod yX4_isLine, .selects RX4 yX4_isLine yX4_isLine, .code yX4_isLine cX4_isLine 5 (some .boolean), .methodLink RX4 64 yX4_wordsBehind, .instanceMethod yX4_wordsBehind, .selects RX4 yX4_wordsBehind yX4_wordsBehind, .code yX4_wordsBehind cX4_wordsBehind 3 (some .int), .methodLink RX4 61 yX4_digit, .instanceMethod yX4_digit, .selects RX4 yX4_digit yX4_digit, .code yX4_digit cX4_digit 2 (some .int), .methodLink RX4 53 yX4_isPlayer, .instanceMethod yX4_isPlayer, .selects RX4 yX4_isPlayer yX4_isPlayer, .code yX4_isPlayer cX4_isPlayer 3 (some .boolean)] : List Cond) ++ wsX40 ++ wsX70)
set_option maxRecDepth 20000 in
theorem gw_X4_firstFault_X4_firstWrongLetter : GoodIn vsX4_firstFault vsX4_firstWrongLetter := goodIn_r _ [5, 6, 7, 8, 9, 4, 10, 11, 12, 13, 14, 15, 16, 17, 18, 19, 20, 21, 22, 23, 50, 51] (by decide +kernel) (by decide +kernel)
set_option maxRecDepth 20000 in
theorem gv_X4_firstFault_X4_firstWrongLetter_23 : GoodIn vsX4_firstFault (wsV RX4 23 RX4 yX4_firstWrongLetter vsX4_firstWrongLetter) := goodIn_app (goodIn_of _ (by decide +kernel)) gw_X4_firstFault_X4_firstWrongLetter
set_option maxRecDepth 20000 in
theorem gw_X4_firstFault_X4_firstWrongStatement : GoodIn vsX4_firstFault vsX4_firstWrongStatement := goodIn_r _ [27, 28, 29, 6, 30, 31, 32, 4, 33, 11, 12, 13, 14, 15, 34, 35, 36, 37, 38, 39, 40, 41, 20, 21, 22, 23, 42, 43, 44, 45, 46, 47, 48, 49, 50, 51, 52, 53, 54, 55, 56, 57, 58, 59, 60, 61, 62, 63] (by decide +kernel) (by decide +kernel)
set_option maxRecDepth 20000 in
theorem gv_X4_firstFault_X4_firstWrongStatement_27 : GoodIn vsX4_firstFault (wsV RX4 27 RX4 yX4_firstWrongStatement vsX4_firstWrongStatement) := goodIn_app (goodIn_of _ (by decide +kernel)) gw_X4_firstFault_X4_firstWrongStatement
set_option maxHeartbeats 4000000 in
set_option maxRecDepth 100000 in
theorem rX4_firstFault (l : Launch) (dC : Nat → ClassId) (dI : Nat → Nat → Nat) (cI cQ : ClassId) (ha0 ha1 ha0_0 ha1_0 ha1_1 ha1_2 ha1_4 ha1_5 ha1_6 ha1_7 ha1_11 : Nat) (fa0_0 : Nat → Int32) (hBfa0_0 : ∀ k, 0 ≤ (fa0_0 k).toInt ∧ (fa0_0 k).toInt ≤ 255) (ia0_1 : Int32) (hia0_1l : 0 ≤ ia0_1.toInt) (hia0_1h : ia0_1.toInt ≤ 80) (ia1_3 : Int32) (hia1_3l : 0 ≤ ia1_3.toInt) (hia1_3h : ia1_3.toInt ≤ 5) (ia1_8 : Int32) (ia1_9 : Int32) (hia1_9l : 0 ≤ ia1_9.toInt) (hia1_9h : ia1_9.toInt ≤ 12) (ia1_10 : Int32) : Met l yX4_firstFault vsX4_firstFault ({ frames := 5, cells := 0, slots := 0, locals := 113 }) (va_Pc [.ref ha0, .ref ha1] (zRB dC dI cI cQ [(ha0_0, .inl (cI, 80, .inl fa0_0)), (ha0, .inr (4, [.ref ha0_0, .int ia0_1])), (ha1, .inr (7, [.ref ha1_0, .ref ha1_1, .ref ha1_2, .int ia1_3, .ref ha1_4, .ref ha1_5, .ref ha1_6, .ref ha1_7, .int ia1_8, .int ia1_9, .int ia1_10, .ref ha1_11]))])) (vp_Si (fun r => (-2079) ≤ r.toInt ∧ r.toInt ≤ 0)) 0 0 (fun _ => False) := by
  refine Met.ofW (cc := cX4_firstFault) (maxL := 3) (ret := (some .int)) (by decide) rfl ?_
  intro p e s m args below meth c s₁ B hml hv
  obtain ⟨rfl, hP, hZ⟩ := hv
  obtain ⟨hK, hAO, hN⟩ := id hZ
  have hx := B.exec
  have hb := B.bytes
  have hr := B.returns
  have hts := atoms_spec (ws := vsX4_firstFault) B.pre
  have hown : s.vm.findClass RX4 = some m.cls := findClass_of_methodNamed B.named
  have hlocks := B.notSynchronized
  have hl := lv_entry ([.ref ha0, .ref ha1]) (n := 3) (Nat.le_of_ble_eq_true rfl)
  rw [lg_entry_eq]
  generalize (lg_sl ([.ref ha0, .ref ha1]) ++ List.replicate (3 - (lg_sl ([.ref ha0, .ref ha1])).length) Slot.unset).toArray = ls at hl ⊢
  have hl : lv_has ls 3 [(0, .ref ha0), (1, .ref ha1)] := hl
  refine lv_aload_n hx hb dX4_firstFault_0 rfl (lv_at hl 0 rfl) ?_
  refine z_rdi (va_runV (As := []) (rest := []) ⟨hx, hb, hml, hown, hts⟩ (rX4_firstWrongLetter l dC dI cI cQ ha0 ha0_0 fa0_0 hBfa0_0 ia0_1 (by first | omega | decide | exact z_lo _ | exact z_hi _) (by first | omega | decide | exact z_lo _ | exact z_hi _)) (cwV 0 hts gv_X4_firstFault_X4_firstWrongLetter_23 rfl rfl rfl (by decide +kernel) ⟨Nat.le_of_ble_eq_true rfl, Nat.le_of_ble_eq_true rfl⟩) ⟨z_blindR, va_recv hK hP (ci := 4) (q0 := 1) rfl rfl, z_preR hZ hP [0, 1] rfl⟩ rfl rfl hl.1 rfl (lv_room (Nat.le_of_ble_eq_true rfl)) dX4_firstFault_1 ⟨Nat.le_of_ble_eq_true rfl, Nat.le_of_ble_eq_true rfl⟩) (fun y1 hy1 => ?_)
  obtain ⟨hy1_0, hy1_1⟩ := hy1
  refine lv_istore_n (lv' := [(2, .int y1), (0, .ref ha0), (1, .ref ha1)]) hx hb dX4_firstFault_4 rfl hl (by decide) rfl (fun ls hl => ?_)
  refine lv_iload_n hx hb dX4_firstFault_5 rfl (lv_at hl 0 rfl) ?_
  refine lv_bipush (v := (-9)) hx hb dX4_firstFault_6 (by decide) ?_
  refine lv_icmp_eq (tgt := 17) hx hb dX4_firstFault_8 (by decide) (fun hc => ?_) (fun hc => ?_)
  · have q2 : y1.toInt = (-9) := z_eq rfl (by decide) hc
    refine lv_aload_n hx hb dX4_firstFault_17 rfl (lv_at hl 1 rfl) ?_
    refine lv_aload_n hx hb dX4_firstFault_18 rfl (lv_at hl 2 rfl) ?_
    refine z_rdi (va_runV (As := [.ref ha1]) (rest := []) ⟨hx, hb, hml, hown, hts⟩ (rX4_firstWrongStatement l dC dI cI cQ ha0 ha1 ha0_0 ha1_0 ha1_1 ha1_2 ha1_4 ha1_5 ha1_6 ha1_7 ha1_11 fa0_0 hBfa0_0 ia0_1 (by first | omega | decide | exact z_lo _ | exact z_hi _) (by first | omega | decide | exact z_lo _ | exact z_hi _) ia1_3 (by first | omega | decide | exact z_lo _ | exact z_hi _) (by first | omega | decide | exact z_lo _ | exact z_hi _) ia1_8 ia1_9 (by first | omega | decide | exact z_lo _ | exact z_hi _) (by first | omega | decide | exact z_lo _ | exact z_hi _) ia1_10) (cwV 1 hts gv_X4_firstFault_X4_firstWrongStatement_27 rfl rfl rfl (by decide +kernel) ⟨Nat.le_of_ble_eq_true rfl, Nat.le_of_ble_eq_true rfl⟩) ⟨z_blindR, va_recv hK hP (ci := 4) (q0 := 1) rfl rfl, z_preR hZ hP [0, 1, 2] rfl⟩ rfl rfl hl.1 rfl (lv_room (Nat.le_of_ble_eq_true rfl)) dX4_firstFault_19 ⟨Nat.le_of_ble_eq_true rfl, Nat.le_of_ble_eq_true rfl⟩) (fun y3 hy3 => ?_)
    obtain ⟨hy3_0, hy3_1⟩ := hy3
    refine lv_istore_n (lv' := [(2, .int y3), (0, .ref ha0), (1, .ref ha1)]) hx hb dX4_firstFault_22 rfl hl (by decide) rfl (fun ls hl => ?_)
    refine lv_iload_n hx hb dX4_firstFault_23 rfl (lv_at hl 0 rfl) ?_
    refine lv_bipush (v := (-9)) hx hb dX4_firstFault_24 (by decide) ?_
    refine lv_icmp_ne (tgt := 33) hx hb dX4_firstFault_26 (by decide) (fun hc => ?_) (fun hc => ?_)
    · have q4 : y3.toInt ≠ (-9) := z_ne rfl (by decide) hc
      refine lv_sipush (v := (-2000)) hx hb dX4_firstFault_33 (by decide) ?_
      refine lv_iload_n hx hb dX4_firstFault_36 rfl (lv_at hl 0 rfl) ?_
      refine lv_isub hx hb dX4_firstFault_37 ?_
      refine lv_topi (fun y5 ey5 => ?_)
      have hy5 : y5.toInt = (-2000) - y3.toInt := by rw [ey5]; exact z_sub (by decide) rfl (by omega) (by omega)
      exact W.iret (v := y5) hx hb hr (fun t ht hW => ⟨y5, rfl, ⟨by first | omega | decide | exact z_lo _, by first | omega | decide | exact z_hi _⟩, ht⟩) (fun _ h => absurd h List.not_mem_nil) dX4_firstFault_38
    · have q6 : y3.toInt = (-9) := z_eq rfl (by decide) hc
      refine lv_iconst (v := 0) hx hb dX4_firstFault_29 (by decide) ?_
      refine lv_goto (tgt := 38) hx hb dX4_firstFault_30 (by decide) ?_
      exact W.iret (v := 0) hx hb hr (fun t ht hW => ⟨0, rfl, ⟨by first | omega | decide | exact z_lo _, by first | omega | decide | exact z_hi _⟩, ht⟩) (fun _ h => absurd h List.not_mem_nil) dX4_firstFault_38
  · have q7 : y1.toInt ≠ (-9) := z_ne rfl (by decide) hc
    refine lv_sipush (v := (-1000)) hx hb dX4_firstFault_11 (by decide) ?_
    refine lv_iload_n hx hb dX4_firstFault_14 rfl (lv_at hl 0 rfl) ?_
    refine lv_isub hx hb dX4_firstFault_15 ?_
    refine lv_topi (fun y8 ey8 => ?_)
    have hy8 : y8.toInt = (-1000) - y1.toInt := by rw [ey8]; exact z_sub (by decide) rfl (by omega) (by omega)
    exact W.iret (v := y8) hx hb hr (fun t ht hW => ⟨y8, rfl, ⟨by first | omega | decide | exact z_lo _, by first | omega | decide | exact z_hi _⟩, ht⟩) (fun _ h => absurd h List.not_mem_nil) dX4_firstFault_16
theorem dX7_hasPlayer_0 : decode cX7_hasPlayer 0 = .ok (.iload_n 1, 1) := by decide +kernel
theorem dX7_hasPlayer_1 : decode cX7_hasPlayer 1 = .ok (.ifCond .lt 15, 3) := by decide +kernel
theorem dX7_hasPlayer_4 : decode cX7_hasPlayer 4 = .ok (.iload_n 1, 1) := by decide +kernel
theorem dX7_hasPlayer_5 : decode cX7_hasPlayer 5 = .ok (.aload_n 0, 1) := by decide +kernel
theorem dX7_hasPlayer_6 : decode cX7_hasPlayer 6 = .ok (.getfield 24, 3) := by decide +kernel
theorem dX7_hasPlayer_9 : decode cX7_hasPlayer 9 = .ok (.if_icmp .ge 7, 3) := by decide +kernel
theorem dX7_hasPlayer_12 : decode cX7_hasPlayer 12 = .ok (.iconst 1, 1) := by decide +kernel
theorem dX7_hasPlayer_13 : decode cX7_hasPlayer 13 = .ok (.goto 4, 3) := by decide +kernel
theorem dX7_hasPlayer_16 : decode cX7_hasPlayer 16 = .ok (.iconst 0, 1) := by decide +kernel
theorem dX7_hasPlayer_17 : decode cX7_hasPlayer 17 = .ok (.ireturn, 1) := by decide +kernel
noncomputable def vsX7_hasPlayer : List Cond := .code yX7_hasPlayer cX7_hasPlayer 2 (some .boolean) :: (([.fieldLink RX7 24 "EachOnHisCue$Play" "players" "I"] : List Cond) ++ wsX70)
theorem in_X7_hasPlayer_X7 : ∀ w ∈ wsX70, w ∈ vsX7_hasPlayer := fun _ h => List.mem_cons_of_mem _ (List.mem_append_right _ h)
set_option maxHeartbeats 4000000 in
set_option maxRecDepth 100000 in
theorem rX7_hasPlayer (l : Launch) (dC : Nat → ClassId) (dI : Nat → Nat → Nat) (cI cQ : ClassId) (ha0 ha0_0 ha0_1 ha0_2 ha0_4 ha0_5 ha0_6 ha0_7 ha0_11 : Nat) (ia0_3 : Int32) (hia0_3l : 0 ≤ ia0_3.toInt) (hia0_3h : ia0_3.toInt ≤ 5) (ia0_8 : Int32) (ia0_9 : Int32) (hia0_9l : 0 ≤ ia0_9.toInt) (hia0_9h : ia0_9.toInt ≤ 12) (ia0_10 : Int32) (p1 : Int32) : Met l yX7_hasPlayer vsX7_hasPlayer ({ frames := 0, cells := 0, slots := 0, locals := 0 }) (va_Pc [.ref ha0, .int p1] (zRB dC dI cI cQ [(ha0, .inr (7, [.ref ha0_0, .ref ha0_1, .ref ha0_2, .int ia0_3, .ref ha0_4, .ref ha0_5, .ref ha0_6, .ref ha0_7, .int ia0_8, .int ia0_9, .int ia0_10, .ref ha0_11]))])) (vp_Si (fun r => 0 ≤ r.toInt ∧ r.toInt ≤ 1 ∧ (r.toInt = 1 → 0 ≤ p1.toInt ∧ p1.toInt < ia0_3.toInt))) 0 0 (fun _ => False) := by
  refine Met.ofW (cc := cX7_hasPlayer) (maxL := 2) (ret := (some .boolean)) (by decide) rfl ?_
  intro p e s m args below meth c s₁ B hml hv
  obtain ⟨rfl, hP, hZ⟩ := hv
  obtain ⟨hK, hAO, hN⟩ := id hZ
  have hx := B.exec
  have hb := B.bytes
  have hr := B.returns
  have hts := atoms_spec (ws := vsX7_hasPlayer) B.pre
  have hown : s.vm.findClass RX7 = some m.cls := findClass_of_methodNamed B.named
  have hlocks := B.notSynchronized
  have hp1l := z_lo p1
  have hp1h := z_hi p1
  have hl := lv_entry ([.ref ha0, .int p1]) (n := 2) (Nat.le_of_ble_eq_true rfl)
  rw [lg_entry_eq]
  generalize (lg_sl ([.ref ha0, .int p1]) ++ List.replicate (2 - (lg_sl ([.ref ha0, .int p1])).length) Slot.unset).toArray = ls at hl ⊢
  have hl : lv_has ls 2 [(0, .ref ha0), (1, .int p1)] := hl
  refine lv_iload_n hx hb dX7_hasPlayer_0 rfl (lv_at hl 1 rfl) ?_
  refine lv_if_lt (tgt := 16) hx hb dX7_hasPlayer_1 (by decide) (fun hc => ?_) (fun hc => ?_)
  · have q1 : p1.toInt < 0 := z_lt rfl (by decide) hc
    refine lv_iconst (v := 0) hx hb dX7_hasPlayer_16 (by decide) ?_
    exact W.zret (v := 0) hx hb hr (rfl) (fun t ht hW => ⟨0, rfl, ⟨by first | omega | decide | exact z_lo _, by first | omega | decide | exact z_hi _, by first | omega | (intro _; omega) | (intro h; exact absurd h (by decide)) | (refine ⟨?_, ?_⟩ <;> omega) | (split <;> omega)⟩, ht⟩) (fun _ h => absurd h List.not_mem_nil) dX7_hasPlayer_17
  · have q2 : 0 ≤ p1.toInt := z_nlt rfl (by decide) hc
    refine lv_iload_n hx hb dX7_hasPlayer_4 rfl (lv_at hl 1 rfl) ?_
    refine lv_aload_n hx hb dX7_hasPlayer_5 rfl (lv_at hl 0 rfl) ?_
    refine va_get (D := (dC, dI)) (ci := 7) (v := .int ia0_3) (C := RX7) (T := TX7) (N := 12) hx hb hts in_X7_hasPlayer_X7 hown hK hP 0 rfl rfl 3 (by decide) (hts (.fieldLink RX7 24 "EachOnHisCue$Play" "players" "I") (by decide +kernel)) (fun _ h9 => h9) rfl dX7_hasPlayer_6 ?_
    refine lv_icmp_ge (tgt := 16) hx hb dX7_hasPlayer_9 (by decide) (fun hc => ?_) (fun hc => ?_)
    · have q3 : ia0_3.toInt ≤ p1.toInt := z_le rfl rfl hc
      refine lv_iconst (v := 0) hx hb dX7_hasPlayer_16 (by decide) ?_
      exact W.zret (v := 0) hx hb hr (rfl) (fun t ht hW => ⟨0, rfl, ⟨by first | omega | decide | exact z_lo _, by first | omega | decide | exact z_hi _, by first | omega | (intro _; omega) | (intro h; exact absurd h (by decide)) | (refine ⟨?_, ?_⟩ <;> omega) | (split <;> omega)⟩, ht⟩) (fun _ h => absurd h List.not_mem_nil) dX7_hasPlayer_17
    · have q4 : p1.toInt < ia0_3.toInt := z_nle rfl rfl hc
      refine lv_iconst (v := 1) hx hb dX7_hasPlayer_12 (by decide) ?_
      refine lv_goto (tgt := 17) hx hb dX7_hasPlayer_13 (by decide) ?_
      exact W.zret (v := 1) hx hb hr (rfl) (fun t ht hW => ⟨1, rfl, ⟨by first | omega | decide | exact z_lo _, by first | omega | decide | exact z_hi _, by first | omega | (intro _; omega) | (intro h; exact absurd h (by decide)) | (refine ⟨?_, ?_⟩ <;> omega) | (split <;> omega)⟩, ht⟩) (fun _ h => absurd h List.not_mem_nil) dX7_hasPlayer_17
theorem dX7_hasLine_0 : decode cX7_hasLine 0 = .ok (.iload_n 1, 1) := by decide +kernel
theorem dX7_hasLine_1 : decode cX7_hasLine 1 = .ok (.ifCond .lt 15, 3) := by decide +kernel
theorem dX7_hasLine_4 : decode cX7_hasLine 4 = .ok (.iload_n 1, 1) := by decide +kernel
theorem dX7_hasLine_5 : decode cX7_hasLine 5 = .ok (.aload_n 0, 1) := by decide +kernel
theorem dX7_hasLine_6 : decode cX7_hasLine 6 = .ok (.getfield 43, 3) := by decide +kernel
theorem dX7_hasLine_9 : decode cX7_hasLine 9 = .ok (.if_icmp .ge 7, 3) := by decide +kernel
theorem dX7_hasLine_12 : decode cX7_hasLine 12 = .ok (.iconst 1, 1) := by decide +kernel
theorem dX7_hasLine_13 : decode cX7_hasLine 13 = .ok (.goto 4, 3) := by decide +kernel
theorem dX7_hasLine_16 : decode cX7_hasLine 16 = .ok (.iconst 0, 1) := by decide +kernel
theorem dX7_hasLine_17 : decode cX7_hasLine 17 = .ok (.ireturn, 1) := by decide +kernel
noncomputable def vsX7_hasLine : List Cond := .code yX7_hasLine cX7_hasLine 2 (some .boolean) :: (([.fieldLink RX7 43 "EachOnHisCue$Play" "lines" "I"] : List Cond) ++ wsX70)
theorem in_X7_hasLine_X7 : ∀ w ∈ wsX70, w ∈ vsX7_hasLine := fun _ h => List.mem_cons_of_mem _ (List.mem_append_right _ h)
set_option maxHeartbeats 4000000 in
set_option maxRecDepth 100000 in
theorem rX7_hasLine (l : Launch) (dC : Nat → ClassId) (dI : Nat → Nat → Nat) (cI cQ : ClassId) (ha0 ha0_0 ha0_1 ha0_2 ha0_4 ha0_5 ha0_6 ha0_7 ha0_11 : Nat) (ia0_3 : Int32) (hia0_3l : 0 ≤ ia0_3.toInt) (hia0_3h : ia0_3.toInt ≤ 5) (ia0_8 : Int32) (ia0_9 : Int32) (hia0_9l : 0 ≤ ia0_9.toInt) (hia0_9h : ia0_9.toInt ≤ 12) (ia0_10 : Int32) (p1 : Int32) : Met l yX7_hasLine vsX7_hasLine ({ frames := 0, cells := 0, slots := 0, locals := 0 }) (va_Pc [.ref ha0, .int p1] (zRB dC dI cI cQ [(ha0, .inr (7, [.ref ha0_0, .ref ha0_1, .ref ha0_2, .int ia0_3, .ref ha0_4, .ref ha0_5, .ref ha0_6, .ref ha0_7, .int ia0_8, .int ia0_9, .int ia0_10, .ref ha0_11]))])) (vp_Si (fun r => 0 ≤ r.toInt ∧ r.toInt ≤ 1 ∧ (r.toInt = 1 → 0 ≤ p1.toInt ∧ p1.toInt < ia0_9.toInt))) 0 0 (fun _ => False) := by
  refine Met.ofW (cc := cX7_hasLine) (maxL := 2) (ret := (some .boolean)) (by decide) rfl ?_
  intro p e s m args below meth c s₁ B hml hv
  obtain ⟨rfl, hP, hZ⟩ := hv
  obtain ⟨hK, hAO, hN⟩ := id hZ
  have hx := B.exec
  have hb := B.bytes
  have hr := B.returns
  have hts := atoms_spec (ws := vsX7_hasLine) B.pre
  have hown : s.vm.findClass RX7 = some m.cls := findClass_of_methodNamed B.named
  have hlocks := B.notSynchronized
  have hp1l := z_lo p1
  have hp1h := z_hi p1
  have hl := lv_entry ([.ref ha0, .int p1]) (n := 2) (Nat.le_of_ble_eq_true rfl)
  rw [lg_entry_eq]
  generalize (lg_sl ([.ref ha0, .int p1]) ++ List.replicate (2 - (lg_sl ([.ref ha0, .int p1])).length) Slot.unset).toArray = ls at hl ⊢
  have hl : lv_has ls 2 [(0, .ref ha0), (1, .int p1)] := hl
  refine lv_iload_n hx hb dX7_hasLine_0 rfl (lv_at hl 1 rfl) ?_
  refine lv_if_lt (tgt := 16) hx hb dX7_hasLine_1 (by decide) (fun hc => ?_) (fun hc => ?_)
  · have q1 : p1.toInt < 0 := z_lt rfl (by decide) hc
    refine lv_iconst (v := 0) hx hb dX7_hasLine_16 (by decide) ?_
    exact W.zret (v := 0) hx hb hr (rfl) (fun t ht hW => ⟨0, rfl, ⟨by first | omega | decide | exact z_lo _, by first | omega | decide | exact z_hi _, by first | omega | (intro _; omega) | (intro h; exact absurd h (by decide)) | (refine ⟨?_, ?_⟩ <;> omega) | (split <;> omega)⟩, ht⟩) (fun _ h => absurd h List.not_mem_nil) dX7_hasLine_17
  · have q2 : 0 ≤ p1.toInt := z_nlt rfl (by decide) hc
    refine lv_iload_n hx hb dX7_hasLine_4 rfl (lv_at hl 1 rfl) ?_
    refine lv_aload_n hx hb dX7_hasLine_5 rfl (lv_at hl 0 rfl) ?_
    refine va_get (D := (dC, dI)) (ci := 7) (v := .int ia0_9) (C := RX7) (T := TX7) (N := 12) hx hb hts in_X7_hasLine_X7 hown hK hP 0 rfl rfl 9 (by decide) (hts (.fieldLink RX7 43 "EachOnHisCue$Play" "lines" "I") (by decide +kernel)) (fun _ h9 => h9) rfl dX7_hasLine_6 ?_
    refine lv_icmp_ge (tgt := 16) hx hb dX7_hasLine_9 (by decide) (fun hc => ?_) (fun hc => ?_)
    · have q3 : ia0_9.toInt ≤ p1.toInt := z_le rfl rfl hc
      refine lv_iconst (v := 0) hx hb dX7_hasLine_16 (by decide) ?_
      exact W.zret (v := 0) hx hb hr (rfl) (fun t ht hW => ⟨0, rfl, ⟨by first | omega | decide | exact z_lo _, by first | omega | decide | exact z_hi _, by first | omega | (intro _; omega) | (intro h; exact absurd h (by decide)) | (refine ⟨?_, ?_⟩ <;> omega) | (split <;> omega)⟩, ht⟩) (fun _ h => absurd h List.not_mem_nil) dX7_hasLine_17
    · have q4 : p1.toInt < ia0_9.toInt := z_nle rfl rfl hc
      refine lv_iconst (v := 1) hx hb dX7_hasLine_12 (by decide) ?_
      refine lv_goto (tgt := 17) hx hb dX7_hasLine_13 (by decide) ?_
      exact W.zret (v := 1) hx hb hr (rfl) (fun t ht hW => ⟨1, rfl, ⟨by first | omega | decide | exact z_lo _, by first | omega | decide | exact z_hi _, by first | omega | (intro _; omega) | (intro h; exact absurd h (by decide)) | (refine ⟨?_, ?_⟩ <;> omega) | (split <;> omega)⟩, ht⟩) (fun _ h => absurd h List.not_mem_nil) dX7_hasLine_17
theorem dX7_endsAsAhead_0 : decode cX7_endsAsAhead 0 = .ok (.iload_n 3, 1) := by decide +kernel
theorem dX7_endsAsAhead_1 : decode cX7_endsAsAhead 1 = .ok (.iconst 1, 1) := by decide +kernel
theorem dX7_endsAsAhead_2 : decode cX7_endsAsAhead 2 = .ok (.if_icmp .lt 11, 3) := by decide +kernel
theorem dX7_endsAsAhead_5 : decode cX7_endsAsAhead 5 = .ok (.iload_n 3, 1) := by decide +kernel
theorem dX7_endsAsAhead_6 : decode cX7_endsAsAhead 6 = .ok (.aload_n 0, 1) := by decide +kernel
theorem dX7_endsAsAhead_7 : decode cX7_endsAsAhead 7 = .ok (.getfield 43, 3) := by decide +kernel
theorem dX7_endsAsAhead_10 : decode cX7_endsAsAhead 10 = .ok (.if_icmp .lt 5, 3) := by decide +kernel
theorem dX7_endsAsAhead_13 : decode cX7_endsAsAhead 13 = .ok (.iconst 0, 1) := by decide +kernel
theorem dX7_endsAsAhead_14 : decode cX7_endsAsAhead 14 = .ok (.ireturn, 1) := by decide +kernel
theorem dX7_endsAsAhead_15 : decode cX7_endsAsAhead 15 = .ok (.iload 4, 2) := by decide +kernel
theorem dX7_endsAsAhead_17 : decode cX7_endsAsAhead 17 = .ok (.aload_n 0, 1) := by decide +kernel
theorem dX7_endsAsAhead_18 : decode cX7_endsAsAhead 18 = .ok (.getfield 34, 3) := by decide +kernel
theorem dX7_endsAsAhead_21 : decode cX7_endsAsAhead 21 = .ok (.iload_n 3, 1) := by decide +kernel
theorem dX7_endsAsAhead_22 : decode cX7_endsAsAhead 22 = .ok (.iconst 1, 1) := by decide +kernel
theorem dX7_endsAsAhead_23 : decode cX7_endsAsAhead 23 = .ok (.isub, 1) := by decide +kernel
theorem dX7_endsAsAhead_24 : decode cX7_endsAsAhead 24 = .ok (.iaload, 1) := by decide +kernel
theorem dX7_endsAsAhead_25 : decode cX7_endsAsAhead 25 = .ok (.invokestatic 91, 3) := by decide +kernel
theorem dX7_endsAsAhead_28 : decode cX7_endsAsAhead 28 = .ok (.istore 5, 2) := by decide +kernel
theorem dX7_endsAsAhead_30 : decode cX7_endsAsAhead 30 = .ok (.iconst 1, 1) := by decide +kernel
theorem dX7_endsAsAhead_31 : decode cX7_endsAsAhead 31 = .ok (.iconst 5, 1) := by decide +kernel
theorem dX7_endsAsAhead_32 : decode cX7_endsAsAhead 32 = .ok (.iload 5, 2) := by decide +kernel
theorem dX7_endsAsAhead_34 : decode cX7_endsAsAhead 34 = .ok (.imul, 1) := by decide +kernel
theorem dX7_endsAsAhead_35 : decode cX7_endsAsAhead 35 = .ok (.ishl, 1) := by decide +kernel
theorem dX7_endsAsAhead_36 : decode cX7_endsAsAhead 36 = .ok (.iconst 1, 1) := by decide +kernel
theorem dX7_endsAsAhead_37 : decode cX7_endsAsAhead 37 = .ok (.isub, 1) := by decide +kernel
theorem dX7_endsAsAhead_38 : decode cX7_endsAsAhead 38 = .ok (.istore 6, 2) := by decide +kernel
theorem dX7_endsAsAhead_40 : decode cX7_endsAsAhead 40 = .ok (.iload_n 2, 1) := by decide +kernel
theorem dX7_endsAsAhead_41 : decode cX7_endsAsAhead 41 = .ok (.iload 5, 2) := by decide +kernel
theorem dX7_endsAsAhead_43 : decode cX7_endsAsAhead 43 = .ok (.if_icmp .lt 25, 3) := by decide +kernel
theorem dX7_endsAsAhead_46 : decode cX7_endsAsAhead 46 = .ok (.iload_n 1, 1) := by decide +kernel
theorem dX7_endsAsAhead_47 : decode cX7_endsAsAhead 47 = .ok (.iload 6, 2) := by decide +kernel
theorem dX7_endsAsAhead_49 : decode cX7_endsAsAhead 49 = .ok (.iand, 1) := by decide +kernel
theorem dX7_endsAsAhead_50 : decode cX7_endsAsAhead 50 = .ok (.aload_n 0, 1) := by decide +kernel
theorem dX7_endsAsAhead_51 : decode cX7_endsAsAhead 51 = .ok (.getfield 31, 3) := by decide +kernel
theorem dX7_endsAsAhead_54 : decode cX7_endsAsAhead 54 = .ok (.iload_n 3, 1) := by decide +kernel
theorem dX7_endsAsAhead_55 : decode cX7_endsAsAhead 55 = .ok (.iconst 1, 1) := by decide +kernel
theorem dX7_endsAsAhead_56 : decode cX7_endsAsAhead 56 = .ok (.isub, 1) := by decide +kernel
theorem dX7_endsAsAhead_57 : decode cX7_endsAsAhead 57 = .ok (.iaload, 1) := by decide +kernel
theorem dX7_endsAsAhead_58 : decode cX7_endsAsAhead 58 = .ok (.iload 6, 2) := by decide +kernel
theorem dX7_endsAsAhead_60 : decode cX7_endsAsAhead 60 = .ok (.iand, 1) := by decide +kernel
theorem dX7_endsAsAhead_61 : decode cX7_endsAsAhead 61 = .ok (.if_icmp .ne 7, 3) := by decide +kernel
theorem dX7_endsAsAhead_64 : decode cX7_endsAsAhead 64 = .ok (.iconst 1, 1) := by decide +kernel
theorem dX7_endsAsAhead_65 : decode cX7_endsAsAhead 65 = .ok (.goto 4, 3) := by decide +kernel
theorem dX7_endsAsAhead_68 : decode cX7_endsAsAhead 68 = .ok (.iconst 0, 1) := by decide +kernel
theorem dX7_endsAsAhead_69 : decode cX7_endsAsAhead 69 = .ok (.ireturn, 1) := by decide +kernel
noncomputable def vsX7_endsAsAhead : List Cond := .code yX7_endsAsAhead cX7_endsAsAhead 7 (some .boolean) :: (([.fieldLink RX7 43 "EachOnHisCue$Play" "lines" "I", .fieldLink RX7 34 "EachOnHisCue$Play" "sizes" "[I", .methodLink RX7 91 Lib.Math.min.name, .static Lib.Math.min.name, .initialized "java/lang/Math", .code Lib.Math.min.name Lib.Math.min.code 2 (some .int), .fieldLink RX7 31 "EachOnHisCue$Play" "texts" "[I"] : List Cond) ++ wsX70)
theorem in_X7_endsAsAhead_X7 : ∀ w ∈ wsX70, w ∈ vsX7_endsAsAhead := fun _ h => List.mem_cons_of_mem _ (List.mem_append_right _ h)
set_option maxHeartbeats 4000000 in
set_option maxRecDepth 100000 in
theorem rX7_endsAsAhead (l : Launch) (dC : Nat → ClassId) (dI : Nat → Nat → Nat) (cI cQ : ClassId) (ha0 ha0_5 ha0_6 ha0_0 ha0_1 ha0_2 ha0_4 ha0_7 ha0_11 : Nat) (fa0_5 : Nat → Int32) (fa0_6 : Nat → Int32) (hBfa0_6 : ∀ k, 0 ≤ (fa0_6 k).toInt ∧ (fa0_6 k).toInt ≤ 4) (ia0_3 : Int32) (hia0_3l : 0 ≤ ia0_3.toInt) (hia0_3h : ia0_3.toInt ≤ 5) (ia0_8 : Int32) (ia0_9 : Int32) (hia0_9l : 0 ≤ ia0_9.toInt) (hia0_9h : ia0_9.toInt ≤ 12) (ia0_10 : Int32) (p1 : Int32) (p2 : Int32) (p3 : Int32) (p4 : Int32) : Met l yX7_endsAsAhead vsX7_endsAsAhead ({ frames := 1, cells := 0, slots := 0, locals := 21 }) (va_Pc [.ref ha0, .int p1, .int p2, .int p3, .int p4] (zRB dC dI cI cQ [(ha0_5, .inl (cI, 12, .inl fa0_5)), (ha0_6, .inl (cI, 12, .inl fa0_6)), (ha0, .inr (7, [.ref ha0_0, .ref ha0_1, .ref ha0_2, .int ia0_3, .ref ha0_4, .ref ha0_5, .ref ha0_6, .ref ha0_7, .int ia0_8, .int ia0_9, .int ia0_10, .ref ha0_11]))])) (vp_Si (fun r => 0 ≤ r.toInt ∧ r.toInt ≤ 1)) 0 0 (fun _ => False) := by
  refine Met.ofW (cc := cX7_endsAsAhead) (maxL := 7) (ret := (some .boolean)) (by decide) rfl ?_
  intro p e s m args below meth c s₁ B hml hv
  obtain ⟨rfl, hP, hZ⟩ := hv
  obtain ⟨hK, hAO, hN⟩ := id hZ
  have hx := B.exec
  have hb := B.bytes
  have hr := B.returns
  have hts := atoms_spec (ws := vsX7_endsAsAhead) B.pre
  have hown : s.vm.findClass RX7 = some m.cls := findClass_of_methodNamed B.named
  have hlocks := B.notSynchronized
  have hp1l := z_lo p1
  have hp1h := z_hi p1
  have hp2l := z_lo p2
  have hp2h := z_hi p2
  have hp3l := z_lo p3
  have hp3h := z_hi p3
  have hp4l := z_lo p4
  have hp4h := z_hi p4
  have hl := lv_entry ([.ref ha0, .int p1, .int p2, .int p3, .int p4]) (n := 7) (Nat.le_of_ble_eq_true rfl)
  rw [lg_entry_eq]
  generalize (lg_sl ([.ref ha0, .int p1, .int p2, .int p3, .int p4]) ++ List.replicate (7 - (lg_sl ([.ref ha0, .int p1, .int p2, .int p3, .int p4])).length) Slot.unset).toArray = ls at hl ⊢
  have hl : lv_has ls 7 [(0, .ref ha0), (1, .int p1), (2, .int p2), (3, .int p3), (4, .int p4)] := hl
  refine lv_iload_n hx hb dX7_endsAsAhead_0 rfl (lv_at hl 3 rfl) ?_
  refine lv_iconst (v := 1) hx hb dX7_endsAsAhead_1 (by decide) ?_
  refine lv_icmp_lt (tgt := 13) hx hb dX7_endsAsAhead_2 (by decide) (fun hc => ?_) (fun hc => ?_)
  · have q1 : p3.toInt < 1 := z_lt rfl (by decide) hc
    refine lv_iconst (v := 0) hx hb dX7_endsAsAhead_13 (by decide) ?_
    exact W.zret (v := 0) hx hb hr (rfl) (fun t ht hW => ⟨0, rfl, ⟨by first | omega | decide | exact z_lo _, by first | omega | decide | exact z_hi _⟩, ht⟩) (fun _ h => absurd h List.not_mem_nil) dX7_endsAsAhead_14
  · have q2 : 1 ≤ p3.toInt := z_nlt rfl (by decide) hc
    refine lv_iload_n hx hb dX7_endsAsAhead_5 rfl (lv_at hl 3 rfl) ?_
    refine lv_aload_n hx hb dX7_endsAsAhead_6 rfl (lv_at hl 0 rfl) ?_
    refine va_get (D := (dC, dI)) (ci := 7) (v := .int ia0_9) (C := RX7) (T := TX7) (N := 12) hx hb hts in_X7_endsAsAhead_X7 hown hK hP 2 rfl rfl 9 (by decide) (hts (.fieldLink RX7 43 "EachOnHisCue$Play" "lines" "I") (by decide +kernel)) (fun _ h9 => h9) rfl dX7_endsAsAhead_7 ?_
    refine lv_icmp_lt (tgt := 15) hx hb dX7_endsAsAhead_10 (by decide) (fun hc => ?_) (fun hc => ?_)
    · have q3 : p3.toInt < ia0_9.toInt := z_lt rfl rfl hc
      refine lv_iload hx hb dX7_endsAsAhead_15 (lv_at hl 4 rfl) ?_
      refine lv_aload_n hx hb dX7_endsAsAhead_17 rfl (lv_at hl 0 rfl) ?_
      refine va_get (D := (dC, dI)) (ci := 7) (v := .ref ha0_6) (C := RX7) (T := TX7) (N := 12) hx hb hts in_X7_endsAsAhead_X7 hown hK hP 2 rfl rfl 6 (by decide) (hts (.fieldLink RX7 34 "EachOnHisCue$Play" "sizes" "[I") (by decide +kernel)) (fun _ h9 => h9) rfl dX7_endsAsAhead_18 ?_
      refine lv_iload_n hx hb dX7_endsAsAhead_21 rfl (lv_at hl 3 rfl) ?_
      refine lv_iconst (v := 1) hx hb dX7_endsAsAhead_22 (by decide) ?_
      refine lv_isub hx hb dX7_endsAsAhead_23 ?_
      refine lv_topi (fun y4 ey4 => ?_)
      have hy4 : y4.toInt = p3.toInt - 1 := by rw [ey4]; exact z_sub rfl (by decide) (by omega) (by omega)
      refine va_iald hx hb hK hP 1 0 rfl rfl (z_in (by omega) (by omega)) dX7_endsAsAhead_24 ?_
      refine lv_topi (fun y5 ey5 => ?_)
      have gy5 : y5.toInt = (fa0_6 (y4 : Int32).toNatClampNeg).toInt := by rw [ey5]
      have hy5 : 0 ≤ y5.toInt ∧ y5.toInt ≤ 4 := by rw [ey5]; exact hBfa0_6 _
      obtain ⟨hy5, hy5_⟩ := hy5
      refine va_mmin hx hb (hml.trans hl.1.symm) hown (hts (.methodLink RX7 91 Lib.Math.min.name) (by decide +kernel)) (hts (.static Lib.Math.min.name) (by decide +kernel)) (hts (.initialized "java/lang/Math") (by decide +kernel)) (hts (.code Lib.Math.min.name Lib.Math.min.code 2 (some .int)) (by decide +kernel)) (Nat.le_of_ble_eq_true rfl) (Nat.le_of_ble_eq_true rfl) (Nat.le_of_ble_eq_true rfl) (Nat.le_of_ble_eq_true rfl) dX7_endsAsAhead_25 ?_
      refine lv_topi (fun y6 ey6 => ?_)
      obtain ⟨hy6_0, hy6_1, hy6_2⟩ : y6.toInt ≤ p4.toInt ∧ y6.toInt ≤ y5.toInt ∧ (y6.toInt = p4.toInt ∨ y6.toInt = y5.toInt) := by rw [ey6]; exact z_min rfl rfl
      refine lv_istore (lv' := [(5, .int y6), (0, .ref ha0), (1, .int p1), (2, .int p2), (3, .int p3), (4, .int p4)]) hx hb dX7_endsAsAhead_28 hl (by decide) rfl (fun ls hl => ?_)
      refine lv_iconst (v := 1) hx hb dX7_endsAsAhead_30 (by decide) ?_
      refine lv_iconst (v := 5) hx hb dX7_endsAsAhead_31 (by decide) ?_
      refine lv_iload hx hb dX7_endsAsAhead_32 (lv_at hl 0 rfl) ?_
      refine lv_imul hx hb dX7_endsAsAhead_34 ?_
      refine lv_topi (fun y7 ey7 => ?_)
      refine lv_ishl hx hb dX7_endsAsAhead_35 ?_
      refine lv_topi (fun y8 ey8 => ?_)
      refine lv_iconst (v := 1) hx hb dX7_endsAsAhead_36 (by decide) ?_
      refine lv_isub hx hb dX7_endsAsAhead_37 ?_
      refine lv_topi (fun y9 ey9 => ?_)
      refine lv_istore (lv' := [(6, .int y9), (5, .int y6), (0, .ref ha0), (1, .int p1), (2, .int p2), (3, .int p3), (4, .int p4)]) hx hb dX7_endsAsAhead_38 hl (by decide) rfl (fun ls hl => ?_)
      refine lv_iload_n hx hb dX7_endsAsAhead_40 rfl (lv_at hl 4 rfl) ?_
      refine lv_iload hx hb dX7_endsAsAhead_41 (lv_at hl 1 rfl) ?_
      refine lv_icmp_lt (tgt := 68) hx hb dX7_endsAsAhead_43 (by decide) (fun hc => ?_) (fun hc => ?_)
      · have q10 : p2.toInt < y6.toInt := z_lt rfl rfl hc
        refine lv_iconst (v := 0) hx hb dX7_endsAsAhead_68 (by decide) ?_
        exact W.zret (v := 0) hx hb hr (rfl) (fun t ht hW => ⟨0, rfl, ⟨by first | omega | decide | exact z_lo _, by first | omega | decide | exact z_hi _⟩, ht⟩) (fun _ h => absurd h List.not_mem_nil) dX7_endsAsAhead_69
      · have q11 : y6.toInt ≤ p2.toInt := z_nlt rfl rfl hc
        refine lv_iload_n hx hb dX7_endsAsAhead_46 rfl (lv_at hl 3 rfl) ?_
        refine lv_iload hx hb dX7_endsAsAhead_47 (lv_at hl 0 rfl) ?_
        refine lv_iand hx hb dX7_endsAsAhead_49 ?_
        refine lv_topi (fun y12 ey12 => ?_)
        refine lv_aload_n hx hb dX7_endsAsAhead_50 rfl (lv_at hl 2 rfl) ?_
        refine va_get (D := (dC, dI)) (ci := 7) (v := .ref ha0_5) (C := RX7) (T := TX7) (N := 12) hx hb hts in_X7_endsAsAhead_X7 hown hK hP 2 rfl rfl 5 (by decide) (hts (.fieldLink RX7 31 "EachOnHisCue$Play" "texts" "[I") (by decide +kernel)) (fun _ h9 => h9) rfl dX7_endsAsAhead_51 ?_
        refine lv_iload_n hx hb dX7_endsAsAhead_54 rfl (lv_at hl 5 rfl) ?_
        refine lv_iconst (v := 1) hx hb dX7_endsAsAhead_55 (by decide) ?_
        refine lv_isub hx hb dX7_endsAsAhead_56 ?_
        refine lv_topi (fun y13 ey13 => ?_)
        obtain rfl : y4 = y13 := ey4.trans ey13.symm
        refine va_iald hx hb hK hP 0 0 rfl rfl (z_in (by omega) (by omega)) dX7_endsAsAhead_57 ?_
        refine lv_topi (fun y14 ey14 => ?_)
        have gy14 : y14.toInt = (fa0_5 (y4 : Int32).toNatClampNeg).toInt := by rw [ey14]
        refine lv_iload hx hb dX7_endsAsAhead_58 (lv_at hl 0 rfl) ?_
        refine lv_iand hx hb dX7_endsAsAhead_60 ?_
        refine lv_topi (fun y15 ey15 => ?_)
        refine lv_icmp_ne (tgt := 68) hx hb dX7_endsAsAhead_61 (by decide) (fun hc => ?_) (fun hc => ?_)
        · have q16 : y12.toInt ≠ y15.toInt := z_ne rfl rfl hc
          refine lv_iconst (v := 0) hx hb dX7_endsAsAhead_68 (by decide) ?_
          exact W.zret (v := 0) hx hb hr (rfl) (fun t ht hW => ⟨0, rfl, ⟨by first | omega | decide | exact z_lo _, by first | omega | decide | exact z_hi _⟩, ht⟩) (fun _ h => absurd h List.not_mem_nil) dX7_endsAsAhead_69
        · have q17 : y12.toInt = y15.toInt := z_eq rfl rfl hc
          refine lv_iconst (v := 1) hx hb dX7_endsAsAhead_64 (by decide) ?_
          refine lv_goto (tgt := 69) hx hb dX7_endsAsAhead_65 (by decide) ?_
          exact W.zret (v := 1) hx hb hr (rfl) (fun t ht hW => ⟨1, rfl, ⟨by first | omega | decide | exact z_lo _, by first | omega | decide | exact z_hi _⟩, ht⟩) (fun _ h => absurd h List.not_mem_nil) dX7_endsAsAhead_69
    · have q18 : ia0_9.toInt ≤ p3.toInt := z_nlt rfl rfl hc
      refine lv_iconst (v := 0) hx hb dX7_endsAsAhead_13 (by decide) ?_
      exact W.zret (v := 0) hx hb hr (rfl) (fun t ht hW => ⟨0, rfl, ⟨by first | omega | decide | exact z_lo _, by first | omega | decide | exact z_hi _⟩, ht⟩) (fun _ h => absurd h List.not_mem_nil) dX7_endsAsAhead_14
theorem dX7_isCuedByAheadAlone_0 : decode cX7_isCuedByAheadAlone 0 = .ok (.iconst 0, 1) := by decide +kernel
theorem dX7_isCuedByAheadAlone_1 : decode cX7_isCuedByAheadAlone 1 = .ok (.istore_n 3, 1) := by decide +kernel
theorem dX7_isCuedByAheadAlone_2 : decode cX7_isCuedByAheadAlone 2 = .ok (.iload_n 3, 1) := by decide +kernel
theorem dX7_isCuedByAheadAlone_3 : decode cX7_isCuedByAheadAlone 3 = .ok (.aload_n 0, 1) := by decide +kernel
theorem dX7_isCuedByAheadAlone_4 : decode cX7_isCuedByAheadAlone 4 = .ok (.getfield 43, 3) := by decide +kernel
theorem dX7_isCuedByAheadAlone_7 : decode cX7_isCuedByAheadAlone 7 = .ok (.if_icmp .ge 39, 3) := by decide +kernel
theorem dX7_isCuedByAheadAlone_10 : decode cX7_isCuedByAheadAlone 10 = .ok (.iload_n 3, 1) := by decide +kernel
theorem dX7_isCuedByAheadAlone_11 : decode cX7_isCuedByAheadAlone 11 = .ok (.iload_n 1, 1) := by decide +kernel
theorem dX7_isCuedByAheadAlone_12 : decode cX7_isCuedByAheadAlone 12 = .ok (.iconst 1, 1) := by decide +kernel
theorem dX7_isCuedByAheadAlone_13 : decode cX7_isCuedByAheadAlone 13 = .ok (.isub, 1) := by decide +kernel
theorem dX7_isCuedByAheadAlone_14 : decode cX7_isCuedByAheadAlone 14 = .ok (.if_icmp .eq 26, 3) := by decide +kernel
theorem dX7_isCuedByAheadAlone_17 : decode cX7_isCuedByAheadAlone 17 = .ok (.aload_n 0, 1) := by decide +kernel
theorem dX7_isCuedByAheadAlone_18 : decode cX7_isCuedByAheadAlone 18 = .ok (.aload_n 0, 1) := by decide +kernel
theorem dX7_isCuedByAheadAlone_19 : decode cX7_isCuedByAheadAlone 19 = .ok (.getfield 31, 3) := by decide +kernel
theorem dX7_isCuedByAheadAlone_22 : decode cX7_isCuedByAheadAlone 22 = .ok (.iload_n 3, 1) := by decide +kernel
theorem dX7_isCuedByAheadAlone_23 : decode cX7_isCuedByAheadAlone 23 = .ok (.iaload, 1) := by decide +kernel
theorem dX7_isCuedByAheadAlone_24 : decode cX7_isCuedByAheadAlone 24 = .ok (.aload_n 0, 1) := by decide +kernel
theorem dX7_isCuedByAheadAlone_25 : decode cX7_isCuedByAheadAlone 25 = .ok (.getfield 34, 3) := by decide +kernel
theorem dX7_isCuedByAheadAlone_28 : decode cX7_isCuedByAheadAlone 28 = .ok (.iload_n 3, 1) := by decide +kernel
theorem dX7_isCuedByAheadAlone_29 : decode cX7_isCuedByAheadAlone 29 = .ok (.iaload, 1) := by decide +kernel
theorem dX7_isCuedByAheadAlone_30 : decode cX7_isCuedByAheadAlone 30 = .ok (.iload_n 1, 1) := by decide +kernel
theorem dX7_isCuedByAheadAlone_31 : decode cX7_isCuedByAheadAlone 31 = .ok (.iload_n 2, 1) := by decide +kernel
theorem dX7_isCuedByAheadAlone_32 : decode cX7_isCuedByAheadAlone 32 = .ok (.invokevirtual 99, 3) := by decide +kernel
theorem dX7_isCuedByAheadAlone_35 : decode cX7_isCuedByAheadAlone 35 = .ok (.ifCond .eq 5, 3) := by decide +kernel
theorem dX7_isCuedByAheadAlone_38 : decode cX7_isCuedByAheadAlone 38 = .ok (.iconst 0, 1) := by decide +kernel
theorem dX7_isCuedByAheadAlone_39 : decode cX7_isCuedByAheadAlone 39 = .ok (.ireturn, 1) := by decide +kernel
theorem dX7_isCuedByAheadAlone_40 : decode cX7_isCuedByAheadAlone 40 = .ok (.iinc 3 1, 3) := by decide +kernel
theorem dX7_isCuedByAheadAlone_43 : decode cX7_isCuedByAheadAlone 43 = .ok (.goto (-41), 3) := by decide +kernel
theorem dX7_isCuedByAheadAlone_46 : decode cX7_isCuedByAheadAlone 46 = .ok (.iconst 1, 1) := by decide +kernel
theorem dX7_isCuedByAheadAlone_47 : decode cX7_isCuedByAheadAlone 47 = .ok (.ireturn, 1) := by decide +kernel
noncomputable def vsX7_isCuedByAheadAlone : List Cond := .code yX7_isCuedByAheadAlone cX7_isCuedByAheadAlone 4 (some .boolean) :: (([.fieldLink RX7 43 "EachOnHisCue$Play" "lines" "I", .fieldLink RX7 31 "EachOnHisCue$Play" "texts" "[I", .fieldLink RX7 34 "EachOnHisCue$Play" "sizes" "[I", .methodLink RX7 99 yX7_endsAsAhead, .instanceMethod yX7_endsAsAhead, .selects RX7 yX7_endsAsAhead yX7_endsAsAhead, .initialized RX7, .code yX7_endsAsAhead cX7_endsAsAhead 7 (some .boolean), .methodLink RX7 91 Lib.Math.min.name, .static Lib.Math.min.name, .initialized "java/lang/Math", .code Lib.Math.min.name Lib.Math.min.code 2 (some .int)] : List Cond) ++ wsX70)
theorem in_X7_isCuedByAheadAlone_X7 : ∀ w ∈ wsX70, w ∈ vsX7_isCuedByAheadAlone := fun _ h => List.mem_cons_of_mem _ (List.mem_append_right _ h)
set_option maxRecDepth 20000 in
theorem gw_X7_isCuedByAheadAlone_X7_endsAsAhead : GoodIn vsX7_isCuedByAheadAlone vsX7_endsAsAhead := goodIn_r _ [8, 1, 3, 9, 10, 11, 12, 2, 13, 14, 15, 16, 17, 18, 19, 20, 21, 22, 23, 24] (by decide +kernel) (by decide +kernel)
set_option maxRecDepth 20000 in
theorem gv_X7_isCuedByAheadAlone_X7_endsAsAhead_99 : GoodIn vsX7_isCuedByAheadAlone (wsV RX7 99 RX7 yX7_endsAsAhead vsX7_endsAsAhead) := goodIn_app (goodIn_of _ (by decide +kernel)) gw_X7_isCuedByAheadAlone_X7_endsAsAhead
set_option maxHeartbeats 4000000 in
set_option maxRecDepth 100000 in
theorem rX7_isCuedByAheadAlone (l : Launch) (dC : Nat → ClassId) (dI : Nat → Nat → Nat) (cI cQ : ClassId) (ha0 ha0_5 ha0_6 ha0_0 ha0_1 ha0_2 ha0_4 ha0_7 ha0_11 : Nat) (fa0_5 : Nat → Int32) (fa0_6 : Nat → Int32) (hBfa0_6 : ∀ k, 0 ≤ (fa0_6 k).toInt ∧ (fa0_6 k).toInt ≤ 4) (ia0_3 : Int32) (hia0_3l : 0 ≤ ia0_3.toInt) (hia0_3h : ia0_3.toInt ≤ 5) (ia0_8 : Int32) (ia0_9 : Int32) (hia0_9l : 0 ≤ ia0_9.toInt) (hia0_9h : ia0_9.toInt ≤ 12) (ia0_10 : Int32) (p1 : Int32) (p2 : Int32) : Met l yX7_isCuedByAheadAlone vsX7_isCuedByAheadAlone ({ frames := 2, cells := 0, slots := 0, locals := 47 }) (va_Pc [.ref ha0, .int p1, .int p2] (zRB dC dI cI cQ [(ha0_5, .inl (cI, 12, .inl fa0_5)), (ha0_6, .inl (cI, 12, .inl fa0_6)), (ha0, .inr (7, [.ref ha0_0, .ref ha0_1, .ref ha0_2, .int ia0_3, .ref ha0_4, .ref ha0_5, .ref ha0_6, .ref ha0_7, .int ia0_8, .int ia0_9, .int ia0_10, .ref ha0_11]))])) (vp_Si (fun r => 0 ≤ r.toInt ∧ r.toInt ≤ 1)) 0 0 (fun _ => False) := by
  refine Met.ofW (cc := cX7_isCuedByAheadAlone) (maxL := 4) (ret := (some .boolean)) (by decide) rfl ?_
  intro p e s m args below meth c s₁ B hml hv
  obtain ⟨rfl, hP, hZ⟩ := hv
  obtain ⟨hK, hAO, hN⟩ := id hZ
  have hx := B.exec
  have hb := B.bytes
  have hr := B.returns
  have hts := atoms_spec (ws := vsX7_isCuedByAheadAlone) B.pre
  have hown : s.vm.findClass RX7 = some m.cls := findClass_of_methodNamed B.named
  have hlocks := B.notSynchronized
  have hp1l := z_lo p1
  have hp1h := z_hi p1
  have hp2l := z_lo p2
  have hp2h := z_hi p2
  have hl := lv_entry ([.ref ha0, .int p1, .int p2]) (n := 4) (Nat.le_of_ble_eq_true rfl)
  rw [lg_entry_eq]
  generalize (lg_sl ([.ref ha0, .int p1, .int p2]) ++ List.replicate (4 - (lg_sl ([.ref ha0, .int p1, .int p2])).length) Slot.unset).toArray = ls at hl ⊢
  have hl : lv_has ls 4 [(0, .ref ha0), (1, .int p1), (2, .int p2)] := hl
  refine lv_iconst (v := 0) hx hb dX7_isCuedByAheadAlone_0 (by decide) ?_
  refine lv_istore_n (lv' := [(3, .int 0), (0, .ref ha0), (1, .int p1), (2, .int p2)]) hx hb dX7_isCuedByAheadAlone_1 rfl hl (by decide) rfl (fun ls hl => ?_)
  have hL98 : ∀ (n : Nat) (v1 : Int32) (ls : Array Slot), 0 ≤ v1.toInt → v1.toInt ≤ 12 → (12 - v1.toInt).toNat < n → lv_has ls 4 [(3, .int v1), (0, .ref ha0), (1, .int p1), (2, .int p2)] → W p l e (headSpec vsX7_isCuedByAheadAlone ({ frames := 2, cells := 0, slots := 0, locals := 47 })).room s m ([.ref ha0, .int p1, .int p2] : List Value).toArray below meth c s.heap [] 0 0 (MQ below (vp_Si (fun r => 0 ≤ r.toInt ∧ r.toInt ≤ 1)) ([.ref ha0, .int p1, .int p2] : List Value).toArray s 0 0 (fun _ => False)) (F0 m 2 ls []) := by
    intro n
    induction n with
    | zero =>
      intro v1 ls hi99_0 hi99_1 hi99_m hl
      exact absurd hi99_m (Nat.not_lt_zero _)
    | succ n ih =>
      intro v1 ls hi99_0 hi99_1 hi99_m hl
      have ih100 := ih
      refine lv_iload_n hx hb dX7_isCuedByAheadAlone_2 rfl (lv_at hl 0 rfl) ?_
      refine lv_aload_n hx hb dX7_isCuedByAheadAlone_3 rfl (lv_at hl 1 rfl) ?_
      refine va_get (D := (dC, dI)) (ci := 7) (v := .int ia0_9) (C := RX7) (T := TX7) (N := 12) hx hb hts in_X7_isCuedByAheadAlone_X7 hown hK hP 2 rfl rfl 9 (by decide) (hts (.fieldLink RX7 43 "EachOnHisCue$Play" "lines" "I") (by decide +kernel)) (fun _ h9 => h9) rfl dX7_isCuedByAheadAlone_4 ?_
      refine lv_icmp_ge (tgt := 46) hx hb dX7_isCuedByAheadAlone_7 (by decide) (fun hc => ?_) (fun hc => ?_)
      · have q101 : ia0_9.toInt ≤ v1.toInt := z_le rfl rfl hc
        refine lv_iconst (v := 1) hx hb dX7_isCuedByAheadAlone_46 (by decide) ?_
        exact W.zret (v := 1) hx hb hr (rfl) (fun t ht hW => ⟨1, rfl, ⟨by first | omega | decide | exact z_lo _, by first | omega | decide | exact z_hi _⟩, ht⟩) (fun _ h => absurd h List.not_mem_nil) dX7_isCuedByAheadAlone_47
      · have q102 : v1.toInt < ia0_9.toInt := z_nle rfl rfl hc
        refine lv_iload_n hx hb dX7_isCuedByAheadAlone_10 rfl (lv_at hl 0 rfl) ?_
        refine lv_iload_n hx hb dX7_isCuedByAheadAlone_11 rfl (lv_at hl 2 rfl) ?_
        refine lv_iconst (v := 1) hx hb dX7_isCuedByAheadAlone_12 (by decide) ?_
        refine lv_isub hx hb dX7_isCuedByAheadAlone_13 ?_
        refine lv_topi (fun y103 ey103 => ?_)
        refine lv_icmp_eq (tgt := 40) hx hb dX7_isCuedByAheadAlone_14 (by decide) (fun hc => ?_) (fun hc => ?_)
        · have q104 : v1.toInt = y103.toInt := z_eq rfl rfl hc
          obtain ⟨y105, ey105⟩ : ∃ y : Int32, y = v1 + 1 := ⟨_, rfl⟩
          refine lv_iinc (v := y105) (lv' := [(3, .int y105), (0, .ref ha0), (1, .int p1), (2, .int p2)]) hx hb dX7_isCuedByAheadAlone_40 hl (k := 0) rfl (by rw [ey105]; rfl) (by decide) rfl (fun ls hl => ?_)
          have hy105 : y105.toInt = v1.toInt + 1 := by rw [ey105]; exact z_add rfl (by decide) (by omega) (by omega)
          refine lv_goto (tgt := 2) hx hb dX7_isCuedByAheadAlone_43 (by decide) ?_
          exact ih100 y105 ls (by first | omega | decide | exact z_lo _ | exact z_hi _) (by first | omega | decide | exact z_lo _ | exact z_hi _) (by omega) (lv_sub hl [0, 1, 2, 3] rfl)
        · have q106 : v1.toInt ≠ y103.toInt := z_ne rfl rfl hc
          refine lv_aload_n hx hb dX7_isCuedByAheadAlone_17 rfl (lv_at hl 1 rfl) ?_
          refine lv_aload_n hx hb dX7_isCuedByAheadAlone_18 rfl (lv_at hl 1 rfl) ?_
          refine va_get (D := (dC, dI)) (ci := 7) (v := .ref ha0_5) (C := RX7) (T := TX7) (N := 12) hx hb hts in_X7_isCuedByAheadAlone_X7 hown hK hP 2 rfl rfl 5 (by decide) (hts (.fieldLink RX7 31 "EachOnHisCue$Play" "texts" "[I") (by decide +kernel)) (fun _ h9 => h9) rfl dX7_isCuedByAheadAlone_19 ?_
          refine lv_iload_n hx hb dX7_isCuedByAheadAlone_22 rfl (lv_at hl 0 rfl) ?_
          refine va_iald hx hb hK hP 0 0 rfl rfl (z_in (by omega) (by omega)) dX7_isCuedByAheadAlone_23 ?_
          refine lv_topi (fun y107 ey107 => ?_)
          have gy107 : y107.toInt = (fa0_5 (v1 : Int32).toNatClampNeg).toInt := by rw [ey107]
          refine lv_aload_n hx hb dX7_isCuedByAheadAlone_24 rfl (lv_at hl 1 rfl) ?_
          refine va_get (D := (dC, dI)) (ci := 7) (v := .ref ha0_6) (C := RX7) (T := TX7) (N := 12) hx hb hts in_X7_isCuedByAheadAlone_X7 hown hK hP 2 rfl rfl 6 (by decide) (hts (.fieldLink RX7 34 "EachOnHisCue$Play" "sizes" "[I") (by decide +kernel)) (fun _ h9 => h9) rfl dX7_isCuedByAheadAlone_25 ?_
          refine lv_iload_n hx hb dX7_isCuedByAheadAlone_28 rfl (lv_at hl 0 rfl) ?_
          refine va_iald hx hb hK hP 1 0 rfl rfl (z_in (by omega) (by omega)) dX7_isCuedByAheadAlone_29 ?_
          refine lv_topi (fun y108 ey108 => ?_)
          have gy108 : y108.toInt = (fa0_6 (v1 : Int32).toNatClampNeg).toInt := by rw [ey108]
          have hy108 : 0 ≤ y108.toInt ∧ y108.toInt ≤ 4 := by rw [ey108]; exact hBfa0_6 _
          obtain ⟨hy108, hy108_⟩ := hy108
          refine lv_iload_n hx hb dX7_isCuedByAheadAlone_30 rfl (lv_at hl 2 rfl) ?_
          refine lv_iload_n hx hb dX7_isCuedByAheadAlone_31 rfl (lv_at hl 3 rfl) ?_
          refine z_rdi (va_runV (As := [.int y107, .int y108, .int p1, .int p2]) (rest := []) ⟨hx, hb, hml, hown, hts⟩ (rX7_endsAsAhead l dC dI cI cQ ha0 ha0_5 ha0_6 ha0_0 ha0_1 ha0_2 ha0_4 ha0_7 ha0_11 fa0_5 fa0_6 hBfa0_6 ia0_3 (by first | omega | decide | exact z_lo _ | exact z_hi _) (by first | omega | decide | exact z_lo _ | exact z_hi _) ia0_8 ia0_9 (by first | omega | decide | exact z_lo _ | exact z_hi _) (by first | omega | decide | exact z_lo _ | exact z_hi _) ia0_10 y107 y108 p1 p2) (cwV 4 hts gv_X7_isCuedByAheadAlone_X7_endsAsAhead_99 rfl rfl rfl (by decide +kernel) ⟨Nat.le_of_ble_eq_true rfl, Nat.le_of_ble_eq_true rfl⟩) ⟨z_blindR, va_recv hK hP (ci := 7) (q0 := 2) rfl rfl, z_preR hZ hP [0, 1, 2] rfl⟩ rfl rfl hl.1 rfl (lv_room (Nat.le_of_ble_eq_true rfl)) dX7_isCuedByAheadAlone_32 ⟨Nat.le_of_ble_eq_true rfl, Nat.le_of_ble_eq_true rfl⟩) (fun y109 hy109 => ?_)
          obtain ⟨hy109_0, hy109_1⟩ := hy109
          refine lv_if_eq (tgt := 40) hx hb dX7_isCuedByAheadAlone_35 (by decide) (fun hc => ?_) (fun hc => ?_)
          · have q110 : y109.toInt = 0 := z_eq rfl (by decide) hc
            obtain ⟨y111, ey111⟩ : ∃ y : Int32, y = v1 + 1 := ⟨_, rfl⟩
            refine lv_iinc (v := y111) (lv' := [(3, .int y111), (0, .ref ha0), (1, .int p1), (2, .int p2)]) hx hb dX7_isCuedByAheadAlone_40 hl (k := 0) rfl (by rw [ey111]; rfl) (by decide) rfl (fun ls hl => ?_)
            have hy111 : y111.toInt = v1.toInt + 1 := by rw [ey111]; exact z_add rfl (by decide) (by omega) (by omega)
            refine lv_goto (tgt := 2) hx hb dX7_isCuedByAheadAlone_43 (by decide) ?_
            exact ih100 y111 ls (by first | omega | decide | exact z_lo _ | exact z_hi _) (by first | omega | decide | exact z_lo _ | exact z_hi _) (by omega) (lv_sub hl [0, 1, 2, 3] rfl)
          · have q112 : y109.toInt ≠ 0 := z_ne rfl (by decide) hc
            refine lv_iconst (v := 0) hx hb dX7_isCuedByAheadAlone_38 (by decide) ?_
            exact W.zret (v := 0) hx hb hr (rfl) (fun t ht hW => ⟨0, rfl, ⟨by first | omega | decide | exact z_lo _, by first | omega | decide | exact z_hi _⟩, ht⟩) (fun _ h => absurd h List.not_mem_nil) dX7_isCuedByAheadAlone_39
  exact hL98 ((12 - (0 : Int32).toInt).toNat + 1) 0 ls (by first | omega | decide | exact z_lo _ | exact z_hi _) (by first | omega | decide | exact z_lo _ | exact z_hi _) (by omega) hl
theorem dX7_wordsToMend_0 : decode cX7_wordsToMend 0 = .ok (.iload_n 1, 1) := by decide +kernel
theorem dX7_wordsToMend_1 : decode cX7_wordsToMend 1 = .ok (.iconst 1, 1) := by decide +kernel
theorem dX7_wordsToMend_2 : decode cX7_wordsToMend 2 = .ok (.if_icmp .lt 11, 3) := by decide +kernel
theorem dX7_wordsToMend_5 : decode cX7_wordsToMend 5 = .ok (.iload_n 1, 1) := by decide +kernel
theorem dX7_wordsToMend_6 : decode cX7_wordsToMend 6 = .ok (.aload_n 0, 1) := by decide +kernel
theorem dX7_wordsToMend_7 : decode cX7_wordsToMend 7 = .ok (.getfield 43, 3) := by decide +kernel
theorem dX7_wordsToMend_10 : decode cX7_wordsToMend 10 = .ok (.if_icmp .lt 5, 3) := by decide +kernel
theorem dX7_wordsToMend_13 : decode cX7_wordsToMend 13 = .ok (.iconst 0, 1) := by decide +kernel
theorem dX7_wordsToMend_14 : decode cX7_wordsToMend 14 = .ok (.ireturn, 1) := by decide +kernel
theorem dX7_wordsToMend_15 : decode cX7_wordsToMend 15 = .ok (.aload_n 0, 1) := by decide +kernel
theorem dX7_wordsToMend_16 : decode cX7_wordsToMend 16 = .ok (.getfield 37, 3) := by decide +kernel
theorem dX7_wordsToMend_19 : decode cX7_wordsToMend 19 = .ok (.iload_n 1, 1) := by decide +kernel
theorem dX7_wordsToMend_20 : decode cX7_wordsToMend 20 = .ok (.iaload, 1) := by decide +kernel
theorem dX7_wordsToMend_21 : decode cX7_wordsToMend 21 = .ok (.aload_n 0, 1) := by decide +kernel
theorem dX7_wordsToMend_22 : decode cX7_wordsToMend 22 = .ok (.getfield 34, 3) := by decide +kernel
theorem dX7_wordsToMend_25 : decode cX7_wordsToMend 25 = .ok (.iload_n 1, 1) := by decide +kernel
theorem dX7_wordsToMend_26 : decode cX7_wordsToMend 26 = .ok (.iconst 1, 1) := by decide +kernel
theorem dX7_wordsToMend_27 : decode cX7_wordsToMend 27 = .ok (.isub, 1) := by decide +kernel
theorem dX7_wordsToMend_28 : decode cX7_wordsToMend 28 = .ok (.iaload, 1) := by decide +kernel
theorem dX7_wordsToMend_29 : decode cX7_wordsToMend 29 = .ok (.invokestatic 103, 3) := by decide +kernel
theorem dX7_wordsToMend_32 : decode cX7_wordsToMend 32 = .ok (.istore_n 2, 1) := by decide +kernel
theorem dX7_wordsToMend_33 : decode cX7_wordsToMend 33 = .ok (.aload_n 0, 1) := by decide +kernel
theorem dX7_wordsToMend_34 : decode cX7_wordsToMend 34 = .ok (.getfield 37, 3) := by decide +kernel
theorem dX7_wordsToMend_37 : decode cX7_wordsToMend 37 = .ok (.iload_n 1, 1) := by decide +kernel
theorem dX7_wordsToMend_38 : decode cX7_wordsToMend 38 = .ok (.iaload, 1) := by decide +kernel
theorem dX7_wordsToMend_39 : decode cX7_wordsToMend 39 = .ok (.istore_n 3, 1) := by decide +kernel
theorem dX7_wordsToMend_40 : decode cX7_wordsToMend 40 = .ok (.iload_n 3, 1) := by decide +kernel
theorem dX7_wordsToMend_41 : decode cX7_wordsToMend 41 = .ok (.iload_n 2, 1) := by decide +kernel
theorem dX7_wordsToMend_42 : decode cX7_wordsToMend 42 = .ok (.if_icmp .gt 27, 3) := by decide +kernel
theorem dX7_wordsToMend_45 : decode cX7_wordsToMend 45 = .ok (.aload_n 0, 1) := by decide +kernel
theorem dX7_wordsToMend_46 : decode cX7_wordsToMend 46 = .ok (.iload_n 1, 1) := by decide +kernel
theorem dX7_wordsToMend_47 : decode cX7_wordsToMend 47 = .ok (.iload_n 3, 1) := by decide +kernel
theorem dX7_wordsToMend_48 : decode cX7_wordsToMend 48 = .ok (.invokevirtual 106, 3) := by decide +kernel
theorem dX7_wordsToMend_51 : decode cX7_wordsToMend 51 = .ok (.ifCond .eq 12, 3) := by decide +kernel
theorem dX7_wordsToMend_54 : decode cX7_wordsToMend 54 = .ok (.iload_n 3, 1) := by decide +kernel
theorem dX7_wordsToMend_55 : decode cX7_wordsToMend 55 = .ok (.aload_n 0, 1) := by decide +kernel
theorem dX7_wordsToMend_56 : decode cX7_wordsToMend 56 = .ok (.getfield 37, 3) := by decide +kernel
theorem dX7_wordsToMend_59 : decode cX7_wordsToMend 59 = .ok (.iload_n 1, 1) := by decide +kernel
theorem dX7_wordsToMend_60 : decode cX7_wordsToMend 60 = .ok (.iaload, 1) := by decide +kernel
theorem dX7_wordsToMend_61 : decode cX7_wordsToMend 61 = .ok (.isub, 1) := by decide +kernel
theorem dX7_wordsToMend_62 : decode cX7_wordsToMend 62 = .ok (.ireturn, 1) := by decide +kernel
theorem dX7_wordsToMend_63 : decode cX7_wordsToMend 63 = .ok (.iinc 3 1, 3) := by decide +kernel
theorem dX7_wordsToMend_66 : decode cX7_wordsToMend 66 = .ok (.goto (-26), 3) := by decide +kernel
theorem dX7_wordsToMend_69 : decode cX7_wordsToMend 69 = .ok (.bipush (-9), 2) := by decide +kernel
theorem dX7_wordsToMend_71 : decode cX7_wordsToMend 71 = .ok (.ireturn, 1) := by decide +kernel
noncomputable def vsX7_wordsToMend : List Cond := .code yX7_wordsToMend cX7_wordsToMend 4 (some .int) :: (([.fieldLink RX7 43 "EachOnHisCue$Play" "lines" "I", .fieldLink RX7 37 "EachOnHisCue$Play" "cues" "[I", .fieldLink RX7 34 "EachOnHisCue$Play" "sizes" "[I", .methodLink RX7 103 Lib.Math.max.name, .static Lib.Math.max.name, .initialized "java/lang/Math", .code Lib.Math.max.name Lib.Math.max.code 2 (some .int), .methodLink RX7 106 yX7_isCuedByAheadAlone, .instanceMethod yX7_isCuedByAheadAlone, .selects RX7 yX7_isCuedByAheadAlone yX7_isCuedByAheadAlone, .initialized RX7, .code yX7_isCuedByAheadAlone cX7_isCuedByAheadAlone 4 (some .boolean), .fieldLink RX7 31 "EachOnHisCue$Play" "texts" "[I", .methodLink RX7 99 yX7_endsAsAhead, .instanceMethod yX7_endsAsAhead, .selects RX7 yX7_endsAsAhead yX7_endsAsAhead, .code yX7_endsAsAhead cX7_endsAsAhead 7 (some .boolean), .methodLink RX7 91 Lib.Math.min.name, .static Lib.Math.min.name, .code Lib.Math.min.name Lib.Math.min.code 2 (some .int)] : List Cond) ++ wsX70)
theorem in_X7_wordsToMend_X7 : ∀ w ∈ wsX70, w ∈ vsX7_wordsToMend := fun _ h => List.mem_cons_of_mem _ (List.mem_append_right _ h)
set_option maxRecDepth 20000 in
theorem gw_X7_wordsToMend_X7_isCuedByAheadAlone : GoodIn vsX7_wordsToMend vsX7_isCuedByAheadAlone := goodIn_r _ [12, 1, 13, 3, 14, 15, 16, 11, 17, 18, 19, 6, 20, 21, 22, 23, 24, 25, 26, 27, 28, 29, 30, 31, 32] (by decide +kernel) (by decide +kernel)
set_option maxRecDepth 20000 in
theorem gv_X7_wordsToMend_X7_isCuedByAheadAlone_106 : GoodIn vsX7_wordsToMend (wsV RX7 106 RX7 yX7_isCuedByAheadAlone vsX7_isCuedByAheadAlone) := goodIn_app (goodIn_of _ (by decide +kernel)) gw_X7_wordsToMend_X7_isCuedByAheadAlone
set_option maxHeartbeats 4000000 in
set_option maxRecDepth 100000 in
theorem rX7_wordsToMend (l : Launch) (dC : Nat → ClassId) (dI : Nat → Nat → Nat) (cI cQ : ClassId) (ha0 ha0_5 ha0_6 ha0_7 ha0_0 ha0_1 ha0_2 ha0_4 ha0_11 : Nat) (fa0_5 : Nat → Int32) (fa0_6 : Nat → Int32) (hBfa0_6 : ∀ k, 0 ≤ (fa0_6 k).toInt ∧ (fa0_6 k).toInt ≤ 4) (fa0_7 : Nat → Int32) (hBfa0_7 : ∀ k, (-48) ≤ (fa0_7 k).toInt ∧ (fa0_7 k).toInt ≤ 207) (ia0_3 : Int32) (hia0_3l : 0 ≤ ia0_3.toInt) (hia0_3h : ia0_3.toInt ≤ 5) (ia0_8 : Int32) (ia0_9 : Int32) (hia0_9l : 0 ≤ ia0_9.toInt) (hia0_9h : ia0_9.toInt ≤ 12) (ia0_10 : Int32) (p1 : Int32) : Met l yX7_wordsToMend vsX7_wordsToMend ({ frames := 3, cells := 0, slots := 0, locals := 70 }) (va_Pc [.ref ha0, .int p1] (zRB dC dI cI cQ [(ha0_5, .inl (cI, 12, .inl fa0_5)), (ha0_6, .inl (cI, 12, .inl fa0_6)), (ha0_7, .inl (cI, 12, .inl fa0_7)), (ha0, .inr (7, [.ref ha0_0, .ref ha0_1, .ref ha0_2, .int ia0_3, .ref ha0_4, .ref ha0_5, .ref ha0_6, .ref ha0_7, .int ia0_8, .int ia0_9, .int ia0_10, .ref ha0_11]))])) (vp_Si (fun r => (-255) ≤ r.toInt ∧ r.toInt ≤ 255)) 0 0 (fun _ => False) := by
  refine Met.ofW (cc := cX7_wordsToMend) (maxL := 4) (ret := (some .int)) (by decide) rfl ?_
  intro p e s m args below meth c s₁ B hml hv
  obtain ⟨rfl, hP, hZ⟩ := hv
  obtain ⟨hK, hAO, hN⟩ := id hZ
  have hx := B.exec
  have hb := B.bytes
  have hr := B.returns
  have hts := atoms_spec (ws := vsX7_wordsToMend) B.pre
  have hown : s.vm.findClass RX7 = some m.cls := findClass_of_methodNamed B.named
  have hlocks := B.notSynchronized
  have hp1l := z_lo p1
  have hp1h := z_hi p1
  have hl := lv_entry ([.ref ha0, .int p1]) (n := 4) (Nat.le_of_ble_eq_true rfl)
  rw [lg_entry_eq]
  generalize (lg_sl ([.ref ha0, .int p1]) ++ List.replicate (4 - (lg_sl ([.ref ha0, .int p1])).length) Slot.unset).toArray = ls at hl ⊢
  have hl : lv_has ls 4 [(0, .ref ha0), (1, .int p1)] := hl
  refine lv_iload_n hx hb dX7_wordsToMend_0 rfl (lv_at hl 1 rfl) ?_
  refine lv_iconst (v := 1) hx hb dX7_wordsToMend_1 (by decide) ?_
  refine lv_icmp_lt (tgt := 13) hx hb dX7_wordsToMend_2 (by decide) (fun hc => ?_) (fun hc => ?_)
  · have q1 : p1.toInt < 1 := z_lt rfl (by decide) hc
    refine lv_iconst (v := 0) hx hb dX7_wordsToMend_13 (by decide) ?_
    exact W.iret (v := 0) hx hb hr (fun t ht hW => ⟨0, rfl, ⟨by first | omega | decide | exact z_lo _, by first | omega | decide | exact z_hi _⟩, ht⟩) (fun _ h => absurd h List.not_mem_nil) dX7_wordsToMend_14
  · have q2 : 1 ≤ p1.toInt := z_nlt rfl (by decide) hc
    refine lv_iload_n hx hb dX7_wordsToMend_5 rfl (lv_at hl 1 rfl) ?_
    refine lv_aload_n hx hb dX7_wordsToMend_6 rfl (lv_at hl 0 rfl) ?_
    refine va_get (D := (dC, dI)) (ci := 7) (v := .int ia0_9) (C := RX7) (T := TX7) (N := 12) hx hb hts in_X7_wordsToMend_X7 hown hK hP 3 rfl rfl 9 (by decide) (hts (.fieldLink RX7 43 "EachOnHisCue$Play" "lines" "I") (by decide +kernel)) (fun _ h9 => h9) rfl dX7_wordsToMend_7 ?_
    refine lv_icmp_lt (tgt := 15) hx hb dX7_wordsToMend_10 (by decide) (fun hc => ?_) (fun hc => ?_)
    · have q3 : p1.toInt < ia0_9.toInt := z_lt rfl rfl hc
      refine lv_aload_n hx hb dX7_wordsToMend_15 rfl (lv_at hl 0 rfl) ?_
      refine va_get (D := (dC, dI)) (ci := 7) (v := .ref ha0_7) (C := RX7) (T := TX7) (N := 12) hx hb hts in_X7_wordsToMend_X7 hown hK hP 3 rfl rfl 7 (by decide) (hts (.fieldLink RX7 37 "EachOnHisCue$Play" "cues" "[I") (by decide +kernel)) (fun _ h9 => h9) rfl dX7_wordsToMend_16 ?_
      refine lv_iload_n hx hb dX7_wordsToMend_19 rfl (lv_at hl 1 rfl) ?_
      refine va_iald hx hb hK hP 2 0 rfl rfl (z_in (by omega) (by omega)) dX7_wordsToMend_20 ?_
      refine lv_topi (fun y4 ey4 => ?_)
      have gy4 : y4.toInt = (fa0_7 (p1 : Int32).toNatClampNeg).toInt := by rw [ey4]
      have hy4 : (-48) ≤ y4.toInt ∧ y4.toInt ≤ 207 := by rw [ey4]; exact hBfa0_7 _
      obtain ⟨hy4, hy4_⟩ := hy4
      refine lv_aload_n hx hb dX7_wordsToMend_21 rfl (lv_at hl 0 rfl) ?_
      refine va_get (D := (dC, dI)) (ci := 7) (v := .ref ha0_6) (C := RX7) (T := TX7) (N := 12) hx hb hts in_X7_wordsToMend_X7 hown hK hP 3 rfl rfl 6 (by decide) (hts (.fieldLink RX7 34 "EachOnHisCue$Play" "sizes" "[I") (by decide +kernel)) (fun _ h9 => h9) rfl dX7_wordsToMend_22 ?_
      refine lv_iload_n hx hb dX7_wordsToMend_25 rfl (lv_at hl 1 rfl) ?_
      refine lv_iconst (v := 1) hx hb dX7_wordsToMend_26 (by decide) ?_
      refine lv_isub hx hb dX7_wordsToMend_27 ?_
      refine lv_topi (fun y5 ey5 => ?_)
      have hy5 : y5.toInt = p1.toInt - 1 := by rw [ey5]; exact z_sub rfl (by decide) (by omega) (by omega)
      refine va_iald hx hb hK hP 1 0 rfl rfl (z_in (by omega) (by omega)) dX7_wordsToMend_28 ?_
      refine lv_topi (fun y6 ey6 => ?_)
      have gy6 : y6.toInt = (fa0_6 (y5 : Int32).toNatClampNeg).toInt := by rw [ey6]
      have hy6 : 0 ≤ y6.toInt ∧ y6.toInt ≤ 4 := by rw [ey6]; exact hBfa0_6 _
      obtain ⟨hy6, hy6_⟩ := hy6
      refine va_mmax hx hb (hml.trans hl.1.symm) hown (hts (.methodLink RX7 103 Lib.Math.max.name) (by decide +kernel)) (hts (.static Lib.Math.max.name) (by decide +kernel)) (hts (.initialized "java/lang/Math") (by decide +kernel)) (hts (.code Lib.Math.max.name Lib.Math.max.code 2 (some .int)) (by decide +kernel)) (Nat.le_of_ble_eq_true rfl) (Nat.le_of_ble_eq_true rfl) (Nat.le_of_ble_eq_true rfl) (Nat.le_of_ble_eq_true rfl) dX7_wordsToMend_29 ?_
      refine lv_topi (fun y7 ey7 => ?_)
      obtain ⟨hy7_0, hy7_1, hy7_2⟩ : y7.toInt ≥ y4.toInt ∧ y7.toInt ≥ y6.toInt ∧ (y7.toInt = y4.toInt ∨ y7.toInt = y6.toInt) := by rw [ey7]; exact z_max rfl rfl
      refine lv_istore_n (lv' := [(2, .int y7), (0, .ref ha0), (1, .int p1)]) hx hb dX7_wordsToMend_32 rfl hl (by decide) rfl (fun ls hl => ?_)
      refine lv_aload_n hx hb dX7_wordsToMend_33 rfl (lv_at hl 1 rfl) ?_
      refine va_get (D := (dC, dI)) (ci := 7) (v := .ref ha0_7) (C := RX7) (T := TX7) (N := 12) hx hb hts in_X7_wordsToMend_X7 hown hK hP 3 rfl rfl 7 (by decide) (hts (.fieldLink RX7 37 "EachOnHisCue$Play" "cues" "[I") (by decide +kernel)) (fun _ h9 => h9) rfl dX7_wordsToMend_34 ?_
      refine lv_iload_n hx hb dX7_wordsToMend_37 rfl (lv_at hl 2 rfl) ?_
      refine va_iald hx hb hK hP 2 0 rfl rfl (z_in (by omega) (by omega)) dX7_wordsToMend_38 ?_
      refine lv_topi (fun y8 ey8 => ?_)
      obtain rfl : y4 = y8 := ey4.trans ey8.symm
      refine lv_istore_n (lv' := [(3, .int y4), (2, .int y7), (0, .ref ha0), (1, .int p1)]) hx hb dX7_wordsToMend_39 rfl hl (by decide) rfl (fun ls hl => ?_)
      have hL34 : ∀ (n : Nat) (v9 : Int32) (ls : Array Slot), (-48) ≤ v9.toInt → v9.toInt ≤ 208 → (208 - v9.toInt).toNat < n → lv_has ls 4 [(3, .int v9), (2, .int y7), (0, .ref ha0), (1, .int p1)] → W p l e (headSpec vsX7_wordsToMend ({ frames := 3, cells := 0, slots := 0, locals := 70 })).room s m ([.ref ha0, .int p1] : List Value).toArray below meth c s.heap [] 0 0 (MQ below (vp_Si (fun r => (-255) ≤ r.toInt ∧ r.toInt ≤ 255)) ([.ref ha0, .int p1] : List Value).toArray s 0 0 (fun _ => False)) (F0 m 40 ls []) := by
        intro n
        induction n with
        | zero =>
          intro v9 ls hi35_0 hi35_1 hi35_m hl
          exact absurd hi35_m (Nat.not_lt_zero _)
        | succ n ih =>
          intro v9 ls hi35_0 hi35_1 hi35_m hl
          have ih36 := ih
          refine lv_iload_n hx hb dX7_wordsToMend_40 rfl (lv_at hl 0 rfl) ?_
          refine lv_iload_n hx hb dX7_wordsToMend_41 rfl (lv_at hl 1 rfl) ?_
          refine lv_icmp_gt (tgt := 69) hx hb dX7_wordsToMend_42 (by decide) (fun hc => ?_) (fun hc => ?_)
          · have q37 : y7.toInt < v9.toInt := z_lt rfl rfl hc
            refine lv_bipush (v := (-9)) hx hb dX7_wordsToMend_69 (by decide) ?_
            exact W.iret (v := (-9)) hx hb hr (fun t ht hW => ⟨(-9), rfl, ⟨by first | omega | decide | exact z_lo _, by first | omega | decide | exact z_hi _⟩, ht⟩) (fun _ h => absurd h List.not_mem_nil) dX7_wordsToMend_71
          · have q38 : v9.toInt ≤ y7.toInt := z_nlt rfl rfl hc
            refine lv_aload_n hx hb dX7_wordsToMend_45 rfl (lv_at hl 2 rfl) ?_
            refine lv_iload_n hx hb dX7_wordsToMend_46 rfl (lv_at hl 3 rfl) ?_
            refine lv_iload_n hx hb dX7_wordsToMend_47 rfl (lv_at hl 0 rfl) ?_
            refine z_rdi (va_runV (As := [.int p1, .int v9]) (rest := []) ⟨hx, hb, hml, hown, hts⟩ (rX7_isCuedByAheadAlone l dC dI cI cQ ha0 ha0_5 ha0_6 ha0_0 ha0_1 ha0_2 ha0_4 ha0_7 ha0_11 fa0_5 fa0_6 hBfa0_6 ia0_3 (by first | omega | decide | exact z_lo _ | exact z_hi _) (by first | omega | decide | exact z_lo _ | exact z_hi _) ia0_8 ia0_9 (by first | omega | decide | exact z_lo _ | exact z_hi _) (by first | omega | decide | exact z_lo _ | exact z_hi _) ia0_10 p1 v9) (cwV 2 hts gv_X7_wordsToMend_X7_isCuedByAheadAlone_106 rfl rfl rfl (by decide +kernel) ⟨Nat.le_of_ble_eq_true rfl, Nat.le_of_ble_eq_true rfl⟩) ⟨z_blindR, va_recv hK hP (ci := 7) (q0 := 3) rfl rfl, z_preR hZ hP [0, 1, 3] rfl⟩ rfl rfl hl.1 rfl (lv_room (Nat.le_of_ble_eq_true rfl)) dX7_wordsToMend_48 ⟨Nat.le_of_ble_eq_true rfl, Nat.le_of_ble_eq_true rfl⟩) (fun y39 hy39 => ?_)
            obtain ⟨hy39_0, hy39_1⟩ := hy39
            refine lv_if_eq (tgt := 63) hx hb dX7_wordsToMend_51 (by decide) (fun hc => ?_) (fun hc => ?_)
            · have q40 : y39.toInt = 0 := z_eq rfl (by decide) hc
              obtain ⟨y41, ey41⟩ : ∃ y : Int32, y = v9 + 1 := ⟨_, rfl⟩
              refine lv_iinc (v := y41) (lv' := [(3, .int y41), (2, .int y7), (0, .ref ha0), (1, .int p1)]) hx hb dX7_wordsToMend_63 hl (k := 0) rfl (by rw [ey41]; rfl) (by decide) rfl (fun ls hl => ?_)
              have hy41 : y41.toInt = v9.toInt + 1 := by rw [ey41]; exact z_add rfl (by decide) (by omega) (by omega)
              refine lv_goto (tgt := 40) hx hb dX7_wordsToMend_66 (by decide) ?_
              exact ih36 y41 ls (by first | omega | decide | exact z_lo _ | exact z_hi _) (by first | omega | decide | exact z_lo _ | exact z_hi _) (by omega) (lv_sub hl [0, 1, 2, 3] rfl)
            · have q42 : y39.toInt ≠ 0 := z_ne rfl (by decide) hc
              refine lv_iload_n hx hb dX7_wordsToMend_54 rfl (lv_at hl 0 rfl) ?_
              refine lv_aload_n hx hb dX7_wordsToMend_55 rfl (lv_at hl 2 rfl) ?_
              refine va_get (D := (dC, dI)) (ci := 7) (v := .ref ha0_7) (C := RX7) (T := TX7) (N := 12) hx hb hts in_X7_wordsToMend_X7 hown hK hP 3 rfl rfl 7 (by decide) (hts (.fieldLink RX7 37 "EachOnHisCue$Play" "cues" "[I") (by decide +kernel)) (fun _ h9 => h9) rfl dX7_wordsToMend_56 ?_
              refine lv_iload_n hx hb dX7_wordsToMend_59 rfl (lv_at hl 3 rfl) ?_
              refine va_iald hx hb hK hP 2 0 rfl rfl (z_in (by omega) (by omega)) dX7_wordsToMend_60 ?_
              refine lv_topi (fun y43 ey43 => ?_)
              obtain rfl : y4 = y43 := ey4.trans ey43.symm
              refine lv_isub hx hb dX7_wordsToMend_61 ?_
              refine lv_topi (fun y44 ey44 => ?_)
              have hy44 : y44.toInt = v9.toInt - y4.toInt := by rw [ey44]; exact z_sub rfl rfl (by omega) (by omega)
              exact W.iret (v := y44) hx hb hr (fun t ht hW => ⟨y44, rfl, ⟨by first | omega | decide | exact z_lo _, by first | omega | decide | exact z_hi _⟩, ht⟩) (fun _ h => absurd h List.not_mem_nil) dX7_wordsToMend_62
      exact hL34 ((208 - y4.toInt).toNat + 1) y4 ls (by first | omega | decide | exact z_lo _ | exact z_hi _) (by first | omega | decide | exact z_lo _ | exact z_hi _) (by omega) hl
    · have q45 : ia0_9.toInt ≤ p1.toInt := z_nlt rfl rfl hc
      refine lv_iconst (v := 0) hx hb dX7_wordsToMend_13 (by decide) ?_
      exact W.iret (v := 0) hx hb hr (fun t ht hW => ⟨0, rfl, ⟨by first | omega | decide | exact z_lo _, by first | omega | decide | exact z_hi _⟩, ht⟩) (fun _ h => absurd h List.not_mem_nil) dX7_wordsToMend_14
theorem dX7_onStage_0 : decode cX7_onStage 0 = .ok (.iconst 0, 1) := by decide +kernel
theorem dX7_onStage_1 : decode cX7_onStage 1 = .ok (.istore_n 2, 1) := by decide +kernel
theorem dX7_onStage_2 : decode cX7_onStage 2 = .ok (.iconst 0, 1) := by decide +kernel
theorem dX7_onStage_3 : decode cX7_onStage 3 = .ok (.istore_n 3, 1) := by decide +kernel
theorem dX7_onStage_4 : decode cX7_onStage 4 = .ok (.iload_n 3, 1) := by decide +kernel
theorem dX7_onStage_5 : decode cX7_onStage 5 = .ok (.aload_n 0, 1) := by decide +kernel
theorem dX7_onStage_6 : decode cX7_onStage 6 = .ok (.getfield 24, 3) := by decide +kernel
theorem dX7_onStage_9 : decode cX7_onStage 9 = .ok (.if_icmp .ge 47, 3) := by decide +kernel
theorem dX7_onStage_12 : decode cX7_onStage 12 = .ok (.aload_n 0, 1) := by decide +kernel
theorem dX7_onStage_13 : decode cX7_onStage 13 = .ok (.getfield 21, 3) := by decide +kernel
theorem dX7_onStage_16 : decode cX7_onStage 16 = .ok (.iload_n 3, 1) := by decide +kernel
theorem dX7_onStage_17 : decode cX7_onStage 17 = .ok (.iaload, 1) := by decide +kernel
theorem dX7_onStage_18 : decode cX7_onStage 18 = .ok (.ifCond .eq 32, 3) := by decide +kernel
theorem dX7_onStage_21 : decode cX7_onStage 21 = .ok (.aload_n 0, 1) := by decide +kernel
theorem dX7_onStage_22 : decode cX7_onStage 22 = .ok (.getfield 21, 3) := by decide +kernel
theorem dX7_onStage_25 : decode cX7_onStage 25 = .ok (.iload_n 3, 1) := by decide +kernel
theorem dX7_onStage_26 : decode cX7_onStage 26 = .ok (.iaload, 1) := by decide +kernel
theorem dX7_onStage_27 : decode cX7_onStage 27 = .ok (.invokestatic 110, 3) := by decide +kernel
theorem dX7_onStage_30 : decode cX7_onStage 30 = .ok (.iload_n 1, 1) := by decide +kernel
theorem dX7_onStage_31 : decode cX7_onStage 31 = .ok (.if_icmp .gt 19, 3) := by decide +kernel
theorem dX7_onStage_34 : decode cX7_onStage 34 = .ok (.aload_n 0, 1) := by decide +kernel
theorem dX7_onStage_35 : decode cX7_onStage 35 = .ok (.getfield 21, 3) := by decide +kernel
theorem dX7_onStage_38 : decode cX7_onStage 38 = .ok (.iload_n 3, 1) := by decide +kernel
theorem dX7_onStage_39 : decode cX7_onStage 39 = .ok (.iaload, 1) := by decide +kernel
theorem dX7_onStage_40 : decode cX7_onStage 40 = .ok (.invokestatic 113, 3) := by decide +kernel
theorem dX7_onStage_43 : decode cX7_onStage 43 = .ok (.iload_n 1, 1) := by decide +kernel
theorem dX7_onStage_44 : decode cX7_onStage 44 = .ok (.if_icmp .lt 6, 3) := by decide +kernel
theorem dX7_onStage_47 : decode cX7_onStage 47 = .ok (.iinc 2 1, 3) := by decide +kernel
theorem dX7_onStage_50 : decode cX7_onStage 50 = .ok (.iinc 3 1, 3) := by decide +kernel
theorem dX7_onStage_53 : decode cX7_onStage 53 = .ok (.goto (-49), 3) := by decide +kernel
theorem dX7_onStage_56 : decode cX7_onStage 56 = .ok (.iload_n 2, 1) := by decide +kernel
theorem dX7_onStage_57 : decode cX7_onStage 57 = .ok (.ireturn, 1) := by decide +kernel
noncomputable def vsX7_onStage : List Cond := .code yX7_onStage cX7_onStage 4 (some .int) :: (([.fieldLink RX7 24 "EachOnHisCue$Play" "players" "I", .fieldLink RX7 21 "EachOnHisCue$Play" "own" "[I", .initialized RX11, .static yX11_leastOf, .static yX11_greatestOf, .code yX11_leastOf cX11_leastOf 2 (some .int), .code yX11_greatestOf cX11_greatestOf 2 (some .int)] : List Cond) ++ wsX70)
theorem in_X7_onStage_X7 : ∀ w ∈ wsX70, w ∈ vsX7_onStage := fun _ h => List.mem_cons_of_mem _ (List.mem_append_right _ h)
set_option maxRecDepth 20000 in
theorem gw_X7_onStage_X11_leastOf : GoodIn vsX7_onStage vsX11_leastOf := goodIn_r _ [6] (by decide +kernel) (by decide +kernel)
set_option maxRecDepth 20000 in
theorem gv_X7_onStage_X11_leastOf_110 : GoodIn vsX7_onStage (vsX11_leastOf) := gw_X7_onStage_X11_leastOf
set_option maxRecDepth 20000 in
theorem gw_X7_onStage_X11_greatestOf : GoodIn vsX7_onStage vsX11_greatestOf := goodIn_r _ [7] (by decide +kernel) (by decide +kernel)
set_option maxRecDepth 20000 in
theorem gv_X7_onStage_X11_greatestOf_113 : GoodIn vsX7_onStage (vsX11_greatestOf) := gw_X7_onStage_X11_greatestOf
set_option maxHeartbeats 4000000 in
set_option maxRecDepth 100000 in
theorem rX7_onStage (l : Launch) (dC : Nat → ClassId) (dI : Nat → Nat → Nat) (cI cQ : ClassId) (ha0 ha0_2 ha0_0 ha0_1 ha0_4 ha0_5 ha0_6 ha0_7 ha0_11 : Nat) (fa0_2 : Nat → Int32) (ia0_3 : Int32) (hia0_3l : 0 ≤ ia0_3.toInt) (hia0_3h : ia0_3.toInt ≤ 5) (ia0_8 : Int32) (ia0_9 : Int32) (hia0_9l : 0 ≤ ia0_9.toInt) (hia0_9h : ia0_9.toInt ≤ 12) (ia0_10 : Int32) (p1 : Int32) : Met l yX7_onStage vsX7_onStage ({ frames := 1, cells := 0, slots := 0, locals := 21 }) (va_Pc [.ref ha0, .int p1] (zRB dC dI cI cQ [(ha0_2, .inl (cI, 5, .inl fa0_2)), (ha0, .inr (7, [.ref ha0_0, .ref ha0_1, .ref ha0_2, .int ia0_3, .ref ha0_4, .ref ha0_5, .ref ha0_6, .ref ha0_7, .int ia0_8, .int ia0_9, .int ia0_10, .ref ha0_11]))])) (vp_Si (fun r => (-2147483648) ≤ r.toInt ∧ r.toInt ≤ 2147483647)) 0 0 (fun _ => False) := by
  refine Met.ofW (cc := cX7_onStage) (maxL := 4) (ret := (some .int)) (by decide) rfl ?_
  intro p e s m args below meth c s₁ B hml hv
  obtain ⟨rfl, hP, hZ⟩ := hv
  obtain ⟨hK, hAO, hN⟩ := id hZ
  have hx := B.exec
  have hb := B.bytes
  have hr := B.returns
  have hts := atoms_spec (ws := vsX7_onStage) B.pre
  have hown : s.vm.findClass RX7 = some m.cls := findClass_of_methodNamed B.named
  have hlocks := B.notSynchronized
  have hp1l := z_lo p1
  have hp1h := z_hi p1
  have hl := lv_entry ([.ref ha0, .int p1]) (n := 4) (Nat.le_of_ble_eq_true rfl)
  rw [lg_entry_eq]
  generalize (lg_sl ([.ref ha0, .int p1]) ++ List.replicate (4 - (lg_sl ([.ref ha0, .int p1])).length) Slot.unset).toArray = ls at hl ⊢
  have hl : lv_has ls 4 [(0, .ref ha0), (1, .int p1)] := hl
  refine lv_iconst (v := 0) hx hb dX7_onStage_0 (by decide) ?_
  refine lv_istore_n (lv' := [(2, .int 0), (0, .ref ha0), (1, .int p1)]) hx hb dX7_onStage_1 rfl hl (by decide) rfl (fun ls hl => ?_)
  refine lv_iconst (v := 0) hx hb dX7_onStage_2 (by decide) ?_
  refine lv_istore_n (lv' := [(3, .int 0), (2, .int 0), (0, .ref ha0), (1, .int p1)]) hx hb dX7_onStage_3 rfl hl (by decide) rfl (fun ls hl => ?_)
  have hL345 : ∀ (n : Nat) (v1 : Int32) (v2 : Int32) (ls : Array Slot), 0 ≤ v1.toInt → v1.toInt ≤ 5 → (5 - v1.toInt).toNat < n → lv_has ls 4 [(3, .int v1), (2, .int v2), (0, .ref ha0), (1, .int p1)] → W p l e (headSpec vsX7_onStage ({ frames := 1, cells := 0, slots := 0, locals := 21 })).room s m ([.ref ha0, .int p1] : List Value).toArray below meth c s.heap [] 0 0 (MQ below (vp_Si (fun r => (-2147483648) ≤ r.toInt ∧ r.toInt ≤ 2147483647)) ([.ref ha0, .int p1] : List Value).toArray s 0 0 (fun _ => False)) (F0 m 4 ls []) := by
    intro n
    induction n with
    | zero =>
      intro v1 v2 ls hi346_0 hi346_1 hi346_m hl
      exact absurd hi346_m (Nat.not_lt_zero _)
    | succ n ih =>
      intro v1 v2 ls hi346_0 hi346_1 hi346_m hl
      have ih347 := ih
      refine lv_iload_n hx hb dX7_onStage_4 rfl (lv_at hl 0 rfl) ?_
      refine lv_aload_n hx hb dX7_onStage_5 rfl (lv_at hl 2 rfl) ?_
      refine va_get (D := (dC, dI)) (ci := 7) (v := .int ia0_3) (C := RX7) (T := TX7) (N := 12) hx hb hts in_X7_onStage_X7 hown hK hP 1 rfl rfl 3 (by decide) (hts (.fieldLink RX7 24 "EachOnHisCue$Play" "players" "I") (by decide +kernel)) (fun _ h9 => h9) rfl dX7_onStage_6 ?_
      refine lv_icmp_ge (tgt := 56) hx hb dX7_onStage_9 (by decide) (fun hc => ?_) (fun hc => ?_)
      · have q348 : ia0_3.toInt ≤ v1.toInt := z_le rfl rfl hc
        refine lv_iload_n hx hb dX7_onStage_56 rfl (lv_at hl 1 rfl) ?_
        exact W.iret (v := v2) hx hb hr (fun t ht hW => ⟨v2, rfl, ⟨by first | omega | decide | exact z_lo _, by first | omega | decide | exact z_hi _⟩, ht⟩) (fun _ h => absurd h List.not_mem_nil) dX7_onStage_57
      · have q349 : v1.toInt < ia0_3.toInt := z_nle rfl rfl hc
        refine lv_aload_n hx hb dX7_onStage_12 rfl (lv_at hl 2 rfl) ?_
        refine va_get (D := (dC, dI)) (ci := 7) (v := .ref ha0_2) (C := RX7) (T := TX7) (N := 12) hx hb hts in_X7_onStage_X7 hown hK hP 1 rfl rfl 2 (by decide) (hts (.fieldLink RX7 21 "EachOnHisCue$Play" "own" "[I") (by decide +kernel)) (fun _ h9 => h9) rfl dX7_onStage_13 ?_
        refine lv_iload_n hx hb dX7_onStage_16 rfl (lv_at hl 0 rfl) ?_
        refine va_iald hx hb hK hP 0 0 rfl rfl (z_in (by omega) (by omega)) dX7_onStage_17 ?_
        refine lv_topi (fun y350 ey350 => ?_)
        have gy350 : y350.toInt = (fa0_2 (v1 : Int32).toNatClampNeg).toInt := by rw [ey350]
        refine lv_if_eq (tgt := 50) hx hb dX7_onStage_18 (by decide) (fun hc => ?_) (fun hc => ?_)
        · have q351 : y350.toInt = 0 := z_eq rfl (by decide) hc
          obtain ⟨y352, ey352⟩ : ∃ y : Int32, y = v1 + 1 := ⟨_, rfl⟩
          refine lv_iinc (v := y352) (lv' := [(3, .int y352), (2, .int v2), (0, .ref ha0), (1, .int p1)]) hx hb dX7_onStage_50 hl (k := 0) rfl (by rw [ey352]; rfl) (by decide) rfl (fun ls hl => ?_)
          have hy352 : y352.toInt = v1.toInt + 1 := by rw [ey352]; exact z_add rfl (by decide) (by omega) (by omega)
          refine lv_goto (tgt := 4) hx hb dX7_onStage_53 (by decide) ?_
          exact ih347 y352 v2 ls (by first | omega | decide | exact z_lo _ | exact z_hi _) (by first | omega | decide | exact z_lo _ | exact z_hi _) (by omega) (lv_sub hl [0, 1, 2, 3] rfl)
        · have q353 : y350.toInt ≠ 0 := z_ne rfl (by decide) hc
          refine lv_aload_n hx hb dX7_onStage_21 rfl (lv_at hl 2 rfl) ?_
          refine va_get (D := (dC, dI)) (ci := 7) (v := .ref ha0_2) (C := RX7) (T := TX7) (N := 12) hx hb hts in_X7_onStage_X7 hown hK hP 1 rfl rfl 2 (by decide) (hts (.fieldLink RX7 21 "EachOnHisCue$Play" "own" "[I") (by decide +kernel)) (fun _ h9 => h9) rfl dX7_onStage_22 ?_
          refine lv_iload_n hx hb dX7_onStage_25 rfl (lv_at hl 0 rfl) ?_
          refine va_iald hx hb hK hP 0 0 rfl rfl (z_in (by omega) (by omega)) dX7_onStage_26 ?_
          refine lv_topi (fun y354 ey354 => ?_)
          obtain rfl : y350 = y354 := ey350.trans ey354.symm
          refine z_rdi (va_runSN (As := [.int y350]) (rest := []) ⟨hx, hb, hml, hown, hts⟩ (rX11_leastOf l dC dI cI cQ y350) ⟨va_cnB (host := "EachOnHisCue") 1 hts gv_X7_onStage_X11_leastOf_110 rfl rfl rfl (hN.2.2.2.2.2.2.2.2.2.2.2.2.2.1) (hts (.initialized RX11) (by decide +kernel)) (by decide +kernel) ⟨Nat.le_of_ble_eq_true rfl, Nat.le_of_ble_eq_true rfl⟩, hts (.static yX11_leastOf) (by decide +kernel), trivial⟩ ⟨z_blindR, z_preR hZ hP [] rfl⟩ rfl rfl hl.1 rfl (lv_room (Nat.le_of_ble_eq_true rfl)) dX7_onStage_27 ⟨Nat.le_of_ble_eq_true rfl, Nat.le_of_ble_eq_true rfl⟩) (fun y355 hy355 => ?_)
          obtain ⟨hy355_0, hy355_1⟩ := hy355
          refine lv_iload_n hx hb dX7_onStage_30 rfl (lv_at hl 3 rfl) ?_
          refine lv_icmp_gt (tgt := 50) hx hb dX7_onStage_31 (by decide) (fun hc => ?_) (fun hc => ?_)
          · have q356 : p1.toInt < y355.toInt := z_lt rfl rfl hc
            obtain ⟨y357, ey357⟩ : ∃ y : Int32, y = v1 + 1 := ⟨_, rfl⟩
            refine lv_iinc (v := y357) (lv' := [(3, .int y357), (2, .int v2), (0, .ref ha0), (1, .int p1)]) hx hb dX7_onStage_50 hl (k := 0) rfl (by rw [ey357]; rfl) (by decide) rfl (fun ls hl => ?_)
            have hy357 : y357.toInt = v1.toInt + 1 := by rw [ey357]; exact z_add rfl (by decide) (by omega) (by omega)
            refine lv_goto (tgt := 4) hx hb dX7_onStage_53 (by decide) ?_
            exact ih347 y357 v2 ls (by first | omega | decide | exact z_lo _ | exact z_hi _) (by first | omega | decide | exact z_lo _ | exact z_hi _) (by omega) (lv_sub hl [0, 1, 2, 3] rfl)
          · have q358 : y355.toInt ≤ p1.toInt := z_nlt rfl rfl hc
            refine lv_aload_n hx hb dX7_onStage_34 rfl (lv_at hl 2 rfl) ?_
            refine va_get (D := (dC, dI)) (ci := 7) (v := .ref ha0_2) (C := RX7) (T := TX7) (N := 12) hx hb hts in_X7_onStage_X7 hown hK hP 1 rfl rfl 2 (by decide) (hts (.fieldLink RX7 21 "EachOnHisCue$Play" "own" "[I") (by decide +kernel)) (fun _ h9 => h9) rfl dX7_onStage_35 ?_
            refine lv_iload_n hx hb dX7_onStage_38 rfl (lv_at hl 0 rfl) ?_
            refine va_iald hx hb hK hP 0 0 rfl rfl (z_in (by omega) (by omega)) dX7_onStage_39 ?_
            refine lv_topi (fun y359 ey359 => ?_)
            obtain rfl : y350 = y359 := ey350.trans ey359.symm
            refine z_rdi (va_runSN (As := [.int y350]) (rest := []) ⟨hx, hb, hml, hown, hts⟩ (rX11_greatestOf l dC dI cI cQ y350) ⟨va_cnB (host := "EachOnHisCue") 1 hts gv_X7_onStage_X11_greatestOf_113 rfl rfl rfl (hN.2.2.2.2.2.2.2.2.2.2.2.2.2.2.1) (hts (.initialized RX11) (by decide +kernel)) (by decide +kernel) ⟨Nat.le_of_ble_eq_true rfl, Nat.le_of_ble_eq_true rfl⟩, hts (.static yX11_greatestOf) (by decide +kernel), trivial⟩ ⟨z_blindR, z_preR hZ hP [] rfl⟩ rfl rfl hl.1 rfl (lv_room (Nat.le_of_ble_eq_true rfl)) dX7_onStage_40 ⟨Nat.le_of_ble_eq_true rfl, Nat.le_of_ble_eq_true rfl⟩) (fun y360 hy360 => ?_)
            obtain ⟨hy360_0, hy360_1⟩ := hy360
            refine lv_iload_n hx hb dX7_onStage_43 rfl (lv_at hl 3 rfl) ?_
            refine lv_icmp_lt (tgt := 50) hx hb dX7_onStage_44 (by decide) (fun hc => ?_) (fun hc => ?_)
            · have q361 : y360.toInt < p1.toInt := z_lt rfl rfl hc
              obtain ⟨y362, ey362⟩ : ∃ y : Int32, y = v1 + 1 := ⟨_, rfl⟩
              refine lv_iinc (v := y362) (lv' := [(3, .int y362), (2, .int v2), (0, .ref ha0), (1, .int p1)]) hx hb dX7_onStage_50 hl (k := 0) rfl (by rw [ey362]; rfl) (by decide) rfl (fun ls hl => ?_)
              have hy362 : y362.toInt = v1.toInt + 1 := by rw [ey362]; exact z_add rfl (by decide) (by omega) (by omega)
              refine lv_goto (tgt := 4) hx hb dX7_onStage_53 (by decide) ?_
              exact ih347 y362 v2 ls (by first | omega | decide | exact z_lo _ | exact z_hi _) (by first | omega | decide | exact z_lo _ | exact z_hi _) (by omega) (lv_sub hl [0, 1, 2, 3] rfl)
            · have q363 : p1.toInt ≤ y360.toInt := z_nlt rfl rfl hc
              obtain ⟨y364, ey364⟩ : ∃ y : Int32, y = v2 + 1 := ⟨_, rfl⟩
              refine lv_iinc (v := y364) (lv' := [(2, .int y364), (3, .int v1), (0, .ref ha0), (1, .int p1)]) hx hb dX7_onStage_47 hl (k := 1) rfl (by rw [ey364]; rfl) (by decide) rfl (fun ls hl => ?_)
              obtain ⟨y365, ey365⟩ : ∃ y : Int32, y = v1 + 1 := ⟨_, rfl⟩
              refine lv_iinc (v := y365) (lv' := [(3, .int y365), (2, .int y364), (0, .ref ha0), (1, .int p1)]) hx hb dX7_onStage_50 hl (k := 1) rfl (by rw [ey365]; rfl) (by decide) rfl (fun ls hl => ?_)
              have hy365 : y365.toInt = v1.toInt + 1 := by rw [ey365]; exact z_add rfl (by decide) (by omega) (by omega)
              refine lv_goto (tgt := 4) hx hb dX7_onStage_53 (by decide) ?_
              exact ih347 y365 y364 ls (by first | omega | decide | exact z_lo _ | exact z_hi _) (by first | omega | decide | exact z_lo _ | exact z_hi _) (by omega) (lv_sub hl [0, 1, 2, 3] rfl)
  exact hL345 ((5 - (0 : Int32).toInt).toNat + 1) 0 0 ls (by first | omega | decide | exact z_lo _ | exact z_hi _) (by first | omega | decide | exact z_lo _ | exact z_hi _) (by omega) hl
theorem dX7_allWords_0 : decode cX7_allWords 0 = .ok (.iconst 0, 1) := by decide +kernel
theorem dX7_allWords_1 : decode cX7_allWords 1 = .ok (.istore_n 1, 1) := by decide +kernel
theorem dX7_allWords_2 : decode cX7_allWords 2 = .ok (.iconst 0, 1) := by decide +kernel
theorem dX7_allWords_3 : decode cX7_allWords 3 = .ok (.istore_n 2, 1) := by decide +kernel
theorem dX7_allWords_4 : decode cX7_allWords 4 = .ok (.iload_n 2, 1) := by decide +kernel
theorem dX7_allWords_5 : decode cX7_allWords 5 = .ok (.aload_n 0, 1) := by decide +kernel
theorem dX7_allWords_6 : decode cX7_allWords 6 = .ok (.getfield 43, 3) := by decide +kernel
theorem dX7_allWords_9 : decode cX7_allWords 9 = .ok (.if_icmp .ge 18, 3) := by decide +kernel
theorem dX7_allWords_12 : decode cX7_allWords 12 = .ok (.iload_n 1, 1) := by decide +kernel
theorem dX7_allWords_13 : decode cX7_allWords 13 = .ok (.aload_n 0, 1) := by decide +kernel
theorem dX7_allWords_14 : decode cX7_allWords 14 = .ok (.getfield 34, 3) := by decide +kernel
theorem dX7_allWords_17 : decode cX7_allWords 17 = .ok (.iload_n 2, 1) := by decide +kernel
theorem dX7_allWords_18 : decode cX7_allWords 18 = .ok (.iaload, 1) := by decide +kernel
theorem dX7_allWords_19 : decode cX7_allWords 19 = .ok (.iadd, 1) := by decide +kernel
theorem dX7_allWords_20 : decode cX7_allWords 20 = .ok (.istore_n 1, 1) := by decide +kernel
theorem dX7_allWords_21 : decode cX7_allWords 21 = .ok (.iinc 2 1, 3) := by decide +kernel
theorem dX7_allWords_24 : decode cX7_allWords 24 = .ok (.goto (-20), 3) := by decide +kernel
theorem dX7_allWords_27 : decode cX7_allWords 27 = .ok (.iload_n 1, 1) := by decide +kernel
theorem dX7_allWords_28 : decode cX7_allWords 28 = .ok (.ireturn, 1) := by decide +kernel
noncomputable def vsX7_allWords : List Cond := .code yX7_allWords cX7_allWords 3 (some .int) :: (([.fieldLink RX7 43 "EachOnHisCue$Play" "lines" "I", .fieldLink RX7 34 "EachOnHisCue$Play" "sizes" "[I"] : List Cond) ++ wsX70)
theorem in_X7_allWords_X7 : ∀ w ∈ wsX70, w ∈ vsX7_allWords := fun _ h => List.mem_cons_of_mem _ (List.mem_append_right _ h)
set_option maxHeartbeats 4000000 in
set_option maxRecDepth 100000 in
theorem rX7_allWords (l : Launch) (dC : Nat → ClassId) (dI : Nat → Nat → Nat) (cI cQ : ClassId) (ha0 ha0_6 ha0_0 ha0_1 ha0_2 ha0_4 ha0_5 ha0_7 ha0_11 : Nat) (fa0_6 : Nat → Int32) (hBfa0_6 : ∀ k, 0 ≤ (fa0_6 k).toInt ∧ (fa0_6 k).toInt ≤ 4) (ia0_3 : Int32) (hia0_3l : 0 ≤ ia0_3.toInt) (hia0_3h : ia0_3.toInt ≤ 5) (ia0_8 : Int32) (ia0_9 : Int32) (hia0_9l : 0 ≤ ia0_9.toInt) (hia0_9h : ia0_9.toInt ≤ 12) (ia0_10 : Int32) : Met l yX7_allWords vsX7_allWords ({ frames := 0, cells := 0, slots := 0, locals := 0 }) (va_Pc [.ref ha0] (zRB dC dI cI cQ [(ha0_6, .inl (cI, 12, .inl fa0_6)), (ha0, .inr (7, [.ref ha0_0, .ref ha0_1, .ref ha0_2, .int ia0_3, .ref ha0_4, .ref ha0_5, .ref ha0_6, .ref ha0_7, .int ia0_8, .int ia0_9, .int ia0_10, .ref ha0_11]))])) (vp_Si (fun r => (-2147483648) ≤ r.toInt ∧ r.toInt ≤ 2147483647)) 0 0 (fun _ => False) := by
  refine Met.ofW (cc := cX7_allWords) (maxL := 3) (ret := (some .int)) (by decide) rfl ?_
  intro p e s m args below meth c s₁ B hml hv
  obtain ⟨rfl, hP, hZ⟩ := hv
  obtain ⟨hK, hAO, hN⟩ := id hZ
  have hx := B.exec
  have hb := B.bytes
  have hr := B.returns
  have hts := atoms_spec (ws := vsX7_allWords) B.pre
  have hown : s.vm.findClass RX7 = some m.cls := findClass_of_methodNamed B.named
  have hlocks := B.notSynchronized
  have hl := lv_entry ([.ref ha0]) (n := 3) (Nat.le_of_ble_eq_true rfl)
  rw [lg_entry_eq]
  generalize (lg_sl ([.ref ha0]) ++ List.replicate (3 - (lg_sl ([.ref ha0])).length) Slot.unset).toArray = ls at hl ⊢
  have hl : lv_has ls 3 [(0, .ref ha0)] := hl
  refine lv_iconst (v := 0) hx hb dX7_allWords_0 (by decide) ?_
  refine lv_istore_n (lv' := [(1, .int 0), (0, .ref ha0)]) hx hb dX7_allWords_1 rfl hl (by decide) rfl (fun ls hl => ?_)
  refine lv_iconst (v := 0) hx hb dX7_allWords_2 (by decide) ?_
  refine lv_istore_n (lv' := [(2, .int 0), (1, .int 0), (0, .ref ha0)]) hx hb dX7_allWords_3 rfl hl (by decide) rfl (fun ls hl => ?_)
  have hL78 : ∀ (n : Nat) (v1 : Int32) (v2 : Int32) (ls : Array Slot), 0 ≤ v1.toInt → v1.toInt ≤ 12 → (12 - v1.toInt).toNat < n → lv_has ls 3 [(2, .int v1), (1, .int v2), (0, .ref ha0)] → W p l e (headSpec vsX7_allWords ({ frames := 0, cells := 0, slots := 0, locals := 0 })).room s m ([.ref ha0] : List Value).toArray below meth c s.heap [] 0 0 (MQ below (vp_Si (fun r => (-2147483648) ≤ r.toInt ∧ r.toInt ≤ 2147483647)) ([.ref ha0] : List Value).toArray s 0 0 (fun _ => False)) (F0 m 4 ls []) := by
    intro n
    induction n with
    | zero =>
      intro v1 v2 ls hi79_0 hi79_1 hi79_m hl
      exact absurd hi79_m (Nat.not_lt_zero _)
    | succ n ih =>
      intro v1 v2 ls hi79_0 hi79_1 hi79_m hl
      have ih80 := ih
      refine lv_iload_n hx hb dX7_allWords_4 rfl (lv_at hl 0 rfl) ?_
      refine lv_aload_n hx hb dX7_allWords_5 rfl (lv_at hl 2 rfl) ?_
      refine va_get (D := (dC, dI)) (ci := 7) (v := .int ia0_9) (C := RX7) (T := TX7) (N := 12) hx hb hts in_X7_allWords_X7 hown hK hP 1 rfl rfl 9 (by decide) (hts (.fieldLink RX7 43 "EachOnHisCue$Play" "lines" "I") (by decide +kernel)) (fun _ h9 => h9) rfl dX7_allWords_6 ?_
      refine lv_icmp_ge (tgt := 27) hx hb dX7_allWords_9 (by decide) (fun hc => ?_) (fun hc => ?_)
      · have q81 : ia0_9.toInt ≤ v1.toInt := z_le rfl rfl hc
        refine lv_iload_n hx hb dX7_allWords_27 rfl (lv_at hl 1 rfl) ?_
        exact W.iret (v := v2) hx hb hr (fun t ht hW => ⟨v2, rfl, ⟨by first | omega | decide | exact z_lo _, by first | omega | decide | exact z_hi _⟩, ht⟩) (fun _ h => absurd h List.not_mem_nil) dX7_allWords_28
      · have q82 : v1.toInt < ia0_9.toInt := z_nle rfl rfl hc
        refine lv_iload_n hx hb dX7_allWords_12 rfl (lv_at hl 1 rfl) ?_
        refine lv_aload_n hx hb dX7_allWords_13 rfl (lv_at hl 2 rfl) ?_
        refine va_get (D := (dC, dI)) (ci := 7) (v := .ref ha0_6) (C := RX7) (T := TX7) (N := 12) hx hb hts in_X7_allWords_X7 hown hK hP 1 rfl rfl 6 (by decide) (hts (.fieldLink RX7 34 "EachOnHisCue$Play" "sizes" "[I") (by decide +kernel)) (fun _ h9 => h9) rfl dX7_allWords_14 ?_
        refine lv_iload_n hx hb dX7_allWords_17 rfl (lv_at hl 0 rfl) ?_
        refine va_iald hx hb hK hP 0 0 rfl rfl (z_in (by omega) (by omega)) dX7_allWords_18 ?_
        refine lv_topi (fun y83 ey83 => ?_)
        have gy83 : y83.toInt = (fa0_6 (v1 : Int32).toNatClampNeg).toInt := by rw [ey83]
        have hy83 : 0 ≤ y83.toInt ∧ y83.toInt ≤ 4 := by rw [ey83]; exact hBfa0_6 _
        obtain ⟨hy83, hy83_⟩ := hy83
        refine lv_iadd hx hb dX7_allWords_19 ?_
        refine lv_topi (fun y84 ey84 => ?_)
        refine lv_istore_n (lv' := [(1, .int y84), (2, .int v1), (0, .ref ha0)]) hx hb dX7_allWords_20 rfl hl (by decide) rfl (fun ls hl => ?_)
        obtain ⟨y85, ey85⟩ : ∃ y : Int32, y = v1 + 1 := ⟨_, rfl⟩
        refine lv_iinc (v := y85) (lv' := [(2, .int y85), (1, .int y84), (0, .ref ha0)]) hx hb dX7_allWords_21 hl (k := 1) rfl (by rw [ey85]; rfl) (by decide) rfl (fun ls hl => ?_)
        have hy85 : y85.toInt = v1.toInt + 1 := by rw [ey85]; exact z_add rfl (by decide) (by omega) (by omega)
        refine lv_goto (tgt := 4) hx hb dX7_allWords_24 (by decide) ?_
        exact ih80 y85 y84 ls (by first | omega | decide | exact z_lo _ | exact z_hi _) (by first | omega | decide | exact z_lo _ | exact z_hi _) (by omega) (lv_sub hl [0, 1, 2] rfl)
  exact hL78 ((12 - (0 : Int32).toInt).toNat + 1) 0 0 ls (by first | omega | decide | exact z_lo _ | exact z_hi _) (by first | omega | decide | exact z_lo _ | exact z_hi _) (by omega) hl
theorem dX5_stepFrom_0 : decode cX5_stepFrom 0 = .ok (.iconst 0, 1) := by decide +kernel
theorem dX5_stepFrom_1 : decode cX5_stepFrom 1 = .ok (.istore_n 2, 1) := by decide +kernel
theorem dX5_stepFrom_2 : decode cX5_stepFrom 2 = .ok (.iconst 0, 1) := by decide +kernel
theorem dX5_stepFrom_3 : decode cX5_stepFrom 3 = .ok (.istore_n 3, 1) := by decide +kernel
theorem dX5_stepFrom_4 : decode cX5_stepFrom 4 = .ok (.iload_n 3, 1) := by decide +kernel
theorem dX5_stepFrom_5 : decode cX5_stepFrom 5 = .ok (.aload_n 0, 1) := by decide +kernel
theorem dX5_stepFrom_6 : decode cX5_stepFrom 6 = .ok (.getfield 15, 3) := by decide +kernel
theorem dX5_stepFrom_9 : decode cX5_stepFrom 9 = .ok (.if_icmp .ge 27, 3) := by decide +kernel
theorem dX5_stepFrom_12 : decode cX5_stepFrom 12 = .ok (.iload_n 1, 1) := by decide +kernel
theorem dX5_stepFrom_13 : decode cX5_stepFrom 13 = .ok (.iload_n 3, 1) := by decide +kernel
theorem dX5_stepFrom_14 : decode cX5_stepFrom 14 = .ok (.invokestatic 40, 3) := by decide +kernel
theorem dX5_stepFrom_17 : decode cX5_stepFrom 17 = .ok (.iconst 1, 1) := by decide +kernel
theorem dX5_stepFrom_18 : decode cX5_stepFrom 18 = .ok (.if_icmp .ne 12, 3) := by decide +kernel
theorem dX5_stepFrom_21 : decode cX5_stepFrom 21 = .ok (.iload_n 2, 1) := by decide +kernel
theorem dX5_stepFrom_22 : decode cX5_stepFrom 22 = .ok (.aload_n 0, 1) := by decide +kernel
theorem dX5_stepFrom_23 : decode cX5_stepFrom 23 = .ok (.getfield 9, 3) := by decide +kernel
theorem dX5_stepFrom_26 : decode cX5_stepFrom 26 = .ok (.iload_n 3, 1) := by decide +kernel
theorem dX5_stepFrom_27 : decode cX5_stepFrom 27 = .ok (.iaload, 1) := by decide +kernel
theorem dX5_stepFrom_28 : decode cX5_stepFrom 28 = .ok (.ior, 1) := by decide +kernel
theorem dX5_stepFrom_29 : decode cX5_stepFrom 29 = .ok (.istore_n 2, 1) := by decide +kernel
theorem dX5_stepFrom_30 : decode cX5_stepFrom 30 = .ok (.iinc 3 1, 3) := by decide +kernel
theorem dX5_stepFrom_33 : decode cX5_stepFrom 33 = .ok (.goto (-29), 3) := by decide +kernel
theorem dX5_stepFrom_36 : decode cX5_stepFrom 36 = .ok (.iload_n 2, 1) := by decide +kernel
theorem dX5_stepFrom_37 : decode cX5_stepFrom 37 = .ok (.ireturn, 1) := by decide +kernel
noncomputable def vsX5_stepFrom : List Cond := .code yX5_stepFrom cX5_stepFrom 4 (some .int) :: (([.fieldLink RX5 15 "EachOnHisCue$Net" "lines" "I", .initialized RX11, .static yX11_bitAt, .fieldLink RX5 9 "EachOnHisCue$Net" "after" "[I", .code yX11_bitAt cX11_bitAt 2 (some .int)] : List Cond) ++ wsX50)
theorem in_X5_stepFrom_X5 : ∀ w ∈ wsX50, w ∈ vsX5_stepFrom := fun _ h => List.mem_cons_of_mem _ (List.mem_append_right _ h)
set_option maxRecDepth 20000 in
theorem gw_X5_stepFrom_X11_bitAt : GoodIn vsX5_stepFrom vsX11_bitAt := goodIn_r _ [5] (by decide +kernel) (by decide +kernel)
set_option maxRecDepth 20000 in
theorem gv_X5_stepFrom_X11_bitAt_40 : GoodIn vsX5_stepFrom (vsX11_bitAt) := gw_X5_stepFrom_X11_bitAt
set_option maxHeartbeats 4000000 in
set_option maxRecDepth 100000 in
theorem rX5_stepFrom (l : Launch) (dC : Nat → ClassId) (dI : Nat → Nat → Nat) (cI cQ : ClassId) (ha0 ha0_0 : Nat) (fa0_0 : Nat → Int32) (ia0_1 : Int32) (hia0_1l : 0 ≤ ia0_1.toInt) (hia0_1h : ia0_1.toInt ≤ 12) (p1 : Int32) : Met l yX5_stepFrom vsX5_stepFrom ({ frames := 1, cells := 0, slots := 0, locals := 21 }) (va_Pc [.ref ha0, .int p1] (zRB dC dI cI cQ [(ha0_0, .inl (cI, 12, .inl fa0_0)), (ha0, .inr (5, [.ref ha0_0, .int ia0_1]))])) (vp_Si (fun r => (-2147483648) ≤ r.toInt ∧ r.toInt ≤ 2147483647)) 0 0 (fun _ => False) := by
  refine Met.ofW (cc := cX5_stepFrom) (maxL := 4) (ret := (some .int)) (by decide) rfl ?_
  intro p e s m args below meth c s₁ B hml hv
  obtain ⟨rfl, hP, hZ⟩ := hv
  obtain ⟨hK, hAO, hN⟩ := id hZ
  have hx := B.exec
  have hb := B.bytes
  have hr := B.returns
  have hts := atoms_spec (ws := vsX5_stepFrom) B.pre
  have hown : s.vm.findClass RX5 = some m.cls := findClass_of_methodNamed B.named
  have hlocks := B.notSynchronized
  have hp1l := z_lo p1
  have hp1h := z_hi p1
  have hl := lv_entry ([.ref ha0, .int p1]) (n := 4) (Nat.le_of_ble_eq_true rfl)
  rw [lg_entry_eq]
  generalize (lg_sl ([.ref ha0, .int p1]) ++ List.replicate (4 - (lg_sl ([.ref ha0, .int p1])).length) Slot.unset).toArray = ls at hl ⊢
  have hl : lv_has ls 4 [(0, .ref ha0), (1, .int p1)] := hl
  refine lv_iconst (v := 0) hx hb dX5_stepFrom_0 (by decide) ?_
  refine lv_istore_n (lv' := [(2, .int 0), (0, .ref ha0), (1, .int p1)]) hx hb dX5_stepFrom_1 rfl hl (by decide) rfl (fun ls hl => ?_)
  refine lv_iconst (v := 0) hx hb dX5_stepFrom_2 (by decide) ?_
  refine lv_istore_n (lv' := [(3, .int 0), (2, .int 0), (0, .ref ha0), (1, .int p1)]) hx hb dX5_stepFrom_3 rfl hl (by decide) rfl (fun ls hl => ?_)
  have hL75 : ∀ (n : Nat) (v1 : Int32) (v2 : Int32) (ls : Array Slot), 0 ≤ v1.toInt → v1.toInt ≤ 12 → (12 - v1.toInt).toNat < n → lv_has ls 4 [(3, .int v1), (2, .int v2), (0, .ref ha0), (1, .int p1)] → W p l e (headSpec vsX5_stepFrom ({ frames := 1, cells := 0, slots := 0, locals := 21 })).room s m ([.ref ha0, .int p1] : List Value).toArray below meth c s.heap [] 0 0 (MQ below (vp_Si (fun r => (-2147483648) ≤ r.toInt ∧ r.toInt ≤ 2147483647)) ([.ref ha0, .int p1] : List Value).toArray s 0 0 (fun _ => False)) (F0 m 4 ls []) := by
    intro n
    induction n with
    | zero =>
      intro v1 v2 ls hi76_0 hi76_1 hi76_m hl
      exact absurd hi76_m (Nat.not_lt_zero _)
    | succ n ih =>
      intro v1 v2 ls hi76_0 hi76_1 hi76_m hl
      have ih77 := ih
      refine lv_iload_n hx hb dX5_stepFrom_4 rfl (lv_at hl 0 rfl) ?_
      refine lv_aload_n hx hb dX5_stepFrom_5 rfl (lv_at hl 2 rfl) ?_
      refine va_get (D := (dC, dI)) (ci := 5) (v := .int ia0_1) (C := RX5) (T := TX5) (N := 2) hx hb hts in_X5_stepFrom_X5 hown hK hP 1 rfl rfl 1 (by decide) (hts (.fieldLink RX5 15 "EachOnHisCue$Net" "lines" "I") (by decide +kernel)) (fun _ h9 => h9) rfl dX5_stepFrom_6 ?_
      refine lv_icmp_ge (tgt := 36) hx hb dX5_stepFrom_9 (by decide) (fun hc => ?_) (fun hc => ?_)
      · have q78 : ia0_1.toInt ≤ v1.toInt := z_le rfl rfl hc
        refine lv_iload_n hx hb dX5_stepFrom_36 rfl (lv_at hl 1 rfl) ?_
        exact W.iret (v := v2) hx hb hr (fun t ht hW => ⟨v2, rfl, ⟨by first | omega | decide | exact z_lo _, by first | omega | decide | exact z_hi _⟩, ht⟩) (fun _ h => absurd h List.not_mem_nil) dX5_stepFrom_37
      · have q79 : v1.toInt < ia0_1.toInt := z_nle rfl rfl hc
        refine lv_iload_n hx hb dX5_stepFrom_12 rfl (lv_at hl 3 rfl) ?_
        refine lv_iload_n hx hb dX5_stepFrom_13 rfl (lv_at hl 0 rfl) ?_
        refine z_rdi (va_runSN (As := [.int p1, .int v1]) (rest := []) ⟨hx, hb, hml, hown, hts⟩ (rX11_bitAt l dC dI cI cQ p1 v1) ⟨va_cnB (host := "EachOnHisCue") 2 hts gv_X5_stepFrom_X11_bitAt_40 rfl rfl rfl (hN.2.2.2.2.2.2.2.2.2.1) (hts (.initialized RX11) (by decide +kernel)) (by decide +kernel) ⟨Nat.le_of_ble_eq_true rfl, Nat.le_of_ble_eq_true rfl⟩, hts (.static yX11_bitAt) (by decide +kernel), trivial⟩ ⟨z_blindR, z_preR hZ hP [] rfl⟩ rfl rfl hl.1 rfl (lv_room (Nat.le_of_ble_eq_true rfl)) dX5_stepFrom_14 ⟨Nat.le_of_ble_eq_true rfl, Nat.le_of_ble_eq_true rfl⟩) (fun y80 hy80 => ?_)
        obtain ⟨hy80_0, hy80_1⟩ := hy80
        refine lv_iconst (v := 1) hx hb dX5_stepFrom_17 (by decide) ?_
        refine lv_icmp_ne (tgt := 30) hx hb dX5_stepFrom_18 (by decide) (fun hc => ?_) (fun hc => ?_)
        · have q81 : y80.toInt ≠ 1 := z_ne rfl (by decide) hc
          obtain ⟨y82, ey82⟩ : ∃ y : Int32, y = v1 + 1 := ⟨_, rfl⟩
          refine lv_iinc (v := y82) (lv' := [(3, .int y82), (2, .int v2), (0, .ref ha0), (1, .int p1)]) hx hb dX5_stepFrom_30 hl (k := 0) rfl (by rw [ey82]; rfl) (by decide) rfl (fun ls hl => ?_)
          have hy82 : y82.toInt = v1.toInt + 1 := by rw [ey82]; exact z_add rfl (by decide) (by omega) (by omega)
          refine lv_goto (tgt := 4) hx hb dX5_stepFrom_33 (by decide) ?_
          exact ih77 y82 v2 ls (by first | omega | decide | exact z_lo _ | exact z_hi _) (by first | omega | decide | exact z_lo _ | exact z_hi _) (by omega) (lv_sub hl [0, 1, 2, 3] rfl)
        · have q83 : y80.toInt = 1 := z_eq rfl (by decide) hc
          refine lv_iload_n hx hb dX5_stepFrom_21 rfl (lv_at hl 1 rfl) ?_
          refine lv_aload_n hx hb dX5_stepFrom_22 rfl (lv_at hl 2 rfl) ?_
          refine va_get (D := (dC, dI)) (ci := 5) (v := .ref ha0_0) (C := RX5) (T := TX5) (N := 2) hx hb hts in_X5_stepFrom_X5 hown hK hP 1 rfl rfl 0 (by decide) (hts (.fieldLink RX5 9 "EachOnHisCue$Net" "after" "[I") (by decide +kernel)) (fun _ h9 => h9) rfl dX5_stepFrom_23 ?_
          refine lv_iload_n hx hb dX5_stepFrom_26 rfl (lv_at hl 0 rfl) ?_
          refine va_iald hx hb hK hP 0 0 rfl rfl (z_in (by omega) (by omega)) dX5_stepFrom_27 ?_
          refine lv_topi (fun y84 ey84 => ?_)
          have gy84 : y84.toInt = (fa0_0 (v1 : Int32).toNatClampNeg).toInt := by rw [ey84]
          refine lv_ior hx hb dX5_stepFrom_28 ?_
          refine lv_topi (fun y85 ey85 => ?_)
          refine lv_istore_n (lv' := [(2, .int y85), (3, .int v1), (0, .ref ha0), (1, .int p1)]) hx hb dX5_stepFrom_29 rfl hl (by decide) rfl (fun ls hl => ?_)
          obtain ⟨y86, ey86⟩ : ∃ y : Int32, y = v1 + 1 := ⟨_, rfl⟩
          refine lv_iinc (v := y86) (lv' := [(3, .int y86), (2, .int y85), (0, .ref ha0), (1, .int p1)]) hx hb dX5_stepFrom_30 hl (k := 1) rfl (by rw [ey86]; rfl) (by decide) rfl (fun ls hl => ?_)
          have hy86 : y86.toInt = v1.toInt + 1 := by rw [ey86]; exact z_add rfl (by decide) (by omega) (by omega)
          refine lv_goto (tgt := 4) hx hb dX5_stepFrom_33 (by decide) ?_
          exact ih77 y86 y85 ls (by first | omega | decide | exact z_lo _ | exact z_hi _) (by first | omega | decide | exact z_lo _ | exact z_hi _) (by omega) (lv_sub hl [0, 1, 2, 3] rfl)
  exact hL75 ((12 - (0 : Int32).toInt).toNat + 1) 0 0 ls (by first | omega | decide | exact z_lo _ | exact z_hi _) (by first | omega | decide | exact z_lo _ | exact z_hi _) (by omega) hl
theorem dX5_reachedFrom_0 : decode cX5_reachedFrom 0 = .ok (.iload_n 1, 1) := by decide +kernel
theorem dX5_reachedFrom_1 : decode cX5_reachedFrom 1 = .ok (.istore_n 2, 1) := by decide +kernel
theorem dX5_reachedFrom_2 : decode cX5_reachedFrom 2 = .ok (.iconst 0, 1) := by decide +kernel
theorem dX5_reachedFrom_3 : decode cX5_reachedFrom 3 = .ok (.istore_n 3, 1) := by decide +kernel
theorem dX5_reachedFrom_4 : decode cX5_reachedFrom 4 = .ok (.iload_n 3, 1) := by decide +kernel
theorem dX5_reachedFrom_5 : decode cX5_reachedFrom 5 = .ok (.aload_n 0, 1) := by decide +kernel
theorem dX5_reachedFrom_6 : decode cX5_reachedFrom 6 = .ok (.getfield 15, 3) := by decide +kernel
theorem dX5_reachedFrom_9 : decode cX5_reachedFrom 9 = .ok (.if_icmp .ge 17, 3) := by decide +kernel
theorem dX5_reachedFrom_12 : decode cX5_reachedFrom 12 = .ok (.iload_n 2, 1) := by decide +kernel
theorem dX5_reachedFrom_13 : decode cX5_reachedFrom 13 = .ok (.aload_n 0, 1) := by decide +kernel
theorem dX5_reachedFrom_14 : decode cX5_reachedFrom 14 = .ok (.iload_n 2, 1) := by decide +kernel
theorem dX5_reachedFrom_15 : decode cX5_reachedFrom 15 = .ok (.invokevirtual 44, 3) := by decide +kernel
theorem dX5_reachedFrom_18 : decode cX5_reachedFrom 18 = .ok (.ior, 1) := by decide +kernel
theorem dX5_reachedFrom_19 : decode cX5_reachedFrom 19 = .ok (.istore_n 2, 1) := by decide +kernel
theorem dX5_reachedFrom_20 : decode cX5_reachedFrom 20 = .ok (.iinc 3 1, 3) := by decide +kernel
theorem dX5_reachedFrom_23 : decode cX5_reachedFrom 23 = .ok (.goto (-19), 3) := by decide +kernel
theorem dX5_reachedFrom_26 : decode cX5_reachedFrom 26 = .ok (.iload_n 2, 1) := by decide +kernel
theorem dX5_reachedFrom_27 : decode cX5_reachedFrom 27 = .ok (.ireturn, 1) := by decide +kernel
noncomputable def vsX5_reachedFrom : List Cond := .code yX5_reachedFrom cX5_reachedFrom 4 (some .int) :: (([.fieldLink RX5 15 "EachOnHisCue$Net" "lines" "I", .methodLink RX5 44 yX5_stepFrom, .instanceMethod yX5_stepFrom, .selects RX5 yX5_stepFrom yX5_stepFrom, .initialized RX5, .code yX5_stepFrom cX5_stepFrom 4 (some .int), .initialized RX11, .static yX11_bitAt, .fieldLink RX5 9 "EachOnHisCue$Net" "after" "[I", .code yX11_bitAt cX11_bitAt 2 (some .int)] : List Cond) ++ wsX50)
theorem in_X5_reachedFrom_X5 : ∀ w ∈ wsX50, w ∈ vsX5_reachedFrom := fun _ h => List.mem_cons_of_mem _ (List.mem_append_right _ h)
set_option maxRecDepth 20000 in
theorem gw_X5_reachedFrom_X5_stepFrom : GoodIn vsX5_reachedFrom vsX5_stepFrom := goodIn_r _ [6, 1, 7, 8, 9, 10, 11, 12] (by decide +kernel) (by decide +kernel)
set_option maxRecDepth 20000 in
theorem gv_X5_reachedFrom_X5_stepFrom_44 : GoodIn vsX5_reachedFrom (wsV RX5 44 RX5 yX5_stepFrom vsX5_stepFrom) := goodIn_app (goodIn_of _ (by decide +kernel)) gw_X5_reachedFrom_X5_stepFrom
set_option maxHeartbeats 4000000 in
set_option maxRecDepth 100000 in
theorem rX5_reachedFrom (l : Launch) (dC : Nat → ClassId) (dI : Nat → Nat → Nat) (cI cQ : ClassId) (ha0 ha0_0 : Nat) (fa0_0 : Nat → Int32) (ia0_1 : Int32) (hia0_1l : 0 ≤ ia0_1.toInt) (hia0_1h : ia0_1.toInt ≤ 12) (p1 : Int32) : Met l yX5_reachedFrom vsX5_reachedFrom ({ frames := 2, cells := 0, slots := 0, locals := 44 }) (va_Pc [.ref ha0, .int p1] (zRB dC dI cI cQ [(ha0_0, .inl (cI, 12, .inl fa0_0)), (ha0, .inr (5, [.ref ha0_0, .int ia0_1]))])) (vp_Si (fun r => (-2147483648) ≤ r.toInt ∧ r.toInt ≤ 2147483647)) 0 0 (fun _ => False) := by
  refine Met.ofW (cc := cX5_reachedFrom) (maxL := 4) (ret := (some .int)) (by decide) rfl ?_
  intro p e s m args below meth c s₁ B hml hv
  obtain ⟨rfl, hP, hZ⟩ := hv
  obtain ⟨hK, hAO, hN⟩ := id hZ
  have hx := B.exec
  have hb := B.bytes
  have hr := B.returns
  have hts := atoms_spec (ws := vsX5_reachedFrom) B.pre
  have hown : s.vm.findClass RX5 = some m.cls := findClass_of_methodNamed B.named
  have hlocks := B.notSynchronized
  have hp1l := z_lo p1
  have hp1h := z_hi p1
  have hl := lv_entry ([.ref ha0, .int p1]) (n := 4) (Nat.le_of_ble_eq_true rfl)
  rw [lg_entry_eq]
  generalize (lg_sl ([.ref ha0, .int p1]) ++ List.replicate (4 - (lg_sl ([.ref ha0, .int p1])).length) Slot.unset).toArray = ls at hl ⊢
  have hl : lv_has ls 4 [(0, .ref ha0), (1, .int p1)] := hl
  refine lv_iload_n hx hb dX5_reachedFrom_0 rfl (lv_at hl 1 rfl) ?_
  refine lv_istore_n (lv' := [(2, .int p1), (0, .ref ha0), (1, .int p1)]) hx hb dX5_reachedFrom_1 rfl hl (by decide) rfl (fun ls hl => ?_)
  refine lv_iconst (v := 0) hx hb dX5_reachedFrom_2 (by decide) ?_
  refine lv_istore_n (lv' := [(3, .int 0), (2, .int p1), (0, .ref ha0), (1, .int p1)]) hx hb dX5_reachedFrom_3 rfl hl (by decide) rfl (fun ls hl => ?_)
  have hL43 : ∀ (n : Nat) (v1 : Int32) (v2 : Int32) (ls : Array Slot), 0 ≤ v1.toInt → v1.toInt ≤ 12 → (12 - v1.toInt).toNat < n → lv_has ls 4 [(3, .int v1), (2, .int v2), (0, .ref ha0), (1, .int p1)] → W p l e (headSpec vsX5_reachedFrom ({ frames := 2, cells := 0, slots := 0, locals := 44 })).room s m ([.ref ha0, .int p1] : List Value).toArray below meth c s.heap [] 0 0 (MQ below (vp_Si (fun r => (-2147483648) ≤ r.toInt ∧ r.toInt ≤ 2147483647)) ([.ref ha0, .int p1] : List Value).toArray s 0 0 (fun _ => False)) (F0 m 4 ls []) := by
    intro n
    induction n with
    | zero =>
      intro v1 v2 ls hi44_0 hi44_1 hi44_m hl
      exact absurd hi44_m (Nat.not_lt_zero _)
    | succ n ih =>
      intro v1 v2 ls hi44_0 hi44_1 hi44_m hl
      have ih45 := ih
      refine lv_iload_n hx hb dX5_reachedFrom_4 rfl (lv_at hl 0 rfl) ?_
      refine lv_aload_n hx hb dX5_reachedFrom_5 rfl (lv_at hl 2 rfl) ?_
      refine va_get (D := (dC, dI)) (ci := 5) (v := .int ia0_1) (C := RX5) (T := TX5) (N := 2) hx hb hts in_X5_reachedFrom_X5 hown hK hP 1 rfl rfl 1 (by decide) (hts (.fieldLink RX5 15 "EachOnHisCue$Net" "lines" "I") (by decide +kernel)) (fun _ h9 => h9) rfl dX5_reachedFrom_6 ?_
      refine lv_icmp_ge (tgt := 26) hx hb dX5_reachedFrom_9 (by decide) (fun hc => ?_) (fun hc => ?_)
      · have q46 : ia0_1.toInt ≤ v1.toInt := z_le rfl rfl hc
        refine lv_iload_n hx hb dX5_reachedFrom_26 rfl (lv_at hl 1 rfl) ?_
        exact W.iret (v := v2) hx hb hr (fun t ht hW => ⟨v2, rfl, ⟨by first | omega | decide | exact z_lo _, by first | omega | decide | exact z_hi _⟩, ht⟩) (fun _ h => absurd h List.not_mem_nil) dX5_reachedFrom_27
      · have q47 : v1.toInt < ia0_1.toInt := z_nle rfl rfl hc
        refine lv_iload_n hx hb dX5_reachedFrom_12 rfl (lv_at hl 1 rfl) ?_
        refine lv_aload_n hx hb dX5_reachedFrom_13 rfl (lv_at hl 2 rfl) ?_
        refine lv_iload_n hx hb dX5_reachedFrom_14 rfl (lv_at hl 1 rfl) ?_
        refine z_rdi (va_runV (As := [.int v2]) (rest := [.int v2]) ⟨hx, hb, hml, hown, hts⟩ (rX5_stepFrom l dC dI cI cQ ha0 ha0_0 fa0_0 ia0_1 (by first | omega | decide | exact z_lo _ | exact z_hi _) (by first | omega | decide | exact z_lo _ | exact z_hi _) v2) (cwV 1 hts gv_X5_reachedFrom_X5_stepFrom_44 rfl rfl rfl (by decide +kernel) ⟨Nat.le_of_ble_eq_true rfl, Nat.le_of_ble_eq_true rfl⟩) ⟨z_blindR, va_recv hK hP (ci := 5) (q0 := 1) rfl rfl, z_preR hZ hP [0, 1] rfl⟩ rfl rfl hl.1 rfl (lv_room (Nat.le_of_ble_eq_true rfl)) dX5_reachedFrom_15 ⟨Nat.le_of_ble_eq_true rfl, Nat.le_of_ble_eq_true rfl⟩) (fun y48 hy48 => ?_)
        obtain ⟨hy48_0, hy48_1⟩ := hy48
        refine lv_ior hx hb dX5_reachedFrom_18 ?_
        refine lv_topi (fun y49 ey49 => ?_)
        refine lv_istore_n (lv' := [(2, .int y49), (3, .int v1), (0, .ref ha0), (1, .int p1)]) hx hb dX5_reachedFrom_19 rfl hl (by decide) rfl (fun ls hl => ?_)
        obtain ⟨y50, ey50⟩ : ∃ y : Int32, y = v1 + 1 := ⟨_, rfl⟩
        refine lv_iinc (v := y50) (lv' := [(3, .int y50), (2, .int y49), (0, .ref ha0), (1, .int p1)]) hx hb dX5_reachedFrom_20 hl (k := 1) rfl (by rw [ey50]; rfl) (by decide) rfl (fun ls hl => ?_)
        have hy50 : y50.toInt = v1.toInt + 1 := by rw [ey50]; exact z_add rfl (by decide) (by omega) (by omega)
        refine lv_goto (tgt := 4) hx hb dX5_reachedFrom_23 (by decide) ?_
        exact ih45 y50 y49 ls (by first | omega | decide | exact z_lo _ | exact z_hi _) (by first | omega | decide | exact z_lo _ | exact z_hi _) (by omega) (lv_sub hl [0, 1, 2, 3] rfl)
  exact hL43 ((12 - (0 : Int32).toInt).toNat + 1) 0 p1 ls (by first | omega | decide | exact z_lo _ | exact z_hi _) (by first | omega | decide | exact z_lo _ | exact z_hi _) (by omega) hl
theorem dX5_fewestSteps_0 : decode cX5_fewestSteps 0 = .ok (.iconst 1, 1) := by decide +kernel
theorem dX5_fewestSteps_1 : decode cX5_fewestSteps 1 = .ok (.istore_n 1, 1) := by decide +kernel
theorem dX5_fewestSteps_2 : decode cX5_fewestSteps 2 = .ok (.iconst 0, 1) := by decide +kernel
theorem dX5_fewestSteps_3 : decode cX5_fewestSteps 3 = .ok (.istore_n 2, 1) := by decide +kernel
theorem dX5_fewestSteps_4 : decode cX5_fewestSteps 4 = .ok (.iload_n 2, 1) := by decide +kernel
theorem dX5_fewestSteps_5 : decode cX5_fewestSteps 5 = .ok (.aload_n 0, 1) := by decide +kernel
theorem dX5_fewestSteps_6 : decode cX5_fewestSteps 6 = .ok (.getfield 15, 3) := by decide +kernel
theorem dX5_fewestSteps_9 : decode cX5_fewestSteps 9 = .ok (.if_icmp .ge 33, 3) := by decide +kernel
theorem dX5_fewestSteps_12 : decode cX5_fewestSteps 12 = .ok (.iload_n 1, 1) := by decide +kernel
theorem dX5_fewestSteps_13 : decode cX5_fewestSteps 13 = .ok (.aload_n 0, 1) := by decide +kernel
theorem dX5_fewestSteps_14 : decode cX5_fewestSteps 14 = .ok (.getfield 15, 3) := by decide +kernel
theorem dX5_fewestSteps_17 : decode cX5_fewestSteps 17 = .ok (.iconst 1, 1) := by decide +kernel
theorem dX5_fewestSteps_18 : decode cX5_fewestSteps 18 = .ok (.isub, 1) := by decide +kernel
theorem dX5_fewestSteps_19 : decode cX5_fewestSteps 19 = .ok (.invokestatic 40, 3) := by decide +kernel
theorem dX5_fewestSteps_22 : decode cX5_fewestSteps 22 = .ok (.iconst 1, 1) := by decide +kernel
theorem dX5_fewestSteps_23 : decode cX5_fewestSteps 23 = .ok (.if_icmp .ne 5, 3) := by decide +kernel
theorem dX5_fewestSteps_26 : decode cX5_fewestSteps 26 = .ok (.iload_n 2, 1) := by decide +kernel
theorem dX5_fewestSteps_27 : decode cX5_fewestSteps 27 = .ok (.ireturn, 1) := by decide +kernel
theorem dX5_fewestSteps_28 : decode cX5_fewestSteps 28 = .ok (.iload_n 1, 1) := by decide +kernel
theorem dX5_fewestSteps_29 : decode cX5_fewestSteps 29 = .ok (.aload_n 0, 1) := by decide +kernel
theorem dX5_fewestSteps_30 : decode cX5_fewestSteps 30 = .ok (.iload_n 1, 1) := by decide +kernel
theorem dX5_fewestSteps_31 : decode cX5_fewestSteps 31 = .ok (.invokevirtual 44, 3) := by decide +kernel
theorem dX5_fewestSteps_34 : decode cX5_fewestSteps 34 = .ok (.ior, 1) := by decide +kernel
theorem dX5_fewestSteps_35 : decode cX5_fewestSteps 35 = .ok (.istore_n 1, 1) := by decide +kernel
theorem dX5_fewestSteps_36 : decode cX5_fewestSteps 36 = .ok (.iinc 2 1, 3) := by decide +kernel
theorem dX5_fewestSteps_39 : decode cX5_fewestSteps 39 = .ok (.goto (-35), 3) := by decide +kernel
theorem dX5_fewestSteps_42 : decode cX5_fewestSteps 42 = .ok (.bipush (-9), 2) := by decide +kernel
theorem dX5_fewestSteps_44 : decode cX5_fewestSteps 44 = .ok (.ireturn, 1) := by decide +kernel
noncomputable def vsX5_fewestSteps : List Cond := .code yX5_fewestSteps cX5_fewestSteps 3 (some .int) :: (([.fieldLink RX5 15 "EachOnHisCue$Net" "lines" "I", .initialized RX11, .static yX11_bitAt, .code yX11_bitAt cX11_bitAt 2 (some .int), .methodLink RX5 44 yX5_stepFrom, .instanceMethod yX5_stepFrom, .selects RX5 yX5_stepFrom yX5_stepFrom, .initialized RX5, .code yX5_stepFrom cX5_stepFrom 4 (some .int), .fieldLink RX5 9 "EachOnHisCue$Net" "after" "[I"] : List Cond) ++ wsX50)
theorem in_X5_fewestSteps_X5 : ∀ w ∈ wsX50, w ∈ vsX5_fewestSteps := fun _ h => List.mem_cons_of_mem _ (List.mem_append_right _ h)
set_option maxRecDepth 20000 in
theorem gw_X5_fewestSteps_X11_bitAt : GoodIn vsX5_fewestSteps vsX11_bitAt := goodIn_r _ [4] (by decide +kernel) (by decide +kernel)
set_option maxRecDepth 20000 in
theorem gv_X5_fewestSteps_X11_bitAt_40 : GoodIn vsX5_fewestSteps (vsX11_bitAt) := gw_X5_fewestSteps_X11_bitAt
set_option maxRecDepth 20000 in
theorem gw_X5_fewestSteps_X5_stepFrom : GoodIn vsX5_fewestSteps vsX5_stepFrom := goodIn_r _ [9, 1, 2, 3, 10, 4, 11, 12] (by decide +kernel) (by decide +kernel)
set_option maxRecDepth 20000 in
theorem gv_X5_fewestSteps_X5_stepFrom_44 : GoodIn vsX5_fewestSteps (wsV RX5 44 RX5 yX5_stepFrom vsX5_stepFrom) := goodIn_app (goodIn_of _ (by decide +kernel)) gw_X5_fewestSteps_X5_stepFrom
set_option maxHeartbeats 4000000 in
set_option maxRecDepth 100000 in
theorem rX5_fewestSteps (l : Launch) (dC : Nat → ClassId) (dI : Nat → Nat → Nat) (cI cQ : ClassId) (ha0 ha0_0 : Nat) (fa0_0 : Nat → Int32) (ia0_1 : Int32) (hia0_1l : 0 ≤ ia0_1.toInt) (hia0_1h : ia0_1.toInt ≤ 12) : Met l yX5_fewestSteps vsX5_fewestSteps ({ frames := 2, cells := 0, slots := 0, locals := 44 }) (va_Pc [.ref ha0] (zRB dC dI cI cQ [(ha0_0, .inl (cI, 12, .inl fa0_0)), (ha0, .inr (5, [.ref ha0_0, .int ia0_1]))])) (vp_Si (fun r => (-9) ≤ r.toInt ∧ r.toInt ≤ 11)) 0 0 (fun _ => False) := by
  refine Met.ofW (cc := cX5_fewestSteps) (maxL := 3) (ret := (some .int)) (by decide) rfl ?_
  intro p e s m args below meth c s₁ B hml hv
  obtain ⟨rfl, hP, hZ⟩ := hv
  obtain ⟨hK, hAO, hN⟩ := id hZ
  have hx := B.exec
  have hb := B.bytes
  have hr := B.returns
  have hts := atoms_spec (ws := vsX5_fewestSteps) B.pre
  have hown : s.vm.findClass RX5 = some m.cls := findClass_of_methodNamed B.named
  have hlocks := B.notSynchronized
  have hl := lv_entry ([.ref ha0]) (n := 3) (Nat.le_of_ble_eq_true rfl)
  rw [lg_entry_eq]
  generalize (lg_sl ([.ref ha0]) ++ List.replicate (3 - (lg_sl ([.ref ha0])).length) Slot.unset).toArray = ls at hl ⊢
  have hl : lv_has ls 3 [(0, .ref ha0)] := hl
  refine lv_iconst (v := 1) hx hb dX5_fewestSteps_0 (by decide) ?_
  refine lv_istore_n (lv' := [(1, .int 1), (0, .ref ha0)]) hx hb dX5_fewestSteps_1 rfl hl (by decide) rfl (fun ls hl => ?_)
  refine lv_iconst (v := 0) hx hb dX5_fewestSteps_2 (by decide) ?_
  refine lv_istore_n (lv' := [(2, .int 0), (1, .int 1), (0, .ref ha0)]) hx hb dX5_fewestSteps_3 rfl hl (by decide) rfl (fun ls hl => ?_)
  have hL75 : ∀ (n : Nat) (v1 : Int32) (v2 : Int32) (ls : Array Slot), 0 ≤ v1.toInt → v1.toInt ≤ 12 → (12 - v1.toInt).toNat < n → lv_has ls 3 [(2, .int v1), (1, .int v2), (0, .ref ha0)] → W p l e (headSpec vsX5_fewestSteps ({ frames := 2, cells := 0, slots := 0, locals := 44 })).room s m ([.ref ha0] : List Value).toArray below meth c s.heap [] 0 0 (MQ below (vp_Si (fun r => (-9) ≤ r.toInt ∧ r.toInt ≤ 11)) ([.ref ha0] : List Value).toArray s 0 0 (fun _ => False)) (F0 m 4 ls []) := by
    intro n
    induction n with
    | zero =>
      intro v1 v2 ls hi76_0 hi76_1 hi76_m hl
      exact absurd hi76_m (Nat.not_lt_zero _)
    | succ n ih =>
      intro v1 v2 ls hi76_0 hi76_1 hi76_m hl
      have ih77 := ih
      refine lv_iload_n hx hb dX5_fewestSteps_4 rfl (lv_at hl 0 rfl) ?_
      refine lv_aload_n hx hb dX5_fewestSteps_5 rfl (lv_at hl 2 rfl) ?_
      refine va_get (D := (dC, dI)) (ci := 5) (v := .int ia0_1) (C := RX5) (T := TX5) (N := 2) hx hb hts in_X5_fewestSteps_X5 hown hK hP 1 rfl rfl 1 (by decide) (hts (.fieldLink RX5 15 "EachOnHisCue$Net" "lines" "I") (by decide +kernel)) (fun _ h9 => h9) rfl dX5_fewestSteps_6 ?_
      refine lv_icmp_ge (tgt := 42) hx hb dX5_fewestSteps_9 (by decide) (fun hc => ?_) (fun hc => ?_)
      · have q78 : ia0_1.toInt ≤ v1.toInt := z_le rfl rfl hc
        refine lv_bipush (v := (-9)) hx hb dX5_fewestSteps_42 (by decide) ?_
        exact W.iret (v := (-9)) hx hb hr (fun t ht hW => ⟨(-9), rfl, ⟨by first | omega | decide | exact z_lo _, by first | omega | decide | exact z_hi _⟩, ht⟩) (fun _ h => absurd h List.not_mem_nil) dX5_fewestSteps_44
      · have q79 : v1.toInt < ia0_1.toInt := z_nle rfl rfl hc
        refine lv_iload_n hx hb dX5_fewestSteps_12 rfl (lv_at hl 1 rfl) ?_
        refine lv_aload_n hx hb dX5_fewestSteps_13 rfl (lv_at hl 2 rfl) ?_
        refine va_get (D := (dC, dI)) (ci := 5) (v := .int ia0_1) (C := RX5) (T := TX5) (N := 2) hx hb hts in_X5_fewestSteps_X5 hown hK hP 1 rfl rfl 1 (by decide) (hts (.fieldLink RX5 15 "EachOnHisCue$Net" "lines" "I") (by decide +kernel)) (fun _ h9 => h9) rfl dX5_fewestSteps_14 ?_
        refine lv_iconst (v := 1) hx hb dX5_fewestSteps_17 (by decide) ?_
        refine lv_isub hx hb dX5_fewestSteps_18 ?_
        refine lv_topi (fun y80 ey80 => ?_)
        have hy80 : y80.toInt = ia0_1.toInt - 1 := by rw [ey80]; exact z_sub rfl (by decide) (by omega) (by omega)
        refine z_rdi (va_runSN (As := [.int v2, .int y80]) (rest := []) ⟨hx, hb, hml, hown, hts⟩ (rX11_bitAt l dC dI cI cQ v2 y80) ⟨va_cnB (host := "EachOnHisCue") 2 hts gv_X5_fewestSteps_X11_bitAt_40 rfl rfl rfl (hN.2.2.2.2.2.2.2.2.2.1) (hts (.initialized RX11) (by decide +kernel)) (by decide +kernel) ⟨Nat.le_of_ble_eq_true rfl, Nat.le_of_ble_eq_true rfl⟩, hts (.static yX11_bitAt) (by decide +kernel), trivial⟩ ⟨z_blindR, z_preR hZ hP [] rfl⟩ rfl rfl hl.1 rfl (lv_room (Nat.le_of_ble_eq_true rfl)) dX5_fewestSteps_19 ⟨Nat.le_of_ble_eq_true rfl, Nat.le_of_ble_eq_true rfl⟩) (fun y81 hy81 => ?_)
        obtain ⟨hy81_0, hy81_1⟩ := hy81
        refine lv_iconst (v := 1) hx hb dX5_fewestSteps_22 (by decide) ?_
        refine lv_icmp_ne (tgt := 28) hx hb dX5_fewestSteps_23 (by decide) (fun hc => ?_) (fun hc => ?_)
        · have q82 : y81.toInt ≠ 1 := z_ne rfl (by decide) hc
          refine lv_iload_n hx hb dX5_fewestSteps_28 rfl (lv_at hl 1 rfl) ?_
          refine lv_aload_n hx hb dX5_fewestSteps_29 rfl (lv_at hl 2 rfl) ?_
          refine lv_iload_n hx hb dX5_fewestSteps_30 rfl (lv_at hl 1 rfl) ?_
          refine z_rdi (va_runV (As := [.int v2]) (rest := [.int v2]) ⟨hx, hb, hml, hown, hts⟩ (rX5_stepFrom l dC dI cI cQ ha0 ha0_0 fa0_0 ia0_1 (by first | omega | decide | exact z_lo _ | exact z_hi _) (by first | omega | decide | exact z_lo _ | exact z_hi _) v2) (cwV 1 hts gv_X5_fewestSteps_X5_stepFrom_44 rfl rfl rfl (by decide +kernel) ⟨Nat.le_of_ble_eq_true rfl, Nat.le_of_ble_eq_true rfl⟩) ⟨z_blindR, va_recv hK hP (ci := 5) (q0 := 1) rfl rfl, z_preR hZ hP [0, 1] rfl⟩ rfl rfl hl.1 rfl (lv_room (Nat.le_of_ble_eq_true rfl)) dX5_fewestSteps_31 ⟨Nat.le_of_ble_eq_true rfl, Nat.le_of_ble_eq_true rfl⟩) (fun y83 hy83 => ?_)
          obtain ⟨hy83_0, hy83_1⟩ := hy83
          refine lv_ior hx hb dX5_fewestSteps_34 ?_
          refine lv_topi (fun y84 ey84 => ?_)
          refine lv_istore_n (lv' := [(1, .int y84), (2, .int v1), (0, .ref ha0)]) hx hb dX5_fewestSteps_35 rfl hl (by decide) rfl (fun ls hl => ?_)
          obtain ⟨y85, ey85⟩ : ∃ y : Int32, y = v1 + 1 := ⟨_, rfl⟩
          refine lv_iinc (v := y85) (lv' := [(2, .int y85), (1, .int y84), (0, .ref ha0)]) hx hb dX5_fewestSteps_36 hl (k := 1) rfl (by rw [ey85]; rfl) (by decide) rfl (fun ls hl => ?_)
          have hy85 : y85.toInt = v1.toInt + 1 := by rw [ey85]; exact z_add rfl (by decide) (by omega) (by omega)
          refine lv_goto (tgt := 4) hx hb dX5_fewestSteps_39 (by decide) ?_
          exact ih77 y85 y84 ls (by first | omega | decide | exact z_lo _ | exact z_hi _) (by first | omega | decide | exact z_lo _ | exact z_hi _) (by omega) (lv_sub hl [0, 1, 2] rfl)
        · have q86 : y81.toInt = 1 := z_eq rfl (by decide) hc
          refine lv_iload_n hx hb dX5_fewestSteps_26 rfl (lv_at hl 0 rfl) ?_
          exact W.iret (v := v1) hx hb hr (fun t ht hW => ⟨v1, rfl, ⟨by first | omega | decide | exact z_lo _, by first | omega | decide | exact z_hi _⟩, ht⟩) (fun _ h => absurd h List.not_mem_nil) dX5_fewestSteps_27
  exact hL75 ((12 - (0 : Int32).toInt).toNat + 1) 0 1 ls (by first | omega | decide | exact z_lo _ | exact z_hi _) (by first | omega | decide | exact z_lo _ | exact z_hi _) (by omega) hl
theorem dX5_hasRound_0 : decode cX5_hasRound 0 = .ok (.aload_n 0, 1) := by decide +kernel
theorem dX5_hasRound_1 : decode cX5_hasRound 1 = .ok (.iconst 1, 1) := by decide +kernel
theorem dX5_hasRound_2 : decode cX5_hasRound 2 = .ok (.invokevirtual 48, 3) := by decide +kernel
theorem dX5_hasRound_5 : decode cX5_hasRound 5 = .ok (.istore_n 1, 1) := by decide +kernel
theorem dX5_hasRound_6 : decode cX5_hasRound 6 = .ok (.iconst 0, 1) := by decide +kernel
theorem dX5_hasRound_7 : decode cX5_hasRound 7 = .ok (.istore_n 2, 1) := by decide +kernel
theorem dX5_hasRound_8 : decode cX5_hasRound 8 = .ok (.iload_n 2, 1) := by decide +kernel
theorem dX5_hasRound_9 : decode cX5_hasRound 9 = .ok (.aload_n 0, 1) := by decide +kernel
theorem dX5_hasRound_10 : decode cX5_hasRound 10 = .ok (.getfield 15, 3) := by decide +kernel
theorem dX5_hasRound_13 : decode cX5_hasRound 13 = .ok (.if_icmp .ge 38, 3) := by decide +kernel
theorem dX5_hasRound_16 : decode cX5_hasRound 16 = .ok (.iload_n 1, 1) := by decide +kernel
theorem dX5_hasRound_17 : decode cX5_hasRound 17 = .ok (.iload_n 2, 1) := by decide +kernel
theorem dX5_hasRound_18 : decode cX5_hasRound 18 = .ok (.invokestatic 40, 3) := by decide +kernel
theorem dX5_hasRound_21 : decode cX5_hasRound 21 = .ok (.iconst 1, 1) := by decide +kernel
theorem dX5_hasRound_22 : decode cX5_hasRound 22 = .ok (.if_icmp .ne 23, 3) := by decide +kernel
theorem dX5_hasRound_25 : decode cX5_hasRound 25 = .ok (.aload_n 0, 1) := by decide +kernel
theorem dX5_hasRound_26 : decode cX5_hasRound 26 = .ok (.aload_n 0, 1) := by decide +kernel
theorem dX5_hasRound_27 : decode cX5_hasRound 27 = .ok (.getfield 9, 3) := by decide +kernel
theorem dX5_hasRound_30 : decode cX5_hasRound 30 = .ok (.iload_n 2, 1) := by decide +kernel
theorem dX5_hasRound_31 : decode cX5_hasRound 31 = .ok (.iaload, 1) := by decide +kernel
theorem dX5_hasRound_32 : decode cX5_hasRound 32 = .ok (.invokevirtual 48, 3) := by decide +kernel
theorem dX5_hasRound_35 : decode cX5_hasRound 35 = .ok (.iload_n 2, 1) := by decide +kernel
theorem dX5_hasRound_36 : decode cX5_hasRound 36 = .ok (.invokestatic 40, 3) := by decide +kernel
theorem dX5_hasRound_39 : decode cX5_hasRound 39 = .ok (.iconst 1, 1) := by decide +kernel
theorem dX5_hasRound_40 : decode cX5_hasRound 40 = .ok (.if_icmp .ne 5, 3) := by decide +kernel
theorem dX5_hasRound_43 : decode cX5_hasRound 43 = .ok (.iconst 1, 1) := by decide +kernel
theorem dX5_hasRound_44 : decode cX5_hasRound 44 = .ok (.ireturn, 1) := by decide +kernel
theorem dX5_hasRound_45 : decode cX5_hasRound 45 = .ok (.iinc 2 1, 3) := by decide +kernel
theorem dX5_hasRound_48 : decode cX5_hasRound 48 = .ok (.goto (-40), 3) := by decide +kernel
theorem dX5_hasRound_51 : decode cX5_hasRound 51 = .ok (.iconst 0, 1) := by decide +kernel
theorem dX5_hasRound_52 : decode cX5_hasRound 52 = .ok (.ireturn, 1) := by decide +kernel
noncomputable def vsX5_hasRound : List Cond := .code yX5_hasRound cX5_hasRound 3 (some .boolean) :: (([.fieldLink RX5 15 "EachOnHisCue$Net" "lines" "I", .initialized RX11, .static yX11_bitAt, .fieldLink RX5 9 "EachOnHisCue$Net" "after" "[I", .methodLink RX5 48 yX5_reachedFrom, .instanceMethod yX5_reachedFrom, .selects RX5 yX5_reachedFrom yX5_reachedFrom, .initialized RX5, .code yX5_reachedFrom cX5_reachedFrom 4 (some .int), .methodLink RX5 44 yX5_stepFrom, .instanceMethod yX5_stepFrom, .selects RX5 yX5_stepFrom yX5_stepFrom, .code yX5_stepFrom cX5_stepFrom 4 (some .int), .code yX11_bitAt cX11_bitAt 2 (some .int)] : List Cond) ++ wsX50)
theorem in_X5_hasRound_X5 : ∀ w ∈ wsX50, w ∈ vsX5_hasRound := fun _ h => List.mem_cons_of_mem _ (List.mem_append_right _ h)
set_option maxRecDepth 20000 in
theorem gw_X5_hasRound_X5_reachedFrom : GoodIn vsX5_hasRound vsX5_reachedFrom := goodIn_r _ [9, 1, 10, 11, 12, 8, 13, 2, 3, 4, 14, 15, 16] (by decide +kernel) (by decide +kernel)
set_option maxRecDepth 20000 in
theorem gv_X5_hasRound_X5_reachedFrom_48 : GoodIn vsX5_hasRound (wsV RX5 48 RX5 yX5_reachedFrom vsX5_reachedFrom) := goodIn_app (goodIn_of _ (by decide +kernel)) gw_X5_hasRound_X5_reachedFrom
set_option maxRecDepth 20000 in
theorem gw_X5_hasRound_X11_bitAt : GoodIn vsX5_hasRound vsX11_bitAt := goodIn_r _ [14] (by decide +kernel) (by decide +kernel)
set_option maxRecDepth 20000 in
theorem gv_X5_hasRound_X11_bitAt_40 : GoodIn vsX5_hasRound (vsX11_bitAt) := gw_X5_hasRound_X11_bitAt
set_option maxHeartbeats 4000000 in
set_option maxRecDepth 100000 in
theorem rX5_hasRound (l : Launch) (dC : Nat → ClassId) (dI : Nat → Nat → Nat) (cI cQ : ClassId) (ha0 ha0_0 : Nat) (fa0_0 : Nat → Int32) (ia0_1 : Int32) (hia0_1l : 0 ≤ ia0_1.toInt) (hia0_1h : ia0_1.toInt ≤ 12) : Met l yX5_hasRound vsX5_hasRound ({ frames := 3, cells := 0, slots := 0, locals := 67 }) (va_Pc [.ref ha0] (zRB dC dI cI cQ [(ha0_0, .inl (cI, 12, .inl fa0_0)), (ha0, .inr (5, [.ref ha0_0, .int ia0_1]))])) (vp_Si (fun r => 0 ≤ r.toInt ∧ r.toInt ≤ 1)) 0 0 (fun _ => False) := by
  refine Met.ofW (cc := cX5_hasRound) (maxL := 3) (ret := (some .boolean)) (by decide) rfl ?_
  intro p e s m args below meth c s₁ B hml hv
  obtain ⟨rfl, hP, hZ⟩ := hv
  obtain ⟨hK, hAO, hN⟩ := id hZ
  have hx := B.exec
  have hb := B.bytes
  have hr := B.returns
  have hts := atoms_spec (ws := vsX5_hasRound) B.pre
  have hown : s.vm.findClass RX5 = some m.cls := findClass_of_methodNamed B.named
  have hlocks := B.notSynchronized
  have hl := lv_entry ([.ref ha0]) (n := 3) (Nat.le_of_ble_eq_true rfl)
  rw [lg_entry_eq]
  generalize (lg_sl ([.ref ha0]) ++ List.replicate (3 - (lg_sl ([.ref ha0])).length) Slot.unset).toArray = ls at hl ⊢
  have hl : lv_has ls 3 [(0, .ref ha0)] := hl
  refine lv_aload_n hx hb dX5_hasRound_0 rfl (lv_at hl 0 rfl) ?_
  refine lv_iconst (v := 1) hx hb dX5_hasRound_1 (by decide) ?_
  refine z_rdi (va_runV (As := [.int 1]) (rest := []) ⟨hx, hb, hml, hown, hts⟩ (rX5_reachedFrom l dC dI cI cQ ha0 ha0_0 fa0_0 ia0_1 (by first | omega | decide | exact z_lo _ | exact z_hi _) (by first | omega | decide | exact z_lo _ | exact z_hi _) 1) (cwV 1 hts gv_X5_hasRound_X5_reachedFrom_48 rfl rfl rfl (by decide +kernel) ⟨Nat.le_of_ble_eq_true rfl, Nat.le_of_ble_eq_true rfl⟩) ⟨z_blindR, va_recv hK hP (ci := 5) (q0 := 1) rfl rfl, z_preR hZ hP [0, 1] rfl⟩ rfl rfl hl.1 rfl (lv_room (Nat.le_of_ble_eq_true rfl)) dX5_hasRound_2 ⟨Nat.le_of_ble_eq_true rfl, Nat.le_of_ble_eq_true rfl⟩) (fun y1 hy1 => ?_)
  obtain ⟨hy1_0, hy1_1⟩ := hy1
  refine lv_istore_n (lv' := [(1, .int y1), (0, .ref ha0)]) hx hb dX5_hasRound_5 rfl hl (by decide) rfl (fun ls hl => ?_)
  refine lv_iconst (v := 0) hx hb dX5_hasRound_6 (by decide) ?_
  refine lv_istore_n (lv' := [(2, .int 0), (1, .int y1), (0, .ref ha0)]) hx hb dX5_hasRound_7 rfl hl (by decide) rfl (fun ls hl => ?_)
  have hL99 : ∀ (n : Nat) (v2 : Int32) (ls : Array Slot), 0 ≤ v2.toInt → v2.toInt ≤ 12 → (12 - v2.toInt).toNat < n → lv_has ls 3 [(2, .int v2), (1, .int y1), (0, .ref ha0)] → W p l e (headSpec vsX5_hasRound ({ frames := 3, cells := 0, slots := 0, locals := 67 })).room s m ([.ref ha0] : List Value).toArray below meth c s.heap [] 0 0 (MQ below (vp_Si (fun r => 0 ≤ r.toInt ∧ r.toInt ≤ 1)) ([.ref ha0] : List Value).toArray s 0 0 (fun _ => False)) (F0 m 8 ls []) := by
    intro n
    induction n with
    | zero =>
      intro v2 ls hi100_0 hi100_1 hi100_m hl
      exact absurd hi100_m (Nat.not_lt_zero _)
    | succ n ih =>
      intro v2 ls hi100_0 hi100_1 hi100_m hl
      have ih101 := ih
      refine lv_iload_n hx hb dX5_hasRound_8 rfl (lv_at hl 0 rfl) ?_
      refine lv_aload_n hx hb dX5_hasRound_9 rfl (lv_at hl 2 rfl) ?_
      refine va_get (D := (dC, dI)) (ci := 5) (v := .int ia0_1) (C := RX5) (T := TX5) (N := 2) hx hb hts in_X5_hasRound_X5 hown hK hP 1 rfl rfl 1 (by decide) (hts (.fieldLink RX5 15 "EachOnHisCue$Net" "lines" "I") (by decide +kernel)) (fun _ h9 => h9) rfl dX5_hasRound_10 ?_
      refine lv_icmp_ge (tgt := 51) hx hb dX5_hasRound_13 (by decide) (fun hc => ?_) (fun hc => ?_)
      · have q102 : ia0_1.toInt ≤ v2.toInt := z_le rfl rfl hc
        refine lv_iconst (v := 0) hx hb dX5_hasRound_51 (by decide) ?_
        exact W.zret (v := 0) hx hb hr (rfl) (fun t ht hW => ⟨0, rfl, ⟨by first | omega | decide | exact z_lo _, by first | omega | decide | exact z_hi _⟩, ht⟩) (fun _ h => absurd h List.not_mem_nil) dX5_hasRound_52
      · have q103 : v2.toInt < ia0_1.toInt := z_nle rfl rfl hc
        refine lv_iload_n hx hb dX5_hasRound_16 rfl (lv_at hl 1 rfl) ?_
        refine lv_iload_n hx hb dX5_hasRound_17 rfl (lv_at hl 0 rfl) ?_
        refine z_rdi (va_runSN (As := [.int y1, .int v2]) (rest := []) ⟨hx, hb, hml, hown, hts⟩ (rX11_bitAt l dC dI cI cQ y1 v2) ⟨va_cnB (host := "EachOnHisCue") 2 hts gv_X5_hasRound_X11_bitAt_40 rfl rfl rfl (hN.2.2.2.2.2.2.2.2.2.1) (hts (.initialized RX11) (by decide +kernel)) (by decide +kernel) ⟨Nat.le_of_ble_eq_true rfl, Nat.le_of_ble_eq_true rfl⟩, hts (.static yX11_bitAt) (by decide +kernel), trivial⟩ ⟨z_blindR, z_preR hZ hP [] rfl⟩ rfl rfl hl.1 rfl (lv_room (Nat.le_of_ble_eq_true rfl)) dX5_hasRound_18 ⟨Nat.le_of_ble_eq_true rfl, Nat.le_of_ble_eq_true rfl⟩) (fun y104 hy104 => ?_)
        obtain ⟨hy104_0, hy104_1⟩ := hy104
        refine lv_iconst (v := 1) hx hb dX5_hasRound_21 (by decide) ?_
        refine lv_icmp_ne (tgt := 45) hx hb dX5_hasRound_22 (by decide) (fun hc => ?_) (fun hc => ?_)
        · have q105 : y104.toInt ≠ 1 := z_ne rfl (by decide) hc
          obtain ⟨y106, ey106⟩ : ∃ y : Int32, y = v2 + 1 := ⟨_, rfl⟩
          refine lv_iinc (v := y106) (lv' := [(2, .int y106), (1, .int y1), (0, .ref ha0)]) hx hb dX5_hasRound_45 hl (k := 0) rfl (by rw [ey106]; rfl) (by decide) rfl (fun ls hl => ?_)
          have hy106 : y106.toInt = v2.toInt + 1 := by rw [ey106]; exact z_add rfl (by decide) (by omega) (by omega)
          refine lv_goto (tgt := 8) hx hb dX5_hasRound_48 (by decide) ?_
          exact ih101 y106 ls (by first | omega | decide | exact z_lo _ | exact z_hi _) (by first | omega | decide | exact z_lo _ | exact z_hi _) (by omega) (lv_sub hl [0, 1, 2] rfl)
        · have q107 : y104.toInt = 1 := z_eq rfl (by decide) hc
          refine lv_aload_n hx hb dX5_hasRound_25 rfl (lv_at hl 2 rfl) ?_
          refine lv_aload_n hx hb dX5_hasRound_26 rfl (lv_at hl 2 rfl) ?_
          refine va_get (D := (dC, dI)) (ci := 5) (v := .ref ha0_0) (C := RX5) (T := TX5) (N := 2) hx hb hts in_X5_hasRound_X5 hown hK hP 1 rfl rfl 0 (by decide) (hts (.fieldLink RX5 9 "EachOnHisCue$Net" "after" "[I") (by decide +kernel)) (fun _ h9 => h9) rfl dX5_hasRound_27 ?_
          refine lv_iload_n hx hb dX5_hasRound_30 rfl (lv_at hl 0 rfl) ?_
          refine va_iald hx hb hK hP 0 0 rfl rfl (z_in (by omega) (by omega)) dX5_hasRound_31 ?_
          refine lv_topi (fun y108 ey108 => ?_)
          have gy108 : y108.toInt = (fa0_0 (v2 : Int32).toNatClampNeg).toInt := by rw [ey108]
          refine z_rdi (va_runV (As := [.int y108]) (rest := []) ⟨hx, hb, hml, hown, hts⟩ (rX5_reachedFrom l dC dI cI cQ ha0 ha0_0 fa0_0 ia0_1 (by first | omega | decide | exact z_lo _ | exact z_hi _) (by first | omega | decide | exact z_lo _ | exact z_hi _) y108) (cwV 1 hts gv_X5_hasRound_X5_reachedFrom_48 rfl rfl rfl (by decide +kernel) ⟨Nat.le_of_ble_eq_true rfl, Nat.le_of_ble_eq_true rfl⟩) ⟨z_blindR, va_recv hK hP (ci := 5) (q0 := 1) rfl rfl, z_preR hZ hP [0, 1] rfl⟩ rfl rfl hl.1 rfl (lv_room (Nat.le_of_ble_eq_true rfl)) dX5_hasRound_32 ⟨Nat.le_of_ble_eq_true rfl, Nat.le_of_ble_eq_true rfl⟩) (fun y109 hy109 => ?_)
          obtain ⟨hy109_0, hy109_1⟩ := hy109
          refine lv_iload_n hx hb dX5_hasRound_35 rfl (lv_at hl 0 rfl) ?_
          refine z_rdi (va_runSN (As := [.int y109, .int v2]) (rest := []) ⟨hx, hb, hml, hown, hts⟩ (rX11_bitAt l dC dI cI cQ y109 v2) ⟨va_cnB (host := "EachOnHisCue") 2 hts gv_X5_hasRound_X11_bitAt_40 rfl rfl rfl (hN.2.2.2.2.2.2.2.2.2.1) (hts (.initialized RX11) (by decide +kernel)) (by decide +kernel) ⟨Nat.le_of_ble_eq_true rfl, Nat.le_of_ble_eq_true rfl⟩, hts (.static yX11_bitAt) (by decide +kernel), trivial⟩ ⟨z_blindR, z_preR hZ hP [] rfl⟩ rfl rfl hl.1 rfl (lv_room (Nat.le_of_ble_eq_true rfl)) dX5_hasRound_36 ⟨Nat.le_of_ble_eq_true rfl, Nat.le_of_ble_eq_true rfl⟩) (fun y110 hy110 => ?_)
          obtain ⟨hy110_0, hy110_1⟩ := hy110
          refine lv_iconst (v := 1) hx hb dX5_hasRound_39 (by decide) ?_
          refine lv_icmp_ne (tgt := 45) hx hb dX5_hasRound_40 (by decide) (fun hc => ?_) (fun hc => ?_)
          · have q111 : y110.toInt ≠ 1 := z_ne rfl (by decide) hc
            obtain ⟨y112, ey112⟩ : ∃ y : Int32, y = v2 + 1 := ⟨_, rfl⟩
            refine lv_iinc (v := y112) (lv' := [(2, .int y112), (1, .int y1), (0, .ref ha0)]) hx hb dX5_hasRound_45 hl (k := 0) rfl (by rw [ey112]; rfl) (by decide) rfl (fun ls hl => ?_)
            have hy112 : y112.toInt = v2.toInt + 1 := by rw [ey112]; exact z_add rfl (by decide) (by omega) (by omega)
            refine lv_goto (tgt := 8) hx hb dX5_hasRound_48 (by decide) ?_
            exact ih101 y112 ls (by first | omega | decide | exact z_lo _ | exact z_hi _) (by first | omega | decide | exact z_lo _ | exact z_hi _) (by omega) (lv_sub hl [0, 1, 2] rfl)
          · have q113 : y110.toInt = 1 := z_eq rfl (by decide) hc
            refine lv_iconst (v := 1) hx hb dX5_hasRound_43 (by decide) ?_
            exact W.zret (v := 1) hx hb hr (rfl) (fun t ht hW => ⟨1, rfl, ⟨by first | omega | decide | exact z_lo _, by first | omega | decide | exact z_hi _⟩, ht⟩) (fun _ h => absurd h List.not_mem_nil) dX5_hasRound_44
  exact hL99 ((12 - (0 : Int32).toInt).toNat + 1) 0 ls (by first | omega | decide | exact z_lo _ | exact z_hi _) (by first | omega | decide | exact z_lo _ | exact z_hi _) (by omega) hl
