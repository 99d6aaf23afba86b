set_option maxRecDepth 20000 in
theorem edX10_choose_0 : decode cX10_choose 0 = .ok (.bipush (-9), 2) ∧ decode cX10_choose 2 = .ok (.ireturn, 1) := by decide +kernel
theorem dX10_choose_0 : decode cX10_choose 0 = .ok (.bipush (-9), 2) := edX10_choose_0.1
theorem dX10_choose_2 : decode cX10_choose 2 = .ok (.ireturn, 1) := edX10_choose_0.2
noncomputable def voX10_choose : List Cond := []
noncomputable def vsX10_choose : List Cond := .code yX10_choose cX10_choose 4 (some .int) :: (voX10_choose)
theorem zgX10_choose : zGd vsX10_choose := z_gdC rfl ((z_gdO (by decide +kernel) : zGd voX10_choose))
set_option maxHeartbeats 4000000 in
set_option maxRecDepth 100000 in
theorem rX10_choose (l : Launch) (dC : Nat → ClassId) (dI : Nat → Nat → Nat) (cI cQ : ClassId) (ha0 : Nat) (p1 : Int32) (p2 : Int32) (p3 : Int32) : Met l yX10_choose vsX10_choose ({ frames := 0, cells := 0, slots := 0, locals := 0 }) (va_Pc [.ref ha0, .int p1, .int p2, .int p3] (zRB dC dI cI cQ [])) (vp_Si (fun r => (-9) ≤ r.toInt ∧ r.toInt ≤ (-9) ∧ (r.toInt = -9))) 0 0 (fun _ => False) := by
  refine Met.ofW (cc := cX10_choose) (maxL := 4) (ret := (some .int)) (by decide) rfl ?_
  intro p e s m args below meth c s₁ B hml hv
  obtain ⟨rfl, hP, hZ⟩ := hv
  obtain ⟨hK, hAO, hN⟩ := id hZ
  have hx := B.exec
  have hb := B.bytes
  have hr := B.returns
  have hts := atoms_spec (ws := vsX10_choose) B.pre
  have hown : s.vm.findClass RX10 = some m.cls := findClass_of_methodNamed B.named
  have hlocks := B.notSynchronized
  have hp1l := z_lo p1
  have hp1h := z_hi p1
  have hp2l := z_lo p2
  have hp2h := z_hi p2
  have hp3l := z_lo p3
  have hp3h := z_hi p3
  have hl := lv_entry ([.ref ha0, .int p1, .int p2, .int p3]) (n := 4) (Nat.le_of_ble_eq_true rfl)
  rw [lg_entry_eq]
  generalize (lg_sl ([.ref ha0, .int p1, .int p2, .int p3]) ++ List.replicate (4 - (lg_sl ([.ref ha0, .int p1, .int p2, .int p3])).length) Slot.unset).toArray = ls at hl ⊢
  have hl : lv_has ls 4 [(0, .ref ha0), (1, .int p1), (2, .int p2), (3, .int p3)] := hl
  refine lv_bipush (v := (-9)) hx hb dX10_choose_0 (by decide) ?_
  exact W.iret (v := (-9)) hx hb hr (fun t ht hW => ⟨(-9), rfl, ⟨by first | decide | omega, by first | decide | omega, (by decide)⟩, ht⟩) (fun _ h => absurd h List.not_mem_nil) dX10_choose_2
set_option maxRecDepth 20000 in
theorem edX7_chosenBy_0 : decode cX7_chosenBy 0 = .ok (.aload_n 0, 1) ∧ decode cX7_chosenBy 1 = .ok (.iload_n 1, 1) ∧ decode cX7_chosenBy 2 = .ok (.invokevirtual 56, 3) ∧ decode cX7_chosenBy 5 = .ok (.ifCond .eq 12, 3) ∧ decode cX7_chosenBy 8 = .ok (.aload_n 0, 1) ∧ decode cX7_chosenBy 9 = .ok (.getfield 11, 3) ∧ decode cX7_chosenBy 12 = .ok (.iload_n 1, 1) ∧ decode cX7_chosenBy 13 = .ok (.aaload, 1) ∧ decode cX7_chosenBy 14 = .ok (.goto 4, 3) ∧ decode cX7_chosenBy 17 = .ok (.aconst_null, 1) ∧ decode cX7_chosenBy 18 = .ok (.astore 4, 2) ∧ decode cX7_chosenBy 20 = .ok (.aload 4, 2) := by decide +kernel
theorem dX7_chosenBy_0 : decode cX7_chosenBy 0 = .ok (.aload_n 0, 1) := edX7_chosenBy_0.1
theorem dX7_chosenBy_1 : decode cX7_chosenBy 1 = .ok (.iload_n 1, 1) := edX7_chosenBy_0.2.1
theorem dX7_chosenBy_2 : decode cX7_chosenBy 2 = .ok (.invokevirtual 56, 3) := edX7_chosenBy_0.2.2.1
theorem dX7_chosenBy_5 : decode cX7_chosenBy 5 = .ok (.ifCond .eq 12, 3) := edX7_chosenBy_0.2.2.2.1
theorem dX7_chosenBy_8 : decode cX7_chosenBy 8 = .ok (.aload_n 0, 1) := edX7_chosenBy_0.2.2.2.2.1
theorem dX7_chosenBy_9 : decode cX7_chosenBy 9 = .ok (.getfield 11, 3) := edX7_chosenBy_0.2.2.2.2.2.1
theorem dX7_chosenBy_12 : decode cX7_chosenBy 12 = .ok (.iload_n 1, 1) := edX7_chosenBy_0.2.2.2.2.2.2.1
theorem dX7_chosenBy_13 : decode cX7_chosenBy 13 = .ok (.aaload, 1) := edX7_chosenBy_0.2.2.2.2.2.2.2.1
theorem dX7_chosenBy_14 : decode cX7_chosenBy 14 = .ok (.goto 4, 3) := edX7_chosenBy_0.2.2.2.2.2.2.2.2.1
theorem dX7_chosenBy_17 : decode cX7_chosenBy 17 = .ok (.aconst_null, 1) := edX7_chosenBy_0.2.2.2.2.2.2.2.2.2.1
theorem dX7_chosenBy_18 : decode cX7_chosenBy 18 = .ok (.astore 4, 2) := edX7_chosenBy_0.2.2.2.2.2.2.2.2.2.2.1
theorem dX7_chosenBy_20 : decode cX7_chosenBy 20 = .ok (.aload 4, 2) := edX7_chosenBy_0.2.2.2.2.2.2.2.2.2.2.2
set_option maxRecDepth 20000 in
theorem edX7_chosenBy_22 : decode cX7_chosenBy 22 = .ok (.ifnonnull 8, 3) ∧ decode cX7_chosenBy 25 = .ok (.bipush (-9), 2) ∧ decode cX7_chosenBy 27 = .ok (.goto 16, 3) ∧ decode cX7_chosenBy 30 = .ok (.aload 4, 2) ∧ decode cX7_chosenBy 32 = .ok (.aload_n 0, 1) ∧ decode cX7_chosenBy 33 = .ok (.getfield 21, 3) ∧ decode cX7_chosenBy 36 = .ok (.iload_n 1, 1) ∧ decode cX7_chosenBy 37 = .ok (.iaload, 1) ∧ decode cX7_chosenBy 38 = .ok (.iload_n 2, 1) ∧ decode cX7_chosenBy 39 = .ok (.iload_n 3, 1) ∧ decode cX7_chosenBy 40 = .ok (.invokevirtual 77, 3) ∧ decode cX7_chosenBy 43 = .ok (.ireturn, 1) := by decide +kernel
theorem dX7_chosenBy_22 : decode cX7_chosenBy 22 = .ok (.ifnonnull 8, 3) := edX7_chosenBy_22.1
theorem dX7_chosenBy_25 : decode cX7_chosenBy 25 = .ok (.bipush (-9), 2) := edX7_chosenBy_22.2.1
theorem dX7_chosenBy_27 : decode cX7_chosenBy 27 = .ok (.goto 16, 3) := edX7_chosenBy_22.2.2.1
theorem dX7_chosenBy_30 : decode cX7_chosenBy 30 = .ok (.aload 4, 2) := edX7_chosenBy_22.2.2.2.1
theorem dX7_chosenBy_32 : decode cX7_chosenBy 32 = .ok (.aload_n 0, 1) := edX7_chosenBy_22.2.2.2.2.1
theorem dX7_chosenBy_33 : decode cX7_chosenBy 33 = .ok (.getfield 21, 3) := edX7_chosenBy_22.2.2.2.2.2.1
theorem dX7_chosenBy_36 : decode cX7_chosenBy 36 = .ok (.iload_n 1, 1) := edX7_chosenBy_22.2.2.2.2.2.2.1
theorem dX7_chosenBy_37 : decode cX7_chosenBy 37 = .ok (.iaload, 1) := edX7_chosenBy_22.2.2.2.2.2.2.2.1
theorem dX7_chosenBy_38 : decode cX7_chosenBy 38 = .ok (.iload_n 2, 1) := edX7_chosenBy_22.2.2.2.2.2.2.2.2.1
theorem dX7_chosenBy_39 : decode cX7_chosenBy 39 = .ok (.iload_n 3, 1) := edX7_chosenBy_22.2.2.2.2.2.2.2.2.2.1
theorem dX7_chosenBy_40 : decode cX7_chosenBy 40 = .ok (.invokevirtual 77, 3) := edX7_chosenBy_22.2.2.2.2.2.2.2.2.2.2.1
theorem dX7_chosenBy_43 : decode cX7_chosenBy 43 = .ok (.ireturn, 1) := edX7_chosenBy_22.2.2.2.2.2.2.2.2.2.2.2
noncomputable def voX7_chosenBy : List Cond := [.fieldLink RX7 11 "EachOnHisCue$Play" "cast" "[LEachOnHisCue$Next;", .fieldLink RX7 21 "EachOnHisCue$Play" "own" "[I", .methodLink RX7 56 yX7_hasPlayer, .instanceMethod yX7_hasPlayer, .selects RX7 yX7_hasPlayer yX7_hasPlayer, .initialized RX7, .methodLink RX7 77 yX6_choose, .sameMethod "EachOnHisCue$Next" "EachOnHisCue$Next" "choose" "(III)I", .instanceMethod yX6_choose, .selects RX0 yX6_choose yX0_choose, .instanceMethod yX0_choose, .initialized RX0, .code yX6_choose cX6_choose 5 (some .int), .selects RX1 yX6_choose yX6_choose, .initialized RX6, .selects RX3 yX6_choose yX3_choose, .instanceMethod yX3_choose, .initialized RX3, .selects RX6 yX6_choose yX6_choose, .selects RX8 yX6_choose yX6_choose, .selects RX10 yX6_choose yX10_choose, .instanceMethod yX10_choose, .initialized RX10]
noncomputable def vsX7_chosenBy : List Cond := .code yX7_chosenBy cX7_chosenBy 5 (some .int) :: (voX7_chosenBy ++ (vsX7_hasPlayer ++ (vsX0_choose ++ (vsX6_choose ++ (vsX3_choose ++ (vsX10_choose ++ (wsX70)))))))
theorem zgX7_chosenBy : zGd vsX7_chosenBy := z_gdC rfl (z_gdA (z_gdO (by decide +kernel) : zGd voX7_chosenBy) (z_gdA zgX7_hasPlayer (z_gdA zgX0_choose (z_gdA zgX6_choose (z_gdA zgX3_choose (z_gdA zgX10_choose (zgX7)))))))
theorem in_X7_chosenBy_X7 : ∀ w ∈ wsX70, w ∈ vsX7_chosenBy := fun _ h => List.mem_cons_of_mem _ (List.mem_append_right _ (List.mem_append_right _ (List.mem_append_right _ (List.mem_append_right _ (List.mem_append_right _ (List.mem_append_right _ (h)))))))
theorem gw_X7_chosenBy_X7_hasPlayer : GoodIn vsX7_chosenBy vsX7_hasPlayer := z_gdI (fun _ h => List.mem_cons_of_mem _ (List.mem_append_right _ (List.mem_append_left _ h))) zgX7_hasPlayer
set_option maxRecDepth 20000 in
theorem gv_X7_chosenBy_X7_hasPlayer_56 : GoodIn vsX7_chosenBy (wsV RX7 56 RX7 yX7_hasPlayer vsX7_hasPlayer) := goodIn_app (goodIn_of _ (by decide +kernel)) gw_X7_chosenBy_X7_hasPlayer
theorem gw_X7_chosenBy_X0_choose : GoodIn vsX7_chosenBy vsX0_choose := z_gdI (fun _ h => List.mem_cons_of_mem _ (List.mem_append_right _ (List.mem_append_right _ (List.mem_append_left _ h)))) zgX0_choose
set_option maxRecDepth 20000 in
theorem gv_X7_chosenBy_X0_choose_77_X0 : GoodIn vsX7_chosenBy (va_wsO RX7 77 RX0 "EachOnHisCue$Next" yX6_choose yX0_choose vsX0_choose) := goodIn_app (goodIn_of _ (by decide +kernel)) gw_X7_chosenBy_X0_choose
theorem gw_X7_chosenBy_X6_choose : GoodIn vsX7_chosenBy vsX6_choose := z_gdI (fun _ h => List.mem_cons_of_mem _ (List.mem_append_right _ (List.mem_append_right _ (List.mem_append_right _ (List.mem_append_left _ h))))) zgX6_choose
set_option maxRecDepth 20000 in
theorem gv_X7_chosenBy_X6_choose_77_X1 : GoodIn vsX7_chosenBy (va_wsU RX7 77 RX1 "EachOnHisCue$Next" yX6_choose yX6_choose vsX6_choose) := goodIn_app (goodIn_of _ (by decide +kernel)) gw_X7_chosenBy_X6_choose
theorem gw_X7_chosenBy_X3_choose : GoodIn vsX7_chosenBy vsX3_choose := z_gdI (fun _ h => List.mem_cons_of_mem _ (List.mem_append_right _ (List.mem_append_right _ (List.mem_append_right _ (List.mem_append_right _ (List.mem_append_left _ h)))))) zgX3_choose
set_option maxRecDepth 20000 in
theorem gv_X7_chosenBy_X3_choose_77_X3 : GoodIn vsX7_chosenBy (va_wsO RX7 77 RX3 "EachOnHisCue$Next" yX6_choose yX3_choose vsX3_choose) := goodIn_app (goodIn_of _ (by decide +kernel)) gw_X7_chosenBy_X3_choose
set_option maxRecDepth 20000 in
theorem gv_X7_chosenBy_X6_choose_77 : GoodIn vsX7_chosenBy (wsV RX7 77 RX6 yX6_choose vsX6_choose) := goodIn_app (goodIn_of _ (by decide +kernel)) gw_X7_chosenBy_X6_choose
set_option maxRecDepth 20000 in
theorem gv_X7_chosenBy_X6_choose_77_X8 : GoodIn vsX7_chosenBy (va_wsU RX7 77 RX8 "EachOnHisCue$Next" yX6_choose yX6_choose vsX6_choose) := goodIn_app (goodIn_of _ (by decide +kernel)) gw_X7_chosenBy_X6_choose
theorem gw_X7_chosenBy_X10_choose : GoodIn vsX7_chosenBy vsX10_choose := z_gdI (fun _ h => List.mem_cons_of_mem _ (List.mem_append_right _ (List.mem_append_right _ (List.mem_append_right _ (List.mem_append_right _ (List.mem_append_right _ (List.mem_append_left _ h))))))) zgX10_choose
set_option maxRecDepth 20000 in
theorem gv_X7_chosenBy_X10_choose_77_X10 : GoodIn vsX7_chosenBy (va_wsO RX7 77 RX10 "EachOnHisCue$Next" yX6_choose yX10_choose vsX10_choose) := goodIn_app (goodIn_of _ (by decide +kernel)) gw_X7_chosenBy_X10_choose
set_option maxHeartbeats 4000000 in
set_option maxRecDepth 100000 in
theorem rX7_chosenBy (l : Launch) (dC : Nat → ClassId) (dI : Nat → Nat → Nat) (cI cQ : ClassId) (ha0 ha0_0 ha0_2 ha0_1 ha0_4 ha0_5 ha0_6 ha0_7 ha0_11 : Nat) (PL : Nat → Nat → Int32 → Prop) (ga0_0 : Nat → ZQ) (hPLga0_0 : zHp PL ga0_0) (fa0_2 : Nat → Int32) (ia0_3 : Int32) (hia0_3l : 0 ≤ ia0_3.toInt) (hia0_3h : ia0_3.toInt ≤ 5) (ia0_8 : Int32) (ia0_9 : Int32) (hia0_9l : 0 ≤ ia0_9.toInt) (hia0_9h : ia0_9.toInt ≤ 12) (ia0_10 : Int32) (p1 : Int32) (p2 : Int32) (p3 : Int32) : Met l yX7_chosenBy vsX7_chosenBy ({ frames := 2, cells := 0, slots := 0, locals := 45 }) (va_Pc [.ref ha0, .int p1, .int p2, .int p3] (zRBP dC dI cI cQ PL [(ha0_0, .inl (cQ, 5, .inr (.inr (.inr (.inr (fun i => (ga0_0 i).1)))))), (ha0_2, .inl (cI, 5, .inl fa0_2)), (ha0, .inr (7, [.ref ha0_0, .ref ha0_1, .ref ha0_2, .int ia0_3, .ref ha0_4, .ref ha0_5, .ref ha0_6, .ref ha0_7, .int ia0_8, .int ia0_9, .int ia0_10, .ref ha0_11]))])) (vp_Si (fun r => (-9) ≤ r.toInt ∧ r.toInt ≤ 11 ∧ (zPr ia0_3.toInt ga0_0 p1.toInt (r.toInt = -9) (fun kd fg => zChB (kd p1.toNatClampNeg).toInt (fa0_2 p1.toNatClampNeg) p2 p3 r.toInt)))) 0 0 (fun _ => False) := by
  refine Met.ofW (cc := cX7_chosenBy) (maxL := 5) (ret := (some .int)) (by decide) rfl ?_
  intro p e s m args below meth c s₁ B hml hv
  obtain ⟨rfl, hP, hZ, hPl⟩ := hv
  obtain ⟨hK, hAO, hN⟩ := id hZ
  have hx := B.exec
  have hb := B.bytes
  have hr := B.returns
  have hts := atoms_spec (ws := vsX7_chosenBy) B.pre
  have hown : s.vm.findClass RX7 = some m.cls := findClass_of_methodNamed B.named
  have hlocks := B.notSynchronized
  have hp1l := z_lo p1
  have hp1h := z_hi p1
  have hp2l := z_lo p2
  have hp2h := z_hi p2
  have hp3l := z_lo p3
  have hp3h := z_hi p3
  have hl := lv_entry ([.ref ha0, .int p1, .int p2, .int p3]) (n := 5) (Nat.le_of_ble_eq_true rfl)
  rw [lg_entry_eq]
  generalize (lg_sl ([.ref ha0, .int p1, .int p2, .int p3]) ++ List.replicate (5 - (lg_sl ([.ref ha0, .int p1, .int p2, .int p3])).length) Slot.unset).toArray = ls at hl ⊢
  have hl : lv_has ls 5 [(0, .ref ha0), (1, .int p1), (2, .int p2), (3, .int p3)] := hl
  refine lv_aload_n hx hb dX7_chosenBy_0 rfl (lv_at hl 0 rfl) ?_
  refine lv_iload_n hx hb dX7_chosenBy_1 rfl (lv_at hl 1 rfl) ?_
  refine z_rdi (va_runV (As := [.int p1]) (rest := []) ⟨hx, hb, hml, hown, hts⟩ (rX7_hasPlayer l dC dI cI cQ ha0 ha0_0 ha0_1 ha0_2 ha0_4 ha0_5 ha0_6 ha0_7 ha0_11 ia0_3 hia0_3l hia0_3h ia0_8 ia0_9 hia0_9l hia0_9h ia0_10 p1) (cwV 1 hts gv_X7_chosenBy_X7_hasPlayer_56 rfl rfl rfl (by decide +kernel) ⟨Nat.le_of_ble_eq_true rfl, Nat.le_of_ble_eq_true rfl⟩) ⟨z_blindR, va_recv hK hP (ci := 7) (q0 := 2) rfl rfl, z_preR hZ hP [2] rfl⟩ rfl rfl hl.1 rfl (lv_room (Nat.le_of_ble_eq_true rfl)) dX7_chosenBy_2 ⟨Nat.le_of_ble_eq_true rfl, Nat.le_of_ble_eq_true rfl⟩) (fun y1 hy1 => ?_)
  obtain ⟨hy1_0, hy1_1, hy1_2⟩ := hy1
  refine lv_if_eq (tgt := 17) hx hb dX7_chosenBy_5 (by decide) (fun hc => ?_) (fun hc => ?_)
  · have q2 : y1.toInt = 0 := z_eq rfl (by decide) hc
    refine lv_null hx hb dX7_chosenBy_17 ?_
    refine lv_astoreN (lv' := [(4, .null), (0, .ref ha0), (1, .int p1), (2, .int p2), (3, .int p3)]) hx hb dX7_chosenBy_18 hl (by decide) rfl (fun ls hl => ?_)
    refine lv_aloadN hx hb dX7_chosenBy_20 (lv_at hl 0 rfl) ?_
    refine lv_ifnonnullN hx hb dX7_chosenBy_22 ?_
    refine lv_bipush (v := (-9)) hx hb dX7_chosenBy_25 (by decide) ?_
    refine lv_goto (tgt := 43) hx hb dX7_chosenBy_27 (by decide) ?_
    exact W.iret (v := (-9)) hx hb hr (fun t ht hW => ⟨(-9), rfl, ⟨by first | decide | omega, by first | decide | omega, (by exact Or.inl ⟨by omega, by decide⟩)⟩, ht⟩) (fun _ h => absurd h List.not_mem_nil) dX7_chosenBy_43
  · have q3 : y1.toInt ≠ 0 := z_ne rfl (by decide) hc
    refine lv_aload_n hx hb dX7_chosenBy_8 rfl (lv_at hl 0 rfl) ?_
    refine va_get (D := (dC, dI)) (ci := 7) (v := .ref ha0_0) (C := RX7) (T := TX7) (N := 12) hx hb hts in_X7_chosenBy_X7 hown hK hP 2 rfl rfl 0 (by decide) (hts (.fieldLink RX7 11 "EachOnHisCue$Play" "cast" "[LEachOnHisCue$Next;") (by decide +kernel)) (fun _ h9 => h9) rfl dX7_chosenBy_9 ?_
    refine lv_iload_n hx hb dX7_chosenBy_12 rfl (lv_at hl 1 rfl) ?_
    refine va_aldq hx hb hK hP 0 1 rfl rfl (z_in (by omega) (by omega)) dX7_chosenBy_13 ?_
    rcases hg5 : (ga0_0 (p1 : Int32).toNatClampNeg).1 with _ | y4
    · refine W.eq (g2 := F0 m 14 ls [.null]) rfl ?_
      refine lv_goto (tgt := 18) hx hb dX7_chosenBy_14 (by decide) ?_
      refine lv_astoreN (lv' := [(4, .null), (0, .ref ha0), (1, .int p1), (2, .int p2), (3, .int p3)]) hx hb dX7_chosenBy_18 hl (by decide) rfl (fun ls hl => ?_)
      refine lv_aloadN hx hb dX7_chosenBy_20 (lv_at hl 0 rfl) ?_
      refine lv_ifnonnullN hx hb dX7_chosenBy_22 ?_
      refine lv_bipush (v := (-9)) hx hb dX7_chosenBy_25 (by decide) ?_
      refine lv_goto (tgt := 43) hx hb dX7_chosenBy_27 (by decide) ?_
      exact W.iret (v := (-9)) hx hb hr (fun t ht hW => ⟨(-9), rfl, ⟨by first | decide | omega, by first | decide | omega, (by exact Or.inr ⟨by omega, by omega, fun kd fg hK => (z_knN hK (by omega) (by omega) hg5).elim⟩)⟩, ht⟩) (fun _ h => absurd h List.not_mem_nil) dX7_chosenBy_43
    · refine W.eq (g2 := F0 m 14 ls [.ref y4]) rfl ?_
      have hply4 : PL y4 (ga0_0 (p1 : Int32).toNatClampNeg).2.1 (ga0_0 (p1 : Int32).toNatClampNeg).2.2 := hPLga0_0 _ _ hg5
      refine lv_goto (tgt := 18) hx hb dX7_chosenBy_14 (by decide) ?_
      refine lv_astore (lv' := [(4, .ref y4), (0, .ref ha0), (1, .int p1), (2, .int p2), (3, .int p3)]) hx hb dX7_chosenBy_18 hl (by decide) rfl (fun ls hl => ?_)
      refine lv_aload hx hb dX7_chosenBy_20 (lv_at hl 0 rfl) ?_
      refine lv_ifnonnull (tgt := 30) hx hb dX7_chosenBy_22 (by decide) ?_
      refine lv_aload hx hb dX7_chosenBy_30 (lv_at hl 0 rfl) ?_
      refine lv_aload_n hx hb dX7_chosenBy_32 rfl (lv_at hl 1 rfl) ?_
      refine va_get (D := (dC, dI)) (ci := 7) (v := .ref ha0_2) (C := RX7) (T := TX7) (N := 12) hx hb hts in_X7_chosenBy_X7 hown hK hP 2 rfl rfl 2 (by decide) (hts (.fieldLink RX7 21 "EachOnHisCue$Play" "own" "[I") (by decide +kernel)) (fun _ h9 => h9) rfl dX7_chosenBy_33 ?_
      refine lv_iload_n hx hb dX7_chosenBy_36 rfl (lv_at hl 2 rfl) ?_
      refine va_iald hx hb hK hP 1 0 rfl rfl (z_in (by omega) (by omega)) dX7_chosenBy_37 ?_
      refine lv_topi (fun y6 ey6 => ?_)
      have gy6 : y6.toInt = (fa0_2 (p1 : Int32).toNatClampNeg).toInt := by rw [ey6]
      refine lv_iload_n hx hb dX7_chosenBy_38 rfl (lv_at hl 3 rfl) ?_
      refine lv_iload_n hx hb dX7_chosenBy_39 rfl (lv_at hl 4 rfl) ?_
      obtain ⟨kk, vv, ekk, evv, hkk, hPy⟩ := z_spl (hPl y4 _ _ hply4)
      rcases hkk with rfl | rfl | rfl | rfl | rfl | rfl
      · refine z_rdi (va_runU (As := [.int y6, .int p2, .int p3]) (rest := []) ⟨hx, hb, hml, hown, hts⟩ (rX0_choose l dC dI cI cQ y4 y6 p2 p3) (va_cwO 3 hts gv_X7_chosenBy_X0_choose_77_X0 rfl rfl rfl (b0 := cX6_choose) (m0 := 5) (r0 := (some .int)) (List.mem_of_getElem? (i := 13) rfl) (by decide +kernel) ⟨Nat.le_of_ble_eq_true rfl, Nat.le_of_ble_eq_true rfl⟩) ⟨z_blindR, va_recv hK hPy (ci := 0) (q0 := 0) rfl rfl, z_preR hZ hPy [] rfl⟩ rfl rfl hl.1 rfl (lv_room (Nat.le_of_ble_eq_true rfl)) dX7_chosenBy_40 ⟨Nat.le_of_ble_eq_true rfl, Nat.le_of_ble_eq_true rfl⟩) (fun y7 hy7 => ?_)
        obtain ⟨hy7_0, hy7_1, hy7_2⟩ := hy7
        exact W.iret (v := y7) hx hb hr (fun t ht hW => ⟨y7, rfl, ⟨by first | decide | omega, by first | decide | omega, (by exact Or.inr ⟨by omega, by omega, fun kd fg hK => (z_chE (z_knK hK (by omega) (by omega) ekk) ey6 (Or.inr (Or.inl ⟨rfl, hy7_2⟩)))⟩)⟩, ht⟩) (fun _ h => absurd h List.not_mem_nil) dX7_chosenBy_43
      · refine z_rdi (va_runU (As := [.int y6, .int p2, .int p3]) (rest := []) ⟨hx, hb, hml, hown, hts⟩ (rX6_choose_X1 l dC dI cI cQ y4 y6 p2 p3) (va_cwU 3 hts gv_X7_chosenBy_X6_choose_77_X1 rfl rfl rfl rfl (by decide +kernel) ⟨Nat.le_of_ble_eq_true rfl, Nat.le_of_ble_eq_true rfl⟩) ⟨z_blindR, va_recv hK hPy (ci := 1) (q0 := 0) rfl rfl, z_preR hZ hPy [] rfl⟩ rfl rfl hl.1 rfl (lv_room (Nat.le_of_ble_eq_true rfl)) dX7_chosenBy_40 ⟨Nat.le_of_ble_eq_true rfl, Nat.le_of_ble_eq_true rfl⟩) (fun y8 hy8 => ?_)
        obtain ⟨hy8_0, hy8_1, hy8_2⟩ := hy8
        exact W.iret (v := y8) hx hb hr (fun t ht hW => ⟨y8, rfl, ⟨by first | decide | omega, by first | decide | omega, (by exact Or.inr ⟨by omega, by omega, fun kd fg hK => (z_chE (z_knK hK (by omega) (by omega) ekk) ey6 (Or.inr (Or.inr (Or.inr ⟨Or.inr (Or.inr rfl), hy8_2⟩))))⟩)⟩, ht⟩) (fun _ h => absurd h List.not_mem_nil) dX7_chosenBy_43
      · refine z_rdi (va_runU (As := [.int y6, .int p2, .int p3]) (rest := []) ⟨hx, hb, hml, hown, hts⟩ (rX3_choose l dC dI cI cQ y4 y6 p2 p3) (va_cwO 3 hts gv_X7_chosenBy_X3_choose_77_X3 rfl rfl rfl (b0 := cX6_choose) (m0 := 5) (r0 := (some .int)) (List.mem_of_getElem? (i := 13) rfl) (by decide +kernel) ⟨Nat.le_of_ble_eq_true rfl, Nat.le_of_ble_eq_true rfl⟩) ⟨z_blindR, va_recv hK hPy (ci := 3) (q0 := 0) rfl rfl, z_preR hZ hPy [] rfl⟩ rfl rfl hl.1 rfl (lv_room (Nat.le_of_ble_eq_true rfl)) dX7_chosenBy_40 ⟨Nat.le_of_ble_eq_true rfl, Nat.le_of_ble_eq_true rfl⟩) (fun y9 hy9 => ?_)
        obtain ⟨hy9_0, hy9_1, hy9_2⟩ := hy9
        exact W.iret (v := y9) hx hb hr (fun t ht hW => ⟨y9, rfl, ⟨by first | decide | omega, by first | decide | omega, (by exact Or.inr ⟨by omega, by omega, fun kd fg hK => (z_chE (z_knK hK (by omega) (by omega) ekk) ey6 (Or.inr (Or.inr (Or.inl ⟨rfl, hy9_2⟩))))⟩)⟩, ht⟩) (fun _ h => absurd h List.not_mem_nil) dX7_chosenBy_43
      · refine z_rdi (va_runV (As := [.int y6, .int p2, .int p3]) (rest := []) ⟨hx, hb, hml, hown, hts⟩ (rX6_choose l dC dI cI cQ y4 y6 p2 p3) (cwV 3 hts gv_X7_chosenBy_X6_choose_77 rfl rfl rfl (by decide +kernel) ⟨Nat.le_of_ble_eq_true rfl, Nat.le_of_ble_eq_true rfl⟩) ⟨z_blindR, va_recv hK hPy (ci := 6) (q0 := 0) rfl rfl, z_preR hZ hPy [] rfl⟩ rfl rfl hl.1 rfl (lv_room (Nat.le_of_ble_eq_true rfl)) dX7_chosenBy_40 ⟨Nat.le_of_ble_eq_true rfl, Nat.le_of_ble_eq_true rfl⟩) (fun y10 hy10 => ?_)
        obtain ⟨hy10_0, hy10_1, hy10_2⟩ := hy10
        exact W.iret (v := y10) hx hb hr (fun t ht hW => ⟨y10, rfl, ⟨by first | decide | omega, by first | decide | omega, (by exact Or.inr ⟨by omega, by omega, fun kd fg hK => (z_chE (z_knK hK (by omega) (by omega) ekk) ey6 (Or.inr (Or.inr (Or.inr ⟨Or.inl rfl, hy10_2⟩))))⟩)⟩, ht⟩) (fun _ h => absurd h List.not_mem_nil) dX7_chosenBy_43
      · refine z_rdi (va_runU (As := [.int y6, .int p2, .int p3]) (rest := []) ⟨hx, hb, hml, hown, hts⟩ (rX6_choose_X8 l dC dI cI cQ y4 y6 p2 p3) (va_cwU 3 hts gv_X7_chosenBy_X6_choose_77_X8 rfl rfl rfl rfl (by decide +kernel) ⟨Nat.le_of_ble_eq_true rfl, Nat.le_of_ble_eq_true rfl⟩) ⟨z_blindR, va_recv hK hPy (ci := 8) (q0 := 0) rfl rfl, z_preR hZ hPy [] rfl⟩ rfl rfl hl.1 rfl (lv_room (Nat.le_of_ble_eq_true rfl)) dX7_chosenBy_40 ⟨Nat.le_of_ble_eq_true rfl, Nat.le_of_ble_eq_true rfl⟩) (fun y11 hy11 => ?_)
        obtain ⟨hy11_0, hy11_1, hy11_2⟩ := hy11
        exact W.iret (v := y11) hx hb hr (fun t ht hW => ⟨y11, rfl, ⟨by first | decide | omega, by first | decide | omega, (by exact Or.inr ⟨by omega, by omega, fun kd fg hK => (z_chE (z_knK hK (by omega) (by omega) ekk) ey6 (Or.inr (Or.inr (Or.inr ⟨Or.inr (Or.inl rfl), hy11_2⟩))))⟩)⟩, ht⟩) (fun _ h => absurd h List.not_mem_nil) dX7_chosenBy_43
      · refine z_rdi (va_runU (As := [.int y6, .int p2, .int p3]) (rest := []) ⟨hx, hb, hml, hown, hts⟩ (rX10_choose l dC dI cI cQ y4 y6 p2 p3) (va_cwO 3 hts gv_X7_chosenBy_X10_choose_77_X10 rfl rfl rfl (b0 := cX6_choose) (m0 := 5) (r0 := (some .int)) (List.mem_of_getElem? (i := 13) rfl) (by decide +kernel) ⟨Nat.le_of_ble_eq_true rfl, Nat.le_of_ble_eq_true rfl⟩) ⟨z_blindR, va_recv hK hPy (ci := 10) (q0 := 0) rfl rfl, z_preR hZ hPy [] rfl⟩ rfl rfl hl.1 rfl (lv_room (Nat.le_of_ble_eq_true rfl)) dX7_chosenBy_40 ⟨Nat.le_of_ble_eq_true rfl, Nat.le_of_ble_eq_true rfl⟩) (fun y12 hy12 => ?_)
        obtain ⟨hy12_0, hy12_1, hy12_2⟩ := hy12
        exact W.iret (v := y12) hx hb hr (fun t ht hW => ⟨y12, rfl, ⟨by first | decide | omega, by first | decide | omega, (by exact Or.inr ⟨by omega, by omega, fun kd fg hK => (z_chE (z_knK hK (by omega) (by omega) ekk) ey6 (Or.inl ⟨rfl, hy12_2⟩))⟩)⟩, ht⟩) (fun _ h => absurd h List.not_mem_nil) dX7_chosenBy_43
set_option maxRecDepth 20000 in
theorem edX7_linesOfSick_0 : decode cX7_linesOfSick 0 = .ok (.iconst 0, 1) ∧ decode cX7_linesOfSick 1 = .ok (.istore_n 1, 1) ∧ decode cX7_linesOfSick 2 = .ok (.iconst 0, 1) ∧ decode cX7_linesOfSick 3 = .ok (.istore_n 2, 1) ∧ decode cX7_linesOfSick 4 = .ok (.iload_n 2, 1) ∧ decode cX7_linesOfSick 5 = .ok (.aload_n 0, 1) ∧ decode cX7_linesOfSick 6 = .ok (.getfield 24, 3) ∧ decode cX7_linesOfSick 9 = .ok (.if_icmp .ge 30, 3) ∧ decode cX7_linesOfSick 12 = .ok (.aload_n 0, 1) ∧ decode cX7_linesOfSick 13 = .ok (.getfield 11, 3) ∧ decode cX7_linesOfSick 16 = .ok (.iload_n 2, 1) ∧ decode cX7_linesOfSick 17 = .ok (.aaload, 1) := by decide +kernel
theorem dX7_linesOfSick_0 : decode cX7_linesOfSick 0 = .ok (.iconst 0, 1) := edX7_linesOfSick_0.1
theorem dX7_linesOfSick_1 : decode cX7_linesOfSick 1 = .ok (.istore_n 1, 1) := edX7_linesOfSick_0.2.1
theorem dX7_linesOfSick_2 : decode cX7_linesOfSick 2 = .ok (.iconst 0, 1) := edX7_linesOfSick_0.2.2.1
theorem dX7_linesOfSick_3 : decode cX7_linesOfSick 3 = .ok (.istore_n 2, 1) := edX7_linesOfSick_0.2.2.2.1
theorem dX7_linesOfSick_4 : decode cX7_linesOfSick 4 = .ok (.iload_n 2, 1) := edX7_linesOfSick_0.2.2.2.2.1
theorem dX7_linesOfSick_5 : decode cX7_linesOfSick 5 = .ok (.aload_n 0, 1) := edX7_linesOfSick_0.2.2.2.2.2.1
theorem dX7_linesOfSick_6 : decode cX7_linesOfSick 6 = .ok (.getfield 24, 3) := edX7_linesOfSick_0.2.2.2.2.2.2.1
theorem dX7_linesOfSick_9 : decode cX7_linesOfSick 9 = .ok (.if_icmp .ge 30, 3) := edX7_linesOfSick_0.2.2.2.2.2.2.2.1
theorem dX7_linesOfSick_12 : decode cX7_linesOfSick 12 = .ok (.aload_n 0, 1) := edX7_linesOfSick_0.2.2.2.2.2.2.2.2.1
theorem dX7_linesOfSick_13 : decode cX7_linesOfSick 13 = .ok (.getfield 11, 3) := edX7_linesOfSick_0.2.2.2.2.2.2.2.2.2.1
theorem dX7_linesOfSick_16 : decode cX7_linesOfSick 16 = .ok (.iload_n 2, 1) := edX7_linesOfSick_0.2.2.2.2.2.2.2.2.2.2.1
theorem dX7_linesOfSick_17 : decode cX7_linesOfSick 17 = .ok (.aaload, 1) := edX7_linesOfSick_0.2.2.2.2.2.2.2.2.2.2.2
set_option maxRecDepth 20000 in
theorem edX7_linesOfSick_18 : decode cX7_linesOfSick 18 = .ok (.instanceof 81, 3) ∧ decode cX7_linesOfSick 21 = .ok (.ifCond .eq 12, 3) ∧ decode cX7_linesOfSick 24 = .ok (.iload_n 1, 1) ∧ decode cX7_linesOfSick 25 = .ok (.aload_n 0, 1) ∧ decode cX7_linesOfSick 26 = .ok (.getfield 21, 3) ∧ decode cX7_linesOfSick 29 = .ok (.iload_n 2, 1) ∧ decode cX7_linesOfSick 30 = .ok (.iaload, 1) ∧ decode cX7_linesOfSick 31 = .ok (.ior, 1) ∧ decode cX7_linesOfSick 32 = .ok (.istore_n 1, 1) ∧ decode cX7_linesOfSick 33 = .ok (.iinc 2 1, 3) ∧ decode cX7_linesOfSick 36 = .ok (.goto (-32), 3) ∧ decode cX7_linesOfSick 39 = .ok (.iload_n 1, 1) := by decide +kernel
theorem dX7_linesOfSick_18 : decode cX7_linesOfSick 18 = .ok (.instanceof 81, 3) := edX7_linesOfSick_18.1
theorem dX7_linesOfSick_21 : decode cX7_linesOfSick 21 = .ok (.ifCond .eq 12, 3) := edX7_linesOfSick_18.2.1
theorem dX7_linesOfSick_24 : decode cX7_linesOfSick 24 = .ok (.iload_n 1, 1) := edX7_linesOfSick_18.2.2.1
theorem dX7_linesOfSick_25 : decode cX7_linesOfSick 25 = .ok (.aload_n 0, 1) := edX7_linesOfSick_18.2.2.2.1
theorem dX7_linesOfSick_26 : decode cX7_linesOfSick 26 = .ok (.getfield 21, 3) := edX7_linesOfSick_18.2.2.2.2.1
theorem dX7_linesOfSick_29 : decode cX7_linesOfSick 29 = .ok (.iload_n 2, 1) := edX7_linesOfSick_18.2.2.2.2.2.1
theorem dX7_linesOfSick_30 : decode cX7_linesOfSick 30 = .ok (.iaload, 1) := edX7_linesOfSick_18.2.2.2.2.2.2.1
theorem dX7_linesOfSick_31 : decode cX7_linesOfSick 31 = .ok (.ior, 1) := edX7_linesOfSick_18.2.2.2.2.2.2.2.1
theorem dX7_linesOfSick_32 : decode cX7_linesOfSick 32 = .ok (.istore_n 1, 1) := edX7_linesOfSick_18.2.2.2.2.2.2.2.2.1
theorem dX7_linesOfSick_33 : decode cX7_linesOfSick 33 = .ok (.iinc 2 1, 3) := edX7_linesOfSick_18.2.2.2.2.2.2.2.2.2.1
theorem dX7_linesOfSick_36 : decode cX7_linesOfSick 36 = .ok (.goto (-32), 3) := edX7_linesOfSick_18.2.2.2.2.2.2.2.2.2.2.1
theorem dX7_linesOfSick_39 : decode cX7_linesOfSick 39 = .ok (.iload_n 1, 1) := edX7_linesOfSick_18.2.2.2.2.2.2.2.2.2.2.2
theorem dX7_linesOfSick_40 : decode cX7_linesOfSick 40 = .ok (.ireturn, 1) := by decide +kernel
noncomputable def voX7_linesOfSick : List Cond := [.fieldLink RX7 24 "EachOnHisCue$Play" "players" "I", .fieldLink RX7 11 "EachOnHisCue$Play" "cast" "[LEachOnHisCue$Next;", .classLink RX7 81 "EachOnHisCue$Sick", .fieldLink RX7 21 "EachOnHisCue$Play" "own" "[I"]
noncomputable def vsX7_linesOfSick : List Cond := .code yX7_linesOfSick cX7_linesOfSick 3 (some .int) :: (voX7_linesOfSick ++ (wsX70))
theorem zgX7_linesOfSick : zGd vsX7_linesOfSick := z_gdC rfl (z_gdA (z_gdO (by decide +kernel) : zGd voX7_linesOfSick) (zgX7))
theorem in_X7_linesOfSick_X7 : ∀ w ∈ wsX70, w ∈ vsX7_linesOfSick := fun _ h => List.mem_cons_of_mem _ (List.mem_append_right _ (h))
set_option maxHeartbeats 4000000 in
set_option maxRecDepth 100000 in
theorem rX7_linesOfSick (l : Launch) (dC : Nat → ClassId) (dI : Nat → Nat → Nat) (cI cQ : ClassId) (ha0 ha0_0 ha0_2 ha0_1 ha0_4 ha0_5 ha0_6 ha0_7 ha0_11 : Nat) (PL : Nat → Nat → Int32 → Prop) (ga0_0 : Nat → ZQ) (hPLga0_0 : zHp PL ga0_0) (fa0_2 : Nat → Int32) (ia0_3 : Int32) (hia0_3l : 0 ≤ ia0_3.toInt) (hia0_3h : ia0_3.toInt ≤ 5) (ia0_8 : Int32) (ia0_9 : Int32) (hia0_9l : 0 ≤ ia0_9.toInt) (hia0_9h : ia0_9.toInt ≤ 12) (ia0_10 : Int32) : Met l yX7_linesOfSick vsX7_linesOfSick ({ frames := 0, cells := 0, slots := 0, locals := 0 }) (va_Pc [.ref ha0] (zRBP dC dI cI cQ PL [(ha0_0, .inl (cQ, 5, .inr (.inr (.inr (.inr (fun i => (ga0_0 i).1)))))), (ha0_2, .inl (cI, 5, .inl fa0_2)), (ha0, .inr (7, [.ref ha0_0, .ref ha0_1, .ref ha0_2, .int ia0_3, .ref ha0_4, .ref ha0_5, .ref ha0_6, .ref ha0_7, .int ia0_8, .int ia0_9, .int ia0_10, .ref ha0_11]))])) (vp_Si (fun r => (-2147483648) ≤ r.toInt ∧ r.toInt ≤ 2147483647 ∧ (zSkI ia0_3.toInt ia0_9.toInt ga0_0 fa0_2 ia0_3.toInt r))) 0 0 (fun _ => False) := by
  refine Met.ofW (cc := cX7_linesOfSick) (maxL := 3) (ret := (some .int)) (by decide) rfl ?_
  intro p e s m args below meth c s₁ B hml hv
  obtain ⟨rfl, hP, hZ, hPl⟩ := hv
  obtain ⟨hK, hAO, hN⟩ := id hZ
  have hx := B.exec
  have hb := B.bytes
  have hr := B.returns
  have hts := atoms_spec (ws := vsX7_linesOfSick) B.pre
  have hown : s.vm.findClass RX7 = some m.cls := findClass_of_methodNamed B.named
  have hlocks := B.notSynchronized
  have hl := lv_entry ([.ref ha0]) (n := 3) (Nat.le_of_ble_eq_true rfl)
  rw [lg_entry_eq]
  generalize (lg_sl ([.ref ha0]) ++ List.replicate (3 - (lg_sl ([.ref ha0])).length) Slot.unset).toArray = ls at hl ⊢
  have hl : lv_has ls 3 [(0, .ref ha0)] := hl
  refine lv_iconst (v := 0) hx hb dX7_linesOfSick_0 (by decide) ?_
  refine lv_istore_n (lv' := [(1, .int 0), (0, .ref ha0)]) hx hb dX7_linesOfSick_1 rfl hl (by decide) rfl (fun ls hl => ?_)
  refine lv_iconst (v := 0) hx hb dX7_linesOfSick_2 (by decide) ?_
  refine lv_istore_n (lv' := [(2, .int 0), (1, .int 0), (0, .ref ha0)]) hx hb dX7_linesOfSick_3 rfl hl (by decide) rfl (fun ls hl => ?_)
  have hL68 : ∀ (n : Nat) (v1 : Int32) (v2 : Int32) (ls : Array Slot), 0 ≤ v1.toInt → v1.toInt ≤ 5 → (zSkI ia0_3.toInt ia0_9.toInt ga0_0 fa0_2 (v1 : Int32).toInt (v2 : Int32)) → ((v1 : Int32).toInt ≤ ia0_3.toInt) → (5 - v1.toInt).toNat < n → lv_has ls 3 [(2, .int v1), (1, .int v2), (0, .ref ha0)] → W p l e (headSpec vsX7_linesOfSick ({ frames := 0, cells := 0, slots := 0, locals := 0 })).room s m ([.ref ha0] : List Value).toArray below meth c s.heap [] 0 0 (MQ below (vp_Si (fun r => (-2147483648) ≤ r.toInt ∧ r.toInt ≤ 2147483647 ∧ (zSkI ia0_3.toInt ia0_9.toInt ga0_0 fa0_2 ia0_3.toInt r))) ([.ref ha0] : List Value).toArray s 0 0 (fun _ => False)) (F0 m 4 ls []) := by
    intro n
    induction n with
    | zero =>
      intro v1 v2 ls hi69_0 hi69_1 hi69_x0 hi69_x1 hi69_m hl
      exact absurd hi69_m (Nat.not_lt_zero _)
    | succ n ih =>
      intro v1 v2 ls hi69_0 hi69_1 hi69_x0 hi69_x1 hi69_m hl
      have ih70 := ih
      refine lv_iload_n hx hb dX7_linesOfSick_4 rfl (lv_at hl 0 rfl) ?_
      refine lv_aload_n hx hb dX7_linesOfSick_5 rfl (lv_at hl 2 rfl) ?_
      refine va_get (D := (dC, dI)) (ci := 7) (v := .int ia0_3) (C := RX7) (T := TX7) (N := 12) hx hb hts in_X7_linesOfSick_X7 hown hK hP 2 rfl rfl 3 (by decide) (hts (.fieldLink RX7 24 "EachOnHisCue$Play" "players" "I") (by decide +kernel)) (fun _ h9 => h9) rfl dX7_linesOfSick_6 ?_
      refine lv_icmp_ge (tgt := 39) hx hb dX7_linesOfSick_9 (by decide) (fun hc => ?_) (fun hc => ?_)
      · have q71 : ia0_3.toInt ≤ v1.toInt := z_le rfl rfl hc
        refine lv_iload_n hx hb dX7_linesOfSick_39 rfl (lv_at hl 1 rfl) ?_
        exact W.iret (v := v2) hx hb hr (fun t ht hW => ⟨v2, rfl, ⟨z_lo _, z_hi _, (by exact z_skE (by assumption) (by omega))⟩, ht⟩) (fun _ h => absurd h List.not_mem_nil) dX7_linesOfSick_40
      · have q72 : v1.toInt < ia0_3.toInt := z_nle rfl rfl hc
        refine lv_aload_n hx hb dX7_linesOfSick_12 rfl (lv_at hl 2 rfl) ?_
        refine va_get (D := (dC, dI)) (ci := 7) (v := .ref ha0_0) (C := RX7) (T := TX7) (N := 12) hx hb hts in_X7_linesOfSick_X7 hown hK hP 2 rfl rfl 0 (by decide) (hts (.fieldLink RX7 11 "EachOnHisCue$Play" "cast" "[LEachOnHisCue$Next;") (by decide +kernel)) (fun _ h9 => h9) rfl dX7_linesOfSick_13 ?_
        refine lv_iload_n hx hb dX7_linesOfSick_16 rfl (lv_at hl 0 rfl) ?_
        refine va_aldq hx hb hK hP 0 1 rfl rfl (z_in (by omega) (by omega)) dX7_linesOfSick_17 ?_
        rcases hg74 : (ga0_0 (v1 : Int32).toNatClampNeg).1 with _ | y73
        · refine W.eq (g2 := F0 m 18 ls [.null]) rfl ?_
          refine lv_instN hx hb dX7_linesOfSick_18 ?_
          refine lv_if_eq (tgt := 33) hx hb dX7_linesOfSick_21 (by decide) (fun hc => ?_) (fun hc => ?_)
          · skip
            obtain ⟨y75, ey75⟩ : ∃ y : Int32, y = v1 + 1 := ⟨_, rfl⟩
            refine lv_iinc (v := y75) (lv' := [(2, .int y75), (1, .int v2), (0, .ref ha0)]) hx hb dX7_linesOfSick_33 hl (k := 0) rfl (by rw [ey75]; rfl) (by decide) rfl (fun ls hl => ?_)
            have hy75 : y75.toInt = v1.toInt + 1 := by rw [ey75]; exact z_add rfl (by decide) (by omega) (by omega)
            refine lv_goto (tgt := 4) hx hb dX7_linesOfSick_36 (by decide) ?_
            exact ih70 y75 v2 ls (by first | decide | omega) (by first | decide | omega) (z_skIX (by omega : 0 ≤ (v1 : Int32).toInt) (by omega) hg74) (by have e0 : (0 : Int32).toInt = 0 := (by decide); omega) (by omega) (lv_sub hl [0, 1, 2] rfl)
          · exact absurd hc (by decide)
        · refine W.eq (g2 := F0 m 18 ls [.ref y73]) rfl ?_
          have hply73 : PL y73 (ga0_0 (v1 : Int32).toNatClampNeg).2.1 (ga0_0 (v1 : Int32).toNatClampNeg).2.2 := hPLga0_0 _ _ hg74
          obtain ⟨kk, vv, ekk, evv, hkk, hPy⟩ := z_spl (hPl y73 _ _ hply73)
          rcases hkk with rfl | rfl | rfl | rfl | rfl | rfl
          · refine va_instNo (C := RX0) hx hb hown (hts (.classLink RX7 81 "EachOnHisCue$Sick") (by decide +kernel)) (hN.2.2.2.2.2.2.2.2.2.2.2.2.2.2.2.2.1) (va_recv hK hPy (ci := 0) (q0 := 0) rfl rfl) dX7_linesOfSick_18 ?_
            refine lv_if_eq (tgt := 33) hx hb dX7_linesOfSick_21 (by decide) (fun hc => ?_) (fun hc => ?_)
            · skip
              obtain ⟨y76, ey76⟩ : ∃ y : Int32, y = v1 + 1 := ⟨_, rfl⟩
              refine lv_iinc (v := y76) (lv' := [(2, .int y76), (1, .int v2), (0, .ref ha0)]) hx hb dX7_linesOfSick_33 hl (k := 0) rfl (by rw [ey76]; rfl) (by decide) rfl (fun ls hl => ?_)
              have hy76 : y76.toInt = v1.toInt + 1 := by rw [ey76]; exact z_add rfl (by decide) (by omega) (by omega)
              refine lv_goto (tgt := 4) hx hb dX7_linesOfSick_36 (by decide) ?_
              exact ih70 y76 v2 ls (by first | decide | omega) (by first | decide | omega) (z_skIN (by assumption) (by omega) (by omega) ekk (by decide) (by omega)) (by have e0 : (0 : Int32).toInt = 0 := (by decide); omega) (by omega) (lv_sub hl [0, 1, 2] rfl)
            · exact absurd hc (by decide)
          · refine va_instNo (C := RX1) hx hb hown (hts (.classLink RX7 81 "EachOnHisCue$Sick") (by decide +kernel)) (hN.2.2.2.2.2.2.2.2.2.2.2.2.2.2.2.2.2.1) (va_recv hK hPy (ci := 1) (q0 := 0) rfl rfl) dX7_linesOfSick_18 ?_
            refine lv_if_eq (tgt := 33) hx hb dX7_linesOfSick_21 (by decide) (fun hc => ?_) (fun hc => ?_)
            · skip
              obtain ⟨y77, ey77⟩ : ∃ y : Int32, y = v1 + 1 := ⟨_, rfl⟩
              refine lv_iinc (v := y77) (lv' := [(2, .int y77), (1, .int v2), (0, .ref ha0)]) hx hb dX7_linesOfSick_33 hl (k := 0) rfl (by rw [ey77]; rfl) (by decide) rfl (fun ls hl => ?_)
              have hy77 : y77.toInt = v1.toInt + 1 := by rw [ey77]; exact z_add rfl (by decide) (by omega) (by omega)
              refine lv_goto (tgt := 4) hx hb dX7_linesOfSick_36 (by decide) ?_
              exact ih70 y77 v2 ls (by first | decide | omega) (by first | decide | omega) (z_skIN (by assumption) (by omega) (by omega) ekk (by decide) (by omega)) (by have e0 : (0 : Int32).toInt = 0 := (by decide); omega) (by omega) (lv_sub hl [0, 1, 2] rfl)
            · exact absurd hc (by decide)
          · refine va_instNo (C := RX3) hx hb hown (hts (.classLink RX7 81 "EachOnHisCue$Sick") (by decide +kernel)) (hN.2.2.2.2.2.2.2.2.2.2.2.2.2.2.2.2.2.2.1) (va_recv hK hPy (ci := 3) (q0 := 0) rfl rfl) dX7_linesOfSick_18 ?_
            refine lv_if_eq (tgt := 33) hx hb dX7_linesOfSick_21 (by decide) (fun hc => ?_) (fun hc => ?_)
            · skip
              obtain ⟨y78, ey78⟩ : ∃ y : Int32, y = v1 + 1 := ⟨_, rfl⟩
              refine lv_iinc (v := y78) (lv' := [(2, .int y78), (1, .int v2), (0, .ref ha0)]) hx hb dX7_linesOfSick_33 hl (k := 0) rfl (by rw [ey78]; rfl) (by decide) rfl (fun ls hl => ?_)
              have hy78 : y78.toInt = v1.toInt + 1 := by rw [ey78]; exact z_add rfl (by decide) (by omega) (by omega)
              refine lv_goto (tgt := 4) hx hb dX7_linesOfSick_36 (by decide) ?_
              exact ih70 y78 v2 ls (by first | decide | omega) (by first | decide | omega) (z_skIN (by assumption) (by omega) (by omega) ekk (by decide) (by omega)) (by have e0 : (0 : Int32).toInt = 0 := (by decide); omega) (by omega) (lv_sub hl [0, 1, 2] rfl)
            · exact absurd hc (by decide)
          · refine va_instNo (C := RX6) hx hb hown (hts (.classLink RX7 81 "EachOnHisCue$Sick") (by decide +kernel)) (hN.2.2.2.2.2.2.2.2.2.2.2.2.2.2.2.2.2.2.2.1) (va_recv hK hPy (ci := 6) (q0 := 0) rfl rfl) dX7_linesOfSick_18 ?_
            refine lv_if_eq (tgt := 33) hx hb dX7_linesOfSick_21 (by decide) (fun hc => ?_) (fun hc => ?_)
            · skip
              obtain ⟨y79, ey79⟩ : ∃ y : Int32, y = v1 + 1 := ⟨_, rfl⟩
              refine lv_iinc (v := y79) (lv' := [(2, .int y79), (1, .int v2), (0, .ref ha0)]) hx hb dX7_linesOfSick_33 hl (k := 0) rfl (by rw [ey79]; rfl) (by decide) rfl (fun ls hl => ?_)
              have hy79 : y79.toInt = v1.toInt + 1 := by rw [ey79]; exact z_add rfl (by decide) (by omega) (by omega)
              refine lv_goto (tgt := 4) hx hb dX7_linesOfSick_36 (by decide) ?_
              exact ih70 y79 v2 ls (by first | decide | omega) (by first | decide | omega) (z_skIN (by assumption) (by omega) (by omega) ekk (by decide) (by omega)) (by have e0 : (0 : Int32).toInt = 0 := (by decide); omega) (by omega) (lv_sub hl [0, 1, 2] rfl)
            · exact absurd hc (by decide)
          · refine va_instNo (C := RX8) hx hb hown (hts (.classLink RX7 81 "EachOnHisCue$Sick") (by decide +kernel)) (hN.2.2.2.2.2.2.2.2.2.2.2.2.2.2.2.2.2.2.2.2.1) (va_recv hK hPy (ci := 8) (q0 := 0) rfl rfl) dX7_linesOfSick_18 ?_
            refine lv_if_eq (tgt := 33) hx hb dX7_linesOfSick_21 (by decide) (fun hc => ?_) (fun hc => ?_)
            · skip
              obtain ⟨y80, ey80⟩ : ∃ y : Int32, y = v1 + 1 := ⟨_, rfl⟩
              refine lv_iinc (v := y80) (lv' := [(2, .int y80), (1, .int v2), (0, .ref ha0)]) hx hb dX7_linesOfSick_33 hl (k := 0) rfl (by rw [ey80]; rfl) (by decide) rfl (fun ls hl => ?_)
              have hy80 : y80.toInt = v1.toInt + 1 := by rw [ey80]; exact z_add rfl (by decide) (by omega) (by omega)
              refine lv_goto (tgt := 4) hx hb dX7_linesOfSick_36 (by decide) ?_
              exact ih70 y80 v2 ls (by first | decide | omega) (by first | decide | omega) (z_skIN (by assumption) (by omega) (by omega) ekk (by decide) (by omega)) (by have e0 : (0 : Int32).toInt = 0 := (by decide); omega) (by omega) (lv_sub hl [0, 1, 2] rfl)
            · exact absurd hc (by decide)
          · refine va_instS hx hb hown (hts (.classLink RX7 81 "EachOnHisCue$Sick") (by decide +kernel)) (hK.1 10 _ rfl).2 (va_recv hK hPy (ci := 10) (q0 := 0) rfl rfl) dX7_linesOfSick_18 ?_
            refine lv_if_eq (tgt := 33) hx hb dX7_linesOfSick_21 (by decide) (fun hc => ?_) (fun hc => ?_)
            · exact absurd hc (by decide)
            · skip
              refine lv_iload_n hx hb dX7_linesOfSick_24 rfl (lv_at hl 1 rfl) ?_
              refine lv_aload_n hx hb dX7_linesOfSick_25 rfl (lv_at hl 2 rfl) ?_
              refine va_get (D := (dC, dI)) (ci := 7) (v := .ref ha0_2) (C := RX7) (T := TX7) (N := 12) hx hb hts in_X7_linesOfSick_X7 hown hK hP 2 rfl rfl 2 (by decide) (hts (.fieldLink RX7 21 "EachOnHisCue$Play" "own" "[I") (by decide +kernel)) (fun _ h9 => h9) rfl dX7_linesOfSick_26 ?_
              refine lv_iload_n hx hb dX7_linesOfSick_29 rfl (lv_at hl 0 rfl) ?_
              refine va_iald hx hb hK hP 1 0 rfl rfl (z_in (by omega) (by omega)) dX7_linesOfSick_30 ?_
              refine lv_topi (fun y81 ey81 => ?_)
              have gy81 : y81.toInt = (fa0_2 (v1 : Int32).toNatClampNeg).toInt := by rw [ey81]
              refine lv_ior hx hb dX7_linesOfSick_31 ?_
              refine lv_topi (fun y82 ey82 => ?_)
              refine lv_istore_n (lv' := [(1, .int y82), (2, .int v1), (0, .ref ha0)]) hx hb dX7_linesOfSick_32 rfl hl (by decide) rfl (fun ls hl => ?_)
              obtain ⟨y83, ey83⟩ : ∃ y : Int32, y = v1 + 1 := ⟨_, rfl⟩
              refine lv_iinc (v := y83) (lv' := [(2, .int y83), (1, .int y82), (0, .ref ha0)]) hx hb dX7_linesOfSick_33 hl (k := 1) rfl (by rw [ey83]; rfl) (by decide) rfl (fun ls hl => ?_)
              have hy83 : y83.toInt = v1.toInt + 1 := by rw [ey83]; exact z_add rfl (by decide) (by omega) (by omega)
              refine lv_goto (tgt := 4) hx hb dX7_linesOfSick_36 (by decide) ?_
              exact ih70 y83 y82 ls (by first | decide | omega) (by first | decide | omega) (z_skIY (by assumption) (by omega) (by omega) ekk ey81 ey82 (by omega)) (by have e0 : (0 : Int32).toInt = 0 := (by decide); omega) (by omega) (lv_sub hl [0, 1, 2] rfl)
  exact hL68 ((5 - (0 : Int32).toInt).toNat + 1) 0 0 ls (by decide) (by decide) (z_skI0 (by decide)) (by have e0 : (0 : Int32).toInt = 0 := (by decide); omega) (by omega) hl
set_option maxRecDepth 20000 in
theorem edX7_cuedBy_0 : decode cX7_cuedBy 0 = .ok (.iconst 0, 1) ∧ decode cX7_cuedBy 1 = .ok (.istore 4, 2) ∧ decode cX7_cuedBy 3 = .ok (.iconst 1, 1) ∧ decode cX7_cuedBy 4 = .ok (.istore 5, 2) ∧ decode cX7_cuedBy 6 = .ok (.iload 5, 2) ∧ decode cX7_cuedBy 8 = .ok (.aload_n 0, 1) ∧ decode cX7_cuedBy 9 = .ok (.getfield 43, 3) ∧ decode cX7_cuedBy 12 = .ok (.if_icmp .ge 52, 3) ∧ decode cX7_cuedBy 15 = .ok (.aload_n 0, 1) ∧ decode cX7_cuedBy 16 = .ok (.getfield 37, 3) ∧ decode cX7_cuedBy 19 = .ok (.iload 5, 2) ∧ decode cX7_cuedBy 21 = .ok (.iaload, 1) := by decide +kernel
theorem dX7_cuedBy_0 : decode cX7_cuedBy 0 = .ok (.iconst 0, 1) := edX7_cuedBy_0.1
theorem dX7_cuedBy_1 : decode cX7_cuedBy 1 = .ok (.istore 4, 2) := edX7_cuedBy_0.2.1
theorem dX7_cuedBy_3 : decode cX7_cuedBy 3 = .ok (.iconst 1, 1) := edX7_cuedBy_0.2.2.1
theorem dX7_cuedBy_4 : decode cX7_cuedBy 4 = .ok (.istore 5, 2) := edX7_cuedBy_0.2.2.2.1
theorem dX7_cuedBy_6 : decode cX7_cuedBy 6 = .ok (.iload 5, 2) := edX7_cuedBy_0.2.2.2.2.1
theorem dX7_cuedBy_8 : decode cX7_cuedBy 8 = .ok (.aload_n 0, 1) := edX7_cuedBy_0.2.2.2.2.2.1
theorem dX7_cuedBy_9 : decode cX7_cuedBy 9 = .ok (.getfield 43, 3) := edX7_cuedBy_0.2.2.2.2.2.2.1
theorem dX7_cuedBy_12 : decode cX7_cuedBy 12 = .ok (.if_icmp .ge 52, 3) := edX7_cuedBy_0.2.2.2.2.2.2.2.1
theorem dX7_cuedBy_15 : decode cX7_cuedBy 15 = .ok (.aload_n 0, 1) := edX7_cuedBy_0.2.2.2.2.2.2.2.2.1
theorem dX7_cuedBy_16 : decode cX7_cuedBy 16 = .ok (.getfield 37, 3) := edX7_cuedBy_0.2.2.2.2.2.2.2.2.2.1
theorem dX7_cuedBy_19 : decode cX7_cuedBy 19 = .ok (.iload 5, 2) := edX7_cuedBy_0.2.2.2.2.2.2.2.2.2.2.1
theorem dX7_cuedBy_21 : decode cX7_cuedBy 21 = .ok (.iaload, 1) := edX7_cuedBy_0.2.2.2.2.2.2.2.2.2.2.2
set_option maxRecDepth 20000 in
theorem edX7_cuedBy_22 : decode cX7_cuedBy 22 = .ok (.iload_n 3, 1) ∧ decode cX7_cuedBy 23 = .ok (.iadd, 1) ∧ decode cX7_cuedBy 24 = .ok (.iconst 4, 1) ∧ decode cX7_cuedBy 25 = .ok (.invokestatic 91, 3) ∧ decode cX7_cuedBy 28 = .ok (.istore 6, 2) ∧ decode cX7_cuedBy 30 = .ok (.aload_n 0, 1) ∧ decode cX7_cuedBy 31 = .ok (.iload_n 1, 1) ∧ decode cX7_cuedBy 32 = .ok (.iload_n 2, 1) ∧ decode cX7_cuedBy 33 = .ok (.iload 5, 2) ∧ decode cX7_cuedBy 35 = .ok (.aload_n 0, 1) ∧ decode cX7_cuedBy 36 = .ok (.iload 5, 2) ∧ decode cX7_cuedBy 38 = .ok (.iload 6, 2) := by decide +kernel
theorem dX7_cuedBy_22 : decode cX7_cuedBy 22 = .ok (.iload_n 3, 1) := edX7_cuedBy_22.1
theorem dX7_cuedBy_23 : decode cX7_cuedBy 23 = .ok (.iadd, 1) := edX7_cuedBy_22.2.1
theorem dX7_cuedBy_24 : decode cX7_cuedBy 24 = .ok (.iconst 4, 1) := edX7_cuedBy_22.2.2.1
theorem dX7_cuedBy_25 : decode cX7_cuedBy 25 = .ok (.invokestatic 91, 3) := edX7_cuedBy_22.2.2.2.1
theorem dX7_cuedBy_28 : decode cX7_cuedBy 28 = .ok (.istore 6, 2) := edX7_cuedBy_22.2.2.2.2.1
theorem dX7_cuedBy_30 : decode cX7_cuedBy 30 = .ok (.aload_n 0, 1) := edX7_cuedBy_22.2.2.2.2.2.1
theorem dX7_cuedBy_31 : decode cX7_cuedBy 31 = .ok (.iload_n 1, 1) := edX7_cuedBy_22.2.2.2.2.2.2.1
theorem dX7_cuedBy_32 : decode cX7_cuedBy 32 = .ok (.iload_n 2, 1) := edX7_cuedBy_22.2.2.2.2.2.2.2.1
theorem dX7_cuedBy_33 : decode cX7_cuedBy 33 = .ok (.iload 5, 2) := edX7_cuedBy_22.2.2.2.2.2.2.2.2.1
theorem dX7_cuedBy_35 : decode cX7_cuedBy 35 = .ok (.aload_n 0, 1) := edX7_cuedBy_22.2.2.2.2.2.2.2.2.2.1
theorem dX7_cuedBy_36 : decode cX7_cuedBy 36 = .ok (.iload 5, 2) := edX7_cuedBy_22.2.2.2.2.2.2.2.2.2.2.1
theorem dX7_cuedBy_38 : decode cX7_cuedBy 38 = .ok (.iload 6, 2) := edX7_cuedBy_22.2.2.2.2.2.2.2.2.2.2.2
set_option maxRecDepth 20000 in
theorem edX7_cuedBy_40 : decode cX7_cuedBy 40 = .ok (.invokevirtual 96, 3) ∧ decode cX7_cuedBy 43 = .ok (.invokevirtual 99, 3) ∧ decode cX7_cuedBy 46 = .ok (.ifCond .eq 12, 3) ∧ decode cX7_cuedBy 49 = .ok (.iload 4, 2) ∧ decode cX7_cuedBy 51 = .ok (.iconst 1, 1) ∧ decode cX7_cuedBy 52 = .ok (.iload 5, 2) ∧ decode cX7_cuedBy 54 = .ok (.ishl, 1) ∧ decode cX7_cuedBy 55 = .ok (.ior, 1) ∧ decode cX7_cuedBy 56 = .ok (.istore 4, 2) ∧ decode cX7_cuedBy 58 = .ok (.iinc 5 1, 3) ∧ decode cX7_cuedBy 61 = .ok (.goto (-55), 3) ∧ decode cX7_cuedBy 64 = .ok (.iload 4, 2) := by decide +kernel
theorem dX7_cuedBy_40 : decode cX7_cuedBy 40 = .ok (.invokevirtual 96, 3) := edX7_cuedBy_40.1
theorem dX7_cuedBy_43 : decode cX7_cuedBy 43 = .ok (.invokevirtual 99, 3) := edX7_cuedBy_40.2.1
theorem dX7_cuedBy_46 : decode cX7_cuedBy 46 = .ok (.ifCond .eq 12, 3) := edX7_cuedBy_40.2.2.1
theorem dX7_cuedBy_49 : decode cX7_cuedBy 49 = .ok (.iload 4, 2) := edX7_cuedBy_40.2.2.2.1
theorem dX7_cuedBy_51 : decode cX7_cuedBy 51 = .ok (.iconst 1, 1) := edX7_cuedBy_40.2.2.2.2.1
theorem dX7_cuedBy_52 : decode cX7_cuedBy 52 = .ok (.iload 5, 2) := edX7_cuedBy_40.2.2.2.2.2.1
theorem dX7_cuedBy_54 : decode cX7_cuedBy 54 = .ok (.ishl, 1) := edX7_cuedBy_40.2.2.2.2.2.2.1
theorem dX7_cuedBy_55 : decode cX7_cuedBy 55 = .ok (.ior, 1) := edX7_cuedBy_40.2.2.2.2.2.2.2.1
theorem dX7_cuedBy_56 : decode cX7_cuedBy 56 = .ok (.istore 4, 2) := edX7_cuedBy_40.2.2.2.2.2.2.2.2.1
theorem dX7_cuedBy_58 : decode cX7_cuedBy 58 = .ok (.iinc 5 1, 3) := edX7_cuedBy_40.2.2.2.2.2.2.2.2.2.1
theorem dX7_cuedBy_61 : decode cX7_cuedBy 61 = .ok (.goto (-55), 3) := edX7_cuedBy_40.2.2.2.2.2.2.2.2.2.2.1
theorem dX7_cuedBy_64 : decode cX7_cuedBy 64 = .ok (.iload 4, 2) := edX7_cuedBy_40.2.2.2.2.2.2.2.2.2.2.2
theorem dX7_cuedBy_66 : decode cX7_cuedBy 66 = .ok (.ireturn, 1) := by decide +kernel
noncomputable def voX7_cuedBy : List Cond := [.fieldLink RX7 43 "EachOnHisCue$Play" "lines" "I", .fieldLink RX7 37 "EachOnHisCue$Play" "cues" "[I", .methodLink RX7 91 Lib.Math.min.name, .static Lib.Math.min.name, .initialized "java/lang/Math", .code Lib.Math.min.name Lib.Math.min.code 2 (some .int), .methodLink RX7 96 yX7_heardOf, .instanceMethod yX7_heardOf, .selects RX7 yX7_heardOf yX7_heardOf, .initialized RX7, .methodLink RX7 99 yX7_endsAsAhead, .instanceMethod yX7_endsAsAhead, .selects RX7 yX7_endsAsAhead yX7_endsAsAhead]
noncomputable def vsX7_cuedBy : List Cond := .code yX7_cuedBy cX7_cuedBy 7 (some .int) :: (voX7_cuedBy ++ (vsX7_heardOf ++ (vsX7_endsAsAhead ++ (wsX70))))
theorem zgX7_cuedBy : zGd vsX7_cuedBy := z_gdC rfl (z_gdA (z_gdO (by decide +kernel) : zGd voX7_cuedBy) (z_gdA zgX7_heardOf (z_gdA zgX7_endsAsAhead (zgX7))))
theorem in_X7_cuedBy_X7 : ∀ w ∈ wsX70, w ∈ vsX7_cuedBy := fun _ h => List.mem_cons_of_mem _ (List.mem_append_right _ (List.mem_append_right _ (List.mem_append_right _ (h))))
theorem gw_X7_cuedBy_X7_heardOf : GoodIn vsX7_cuedBy vsX7_heardOf := z_gdI (fun _ h => List.mem_cons_of_mem _ (List.mem_append_right _ (List.mem_append_left _ h))) zgX7_heardOf
set_option maxRecDepth 20000 in
theorem gv_X7_cuedBy_X7_heardOf_96 : GoodIn vsX7_cuedBy (wsV RX7 96 RX7 yX7_heardOf vsX7_heardOf) := goodIn_app (goodIn_of _ (by decide +kernel)) gw_X7_cuedBy_X7_heardOf
theorem gw_X7_cuedBy_X7_endsAsAhead : GoodIn vsX7_cuedBy vsX7_endsAsAhead := z_gdI (fun _ h => List.mem_cons_of_mem _ (List.mem_append_right _ (List.mem_append_right _ (List.mem_append_left _ h)))) zgX7_endsAsAhead
set_option maxRecDepth 20000 in
theorem gv_X7_cuedBy_X7_endsAsAhead_99 : GoodIn vsX7_cuedBy (wsV RX7 99 RX7 yX7_endsAsAhead vsX7_endsAsAhead) := goodIn_app (goodIn_of _ (by decide +kernel)) gw_X7_cuedBy_X7_endsAsAhead
set_option maxHeartbeats 4000000 in
set_option maxRecDepth 100000 in
theorem rX7_cuedBy (l : Launch) (dC : Nat → ClassId) (dI : Nat → Nat → Nat) (cI cQ : ClassId) (ha0 ha0_0 ha0_4 ha0_5 ha0_6 ha0_7 ha0_1 ha0_2 ha0_11 : Nat) (PL : Nat → Nat → Int32 → Prop) (ga0_0 : Nat → ZQ) (hPLga0_0 : zHp PL ga0_0) (fa0_4 : Nat → Int32) (fa0_5 : Nat → Int32) (fa0_6 : Nat → Int32) (hBfa0_6 : ∀ k, 0 ≤ (fa0_6 k).toInt ∧ (fa0_6 k).toInt ≤ 4) (fa0_7 : Nat → Int32) (hBfa0_7 : ∀ k, (-48) ≤ (fa0_7 k).toInt ∧ (fa0_7 k).toInt ≤ 207) (ia0_3 : Int32) (hia0_3l : 0 ≤ ia0_3.toInt) (hia0_3h : ia0_3.toInt ≤ 5) (ia0_8 : Int32) (ia0_9 : Int32) (hia0_9l : 0 ≤ ia0_9.toInt) (hia0_9h : ia0_9.toInt ≤ 12) (ia0_10 : Int32) (p1 : Int32) (p2 : Int32) (p3 : Int32) : Met l yX7_cuedBy vsX7_cuedBy ({ frames := 3, cells := 0, slots := 0, locals := 65 }) (va_Pc [.ref ha0, .int p1, .int p2, .int p3] (zRBP dC dI cI cQ PL [(ha0_0, .inl (cQ, 5, .inr (.inr (.inr (.inr (fun i => (ga0_0 i).1)))))), (ha0_4, .inl (cI, 12, .inl fa0_4)), (ha0_5, .inl (cI, 12, .inl fa0_5)), (ha0_6, .inl (cI, 12, .inl fa0_6)), (ha0_7, .inl (cI, 12, .inl fa0_7)), (ha0, .inr (7, [.ref ha0_0, .ref ha0_1, .ref ha0_2, .int ia0_3, .ref ha0_4, .ref ha0_5, .ref ha0_6, .ref ha0_7, .int ia0_8, .int ia0_9, .int ia0_10, .ref ha0_11]))])) (vp_Si (fun r => (-2147483648) ≤ r.toInt ∧ r.toInt ≤ 2147483647 ∧ (zCbI ia0_3.toInt ia0_9.toInt ga0_0 fa0_5 fa0_6 fa0_4 fa0_7 p1 p2 p3 ia0_9.toInt r))) 0 0 (fun _ => False) := by
  refine Met.ofW (cc := cX7_cuedBy) (maxL := 7) (ret := (some .int)) (by decide) rfl ?_
  intro p e s m args below meth c s₁ B hml hv
  obtain ⟨rfl, hP, hZ, hPl⟩ := hv
  obtain ⟨hK, hAO, hN⟩ := id hZ
  have hx := B.exec
  have hb := B.bytes
  have hr := B.returns
  have hts := atoms_spec (ws := vsX7_cuedBy) B.pre
  have hown : s.vm.findClass RX7 = some m.cls := findClass_of_methodNamed B.named
  have hlocks := B.notSynchronized
  have hp1l := z_lo p1
  have hp1h := z_hi p1
  have hp2l := z_lo p2
  have hp2h := z_hi p2
  have hp3l := z_lo p3
  have hp3h := z_hi p3
  have hl := lv_entry ([.ref ha0, .int p1, .int p2, .int p3]) (n := 7) (Nat.le_of_ble_eq_true rfl)
  rw [lg_entry_eq]
  generalize (lg_sl ([.ref ha0, .int p1, .int p2, .int p3]) ++ List.replicate (7 - (lg_sl ([.ref ha0, .int p1, .int p2, .int p3])).length) Slot.unset).toArray = ls at hl ⊢
  have hl : lv_has ls 7 [(0, .ref ha0), (1, .int p1), (2, .int p2), (3, .int p3)] := hl
  refine lv_iconst (v := 0) hx hb dX7_cuedBy_0 (by decide) ?_
  refine lv_istore (lv' := [(4, .int 0), (0, .ref ha0), (1, .int p1), (2, .int p2), (3, .int p3)]) hx hb dX7_cuedBy_1 hl (by decide) rfl (fun ls hl => ?_)
  refine lv_iconst (v := 1) hx hb dX7_cuedBy_3 (by decide) ?_
  refine lv_istore (lv' := [(5, .int 1), (4, .int 0), (0, .ref ha0), (1, .int p1), (2, .int p2), (3, .int p3)]) hx hb dX7_cuedBy_4 hl (by decide) rfl (fun ls hl => ?_)
  have hL107 : ∀ (n : Nat) (v1 : Int32) (v2 : Int32) (ls : Array Slot), 1 ≤ v1.toInt → v1.toInt ≤ 12 → (zCbI ia0_3.toInt ia0_9.toInt ga0_0 fa0_5 fa0_6 fa0_4 fa0_7 p1 p2 p3 (v1 : Int32).toInt (v2 : Int32)) → ((v1 : Int32).toInt ≤ ia0_9.toInt ∨ (v1 : Int32).toInt = 1) → (12 - v1.toInt).toNat < n → lv_has ls 7 [(5, .int v1), (4, .int v2), (0, .ref ha0), (1, .int p1), (2, .int p2), (3, .int p3)] → W p l e (headSpec vsX7_cuedBy ({ frames := 3, cells := 0, slots := 0, locals := 65 })).room s m ([.ref ha0, .int p1, .int p2, .int p3] : List Value).toArray below meth c s.heap [] 0 0 (MQ below (vp_Si (fun r => (-2147483648) ≤ r.toInt ∧ r.toInt ≤ 2147483647 ∧ (zCbI ia0_3.toInt ia0_9.toInt ga0_0 fa0_5 fa0_6 fa0_4 fa0_7 p1 p2 p3 ia0_9.toInt r))) ([.ref ha0, .int p1, .int p2, .int p3] : List Value).toArray s 0 0 (fun _ => False)) (F0 m 6 ls []) := by
    intro n
    induction n with
    | zero =>
      intro v1 v2 ls hi108_0 hi108_1 hi108_x0 hi108_x1 hi108_m hl
      exact absurd hi108_m (Nat.not_lt_zero _)
    | succ n ih =>
      intro v1 v2 ls hi108_0 hi108_1 hi108_x0 hi108_x1 hi108_m hl
      have ih109 := ih
      refine lv_iload hx hb dX7_cuedBy_6 (lv_at hl 0 rfl) ?_
      refine lv_aload_n hx hb dX7_cuedBy_8 rfl (lv_at hl 2 rfl) ?_
      refine va_get (D := (dC, dI)) (ci := 7) (v := .int ia0_9) (C := RX7) (T := TX7) (N := 12) hx hb hts in_X7_cuedBy_X7 hown hK hP 5 rfl rfl 9 (by decide) (hts (.fieldLink RX7 43 "EachOnHisCue$Play" "lines" "I") (by decide +kernel)) (fun _ h9 => h9) rfl dX7_cuedBy_9 ?_
      refine lv_icmp_ge (tgt := 64) hx hb dX7_cuedBy_12 (by decide) (fun hc => ?_) (fun hc => ?_)
      · have q110 : ia0_9.toInt ≤ v1.toInt := z_le rfl rfl hc
        refine lv_iload hx hb dX7_cuedBy_64 (lv_at hl 1 rfl) ?_
        exact W.iret (v := v2) hx hb hr (fun t ht hW => ⟨v2, rfl, ⟨z_lo _, z_hi _, (by exact z_cbE (by assumption) (by omega))⟩, ht⟩) (fun _ h => absurd h List.not_mem_nil) dX7_cuedBy_66
      · have q111 : v1.toInt < ia0_9.toInt := z_nle rfl rfl hc
        refine lv_aload_n hx hb dX7_cuedBy_15 rfl (lv_at hl 2 rfl) ?_
        refine va_get (D := (dC, dI)) (ci := 7) (v := .ref ha0_7) (C := RX7) (T := TX7) (N := 12) hx hb hts in_X7_cuedBy_X7 hown hK hP 5 rfl rfl 7 (by decide) (hts (.fieldLink RX7 37 "EachOnHisCue$Play" "cues" "[I") (by decide +kernel)) (fun _ h9 => h9) rfl dX7_cuedBy_16 ?_
        refine lv_iload hx hb dX7_cuedBy_19 (lv_at hl 0 rfl) ?_
        refine va_iald hx hb hK hP 4 0 rfl rfl (z_in (by omega) (by omega)) dX7_cuedBy_21 ?_
        refine lv_topi (fun y112 ey112 => ?_)
        have gy112 : y112.toInt = (fa0_7 (v1 : Int32).toNatClampNeg).toInt := by rw [ey112]
        have hy112 : (-48) ≤ y112.toInt ∧ y112.toInt ≤ 207 := by rw [ey112]; exact hBfa0_7 _
        obtain ⟨hy112, hy112_⟩ := hy112
        refine lv_iload_n hx hb dX7_cuedBy_22 rfl (lv_at hl 5 rfl) ?_
        refine lv_iadd hx hb dX7_cuedBy_23 ?_
        refine lv_topi (fun y113 ey113 => ?_)
        refine lv_iconst (v := 4) hx hb dX7_cuedBy_24 (by decide) ?_
        refine va_mmin hx hb (hml.trans hl.1.symm) hown (hts (.methodLink RX7 91 Lib.Math.min.name) (by decide +kernel)) (hts (.static Lib.Math.min.name) (by decide +kernel)) (hts (.initialized "java/lang/Math") (by decide +kernel)) (hts (.code Lib.Math.min.name Lib.Math.min.code 2 (some .int)) (by decide +kernel)) (Nat.le_of_ble_eq_true rfl) (Nat.le_of_ble_eq_true rfl) (Nat.le_of_ble_eq_true rfl) (Nat.le_of_ble_eq_true rfl) dX7_cuedBy_25 ?_
        refine lv_topi (fun y114 ey114 => ?_)
        obtain ⟨hy114_0, hy114_1, hy114_2⟩ : y114.toInt ≤ y113.toInt ∧ y114.toInt ≤ 4 ∧ (y114.toInt = y113.toInt ∨ y114.toInt = 4) := by rw [ey114]; exact z_min rfl (by decide)
        refine lv_istore (lv' := [(6, .int y114), (5, .int v1), (4, .int v2), (0, .ref ha0), (1, .int p1), (2, .int p2), (3, .int p3)]) hx hb dX7_cuedBy_28 hl (by decide) rfl (fun ls hl => ?_)
        refine lv_aload_n hx hb dX7_cuedBy_30 rfl (lv_at hl 3 rfl) ?_
        refine lv_iload_n hx hb dX7_cuedBy_31 rfl (lv_at hl 4 rfl) ?_
        refine lv_iload_n hx hb dX7_cuedBy_32 rfl (lv_at hl 5 rfl) ?_
        refine lv_iload hx hb dX7_cuedBy_33 (lv_at hl 1 rfl) ?_
        refine lv_aload_n hx hb dX7_cuedBy_35 rfl (lv_at hl 3 rfl) ?_
        refine lv_iload hx hb dX7_cuedBy_36 (lv_at hl 1 rfl) ?_
        refine lv_iload hx hb dX7_cuedBy_38 (lv_at hl 0 rfl) ?_
        refine z_rdi (va_runV (As := [.int v1, .int y114]) (rest := [.int v1, .int p2, .int p1, .ref ha0]) ⟨hx, hb, hml, hown, hts⟩ (rX7_heardOf l dC dI cI cQ ha0 ha0_0 ha0_4 ha0_1 ha0_2 ha0_5 ha0_6 ha0_7 ha0_11 PL ga0_0 hPLga0_0 fa0_4 ia0_3 hia0_3l hia0_3h ia0_8 ia0_9 hia0_9l hia0_9h ia0_10 v1 y114) (cwV 2 hts gv_X7_cuedBy_X7_heardOf_96 rfl rfl rfl (by decide +kernel) ⟨Nat.le_of_ble_eq_true rfl, Nat.le_of_ble_eq_true rfl⟩) ⟨z_blindRP, va_recv hK hP (ci := 7) (q0 := 5) rfl rfl, z_preRP hZ hP hPl [0, 1, 5] rfl⟩ rfl rfl hl.1 rfl (lv_room (Nat.le_of_ble_eq_true rfl)) dX7_cuedBy_40 ⟨Nat.le_of_ble_eq_true rfl, Nat.le_of_ble_eq_true rfl⟩) (fun y115 hy115 => ?_)
        obtain ⟨hy115_0, hy115_1, hy115_2⟩ := hy115
        refine z_rdi (va_runV (As := [.int p1, .int p2, .int v1, .int y115]) (rest := []) ⟨hx, hb, hml, hown, hts⟩ (rX7_endsAsAhead l dC dI cI cQ ha0 ha0_5 ha0_6 ha0_0 ha0_1 ha0_2 ha0_4 ha0_7 ha0_11 fa0_5 fa0_6 hBfa0_6 ia0_3 hia0_3l hia0_3h ia0_8 ia0_9 hia0_9l hia0_9h ia0_10 p1 p2 v1 y115) (cwV 4 hts gv_X7_cuedBy_X7_endsAsAhead_99 rfl rfl rfl (by decide +kernel) ⟨Nat.le_of_ble_eq_true rfl, Nat.le_of_ble_eq_true rfl⟩) ⟨z_blindR, va_recv hK hP (ci := 7) (q0 := 5) rfl rfl, z_preR hZ hP [2, 3, 5] rfl⟩ rfl rfl hl.1 rfl (lv_room (Nat.le_of_ble_eq_true rfl)) dX7_cuedBy_43 ⟨Nat.le_of_ble_eq_true rfl, Nat.le_of_ble_eq_true rfl⟩) (fun y116 hy116 => ?_)
        obtain ⟨hy116_0, hy116_1, hy116_2⟩ := hy116
        refine lv_if_eq (tgt := 58) hx hb dX7_cuedBy_46 (by decide) (fun hc => ?_) (fun hc => ?_)
        · have q117 : y116.toInt = 0 := z_eq rfl (by decide) hc
          obtain ⟨y118, ey118⟩ : ∃ y : Int32, y = v1 + 1 := ⟨_, rfl⟩
          refine lv_iinc (v := y118) (lv' := [(5, .int y118), (6, .int y114), (4, .int v2), (0, .ref ha0), (1, .int p1), (2, .int p2), (3, .int p3)]) hx hb dX7_cuedBy_58 hl (k := 1) rfl (by rw [ey118]; rfl) (by decide) rfl (fun ls hl => ?_)
          have hy118 : y118.toInt = v1.toInt + 1 := by rw [ey118]; exact z_add rfl (by decide) (by omega) (by omega)
          refine lv_goto (tgt := 6) hx hb dX7_cuedBy_61 (by decide) ?_
          exact ih109 y118 v2 ls (by first | decide | omega) (by first | decide | omega) (z_cbIS (by assumption) (by omega) (by omega) (by omega) (by omega) (by omega) gy112 ey113 hy114_0 hy114_1 hy114_2 hy115_2 hy116_2 (Or.inr ⟨by omega, rfl⟩)) (by have e0 : (0 : Int32).toInt = 0 := (by decide); have e1 : (1 : Int32).toInt = 1 := (by decide); omega) (by omega) (lv_sub hl [0, 2, 3, 4, 5, 6] rfl)
        · have q119 : y116.toInt ≠ 0 := z_ne rfl (by decide) hc
          refine lv_iload hx hb dX7_cuedBy_49 (lv_at hl 2 rfl) ?_
          refine lv_iconst (v := 1) hx hb dX7_cuedBy_51 (by decide) ?_
          refine lv_iload hx hb dX7_cuedBy_52 (lv_at hl 1 rfl) ?_
          refine lv_ishl hx hb dX7_cuedBy_54 ?_
          refine lv_topi (fun y120 ey120 => ?_)
          refine lv_ior hx hb dX7_cuedBy_55 ?_
          refine lv_topi (fun y121 ey121 => ?_)
          refine lv_istore (lv' := [(4, .int y121), (6, .int y114), (5, .int v1), (0, .ref ha0), (1, .int p1), (2, .int p2), (3, .int p3)]) hx hb dX7_cuedBy_56 hl (by decide) rfl (fun ls hl => ?_)
          obtain ⟨y122, ey122⟩ : ∃ y : Int32, y = v1 + 1 := ⟨_, rfl⟩
          refine lv_iinc (v := y122) (lv' := [(5, .int y122), (4, .int y121), (6, .int y114), (0, .ref ha0), (1, .int p1), (2, .int p2), (3, .int p3)]) hx hb dX7_cuedBy_58 hl (k := 2) rfl (by rw [ey122]; rfl) (by decide) rfl (fun ls hl => ?_)
          have hy122 : y122.toInt = v1.toInt + 1 := by rw [ey122]; exact z_add rfl (by decide) (by omega) (by omega)
          refine lv_goto (tgt := 6) hx hb dX7_cuedBy_61 (by decide) ?_
          exact ih109 y122 y121 ls (by first | decide | omega) (by first | decide | omega) (z_cbIS (by assumption) (by omega) (by omega) (by omega) (by omega) (by omega) gy112 ey113 hy114_0 hy114_1 hy114_2 hy115_2 hy116_2 (Or.inl ⟨by omega, _, ey120, ey121⟩)) (by have e0 : (0 : Int32).toInt = 0 := (by decide); have e1 : (1 : Int32).toInt = 1 := (by decide); omega) (by omega) (lv_sub hl [0, 1, 3, 4, 5, 6] rfl)
  exact hL107 ((12 - (1 : Int32).toInt).toNat + 1) 1 0 ls (by decide) (by decide) (z_cbI0 (by decide)) (by have e0 : (0 : Int32).toInt = 0 := (by decide); have e1 : (1 : Int32).toInt = 1 := (by decide); omega) (by omega) hl
set_option maxRecDepth 20000 in
theorem edX2_comesWith_0 : decode cX2_comesWith 0 = .ok (.aload_n 1, 1) ∧ decode cX2_comesWith 1 = .ok (.aload_n 2, 1) ∧ decode cX2_comesWith 2 = .ok (.getfield 29, 3) ∧ decode cX2_comesWith 5 = .ok (.invokevirtual 32, 3) ∧ decode cX2_comesWith 8 = .ok (.ifCond .eq 15, 3) ∧ decode cX2_comesWith 11 = .ok (.aload_n 2, 1) ∧ decode cX2_comesWith 12 = .ok (.getfield 38, 3) ∧ decode cX2_comesWith 15 = .ok (.iload_n 3, 1) ∧ decode cX2_comesWith 16 = .ok (.invokestatic 41, 3) ∧ decode cX2_comesWith 19 = .ok (.iconst 1, 1) ∧ decode cX2_comesWith 20 = .ok (.if_icmp .ne 6, 3) ∧ decode cX2_comesWith 23 = .ok (.bipush (-9), 2) := by decide +kernel
theorem dX2_comesWith_0 : decode cX2_comesWith 0 = .ok (.aload_n 1, 1) := edX2_comesWith_0.1
theorem dX2_comesWith_1 : decode cX2_comesWith 1 = .ok (.aload_n 2, 1) := edX2_comesWith_0.2.1
theorem dX2_comesWith_2 : decode cX2_comesWith 2 = .ok (.getfield 29, 3) := edX2_comesWith_0.2.2.1
theorem dX2_comesWith_5 : decode cX2_comesWith 5 = .ok (.invokevirtual 32, 3) := edX2_comesWith_0.2.2.2.1
theorem dX2_comesWith_8 : decode cX2_comesWith 8 = .ok (.ifCond .eq 15, 3) := edX2_comesWith_0.2.2.2.2.1
theorem dX2_comesWith_11 : decode cX2_comesWith 11 = .ok (.aload_n 2, 1) := edX2_comesWith_0.2.2.2.2.2.1
theorem dX2_comesWith_12 : decode cX2_comesWith 12 = .ok (.getfield 38, 3) := edX2_comesWith_0.2.2.2.2.2.2.1
theorem dX2_comesWith_15 : decode cX2_comesWith 15 = .ok (.iload_n 3, 1) := edX2_comesWith_0.2.2.2.2.2.2.2.1
theorem dX2_comesWith_16 : decode cX2_comesWith 16 = .ok (.invokestatic 41, 3) := edX2_comesWith_0.2.2.2.2.2.2.2.2.1
theorem dX2_comesWith_19 : decode cX2_comesWith 19 = .ok (.iconst 1, 1) := edX2_comesWith_0.2.2.2.2.2.2.2.2.2.1
theorem dX2_comesWith_20 : decode cX2_comesWith 20 = .ok (.if_icmp .ne 6, 3) := edX2_comesWith_0.2.2.2.2.2.2.2.2.2.2.1
theorem dX2_comesWith_23 : decode cX2_comesWith 23 = .ok (.bipush (-9), 2) := edX2_comesWith_0.2.2.2.2.2.2.2.2.2.2.2
set_option maxRecDepth 20000 in
theorem edX2_comesWith_25 : decode cX2_comesWith 25 = .ok (.ireturn, 1) ∧ decode cX2_comesWith 26 = .ok (.aload_n 1, 1) ∧ decode cX2_comesWith 27 = .ok (.iload_n 3, 1) ∧ decode cX2_comesWith 28 = .ok (.aload_n 0, 1) ∧ decode cX2_comesWith 29 = .ok (.getfield 12, 3) ∧ decode cX2_comesWith 32 = .ok (.getfield 45, 3) ∧ decode cX2_comesWith 35 = .ok (.aload_n 2, 1) ∧ decode cX2_comesWith 36 = .ok (.getfield 29, 3) ∧ decode cX2_comesWith 39 = .ok (.iaload, 1) ∧ decode cX2_comesWith 40 = .ok (.aload_n 2, 1) ∧ decode cX2_comesWith 41 = .ok (.getfield 49, 3) ∧ decode cX2_comesWith 44 = .ok (.invokevirtual 52, 3) := by decide +kernel
theorem dX2_comesWith_25 : decode cX2_comesWith 25 = .ok (.ireturn, 1) := edX2_comesWith_25.1
theorem dX2_comesWith_26 : decode cX2_comesWith 26 = .ok (.aload_n 1, 1) := edX2_comesWith_25.2.1
theorem dX2_comesWith_27 : decode cX2_comesWith 27 = .ok (.iload_n 3, 1) := edX2_comesWith_25.2.2.1
theorem dX2_comesWith_28 : decode cX2_comesWith 28 = .ok (.aload_n 0, 1) := edX2_comesWith_25.2.2.2.1
theorem dX2_comesWith_29 : decode cX2_comesWith 29 = .ok (.getfield 12, 3) := edX2_comesWith_25.2.2.2.2.1
theorem dX2_comesWith_32 : decode cX2_comesWith 32 = .ok (.getfield 45, 3) := edX2_comesWith_25.2.2.2.2.2.1
theorem dX2_comesWith_35 : decode cX2_comesWith 35 = .ok (.aload_n 2, 1) := edX2_comesWith_25.2.2.2.2.2.2.1
theorem dX2_comesWith_36 : decode cX2_comesWith 36 = .ok (.getfield 29, 3) := edX2_comesWith_25.2.2.2.2.2.2.2.1
theorem dX2_comesWith_39 : decode cX2_comesWith 39 = .ok (.iaload, 1) := edX2_comesWith_25.2.2.2.2.2.2.2.2.1
theorem dX2_comesWith_40 : decode cX2_comesWith 40 = .ok (.aload_n 2, 1) := edX2_comesWith_25.2.2.2.2.2.2.2.2.2.1
theorem dX2_comesWith_41 : decode cX2_comesWith 41 = .ok (.getfield 49, 3) := edX2_comesWith_25.2.2.2.2.2.2.2.2.2.2.1
theorem dX2_comesWith_44 : decode cX2_comesWith 44 = .ok (.invokevirtual 52, 3) := edX2_comesWith_25.2.2.2.2.2.2.2.2.2.2.2
theorem dX2_comesWith_47 : decode cX2_comesWith 47 = .ok (.ireturn, 1) := by decide +kernel
noncomputable def voX2_comesWith : List Cond := [.fieldLink RX2 29 "EachOnHisCue$Saying" "latest" "I", .fieldLink RX2 38 "EachOnHisCue$Saying" "dead" "I", .initialized RX11, .static yX11_bitAt, .fieldLink RX2 12 "EachOnHisCue$Evening" "web" "LEachOnHisCue$Net;", .fieldLink RX2 45 "EachOnHisCue$Net" "after" "[I", .fieldLink RX2 49 "EachOnHisCue$Saying" "said" "I", .methodLink RX2 32 yX7_hasLine, .instanceMethod yX7_hasLine, .selects RX7 yX7_hasLine yX7_hasLine, .initialized RX7, .methodLink RX2 52 yX7_chosenBy, .instanceMethod yX7_chosenBy, .selects RX7 yX7_chosenBy yX7_chosenBy]
noncomputable def vsX2_comesWith : List Cond := .code yX2_comesWith cX2_comesWith 4 (some .int) :: (voX2_comesWith ++ (vsX7_hasLine ++ (vsX11_bitAt ++ (vsX7_chosenBy ++ (wsX20 ++ (wsX50 ++ (wsX90)))))))
theorem zgX2_comesWith : zGd vsX2_comesWith := z_gdC rfl (z_gdA (z_gdO (by decide +kernel) : zGd voX2_comesWith) (z_gdA zgX7_hasLine (z_gdA zgX11_bitAt (z_gdA zgX7_chosenBy (z_gdA zgX2 (z_gdA zgX5 (zgX9)))))))
theorem in_X2_comesWith_X2 : ∀ w ∈ wsX20, w ∈ vsX2_comesWith := fun _ h => List.mem_cons_of_mem _ (List.mem_append_right _ (List.mem_append_right _ (List.mem_append_right _ (List.mem_append_right _ (List.mem_append_left _ h)))))
theorem in_X2_comesWith_X5 : ∀ w ∈ wsX50, w ∈ vsX2_comesWith := fun _ h => List.mem_cons_of_mem _ (List.mem_append_right _ (List.mem_append_right _ (List.mem_append_right _ (List.mem_append_right _ (List.mem_append_right _ (List.mem_append_left _ h))))))
theorem in_X2_comesWith_X9 : ∀ w ∈ wsX90, w ∈ vsX2_comesWith := fun _ h => List.mem_cons_of_mem _ (List.mem_append_right _ (List.mem_append_right _ (List.mem_append_right _ (List.mem_append_right _ (List.mem_append_right _ (List.mem_append_right _ (h)))))))
theorem gw_X2_comesWith_X7_hasLine : GoodIn vsX2_comesWith vsX7_hasLine := z_gdI (fun _ h => List.mem_cons_of_mem _ (List.mem_append_right _ (List.mem_append_left _ h))) zgX7_hasLine
set_option maxRecDepth 20000 in
theorem gv_X2_comesWith_X7_hasLine_32 : GoodIn vsX2_comesWith (wsV RX2 32 RX7 yX7_hasLine vsX7_hasLine) := goodIn_app (goodIn_of _ (by decide +kernel)) gw_X2_comesWith_X7_hasLine
theorem gw_X2_comesWith_X11_bitAt : GoodIn vsX2_comesWith vsX11_bitAt := z_gdI (fun _ h => List.mem_cons_of_mem _ (List.mem_append_right _ (List.mem_append_right _ (List.mem_append_left _ h)))) zgX11_bitAt
set_option maxRecDepth 20000 in
theorem gv_X2_comesWith_X11_bitAt_41 : GoodIn vsX2_comesWith (vsX11_bitAt) := gw_X2_comesWith_X11_bitAt
theorem gw_X2_comesWith_X7_chosenBy : GoodIn vsX2_comesWith vsX7_chosenBy := z_gdI (fun _ h => List.mem_cons_of_mem _ (List.mem_append_right _ (List.mem_append_right _ (List.mem_append_right _ (List.mem_append_left _ h))))) zgX7_chosenBy
set_option maxRecDepth 20000 in
theorem gv_X2_comesWith_X7_chosenBy_52 : GoodIn vsX2_comesWith (wsV RX2 52 RX7 yX7_chosenBy vsX7_chosenBy) := goodIn_app (goodIn_of _ (by decide +kernel)) gw_X2_comesWith_X7_chosenBy
set_option maxHeartbeats 4000000 in
set_option maxRecDepth 100000 in
theorem rX2_comesWith (l : Launch) (dC : Nat → ClassId) (dI : Nat → Nat → Nat) (cI cQ : ClassId) (ha0 ha1 ha2 ha0_0_0 ha0_0 ha1_0 ha1_2 ha0_1 ha1_1 ha1_4 ha1_5 ha1_6 ha1_7 ha1_11 : Nat) (PL : Nat → Nat → Int32 → Prop) (fa0_0_0 : Nat → Int32) (ia0_0_1 : Int32) (hia0_0_1l : 0 ≤ ia0_0_1.toInt) (hia0_0_1h : ia0_0_1.toInt ≤ 12) (ia0_2 : Int32) (ga1_0 : Nat → ZQ) (hPLga1_0 : zHp PL ga1_0) (fa1_2 : Nat → Int32) (ia1_3 : Int32) (hia1_3l : 0 ≤ ia1_3.toInt) (hia1_3h : ia1_3.toInt ≤ 5) (ia1_8 : Int32) (ia1_9 : Int32) (hia1_9l : 0 ≤ ia1_9.toInt) (hia1_9h : ia1_9.toInt ≤ 12) (ia1_10 : Int32) (ia2_0 : Int32) (ia2_1 : Int32) (ia2_2 : Int32) (ia2_3 : Int32) (ia2_4 : Int32) (p3 : Int32) : Met l yX2_comesWith vsX2_comesWith ({ frames := 3, cells := 0, slots := 0, locals := 69 }) (va_Pc [.ref ha0, .ref ha1, .ref ha2, .int p3] (zRBP dC dI cI cQ PL [(ha0_0_0, .inl (cI, 12, .inl fa0_0_0)), (ha0_0, .inr (5, [.ref ha0_0_0, .int ia0_0_1])), (ha0, .inr (2, [.ref ha0_0, .ref ha0_1, .int ia0_2])), (ha1_0, .inl (cQ, 5, .inr (.inr (.inr (.inr (fun i => (ga1_0 i).1)))))), (ha1_2, .inl (cI, 5, .inl fa1_2)), (ha1, .inr (7, [.ref ha1_0, .ref ha1_1, .ref ha1_2, .int ia1_3, .ref ha1_4, .ref ha1_5, .ref ha1_6, .ref ha1_7, .int ia1_8, .int ia1_9, .int ia1_10, .ref ha1_11])), (ha2, .inr (9, [.int ia2_0, .int ia2_1, .int ia2_2, .int ia2_3, .int ia2_4]))])) (vp_Si (fun r => (-9) ≤ r.toInt ∧ r.toInt ≤ 11 ∧ (zCmC ia1_3.toInt ia1_9.toInt ga1_0 fa1_2 fa0_0_0 ia2_0 ia2_1 ia2_2 p3 r.toInt))) 0 0 (fun _ => False) := by
  refine Met.ofW (cc := cX2_comesWith) (maxL := 4) (ret := (some .int)) (by decide) rfl ?_
  intro p e s m args below meth c s₁ B hml hv
  obtain ⟨rfl, hP, hZ, hPl⟩ := hv
  obtain ⟨hK, hAO, hN⟩ := id hZ
  have hx := B.exec
  have hb := B.bytes
  have hr := B.returns
  have hts := atoms_spec (ws := vsX2_comesWith) B.pre
  have hown : s.vm.findClass RX2 = some m.cls := findClass_of_methodNamed B.named
  have hlocks := B.notSynchronized
  have hp3l := z_lo p3
  have hp3h := z_hi p3
  have hl := lv_entry ([.ref ha0, .ref ha1, .ref ha2, .int p3]) (n := 4) (Nat.le_of_ble_eq_true rfl)
  rw [lg_entry_eq]
  generalize (lg_sl ([.ref ha0, .ref ha1, .ref ha2, .int p3]) ++ List.replicate (4 - (lg_sl ([.ref ha0, .ref ha1, .ref ha2, .int p3])).length) Slot.unset).toArray = ls at hl ⊢
  have hl : lv_has ls 4 [(0, .ref ha0), (1, .ref ha1), (2, .ref ha2), (3, .int p3)] := hl
  refine lv_aload_n hx hb dX2_comesWith_0 rfl (lv_at hl 1 rfl) ?_
  refine lv_aload_n hx hb dX2_comesWith_1 rfl (lv_at hl 2 rfl) ?_
  refine va_get (D := (dC, dI)) (ci := 9) (v := .int ia2_2) (C := RX9) (T := TX9) (N := 5) hx hb hts in_X2_comesWith_X9 hown hK hP 6 rfl rfl 2 (by decide) (hts (.fieldLink RX2 29 "EachOnHisCue$Saying" "latest" "I") (by decide +kernel)) (fun _ h9 => h9) rfl dX2_comesWith_2 ?_
  refine z_rdi (va_runV (As := [.int ia2_2]) (rest := []) ⟨hx, hb, hml, hown, hts⟩ (rX7_hasLine l dC dI cI cQ ha1 ha1_0 ha1_1 ha1_2 ha1_4 ha1_5 ha1_6 ha1_7 ha1_11 ia1_3 hia1_3l hia1_3h ia1_8 ia1_9 hia1_9l hia1_9h ia1_10 ia2_2) (cwV 1 hts gv_X2_comesWith_X7_hasLine_32 rfl rfl rfl (by decide +kernel) ⟨Nat.le_of_ble_eq_true rfl, Nat.le_of_ble_eq_true rfl⟩) ⟨z_blindR, va_recv hK hP (ci := 7) (q0 := 5) rfl rfl, z_preR hZ hP [5] rfl⟩ rfl rfl hl.1 rfl (lv_room (Nat.le_of_ble_eq_true rfl)) dX2_comesWith_5 ⟨Nat.le_of_ble_eq_true rfl, Nat.le_of_ble_eq_true rfl⟩) (fun y1 hy1 => ?_)
  obtain ⟨hy1_0, hy1_1, hy1_2⟩ := hy1
  refine lv_if_eq (tgt := 23) hx hb dX2_comesWith_8 (by decide) (fun hc => ?_) (fun hc => ?_)
  · have q2 : y1.toInt = 0 := z_eq rfl (by decide) hc
    refine lv_bipush (v := (-9)) hx hb dX2_comesWith_23 (by decide) ?_
    exact W.iret (v := (-9)) hx hb hr (fun t ht hW => ⟨(-9), rfl, ⟨by first | decide | omega, by first | decide | omega, (by exact Or.inl ⟨by omega, by decide⟩)⟩, ht⟩) (fun _ h => absurd h List.not_mem_nil) dX2_comesWith_25
  · have q3 : y1.toInt ≠ 0 := z_ne rfl (by decide) hc
    refine lv_aload_n hx hb dX2_comesWith_11 rfl (lv_at hl 2 rfl) ?_
    refine va_get (D := (dC, dI)) (ci := 9) (v := .int ia2_1) (C := RX9) (T := TX9) (N := 5) hx hb hts in_X2_comesWith_X9 hown hK hP 6 rfl rfl 1 (by decide) (hts (.fieldLink RX2 38 "EachOnHisCue$Saying" "dead" "I") (by decide +kernel)) (fun _ h9 => h9) rfl dX2_comesWith_12 ?_
    refine lv_iload_n hx hb dX2_comesWith_15 rfl (lv_at hl 3 rfl) ?_
    refine z_rdi (va_runSN (As := [.int ia2_1, .int p3]) (rest := []) ⟨hx, hb, hml, hown, hts⟩ (rX11_bitAt l dC dI cI cQ ia2_1 p3) ⟨va_cnB (host := "EachOnHisCue") 2 hts gv_X2_comesWith_X11_bitAt_41 rfl rfl rfl (hN.2.2.2.2.1) (hts (.initialized RX11) (by decide +kernel)) (by decide +kernel) ⟨Nat.le_of_ble_eq_true rfl, Nat.le_of_ble_eq_true rfl⟩, hts (.static yX11_bitAt) (by decide +kernel), trivial⟩ ⟨z_blindR, z_preR hZ hP [] rfl⟩ rfl rfl hl.1 rfl (lv_room (Nat.le_of_ble_eq_true rfl)) dX2_comesWith_16 ⟨Nat.le_of_ble_eq_true rfl, Nat.le_of_ble_eq_true rfl⟩) (fun y4 hy4 => ?_)
    obtain ⟨hy4_0, hy4_1, hy4_2⟩ := hy4
    refine lv_iconst (v := 1) hx hb dX2_comesWith_19 (by decide) ?_
    refine lv_icmp_ne (tgt := 26) hx hb dX2_comesWith_20 (by decide) (fun hc => ?_) (fun hc => ?_)
    · have q5 : y4.toInt ≠ 1 := z_ne rfl (by decide) hc
      refine lv_aload_n hx hb dX2_comesWith_26 rfl (lv_at hl 1 rfl) ?_
      refine lv_iload_n hx hb dX2_comesWith_27 rfl (lv_at hl 3 rfl) ?_
      refine lv_aload_n hx hb dX2_comesWith_28 rfl (lv_at hl 0 rfl) ?_
      refine va_get (D := (dC, dI)) (ci := 2) (v := .ref ha0_0) (C := RX2) (T := TX2) (N := 3) hx hb hts in_X2_comesWith_X2 hown hK hP 2 rfl rfl 0 (by decide) (hts (.fieldLink RX2 12 "EachOnHisCue$Evening" "web" "LEachOnHisCue$Net;") (by decide +kernel)) (fun _ h9 => h9) rfl dX2_comesWith_29 ?_
      refine va_get (D := (dC, dI)) (ci := 5) (v := .ref ha0_0_0) (C := RX5) (T := TX5) (N := 2) hx hb hts in_X2_comesWith_X5 hown hK hP 1 rfl rfl 0 (by decide) (hts (.fieldLink RX2 45 "EachOnHisCue$Net" "after" "[I") (by decide +kernel)) (fun _ h9 => h9) rfl dX2_comesWith_32 ?_
      refine lv_aload_n hx hb dX2_comesWith_35 rfl (lv_at hl 2 rfl) ?_
      refine va_get (D := (dC, dI)) (ci := 9) (v := .int ia2_2) (C := RX9) (T := TX9) (N := 5) hx hb hts in_X2_comesWith_X9 hown hK hP 6 rfl rfl 2 (by decide) (hts (.fieldLink RX2 29 "EachOnHisCue$Saying" "latest" "I") (by decide +kernel)) (fun _ h9 => h9) rfl dX2_comesWith_36 ?_
      refine va_iald hx hb hK hP 0 0 rfl rfl (z_in (by omega) (by omega)) dX2_comesWith_39 ?_
      refine lv_topi (fun y6 ey6 => ?_)
      have gy6 : y6.toInt = (fa0_0_0 (ia2_2 : Int32).toNatClampNeg).toInt := by rw [ey6]
      refine lv_aload_n hx hb dX2_comesWith_40 rfl (lv_at hl 2 rfl) ?_
      refine va_get (D := (dC, dI)) (ci := 9) (v := .int ia2_0) (C := RX9) (T := TX9) (N := 5) hx hb hts in_X2_comesWith_X9 hown hK hP 6 rfl rfl 0 (by decide) (hts (.fieldLink RX2 49 "EachOnHisCue$Saying" "said" "I") (by decide +kernel)) (fun _ h9 => h9) rfl dX2_comesWith_41 ?_
      refine z_rdi (va_runV (As := [.int p3, .int y6, .int ia2_0]) (rest := []) ⟨hx, hb, hml, hown, hts⟩ (rX7_chosenBy l dC dI cI cQ ha1 ha1_0 ha1_2 ha1_1 ha1_4 ha1_5 ha1_6 ha1_7 ha1_11 PL ga1_0 hPLga1_0 fa1_2 ia1_3 hia1_3l hia1_3h ia1_8 ia1_9 hia1_9l hia1_9h ia1_10 p3 y6 ia2_0) (cwV 3 hts gv_X2_comesWith_X7_chosenBy_52 rfl rfl rfl (by decide +kernel) ⟨Nat.le_of_ble_eq_true rfl, Nat.le_of_ble_eq_true rfl⟩) ⟨z_blindRP, va_recv hK hP (ci := 7) (q0 := 5) rfl rfl, z_preRP hZ hP hPl [3, 4, 5] rfl⟩ rfl rfl hl.1 rfl (lv_room (Nat.le_of_ble_eq_true rfl)) dX2_comesWith_44 ⟨Nat.le_of_ble_eq_true rfl, Nat.le_of_ble_eq_true rfl⟩) (fun y7 hy7 => ?_)
      obtain ⟨hy7_0, hy7_1, hy7_2⟩ := hy7
      exact W.iret (v := y7) hx hb hr (fun t ht hW => ⟨y7, rfl, ⟨by first | decide | omega, by first | decide | omega, (by exact z_cmT (by omega) (by omega) (by omega) hy4_2 (by omega) (by omega) ey6 hy7_2)⟩, ht⟩) (fun _ h => absurd h List.not_mem_nil) dX2_comesWith_47
    · have q8 : y4.toInt = 1 := z_eq rfl (by decide) hc
      refine lv_bipush (v := (-9)) hx hb dX2_comesWith_23 (by decide) ?_
      exact W.iret (v := (-9)) hx hb hr (fun t ht hW => ⟨(-9), rfl, ⟨by first | decide | omega, by first | decide | omega, (by exact z_cmD (by omega) (by omega) hy4_2 (by omega) (by omega) (by decide))⟩, ht⟩) (fun _ h => absurd h List.not_mem_nil) dX2_comesWith_25
set_option maxRecDepth 20000 in
theorem edX2_nextLine_0 : decode cX2_nextLine 0 = .ok (.aload_n 2, 1) ∧ decode cX2_nextLine 1 = .ok (.getfield 56, 3) ∧ decode cX2_nextLine 4 = .ok (.ifCond .ne 5, 3) ∧ decode cX2_nextLine 7 = .ok (.iconst 0, 1) ∧ decode cX2_nextLine 8 = .ok (.ireturn, 1) ∧ decode cX2_nextLine 9 = .ok (.bipush (-9), 2) ∧ decode cX2_nextLine 11 = .ok (.istore 4, 2) ∧ decode cX2_nextLine 13 = .ok (.iconst (-1), 1) ∧ decode cX2_nextLine 14 = .ok (.istore 5, 2) ∧ decode cX2_nextLine 16 = .ok (.iconst 0, 1) ∧ decode cX2_nextLine 17 = .ok (.istore 6, 2) ∧ decode cX2_nextLine 19 = .ok (.iload 6, 2) := by decide +kernel
theorem dX2_nextLine_0 : decode cX2_nextLine 0 = .ok (.aload_n 2, 1) := edX2_nextLine_0.1
theorem dX2_nextLine_1 : decode cX2_nextLine 1 = .ok (.getfield 56, 3) := edX2_nextLine_0.2.1
theorem dX2_nextLine_4 : decode cX2_nextLine 4 = .ok (.ifCond .ne 5, 3) := edX2_nextLine_0.2.2.1
theorem dX2_nextLine_7 : decode cX2_nextLine 7 = .ok (.iconst 0, 1) := edX2_nextLine_0.2.2.2.1
theorem dX2_nextLine_8 : decode cX2_nextLine 8 = .ok (.ireturn, 1) := edX2_nextLine_0.2.2.2.2.1
theorem dX2_nextLine_9 : decode cX2_nextLine 9 = .ok (.bipush (-9), 2) := edX2_nextLine_0.2.2.2.2.2.1
theorem dX2_nextLine_11 : decode cX2_nextLine 11 = .ok (.istore 4, 2) := edX2_nextLine_0.2.2.2.2.2.2.1
theorem dX2_nextLine_13 : decode cX2_nextLine 13 = .ok (.iconst (-1), 1) := edX2_nextLine_0.2.2.2.2.2.2.2.1
theorem dX2_nextLine_14 : decode cX2_nextLine 14 = .ok (.istore 5, 2) := edX2_nextLine_0.2.2.2.2.2.2.2.2.1
theorem dX2_nextLine_16 : decode cX2_nextLine 16 = .ok (.iconst 0, 1) := edX2_nextLine_0.2.2.2.2.2.2.2.2.2.1
theorem dX2_nextLine_17 : decode cX2_nextLine 17 = .ok (.istore 6, 2) := edX2_nextLine_0.2.2.2.2.2.2.2.2.2.2.1
theorem dX2_nextLine_19 : decode cX2_nextLine 19 = .ok (.iload 6, 2) := edX2_nextLine_0.2.2.2.2.2.2.2.2.2.2.2
set_option maxRecDepth 20000 in
theorem edX2_nextLine_21 : decode cX2_nextLine 21 = .ok (.aload_n 1, 1) ∧ decode cX2_nextLine 22 = .ok (.getfield 59, 3) ∧ decode cX2_nextLine 25 = .ok (.if_icmp .ge 60, 3) ∧ decode cX2_nextLine 28 = .ok (.iload 6, 2) ∧ decode cX2_nextLine 30 = .ok (.iload_n 3, 1) ∧ decode cX2_nextLine 31 = .ok (.if_icmp .ne 8, 3) ∧ decode cX2_nextLine 34 = .ok (.bipush (-9), 2) ∧ decode cX2_nextLine 36 = .ok (.goto 11, 3) ∧ decode cX2_nextLine 39 = .ok (.aload_n 0, 1) ∧ decode cX2_nextLine 40 = .ok (.aload_n 1, 1) ∧ decode cX2_nextLine 41 = .ok (.aload_n 2, 1) ∧ decode cX2_nextLine 42 = .ok (.iload 6, 2) := by decide +kernel
theorem dX2_nextLine_21 : decode cX2_nextLine 21 = .ok (.aload_n 1, 1) := edX2_nextLine_21.1
theorem dX2_nextLine_22 : decode cX2_nextLine 22 = .ok (.getfield 59, 3) := edX2_nextLine_21.2.1
theorem dX2_nextLine_25 : decode cX2_nextLine 25 = .ok (.if_icmp .ge 60, 3) := edX2_nextLine_21.2.2.1
theorem dX2_nextLine_28 : decode cX2_nextLine 28 = .ok (.iload 6, 2) := edX2_nextLine_21.2.2.2.1
theorem dX2_nextLine_30 : decode cX2_nextLine 30 = .ok (.iload_n 3, 1) := edX2_nextLine_21.2.2.2.2.1
theorem dX2_nextLine_31 : decode cX2_nextLine 31 = .ok (.if_icmp .ne 8, 3) := edX2_nextLine_21.2.2.2.2.2.1
theorem dX2_nextLine_34 : decode cX2_nextLine 34 = .ok (.bipush (-9), 2) := edX2_nextLine_21.2.2.2.2.2.2.1
theorem dX2_nextLine_36 : decode cX2_nextLine 36 = .ok (.goto 11, 3) := edX2_nextLine_21.2.2.2.2.2.2.2.1
theorem dX2_nextLine_39 : decode cX2_nextLine 39 = .ok (.aload_n 0, 1) := edX2_nextLine_21.2.2.2.2.2.2.2.2.1
theorem dX2_nextLine_40 : decode cX2_nextLine 40 = .ok (.aload_n 1, 1) := edX2_nextLine_21.2.2.2.2.2.2.2.2.2.1
theorem dX2_nextLine_41 : decode cX2_nextLine 41 = .ok (.aload_n 2, 1) := edX2_nextLine_21.2.2.2.2.2.2.2.2.2.2.1
theorem dX2_nextLine_42 : decode cX2_nextLine 42 = .ok (.iload 6, 2) := edX2_nextLine_21.2.2.2.2.2.2.2.2.2.2.2
set_option maxRecDepth 20000 in
theorem edX2_nextLine_44 : decode cX2_nextLine 44 = .ok (.invokevirtual 62, 3) ∧ decode cX2_nextLine 47 = .ok (.istore 7, 2) ∧ decode cX2_nextLine 49 = .ok (.iload 7, 2) ∧ decode cX2_nextLine 51 = .ok (.bipush (-9), 2) ∧ decode cX2_nextLine 53 = .ok (.if_icmp .eq 26, 3) ∧ decode cX2_nextLine 56 = .ok (.aload_n 1, 1) ∧ decode cX2_nextLine 57 = .ok (.iload 6, 2) ∧ decode cX2_nextLine 59 = .ok (.invokevirtual 66, 3) ∧ decode cX2_nextLine 62 = .ok (.iload 5, 2) ∧ decode cX2_nextLine 64 = .ok (.if_icmp .le 15, 3) ∧ decode cX2_nextLine 67 = .ok (.iload 7, 2) ∧ decode cX2_nextLine 69 = .ok (.istore 4, 2) := by decide +kernel
theorem dX2_nextLine_44 : decode cX2_nextLine 44 = .ok (.invokevirtual 62, 3) := edX2_nextLine_44.1
theorem dX2_nextLine_47 : decode cX2_nextLine 47 = .ok (.istore 7, 2) := edX2_nextLine_44.2.1
theorem dX2_nextLine_49 : decode cX2_nextLine 49 = .ok (.iload 7, 2) := edX2_nextLine_44.2.2.1
theorem dX2_nextLine_51 : decode cX2_nextLine 51 = .ok (.bipush (-9), 2) := edX2_nextLine_44.2.2.2.1
theorem dX2_nextLine_53 : decode cX2_nextLine 53 = .ok (.if_icmp .eq 26, 3) := edX2_nextLine_44.2.2.2.2.1
theorem dX2_nextLine_56 : decode cX2_nextLine 56 = .ok (.aload_n 1, 1) := edX2_nextLine_44.2.2.2.2.2.1
theorem dX2_nextLine_57 : decode cX2_nextLine 57 = .ok (.iload 6, 2) := edX2_nextLine_44.2.2.2.2.2.2.1
theorem dX2_nextLine_59 : decode cX2_nextLine 59 = .ok (.invokevirtual 66, 3) := edX2_nextLine_44.2.2.2.2.2.2.2.1
theorem dX2_nextLine_62 : decode cX2_nextLine 62 = .ok (.iload 5, 2) := edX2_nextLine_44.2.2.2.2.2.2.2.2.1
theorem dX2_nextLine_64 : decode cX2_nextLine 64 = .ok (.if_icmp .le 15, 3) := edX2_nextLine_44.2.2.2.2.2.2.2.2.2.1
theorem dX2_nextLine_67 : decode cX2_nextLine 67 = .ok (.iload 7, 2) := edX2_nextLine_44.2.2.2.2.2.2.2.2.2.2.1
theorem dX2_nextLine_69 : decode cX2_nextLine 69 = .ok (.istore 4, 2) := edX2_nextLine_44.2.2.2.2.2.2.2.2.2.2.2
set_option maxRecDepth 20000 in
theorem edX2_nextLine_71 : decode cX2_nextLine 71 = .ok (.aload_n 1, 1) ∧ decode cX2_nextLine 72 = .ok (.iload 6, 2) ∧ decode cX2_nextLine 74 = .ok (.invokevirtual 66, 3) ∧ decode cX2_nextLine 77 = .ok (.istore 5, 2) ∧ decode cX2_nextLine 79 = .ok (.iinc 6 1, 3) ∧ decode cX2_nextLine 82 = .ok (.goto (-63), 3) ∧ decode cX2_nextLine 85 = .ok (.iload 4, 2) ∧ decode cX2_nextLine 87 = .ok (.ireturn, 1) := by decide +kernel
theorem dX2_nextLine_71 : decode cX2_nextLine 71 = .ok (.aload_n 1, 1) := edX2_nextLine_71.1
theorem dX2_nextLine_72 : decode cX2_nextLine 72 = .ok (.iload 6, 2) := edX2_nextLine_71.2.1
theorem dX2_nextLine_74 : decode cX2_nextLine 74 = .ok (.invokevirtual 66, 3) := edX2_nextLine_71.2.2.1
theorem dX2_nextLine_77 : decode cX2_nextLine 77 = .ok (.istore 5, 2) := edX2_nextLine_71.2.2.2.1
theorem dX2_nextLine_79 : decode cX2_nextLine 79 = .ok (.iinc 6 1, 3) := edX2_nextLine_71.2.2.2.2.1
theorem dX2_nextLine_82 : decode cX2_nextLine 82 = .ok (.goto (-63), 3) := edX2_nextLine_71.2.2.2.2.2.1
theorem dX2_nextLine_85 : decode cX2_nextLine 85 = .ok (.iload 4, 2) := edX2_nextLine_71.2.2.2.2.2.2.1
theorem dX2_nextLine_87 : decode cX2_nextLine 87 = .ok (.ireturn, 1) := edX2_nextLine_71.2.2.2.2.2.2.2
noncomputable def voX2_nextLine : List Cond := [.fieldLink RX2 56 "EachOnHisCue$Saying" "times" "I", .fieldLink RX2 59 "EachOnHisCue$Play" "players" "I", .methodLink RX2 62 yX2_comesWith, .instanceMethod yX2_comesWith, .selects RX2 yX2_comesWith yX2_comesWith, .initialized RX2, .methodLink RX2 66 yX7_hasteOf, .instanceMethod yX7_hasteOf, .selects RX7 yX7_hasteOf yX7_hasteOf, .initialized RX7]
noncomputable def vsX2_nextLine : List Cond := .code yX2_nextLine cX2_nextLine 8 (some .int) :: (voX2_nextLine ++ (vsX2_comesWith ++ (vsX7_hasteOf ++ (wsX70 ++ (wsX90)))))
theorem zgX2_nextLine : zGd vsX2_nextLine := z_gdC rfl (z_gdA (z_gdO (by decide +kernel) : zGd voX2_nextLine) (z_gdA zgX2_comesWith (z_gdA zgX7_hasteOf (z_gdA zgX7 (zgX9)))))
theorem in_X2_nextLine_X7 : ∀ w ∈ wsX70, w ∈ vsX2_nextLine := fun _ h => List.mem_cons_of_mem _ (List.mem_append_right _ (List.mem_append_right _ (List.mem_append_right _ (List.mem_append_left _ h))))
theorem in_X2_nextLine_X9 : ∀ w ∈ wsX90, w ∈ vsX2_nextLine := fun _ h => List.mem_cons_of_mem _ (List.mem_append_right _ (List.mem_append_right _ (List.mem_append_right _ (List.mem_append_right _ (h)))))
theorem gw_X2_nextLine_X2_comesWith : GoodIn vsX2_nextLine vsX2_comesWith := z_gdI (fun _ h => List.mem_cons_of_mem _ (List.mem_append_right _ (List.mem_append_left _ h))) zgX2_comesWith
set_option maxRecDepth 20000 in
theorem gv_X2_nextLine_X2_comesWith_62 : GoodIn vsX2_nextLine (wsV RX2 62 RX2 yX2_comesWith vsX2_comesWith) := goodIn_app (goodIn_of _ (by decide +kernel)) gw_X2_nextLine_X2_comesWith
theorem gw_X2_nextLine_X7_hasteOf : GoodIn vsX2_nextLine vsX7_hasteOf := z_gdI (fun _ h => List.mem_cons_of_mem _ (List.mem_append_right _ (List.mem_append_right _ (List.mem_append_left _ h)))) zgX7_hasteOf
set_option maxRecDepth 20000 in
theorem gv_X2_nextLine_X7_hasteOf_66 : GoodIn vsX2_nextLine (wsV RX2 66 RX7 yX7_hasteOf vsX7_hasteOf) := goodIn_app (goodIn_of _ (by decide +kernel)) gw_X2_nextLine_X7_hasteOf
set_option maxHeartbeats 4000000 in
set_option maxRecDepth 100000 in
theorem rX2_nextLine (l : Launch) (dC : Nat → ClassId) (dI : Nat → Nat → Nat) (cI cQ : ClassId) (ha0 ha1 ha2 ha0_0_0 ha0_0 ha1_0 ha1_1 ha1_2 ha0_1 ha1_4 ha1_5 ha1_6 ha1_7 ha1_11 : Nat) (PL : Nat → Nat → Int32 → Prop) (fa0_0_0 : Nat → Int32) (ia0_0_1 : Int32) (hia0_0_1l : 0 ≤ ia0_0_1.toInt) (hia0_0_1h : ia0_0_1.toInt ≤ 12) (ia0_2 : Int32) (ga1_0 : Nat → ZQ) (hPLga1_0 : zHp PL ga1_0) (fa1_1 : Nat → Int32) (fa1_2 : Nat → Int32) (ia1_3 : Int32) (hia1_3l : 0 ≤ ia1_3.toInt) (hia1_3h : ia1_3.toInt ≤ 5) (ia1_8 : Int32) (ia1_9 : Int32) (hia1_9l : 0 ≤ ia1_9.toInt) (hia1_9h : ia1_9.toInt ≤ 12) (ia1_10 : Int32) (ia2_0 : Int32) (ia2_1 : Int32) (ia2_2 : Int32) (ia2_3 : Int32) (ia2_4 : Int32) (p3 : Int32) : Met l yX2_nextLine vsX2_nextLine ({ frames := 4, cells := 0, slots := 0, locals := 92 }) (va_Pc [.ref ha0, .ref ha1, .ref ha2, .int p3] (zRBP dC dI cI cQ PL [(ha0_0_0, .inl (cI, 12, .inl fa0_0_0)), (ha0_0, .inr (5, [.ref ha0_0_0, .int ia0_0_1])), (ha0, .inr (2, [.ref ha0_0, .ref ha0_1, .int ia0_2])), (ha1_0, .inl (cQ, 5, .inr (.inr (.inr (.inr (fun i => (ga1_0 i).1)))))), (ha1_1, .inl (cI, 5, .inl fa1_1)), (ha1_2, .inl (cI, 5, .inl fa1_2)), (ha1, .inr (7, [.ref ha1_0, .ref ha1_1, .ref ha1_2, .int ia1_3, .ref ha1_4, .ref ha1_5, .ref ha1_6, .ref ha1_7, .int ia1_8, .int ia1_9, .int ia1_10, .ref ha1_11])), (ha2, .inr (9, [.int ia2_0, .int ia2_1, .int ia2_2, .int ia2_3, .int ia2_4]))])) (vp_Si (fun r => (-9) ≤ r.toInt ∧ r.toInt ≤ 11 ∧ (zNlC ia1_3.toInt ia1_9.toInt ga1_0 fa1_1 fa1_2 fa0_0_0 ia2_0 ia2_1 ia2_2 ia2_3 p3 r.toInt))) 0 0 (fun _ => False) := by
  refine Met.ofW (cc := cX2_nextLine) (maxL := 8) (ret := (some .int)) (by decide) rfl ?_
  intro p e s m args below meth c s₁ B hml hv
  obtain ⟨rfl, hP, hZ, hPl⟩ := hv
  obtain ⟨hK, hAO, hN⟩ := id hZ
  have hx := B.exec
  have hb := B.bytes
  have hr := B.returns
  have hts := atoms_spec (ws := vsX2_nextLine) B.pre
  have hown : s.vm.findClass RX2 = some m.cls := findClass_of_methodNamed B.named
  have hlocks := B.notSynchronized
  have hp3l := z_lo p3
  have hp3h := z_hi p3
  have hl := lv_entry ([.ref ha0, .ref ha1, .ref ha2, .int p3]) (n := 8) (Nat.le_of_ble_eq_true rfl)
  rw [lg_entry_eq]
  generalize (lg_sl ([.ref ha0, .ref ha1, .ref ha2, .int p3]) ++ List.replicate (8 - (lg_sl ([.ref ha0, .ref ha1, .ref ha2, .int p3])).length) Slot.unset).toArray = ls at hl ⊢
  have hl : lv_has ls 8 [(0, .ref ha0), (1, .ref ha1), (2, .ref ha2), (3, .int p3)] := hl
  refine lv_aload_n hx hb dX2_nextLine_0 rfl (lv_at hl 2 rfl) ?_
  refine va_get (D := (dC, dI)) (ci := 9) (v := .int ia2_3) (C := RX9) (T := TX9) (N := 5) hx hb hts in_X2_nextLine_X9 hown hK hP 7 rfl rfl 3 (by decide) (hts (.fieldLink RX2 56 "EachOnHisCue$Saying" "times" "I") (by decide +kernel)) (fun _ h9 => h9) rfl dX2_nextLine_1 ?_
  refine lv_if_ne (tgt := 9) hx hb dX2_nextLine_4 (by decide) (fun hc => ?_) (fun hc => ?_)
  · have q1 : ia2_3.toInt ≠ 0 := z_ne rfl (by decide) hc
    refine lv_bipush (v := (-9)) hx hb dX2_nextLine_9 (by decide) ?_
    refine lv_istore (lv' := [(4, .int (-9)), (0, .ref ha0), (1, .ref ha1), (2, .ref ha2), (3, .int p3)]) hx hb dX2_nextLine_11 hl (by decide) rfl (fun ls hl => ?_)
    refine lv_iconst (v := (-1)) hx hb dX2_nextLine_13 (by decide) ?_
    refine lv_istore (lv' := [(5, .int (-1)), (4, .int (-9)), (0, .ref ha0), (1, .ref ha1), (2, .ref ha2), (3, .int p3)]) hx hb dX2_nextLine_14 hl (by decide) rfl (fun ls hl => ?_)
    refine lv_iconst (v := 0) hx hb dX2_nextLine_16 (by decide) ?_
    refine lv_istore (lv' := [(6, .int 0), (5, .int (-1)), (4, .int (-9)), (0, .ref ha0), (1, .ref ha1), (2, .ref ha2), (3, .int p3)]) hx hb dX2_nextLine_17 hl (by decide) rfl (fun ls hl => ?_)
    have hL80 : ∀ (n : Nat) (v2 : Int32) (v3 : Int32) (v4 : Int32) (ls : Array Slot), 0 ≤ v2.toInt → v2.toInt ≤ 5 → (-9) ≤ v4.toInt → v4.toInt ≤ 11 → (zNlI ia1_3.toInt ia1_9.toInt ga1_0 fa1_1 fa1_2 fa0_0_0 ia2_0 ia2_1 ia2_2 p3 (v2 : Int32).toInt (v4 : Int32).toInt (v3 : Int32).toInt) → ((v2 : Int32).toInt ≤ ia1_3.toInt) → (5 - v2.toInt).toNat < n → lv_has ls 8 [(6, .int v2), (5, .int v3), (4, .int v4), (0, .ref ha0), (1, .ref ha1), (2, .ref ha2), (3, .int p3)] → W p l e (headSpec vsX2_nextLine ({ frames := 4, cells := 0, slots := 0, locals := 92 })).room s m ([.ref ha0, .ref ha1, .ref ha2, .int p3] : List Value).toArray below meth c s.heap [] 0 0 (MQ below (vp_Si (fun r => (-9) ≤ r.toInt ∧ r.toInt ≤ 11 ∧ (zNlC ia1_3.toInt ia1_9.toInt ga1_0 fa1_1 fa1_2 fa0_0_0 ia2_0 ia2_1 ia2_2 ia2_3 p3 r.toInt))) ([.ref ha0, .ref ha1, .ref ha2, .int p3] : List Value).toArray s 0 0 (fun _ => False)) (F0 m 19 ls []) := by
      intro n
      induction n with
      | zero =>
        intro v2 v3 v4 ls hi81_0 hi81_1 hi81_2 hi81_3 hi81_x0 hi81_x1 hi81_m hl
        exact absurd hi81_m (Nat.not_lt_zero _)
      | succ n ih =>
        intro v2 v3 v4 ls hi81_0 hi81_1 hi81_2 hi81_3 hi81_x0 hi81_x1 hi81_m hl
        have ih82 := ih
        refine lv_iload hx hb dX2_nextLine_19 (lv_at hl 0 rfl) ?_
        refine lv_aload_n hx hb dX2_nextLine_21 rfl (lv_at hl 4 rfl) ?_
        refine va_get (D := (dC, dI)) (ci := 7) (v := .int ia1_3) (C := RX7) (T := TX7) (N := 12) hx hb hts in_X2_nextLine_X7 hown hK hP 6 rfl rfl 3 (by decide) (hts (.fieldLink RX2 59 "EachOnHisCue$Play" "players" "I") (by decide +kernel)) (fun _ h9 => h9) rfl dX2_nextLine_22 ?_
        refine lv_icmp_ge (tgt := 85) hx hb dX2_nextLine_25 (by decide) (fun hc => ?_) (fun hc => ?_)
        · have q83 : ia1_3.toInt ≤ v2.toInt := z_le rfl rfl hc
          refine lv_iload hx hb dX2_nextLine_85 (lv_at hl 2 rfl) ?_
          exact W.iret (v := v4) hx hb hr (fun t ht hW => ⟨v4, rfl, ⟨by first | decide | omega, by first | decide | omega, (by exact z_nlE (by assumption) (by omega) (by omega))⟩, ht⟩) (fun _ h => absurd h List.not_mem_nil) dX2_nextLine_87
        · have q84 : v2.toInt < ia1_3.toInt := z_nle rfl rfl hc
          refine lv_iload hx hb dX2_nextLine_28 (lv_at hl 0 rfl) ?_
          refine lv_iload_n hx hb dX2_nextLine_30 rfl (lv_at hl 6 rfl) ?_
          refine lv_icmp_ne (tgt := 39) hx hb dX2_nextLine_31 (by decide) (fun hc => ?_) (fun hc => ?_)
          · have q85 : v2.toInt ≠ p3.toInt := z_ne rfl rfl hc
            refine lv_aload_n hx hb dX2_nextLine_39 rfl (lv_at hl 3 rfl) ?_
            refine lv_aload_n hx hb dX2_nextLine_40 rfl (lv_at hl 4 rfl) ?_
            refine lv_aload_n hx hb dX2_nextLine_41 rfl (lv_at hl 5 rfl) ?_
            refine lv_iload hx hb dX2_nextLine_42 (lv_at hl 0 rfl) ?_
            refine z_rdi (va_runV (As := [.ref ha1, .ref ha2, .int v2]) (rest := []) ⟨hx, hb, hml, hown, hts⟩ (rX2_comesWith l dC dI cI cQ ha0 ha1 ha2 ha0_0_0 ha0_0 ha1_0 ha1_2 ha0_1 ha1_1 ha1_4 ha1_5 ha1_6 ha1_7 ha1_11 PL fa0_0_0 ia0_0_1 hia0_0_1l hia0_0_1h ia0_2 ga1_0 hPLga1_0 fa1_2 ia1_3 hia1_3l hia1_3h ia1_8 ia1_9 hia1_9l hia1_9h ia1_10 ia2_0 ia2_1 ia2_2 ia2_3 ia2_4 v2) (cwV 3 hts gv_X2_nextLine_X2_comesWith_62 rfl rfl rfl (by decide +kernel) ⟨Nat.le_of_ble_eq_true rfl, Nat.le_of_ble_eq_true rfl⟩) ⟨z_blindRP, va_recv hK hP (ci := 2) (q0 := 2) rfl rfl, z_preRP hZ hP hPl [0, 1, 2, 3, 5, 6, 7] rfl⟩ rfl rfl hl.1 rfl (lv_room (Nat.le_of_ble_eq_true rfl)) dX2_nextLine_44 ⟨Nat.le_of_ble_eq_true rfl, Nat.le_of_ble_eq_true rfl⟩) (fun y86 hy86 => ?_)
            obtain ⟨hy86_0, hy86_1, hy86_2⟩ := hy86
            refine lv_istore (lv' := [(7, .int y86), (6, .int v2), (5, .int v3), (4, .int v4), (0, .ref ha0), (1, .ref ha1), (2, .ref ha2), (3, .int p3)]) hx hb dX2_nextLine_47 hl (by decide) rfl (fun ls hl => ?_)
            refine lv_iload hx hb dX2_nextLine_49 (lv_at hl 0 rfl) ?_
            refine lv_bipush (v := (-9)) hx hb dX2_nextLine_51 (by decide) ?_
            refine lv_icmp_eq (tgt := 79) hx hb dX2_nextLine_53 (by decide) (fun hc => ?_) (fun hc => ?_)
            · have q87 : y86.toInt = (-9) := z_eq rfl (by decide) hc
              obtain ⟨y88, ey88⟩ : ∃ y : Int32, y = v2 + 1 := ⟨_, rfl⟩
              refine lv_iinc (v := y88) (lv' := [(6, .int y88), (7, .int y86), (5, .int v3), (4, .int v4), (0, .ref ha0), (1, .ref ha1), (2, .ref ha2), (3, .int p3)]) hx hb dX2_nextLine_79 hl (k := 1) rfl (by rw [ey88]; rfl) (by decide) rfl (fun ls hl => ?_)
              have hy88 : y88.toInt = v2.toInt + 1 := by rw [ey88]; exact z_add rfl (by decide) (by omega) (by omega)
              refine lv_goto (tgt := 19) hx hb dX2_nextLine_82 (by decide) ?_
              exact ih82 y88 v3 v4 ls (by first | decide | omega) (by first | decide | omega) hi81_2 hi81_3 (z_nlIN (w := (y86 : Int32).toInt) (by assumption) (by omega) (by omega) (by omega) (Or.inr ⟨by omega, hy86_2⟩) (Or.inl (by first | omega | decide))) (by have e0 : (0 : Int32).toInt = 0 := (by decide); omega) (by omega) (lv_sub hl [0, 2, 3, 4, 5, 6, 7] rfl)
            · have q89 : y86.toInt ≠ (-9) := z_ne rfl (by decide) hc
              refine lv_aload_n hx hb dX2_nextLine_56 rfl (lv_at hl 5 rfl) ?_
              refine lv_iload hx hb dX2_nextLine_57 (lv_at hl 1 rfl) ?_
              refine z_rdi (va_runV (As := [.int v2]) (rest := []) ⟨hx, hb, hml, hown, hts⟩ (rX7_hasteOf l dC dI cI cQ ha1 ha1_0 ha1_1 ha1_2 ha1_4 ha1_5 ha1_6 ha1_7 ha1_11 PL ga1_0 hPLga1_0 fa1_1 ia1_3 hia1_3l hia1_3h ia1_8 ia1_9 hia1_9l hia1_9h ia1_10 v2) (cwV 1 hts gv_X2_nextLine_X7_hasteOf_66 rfl rfl rfl (by decide +kernel) ⟨Nat.le_of_ble_eq_true rfl, Nat.le_of_ble_eq_true rfl⟩) ⟨z_blindRP, va_recv hK hP (ci := 7) (q0 := 6) rfl rfl, z_preRP hZ hP hPl [3, 4, 6] rfl⟩ rfl rfl hl.1 rfl (lv_room (Nat.le_of_ble_eq_true rfl)) dX2_nextLine_59 ⟨Nat.le_of_ble_eq_true rfl, Nat.le_of_ble_eq_true rfl⟩) (fun y90 hy90 => ?_)
              obtain ⟨hy90_0, hy90_1, hy90_2⟩ := hy90
              refine lv_iload hx hb dX2_nextLine_62 (lv_at hl 2 rfl) ?_
              refine lv_icmp_le (tgt := 79) hx hb dX2_nextLine_64 (by decide) (fun hc => ?_) (fun hc => ?_)
              · have q91 : y90.toInt ≤ v3.toInt := z_le rfl rfl hc
                obtain ⟨y92, ey92⟩ : ∃ y : Int32, y = v2 + 1 := ⟨_, rfl⟩
                refine lv_iinc (v := y92) (lv' := [(6, .int y92), (7, .int y86), (5, .int v3), (4, .int v4), (0, .ref ha0), (1, .ref ha1), (2, .ref ha2), (3, .int p3)]) hx hb dX2_nextLine_79 hl (k := 1) rfl (by rw [ey92]; rfl) (by decide) rfl (fun ls hl => ?_)
                have hy92 : y92.toInt = v2.toInt + 1 := by rw [ey92]; exact z_add rfl (by decide) (by omega) (by omega)
                refine lv_goto (tgt := 19) hx hb dX2_nextLine_82 (by decide) ?_
                exact ih82 y92 v3 v4 ls (by first | decide | omega) (by first | decide | omega) hi81_2 hi81_3 (z_nlIN (w := (y86 : Int32).toInt) (by assumption) (by omega) (by omega) (by omega) (Or.inr ⟨by omega, hy86_2⟩) (Or.inr ⟨_, hy90_2, by omega⟩)) (by have e0 : (0 : Int32).toInt = 0 := (by decide); omega) (by omega) (lv_sub hl [0, 2, 3, 4, 5, 6, 7] rfl)
              · have q93 : v3.toInt < y90.toInt := z_nle rfl rfl hc
                refine lv_iload hx hb dX2_nextLine_67 (lv_at hl 0 rfl) ?_
                refine lv_istore (lv' := [(4, .int y86), (7, .int y86), (6, .int v2), (5, .int v3), (0, .ref ha0), (1, .ref ha1), (2, .ref ha2), (3, .int p3)]) hx hb dX2_nextLine_69 hl (by decide) rfl (fun ls hl => ?_)
                refine lv_aload_n hx hb dX2_nextLine_71 rfl (lv_at hl 5 rfl) ?_
                refine lv_iload hx hb dX2_nextLine_72 (lv_at hl 2 rfl) ?_
                refine z_rdi (va_runV (As := [.int v2]) (rest := []) ⟨hx, hb, hml, hown, hts⟩ (rX7_hasteOf l dC dI cI cQ ha1 ha1_0 ha1_1 ha1_2 ha1_4 ha1_5 ha1_6 ha1_7 ha1_11 PL ga1_0 hPLga1_0 fa1_1 ia1_3 hia1_3l hia1_3h ia1_8 ia1_9 hia1_9l hia1_9h ia1_10 v2) (cwV 1 hts gv_X2_nextLine_X7_hasteOf_66 rfl rfl rfl (by decide +kernel) ⟨Nat.le_of_ble_eq_true rfl, Nat.le_of_ble_eq_true rfl⟩) ⟨z_blindRP, va_recv hK hP (ci := 7) (q0 := 6) rfl rfl, z_preRP hZ hP hPl [3, 4, 6] rfl⟩ rfl rfl hl.1 rfl (lv_room (Nat.le_of_ble_eq_true rfl)) dX2_nextLine_74 ⟨Nat.le_of_ble_eq_true rfl, Nat.le_of_ble_eq_true rfl⟩) (fun y94 hy94 => ?_)
                obtain ⟨hy94_0, hy94_1, hy94_2⟩ := hy94
                refine lv_istore (lv' := [(5, .int y94), (4, .int y86), (7, .int y86), (6, .int v2), (0, .ref ha0), (1, .ref ha1), (2, .ref ha2), (3, .int p3)]) hx hb dX2_nextLine_77 hl (by decide) rfl (fun ls hl => ?_)
                obtain ⟨y95, ey95⟩ : ∃ y : Int32, y = v2 + 1 := ⟨_, rfl⟩
                refine lv_iinc (v := y95) (lv' := [(6, .int y95), (5, .int y94), (4, .int y86), (7, .int y86), (0, .ref ha0), (1, .ref ha1), (2, .ref ha2), (3, .int p3)]) hx hb dX2_nextLine_79 hl (k := 3) rfl (by rw [ey95]; rfl) (by decide) rfl (fun ls hl => ?_)
                have hy95 : y95.toInt = v2.toInt + 1 := by rw [ey95]; exact z_add rfl (by decide) (by omega) (by omega)
                refine lv_goto (tgt := 19) hx hb dX2_nextLine_82 (by decide) ?_
                exact ih82 y95 y94 y86 ls (by first | decide | omega) (by first | decide | omega) hy86_0 hy86_1 (z_nlIY (w := (y86 : Int32).toInt) (by assumption) (by omega) (by omega) (by omega) (Or.inr ⟨by omega, hy86_2⟩) (by omega) hy90_2 (by omega) hy94_2 rfl rfl) (by have e0 : (0 : Int32).toInt = 0 := (by decide); omega) (by omega) (lv_sub hl [0, 1, 2, 4, 5, 6, 7] rfl)
          · have q96 : v2.toInt = p3.toInt := z_eq rfl rfl hc
            refine lv_bipush (v := (-9)) hx hb dX2_nextLine_34 (by decide) ?_
            refine lv_goto (tgt := 47) hx hb dX2_nextLine_36 (by decide) ?_
            refine lv_istore (lv' := [(7, .int (-9)), (6, .int v2), (5, .int v3), (4, .int v4), (0, .ref ha0), (1, .ref ha1), (2, .ref ha2), (3, .int p3)]) hx hb dX2_nextLine_47 hl (by decide) rfl (fun ls hl => ?_)
            refine lv_iload hx hb dX2_nextLine_49 (lv_at hl 0 rfl) ?_
            refine lv_bipush (v := (-9)) hx hb dX2_nextLine_51 (by decide) ?_
            refine lv_icmp_eq (tgt := 79) hx hb dX2_nextLine_53 (by decide) (fun hc => ?_) (fun hc => ?_)
            · skip
              obtain ⟨y97, ey97⟩ : ∃ y : Int32, y = v2 + 1 := ⟨_, rfl⟩
              refine lv_iinc (v := y97) (lv' := [(6, .int y97), (7, .int (-9)), (5, .int v3), (4, .int v4), (0, .ref ha0), (1, .ref ha1), (2, .ref ha2), (3, .int p3)]) hx hb dX2_nextLine_79 hl (k := 1) rfl (by rw [ey97]; rfl) (by decide) rfl (fun ls hl => ?_)
              have hy97 : y97.toInt = v2.toInt + 1 := by rw [ey97]; exact z_add rfl (by decide) (by omega) (by omega)
              refine lv_goto (tgt := 19) hx hb dX2_nextLine_82 (by decide) ?_
              exact ih82 y97 v3 v4 ls (by first | decide | omega) (by first | decide | omega) hi81_2 hi81_3 (z_nlIN (w := -9) (by assumption) (by omega) (by omega) (by omega) (Or.inl ⟨by omega, rfl⟩) (Or.inl rfl)) (by have e0 : (0 : Int32).toInt = 0 := (by decide); omega) (by omega) (lv_sub hl [0, 2, 3, 4, 5, 6, 7] rfl)
            · exact absurd hc (by decide)
    exact hL80 ((5 - (0 : Int32).toInt).toNat + 1) 0 (-1) (-9) ls (by decide) (by decide) (by decide) (by decide) (z_nlI0 (by decide) (by decide) (by decide)) (by have e0 : (0 : Int32).toInt = 0 := (by decide); omega) (by omega) hl
  · have q98 : ia2_3.toInt = 0 := z_eq rfl (by decide) hc
    refine lv_iconst (v := 0) hx hb dX2_nextLine_7 (by decide) ?_
    exact W.iret (v := 0) hx hb hr (fun t ht hW => ⟨0, rfl, ⟨by first | decide | omega, by first | decide | omega, (by exact Or.inl ⟨by omega, by decide⟩)⟩, ht⟩) (fun _ h => absurd h List.not_mem_nil) dX2_nextLine_8
