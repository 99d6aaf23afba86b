set_option maxRecDepth 20000 in
theorem edX0_kind_0 : decode cX0_kind 0 = .ok (.iconst 1, 1) ∧ decode cX0_kind 1 = .ok (.ireturn, 1) := by decide +kernel
theorem dX0_kind_0 : decode cX0_kind 0 = .ok (.iconst 1, 1) := edX0_kind_0.1
theorem dX0_kind_1 : decode cX0_kind 1 = .ok (.ireturn, 1) := edX0_kind_0.2
noncomputable def voX0_kind : List Cond := []
noncomputable def vsX0_kind : List Cond := .code yX0_kind cX0_kind 1 (some .int) :: (voX0_kind)
theorem zgX0_kind : zGd vsX0_kind := z_gdC rfl ((z_gdO (by decide +kernel) : zGd voX0_kind))
set_option maxHeartbeats 4000000 in
set_option maxRecDepth 100000 in
theorem rX0_kind (l : Launch) (dC : Nat → ClassId) (dI : Nat → Nat → Nat) (cI cQ : ClassId) (ha0 : Nat) : Met l yX0_kind vsX0_kind ({ frames := 0, cells := 0, slots := 0, locals := 0 }) (va_Pc [.ref ha0] (zRB dC dI cI cQ [])) (vp_Si (fun r => 1 ≤ r.toInt ∧ r.toInt ≤ 1 ∧ (r.toInt = 1))) 0 0 (fun _ => False) := by
  refine Met.ofW (cc := cX0_kind) (maxL := 1) (ret := (some .int)) (by decide) rfl ?_
  intro p e s m args below meth c s₁ B hml hv
  obtain ⟨rfl, hP, hZ⟩ := hv
  obtain ⟨hK, hAO, hN⟩ := id hZ
  have hx := B.exec
  have hb := B.bytes
  have hr := B.returns
  have hts := atoms_spec (ws := vsX0_kind) B.pre
  have hown : s.vm.findClass RX0 = some m.cls := findClass_of_methodNamed B.named
  have hlocks := B.notSynchronized
  have hl := lv_entry ([.ref ha0]) (n := 1) (Nat.le_of_ble_eq_true rfl)
  rw [lg_entry_eq]
  generalize (lg_sl ([.ref ha0]) ++ List.replicate (1 - (lg_sl ([.ref ha0])).length) Slot.unset).toArray = ls at hl ⊢
  have hl : lv_has ls 1 [(0, .ref ha0)] := hl
  refine lv_iconst (v := 1) hx hb dX0_kind_0 (by decide) ?_
  exact W.iret (v := 1) hx hb hr (fun t ht hW => ⟨1, rfl, ⟨by first | decide | omega, by first | decide | omega, (by decide)⟩, ht⟩) (fun _ h => absurd h List.not_mem_nil) dX0_kind_1
set_option maxRecDepth 20000 in
theorem edX1_kind_0 : decode cX1_kind 0 = .ok (.iconst 3, 1) ∧ decode cX1_kind 1 = .ok (.ireturn, 1) := by decide +kernel
theorem dX1_kind_0 : decode cX1_kind 0 = .ok (.iconst 3, 1) := edX1_kind_0.1
theorem dX1_kind_1 : decode cX1_kind 1 = .ok (.ireturn, 1) := edX1_kind_0.2
noncomputable def voX1_kind : List Cond := []
noncomputable def vsX1_kind : List Cond := .code yX1_kind cX1_kind 1 (some .int) :: (voX1_kind)
theorem zgX1_kind : zGd vsX1_kind := z_gdC rfl ((z_gdO (by decide +kernel) : zGd voX1_kind))
set_option maxHeartbeats 4000000 in
set_option maxRecDepth 100000 in
theorem rX1_kind (l : Launch) (dC : Nat → ClassId) (dI : Nat → Nat → Nat) (cI cQ : ClassId) (ha0 : Nat) : Met l yX1_kind vsX1_kind ({ frames := 0, cells := 0, slots := 0, locals := 0 }) (va_Pc [.ref ha0] (zRB dC dI cI cQ [])) (vp_Si (fun r => 3 ≤ r.toInt ∧ r.toInt ≤ 3 ∧ (r.toInt = 3))) 0 0 (fun _ => False) := by
  refine Met.ofW (cc := cX1_kind) (maxL := 1) (ret := (some .int)) (by decide) rfl ?_
  intro p e s m args below meth c s₁ B hml hv
  obtain ⟨rfl, hP, hZ⟩ := hv
  obtain ⟨hK, hAO, hN⟩ := id hZ
  have hx := B.exec
  have hb := B.bytes
  have hr := B.returns
  have hts := atoms_spec (ws := vsX1_kind) B.pre
  have hown : s.vm.findClass RX1 = some m.cls := findClass_of_methodNamed B.named
  have hlocks := B.notSynchronized
  have hl := lv_entry ([.ref ha0]) (n := 1) (Nat.le_of_ble_eq_true rfl)
  rw [lg_entry_eq]
  generalize (lg_sl ([.ref ha0]) ++ List.replicate (1 - (lg_sl ([.ref ha0])).length) Slot.unset).toArray = ls at hl ⊢
  have hl : lv_has ls 1 [(0, .ref ha0)] := hl
  refine lv_iconst (v := 3) hx hb dX1_kind_0 (by decide) ?_
  exact W.iret (v := 3) hx hb hr (fun t ht hW => ⟨3, rfl, ⟨by first | decide | omega, by first | decide | omega, (by decide)⟩, ht⟩) (fun _ h => absurd h List.not_mem_nil) dX1_kind_1
set_option maxRecDepth 20000 in
theorem edX3_kind_0 : decode cX3_kind 0 = .ok (.iconst 5, 1) ∧ decode cX3_kind 1 = .ok (.ireturn, 1) := by decide +kernel
theorem dX3_kind_0 : decode cX3_kind 0 = .ok (.iconst 5, 1) := edX3_kind_0.1
theorem dX3_kind_1 : decode cX3_kind 1 = .ok (.ireturn, 1) := edX3_kind_0.2
noncomputable def voX3_kind : List Cond := []
noncomputable def vsX3_kind : List Cond := .code yX3_kind cX3_kind 1 (some .int) :: (voX3_kind)
theorem zgX3_kind : zGd vsX3_kind := z_gdC rfl ((z_gdO (by decide +kernel) : zGd voX3_kind))
set_option maxHeartbeats 4000000 in
set_option maxRecDepth 100000 in
theorem rX3_kind (l : Launch) (dC : Nat → ClassId) (dI : Nat → Nat → Nat) (cI cQ : ClassId) (ha0 : Nat) : Met l yX3_kind vsX3_kind ({ frames := 0, cells := 0, slots := 0, locals := 0 }) (va_Pc [.ref ha0] (zRB dC dI cI cQ [])) (vp_Si (fun r => 5 ≤ r.toInt ∧ r.toInt ≤ 5 ∧ (r.toInt = 5))) 0 0 (fun _ => False) := by
  refine Met.ofW (cc := cX3_kind) (maxL := 1) (ret := (some .int)) (by decide) rfl ?_
  intro p e s m args below meth c s₁ B hml hv
  obtain ⟨rfl, hP, hZ⟩ := hv
  obtain ⟨hK, hAO, hN⟩ := id hZ
  have hx := B.exec
  have hb := B.bytes
  have hr := B.returns
  have hts := atoms_spec (ws := vsX3_kind) B.pre
  have hown : s.vm.findClass RX3 = some m.cls := findClass_of_methodNamed B.named
  have hlocks := B.notSynchronized
  have hl := lv_entry ([.ref ha0]) (n := 1) (Nat.le_of_ble_eq_true rfl)
  rw [lg_entry_eq]
  generalize (lg_sl ([.ref ha0]) ++ List.replicate (1 - (lg_sl ([.ref ha0])).length) Slot.unset).toArray = ls at hl ⊢
  have hl : lv_has ls 1 [(0, .ref ha0)] := hl
  refine lv_iconst (v := 5) hx hb dX3_kind_0 (by decide) ?_
  exact W.iret (v := 5) hx hb hr (fun t ht hW => ⟨5, rfl, ⟨by first | decide | omega, by first | decide | omega, (by decide)⟩, ht⟩) (fun _ h => absurd h List.not_mem_nil) dX3_kind_1
set_option maxRecDepth 20000 in
theorem edX6_kind_0 : decode cX6_kind 0 = .ok (.iconst 0, 1) ∧ decode cX6_kind 1 = .ok (.ireturn, 1) := by decide +kernel
theorem dX6_kind_0 : decode cX6_kind 0 = .ok (.iconst 0, 1) := edX6_kind_0.1
theorem dX6_kind_1 : decode cX6_kind 1 = .ok (.ireturn, 1) := edX6_kind_0.2
noncomputable def voX6_kind : List Cond := []
noncomputable def vsX6_kind : List Cond := .code yX6_kind cX6_kind 1 (some .int) :: (voX6_kind)
theorem zgX6_kind : zGd vsX6_kind := z_gdC rfl ((z_gdO (by decide +kernel) : zGd voX6_kind))
set_option maxHeartbeats 4000000 in
set_option maxRecDepth 100000 in
theorem rX6_kind (l : Launch) (dC : Nat → ClassId) (dI : Nat → Nat → Nat) (cI cQ : ClassId) (ha0 : Nat) : Met l yX6_kind vsX6_kind ({ frames := 0, cells := 0, slots := 0, locals := 0 }) (va_Pc [.ref ha0] (zRB dC dI cI cQ [])) (vp_Si (fun r => 0 ≤ r.toInt ∧ r.toInt ≤ 0 ∧ (r.toInt = 0))) 0 0 (fun _ => False) := by
  refine Met.ofW (cc := cX6_kind) (maxL := 1) (ret := (some .int)) (by decide) rfl ?_
  intro p e s m args below meth c s₁ B hml hv
  obtain ⟨rfl, hP, hZ⟩ := hv
  obtain ⟨hK, hAO, hN⟩ := id hZ
  have hx := B.exec
  have hb := B.bytes
  have hr := B.returns
  have hts := atoms_spec (ws := vsX6_kind) B.pre
  have hown : s.vm.findClass RX6 = some m.cls := findClass_of_methodNamed B.named
  have hlocks := B.notSynchronized
  have hl := lv_entry ([.ref ha0]) (n := 1) (Nat.le_of_ble_eq_true rfl)
  rw [lg_entry_eq]
  generalize (lg_sl ([.ref ha0]) ++ List.replicate (1 - (lg_sl ([.ref ha0])).length) Slot.unset).toArray = ls at hl ⊢
  have hl : lv_has ls 1 [(0, .ref ha0)] := hl
  refine lv_iconst (v := 0) hx hb dX6_kind_0 (by decide) ?_
  exact W.iret (v := 0) hx hb hr (fun t ht hW => ⟨0, rfl, ⟨by first | decide | omega, by first | decide | omega, (by decide)⟩, ht⟩) (fun _ h => absurd h List.not_mem_nil) dX6_kind_1
set_option maxRecDepth 20000 in
theorem edX8_kind_0 : decode cX8_kind 0 = .ok (.iconst 2, 1) ∧ decode cX8_kind 1 = .ok (.ireturn, 1) := by decide +kernel
theorem dX8_kind_0 : decode cX8_kind 0 = .ok (.iconst 2, 1) := edX8_kind_0.1
theorem dX8_kind_1 : decode cX8_kind 1 = .ok (.ireturn, 1) := edX8_kind_0.2
noncomputable def voX8_kind : List Cond := []
noncomputable def vsX8_kind : List Cond := .code yX8_kind cX8_kind 1 (some .int) :: (voX8_kind)
theorem zgX8_kind : zGd vsX8_kind := z_gdC rfl ((z_gdO (by decide +kernel) : zGd voX8_kind))
set_option maxHeartbeats 4000000 in
set_option maxRecDepth 100000 in
theorem rX8_kind (l : Launch) (dC : Nat → ClassId) (dI : Nat → Nat → Nat) (cI cQ : ClassId) (ha0 : Nat) : Met l yX8_kind vsX8_kind ({ frames := 0, cells := 0, slots := 0, locals := 0 }) (va_Pc [.ref ha0] (zRB dC dI cI cQ [])) (vp_Si (fun r => 2 ≤ r.toInt ∧ r.toInt ≤ 2 ∧ (r.toInt = 2))) 0 0 (fun _ => False) := by
  refine Met.ofW (cc := cX8_kind) (maxL := 1) (ret := (some .int)) (by decide) rfl ?_
  intro p e s m args below meth c s₁ B hml hv
  obtain ⟨rfl, hP, hZ⟩ := hv
  obtain ⟨hK, hAO, hN⟩ := id hZ
  have hx := B.exec
  have hb := B.bytes
  have hr := B.returns
  have hts := atoms_spec (ws := vsX8_kind) B.pre
  have hown : s.vm.findClass RX8 = some m.cls := findClass_of_methodNamed B.named
  have hlocks := B.notSynchronized
  have hl := lv_entry ([.ref ha0]) (n := 1) (Nat.le_of_ble_eq_true rfl)
  rw [lg_entry_eq]
  generalize (lg_sl ([.ref ha0]) ++ List.replicate (1 - (lg_sl ([.ref ha0])).length) Slot.unset).toArray = ls at hl ⊢
  have hl : lv_has ls 1 [(0, .ref ha0)] := hl
  refine lv_iconst (v := 2) hx hb dX8_kind_0 (by decide) ?_
  exact W.iret (v := 2) hx hb hr (fun t ht hW => ⟨2, rfl, ⟨by first | decide | omega, by first | decide | omega, (by decide)⟩, ht⟩) (fun _ h => absurd h List.not_mem_nil) dX8_kind_1
set_option maxRecDepth 20000 in
theorem edX10_kind_0 : decode cX10_kind 0 = .ok (.iconst 4, 1) ∧ decode cX10_kind 1 = .ok (.ireturn, 1) := by decide +kernel
theorem dX10_kind_0 : decode cX10_kind 0 = .ok (.iconst 4, 1) := edX10_kind_0.1
theorem dX10_kind_1 : decode cX10_kind 1 = .ok (.ireturn, 1) := edX10_kind_0.2
noncomputable def voX10_kind : List Cond := []
noncomputable def vsX10_kind : List Cond := .code yX10_kind cX10_kind 1 (some .int) :: (voX10_kind)
theorem zgX10_kind : zGd vsX10_kind := z_gdC rfl ((z_gdO (by decide +kernel) : zGd voX10_kind))
set_option maxHeartbeats 4000000 in
set_option maxRecDepth 100000 in
theorem rX10_kind (l : Launch) (dC : Nat → ClassId) (dI : Nat → Nat → Nat) (cI cQ : ClassId) (ha0 : Nat) : Met l yX10_kind vsX10_kind ({ frames := 0, cells := 0, slots := 0, locals := 0 }) (va_Pc [.ref ha0] (zRB dC dI cI cQ [])) (vp_Si (fun r => 4 ≤ r.toInt ∧ r.toInt ≤ 4 ∧ (r.toInt = 4))) 0 0 (fun _ => False) := by
  refine Met.ofW (cc := cX10_kind) (maxL := 1) (ret := (some .int)) (by decide) rfl ?_
  intro p e s m args below meth c s₁ B hml hv
  obtain ⟨rfl, hP, hZ⟩ := hv
  obtain ⟨hK, hAO, hN⟩ := id hZ
  have hx := B.exec
  have hb := B.bytes
  have hr := B.returns
  have hts := atoms_spec (ws := vsX10_kind) B.pre
  have hown : s.vm.findClass RX10 = some m.cls := findClass_of_methodNamed B.named
  have hlocks := B.notSynchronized
  have hl := lv_entry ([.ref ha0]) (n := 1) (Nat.le_of_ble_eq_true rfl)
  rw [lg_entry_eq]
  generalize (lg_sl ([.ref ha0]) ++ List.replicate (1 - (lg_sl ([.ref ha0])).length) Slot.unset).toArray = ls at hl ⊢
  have hl : lv_has ls 1 [(0, .ref ha0)] := hl
  refine lv_iconst (v := 4) hx hb dX10_kind_0 (by decide) ?_
  exact W.iret (v := 4) hx hb hr (fun t ht hW => ⟨4, rfl, ⟨by first | decide | omega, by first | decide | omega, (by decide)⟩, ht⟩) (fun _ h => absurd h List.not_mem_nil) dX10_kind_1
set_option maxRecDepth 20000 in
theorem edX7_kindOf_0 : decode cX7_kindOf 0 = .ok (.aload_n 0, 1) ∧ decode cX7_kindOf 1 = .ok (.iload_n 1, 1) ∧ decode cX7_kindOf 2 = .ok (.invokevirtual 56, 3) ∧ decode cX7_kindOf 5 = .ok (.ifCond .eq 12, 3) ∧ decode cX7_kindOf 8 = .ok (.aload_n 0, 1) ∧ decode cX7_kindOf 9 = .ok (.getfield 11, 3) ∧ decode cX7_kindOf 12 = .ok (.iload_n 1, 1) ∧ decode cX7_kindOf 13 = .ok (.aaload, 1) ∧ decode cX7_kindOf 14 = .ok (.goto 4, 3) ∧ decode cX7_kindOf 17 = .ok (.aconst_null, 1) ∧ decode cX7_kindOf 18 = .ok (.astore_n 2, 1) ∧ decode cX7_kindOf 19 = .ok (.aload_n 2, 1) := by decide +kernel
theorem dX7_kindOf_0 : decode cX7_kindOf 0 = .ok (.aload_n 0, 1) := edX7_kindOf_0.1
theorem dX7_kindOf_1 : decode cX7_kindOf 1 = .ok (.iload_n 1, 1) := edX7_kindOf_0.2.1
theorem dX7_kindOf_2 : decode cX7_kindOf 2 = .ok (.invokevirtual 56, 3) := edX7_kindOf_0.2.2.1
theorem dX7_kindOf_5 : decode cX7_kindOf 5 = .ok (.ifCond .eq 12, 3) := edX7_kindOf_0.2.2.2.1
theorem dX7_kindOf_8 : decode cX7_kindOf 8 = .ok (.aload_n 0, 1) := edX7_kindOf_0.2.2.2.2.1
theorem dX7_kindOf_9 : decode cX7_kindOf 9 = .ok (.getfield 11, 3) := edX7_kindOf_0.2.2.2.2.2.1
theorem dX7_kindOf_12 : decode cX7_kindOf 12 = .ok (.iload_n 1, 1) := edX7_kindOf_0.2.2.2.2.2.2.1
theorem dX7_kindOf_13 : decode cX7_kindOf 13 = .ok (.aaload, 1) := edX7_kindOf_0.2.2.2.2.2.2.2.1
theorem dX7_kindOf_14 : decode cX7_kindOf 14 = .ok (.goto 4, 3) := edX7_kindOf_0.2.2.2.2.2.2.2.2.1
theorem dX7_kindOf_17 : decode cX7_kindOf 17 = .ok (.aconst_null, 1) := edX7_kindOf_0.2.2.2.2.2.2.2.2.2.1
theorem dX7_kindOf_18 : decode cX7_kindOf 18 = .ok (.astore_n 2, 1) := edX7_kindOf_0.2.2.2.2.2.2.2.2.2.2.1
theorem dX7_kindOf_19 : decode cX7_kindOf 19 = .ok (.aload_n 2, 1) := edX7_kindOf_0.2.2.2.2.2.2.2.2.2.2.2
set_option maxRecDepth 20000 in
theorem edX7_kindOf_20 : decode cX7_kindOf 20 = .ok (.ifnonnull 8, 3) ∧ decode cX7_kindOf 23 = .ok (.bipush (-9), 2) ∧ decode cX7_kindOf 25 = .ok (.goto 7, 3) ∧ decode cX7_kindOf 28 = .ok (.aload_n 2, 1) ∧ decode cX7_kindOf 29 = .ok (.invokevirtual 60, 3) ∧ decode cX7_kindOf 32 = .ok (.ireturn, 1) := by decide +kernel
theorem dX7_kindOf_20 : decode cX7_kindOf 20 = .ok (.ifnonnull 8, 3) := edX7_kindOf_20.1
theorem dX7_kindOf_23 : decode cX7_kindOf 23 = .ok (.bipush (-9), 2) := edX7_kindOf_20.2.1
theorem dX7_kindOf_25 : decode cX7_kindOf 25 = .ok (.goto 7, 3) := edX7_kindOf_20.2.2.1
theorem dX7_kindOf_28 : decode cX7_kindOf 28 = .ok (.aload_n 2, 1) := edX7_kindOf_20.2.2.2.1
theorem dX7_kindOf_29 : decode cX7_kindOf 29 = .ok (.invokevirtual 60, 3) := edX7_kindOf_20.2.2.2.2.1
theorem dX7_kindOf_32 : decode cX7_kindOf 32 = .ok (.ireturn, 1) := edX7_kindOf_20.2.2.2.2.2
noncomputable def voX7_kindOf : List Cond := [.fieldLink RX7 11 "EachOnHisCue$Play" "cast" "[LEachOnHisCue$Next;", .methodLink RX7 56 yX7_hasPlayer, .instanceMethod yX7_hasPlayer, .selects RX7 yX7_hasPlayer yX7_hasPlayer, .initialized RX7, .methodLink RX7 60 yX6_kind, .sameMethod "EachOnHisCue$Next" "EachOnHisCue$Next" "kind" "()I", .instanceMethod yX6_kind, .selects RX0 yX6_kind yX0_kind, .instanceMethod yX0_kind, .initialized RX0, .code yX6_kind cX6_kind 1 (some .int), .selects RX1 yX6_kind yX1_kind, .instanceMethod yX1_kind, .initialized RX1, .selects RX3 yX6_kind yX3_kind, .instanceMethod yX3_kind, .initialized RX3, .selects RX6 yX6_kind yX6_kind, .initialized RX6, .selects RX8 yX6_kind yX8_kind, .instanceMethod yX8_kind, .initialized RX8, .selects RX10 yX6_kind yX10_kind, .instanceMethod yX10_kind, .initialized RX10]
noncomputable def vsX7_kindOf : List Cond := .code yX7_kindOf cX7_kindOf 3 (some .int) :: (voX7_kindOf ++ (vsX7_hasPlayer ++ (vsX0_kind ++ (vsX1_kind ++ (vsX3_kind ++ (vsX6_kind ++ (vsX8_kind ++ (vsX10_kind ++ (wsX70)))))))))
theorem zgX7_kindOf : zGd vsX7_kindOf := z_gdC rfl (z_gdA (z_gdO (by decide +kernel) : zGd voX7_kindOf) (z_gdA zgX7_hasPlayer (z_gdA zgX0_kind (z_gdA zgX1_kind (z_gdA zgX3_kind (z_gdA zgX6_kind (z_gdA zgX8_kind (z_gdA zgX10_kind (zgX7)))))))))
theorem in_X7_kindOf_X7 : ∀ w ∈ wsX70, w ∈ vsX7_kindOf := fun _ h => List.mem_cons_of_mem _ (List.mem_append_right _ (List.mem_append_right _ (List.mem_append_right _ (List.mem_append_right _ (List.mem_append_right _ (List.mem_append_right _ (List.mem_append_right _ (List.mem_append_right _ (h)))))))))
theorem gw_X7_kindOf_X7_hasPlayer : GoodIn vsX7_kindOf vsX7_hasPlayer := z_gdI (fun _ h => List.mem_cons_of_mem _ (List.mem_append_right _ (List.mem_append_left _ h))) zgX7_hasPlayer
set_option maxRecDepth 20000 in
theorem gv_X7_kindOf_X7_hasPlayer_56 : GoodIn vsX7_kindOf (wsV RX7 56 RX7 yX7_hasPlayer vsX7_hasPlayer) := goodIn_app (goodIn_of _ (by decide +kernel)) gw_X7_kindOf_X7_hasPlayer
theorem gw_X7_kindOf_X0_kind : GoodIn vsX7_kindOf vsX0_kind := z_gdI (fun _ h => List.mem_cons_of_mem _ (List.mem_append_right _ (List.mem_append_right _ (List.mem_append_left _ h)))) zgX0_kind
set_option maxRecDepth 20000 in
theorem gv_X7_kindOf_X0_kind_60_X0 : GoodIn vsX7_kindOf (va_wsO RX7 60 RX0 "EachOnHisCue$Next" yX6_kind yX0_kind vsX0_kind) := goodIn_app (goodIn_of _ (by decide +kernel)) gw_X7_kindOf_X0_kind
theorem gw_X7_kindOf_X1_kind : GoodIn vsX7_kindOf vsX1_kind := z_gdI (fun _ h => List.mem_cons_of_mem _ (List.mem_append_right _ (List.mem_append_right _ (List.mem_append_right _ (List.mem_append_left _ h))))) zgX1_kind
set_option maxRecDepth 20000 in
theorem gv_X7_kindOf_X1_kind_60_X1 : GoodIn vsX7_kindOf (va_wsO RX7 60 RX1 "EachOnHisCue$Next" yX6_kind yX1_kind vsX1_kind) := goodIn_app (goodIn_of _ (by decide +kernel)) gw_X7_kindOf_X1_kind
theorem gw_X7_kindOf_X3_kind : GoodIn vsX7_kindOf vsX3_kind := z_gdI (fun _ h => List.mem_cons_of_mem _ (List.mem_append_right _ (List.mem_append_right _ (List.mem_append_right _ (List.mem_append_right _ (List.mem_append_left _ h)))))) zgX3_kind
set_option maxRecDepth 20000 in
theorem gv_X7_kindOf_X3_kind_60_X3 : GoodIn vsX7_kindOf (va_wsO RX7 60 RX3 "EachOnHisCue$Next" yX6_kind yX3_kind vsX3_kind) := goodIn_app (goodIn_of _ (by decide +kernel)) gw_X7_kindOf_X3_kind
theorem gw_X7_kindOf_X6_kind : GoodIn vsX7_kindOf vsX6_kind := z_gdI (fun _ h => List.mem_cons_of_mem _ (List.mem_append_right _ (List.mem_append_right _ (List.mem_append_right _ (List.mem_append_right _ (List.mem_append_right _ (List.mem_append_left _ h))))))) zgX6_kind
set_option maxRecDepth 20000 in
theorem gv_X7_kindOf_X6_kind_60 : GoodIn vsX7_kindOf (wsV RX7 60 RX6 yX6_kind vsX6_kind) := goodIn_app (goodIn_of _ (by decide +kernel)) gw_X7_kindOf_X6_kind
theorem gw_X7_kindOf_X8_kind : GoodIn vsX7_kindOf vsX8_kind := z_gdI (fun _ h => List.mem_cons_of_mem _ (List.mem_append_right _ (List.mem_append_right _ (List.mem_append_right _ (List.mem_append_right _ (List.mem_append_right _ (List.mem_append_right _ (List.mem_append_left _ h)))))))) zgX8_kind
set_option maxRecDepth 20000 in
theorem gv_X7_kindOf_X8_kind_60_X8 : GoodIn vsX7_kindOf (va_wsO RX7 60 RX8 "EachOnHisCue$Next" yX6_kind yX8_kind vsX8_kind) := goodIn_app (goodIn_of _ (by decide +kernel)) gw_X7_kindOf_X8_kind
theorem gw_X7_kindOf_X10_kind : GoodIn vsX7_kindOf vsX10_kind := z_gdI (fun _ h => List.mem_cons_of_mem _ (List.mem_append_right _ (List.mem_append_right _ (List.mem_append_right _ (List.mem_append_right _ (List.mem_append_right _ (List.mem_append_right _ (List.mem_append_right _ (List.mem_append_left _ h))))))))) zgX10_kind
set_option maxRecDepth 20000 in
theorem gv_X7_kindOf_X10_kind_60_X10 : GoodIn vsX7_kindOf (va_wsO RX7 60 RX10 "EachOnHisCue$Next" yX6_kind yX10_kind vsX10_kind) := goodIn_app (goodIn_of _ (by decide +kernel)) gw_X7_kindOf_X10_kind
set_option maxHeartbeats 4000000 in
set_option maxRecDepth 100000 in
theorem rX7_kindOf (l : Launch) (dC : Nat → ClassId) (dI : Nat → Nat → Nat) (cI cQ : ClassId) (ha0 ha0_0 ha0_1 ha0_2 ha0_4 ha0_5 ha0_6 ha0_7 ha0_11 : Nat) (PL : Nat → Nat → Int32 → Prop) (ga0_0 : Nat → ZQ) (hPLga0_0 : zHp PL ga0_0) (ia0_3 : Int32) (hia0_3l : 0 ≤ ia0_3.toInt) (hia0_3h : ia0_3.toInt ≤ 5) (ia0_8 : Int32) (ia0_9 : Int32) (hia0_9l : 0 ≤ ia0_9.toInt) (hia0_9h : ia0_9.toInt ≤ 12) (ia0_10 : Int32) (p1 : Int32) : Met l yX7_kindOf vsX7_kindOf ({ frames := 1, cells := 0, slots := 0, locals := 21 }) (va_Pc [.ref ha0, .int p1] (zRBP dC dI cI cQ PL [(ha0_0, .inl (cQ, 5, .inr (.inr (.inr (.inr (fun i => (ga0_0 i).1)))))), (ha0, .inr (7, [.ref ha0_0, .ref ha0_1, .ref ha0_2, .int ia0_3, .ref ha0_4, .ref ha0_5, .ref ha0_6, .ref ha0_7, .int ia0_8, .int ia0_9, .int ia0_10, .ref ha0_11]))])) (vp_Si (fun r => (-9) ≤ r.toInt ∧ r.toInt ≤ 5 ∧ (zPr ia0_3.toInt ga0_0 p1.toInt (r.toInt = -9) (fun kd fg => r.toInt = (kd p1.toNatClampNeg).toInt)))) 0 0 (fun _ => False) := by
  refine Met.ofW (cc := cX7_kindOf) (maxL := 3) (ret := (some .int)) (by decide) rfl ?_
  intro p e s m args below meth c s₁ B hml hv
  obtain ⟨rfl, hP, hZ, hPl⟩ := hv
  obtain ⟨hK, hAO, hN⟩ := id hZ
  have hx := B.exec
  have hb := B.bytes
  have hr := B.returns
  have hts := atoms_spec (ws := vsX7_kindOf) B.pre
  have hown : s.vm.findClass RX7 = some m.cls := findClass_of_methodNamed B.named
  have hlocks := B.notSynchronized
  have hp1l := z_lo p1
  have hp1h := z_hi p1
  have hl := lv_entry ([.ref ha0, .int p1]) (n := 3) (Nat.le_of_ble_eq_true rfl)
  rw [lg_entry_eq]
  generalize (lg_sl ([.ref ha0, .int p1]) ++ List.replicate (3 - (lg_sl ([.ref ha0, .int p1])).length) Slot.unset).toArray = ls at hl ⊢
  have hl : lv_has ls 3 [(0, .ref ha0), (1, .int p1)] := hl
  refine lv_aload_n hx hb dX7_kindOf_0 rfl (lv_at hl 0 rfl) ?_
  refine lv_iload_n hx hb dX7_kindOf_1 rfl (lv_at hl 1 rfl) ?_
  refine z_rdi (va_runV (As := [.int p1]) (rest := []) ⟨hx, hb, hml, hown, hts⟩ (rX7_hasPlayer l dC dI cI cQ ha0 ha0_0 ha0_1 ha0_2 ha0_4 ha0_5 ha0_6 ha0_7 ha0_11 ia0_3 hia0_3l hia0_3h ia0_8 ia0_9 hia0_9l hia0_9h ia0_10 p1) (cwV 1 hts gv_X7_kindOf_X7_hasPlayer_56 rfl rfl rfl (by decide +kernel) ⟨Nat.le_of_ble_eq_true rfl, Nat.le_of_ble_eq_true rfl⟩) ⟨z_blindR, va_recv hK hP (ci := 7) (q0 := 1) rfl rfl, z_preR hZ hP [1] rfl⟩ rfl rfl hl.1 rfl (lv_room (Nat.le_of_ble_eq_true rfl)) dX7_kindOf_2 ⟨Nat.le_of_ble_eq_true rfl, Nat.le_of_ble_eq_true rfl⟩) (fun y1 hy1 => ?_)
  obtain ⟨hy1_0, hy1_1, hy1_2⟩ := hy1
  refine lv_if_eq (tgt := 17) hx hb dX7_kindOf_5 (by decide) (fun hc => ?_) (fun hc => ?_)
  · have q2 : y1.toInt = 0 := z_eq rfl (by decide) hc
    refine lv_null hx hb dX7_kindOf_17 ?_
    refine lv_astore_nN (lv' := [(2, .null), (0, .ref ha0), (1, .int p1)]) hx hb dX7_kindOf_18 rfl hl (by decide) rfl (fun ls hl => ?_)
    refine lv_aload_nN hx hb dX7_kindOf_19 rfl (lv_at hl 0 rfl) ?_
    refine lv_ifnonnullN hx hb dX7_kindOf_20 ?_
    refine lv_bipush (v := (-9)) hx hb dX7_kindOf_23 (by decide) ?_
    refine lv_goto (tgt := 32) hx hb dX7_kindOf_25 (by decide) ?_
    exact W.iret (v := (-9)) hx hb hr (fun t ht hW => ⟨(-9), rfl, ⟨by first | decide | omega, by first | decide | omega, (by exact Or.inl ⟨by omega, by decide⟩)⟩, ht⟩) (fun _ h => absurd h List.not_mem_nil) dX7_kindOf_32
  · have q3 : y1.toInt ≠ 0 := z_ne rfl (by decide) hc
    refine lv_aload_n hx hb dX7_kindOf_8 rfl (lv_at hl 0 rfl) ?_
    refine va_get (D := (dC, dI)) (ci := 7) (v := .ref ha0_0) (C := RX7) (T := TX7) (N := 12) hx hb hts in_X7_kindOf_X7 hown hK hP 1 rfl rfl 0 (by decide) (hts (.fieldLink RX7 11 "EachOnHisCue$Play" "cast" "[LEachOnHisCue$Next;") (by decide +kernel)) (fun _ h9 => h9) rfl dX7_kindOf_9 ?_
    refine lv_iload_n hx hb dX7_kindOf_12 rfl (lv_at hl 1 rfl) ?_
    refine va_aldq hx hb hK hP 0 1 rfl rfl (z_in (by omega) (by omega)) dX7_kindOf_13 ?_
    rcases hg5 : (ga0_0 (p1 : Int32).toNatClampNeg).1 with _ | y4
    · refine W.eq (g2 := F0 m 14 ls [.null]) rfl ?_
      refine lv_goto (tgt := 18) hx hb dX7_kindOf_14 (by decide) ?_
      refine lv_astore_nN (lv' := [(2, .null), (0, .ref ha0), (1, .int p1)]) hx hb dX7_kindOf_18 rfl hl (by decide) rfl (fun ls hl => ?_)
      refine lv_aload_nN hx hb dX7_kindOf_19 rfl (lv_at hl 0 rfl) ?_
      refine lv_ifnonnullN hx hb dX7_kindOf_20 ?_
      refine lv_bipush (v := (-9)) hx hb dX7_kindOf_23 (by decide) ?_
      refine lv_goto (tgt := 32) hx hb dX7_kindOf_25 (by decide) ?_
      exact W.iret (v := (-9)) hx hb hr (fun t ht hW => ⟨(-9), rfl, ⟨by first | decide | omega, by first | decide | omega, (by exact Or.inr ⟨by omega, by omega, fun kd fg hK => (z_knN hK (by omega) (by omega) hg5).elim⟩)⟩, ht⟩) (fun _ h => absurd h List.not_mem_nil) dX7_kindOf_32
    · refine W.eq (g2 := F0 m 14 ls [.ref y4]) rfl ?_
      have hply4 : PL y4 (ga0_0 (p1 : Int32).toNatClampNeg).2.1 (ga0_0 (p1 : Int32).toNatClampNeg).2.2 := hPLga0_0 _ _ hg5
      refine lv_goto (tgt := 18) hx hb dX7_kindOf_14 (by decide) ?_
      refine lv_astore_n (lv' := [(2, .ref y4), (0, .ref ha0), (1, .int p1)]) hx hb dX7_kindOf_18 rfl hl (by decide) rfl (fun ls hl => ?_)
      refine lv_aload_n hx hb dX7_kindOf_19 rfl (lv_at hl 0 rfl) ?_
      refine lv_ifnonnull (tgt := 28) hx hb dX7_kindOf_20 (by decide) ?_
      refine lv_aload_n hx hb dX7_kindOf_28 rfl (lv_at hl 0 rfl) ?_
      obtain ⟨kk, vv, ekk, evv, hkk, hPy⟩ := z_spl (hPl y4 _ _ hply4)
      rcases hkk with rfl | rfl | rfl | rfl | rfl | rfl
      · refine z_rdi (va_runU (As := []) (rest := []) ⟨hx, hb, hml, hown, hts⟩ (rX0_kind l dC dI cI cQ y4) (va_cwO 0 hts gv_X7_kindOf_X0_kind_60_X0 rfl rfl rfl (b0 := cX6_kind) (m0 := 1) (r0 := (some .int)) (List.mem_of_getElem? (i := 12) rfl) (by decide +kernel) ⟨Nat.le_of_ble_eq_true rfl, Nat.le_of_ble_eq_true rfl⟩) ⟨z_blindR, va_recv hK hPy (ci := 0) (q0 := 0) rfl rfl, z_preR hZ hPy [] rfl⟩ rfl rfl hl.1 rfl (lv_room (Nat.le_of_ble_eq_true rfl)) dX7_kindOf_29 ⟨Nat.le_of_ble_eq_true rfl, Nat.le_of_ble_eq_true rfl⟩) (fun y6 hy6 => ?_)
        obtain ⟨hy6_0, hy6_1, hy6_2⟩ := hy6
        exact W.iret (v := y6) hx hb hr (fun t ht hW => ⟨y6, rfl, ⟨by first | decide | omega, by first | decide | omega, (by exact Or.inr ⟨by omega, by omega, fun kd fg hK => (hy6_2.trans (z_knK hK (by omega) (by omega) ekk).symm)⟩)⟩, ht⟩) (fun _ h => absurd h List.not_mem_nil) dX7_kindOf_32
      · refine z_rdi (va_runU (As := []) (rest := []) ⟨hx, hb, hml, hown, hts⟩ (rX1_kind l dC dI cI cQ y4) (va_cwO 0 hts gv_X7_kindOf_X1_kind_60_X1 rfl rfl rfl (b0 := cX6_kind) (m0 := 1) (r0 := (some .int)) (List.mem_of_getElem? (i := 12) rfl) (by decide +kernel) ⟨Nat.le_of_ble_eq_true rfl, Nat.le_of_ble_eq_true rfl⟩) ⟨z_blindR, va_recv hK hPy (ci := 1) (q0 := 0) rfl rfl, z_preR hZ hPy [] rfl⟩ rfl rfl hl.1 rfl (lv_room (Nat.le_of_ble_eq_true rfl)) dX7_kindOf_29 ⟨Nat.le_of_ble_eq_true rfl, Nat.le_of_ble_eq_true rfl⟩) (fun y7 hy7 => ?_)
        obtain ⟨hy7_0, hy7_1, hy7_2⟩ := hy7
        exact W.iret (v := y7) hx hb hr (fun t ht hW => ⟨y7, rfl, ⟨by first | decide | omega, by first | decide | omega, (by exact Or.inr ⟨by omega, by omega, fun kd fg hK => (hy7_2.trans (z_knK hK (by omega) (by omega) ekk).symm)⟩)⟩, ht⟩) (fun _ h => absurd h List.not_mem_nil) dX7_kindOf_32
      · refine z_rdi (va_runU (As := []) (rest := []) ⟨hx, hb, hml, hown, hts⟩ (rX3_kind l dC dI cI cQ y4) (va_cwO 0 hts gv_X7_kindOf_X3_kind_60_X3 rfl rfl rfl (b0 := cX6_kind) (m0 := 1) (r0 := (some .int)) (List.mem_of_getElem? (i := 12) rfl) (by decide +kernel) ⟨Nat.le_of_ble_eq_true rfl, Nat.le_of_ble_eq_true rfl⟩) ⟨z_blindR, va_recv hK hPy (ci := 3) (q0 := 0) rfl rfl, z_preR hZ hPy [] rfl⟩ rfl rfl hl.1 rfl (lv_room (Nat.le_of_ble_eq_true rfl)) dX7_kindOf_29 ⟨Nat.le_of_ble_eq_true rfl, Nat.le_of_ble_eq_true rfl⟩) (fun y8 hy8 => ?_)
        obtain ⟨hy8_0, hy8_1, hy8_2⟩ := hy8
        exact W.iret (v := y8) hx hb hr (fun t ht hW => ⟨y8, rfl, ⟨by first | decide | omega, by first | decide | omega, (by exact Or.inr ⟨by omega, by omega, fun kd fg hK => (hy8_2.trans (z_knK hK (by omega) (by omega) ekk).symm)⟩)⟩, ht⟩) (fun _ h => absurd h List.not_mem_nil) dX7_kindOf_32
      · refine z_rdi (va_runV (As := []) (rest := []) ⟨hx, hb, hml, hown, hts⟩ (rX6_kind l dC dI cI cQ y4) (cwV 0 hts gv_X7_kindOf_X6_kind_60 rfl rfl rfl (by decide +kernel) ⟨Nat.le_of_ble_eq_true rfl, Nat.le_of_ble_eq_true rfl⟩) ⟨z_blindR, va_recv hK hPy (ci := 6) (q0 := 0) rfl rfl, z_preR hZ hPy [] rfl⟩ rfl rfl hl.1 rfl (lv_room (Nat.le_of_ble_eq_true rfl)) dX7_kindOf_29 ⟨Nat.le_of_ble_eq_true rfl, Nat.le_of_ble_eq_true rfl⟩) (fun y9 hy9 => ?_)
        obtain ⟨hy9_0, hy9_1, hy9_2⟩ := hy9
        exact W.iret (v := y9) hx hb hr (fun t ht hW => ⟨y9, rfl, ⟨by first | decide | omega, by first | decide | omega, (by exact Or.inr ⟨by omega, by omega, fun kd fg hK => (hy9_2.trans (z_knK hK (by omega) (by omega) ekk).symm)⟩)⟩, ht⟩) (fun _ h => absurd h List.not_mem_nil) dX7_kindOf_32
      · refine z_rdi (va_runU (As := []) (rest := []) ⟨hx, hb, hml, hown, hts⟩ (rX8_kind l dC dI cI cQ y4) (va_cwO 0 hts gv_X7_kindOf_X8_kind_60_X8 rfl rfl rfl (b0 := cX6_kind) (m0 := 1) (r0 := (some .int)) (List.mem_of_getElem? (i := 12) rfl) (by decide +kernel) ⟨Nat.le_of_ble_eq_true rfl, Nat.le_of_ble_eq_true rfl⟩) ⟨z_blindR, va_recv hK hPy (ci := 8) (q0 := 0) rfl rfl, z_preR hZ hPy [] rfl⟩ rfl rfl hl.1 rfl (lv_room (Nat.le_of_ble_eq_true rfl)) dX7_kindOf_29 ⟨Nat.le_of_ble_eq_true rfl, Nat.le_of_ble_eq_true rfl⟩) (fun y10 hy10 => ?_)
        obtain ⟨hy10_0, hy10_1, hy10_2⟩ := hy10
        exact W.iret (v := y10) hx hb hr (fun t ht hW => ⟨y10, rfl, ⟨by first | decide | omega, by first | decide | omega, (by exact Or.inr ⟨by omega, by omega, fun kd fg hK => (hy10_2.trans (z_knK hK (by omega) (by omega) ekk).symm)⟩)⟩, ht⟩) (fun _ h => absurd h List.not_mem_nil) dX7_kindOf_32
      · refine z_rdi (va_runU (As := []) (rest := []) ⟨hx, hb, hml, hown, hts⟩ (rX10_kind l dC dI cI cQ y4) (va_cwO 0 hts gv_X7_kindOf_X10_kind_60_X10 rfl rfl rfl (b0 := cX6_kind) (m0 := 1) (r0 := (some .int)) (List.mem_of_getElem? (i := 12) rfl) (by decide +kernel) ⟨Nat.le_of_ble_eq_true rfl, Nat.le_of_ble_eq_true rfl⟩) ⟨z_blindR, va_recv hK hPy (ci := 10) (q0 := 0) rfl rfl, z_preR hZ hPy [] rfl⟩ rfl rfl hl.1 rfl (lv_room (Nat.le_of_ble_eq_true rfl)) dX7_kindOf_29 ⟨Nat.le_of_ble_eq_true rfl, Nat.le_of_ble_eq_true rfl⟩) (fun y11 hy11 => ?_)
        obtain ⟨hy11_0, hy11_1, hy11_2⟩ := hy11
        exact W.iret (v := y11) hx hb hr (fun t ht hW => ⟨y11, rfl, ⟨by first | decide | omega, by first | decide | omega, (by exact Or.inr ⟨by omega, by omega, fun kd fg hK => (hy11_2.trans (z_knK hK (by omega) (by omega) ekk).symm)⟩)⟩, ht⟩) (fun _ h => absurd h List.not_mem_nil) dX7_kindOf_32
set_option maxRecDepth 20000 in
theorem edX7_figureOf_0 : decode cX7_figureOf 0 = .ok (.aload_n 0, 1) ∧ decode cX7_figureOf 1 = .ok (.iload_n 1, 1) ∧ decode cX7_figureOf 2 = .ok (.invokevirtual 56, 3) ∧ decode cX7_figureOf 5 = .ok (.ifCond .eq 12, 3) ∧ decode cX7_figureOf 8 = .ok (.aload_n 0, 1) ∧ decode cX7_figureOf 9 = .ok (.getfield 11, 3) ∧ decode cX7_figureOf 12 = .ok (.iload_n 1, 1) ∧ decode cX7_figureOf 13 = .ok (.aaload, 1) ∧ decode cX7_figureOf 14 = .ok (.goto 4, 3) ∧ decode cX7_figureOf 17 = .ok (.aconst_null, 1) ∧ decode cX7_figureOf 18 = .ok (.astore_n 2, 1) ∧ decode cX7_figureOf 19 = .ok (.aload_n 2, 1) := by decide +kernel
theorem dX7_figureOf_0 : decode cX7_figureOf 0 = .ok (.aload_n 0, 1) := edX7_figureOf_0.1
theorem dX7_figureOf_1 : decode cX7_figureOf 1 = .ok (.iload_n 1, 1) := edX7_figureOf_0.2.1
theorem dX7_figureOf_2 : decode cX7_figureOf 2 = .ok (.invokevirtual 56, 3) := edX7_figureOf_0.2.2.1
theorem dX7_figureOf_5 : decode cX7_figureOf 5 = .ok (.ifCond .eq 12, 3) := edX7_figureOf_0.2.2.2.1
theorem dX7_figureOf_8 : decode cX7_figureOf 8 = .ok (.aload_n 0, 1) := edX7_figureOf_0.2.2.2.2.1
theorem dX7_figureOf_9 : decode cX7_figureOf 9 = .ok (.getfield 11, 3) := edX7_figureOf_0.2.2.2.2.2.1
theorem dX7_figureOf_12 : decode cX7_figureOf 12 = .ok (.iload_n 1, 1) := edX7_figureOf_0.2.2.2.2.2.2.1
theorem dX7_figureOf_13 : decode cX7_figureOf 13 = .ok (.aaload, 1) := edX7_figureOf_0.2.2.2.2.2.2.2.1
theorem dX7_figureOf_14 : decode cX7_figureOf 14 = .ok (.goto 4, 3) := edX7_figureOf_0.2.2.2.2.2.2.2.2.1
theorem dX7_figureOf_17 : decode cX7_figureOf 17 = .ok (.aconst_null, 1) := edX7_figureOf_0.2.2.2.2.2.2.2.2.2.1
theorem dX7_figureOf_18 : decode cX7_figureOf 18 = .ok (.astore_n 2, 1) := edX7_figureOf_0.2.2.2.2.2.2.2.2.2.2.1
theorem dX7_figureOf_19 : decode cX7_figureOf 19 = .ok (.aload_n 2, 1) := edX7_figureOf_0.2.2.2.2.2.2.2.2.2.2.2
set_option maxRecDepth 20000 in
theorem edX7_figureOf_20 : decode cX7_figureOf 20 = .ok (.ifnonnull 8, 3) ∧ decode cX7_figureOf 23 = .ok (.bipush (-9), 2) ∧ decode cX7_figureOf 25 = .ok (.goto 7, 3) ∧ decode cX7_figureOf 28 = .ok (.aload_n 2, 1) ∧ decode cX7_figureOf 29 = .ok (.getfield 64, 3) ∧ decode cX7_figureOf 32 = .ok (.ireturn, 1) := by decide +kernel
theorem dX7_figureOf_20 : decode cX7_figureOf 20 = .ok (.ifnonnull 8, 3) := edX7_figureOf_20.1
theorem dX7_figureOf_23 : decode cX7_figureOf 23 = .ok (.bipush (-9), 2) := edX7_figureOf_20.2.1
theorem dX7_figureOf_25 : decode cX7_figureOf 25 = .ok (.goto 7, 3) := edX7_figureOf_20.2.2.1
theorem dX7_figureOf_28 : decode cX7_figureOf 28 = .ok (.aload_n 2, 1) := edX7_figureOf_20.2.2.2.1
theorem dX7_figureOf_29 : decode cX7_figureOf 29 = .ok (.getfield 64, 3) := edX7_figureOf_20.2.2.2.2.1
theorem dX7_figureOf_32 : decode cX7_figureOf 32 = .ok (.ireturn, 1) := edX7_figureOf_20.2.2.2.2.2
noncomputable def voX7_figureOf : List Cond := [.fieldLink RX7 11 "EachOnHisCue$Play" "cast" "[LEachOnHisCue$Next;", .fieldLink RX7 64 "EachOnHisCue$Next" "figure" "I", .methodLink RX7 56 yX7_hasPlayer, .instanceMethod yX7_hasPlayer, .selects RX7 yX7_hasPlayer yX7_hasPlayer, .initialized RX7]
noncomputable def vsX7_figureOf : List Cond := .code yX7_figureOf cX7_figureOf 3 (some .int) :: (voX7_figureOf ++ (vsX7_hasPlayer ++ (wsX00 ++ (wsX10 ++ (wsX30 ++ (wsX60 ++ (wsX70 ++ (wsX80 ++ (wsX100)))))))))
theorem zgX0 : zGd wsX00 := z_gdO (by decide +kernel)
theorem zgX1 : zGd wsX10 := z_gdO (by decide +kernel)
theorem zgX3 : zGd wsX30 := z_gdO (by decide +kernel)
theorem zgX6 : zGd wsX60 := z_gdO (by decide +kernel)
theorem zgX8 : zGd wsX80 := z_gdO (by decide +kernel)
theorem zgX10 : zGd wsX100 := z_gdO (by decide +kernel)
theorem zgX7_figureOf : zGd vsX7_figureOf := z_gdC rfl (z_gdA (z_gdO (by decide +kernel) : zGd voX7_figureOf) (z_gdA zgX7_hasPlayer (z_gdA zgX0 (z_gdA zgX1 (z_gdA zgX3 (z_gdA zgX6 (z_gdA zgX7 (z_gdA zgX8 (zgX10)))))))))
theorem in_X7_figureOf_X0 : ∀ w ∈ wsX00, w ∈ vsX7_figureOf := fun _ h => List.mem_cons_of_mem _ (List.mem_append_right _ (List.mem_append_right _ (List.mem_append_left _ h)))
theorem in_X7_figureOf_X1 : ∀ w ∈ wsX10, w ∈ vsX7_figureOf := fun _ h => List.mem_cons_of_mem _ (List.mem_append_right _ (List.mem_append_right _ (List.mem_append_right _ (List.mem_append_left _ h))))
theorem in_X7_figureOf_X3 : ∀ w ∈ wsX30, w ∈ vsX7_figureOf := fun _ h => List.mem_cons_of_mem _ (List.mem_append_right _ (List.mem_append_right _ (List.mem_append_right _ (List.mem_append_right _ (List.mem_append_left _ h)))))
theorem in_X7_figureOf_X6 : ∀ w ∈ wsX60, w ∈ vsX7_figureOf := fun _ h => List.mem_cons_of_mem _ (List.mem_append_right _ (List.mem_append_right _ (List.mem_append_right _ (List.mem_append_right _ (List.mem_append_right _ (List.mem_append_left _ h))))))
theorem in_X7_figureOf_X7 : ∀ w ∈ wsX70, w ∈ vsX7_figureOf := fun _ h => List.mem_cons_of_mem _ (List.mem_append_right _ (List.mem_append_right _ (List.mem_append_right _ (List.mem_append_right _ (List.mem_append_right _ (List.mem_append_right _ (List.mem_append_left _ h)))))))
theorem in_X7_figureOf_X8 : ∀ w ∈ wsX80, w ∈ vsX7_figureOf := fun _ h => List.mem_cons_of_mem _ (List.mem_append_right _ (List.mem_append_right _ (List.mem_append_right _ (List.mem_append_right _ (List.mem_append_right _ (List.mem_append_right _ (List.mem_append_right _ (List.mem_append_left _ h))))))))
theorem in_X7_figureOf_X10 : ∀ w ∈ wsX100, w ∈ vsX7_figureOf := fun _ h => List.mem_cons_of_mem _ (List.mem_append_right _ (List.mem_append_right _ (List.mem_append_right _ (List.mem_append_right _ (List.mem_append_right _ (List.mem_append_right _ (List.mem_append_right _ (List.mem_append_right _ (h)))))))))
theorem gw_X7_figureOf_X7_hasPlayer : GoodIn vsX7_figureOf vsX7_hasPlayer := z_gdI (fun _ h => List.mem_cons_of_mem _ (List.mem_append_right _ (List.mem_append_left _ h))) zgX7_hasPlayer
set_option maxRecDepth 20000 in
theorem gv_X7_figureOf_X7_hasPlayer_56 : GoodIn vsX7_figureOf (wsV RX7 56 RX7 yX7_hasPlayer vsX7_hasPlayer) := goodIn_app (goodIn_of _ (by decide +kernel)) gw_X7_figureOf_X7_hasPlayer
set_option maxHeartbeats 4000000 in
set_option maxRecDepth 100000 in
theorem rX7_figureOf (l : Launch) (dC : Nat → ClassId) (dI : Nat → Nat → Nat) (cI cQ : ClassId) (ha0 ha0_0 ha0_1 ha0_2 ha0_4 ha0_5 ha0_6 ha0_7 ha0_11 : Nat) (PL : Nat → Nat → Int32 → Prop) (ga0_0 : Nat → ZQ) (hPLga0_0 : zHp PL ga0_0) (ia0_3 : Int32) (hia0_3l : 0 ≤ ia0_3.toInt) (hia0_3h : ia0_3.toInt ≤ 5) (ia0_8 : Int32) (ia0_9 : Int32) (hia0_9l : 0 ≤ ia0_9.toInt) (hia0_9h : ia0_9.toInt ≤ 12) (ia0_10 : Int32) (p1 : Int32) : Met l yX7_figureOf vsX7_figureOf ({ frames := 1, cells := 0, slots := 0, locals := 21 }) (va_Pc [.ref ha0, .int p1] (zRBP dC dI cI cQ PL [(ha0_0, .inl (cQ, 5, .inr (.inr (.inr (.inr (fun i => (ga0_0 i).1)))))), (ha0, .inr (7, [.ref ha0_0, .ref ha0_1, .ref ha0_2, .int ia0_3, .ref ha0_4, .ref ha0_5, .ref ha0_6, .ref ha0_7, .int ia0_8, .int ia0_9, .int ia0_10, .ref ha0_11]))])) (vp_Si (fun r => (-2147483648) ≤ r.toInt ∧ r.toInt ≤ 2147483647 ∧ (zPr ia0_3.toInt ga0_0 p1.toInt (r.toInt = -9) (fun kd fg => r = fg p1.toNatClampNeg)))) 0 0 (fun _ => False) := by
  refine Met.ofW (cc := cX7_figureOf) (maxL := 3) (ret := (some .int)) (by decide) rfl ?_
  intro p e s m args below meth c s₁ B hml hv
  obtain ⟨rfl, hP, hZ, hPl⟩ := hv
  obtain ⟨hK, hAO, hN⟩ := id hZ
  have hx := B.exec
  have hb := B.bytes
  have hr := B.returns
  have hts := atoms_spec (ws := vsX7_figureOf) B.pre
  have hown : s.vm.findClass RX7 = some m.cls := findClass_of_methodNamed B.named
  have hlocks := B.notSynchronized
  have hp1l := z_lo p1
  have hp1h := z_hi p1
  have hl := lv_entry ([.ref ha0, .int p1]) (n := 3) (Nat.le_of_ble_eq_true rfl)
  rw [lg_entry_eq]
  generalize (lg_sl ([.ref ha0, .int p1]) ++ List.replicate (3 - (lg_sl ([.ref ha0, .int p1])).length) Slot.unset).toArray = ls at hl ⊢
  have hl : lv_has ls 3 [(0, .ref ha0), (1, .int p1)] := hl
  refine lv_aload_n hx hb dX7_figureOf_0 rfl (lv_at hl 0 rfl) ?_
  refine lv_iload_n hx hb dX7_figureOf_1 rfl (lv_at hl 1 rfl) ?_
  refine z_rdi (va_runV (As := [.int p1]) (rest := []) ⟨hx, hb, hml, hown, hts⟩ (rX7_hasPlayer l dC dI cI cQ ha0 ha0_0 ha0_1 ha0_2 ha0_4 ha0_5 ha0_6 ha0_7 ha0_11 ia0_3 hia0_3l hia0_3h ia0_8 ia0_9 hia0_9l hia0_9h ia0_10 p1) (cwV 1 hts gv_X7_figureOf_X7_hasPlayer_56 rfl rfl rfl (by decide +kernel) ⟨Nat.le_of_ble_eq_true rfl, Nat.le_of_ble_eq_true rfl⟩) ⟨z_blindR, va_recv hK hP (ci := 7) (q0 := 1) rfl rfl, z_preR hZ hP [1] rfl⟩ rfl rfl hl.1 rfl (lv_room (Nat.le_of_ble_eq_true rfl)) dX7_figureOf_2 ⟨Nat.le_of_ble_eq_true rfl, Nat.le_of_ble_eq_true rfl⟩) (fun y1 hy1 => ?_)
  obtain ⟨hy1_0, hy1_1, hy1_2⟩ := hy1
  refine lv_if_eq (tgt := 17) hx hb dX7_figureOf_5 (by decide) (fun hc => ?_) (fun hc => ?_)
  · have q2 : y1.toInt = 0 := z_eq rfl (by decide) hc
    refine lv_null hx hb dX7_figureOf_17 ?_
    refine lv_astore_nN (lv' := [(2, .null), (0, .ref ha0), (1, .int p1)]) hx hb dX7_figureOf_18 rfl hl (by decide) rfl (fun ls hl => ?_)
    refine lv_aload_nN hx hb dX7_figureOf_19 rfl (lv_at hl 0 rfl) ?_
    refine lv_ifnonnullN hx hb dX7_figureOf_20 ?_
    refine lv_bipush (v := (-9)) hx hb dX7_figureOf_23 (by decide) ?_
    refine lv_goto (tgt := 32) hx hb dX7_figureOf_25 (by decide) ?_
    exact W.iret (v := (-9)) hx hb hr (fun t ht hW => ⟨(-9), rfl, ⟨z_lo _, z_hi _, (by exact Or.inl ⟨by omega, by decide⟩)⟩, ht⟩) (fun _ h => absurd h List.not_mem_nil) dX7_figureOf_32
  · have q3 : y1.toInt ≠ 0 := z_ne rfl (by decide) hc
    refine lv_aload_n hx hb dX7_figureOf_8 rfl (lv_at hl 0 rfl) ?_
    refine va_get (D := (dC, dI)) (ci := 7) (v := .ref ha0_0) (C := RX7) (T := TX7) (N := 12) hx hb hts in_X7_figureOf_X7 hown hK hP 1 rfl rfl 0 (by decide) (hts (.fieldLink RX7 11 "EachOnHisCue$Play" "cast" "[LEachOnHisCue$Next;") (by decide +kernel)) (fun _ h9 => h9) rfl dX7_figureOf_9 ?_
    refine lv_iload_n hx hb dX7_figureOf_12 rfl (lv_at hl 1 rfl) ?_
    refine va_aldq hx hb hK hP 0 1 rfl rfl (z_in (by omega) (by omega)) dX7_figureOf_13 ?_
    rcases hg5 : (ga0_0 (p1 : Int32).toNatClampNeg).1 with _ | y4
    · refine W.eq (g2 := F0 m 14 ls [.null]) rfl ?_
      refine lv_goto (tgt := 18) hx hb dX7_figureOf_14 (by decide) ?_
      refine lv_astore_nN (lv' := [(2, .null), (0, .ref ha0), (1, .int p1)]) hx hb dX7_figureOf_18 rfl hl (by decide) rfl (fun ls hl => ?_)
      refine lv_aload_nN hx hb dX7_figureOf_19 rfl (lv_at hl 0 rfl) ?_
      refine lv_ifnonnullN hx hb dX7_figureOf_20 ?_
      refine lv_bipush (v := (-9)) hx hb dX7_figureOf_23 (by decide) ?_
      refine lv_goto (tgt := 32) hx hb dX7_figureOf_25 (by decide) ?_
      exact W.iret (v := (-9)) hx hb hr (fun t ht hW => ⟨(-9), rfl, ⟨z_lo _, z_hi _, (by exact Or.inr ⟨by omega, by omega, fun kd fg hK => (z_knN hK (by omega) (by omega) hg5).elim⟩)⟩, ht⟩) (fun _ h => absurd h List.not_mem_nil) dX7_figureOf_32
    · refine W.eq (g2 := F0 m 14 ls [.ref y4]) rfl ?_
      have hply4 : PL y4 (ga0_0 (p1 : Int32).toNatClampNeg).2.1 (ga0_0 (p1 : Int32).toNatClampNeg).2.2 := hPLga0_0 _ _ hg5
      refine lv_goto (tgt := 18) hx hb dX7_figureOf_14 (by decide) ?_
      refine lv_astore_n (lv' := [(2, .ref y4), (0, .ref ha0), (1, .int p1)]) hx hb dX7_figureOf_18 rfl hl (by decide) rfl (fun ls hl => ?_)
      refine lv_aload_n hx hb dX7_figureOf_19 rfl (lv_at hl 0 rfl) ?_
      refine lv_ifnonnull (tgt := 28) hx hb dX7_figureOf_20 (by decide) ?_
      refine lv_aload_n hx hb dX7_figureOf_28 rfl (lv_at hl 0 rfl) ?_
      obtain ⟨kk, vv, ekk, evv, hkk, hPy⟩ := z_spl (hPl y4 _ _ hply4)
      rcases hkk with rfl | rfl | rfl | rfl | rfl | rfl
      · refine va_get (D := (dC, dI)) (ci := 0) (v := .int vv) (C := RX0) (T := TX0) (N := 1) hx hb hts in_X7_figureOf_X0 hown hK hPy 0 rfl rfl 0 (by decide) (hts (.fieldLink RX7 64 "EachOnHisCue$Next" "figure" "I") (by decide +kernel)) (fun _ h9 => h9) rfl dX7_figureOf_29 ?_
        refine lv_topi (fun y6 ey6 => ?_)
        exact W.iret (v := y6) hx hb hr (fun t ht hW => ⟨y6, rfl, ⟨z_lo _, z_hi _, (by exact Or.inr ⟨by omega, by omega, fun kd fg hK => (by rw [ey6, ← evv, z_knF hK (by omega) (by omega)])⟩)⟩, ht⟩) (fun _ h => absurd h List.not_mem_nil) dX7_figureOf_32
      · refine va_get (D := (dC, dI)) (ci := 1) (v := .int vv) (C := RX1) (T := TX1) (N := 1) hx hb hts in_X7_figureOf_X1 hown hK hPy 0 rfl rfl 0 (by decide) (hts (.fieldLink RX7 64 "EachOnHisCue$Next" "figure" "I") (by decide +kernel)) (fun _ h9 => h9) rfl dX7_figureOf_29 ?_
        refine lv_topi (fun y7 ey7 => ?_)
        exact W.iret (v := y7) hx hb hr (fun t ht hW => ⟨y7, rfl, ⟨z_lo _, z_hi _, (by exact Or.inr ⟨by omega, by omega, fun kd fg hK => (by rw [ey7, ← evv, z_knF hK (by omega) (by omega)])⟩)⟩, ht⟩) (fun _ h => absurd h List.not_mem_nil) dX7_figureOf_32
      · refine va_get (D := (dC, dI)) (ci := 3) (v := .int vv) (C := RX3) (T := TX3) (N := 1) hx hb hts in_X7_figureOf_X3 hown hK hPy 0 rfl rfl 0 (by decide) (hts (.fieldLink RX7 64 "EachOnHisCue$Next" "figure" "I") (by decide +kernel)) (fun _ h9 => h9) rfl dX7_figureOf_29 ?_
        refine lv_topi (fun y8 ey8 => ?_)
        exact W.iret (v := y8) hx hb hr (fun t ht hW => ⟨y8, rfl, ⟨z_lo _, z_hi _, (by exact Or.inr ⟨by omega, by omega, fun kd fg hK => (by rw [ey8, ← evv, z_knF hK (by omega) (by omega)])⟩)⟩, ht⟩) (fun _ h => absurd h List.not_mem_nil) dX7_figureOf_32
      · refine va_get (D := (dC, dI)) (ci := 6) (v := .int vv) (C := RX6) (T := TX6) (N := 1) hx hb hts in_X7_figureOf_X6 hown hK hPy 0 rfl rfl 0 (by decide) (hts (.fieldLink RX7 64 "EachOnHisCue$Next" "figure" "I") (by decide +kernel)) (fun _ h9 => h9) rfl dX7_figureOf_29 ?_
        refine lv_topi (fun y9 ey9 => ?_)
        exact W.iret (v := y9) hx hb hr (fun t ht hW => ⟨y9, rfl, ⟨z_lo _, z_hi _, (by exact Or.inr ⟨by omega, by omega, fun kd fg hK => (by rw [ey9, ← evv, z_knF hK (by omega) (by omega)])⟩)⟩, ht⟩) (fun _ h => absurd h List.not_mem_nil) dX7_figureOf_32
      · refine va_get (D := (dC, dI)) (ci := 8) (v := .int vv) (C := RX8) (T := TX8) (N := 1) hx hb hts in_X7_figureOf_X8 hown hK hPy 0 rfl rfl 0 (by decide) (hts (.fieldLink RX7 64 "EachOnHisCue$Next" "figure" "I") (by decide +kernel)) (fun _ h9 => h9) rfl dX7_figureOf_29 ?_
        refine lv_topi (fun y10 ey10 => ?_)
        exact W.iret (v := y10) hx hb hr (fun t ht hW => ⟨y10, rfl, ⟨z_lo _, z_hi _, (by exact Or.inr ⟨by omega, by omega, fun kd fg hK => (by rw [ey10, ← evv, z_knF hK (by omega) (by omega)])⟩)⟩, ht⟩) (fun _ h => absurd h List.not_mem_nil) dX7_figureOf_32
      · refine va_get (D := (dC, dI)) (ci := 10) (v := .int vv) (C := RX10) (T := TX10) (N := 1) hx hb hts in_X7_figureOf_X10 hown hK hPy 0 rfl rfl 0 (by decide) (hts (.fieldLink RX7 64 "EachOnHisCue$Next" "figure" "I") (by decide +kernel)) (fun _ h9 => h9) rfl dX7_figureOf_29 ?_
        refine lv_topi (fun y11 ey11 => ?_)
        exact W.iret (v := y11) hx hb hr (fun t ht hW => ⟨y11, rfl, ⟨z_lo _, z_hi _, (by exact Or.inr ⟨by omega, by omega, fun kd fg hK => (by rw [ey11, ← evv, z_knF hK (by omega) (by omega)])⟩)⟩, ht⟩) (fun _ h => absurd h List.not_mem_nil) dX7_figureOf_32
set_option maxRecDepth 20000 in
theorem edX6_haste_0 : decode cX6_haste 0 = .ok (.iload_n 1, 1) ∧ decode cX6_haste 1 = .ok (.ireturn, 1) := by decide +kernel
theorem dX6_haste_0 : decode cX6_haste 0 = .ok (.iload_n 1, 1) := edX6_haste_0.1
theorem dX6_haste_1 : decode cX6_haste 1 = .ok (.ireturn, 1) := edX6_haste_0.2
noncomputable def voX6_haste : List Cond := []
noncomputable def vsX6_haste : List Cond := .code yX6_haste cX6_haste 2 (some .int) :: (voX6_haste)
theorem zgX6_haste : zGd vsX6_haste := z_gdC rfl ((z_gdO (by decide +kernel) : zGd voX6_haste))
set_option maxHeartbeats 4000000 in
set_option maxRecDepth 100000 in
theorem rX6_haste_X0 (l : Launch) (dC : Nat → ClassId) (dI : Nat → Nat → Nat) (cI cQ : ClassId) (ha0 : Nat) (p1 : Int32) : Met l yX6_haste vsX6_haste ({ frames := 0, cells := 0, slots := 0, locals := 0 }) (va_Pc [.ref ha0, .int p1] (zRB dC dI cI cQ [])) (vp_Si (fun r => (-2147483648) ≤ r.toInt ∧ r.toInt ≤ 2147483647 ∧ (r = p1))) 0 0 (fun _ => False) := by
  refine Met.ofW (cc := cX6_haste) (maxL := 2) (ret := (some .int)) (by decide) rfl ?_
  intro p e s m args below meth c s₁ B hml hv
  obtain ⟨rfl, hP, hZ⟩ := hv
  obtain ⟨hK, hAO, hN⟩ := id hZ
  have hx := B.exec
  have hb := B.bytes
  have hr := B.returns
  have hts := atoms_spec (ws := vsX6_haste) B.pre
  have hown : s.vm.findClass RX6 = some m.cls := findClass_of_methodNamed B.named
  have hlocks := B.notSynchronized
  have hp1l := z_lo p1
  have hp1h := z_hi p1
  have hl := lv_entry ([.ref ha0, .int p1]) (n := 2) (Nat.le_of_ble_eq_true rfl)
  rw [lg_entry_eq]
  generalize (lg_sl ([.ref ha0, .int p1]) ++ List.replicate (2 - (lg_sl ([.ref ha0, .int p1])).length) Slot.unset).toArray = ls at hl ⊢
  have hl : lv_has ls 2 [(0, .ref ha0), (1, .int p1)] := hl
  refine lv_iload_n hx hb dX6_haste_0 rfl (lv_at hl 1 rfl) ?_
  exact W.iret (v := p1) hx hb hr (fun t ht hW => ⟨p1, rfl, ⟨z_lo _, z_hi _, (by rfl)⟩, ht⟩) (fun _ h => absurd h List.not_mem_nil) dX6_haste_1
set_option maxHeartbeats 4000000 in
set_option maxRecDepth 100000 in
theorem rX6_haste_X1 (l : Launch) (dC : Nat → ClassId) (dI : Nat → Nat → Nat) (cI cQ : ClassId) (ha0 : Nat) (p1 : Int32) : Met l yX6_haste vsX6_haste ({ frames := 0, cells := 0, slots := 0, locals := 0 }) (va_Pc [.ref ha0, .int p1] (zRB dC dI cI cQ [])) (vp_Si (fun r => (-2147483648) ≤ r.toInt ∧ r.toInt ≤ 2147483647 ∧ (r = p1))) 0 0 (fun _ => False) := by
  refine Met.ofW (cc := cX6_haste) (maxL := 2) (ret := (some .int)) (by decide) rfl ?_
  intro p e s m args below meth c s₁ B hml hv
  obtain ⟨rfl, hP, hZ⟩ := hv
  obtain ⟨hK, hAO, hN⟩ := id hZ
  have hx := B.exec
  have hb := B.bytes
  have hr := B.returns
  have hts := atoms_spec (ws := vsX6_haste) B.pre
  have hown : s.vm.findClass RX6 = some m.cls := findClass_of_methodNamed B.named
  have hlocks := B.notSynchronized
  have hp1l := z_lo p1
  have hp1h := z_hi p1
  have hl := lv_entry ([.ref ha0, .int p1]) (n := 2) (Nat.le_of_ble_eq_true rfl)
  rw [lg_entry_eq]
  generalize (lg_sl ([.ref ha0, .int p1]) ++ List.replicate (2 - (lg_sl ([.ref ha0, .int p1])).length) Slot.unset).toArray = ls at hl ⊢
  have hl : lv_has ls 2 [(0, .ref ha0), (1, .int p1)] := hl
  refine lv_iload_n hx hb dX6_haste_0 rfl (lv_at hl 1 rfl) ?_
  exact W.iret (v := p1) hx hb hr (fun t ht hW => ⟨p1, rfl, ⟨z_lo _, z_hi _, (by rfl)⟩, ht⟩) (fun _ h => absurd h List.not_mem_nil) dX6_haste_1
set_option maxHeartbeats 4000000 in
set_option maxRecDepth 100000 in
theorem rX6_haste_X3 (l : Launch) (dC : Nat → ClassId) (dI : Nat → Nat → Nat) (cI cQ : ClassId) (ha0 : Nat) (p1 : Int32) : Met l yX6_haste vsX6_haste ({ frames := 0, cells := 0, slots := 0, locals := 0 }) (va_Pc [.ref ha0, .int p1] (zRB dC dI cI cQ [])) (vp_Si (fun r => (-2147483648) ≤ r.toInt ∧ r.toInt ≤ 2147483647 ∧ (r = p1))) 0 0 (fun _ => False) := by
  refine Met.ofW (cc := cX6_haste) (maxL := 2) (ret := (some .int)) (by decide) rfl ?_
  intro p e s m args below meth c s₁ B hml hv
  obtain ⟨rfl, hP, hZ⟩ := hv
  obtain ⟨hK, hAO, hN⟩ := id hZ
  have hx := B.exec
  have hb := B.bytes
  have hr := B.returns
  have hts := atoms_spec (ws := vsX6_haste) B.pre
  have hown : s.vm.findClass RX6 = some m.cls := findClass_of_methodNamed B.named
  have hlocks := B.notSynchronized
  have hp1l := z_lo p1
  have hp1h := z_hi p1
  have hl := lv_entry ([.ref ha0, .int p1]) (n := 2) (Nat.le_of_ble_eq_true rfl)
  rw [lg_entry_eq]
  generalize (lg_sl ([.ref ha0, .int p1]) ++ List.replicate (2 - (lg_sl ([.ref ha0, .int p1])).length) Slot.unset).toArray = ls at hl ⊢
  have hl : lv_has ls 2 [(0, .ref ha0), (1, .int p1)] := hl
  refine lv_iload_n hx hb dX6_haste_0 rfl (lv_at hl 1 rfl) ?_
  exact W.iret (v := p1) hx hb hr (fun t ht hW => ⟨p1, rfl, ⟨z_lo _, z_hi _, (by rfl)⟩, ht⟩) (fun _ h => absurd h List.not_mem_nil) dX6_haste_1
set_option maxHeartbeats 4000000 in
set_option maxRecDepth 100000 in
theorem rX6_haste (l : Launch) (dC : Nat → ClassId) (dI : Nat → Nat → Nat) (cI cQ : ClassId) (ha0 : Nat) (p1 : Int32) : Met l yX6_haste vsX6_haste ({ frames := 0, cells := 0, slots := 0, locals := 0 }) (va_Pc [.ref ha0, .int p1] (zRB dC dI cI cQ [])) (vp_Si (fun r => (-2147483648) ≤ r.toInt ∧ r.toInt ≤ 2147483647 ∧ (r = p1))) 0 0 (fun _ => False) := by
  refine Met.ofW (cc := cX6_haste) (maxL := 2) (ret := (some .int)) (by decide) rfl ?_
  intro p e s m args below meth c s₁ B hml hv
  obtain ⟨rfl, hP, hZ⟩ := hv
  obtain ⟨hK, hAO, hN⟩ := id hZ
  have hx := B.exec
  have hb := B.bytes
  have hr := B.returns
  have hts := atoms_spec (ws := vsX6_haste) B.pre
  have hown : s.vm.findClass RX6 = some m.cls := findClass_of_methodNamed B.named
  have hlocks := B.notSynchronized
  have hp1l := z_lo p1
  have hp1h := z_hi p1
  have hl := lv_entry ([.ref ha0, .int p1]) (n := 2) (Nat.le_of_ble_eq_true rfl)
  rw [lg_entry_eq]
  generalize (lg_sl ([.ref ha0, .int p1]) ++ List.replicate (2 - (lg_sl ([.ref ha0, .int p1])).length) Slot.unset).toArray = ls at hl ⊢
  have hl : lv_has ls 2 [(0, .ref ha0), (1, .int p1)] := hl
  refine lv_iload_n hx hb dX6_haste_0 rfl (lv_at hl 1 rfl) ?_
  exact W.iret (v := p1) hx hb hr (fun t ht hW => ⟨p1, rfl, ⟨z_lo _, z_hi _, (by rfl)⟩, ht⟩) (fun _ h => absurd h List.not_mem_nil) dX6_haste_1
set_option maxRecDepth 20000 in
theorem edX8_haste_0 : decode cX8_haste 0 = .ok (.iconst 2, 1) ∧ decode cX8_haste 1 = .ok (.iload_n 1, 1) ∧ decode cX8_haste 2 = .ok (.imul, 1) ∧ decode cX8_haste 3 = .ok (.iconst 1, 1) ∧ decode cX8_haste 4 = .ok (.iadd, 1) ∧ decode cX8_haste 5 = .ok (.ireturn, 1) := by decide +kernel
theorem dX8_haste_0 : decode cX8_haste 0 = .ok (.iconst 2, 1) := edX8_haste_0.1
theorem dX8_haste_1 : decode cX8_haste 1 = .ok (.iload_n 1, 1) := edX8_haste_0.2.1
theorem dX8_haste_2 : decode cX8_haste 2 = .ok (.imul, 1) := edX8_haste_0.2.2.1
theorem dX8_haste_3 : decode cX8_haste 3 = .ok (.iconst 1, 1) := edX8_haste_0.2.2.2.1
theorem dX8_haste_4 : decode cX8_haste 4 = .ok (.iadd, 1) := edX8_haste_0.2.2.2.2.1
theorem dX8_haste_5 : decode cX8_haste 5 = .ok (.ireturn, 1) := edX8_haste_0.2.2.2.2.2
noncomputable def voX8_haste : List Cond := []
noncomputable def vsX8_haste : List Cond := .code yX8_haste cX8_haste 2 (some .int) :: (voX8_haste)
theorem zgX8_haste : zGd vsX8_haste := z_gdC rfl ((z_gdO (by decide +kernel) : zGd voX8_haste))
set_option maxHeartbeats 4000000 in
set_option maxRecDepth 100000 in
theorem rX8_haste (l : Launch) (dC : Nat → ClassId) (dI : Nat → Nat → Nat) (cI cQ : ClassId) (ha0 : Nat) (p1 : Int32) : Met l yX8_haste vsX8_haste ({ frames := 0, cells := 0, slots := 0, locals := 0 }) (va_Pc [.ref ha0, .int p1] (zRB dC dI cI cQ [])) (vp_Si (fun r => (-2147483648) ≤ r.toInt ∧ r.toInt ≤ 2147483647 ∧ (r = 2 * p1 + 1))) 0 0 (fun _ => False) := by
  refine Met.ofW (cc := cX8_haste) (maxL := 2) (ret := (some .int)) (by decide) rfl ?_
  intro p e s m args below meth c s₁ B hml hv
  obtain ⟨rfl, hP, hZ⟩ := hv
  obtain ⟨hK, hAO, hN⟩ := id hZ
  have hx := B.exec
  have hb := B.bytes
  have hr := B.returns
  have hts := atoms_spec (ws := vsX8_haste) B.pre
  have hown : s.vm.findClass RX8 = some m.cls := findClass_of_methodNamed B.named
  have hlocks := B.notSynchronized
  have hp1l := z_lo p1
  have hp1h := z_hi p1
  have hl := lv_entry ([.ref ha0, .int p1]) (n := 2) (Nat.le_of_ble_eq_true rfl)
  rw [lg_entry_eq]
  generalize (lg_sl ([.ref ha0, .int p1]) ++ List.replicate (2 - (lg_sl ([.ref ha0, .int p1])).length) Slot.unset).toArray = ls at hl ⊢
  have hl : lv_has ls 2 [(0, .ref ha0), (1, .int p1)] := hl
  refine lv_iconst (v := 2) hx hb dX8_haste_0 (by decide) ?_
  refine lv_iload_n hx hb dX8_haste_1 rfl (lv_at hl 1 rfl) ?_
  refine lv_imul hx hb dX8_haste_2 ?_
  refine lv_topi (fun y1 ey1 => ?_)
  refine lv_iconst (v := 1) hx hb dX8_haste_3 (by decide) ?_
  refine lv_iadd hx hb dX8_haste_4 ?_
  refine lv_topi (fun y2 ey2 => ?_)
  exact W.iret (v := y2) hx hb hr (fun t ht hW => ⟨y2, rfl, ⟨z_lo _, z_hi _, (by rw [ey2, ey1])⟩, ht⟩) (fun _ h => absurd h List.not_mem_nil) dX8_haste_5
set_option maxHeartbeats 4000000 in
set_option maxRecDepth 100000 in
theorem rX6_haste_X10 (l : Launch) (dC : Nat → ClassId) (dI : Nat → Nat → Nat) (cI cQ : ClassId) (ha0 : Nat) (p1 : Int32) : Met l yX6_haste vsX6_haste ({ frames := 0, cells := 0, slots := 0, locals := 0 }) (va_Pc [.ref ha0, .int p1] (zRB dC dI cI cQ [])) (vp_Si (fun r => (-2147483648) ≤ r.toInt ∧ r.toInt ≤ 2147483647 ∧ (r = p1))) 0 0 (fun _ => False) := by
  refine Met.ofW (cc := cX6_haste) (maxL := 2) (ret := (some .int)) (by decide) rfl ?_
  intro p e s m args below meth c s₁ B hml hv
  obtain ⟨rfl, hP, hZ⟩ := hv
  obtain ⟨hK, hAO, hN⟩ := id hZ
  have hx := B.exec
  have hb := B.bytes
  have hr := B.returns
  have hts := atoms_spec (ws := vsX6_haste) B.pre
  have hown : s.vm.findClass RX6 = some m.cls := findClass_of_methodNamed B.named
  have hlocks := B.notSynchronized
  have hp1l := z_lo p1
  have hp1h := z_hi p1
  have hl := lv_entry ([.ref ha0, .int p1]) (n := 2) (Nat.le_of_ble_eq_true rfl)
  rw [lg_entry_eq]
  generalize (lg_sl ([.ref ha0, .int p1]) ++ List.replicate (2 - (lg_sl ([.ref ha0, .int p1])).length) Slot.unset).toArray = ls at hl ⊢
  have hl : lv_has ls 2 [(0, .ref ha0), (1, .int p1)] := hl
  refine lv_iload_n hx hb dX6_haste_0 rfl (lv_at hl 1 rfl) ?_
  exact W.iret (v := p1) hx hb hr (fun t ht hW => ⟨p1, rfl, ⟨z_lo _, z_hi _, (by rfl)⟩, ht⟩) (fun _ h => absurd h List.not_mem_nil) dX6_haste_1
set_option maxRecDepth 20000 in
theorem edX7_hasteOf_0 : decode cX7_hasteOf 0 = .ok (.aload_n 0, 1) ∧ decode cX7_hasteOf 1 = .ok (.iload_n 1, 1) ∧ decode cX7_hasteOf 2 = .ok (.invokevirtual 56, 3) ∧ decode cX7_hasteOf 5 = .ok (.ifCond .eq 12, 3) ∧ decode cX7_hasteOf 8 = .ok (.aload_n 0, 1) ∧ decode cX7_hasteOf 9 = .ok (.getfield 11, 3) ∧ decode cX7_hasteOf 12 = .ok (.iload_n 1, 1) ∧ decode cX7_hasteOf 13 = .ok (.aaload, 1) ∧ decode cX7_hasteOf 14 = .ok (.goto 4, 3) ∧ decode cX7_hasteOf 17 = .ok (.aconst_null, 1) ∧ decode cX7_hasteOf 18 = .ok (.astore_n 2, 1) ∧ decode cX7_hasteOf 19 = .ok (.aload_n 2, 1) := by decide +kernel
theorem dX7_hasteOf_0 : decode cX7_hasteOf 0 = .ok (.aload_n 0, 1) := edX7_hasteOf_0.1
theorem dX7_hasteOf_1 : decode cX7_hasteOf 1 = .ok (.iload_n 1, 1) := edX7_hasteOf_0.2.1
theorem dX7_hasteOf_2 : decode cX7_hasteOf 2 = .ok (.invokevirtual 56, 3) := edX7_hasteOf_0.2.2.1
theorem dX7_hasteOf_5 : decode cX7_hasteOf 5 = .ok (.ifCond .eq 12, 3) := edX7_hasteOf_0.2.2.2.1
theorem dX7_hasteOf_8 : decode cX7_hasteOf 8 = .ok (.aload_n 0, 1) := edX7_hasteOf_0.2.2.2.2.1
theorem dX7_hasteOf_9 : decode cX7_hasteOf 9 = .ok (.getfield 11, 3) := edX7_hasteOf_0.2.2.2.2.2.1
theorem dX7_hasteOf_12 : decode cX7_hasteOf 12 = .ok (.iload_n 1, 1) := edX7_hasteOf_0.2.2.2.2.2.2.1
theorem dX7_hasteOf_13 : decode cX7_hasteOf 13 = .ok (.aaload, 1) := edX7_hasteOf_0.2.2.2.2.2.2.2.1
theorem dX7_hasteOf_14 : decode cX7_hasteOf 14 = .ok (.goto 4, 3) := edX7_hasteOf_0.2.2.2.2.2.2.2.2.1
theorem dX7_hasteOf_17 : decode cX7_hasteOf 17 = .ok (.aconst_null, 1) := edX7_hasteOf_0.2.2.2.2.2.2.2.2.2.1
theorem dX7_hasteOf_18 : decode cX7_hasteOf 18 = .ok (.astore_n 2, 1) := edX7_hasteOf_0.2.2.2.2.2.2.2.2.2.2.1
theorem dX7_hasteOf_19 : decode cX7_hasteOf 19 = .ok (.aload_n 2, 1) := edX7_hasteOf_0.2.2.2.2.2.2.2.2.2.2.2
set_option maxRecDepth 20000 in
theorem edX7_hasteOf_20 : decode cX7_hasteOf 20 = .ok (.ifnonnull 8, 3) ∧ decode cX7_hasteOf 23 = .ok (.bipush (-9), 2) ∧ decode cX7_hasteOf 25 = .ok (.goto 13, 3) ∧ decode cX7_hasteOf 28 = .ok (.aload_n 2, 1) ∧ decode cX7_hasteOf 29 = .ok (.aload_n 0, 1) ∧ decode cX7_hasteOf 30 = .ok (.getfield 17, 3) ∧ decode cX7_hasteOf 33 = .ok (.iload_n 1, 1) ∧ decode cX7_hasteOf 34 = .ok (.iaload, 1) ∧ decode cX7_hasteOf 35 = .ok (.invokevirtual 67, 3) ∧ decode cX7_hasteOf 38 = .ok (.ireturn, 1) := by decide +kernel
theorem dX7_hasteOf_20 : decode cX7_hasteOf 20 = .ok (.ifnonnull 8, 3) := edX7_hasteOf_20.1
theorem dX7_hasteOf_23 : decode cX7_hasteOf 23 = .ok (.bipush (-9), 2) := edX7_hasteOf_20.2.1
theorem dX7_hasteOf_25 : decode cX7_hasteOf 25 = .ok (.goto 13, 3) := edX7_hasteOf_20.2.2.1
theorem dX7_hasteOf_28 : decode cX7_hasteOf 28 = .ok (.aload_n 2, 1) := edX7_hasteOf_20.2.2.2.1
theorem dX7_hasteOf_29 : decode cX7_hasteOf 29 = .ok (.aload_n 0, 1) := edX7_hasteOf_20.2.2.2.2.1
theorem dX7_hasteOf_30 : decode cX7_hasteOf 30 = .ok (.getfield 17, 3) := edX7_hasteOf_20.2.2.2.2.2.1
theorem dX7_hasteOf_33 : decode cX7_hasteOf 33 = .ok (.iload_n 1, 1) := edX7_hasteOf_20.2.2.2.2.2.2.1
theorem dX7_hasteOf_34 : decode cX7_hasteOf 34 = .ok (.iaload, 1) := edX7_hasteOf_20.2.2.2.2.2.2.2.1
theorem dX7_hasteOf_35 : decode cX7_hasteOf 35 = .ok (.invokevirtual 67, 3) := edX7_hasteOf_20.2.2.2.2.2.2.2.2.1
theorem dX7_hasteOf_38 : decode cX7_hasteOf 38 = .ok (.ireturn, 1) := edX7_hasteOf_20.2.2.2.2.2.2.2.2.2
noncomputable def voX7_hasteOf : List Cond := [.fieldLink RX7 11 "EachOnHisCue$Play" "cast" "[LEachOnHisCue$Next;", .fieldLink RX7 17 "EachOnHisCue$Play" "speeds" "[I", .methodLink RX7 56 yX7_hasPlayer, .instanceMethod yX7_hasPlayer, .selects RX7 yX7_hasPlayer yX7_hasPlayer, .initialized RX7, .methodLink RX7 67 yX6_haste, .sameMethod "EachOnHisCue$Next" "EachOnHisCue$Next" "haste" "(I)I", .selects RX0 yX6_haste yX6_haste, .instanceMethod yX6_haste, .initialized RX6, .selects RX1 yX6_haste yX6_haste, .selects RX3 yX6_haste yX6_haste, .selects RX6 yX6_haste yX6_haste, .selects RX8 yX6_haste yX8_haste, .instanceMethod yX8_haste, .initialized RX8, .code yX6_haste cX6_haste 2 (some .int), .selects RX10 yX6_haste yX6_haste]
noncomputable def vsX7_hasteOf : List Cond := .code yX7_hasteOf cX7_hasteOf 3 (some .int) :: (voX7_hasteOf ++ (vsX7_hasPlayer ++ (vsX6_haste ++ (vsX8_haste ++ (wsX70)))))
theorem zgX7_hasteOf : zGd vsX7_hasteOf := z_gdC rfl (z_gdA (z_gdO (by decide +kernel) : zGd voX7_hasteOf) (z_gdA zgX7_hasPlayer (z_gdA zgX6_haste (z_gdA zgX8_haste (zgX7)))))
theorem in_X7_hasteOf_X7 : ∀ w ∈ wsX70, w ∈ vsX7_hasteOf := fun _ h => List.mem_cons_of_mem _ (List.mem_append_right _ (List.mem_append_right _ (List.mem_append_right _ (List.mem_append_right _ (h)))))
theorem gw_X7_hasteOf_X7_hasPlayer : GoodIn vsX7_hasteOf vsX7_hasPlayer := z_gdI (fun _ h => List.mem_cons_of_mem _ (List.mem_append_right _ (List.mem_append_left _ h))) zgX7_hasPlayer
set_option maxRecDepth 20000 in
theorem gv_X7_hasteOf_X7_hasPlayer_56 : GoodIn vsX7_hasteOf (wsV RX7 56 RX7 yX7_hasPlayer vsX7_hasPlayer) := goodIn_app (goodIn_of _ (by decide +kernel)) gw_X7_hasteOf_X7_hasPlayer
theorem gw_X7_hasteOf_X6_haste : GoodIn vsX7_hasteOf vsX6_haste := z_gdI (fun _ h => List.mem_cons_of_mem _ (List.mem_append_right _ (List.mem_append_right _ (List.mem_append_left _ h)))) zgX6_haste
set_option maxRecDepth 20000 in
theorem gv_X7_hasteOf_X6_haste_67_X0 : GoodIn vsX7_hasteOf (va_wsU RX7 67 RX0 "EachOnHisCue$Next" yX6_haste yX6_haste vsX6_haste) := goodIn_app (goodIn_of _ (by decide +kernel)) gw_X7_hasteOf_X6_haste
set_option maxRecDepth 20000 in
theorem gv_X7_hasteOf_X6_haste_67_X1 : GoodIn vsX7_hasteOf (va_wsU RX7 67 RX1 "EachOnHisCue$Next" yX6_haste yX6_haste vsX6_haste) := goodIn_app (goodIn_of _ (by decide +kernel)) gw_X7_hasteOf_X6_haste
set_option maxRecDepth 20000 in
theorem gv_X7_hasteOf_X6_haste_67_X3 : GoodIn vsX7_hasteOf (va_wsU RX7 67 RX3 "EachOnHisCue$Next" yX6_haste yX6_haste vsX6_haste) := goodIn_app (goodIn_of _ (by decide +kernel)) gw_X7_hasteOf_X6_haste
set_option maxRecDepth 20000 in
theorem gv_X7_hasteOf_X6_haste_67 : GoodIn vsX7_hasteOf (wsV RX7 67 RX6 yX6_haste vsX6_haste) := goodIn_app (goodIn_of _ (by decide +kernel)) gw_X7_hasteOf_X6_haste
theorem gw_X7_hasteOf_X8_haste : GoodIn vsX7_hasteOf vsX8_haste := z_gdI (fun _ h => List.mem_cons_of_mem _ (List.mem_append_right _ (List.mem_append_right _ (List.mem_append_right _ (List.mem_append_left _ h))))) zgX8_haste
set_option maxRecDepth 20000 in
theorem gv_X7_hasteOf_X8_haste_67_X8 : GoodIn vsX7_hasteOf (va_wsO RX7 67 RX8 "EachOnHisCue$Next" yX6_haste yX8_haste vsX8_haste) := goodIn_app (goodIn_of _ (by decide +kernel)) gw_X7_hasteOf_X8_haste
set_option maxRecDepth 20000 in
theorem gv_X7_hasteOf_X6_haste_67_X10 : GoodIn vsX7_hasteOf (va_wsU RX7 67 RX10 "EachOnHisCue$Next" yX6_haste yX6_haste vsX6_haste) := goodIn_app (goodIn_of _ (by decide +kernel)) gw_X7_hasteOf_X6_haste
set_option maxHeartbeats 4000000 in
set_option maxRecDepth 100000 in
theorem rX7_hasteOf (l : Launch) (dC : Nat → ClassId) (dI : Nat → Nat → Nat) (cI cQ : ClassId) (ha0 ha0_0 ha0_1 ha0_2 ha0_4 ha0_5 ha0_6 ha0_7 ha0_11 : Nat) (PL : Nat → Nat → Int32 → Prop) (ga0_0 : Nat → ZQ) (hPLga0_0 : zHp PL ga0_0) (fa0_1 : Nat → Int32) (ia0_3 : Int32) (hia0_3l : 0 ≤ ia0_3.toInt) (hia0_3h : ia0_3.toInt ≤ 5) (ia0_8 : Int32) (ia0_9 : Int32) (hia0_9l : 0 ≤ ia0_9.toInt) (hia0_9h : ia0_9.toInt ≤ 12) (ia0_10 : Int32) (p1 : Int32) : Met l yX7_hasteOf vsX7_hasteOf ({ frames := 1, cells := 0, slots := 0, locals := 21 }) (va_Pc [.ref ha0, .int p1] (zRBP dC dI cI cQ PL [(ha0_0, .inl (cQ, 5, .inr (.inr (.inr (.inr (fun i => (ga0_0 i).1)))))), (ha0_1, .inl (cI, 5, .inl fa0_1)), (ha0, .inr (7, [.ref ha0_0, .ref ha0_1, .ref ha0_2, .int ia0_3, .ref ha0_4, .ref ha0_5, .ref ha0_6, .ref ha0_7, .int ia0_8, .int ia0_9, .int ia0_10, .ref ha0_11]))])) (vp_Si (fun r => (-2147483648) ≤ r.toInt ∧ r.toInt ≤ 2147483647 ∧ (zPr ia0_3.toInt ga0_0 p1.toInt (r.toInt = -9) (fun kd fg => r = zHs kd fa0_1 p1.toNatClampNeg)))) 0 0 (fun _ => False) := by
  refine Met.ofW (cc := cX7_hasteOf) (maxL := 3) (ret := (some .int)) (by decide) rfl ?_
  intro p e s m args below meth c s₁ B hml hv
  obtain ⟨rfl, hP, hZ, hPl⟩ := hv
  obtain ⟨hK, hAO, hN⟩ := id hZ
  have hx := B.exec
  have hb := B.bytes
  have hr := B.returns
  have hts := atoms_spec (ws := vsX7_hasteOf) B.pre
  have hown : s.vm.findClass RX7 = some m.cls := findClass_of_methodNamed B.named
  have hlocks := B.notSynchronized
  have hp1l := z_lo p1
  have hp1h := z_hi p1
  have hl := lv_entry ([.ref ha0, .int p1]) (n := 3) (Nat.le_of_ble_eq_true rfl)
  rw [lg_entry_eq]
  generalize (lg_sl ([.ref ha0, .int p1]) ++ List.replicate (3 - (lg_sl ([.ref ha0, .int p1])).length) Slot.unset).toArray = ls at hl ⊢
  have hl : lv_has ls 3 [(0, .ref ha0), (1, .int p1)] := hl
  refine lv_aload_n hx hb dX7_hasteOf_0 rfl (lv_at hl 0 rfl) ?_
  refine lv_iload_n hx hb dX7_hasteOf_1 rfl (lv_at hl 1 rfl) ?_
  refine z_rdi (va_runV (As := [.int p1]) (rest := []) ⟨hx, hb, hml, hown, hts⟩ (rX7_hasPlayer l dC dI cI cQ ha0 ha0_0 ha0_1 ha0_2 ha0_4 ha0_5 ha0_6 ha0_7 ha0_11 ia0_3 hia0_3l hia0_3h ia0_8 ia0_9 hia0_9l hia0_9h ia0_10 p1) (cwV 1 hts gv_X7_hasteOf_X7_hasPlayer_56 rfl rfl rfl (by decide +kernel) ⟨Nat.le_of_ble_eq_true rfl, Nat.le_of_ble_eq_true rfl⟩) ⟨z_blindR, va_recv hK hP (ci := 7) (q0 := 2) rfl rfl, z_preR hZ hP [2] rfl⟩ rfl rfl hl.1 rfl (lv_room (Nat.le_of_ble_eq_true rfl)) dX7_hasteOf_2 ⟨Nat.le_of_ble_eq_true rfl, Nat.le_of_ble_eq_true rfl⟩) (fun y1 hy1 => ?_)
  obtain ⟨hy1_0, hy1_1, hy1_2⟩ := hy1
  refine lv_if_eq (tgt := 17) hx hb dX7_hasteOf_5 (by decide) (fun hc => ?_) (fun hc => ?_)
  · have q2 : y1.toInt = 0 := z_eq rfl (by decide) hc
    refine lv_null hx hb dX7_hasteOf_17 ?_
    refine lv_astore_nN (lv' := [(2, .null), (0, .ref ha0), (1, .int p1)]) hx hb dX7_hasteOf_18 rfl hl (by decide) rfl (fun ls hl => ?_)
    refine lv_aload_nN hx hb dX7_hasteOf_19 rfl (lv_at hl 0 rfl) ?_
    refine lv_ifnonnullN hx hb dX7_hasteOf_20 ?_
    refine lv_bipush (v := (-9)) hx hb dX7_hasteOf_23 (by decide) ?_
    refine lv_goto (tgt := 38) hx hb dX7_hasteOf_25 (by decide) ?_
    exact W.iret (v := (-9)) hx hb hr (fun t ht hW => ⟨(-9), rfl, ⟨z_lo _, z_hi _, (by exact Or.inl ⟨by omega, by decide⟩)⟩, ht⟩) (fun _ h => absurd h List.not_mem_nil) dX7_hasteOf_38
  · have q3 : y1.toInt ≠ 0 := z_ne rfl (by decide) hc
    refine lv_aload_n hx hb dX7_hasteOf_8 rfl (lv_at hl 0 rfl) ?_
    refine va_get (D := (dC, dI)) (ci := 7) (v := .ref ha0_0) (C := RX7) (T := TX7) (N := 12) hx hb hts in_X7_hasteOf_X7 hown hK hP 2 rfl rfl 0 (by decide) (hts (.fieldLink RX7 11 "EachOnHisCue$Play" "cast" "[LEachOnHisCue$Next;") (by decide +kernel)) (fun _ h9 => h9) rfl dX7_hasteOf_9 ?_
    refine lv_iload_n hx hb dX7_hasteOf_12 rfl (lv_at hl 1 rfl) ?_
    refine va_aldq hx hb hK hP 0 1 rfl rfl (z_in (by omega) (by omega)) dX7_hasteOf_13 ?_
    rcases hg5 : (ga0_0 (p1 : Int32).toNatClampNeg).1 with _ | y4
    · refine W.eq (g2 := F0 m 14 ls [.null]) rfl ?_
      refine lv_goto (tgt := 18) hx hb dX7_hasteOf_14 (by decide) ?_
      refine lv_astore_nN (lv' := [(2, .null), (0, .ref ha0), (1, .int p1)]) hx hb dX7_hasteOf_18 rfl hl (by decide) rfl (fun ls hl => ?_)
      refine lv_aload_nN hx hb dX7_hasteOf_19 rfl (lv_at hl 0 rfl) ?_
      refine lv_ifnonnullN hx hb dX7_hasteOf_20 ?_
      refine lv_bipush (v := (-9)) hx hb dX7_hasteOf_23 (by decide) ?_
      refine lv_goto (tgt := 38) hx hb dX7_hasteOf_25 (by decide) ?_
      exact W.iret (v := (-9)) hx hb hr (fun t ht hW => ⟨(-9), rfl, ⟨z_lo _, z_hi _, (by exact Or.inr ⟨by omega, by omega, fun kd fg hK => (z_knN hK (by omega) (by omega) hg5).elim⟩)⟩, ht⟩) (fun _ h => absurd h List.not_mem_nil) dX7_hasteOf_38
    · refine W.eq (g2 := F0 m 14 ls [.ref y4]) rfl ?_
      have hply4 : PL y4 (ga0_0 (p1 : Int32).toNatClampNeg).2.1 (ga0_0 (p1 : Int32).toNatClampNeg).2.2 := hPLga0_0 _ _ hg5
      refine lv_goto (tgt := 18) hx hb dX7_hasteOf_14 (by decide) ?_
      refine lv_astore_n (lv' := [(2, .ref y4), (0, .ref ha0), (1, .int p1)]) hx hb dX7_hasteOf_18 rfl hl (by decide) rfl (fun ls hl => ?_)
      refine lv_aload_n hx hb dX7_hasteOf_19 rfl (lv_at hl 0 rfl) ?_
      refine lv_ifnonnull (tgt := 28) hx hb dX7_hasteOf_20 (by decide) ?_
      refine lv_aload_n hx hb dX7_hasteOf_28 rfl (lv_at hl 0 rfl) ?_
      refine lv_aload_n hx hb dX7_hasteOf_29 rfl (lv_at hl 1 rfl) ?_
      refine va_get (D := (dC, dI)) (ci := 7) (v := .ref ha0_1) (C := RX7) (T := TX7) (N := 12) hx hb hts in_X7_hasteOf_X7 hown hK hP 2 rfl rfl 1 (by decide) (hts (.fieldLink RX7 17 "EachOnHisCue$Play" "speeds" "[I") (by decide +kernel)) (fun _ h9 => h9) rfl dX7_hasteOf_30 ?_
      refine lv_iload_n hx hb dX7_hasteOf_33 rfl (lv_at hl 2 rfl) ?_
      refine va_iald hx hb hK hP 1 0 rfl rfl (z_in (by omega) (by omega)) dX7_hasteOf_34 ?_
      refine lv_topi (fun y6 ey6 => ?_)
      have gy6 : y6.toInt = (fa0_1 (p1 : Int32).toNatClampNeg).toInt := by rw [ey6]
      obtain ⟨kk, vv, ekk, evv, hkk, hPy⟩ := z_spl (hPl y4 _ _ hply4)
      rcases hkk with rfl | rfl | rfl | rfl | rfl | rfl
      · refine z_rdi (va_runU (As := [.int y6]) (rest := []) ⟨hx, hb, hml, hown, hts⟩ (rX6_haste_X0 l dC dI cI cQ y4 y6) (va_cwU 1 hts gv_X7_hasteOf_X6_haste_67_X0 rfl rfl rfl rfl (by decide +kernel) ⟨Nat.le_of_ble_eq_true rfl, Nat.le_of_ble_eq_true rfl⟩) ⟨z_blindR, va_recv hK hPy (ci := 0) (q0 := 0) rfl rfl, z_preR hZ hPy [] rfl⟩ rfl rfl hl.1 rfl (lv_room (Nat.le_of_ble_eq_true rfl)) dX7_hasteOf_35 ⟨Nat.le_of_ble_eq_true rfl, Nat.le_of_ble_eq_true rfl⟩) (fun y7 hy7 => ?_)
        obtain ⟨hy7_0, hy7_1, hy7_2⟩ := hy7
        exact W.iret (v := y7) hx hb hr (fun t ht hW => ⟨y7, rfl, ⟨z_lo _, z_hi _, (by exact Or.inr ⟨by omega, by omega, fun kd fg hK => (z_hsN (z_knK hK (by omega) (by omega) ekk) (by decide) hy7_2 ey6)⟩)⟩, ht⟩) (fun _ h => absurd h List.not_mem_nil) dX7_hasteOf_38
      · refine z_rdi (va_runU (As := [.int y6]) (rest := []) ⟨hx, hb, hml, hown, hts⟩ (rX6_haste_X1 l dC dI cI cQ y4 y6) (va_cwU 1 hts gv_X7_hasteOf_X6_haste_67_X1 rfl rfl rfl rfl (by decide +kernel) ⟨Nat.le_of_ble_eq_true rfl, Nat.le_of_ble_eq_true rfl⟩) ⟨z_blindR, va_recv hK hPy (ci := 1) (q0 := 0) rfl rfl, z_preR hZ hPy [] rfl⟩ rfl rfl hl.1 rfl (lv_room (Nat.le_of_ble_eq_true rfl)) dX7_hasteOf_35 ⟨Nat.le_of_ble_eq_true rfl, Nat.le_of_ble_eq_true rfl⟩) (fun y8 hy8 => ?_)
        obtain ⟨hy8_0, hy8_1, hy8_2⟩ := hy8
        exact W.iret (v := y8) hx hb hr (fun t ht hW => ⟨y8, rfl, ⟨z_lo _, z_hi _, (by exact Or.inr ⟨by omega, by omega, fun kd fg hK => (z_hsN (z_knK hK (by omega) (by omega) ekk) (by decide) hy8_2 ey6)⟩)⟩, ht⟩) (fun _ h => absurd h List.not_mem_nil) dX7_hasteOf_38
      · refine z_rdi (va_runU (As := [.int y6]) (rest := []) ⟨hx, hb, hml, hown, hts⟩ (rX6_haste_X3 l dC dI cI cQ y4 y6) (va_cwU 1 hts gv_X7_hasteOf_X6_haste_67_X3 rfl rfl rfl rfl (by decide +kernel) ⟨Nat.le_of_ble_eq_true rfl, Nat.le_of_ble_eq_true rfl⟩) ⟨z_blindR, va_recv hK hPy (ci := 3) (q0 := 0) rfl rfl, z_preR hZ hPy [] rfl⟩ rfl rfl hl.1 rfl (lv_room (Nat.le_of_ble_eq_true rfl)) dX7_hasteOf_35 ⟨Nat.le_of_ble_eq_true rfl, Nat.le_of_ble_eq_true rfl⟩) (fun y9 hy9 => ?_)
        obtain ⟨hy9_0, hy9_1, hy9_2⟩ := hy9
        exact W.iret (v := y9) hx hb hr (fun t ht hW => ⟨y9, rfl, ⟨z_lo _, z_hi _, (by exact Or.inr ⟨by omega, by omega, fun kd fg hK => (z_hsN (z_knK hK (by omega) (by omega) ekk) (by decide) hy9_2 ey6)⟩)⟩, ht⟩) (fun _ h => absurd h List.not_mem_nil) dX7_hasteOf_38
      · refine z_rdi (va_runV (As := [.int y6]) (rest := []) ⟨hx, hb, hml, hown, hts⟩ (rX6_haste l dC dI cI cQ y4 y6) (cwV 1 hts gv_X7_hasteOf_X6_haste_67 rfl rfl rfl (by decide +kernel) ⟨Nat.le_of_ble_eq_true rfl, Nat.le_of_ble_eq_true rfl⟩) ⟨z_blindR, va_recv hK hPy (ci := 6) (q0 := 0) rfl rfl, z_preR hZ hPy [] rfl⟩ rfl rfl hl.1 rfl (lv_room (Nat.le_of_ble_eq_true rfl)) dX7_hasteOf_35 ⟨Nat.le_of_ble_eq_true rfl, Nat.le_of_ble_eq_true rfl⟩) (fun y10 hy10 => ?_)
        obtain ⟨hy10_0, hy10_1, hy10_2⟩ := hy10
        exact W.iret (v := y10) hx hb hr (fun t ht hW => ⟨y10, rfl, ⟨z_lo _, z_hi _, (by exact Or.inr ⟨by omega, by omega, fun kd fg hK => (z_hsN (z_knK hK (by omega) (by omega) ekk) (by decide) hy10_2 ey6)⟩)⟩, ht⟩) (fun _ h => absurd h List.not_mem_nil) dX7_hasteOf_38
      · refine z_rdi (va_runU (As := [.int y6]) (rest := []) ⟨hx, hb, hml, hown, hts⟩ (rX8_haste l dC dI cI cQ y4 y6) (va_cwO 1 hts gv_X7_hasteOf_X8_haste_67_X8 rfl rfl rfl (b0 := cX6_haste) (m0 := 2) (r0 := (some .int)) (List.mem_of_getElem? (i := 18) rfl) (by decide +kernel) ⟨Nat.le_of_ble_eq_true rfl, Nat.le_of_ble_eq_true rfl⟩) ⟨z_blindR, va_recv hK hPy (ci := 8) (q0 := 0) rfl rfl, z_preR hZ hPy [] rfl⟩ rfl rfl hl.1 rfl (lv_room (Nat.le_of_ble_eq_true rfl)) dX7_hasteOf_35 ⟨Nat.le_of_ble_eq_true rfl, Nat.le_of_ble_eq_true rfl⟩) (fun y11 hy11 => ?_)
        obtain ⟨hy11_0, hy11_1, hy11_2⟩ := hy11
        exact W.iret (v := y11) hx hb hr (fun t ht hW => ⟨y11, rfl, ⟨z_lo _, z_hi _, (by exact Or.inr ⟨by omega, by omega, fun kd fg hK => (z_hsQ (z_knK hK (by omega) (by omega) ekk) hy11_2 ey6)⟩)⟩, ht⟩) (fun _ h => absurd h List.not_mem_nil) dX7_hasteOf_38
      · refine z_rdi (va_runU (As := [.int y6]) (rest := []) ⟨hx, hb, hml, hown, hts⟩ (rX6_haste_X10 l dC dI cI cQ y4 y6) (va_cwU 1 hts gv_X7_hasteOf_X6_haste_67_X10 rfl rfl rfl rfl (by decide +kernel) ⟨Nat.le_of_ble_eq_true rfl, Nat.le_of_ble_eq_true rfl⟩) ⟨z_blindR, va_recv hK hPy (ci := 10) (q0 := 0) rfl rfl, z_preR hZ hPy [] rfl⟩ rfl rfl hl.1 rfl (lv_room (Nat.le_of_ble_eq_true rfl)) dX7_hasteOf_35 ⟨Nat.le_of_ble_eq_true rfl, Nat.le_of_ble_eq_true rfl⟩) (fun y12 hy12 => ?_)
        obtain ⟨hy12_0, hy12_1, hy12_2⟩ := hy12
        exact W.iret (v := y12) hx hb hr (fun t ht hW => ⟨y12, rfl, ⟨z_lo _, z_hi _, (by exact Or.inr ⟨by omega, by omega, fun kd fg hK => (z_hsN (z_knK hK (by omega) (by omega) ekk) (by decide) hy12_2 ey6)⟩)⟩, ht⟩) (fun _ h => absurd h List.not_mem_nil) dX7_hasteOf_38
set_option maxRecDepth 20000 in
theorem edX6_hears_0 : decode cX6_hears 0 = .ok (.iload_n 1, 1) ∧ decode cX6_hears 1 = .ok (.ireturn, 1) := by decide +kernel
theorem dX6_hears_0 : decode cX6_hears 0 = .ok (.iload_n 1, 1) := edX6_hears_0.1
theorem dX6_hears_1 : decode cX6_hears 1 = .ok (.ireturn, 1) := edX6_hears_0.2
noncomputable def voX6_hears : List Cond := []
noncomputable def vsX6_hears : List Cond := .code yX6_hears cX6_hears 2 (some .int) :: (voX6_hears)
theorem zgX6_hears : zGd vsX6_hears := z_gdC rfl ((z_gdO (by decide +kernel) : zGd voX6_hears))
set_option maxHeartbeats 4000000 in
set_option maxRecDepth 100000 in
theorem rX6_hears_X0 (l : Launch) (dC : Nat → ClassId) (dI : Nat → Nat → Nat) (cI cQ : ClassId) (ha0 : Nat) (p1 : Int32) : Met l yX6_hears vsX6_hears ({ frames := 0, cells := 0, slots := 0, locals := 0 }) (va_Pc [.ref ha0, .int p1] (zRB dC dI cI cQ [])) (vp_Si (fun r => (-2147483648) ≤ r.toInt ∧ r.toInt ≤ 2147483647 ∧ (r.toInt = p1.toInt))) 0 0 (fun _ => False) := by
  refine Met.ofW (cc := cX6_hears) (maxL := 2) (ret := (some .int)) (by decide) rfl ?_
  intro p e s m args below meth c s₁ B hml hv
  obtain ⟨rfl, hP, hZ⟩ := hv
  obtain ⟨hK, hAO, hN⟩ := id hZ
  have hx := B.exec
  have hb := B.bytes
  have hr := B.returns
  have hts := atoms_spec (ws := vsX6_hears) B.pre
  have hown : s.vm.findClass RX6 = some m.cls := findClass_of_methodNamed B.named
  have hlocks := B.notSynchronized
  have hp1l := z_lo p1
  have hp1h := z_hi p1
  have hl := lv_entry ([.ref ha0, .int p1]) (n := 2) (Nat.le_of_ble_eq_true rfl)
  rw [lg_entry_eq]
  generalize (lg_sl ([.ref ha0, .int p1]) ++ List.replicate (2 - (lg_sl ([.ref ha0, .int p1])).length) Slot.unset).toArray = ls at hl ⊢
  have hl : lv_has ls 2 [(0, .ref ha0), (1, .int p1)] := hl
  refine lv_iload_n hx hb dX6_hears_0 rfl (lv_at hl 1 rfl) ?_
  exact W.iret (v := p1) hx hb hr (fun t ht hW => ⟨p1, rfl, ⟨z_lo _, z_hi _, (by rfl)⟩, ht⟩) (fun _ h => absurd h List.not_mem_nil) dX6_hears_1
set_option maxRecDepth 20000 in
theorem edX1_hears_0 : decode cX1_hears 0 = .ok (.iload_n 1, 1) ∧ decode cX1_hears 1 = .ok (.aload_n 0, 1) ∧ decode cX1_hears 2 = .ok (.getfield 7, 3) ∧ decode cX1_hears 5 = .ok (.invokestatic 13, 3) ∧ decode cX1_hears 8 = .ok (.ireturn, 1) := by decide +kernel
theorem dX1_hears_0 : decode cX1_hears 0 = .ok (.iload_n 1, 1) := edX1_hears_0.1
theorem dX1_hears_1 : decode cX1_hears 1 = .ok (.aload_n 0, 1) := edX1_hears_0.2.1
theorem dX1_hears_2 : decode cX1_hears 2 = .ok (.getfield 7, 3) := edX1_hears_0.2.2.1
theorem dX1_hears_5 : decode cX1_hears 5 = .ok (.invokestatic 13, 3) := edX1_hears_0.2.2.2.1
theorem dX1_hears_8 : decode cX1_hears 8 = .ok (.ireturn, 1) := edX1_hears_0.2.2.2.2
noncomputable def voX1_hears : List Cond := [.fieldLink RX1 7 "EachOnHisCue$Deaf" "figure" "I", .sameField "EachOnHisCue$Deaf" "EachOnHisCue$Next" "figure" "I", .methodLink RX1 13 Lib.Math.min.name, .static Lib.Math.min.name, .initialized "java/lang/Math", .code Lib.Math.min.name Lib.Math.min.code 2 (some .int)]
noncomputable def vsX1_hears : List Cond := .code yX1_hears cX1_hears 2 (some .int) :: (voX1_hears ++ (wsX10 ++ (wsX100)))
theorem zgX1_hears : zGd vsX1_hears := z_gdC rfl (z_gdA (z_gdO (by decide +kernel) : zGd voX1_hears) (z_gdA zgX1 (zgX10)))
theorem in_X1_hears_X1 : ∀ w ∈ wsX10, w ∈ vsX1_hears := fun _ h => List.mem_cons_of_mem _ (List.mem_append_right _ (List.mem_append_left _ h))
theorem in_X1_hears_X10 : ∀ w ∈ wsX100, w ∈ vsX1_hears := fun _ h => List.mem_cons_of_mem _ (List.mem_append_right _ (List.mem_append_right _ (h)))
set_option maxHeartbeats 4000000 in
set_option maxRecDepth 100000 in
theorem rX1_hears (l : Launch) (dC : Nat → ClassId) (dI : Nat → Nat → Nat) (cI cQ : ClassId) (ha0 : Nat) (ia0_0 : Int32) (p1 : Int32) : Met l yX1_hears vsX1_hears ({ frames := 1, cells := 0, slots := 0, locals := 21 }) (va_Pc [.ref ha0, .int p1] (zRB dC dI cI cQ [(ha0, .inr (1, [.int ia0_0]))])) (vp_Si (fun r => (-2147483648) ≤ r.toInt ∧ r.toInt ≤ 2147483647 ∧ (r.toInt = zMn p1.toInt ia0_0.toInt))) 0 0 (fun _ => False) := by
  refine Met.ofW (cc := cX1_hears) (maxL := 2) (ret := (some .int)) (by decide) rfl ?_
  intro p e s m args below meth c s₁ B hml hv
  obtain ⟨rfl, hP, hZ⟩ := hv
  obtain ⟨hK, hAO, hN⟩ := id hZ
  have hx := B.exec
  have hb := B.bytes
  have hr := B.returns
  have hts := atoms_spec (ws := vsX1_hears) B.pre
  have hown : s.vm.findClass RX1 = some m.cls := findClass_of_methodNamed B.named
  have hlocks := B.notSynchronized
  have hp1l := z_lo p1
  have hp1h := z_hi p1
  have hl := lv_entry ([.ref ha0, .int p1]) (n := 2) (Nat.le_of_ble_eq_true rfl)
  rw [lg_entry_eq]
  generalize (lg_sl ([.ref ha0, .int p1]) ++ List.replicate (2 - (lg_sl ([.ref ha0, .int p1])).length) Slot.unset).toArray = ls at hl ⊢
  have hl : lv_has ls 2 [(0, .ref ha0), (1, .int p1)] := hl
  refine lv_iload_n hx hb dX1_hears_0 rfl (lv_at hl 1 rfl) ?_
  refine lv_aload_n hx hb dX1_hears_1 rfl (lv_at hl 0 rfl) ?_
  refine va_get (D := (dC, dI)) (ci := 1) (v := .int ia0_0) (C := RX1) (T := TX1) (N := 1) hx hb hts in_X1_hears_X1 hown hK hP 0 rfl rfl 0 (by decide) (hts (.fieldLink RX1 7 "EachOnHisCue$Deaf" "figure" "I") (by decide +kernel)) (fun x9 h9 => u_same (hts (.sameField "EachOnHisCue$Deaf" "EachOnHisCue$Next" "figure" "I") (by decide +kernel)) x9 h9) rfl dX1_hears_2 ?_
  refine va_mmin hx hb (hml.trans hl.1.symm) hown (hts (.methodLink RX1 13 Lib.Math.min.name) (by decide +kernel)) (hts (.static Lib.Math.min.name) (by decide +kernel)) (hts (.initialized "java/lang/Math") (by decide +kernel)) (hts (.code Lib.Math.min.name Lib.Math.min.code 2 (some .int)) (by decide +kernel)) (Nat.le_of_ble_eq_true rfl) (Nat.le_of_ble_eq_true rfl) (Nat.le_of_ble_eq_true rfl) (Nat.le_of_ble_eq_true rfl) dX1_hears_5 ?_
  refine lv_topi (fun y1 ey1 => ?_)
  obtain ⟨hy1_0, hy1_1, hy1_2⟩ : y1.toInt ≤ p1.toInt ∧ y1.toInt ≤ ia0_0.toInt ∧ (y1.toInt = p1.toInt ∨ y1.toInt = ia0_0.toInt) := by rw [ey1]; exact z_min rfl rfl
  exact W.iret (v := y1) hx hb hr (fun t ht hW => ⟨y1, rfl, ⟨z_lo _, z_hi _, (by exact z_mnE hy1_0 hy1_1 hy1_2)⟩, ht⟩) (fun _ h => absurd h List.not_mem_nil) dX1_hears_8
set_option maxHeartbeats 4000000 in
set_option maxRecDepth 100000 in
theorem rX6_hears_X3 (l : Launch) (dC : Nat → ClassId) (dI : Nat → Nat → Nat) (cI cQ : ClassId) (ha0 : Nat) (p1 : Int32) : Met l yX6_hears vsX6_hears ({ frames := 0, cells := 0, slots := 0, locals := 0 }) (va_Pc [.ref ha0, .int p1] (zRB dC dI cI cQ [])) (vp_Si (fun r => (-2147483648) ≤ r.toInt ∧ r.toInt ≤ 2147483647 ∧ (r.toInt = p1.toInt))) 0 0 (fun _ => False) := by
  refine Met.ofW (cc := cX6_hears) (maxL := 2) (ret := (some .int)) (by decide) rfl ?_
  intro p e s m args below meth c s₁ B hml hv
  obtain ⟨rfl, hP, hZ⟩ := hv
  obtain ⟨hK, hAO, hN⟩ := id hZ
  have hx := B.exec
  have hb := B.bytes
  have hr := B.returns
  have hts := atoms_spec (ws := vsX6_hears) B.pre
  have hown : s.vm.findClass RX6 = some m.cls := findClass_of_methodNamed B.named
  have hlocks := B.notSynchronized
  have hp1l := z_lo p1
  have hp1h := z_hi p1
  have hl := lv_entry ([.ref ha0, .int p1]) (n := 2) (Nat.le_of_ble_eq_true rfl)
  rw [lg_entry_eq]
  generalize (lg_sl ([.ref ha0, .int p1]) ++ List.replicate (2 - (lg_sl ([.ref ha0, .int p1])).length) Slot.unset).toArray = ls at hl ⊢
  have hl : lv_has ls 2 [(0, .ref ha0), (1, .int p1)] := hl
  refine lv_iload_n hx hb dX6_hears_0 rfl (lv_at hl 1 rfl) ?_
  exact W.iret (v := p1) hx hb hr (fun t ht hW => ⟨p1, rfl, ⟨z_lo _, z_hi _, (by rfl)⟩, ht⟩) (fun _ h => absurd h List.not_mem_nil) dX6_hears_1
set_option maxHeartbeats 4000000 in
set_option maxRecDepth 100000 in
theorem rX6_hears (l : Launch) (dC : Nat → ClassId) (dI : Nat → Nat → Nat) (cI cQ : ClassId) (ha0 : Nat) (p1 : Int32) : Met l yX6_hears vsX6_hears ({ frames := 0, cells := 0, slots := 0, locals := 0 }) (va_Pc [.ref ha0, .int p1] (zRB dC dI cI cQ [])) (vp_Si (fun r => (-2147483648) ≤ r.toInt ∧ r.toInt ≤ 2147483647 ∧ (r.toInt = p1.toInt))) 0 0 (fun _ => False) := by
  refine Met.ofW (cc := cX6_hears) (maxL := 2) (ret := (some .int)) (by decide) rfl ?_
  intro p e s m args below meth c s₁ B hml hv
  obtain ⟨rfl, hP, hZ⟩ := hv
  obtain ⟨hK, hAO, hN⟩ := id hZ
  have hx := B.exec
  have hb := B.bytes
  have hr := B.returns
  have hts := atoms_spec (ws := vsX6_hears) B.pre
  have hown : s.vm.findClass RX6 = some m.cls := findClass_of_methodNamed B.named
  have hlocks := B.notSynchronized
  have hp1l := z_lo p1
  have hp1h := z_hi p1
  have hl := lv_entry ([.ref ha0, .int p1]) (n := 2) (Nat.le_of_ble_eq_true rfl)
  rw [lg_entry_eq]
  generalize (lg_sl ([.ref ha0, .int p1]) ++ List.replicate (2 - (lg_sl ([.ref ha0, .int p1])).length) Slot.unset).toArray = ls at hl ⊢
  have hl : lv_has ls 2 [(0, .ref ha0), (1, .int p1)] := hl
  refine lv_iload_n hx hb dX6_hears_0 rfl (lv_at hl 1 rfl) ?_
  exact W.iret (v := p1) hx hb hr (fun t ht hW => ⟨p1, rfl, ⟨z_lo _, z_hi _, (by rfl)⟩, ht⟩) (fun _ h => absurd h List.not_mem_nil) dX6_hears_1
set_option maxHeartbeats 4000000 in
set_option maxRecDepth 100000 in
theorem rX6_hears_X8 (l : Launch) (dC : Nat → ClassId) (dI : Nat → Nat → Nat) (cI cQ : ClassId) (ha0 : Nat) (p1 : Int32) : Met l yX6_hears vsX6_hears ({ frames := 0, cells := 0, slots := 0, locals := 0 }) (va_Pc [.ref ha0, .int p1] (zRB dC dI cI cQ [])) (vp_Si (fun r => (-2147483648) ≤ r.toInt ∧ r.toInt ≤ 2147483647 ∧ (r.toInt = p1.toInt))) 0 0 (fun _ => False) := by
  refine Met.ofW (cc := cX6_hears) (maxL := 2) (ret := (some .int)) (by decide) rfl ?_
  intro p e s m args below meth c s₁ B hml hv
  obtain ⟨rfl, hP, hZ⟩ := hv
  obtain ⟨hK, hAO, hN⟩ := id hZ
  have hx := B.exec
  have hb := B.bytes
  have hr := B.returns
  have hts := atoms_spec (ws := vsX6_hears) B.pre
  have hown : s.vm.findClass RX6 = some m.cls := findClass_of_methodNamed B.named
  have hlocks := B.notSynchronized
  have hp1l := z_lo p1
  have hp1h := z_hi p1
  have hl := lv_entry ([.ref ha0, .int p1]) (n := 2) (Nat.le_of_ble_eq_true rfl)
  rw [lg_entry_eq]
  generalize (lg_sl ([.ref ha0, .int p1]) ++ List.replicate (2 - (lg_sl ([.ref ha0, .int p1])).length) Slot.unset).toArray = ls at hl ⊢
  have hl : lv_has ls 2 [(0, .ref ha0), (1, .int p1)] := hl
  refine lv_iload_n hx hb dX6_hears_0 rfl (lv_at hl 1 rfl) ?_
  exact W.iret (v := p1) hx hb hr (fun t ht hW => ⟨p1, rfl, ⟨z_lo _, z_hi _, (by rfl)⟩, ht⟩) (fun _ h => absurd h List.not_mem_nil) dX6_hears_1
set_option maxHeartbeats 4000000 in
set_option maxRecDepth 100000 in
theorem rX1_hears_X10 (l : Launch) (dC : Nat → ClassId) (dI : Nat → Nat → Nat) (cI cQ : ClassId) (ha0 : Nat) (ia0_0 : Int32) (p1 : Int32) : Met l yX1_hears vsX1_hears ({ frames := 1, cells := 0, slots := 0, locals := 21 }) (va_Pc [.ref ha0, .int p1] (zRB dC dI cI cQ [(ha0, .inr (10, [.int ia0_0]))])) (vp_Si (fun r => (-2147483648) ≤ r.toInt ∧ r.toInt ≤ 2147483647 ∧ (r.toInt = zMn p1.toInt ia0_0.toInt))) 0 0 (fun _ => False) := by
  refine Met.ofW (cc := cX1_hears) (maxL := 2) (ret := (some .int)) (by decide) rfl ?_
  intro p e s m args below meth c s₁ B hml hv
  obtain ⟨rfl, hP, hZ⟩ := hv
  obtain ⟨hK, hAO, hN⟩ := id hZ
  have hx := B.exec
  have hb := B.bytes
  have hr := B.returns
  have hts := atoms_spec (ws := vsX1_hears) B.pre
  have hown : s.vm.findClass RX1 = some m.cls := findClass_of_methodNamed B.named
  have hlocks := B.notSynchronized
  have hp1l := z_lo p1
  have hp1h := z_hi p1
  have hl := lv_entry ([.ref ha0, .int p1]) (n := 2) (Nat.le_of_ble_eq_true rfl)
  rw [lg_entry_eq]
  generalize (lg_sl ([.ref ha0, .int p1]) ++ List.replicate (2 - (lg_sl ([.ref ha0, .int p1])).length) Slot.unset).toArray = ls at hl ⊢
  have hl : lv_has ls 2 [(0, .ref ha0), (1, .int p1)] := hl
  refine lv_iload_n hx hb dX1_hears_0 rfl (lv_at hl 1 rfl) ?_
  refine lv_aload_n hx hb dX1_hears_1 rfl (lv_at hl 0 rfl) ?_
  refine va_get (D := (dC, dI)) (ci := 10) (v := .int ia0_0) (C := RX10) (T := TX10) (N := 1) hx hb hts in_X1_hears_X10 hown hK hP 0 rfl rfl 0 (by decide) (hts (.fieldLink RX1 7 "EachOnHisCue$Deaf" "figure" "I") (by decide +kernel)) (fun x9 h9 => u_same (hts (.sameField "EachOnHisCue$Deaf" "EachOnHisCue$Next" "figure" "I") (by decide +kernel)) x9 h9) rfl dX1_hears_2 ?_
  refine va_mmin hx hb (hml.trans hl.1.symm) hown (hts (.methodLink RX1 13 Lib.Math.min.name) (by decide +kernel)) (hts (.static Lib.Math.min.name) (by decide +kernel)) (hts (.initialized "java/lang/Math") (by decide +kernel)) (hts (.code Lib.Math.min.name Lib.Math.min.code 2 (some .int)) (by decide +kernel)) (Nat.le_of_ble_eq_true rfl) (Nat.le_of_ble_eq_true rfl) (Nat.le_of_ble_eq_true rfl) (Nat.le_of_ble_eq_true rfl) dX1_hears_5 ?_
  refine lv_topi (fun y1 ey1 => ?_)
  obtain ⟨hy1_0, hy1_1, hy1_2⟩ : y1.toInt ≤ p1.toInt ∧ y1.toInt ≤ ia0_0.toInt ∧ (y1.toInt = p1.toInt ∨ y1.toInt = ia0_0.toInt) := by rw [ey1]; exact z_min rfl rfl
  exact W.iret (v := y1) hx hb hr (fun t ht hW => ⟨y1, rfl, ⟨z_lo _, z_hi _, (by exact z_mnE hy1_0 hy1_1 hy1_2)⟩, ht⟩) (fun _ h => absurd h List.not_mem_nil) dX1_hears_8
set_option maxRecDepth 20000 in
theorem edX7_heardOf_0 : decode cX7_heardOf 0 = .ok (.aload_n 0, 1) ∧ decode cX7_heardOf 1 = .ok (.iload_n 1, 1) ∧ decode cX7_heardOf 2 = .ok (.invokevirtual 71, 3) ∧ decode cX7_heardOf 5 = .ok (.ifCond .eq 30, 3) ∧ decode cX7_heardOf 8 = .ok (.aload_n 0, 1) ∧ decode cX7_heardOf 9 = .ok (.aload_n 0, 1) ∧ decode cX7_heardOf 10 = .ok (.getfield 28, 3) ∧ decode cX7_heardOf 13 = .ok (.iload_n 1, 1) ∧ decode cX7_heardOf 14 = .ok (.iaload, 1) ∧ decode cX7_heardOf 15 = .ok (.invokevirtual 56, 3) ∧ decode cX7_heardOf 18 = .ok (.ifCond .eq 17, 3) ∧ decode cX7_heardOf 21 = .ok (.aload_n 0, 1) := by decide +kernel
theorem dX7_heardOf_0 : decode cX7_heardOf 0 = .ok (.aload_n 0, 1) := edX7_heardOf_0.1
theorem dX7_heardOf_1 : decode cX7_heardOf 1 = .ok (.iload_n 1, 1) := edX7_heardOf_0.2.1
theorem dX7_heardOf_2 : decode cX7_heardOf 2 = .ok (.invokevirtual 71, 3) := edX7_heardOf_0.2.2.1
theorem dX7_heardOf_5 : decode cX7_heardOf 5 = .ok (.ifCond .eq 30, 3) := edX7_heardOf_0.2.2.2.1
theorem dX7_heardOf_8 : decode cX7_heardOf 8 = .ok (.aload_n 0, 1) := edX7_heardOf_0.2.2.2.2.1
theorem dX7_heardOf_9 : decode cX7_heardOf 9 = .ok (.aload_n 0, 1) := edX7_heardOf_0.2.2.2.2.2.1
theorem dX7_heardOf_10 : decode cX7_heardOf 10 = .ok (.getfield 28, 3) := edX7_heardOf_0.2.2.2.2.2.2.1
theorem dX7_heardOf_13 : decode cX7_heardOf 13 = .ok (.iload_n 1, 1) := edX7_heardOf_0.2.2.2.2.2.2.2.1
theorem dX7_heardOf_14 : decode cX7_heardOf 14 = .ok (.iaload, 1) := edX7_heardOf_0.2.2.2.2.2.2.2.2.1
theorem dX7_heardOf_15 : decode cX7_heardOf 15 = .ok (.invokevirtual 56, 3) := edX7_heardOf_0.2.2.2.2.2.2.2.2.2.1
theorem dX7_heardOf_18 : decode cX7_heardOf 18 = .ok (.ifCond .eq 17, 3) := edX7_heardOf_0.2.2.2.2.2.2.2.2.2.2.1
theorem dX7_heardOf_21 : decode cX7_heardOf 21 = .ok (.aload_n 0, 1) := edX7_heardOf_0.2.2.2.2.2.2.2.2.2.2.2
set_option maxRecDepth 20000 in
theorem edX7_heardOf_22 : decode cX7_heardOf 22 = .ok (.getfield 11, 3) ∧ decode cX7_heardOf 25 = .ok (.aload_n 0, 1) ∧ decode cX7_heardOf 26 = .ok (.getfield 28, 3) ∧ decode cX7_heardOf 29 = .ok (.iload_n 1, 1) ∧ decode cX7_heardOf 30 = .ok (.iaload, 1) ∧ decode cX7_heardOf 31 = .ok (.aaload, 1) ∧ decode cX7_heardOf 32 = .ok (.goto 4, 3) ∧ decode cX7_heardOf 35 = .ok (.aconst_null, 1) ∧ decode cX7_heardOf 36 = .ok (.astore_n 3, 1) ∧ decode cX7_heardOf 37 = .ok (.aload_n 3, 1) ∧ decode cX7_heardOf 38 = .ok (.ifnonnull 7, 3) ∧ decode cX7_heardOf 41 = .ok (.iload_n 2, 1) := by decide +kernel
theorem dX7_heardOf_22 : decode cX7_heardOf 22 = .ok (.getfield 11, 3) := edX7_heardOf_22.1
theorem dX7_heardOf_25 : decode cX7_heardOf 25 = .ok (.aload_n 0, 1) := edX7_heardOf_22.2.1
theorem dX7_heardOf_26 : decode cX7_heardOf 26 = .ok (.getfield 28, 3) := edX7_heardOf_22.2.2.1
theorem dX7_heardOf_29 : decode cX7_heardOf 29 = .ok (.iload_n 1, 1) := edX7_heardOf_22.2.2.2.1
theorem dX7_heardOf_30 : decode cX7_heardOf 30 = .ok (.iaload, 1) := edX7_heardOf_22.2.2.2.2.1
theorem dX7_heardOf_31 : decode cX7_heardOf 31 = .ok (.aaload, 1) := edX7_heardOf_22.2.2.2.2.2.1
theorem dX7_heardOf_32 : decode cX7_heardOf 32 = .ok (.goto 4, 3) := edX7_heardOf_22.2.2.2.2.2.2.1
theorem dX7_heardOf_35 : decode cX7_heardOf 35 = .ok (.aconst_null, 1) := edX7_heardOf_22.2.2.2.2.2.2.2.1
theorem dX7_heardOf_36 : decode cX7_heardOf 36 = .ok (.astore_n 3, 1) := edX7_heardOf_22.2.2.2.2.2.2.2.2.1
theorem dX7_heardOf_37 : decode cX7_heardOf 37 = .ok (.aload_n 3, 1) := edX7_heardOf_22.2.2.2.2.2.2.2.2.2.1
theorem dX7_heardOf_38 : decode cX7_heardOf 38 = .ok (.ifnonnull 7, 3) := edX7_heardOf_22.2.2.2.2.2.2.2.2.2.2.1
theorem dX7_heardOf_41 : decode cX7_heardOf 41 = .ok (.iload_n 2, 1) := edX7_heardOf_22.2.2.2.2.2.2.2.2.2.2.2
set_option maxRecDepth 20000 in
theorem edX7_heardOf_42 : decode cX7_heardOf 42 = .ok (.goto 8, 3) ∧ decode cX7_heardOf 45 = .ok (.aload_n 3, 1) ∧ decode cX7_heardOf 46 = .ok (.iload_n 2, 1) ∧ decode cX7_heardOf 47 = .ok (.invokevirtual 74, 3) ∧ decode cX7_heardOf 50 = .ok (.ireturn, 1) := by decide +kernel
theorem dX7_heardOf_42 : decode cX7_heardOf 42 = .ok (.goto 8, 3) := edX7_heardOf_42.1
theorem dX7_heardOf_45 : decode cX7_heardOf 45 = .ok (.aload_n 3, 1) := edX7_heardOf_42.2.1
theorem dX7_heardOf_46 : decode cX7_heardOf 46 = .ok (.iload_n 2, 1) := edX7_heardOf_42.2.2.1
theorem dX7_heardOf_47 : decode cX7_heardOf 47 = .ok (.invokevirtual 74, 3) := edX7_heardOf_42.2.2.2.1
theorem dX7_heardOf_50 : decode cX7_heardOf 50 = .ok (.ireturn, 1) := edX7_heardOf_42.2.2.2.2
noncomputable def voX7_heardOf : List Cond := [.fieldLink RX7 28 "EachOnHisCue$Play" "owners" "[I", .fieldLink RX7 11 "EachOnHisCue$Play" "cast" "[LEachOnHisCue$Next;", .methodLink RX7 71 yX7_hasLine, .instanceMethod yX7_hasLine, .selects RX7 yX7_hasLine yX7_hasLine, .initialized RX7, .methodLink RX7 56 yX7_hasPlayer, .instanceMethod yX7_hasPlayer, .selects RX7 yX7_hasPlayer yX7_hasPlayer, .methodLink RX7 74 yX6_hears, .sameMethod "EachOnHisCue$Next" "EachOnHisCue$Next" "hears" "(I)I", .selects RX0 yX6_hears yX6_hears, .instanceMethod yX6_hears, .initialized RX6, .selects RX1 yX6_hears yX1_hears, .instanceMethod yX1_hears, .initialized RX1, .code yX6_hears cX6_hears 2 (some .int), .selects RX3 yX6_hears yX6_hears, .selects RX6 yX6_hears yX6_hears, .selects RX8 yX6_hears yX6_hears, .selects RX10 yX6_hears yX1_hears]
noncomputable def vsX7_heardOf : List Cond := .code yX7_heardOf cX7_heardOf 4 (some .int) :: (voX7_heardOf ++ (vsX7_hasLine ++ (vsX7_hasPlayer ++ (vsX6_hears ++ (vsX1_hears ++ (wsX70))))))
theorem zgX7_heardOf : zGd vsX7_heardOf := z_gdC rfl (z_gdA (z_gdO (by decide +kernel) : zGd voX7_heardOf) (z_gdA zgX7_hasLine (z_gdA zgX7_hasPlayer (z_gdA zgX6_hears (z_gdA zgX1_hears (zgX7))))))
theorem in_X7_heardOf_X7 : ∀ w ∈ wsX70, w ∈ vsX7_heardOf := fun _ h => List.mem_cons_of_mem _ (List.mem_append_right _ (List.mem_append_right _ (List.mem_append_right _ (List.mem_append_right _ (List.mem_append_right _ (h))))))
theorem gw_X7_heardOf_X7_hasLine : GoodIn vsX7_heardOf vsX7_hasLine := z_gdI (fun _ h => List.mem_cons_of_mem _ (List.mem_append_right _ (List.mem_append_left _ h))) zgX7_hasLine
set_option maxRecDepth 20000 in
theorem gv_X7_heardOf_X7_hasLine_71 : GoodIn vsX7_heardOf (wsV RX7 71 RX7 yX7_hasLine vsX7_hasLine) := goodIn_app (goodIn_of _ (by decide +kernel)) gw_X7_heardOf_X7_hasLine
theorem gw_X7_heardOf_X7_hasPlayer : GoodIn vsX7_heardOf vsX7_hasPlayer := z_gdI (fun _ h => List.mem_cons_of_mem _ (List.mem_append_right _ (List.mem_append_right _ (List.mem_append_left _ h)))) zgX7_hasPlayer
set_option maxRecDepth 20000 in
theorem gv_X7_heardOf_X7_hasPlayer_56 : GoodIn vsX7_heardOf (wsV RX7 56 RX7 yX7_hasPlayer vsX7_hasPlayer) := goodIn_app (goodIn_of _ (by decide +kernel)) gw_X7_heardOf_X7_hasPlayer
theorem gw_X7_heardOf_X6_hears : GoodIn vsX7_heardOf vsX6_hears := z_gdI (fun _ h => List.mem_cons_of_mem _ (List.mem_append_right _ (List.mem_append_right _ (List.mem_append_right _ (List.mem_append_left _ h))))) zgX6_hears
set_option maxRecDepth 20000 in
theorem gv_X7_heardOf_X6_hears_74_X0 : GoodIn vsX7_heardOf (va_wsU RX7 74 RX0 "EachOnHisCue$Next" yX6_hears yX6_hears vsX6_hears) := goodIn_app (goodIn_of _ (by decide +kernel)) gw_X7_heardOf_X6_hears
theorem gw_X7_heardOf_X1_hears : GoodIn vsX7_heardOf vsX1_hears := z_gdI (fun _ h => List.mem_cons_of_mem _ (List.mem_append_right _ (List.mem_append_right _ (List.mem_append_right _ (List.mem_append_right _ (List.mem_append_left _ h)))))) zgX1_hears
set_option maxRecDepth 20000 in
theorem gv_X7_heardOf_X1_hears_74_X1 : GoodIn vsX7_heardOf (va_wsO RX7 74 RX1 "EachOnHisCue$Next" yX6_hears yX1_hears vsX1_hears) := goodIn_app (goodIn_of _ (by decide +kernel)) gw_X7_heardOf_X1_hears
set_option maxRecDepth 20000 in
theorem gv_X7_heardOf_X6_hears_74_X3 : GoodIn vsX7_heardOf (va_wsU RX7 74 RX3 "EachOnHisCue$Next" yX6_hears yX6_hears vsX6_hears) := goodIn_app (goodIn_of _ (by decide +kernel)) gw_X7_heardOf_X6_hears
set_option maxRecDepth 20000 in
theorem gv_X7_heardOf_X6_hears_74 : GoodIn vsX7_heardOf (wsV RX7 74 RX6 yX6_hears vsX6_hears) := goodIn_app (goodIn_of _ (by decide +kernel)) gw_X7_heardOf_X6_hears
set_option maxRecDepth 20000 in
theorem gv_X7_heardOf_X6_hears_74_X8 : GoodIn vsX7_heardOf (va_wsU RX7 74 RX8 "EachOnHisCue$Next" yX6_hears yX6_hears vsX6_hears) := goodIn_app (goodIn_of _ (by decide +kernel)) gw_X7_heardOf_X6_hears
set_option maxRecDepth 20000 in
theorem gv_X7_heardOf_X1_hears_74_X10 : GoodIn vsX7_heardOf (va_wsO RX7 74 RX10 "EachOnHisCue$Next" yX6_hears yX1_hears vsX1_hears) := goodIn_app (goodIn_of _ (by decide +kernel)) gw_X7_heardOf_X1_hears
set_option maxHeartbeats 4000000 in
set_option maxRecDepth 100000 in
theorem rX7_heardOf (l : Launch) (dC : Nat → ClassId) (dI : Nat → Nat → Nat) (cI cQ : ClassId) (ha0 ha0_0 ha0_4 ha0_1 ha0_2 ha0_5 ha0_6 ha0_7 ha0_11 : Nat) (PL : Nat → Nat → Int32 → Prop) (ga0_0 : Nat → ZQ) (hPLga0_0 : zHp PL ga0_0) (fa0_4 : Nat → Int32) (ia0_3 : Int32) (hia0_3l : 0 ≤ ia0_3.toInt) (hia0_3h : ia0_3.toInt ≤ 5) (ia0_8 : Int32) (ia0_9 : Int32) (hia0_9l : 0 ≤ ia0_9.toInt) (hia0_9h : ia0_9.toInt ≤ 12) (ia0_10 : Int32) (p1 : Int32) (p2 : Int32) : Met l yX7_heardOf vsX7_heardOf ({ frames := 2, cells := 0, slots := 0, locals := 42 }) (va_Pc [.ref ha0, .int p1, .int p2] (zRBP dC dI cI cQ PL [(ha0_0, .inl (cQ, 5, .inr (.inr (.inr (.inr (fun i => (ga0_0 i).1)))))), (ha0_4, .inl (cI, 12, .inl fa0_4)), (ha0, .inr (7, [.ref ha0_0, .ref ha0_1, .ref ha0_2, .int ia0_3, .ref ha0_4, .ref ha0_5, .ref ha0_6, .ref ha0_7, .int ia0_8, .int ia0_9, .int ia0_10, .ref ha0_11]))])) (vp_Si (fun r => (-2147483648) ≤ r.toInt ∧ r.toInt ≤ 2147483647 ∧ (zHoP ia0_3.toInt ia0_9.toInt ga0_0 fa0_4 p1 p2 r))) 0 0 (fun _ => False) := by
  refine Met.ofW (cc := cX7_heardOf) (maxL := 4) (ret := (some .int)) (by decide) rfl ?_
  intro p e s m args below meth c s₁ B hml hv
  obtain ⟨rfl, hP, hZ, hPl⟩ := hv
  obtain ⟨hK, hAO, hN⟩ := id hZ
  have hx := B.exec
  have hb := B.bytes
  have hr := B.returns
  have hts := atoms_spec (ws := vsX7_heardOf) B.pre
  have hown : s.vm.findClass RX7 = some m.cls := findClass_of_methodNamed B.named
  have hlocks := B.notSynchronized
  have hp1l := z_lo p1
  have hp1h := z_hi p1
  have hp2l := z_lo p2
  have hp2h := z_hi p2
  have hl := lv_entry ([.ref ha0, .int p1, .int p2]) (n := 4) (Nat.le_of_ble_eq_true rfl)
  rw [lg_entry_eq]
  generalize (lg_sl ([.ref ha0, .int p1, .int p2]) ++ List.replicate (4 - (lg_sl ([.ref ha0, .int p1, .int p2])).length) Slot.unset).toArray = ls at hl ⊢
  have hl : lv_has ls 4 [(0, .ref ha0), (1, .int p1), (2, .int p2)] := hl
  refine lv_aload_n hx hb dX7_heardOf_0 rfl (lv_at hl 0 rfl) ?_
  refine lv_iload_n hx hb dX7_heardOf_1 rfl (lv_at hl 1 rfl) ?_
  refine z_rdi (va_runV (As := [.int p1]) (rest := []) ⟨hx, hb, hml, hown, hts⟩ (rX7_hasLine l dC dI cI cQ ha0 ha0_0 ha0_1 ha0_2 ha0_4 ha0_5 ha0_6 ha0_7 ha0_11 ia0_3 hia0_3l hia0_3h ia0_8 ia0_9 hia0_9l hia0_9h ia0_10 p1) (cwV 1 hts gv_X7_heardOf_X7_hasLine_71 rfl rfl rfl (by decide +kernel) ⟨Nat.le_of_ble_eq_true rfl, Nat.le_of_ble_eq_true rfl⟩) ⟨z_blindR, va_recv hK hP (ci := 7) (q0 := 2) rfl rfl, z_preR hZ hP [2] rfl⟩ rfl rfl hl.1 rfl (lv_room (Nat.le_of_ble_eq_true rfl)) dX7_heardOf_2 ⟨Nat.le_of_ble_eq_true rfl, Nat.le_of_ble_eq_true rfl⟩) (fun y1 hy1 => ?_)
  obtain ⟨hy1_0, hy1_1, hy1_2⟩ := hy1
  refine lv_if_eq (tgt := 35) hx hb dX7_heardOf_5 (by decide) (fun hc => ?_) (fun hc => ?_)
  · have q2 : y1.toInt = 0 := z_eq rfl (by decide) hc
    refine lv_null hx hb dX7_heardOf_35 ?_
    refine lv_astore_nN (lv' := [(3, .null), (0, .ref ha0), (1, .int p1), (2, .int p2)]) hx hb dX7_heardOf_36 rfl hl (by decide) rfl (fun ls hl => ?_)
    refine lv_aload_nN hx hb dX7_heardOf_37 rfl (lv_at hl 0 rfl) ?_
    refine lv_ifnonnullN hx hb dX7_heardOf_38 ?_
    refine lv_iload_n hx hb dX7_heardOf_41 rfl (lv_at hl 3 rfl) ?_
    refine lv_goto (tgt := 50) hx hb dX7_heardOf_42 (by decide) ?_
    exact W.iret (v := p2) hx hb hr (fun t ht hW => ⟨p2, rfl, ⟨z_lo _, z_hi _, (by exact fun a1 a2 a3 a4 => by exfalso; omega)⟩, ht⟩) (fun _ h => absurd h List.not_mem_nil) dX7_heardOf_50
  · have q3 : y1.toInt ≠ 0 := z_ne rfl (by decide) hc
    refine lv_aload_n hx hb dX7_heardOf_8 rfl (lv_at hl 0 rfl) ?_
    refine lv_aload_n hx hb dX7_heardOf_9 rfl (lv_at hl 0 rfl) ?_
    refine va_get (D := (dC, dI)) (ci := 7) (v := .ref ha0_4) (C := RX7) (T := TX7) (N := 12) hx hb hts in_X7_heardOf_X7 hown hK hP 2 rfl rfl 4 (by decide) (hts (.fieldLink RX7 28 "EachOnHisCue$Play" "owners" "[I") (by decide +kernel)) (fun _ h9 => h9) rfl dX7_heardOf_10 ?_
    refine lv_iload_n hx hb dX7_heardOf_13 rfl (lv_at hl 1 rfl) ?_
    refine va_iald hx hb hK hP 1 0 rfl rfl (z_in (by omega) (by omega)) dX7_heardOf_14 ?_
    refine lv_topi (fun y4 ey4 => ?_)
    have gy4 : y4.toInt = (fa0_4 (p1 : Int32).toNatClampNeg).toInt := by rw [ey4]
    refine z_rdi (va_runV (As := [.int y4]) (rest := []) ⟨hx, hb, hml, hown, hts⟩ (rX7_hasPlayer l dC dI cI cQ ha0 ha0_0 ha0_1 ha0_2 ha0_4 ha0_5 ha0_6 ha0_7 ha0_11 ia0_3 hia0_3l hia0_3h ia0_8 ia0_9 hia0_9l hia0_9h ia0_10 y4) (cwV 1 hts gv_X7_heardOf_X7_hasPlayer_56 rfl rfl rfl (by decide +kernel) ⟨Nat.le_of_ble_eq_true rfl, Nat.le_of_ble_eq_true rfl⟩) ⟨z_blindR, va_recv hK hP (ci := 7) (q0 := 2) rfl rfl, z_preR hZ hP [2] rfl⟩ rfl rfl hl.1 rfl (lv_room (Nat.le_of_ble_eq_true rfl)) dX7_heardOf_15 ⟨Nat.le_of_ble_eq_true rfl, Nat.le_of_ble_eq_true rfl⟩) (fun y5 hy5 => ?_)
    obtain ⟨hy5_0, hy5_1, hy5_2⟩ := hy5
    refine lv_if_eq (tgt := 35) hx hb dX7_heardOf_18 (by decide) (fun hc => ?_) (fun hc => ?_)
    · have q6 : y5.toInt = 0 := z_eq rfl (by decide) hc
      refine lv_null hx hb dX7_heardOf_35 ?_
      refine lv_astore_nN (lv' := [(3, .null), (0, .ref ha0), (1, .int p1), (2, .int p2)]) hx hb dX7_heardOf_36 rfl hl (by decide) rfl (fun ls hl => ?_)
      refine lv_aload_nN hx hb dX7_heardOf_37 rfl (lv_at hl 0 rfl) ?_
      refine lv_ifnonnullN hx hb dX7_heardOf_38 ?_
      refine lv_iload_n hx hb dX7_heardOf_41 rfl (lv_at hl 3 rfl) ?_
      refine lv_goto (tgt := 50) hx hb dX7_heardOf_42 (by decide) ?_
      exact W.iret (v := p2) hx hb hr (fun t ht hW => ⟨p2, rfl, ⟨z_lo _, z_hi _, (by exact fun a1 a2 a3 a4 => by exfalso; omega)⟩, ht⟩) (fun _ h => absurd h List.not_mem_nil) dX7_heardOf_50
    · have q7 : y5.toInt ≠ 0 := z_ne rfl (by decide) hc
      refine lv_aload_n hx hb dX7_heardOf_21 rfl (lv_at hl 0 rfl) ?_
      refine va_get (D := (dC, dI)) (ci := 7) (v := .ref ha0_0) (C := RX7) (T := TX7) (N := 12) hx hb hts in_X7_heardOf_X7 hown hK hP 2 rfl rfl 0 (by decide) (hts (.fieldLink RX7 11 "EachOnHisCue$Play" "cast" "[LEachOnHisCue$Next;") (by decide +kernel)) (fun _ h9 => h9) rfl dX7_heardOf_22 ?_
      refine lv_aload_n hx hb dX7_heardOf_25 rfl (lv_at hl 0 rfl) ?_
      refine va_get (D := (dC, dI)) (ci := 7) (v := .ref ha0_4) (C := RX7) (T := TX7) (N := 12) hx hb hts in_X7_heardOf_X7 hown hK hP 2 rfl rfl 4 (by decide) (hts (.fieldLink RX7 28 "EachOnHisCue$Play" "owners" "[I") (by decide +kernel)) (fun _ h9 => h9) rfl dX7_heardOf_26 ?_
      refine lv_iload_n hx hb dX7_heardOf_29 rfl (lv_at hl 1 rfl) ?_
      refine va_iald hx hb hK hP 1 0 rfl rfl (z_in (by omega) (by omega)) dX7_heardOf_30 ?_
      refine lv_topi (fun y8 ey8 => ?_)
      obtain rfl : y4 = y8 := ey4.trans ey8.symm
      refine va_aldq hx hb hK hP 0 1 rfl rfl (z_in (by omega) (by omega)) dX7_heardOf_31 ?_
      rcases hg10 : (ga0_0 (y4 : Int32).toNatClampNeg).1 with _ | y9
      · refine W.eq (g2 := F0 m 32 ls [.null]) rfl ?_
        refine lv_goto (tgt := 36) hx hb dX7_heardOf_32 (by decide) ?_
        refine lv_astore_nN (lv' := [(3, .null), (0, .ref ha0), (1, .int p1), (2, .int p2)]) hx hb dX7_heardOf_36 rfl hl (by decide) rfl (fun ls hl => ?_)
        refine lv_aload_nN hx hb dX7_heardOf_37 rfl (lv_at hl 0 rfl) ?_
        refine lv_ifnonnullN hx hb dX7_heardOf_38 ?_
        refine lv_iload_n hx hb dX7_heardOf_41 rfl (lv_at hl 3 rfl) ?_
        refine lv_goto (tgt := 50) hx hb dX7_heardOf_42 (by decide) ?_
        exact W.iret (v := p2) hx hb hr (fun t ht hW => ⟨p2, rfl, ⟨z_lo _, z_hi _, (by exact fun a1 a2 a3 a4 kd fg hK => (z_knN hK (by omega) (by omega) hg10).elim)⟩, ht⟩) (fun _ h => absurd h List.not_mem_nil) dX7_heardOf_50
      · refine W.eq (g2 := F0 m 32 ls [.ref y9]) rfl ?_
        have hply9 : PL y9 (ga0_0 (y4 : Int32).toNatClampNeg).2.1 (ga0_0 (y4 : Int32).toNatClampNeg).2.2 := hPLga0_0 _ _ hg10
        refine lv_goto (tgt := 36) hx hb dX7_heardOf_32 (by decide) ?_
        refine lv_astore_n (lv' := [(3, .ref y9), (0, .ref ha0), (1, .int p1), (2, .int p2)]) hx hb dX7_heardOf_36 rfl hl (by decide) rfl (fun ls hl => ?_)
        refine lv_aload_n hx hb dX7_heardOf_37 rfl (lv_at hl 0 rfl) ?_
        refine lv_ifnonnull (tgt := 45) hx hb dX7_heardOf_38 (by decide) ?_
        refine lv_aload_n hx hb dX7_heardOf_45 rfl (lv_at hl 0 rfl) ?_
        refine lv_iload_n hx hb dX7_heardOf_46 rfl (lv_at hl 3 rfl) ?_
        obtain ⟨kk, vv, ekk, evv, hkk, hPy⟩ := z_spl (hPl y9 _ _ hply9)
        rcases hkk with rfl | rfl | rfl | rfl | rfl | rfl
        · refine z_rdi (va_runU (As := [.int p2]) (rest := []) ⟨hx, hb, hml, hown, hts⟩ (rX6_hears_X0 l dC dI cI cQ y9 p2) (va_cwU 1 hts gv_X7_heardOf_X6_hears_74_X0 rfl rfl rfl rfl (by decide +kernel) ⟨Nat.le_of_ble_eq_true rfl, Nat.le_of_ble_eq_true rfl⟩) ⟨z_blindR, va_recv hK hPy (ci := 0) (q0 := 0) rfl rfl, z_preR hZ hPy [] rfl⟩ rfl rfl hl.1 rfl (lv_room (Nat.le_of_ble_eq_true rfl)) dX7_heardOf_47 ⟨Nat.le_of_ble_eq_true rfl, Nat.le_of_ble_eq_true rfl⟩) (fun y11 hy11 => ?_)
          obtain ⟨hy11_0, hy11_1, hy11_2⟩ := hy11
          exact W.iret (v := y11) hx hb hr (fun t ht hW => ⟨y11, rfl, ⟨z_lo _, z_hi _, (by exact fun a1 a2 a3 a4 kd fg hK => by rw [← ey4]; exact z_hdN (z_knK hK (by omega) (by omega) ekk) (by decide) (by decide) hy11_2)⟩, ht⟩) (fun _ h => absurd h List.not_mem_nil) dX7_heardOf_50
        · refine z_rdi (va_runU (As := [.int p2]) (rest := []) ⟨hx, hb, hml, hown, hts⟩ (rX1_hears l dC dI cI cQ y9 vv p2) (va_cwO 1 hts gv_X7_heardOf_X1_hears_74_X1 rfl rfl rfl (b0 := cX6_hears) (m0 := 2) (r0 := (some .int)) (List.mem_of_getElem? (i := 18) rfl) (by decide +kernel) ⟨Nat.le_of_ble_eq_true rfl, Nat.le_of_ble_eq_true rfl⟩) ⟨z_blindR, va_recv hK hPy (ci := 1) (q0 := 0) rfl rfl, z_preR hZ hPy [0] rfl⟩ rfl rfl hl.1 rfl (lv_room (Nat.le_of_ble_eq_true rfl)) dX7_heardOf_47 ⟨Nat.le_of_ble_eq_true rfl, Nat.le_of_ble_eq_true rfl⟩) (fun y12 hy12 => ?_)
          obtain ⟨hy12_0, hy12_1, hy12_2⟩ := hy12
          exact W.iret (v := y12) hx hb hr (fun t ht hW => ⟨y12, rfl, ⟨z_lo _, z_hi _, (by exact fun a1 a2 a3 a4 kd fg hK => by rw [← ey4]; exact z_hdD (Or.inl (z_knK hK (by omega) (by omega) ekk)) ((z_knF hK (by omega) (by omega)).symm.trans evv) hy12_2)⟩, ht⟩) (fun _ h => absurd h List.not_mem_nil) dX7_heardOf_50
        · refine z_rdi (va_runU (As := [.int p2]) (rest := []) ⟨hx, hb, hml, hown, hts⟩ (rX6_hears_X3 l dC dI cI cQ y9 p2) (va_cwU 1 hts gv_X7_heardOf_X6_hears_74_X3 rfl rfl rfl rfl (by decide +kernel) ⟨Nat.le_of_ble_eq_true rfl, Nat.le_of_ble_eq_true rfl⟩) ⟨z_blindR, va_recv hK hPy (ci := 3) (q0 := 0) rfl rfl, z_preR hZ hPy [] rfl⟩ rfl rfl hl.1 rfl (lv_room (Nat.le_of_ble_eq_true rfl)) dX7_heardOf_47 ⟨Nat.le_of_ble_eq_true rfl, Nat.le_of_ble_eq_true rfl⟩) (fun y13 hy13 => ?_)
          obtain ⟨hy13_0, hy13_1, hy13_2⟩ := hy13
          exact W.iret (v := y13) hx hb hr (fun t ht hW => ⟨y13, rfl, ⟨z_lo _, z_hi _, (by exact fun a1 a2 a3 a4 kd fg hK => by rw [← ey4]; exact z_hdN (z_knK hK (by omega) (by omega) ekk) (by decide) (by decide) hy13_2)⟩, ht⟩) (fun _ h => absurd h List.not_mem_nil) dX7_heardOf_50
        · refine z_rdi (va_runV (As := [.int p2]) (rest := []) ⟨hx, hb, hml, hown, hts⟩ (rX6_hears l dC dI cI cQ y9 p2) (cwV 1 hts gv_X7_heardOf_X6_hears_74 rfl rfl rfl (by decide +kernel) ⟨Nat.le_of_ble_eq_true rfl, Nat.le_of_ble_eq_true rfl⟩) ⟨z_blindR, va_recv hK hPy (ci := 6) (q0 := 0) rfl rfl, z_preR hZ hPy [] rfl⟩ rfl rfl hl.1 rfl (lv_room (Nat.le_of_ble_eq_true rfl)) dX7_heardOf_47 ⟨Nat.le_of_ble_eq_true rfl, Nat.le_of_ble_eq_true rfl⟩) (fun y14 hy14 => ?_)
          obtain ⟨hy14_0, hy14_1, hy14_2⟩ := hy14
          exact W.iret (v := y14) hx hb hr (fun t ht hW => ⟨y14, rfl, ⟨z_lo _, z_hi _, (by exact fun a1 a2 a3 a4 kd fg hK => by rw [← ey4]; exact z_hdN (z_knK hK (by omega) (by omega) ekk) (by decide) (by decide) hy14_2)⟩, ht⟩) (fun _ h => absurd h List.not_mem_nil) dX7_heardOf_50
        · refine z_rdi (va_runU (As := [.int p2]) (rest := []) ⟨hx, hb, hml, hown, hts⟩ (rX6_hears_X8 l dC dI cI cQ y9 p2) (va_cwU 1 hts gv_X7_heardOf_X6_hears_74_X8 rfl rfl rfl rfl (by decide +kernel) ⟨Nat.le_of_ble_eq_true rfl, Nat.le_of_ble_eq_true rfl⟩) ⟨z_blindR, va_recv hK hPy (ci := 8) (q0 := 0) rfl rfl, z_preR hZ hPy [] rfl⟩ rfl rfl hl.1 rfl (lv_room (Nat.le_of_ble_eq_true rfl)) dX7_heardOf_47 ⟨Nat.le_of_ble_eq_true rfl, Nat.le_of_ble_eq_true rfl⟩) (fun y15 hy15 => ?_)
          obtain ⟨hy15_0, hy15_1, hy15_2⟩ := hy15
          exact W.iret (v := y15) hx hb hr (fun t ht hW => ⟨y15, rfl, ⟨z_lo _, z_hi _, (by exact fun a1 a2 a3 a4 kd fg hK => by rw [← ey4]; exact z_hdN (z_knK hK (by omega) (by omega) ekk) (by decide) (by decide) hy15_2)⟩, ht⟩) (fun _ h => absurd h List.not_mem_nil) dX7_heardOf_50
        · refine z_rdi (va_runU (As := [.int p2]) (rest := []) ⟨hx, hb, hml, hown, hts⟩ (rX1_hears_X10 l dC dI cI cQ y9 vv p2) (va_cwO 1 hts gv_X7_heardOf_X1_hears_74_X10 rfl rfl rfl (b0 := cX6_hears) (m0 := 2) (r0 := (some .int)) (List.mem_of_getElem? (i := 18) rfl) (by decide +kernel) ⟨Nat.le_of_ble_eq_true rfl, Nat.le_of_ble_eq_true rfl⟩) ⟨z_blindR, va_recv hK hPy (ci := 10) (q0 := 0) rfl rfl, z_preR hZ hPy [0] rfl⟩ rfl rfl hl.1 rfl (lv_room (Nat.le_of_ble_eq_true rfl)) dX7_heardOf_47 ⟨Nat.le_of_ble_eq_true rfl, Nat.le_of_ble_eq_true rfl⟩) (fun y16 hy16 => ?_)
          obtain ⟨hy16_0, hy16_1, hy16_2⟩ := hy16
          exact W.iret (v := y16) hx hb hr (fun t ht hW => ⟨y16, rfl, ⟨z_lo _, z_hi _, (by exact fun a1 a2 a3 a4 kd fg hK => by rw [← ey4]; exact z_hdD (Or.inr (z_knK hK (by omega) (by omega) ekk)) ((z_knF hK (by omega) (by omega)).symm.trans evv) hy16_2)⟩, ht⟩) (fun _ h => absurd h List.not_mem_nil) dX7_heardOf_50
set_option maxRecDepth 20000 in
theorem edX0_choose_0 : decode cX0_choose 0 = .ok (.iload_n 1, 1) ∧ decode cX0_choose 1 = .ok (.iload_n 2, 1) ∧ decode cX0_choose 2 = .ok (.iand, 1) ∧ decode cX0_choose 3 = .ok (.invokestatic 7, 3) ∧ decode cX0_choose 6 = .ok (.ireturn, 1) := by decide +kernel
theorem dX0_choose_0 : decode cX0_choose 0 = .ok (.iload_n 1, 1) := edX0_choose_0.1
theorem dX0_choose_1 : decode cX0_choose 1 = .ok (.iload_n 2, 1) := edX0_choose_0.2.1
theorem dX0_choose_2 : decode cX0_choose 2 = .ok (.iand, 1) := edX0_choose_0.2.2.1
theorem dX0_choose_3 : decode cX0_choose 3 = .ok (.invokestatic 7, 3) := edX0_choose_0.2.2.2.1
theorem dX0_choose_6 : decode cX0_choose 6 = .ok (.ireturn, 1) := edX0_choose_0.2.2.2.2
noncomputable def voX0_choose : List Cond := [.initialized RX11, .static yX11_leastOf]
noncomputable def vsX0_choose : List Cond := .code yX0_choose cX0_choose 4 (some .int) :: (voX0_choose ++ (vsX11_leastOf))
theorem zgX0_choose : zGd vsX0_choose := z_gdC rfl (z_gdA (z_gdO (by decide +kernel) : zGd voX0_choose) (zgX11_leastOf))
theorem gw_X0_choose_X11_leastOf : GoodIn vsX0_choose vsX11_leastOf := z_gdI (fun _ h => List.mem_cons_of_mem _ (List.mem_append_right _ (h))) zgX11_leastOf
set_option maxRecDepth 20000 in
theorem gv_X0_choose_X11_leastOf_7 : GoodIn vsX0_choose (vsX11_leastOf) := gw_X0_choose_X11_leastOf
set_option maxHeartbeats 4000000 in
set_option maxRecDepth 100000 in
theorem rX0_choose (l : Launch) (dC : Nat → ClassId) (dI : Nat → Nat → Nat) (cI cQ : ClassId) (ha0 : Nat) (p1 : Int32) (p2 : Int32) (p3 : Int32) : Met l yX0_choose vsX0_choose ({ frames := 1, cells := 0, slots := 0, locals := 21 }) (va_Pc [.ref ha0, .int p1, .int p2, .int p3] (zRB dC dI cI cQ [])) (vp_Si (fun r => (-9) ≤ r.toInt ∧ r.toInt ≤ 11 ∧ (zLst (p1 &&& p2) r.toInt))) 0 0 (fun _ => False) := by
  refine Met.ofW (cc := cX0_choose) (maxL := 4) (ret := (some .int)) (by decide) rfl ?_
  intro p e s m args below meth c s₁ B hml hv
  obtain ⟨rfl, hP, hZ⟩ := hv
  obtain ⟨hK, hAO, hN⟩ := id hZ
  have hx := B.exec
  have hb := B.bytes
  have hr := B.returns
  have hts := atoms_spec (ws := vsX0_choose) B.pre
  have hown : s.vm.findClass RX0 = some m.cls := findClass_of_methodNamed B.named
  have hlocks := B.notSynchronized
  have hp1l := z_lo p1
  have hp1h := z_hi p1
  have hp2l := z_lo p2
  have hp2h := z_hi p2
  have hp3l := z_lo p3
  have hp3h := z_hi p3
  have hl := lv_entry ([.ref ha0, .int p1, .int p2, .int p3]) (n := 4) (Nat.le_of_ble_eq_true rfl)
  rw [lg_entry_eq]
  generalize (lg_sl ([.ref ha0, .int p1, .int p2, .int p3]) ++ List.replicate (4 - (lg_sl ([.ref ha0, .int p1, .int p2, .int p3])).length) Slot.unset).toArray = ls at hl ⊢
  have hl : lv_has ls 4 [(0, .ref ha0), (1, .int p1), (2, .int p2), (3, .int p3)] := hl
  refine lv_iload_n hx hb dX0_choose_0 rfl (lv_at hl 1 rfl) ?_
  refine lv_iload_n hx hb dX0_choose_1 rfl (lv_at hl 2 rfl) ?_
  refine lv_iand hx hb dX0_choose_2 ?_
  refine lv_topi (fun y1 ey1 => ?_)
  refine z_rdi (va_runSN (As := [.int y1]) (rest := []) ⟨hx, hb, hml, hown, hts⟩ (rX11_leastOf l dC dI cI cQ y1) ⟨va_cnB (host := "EachOnHisCue") 1 hts gv_X0_choose_X11_leastOf_7 rfl rfl rfl (hN.1) (hts (.initialized RX11) (by decide +kernel)) (by decide +kernel) ⟨Nat.le_of_ble_eq_true rfl, Nat.le_of_ble_eq_true rfl⟩, hts (.static yX11_leastOf) (by decide +kernel), trivial⟩ ⟨z_blindR, z_preR hZ hP [] rfl⟩ rfl rfl hl.1 rfl (lv_room (Nat.le_of_ble_eq_true rfl)) dX0_choose_3 ⟨Nat.le_of_ble_eq_true rfl, Nat.le_of_ble_eq_true rfl⟩) (fun y2 hy2 => ?_)
  obtain ⟨hy2_0, hy2_1, hy2_2⟩ := hy2
  exact W.iret (v := y2) hx hb hr (fun t ht hW => ⟨y2, rfl, ⟨by first | decide | omega, by first | decide | omega, (by rw [← ey1]; exact hy2_2)⟩, ht⟩) (fun _ h => absurd h List.not_mem_nil) dX0_choose_6
set_option maxRecDepth 20000 in
theorem edX6_choose_0 : decode cX6_choose 0 = .ok (.iload_n 1, 1) ∧ decode cX6_choose 1 = .ok (.iload_n 3, 1) ∧ decode cX6_choose 2 = .ok (.iconst (-1), 1) ∧ decode cX6_choose 3 = .ok (.ixor, 1) ∧ decode cX6_choose 4 = .ok (.iand, 1) ∧ decode cX6_choose 5 = .ok (.invokestatic 15, 3) ∧ decode cX6_choose 8 = .ok (.istore 4, 2) ∧ decode cX6_choose 10 = .ok (.iload 4, 2) ∧ decode cX6_choose 12 = .ok (.bipush (-9), 2) ∧ decode cX6_choose 14 = .ok (.if_icmp .eq 18, 3) ∧ decode cX6_choose 17 = .ok (.iload_n 2, 1) ∧ decode cX6_choose 18 = .ok (.iload 4, 2) := by decide +kernel
theorem dX6_choose_0 : decode cX6_choose 0 = .ok (.iload_n 1, 1) := edX6_choose_0.1
theorem dX6_choose_1 : decode cX6_choose 1 = .ok (.iload_n 3, 1) := edX6_choose_0.2.1
theorem dX6_choose_2 : decode cX6_choose 2 = .ok (.iconst (-1), 1) := edX6_choose_0.2.2.1
theorem dX6_choose_3 : decode cX6_choose 3 = .ok (.ixor, 1) := edX6_choose_0.2.2.2.1
theorem dX6_choose_4 : decode cX6_choose 4 = .ok (.iand, 1) := edX6_choose_0.2.2.2.2.1
theorem dX6_choose_5 : decode cX6_choose 5 = .ok (.invokestatic 15, 3) := edX6_choose_0.2.2.2.2.2.1
theorem dX6_choose_8 : decode cX6_choose 8 = .ok (.istore 4, 2) := edX6_choose_0.2.2.2.2.2.2.1
theorem dX6_choose_10 : decode cX6_choose 10 = .ok (.iload 4, 2) := edX6_choose_0.2.2.2.2.2.2.2.1
theorem dX6_choose_12 : decode cX6_choose 12 = .ok (.bipush (-9), 2) := edX6_choose_0.2.2.2.2.2.2.2.2.1
theorem dX6_choose_14 : decode cX6_choose 14 = .ok (.if_icmp .eq 18, 3) := edX6_choose_0.2.2.2.2.2.2.2.2.2.1
theorem dX6_choose_17 : decode cX6_choose 17 = .ok (.iload_n 2, 1) := edX6_choose_0.2.2.2.2.2.2.2.2.2.2.1
theorem dX6_choose_18 : decode cX6_choose 18 = .ok (.iload 4, 2) := edX6_choose_0.2.2.2.2.2.2.2.2.2.2.2
set_option maxRecDepth 20000 in
theorem edX6_choose_20 : decode cX6_choose 20 = .ok (.invokestatic 19, 3) ∧ decode cX6_choose 23 = .ok (.iconst 1, 1) ∧ decode cX6_choose 24 = .ok (.if_icmp .ne 8, 3) ∧ decode cX6_choose 27 = .ok (.iload 4, 2) ∧ decode cX6_choose 29 = .ok (.goto 5, 3) ∧ decode cX6_choose 32 = .ok (.bipush (-9), 2) ∧ decode cX6_choose 34 = .ok (.ireturn, 1) := by decide +kernel
theorem dX6_choose_20 : decode cX6_choose 20 = .ok (.invokestatic 19, 3) := edX6_choose_20.1
theorem dX6_choose_23 : decode cX6_choose 23 = .ok (.iconst 1, 1) := edX6_choose_20.2.1
theorem dX6_choose_24 : decode cX6_choose 24 = .ok (.if_icmp .ne 8, 3) := edX6_choose_20.2.2.1
theorem dX6_choose_27 : decode cX6_choose 27 = .ok (.iload 4, 2) := edX6_choose_20.2.2.2.1
theorem dX6_choose_29 : decode cX6_choose 29 = .ok (.goto 5, 3) := edX6_choose_20.2.2.2.2.1
theorem dX6_choose_32 : decode cX6_choose 32 = .ok (.bipush (-9), 2) := edX6_choose_20.2.2.2.2.2.1
theorem dX6_choose_34 : decode cX6_choose 34 = .ok (.ireturn, 1) := edX6_choose_20.2.2.2.2.2.2
noncomputable def voX6_choose : List Cond := [.initialized RX11, .static yX11_leastOf, .static yX11_bitAt]
noncomputable def vsX6_choose : List Cond := .code yX6_choose cX6_choose 5 (some .int) :: (voX6_choose ++ (vsX11_leastOf ++ (vsX11_bitAt)))
theorem zgX6_choose : zGd vsX6_choose := z_gdC rfl (z_gdA (z_gdO (by decide +kernel) : zGd voX6_choose) (z_gdA zgX11_leastOf (zgX11_bitAt)))
theorem gw_X6_choose_X11_leastOf : GoodIn vsX6_choose vsX11_leastOf := z_gdI (fun _ h => List.mem_cons_of_mem _ (List.mem_append_right _ (List.mem_append_left _ h))) zgX11_leastOf
set_option maxRecDepth 20000 in
theorem gv_X6_choose_X11_leastOf_15 : GoodIn vsX6_choose (vsX11_leastOf) := gw_X6_choose_X11_leastOf
theorem gw_X6_choose_X11_bitAt : GoodIn vsX6_choose vsX11_bitAt := z_gdI (fun _ h => List.mem_cons_of_mem _ (List.mem_append_right _ (List.mem_append_right _ (h)))) zgX11_bitAt
set_option maxRecDepth 20000 in
theorem gv_X6_choose_X11_bitAt_19 : GoodIn vsX6_choose (vsX11_bitAt) := gw_X6_choose_X11_bitAt
set_option maxHeartbeats 4000000 in
set_option maxRecDepth 100000 in
theorem rX6_choose_X1 (l : Launch) (dC : Nat → ClassId) (dI : Nat → Nat → Nat) (cI cQ : ClassId) (ha0 : Nat) (p1 : Int32) (p2 : Int32) (p3 : Int32) : Met l yX6_choose vsX6_choose ({ frames := 1, cells := 0, slots := 0, locals := 21 }) (va_Pc [.ref ha0, .int p1, .int p2, .int p3] (zRB dC dI cI cQ [])) (vp_Si (fun r => (-9) ≤ r.toInt ∧ r.toInt ≤ 11 ∧ (zNxt p1 p2 p3 r.toInt))) 0 0 (fun _ => False) := by
  refine Met.ofW (cc := cX6_choose) (maxL := 5) (ret := (some .int)) (by decide) rfl ?_
  intro p e s m args below meth c s₁ B hml hv
  obtain ⟨rfl, hP, hZ⟩ := hv
  obtain ⟨hK, hAO, hN⟩ := id hZ
  have hx := B.exec
  have hb := B.bytes
  have hr := B.returns
  have hts := atoms_spec (ws := vsX6_choose) B.pre
  have hown : s.vm.findClass RX6 = some m.cls := findClass_of_methodNamed B.named
  have hlocks := B.notSynchronized
  have hp1l := z_lo p1
  have hp1h := z_hi p1
  have hp2l := z_lo p2
  have hp2h := z_hi p2
  have hp3l := z_lo p3
  have hp3h := z_hi p3
  have hl := lv_entry ([.ref ha0, .int p1, .int p2, .int p3]) (n := 5) (Nat.le_of_ble_eq_true rfl)
  rw [lg_entry_eq]
  generalize (lg_sl ([.ref ha0, .int p1, .int p2, .int p3]) ++ List.replicate (5 - (lg_sl ([.ref ha0, .int p1, .int p2, .int p3])).length) Slot.unset).toArray = ls at hl ⊢
  have hl : lv_has ls 5 [(0, .ref ha0), (1, .int p1), (2, .int p2), (3, .int p3)] := hl
  refine lv_iload_n hx hb dX6_choose_0 rfl (lv_at hl 1 rfl) ?_
  refine lv_iload_n hx hb dX6_choose_1 rfl (lv_at hl 3 rfl) ?_
  refine lv_iconst (v := (-1)) hx hb dX6_choose_2 (by decide) ?_
  refine lv_ixor hx hb dX6_choose_3 ?_
  refine lv_topi (fun y1 ey1 => ?_)
  refine lv_iand hx hb dX6_choose_4 ?_
  refine lv_topi (fun y2 ey2 => ?_)
  refine z_rdi (va_runSN (As := [.int y2]) (rest := []) ⟨hx, hb, hml, hown, hts⟩ (rX11_leastOf l dC dI cI cQ y2) ⟨va_cnB (host := "EachOnHisCue") 1 hts gv_X6_choose_X11_leastOf_15 rfl rfl rfl (hN.2.2.2.2.2.2.2.2.2.2.1) (hts (.initialized RX11) (by decide +kernel)) (by decide +kernel) ⟨Nat.le_of_ble_eq_true rfl, Nat.le_of_ble_eq_true rfl⟩, hts (.static yX11_leastOf) (by decide +kernel), trivial⟩ ⟨z_blindR, z_preR hZ hP [] rfl⟩ rfl rfl hl.1 rfl (lv_room (Nat.le_of_ble_eq_true rfl)) dX6_choose_5 ⟨Nat.le_of_ble_eq_true rfl, Nat.le_of_ble_eq_true rfl⟩) (fun y3 hy3 => ?_)
  obtain ⟨hy3_0, hy3_1, hy3_2⟩ := hy3
  refine lv_istore (lv' := [(4, .int y3), (0, .ref ha0), (1, .int p1), (2, .int p2), (3, .int p3)]) hx hb dX6_choose_8 hl (by decide) rfl (fun ls hl => ?_)
  refine lv_iload hx hb dX6_choose_10 (lv_at hl 0 rfl) ?_
  refine lv_bipush (v := (-9)) hx hb dX6_choose_12 (by decide) ?_
  refine lv_icmp_eq (tgt := 32) hx hb dX6_choose_14 (by decide) (fun hc => ?_) (fun hc => ?_)
  · have q4 : y3.toInt = (-9) := z_eq rfl (by decide) hc
    refine lv_bipush (v := (-9)) hx hb dX6_choose_32 (by decide) ?_
    exact W.iret (v := (-9)) hx hb hr (fun t ht hW => ⟨(-9), rfl, ⟨by first | decide | omega, by first | decide | omega, (by have hl := hy3_2; rw [ey2, ey1] at hl; exact ⟨_, hl, Or.inr ⟨Or.inl (by omega), by decide⟩⟩)⟩, ht⟩) (fun _ h => absurd h List.not_mem_nil) dX6_choose_34
  · have q5 : y3.toInt ≠ (-9) := z_ne rfl (by decide) hc
    refine lv_iload_n hx hb dX6_choose_17 rfl (lv_at hl 3 rfl) ?_
    refine lv_iload hx hb dX6_choose_18 (lv_at hl 0 rfl) ?_
    refine z_rdi (va_runSN (As := [.int p2, .int y3]) (rest := []) ⟨hx, hb, hml, hown, hts⟩ (rX11_bitAt l dC dI cI cQ p2 y3) ⟨va_cnB (host := "EachOnHisCue") 2 hts gv_X6_choose_X11_bitAt_19 rfl rfl rfl (hN.2.2.2.2.2.2.2.2.2.2.2.1) (hts (.initialized RX11) (by decide +kernel)) (by decide +kernel) ⟨Nat.le_of_ble_eq_true rfl, Nat.le_of_ble_eq_true rfl⟩, hts (.static yX11_bitAt) (by decide +kernel), trivial⟩ ⟨z_blindR, z_preR hZ hP [] rfl⟩ rfl rfl hl.1 rfl (lv_room (Nat.le_of_ble_eq_true rfl)) dX6_choose_20 ⟨Nat.le_of_ble_eq_true rfl, Nat.le_of_ble_eq_true rfl⟩) (fun y6 hy6 => ?_)
    obtain ⟨hy6_0, hy6_1, hy6_2⟩ := hy6
    refine lv_iconst (v := 1) hx hb dX6_choose_23 (by decide) ?_
    refine lv_icmp_ne (tgt := 32) hx hb dX6_choose_24 (by decide) (fun hc => ?_) (fun hc => ?_)
    · have q7 : y6.toInt ≠ 1 := z_ne rfl (by decide) hc
      refine lv_bipush (v := (-9)) hx hb dX6_choose_32 (by decide) ?_
      exact W.iret (v := (-9)) hx hb hr (fun t ht hW => ⟨(-9), rfl, ⟨by first | decide | omega, by first | decide | omega, (by have hl := hy3_2; rw [ey2, ey1] at hl; have hrg := z_lsR hl (by omega); have hb9 := hy6_2 (by omega) (by omega); exact ⟨_, hl, Or.inr ⟨Or.inr (z_btF hb9 (by omega)), by decide⟩⟩)⟩, ht⟩) (fun _ h => absurd h List.not_mem_nil) dX6_choose_34
    · have q8 : y6.toInt = 1 := z_eq rfl (by decide) hc
      refine lv_iload hx hb dX6_choose_27 (lv_at hl 0 rfl) ?_
      refine lv_goto (tgt := 34) hx hb dX6_choose_29 (by decide) ?_
      exact W.iret (v := y3) hx hb hr (fun t ht hW => ⟨y3, rfl, ⟨by first | decide | omega, by first | decide | omega, (by have hl := hy3_2; rw [ey2, ey1] at hl; have hrg := z_lsR hl (by omega); have hb9 := hy6_2 (by omega) (by omega); exact ⟨_, hl, Or.inl ⟨by omega, z_btT hb9 (by omega), rfl⟩⟩)⟩, ht⟩) (fun _ h => absurd h List.not_mem_nil) dX6_choose_34
set_option maxRecDepth 20000 in
theorem edX3_choose_0 : decode cX3_choose 0 = .ok (.iload_n 1, 1) ∧ decode cX3_choose 1 = .ok (.iload_n 2, 1) ∧ decode cX3_choose 2 = .ok (.iand, 1) ∧ decode cX3_choose 3 = .ok (.invokestatic 7, 3) ∧ decode cX3_choose 6 = .ok (.ireturn, 1) := by decide +kernel
theorem dX3_choose_0 : decode cX3_choose 0 = .ok (.iload_n 1, 1) := edX3_choose_0.1
theorem dX3_choose_1 : decode cX3_choose 1 = .ok (.iload_n 2, 1) := edX3_choose_0.2.1
theorem dX3_choose_2 : decode cX3_choose 2 = .ok (.iand, 1) := edX3_choose_0.2.2.1
theorem dX3_choose_3 : decode cX3_choose 3 = .ok (.invokestatic 7, 3) := edX3_choose_0.2.2.2.1
theorem dX3_choose_6 : decode cX3_choose 6 = .ok (.ireturn, 1) := edX3_choose_0.2.2.2.2
noncomputable def voX3_choose : List Cond := [.initialized RX11, .static yX11_greatestOf]
noncomputable def vsX3_choose : List Cond := .code yX3_choose cX3_choose 4 (some .int) :: (voX3_choose ++ (vsX11_greatestOf))
theorem zgX3_choose : zGd vsX3_choose := z_gdC rfl (z_gdA (z_gdO (by decide +kernel) : zGd voX3_choose) (zgX11_greatestOf))
theorem gw_X3_choose_X11_greatestOf : GoodIn vsX3_choose vsX11_greatestOf := z_gdI (fun _ h => List.mem_cons_of_mem _ (List.mem_append_right _ (h))) zgX11_greatestOf
set_option maxRecDepth 20000 in
theorem gv_X3_choose_X11_greatestOf_7 : GoodIn vsX3_choose (vsX11_greatestOf) := gw_X3_choose_X11_greatestOf
set_option maxHeartbeats 4000000 in
set_option maxRecDepth 100000 in
theorem rX3_choose (l : Launch) (dC : Nat → ClassId) (dI : Nat → Nat → Nat) (cI cQ : ClassId) (ha0 : Nat) (p1 : Int32) (p2 : Int32) (p3 : Int32) : Met l yX3_choose vsX3_choose ({ frames := 1, cells := 0, slots := 0, locals := 21 }) (va_Pc [.ref ha0, .int p1, .int p2, .int p3] (zRB dC dI cI cQ [])) (vp_Si (fun r => (-9) ≤ r.toInt ∧ r.toInt ≤ 11 ∧ (zGst (p1 &&& p2) r.toInt))) 0 0 (fun _ => False) := by
  refine Met.ofW (cc := cX3_choose) (maxL := 4) (ret := (some .int)) (by decide) rfl ?_
  intro p e s m args below meth c s₁ B hml hv
  obtain ⟨rfl, hP, hZ⟩ := hv
  obtain ⟨hK, hAO, hN⟩ := id hZ
  have hx := B.exec
  have hb := B.bytes
  have hr := B.returns
  have hts := atoms_spec (ws := vsX3_choose) B.pre
  have hown : s.vm.findClass RX3 = some m.cls := findClass_of_methodNamed B.named
  have hlocks := B.notSynchronized
  have hp1l := z_lo p1
  have hp1h := z_hi p1
  have hp2l := z_lo p2
  have hp2h := z_hi p2
  have hp3l := z_lo p3
  have hp3h := z_hi p3
  have hl := lv_entry ([.ref ha0, .int p1, .int p2, .int p3]) (n := 4) (Nat.le_of_ble_eq_true rfl)
  rw [lg_entry_eq]
  generalize (lg_sl ([.ref ha0, .int p1, .int p2, .int p3]) ++ List.replicate (4 - (lg_sl ([.ref ha0, .int p1, .int p2, .int p3])).length) Slot.unset).toArray = ls at hl ⊢
  have hl : lv_has ls 4 [(0, .ref ha0), (1, .int p1), (2, .int p2), (3, .int p3)] := hl
  refine lv_iload_n hx hb dX3_choose_0 rfl (lv_at hl 1 rfl) ?_
  refine lv_iload_n hx hb dX3_choose_1 rfl (lv_at hl 2 rfl) ?_
  refine lv_iand hx hb dX3_choose_2 ?_
  refine lv_topi (fun y1 ey1 => ?_)
  refine z_rdi (va_runSN (As := [.int y1]) (rest := []) ⟨hx, hb, hml, hown, hts⟩ (rX11_greatestOf l dC dI cI cQ y1) ⟨va_cnB (host := "EachOnHisCue") 1 hts gv_X3_choose_X11_greatestOf_7 rfl rfl rfl (hN.2.2.2.2.2.2.2.1) (hts (.initialized RX11) (by decide +kernel)) (by decide +kernel) ⟨Nat.le_of_ble_eq_true rfl, Nat.le_of_ble_eq_true rfl⟩, hts (.static yX11_greatestOf) (by decide +kernel), trivial⟩ ⟨z_blindR, z_preR hZ hP [] rfl⟩ rfl rfl hl.1 rfl (lv_room (Nat.le_of_ble_eq_true rfl)) dX3_choose_3 ⟨Nat.le_of_ble_eq_true rfl, Nat.le_of_ble_eq_true rfl⟩) (fun y2 hy2 => ?_)
  obtain ⟨hy2_0, hy2_1, hy2_2⟩ := hy2
  exact W.iret (v := y2) hx hb hr (fun t ht hW => ⟨y2, rfl, ⟨by first | decide | omega, by first | decide | omega, (by rw [← ey1]; exact hy2_2)⟩, ht⟩) (fun _ h => absurd h List.not_mem_nil) dX3_choose_6
set_option maxHeartbeats 4000000 in
set_option maxRecDepth 100000 in
theorem rX6_choose (l : Launch) (dC : Nat → ClassId) (dI : Nat → Nat → Nat) (cI cQ : ClassId) (ha0 : Nat) (p1 : Int32) (p2 : Int32) (p3 : Int32) : Met l yX6_choose vsX6_choose ({ frames := 1, cells := 0, slots := 0, locals := 21 }) (va_Pc [.ref ha0, .int p1, .int p2, .int p3] (zRB dC dI cI cQ [])) (vp_Si (fun r => (-9) ≤ r.toInt ∧ r.toInt ≤ 11 ∧ (zNxt p1 p2 p3 r.toInt))) 0 0 (fun _ => False) := by
  refine Met.ofW (cc := cX6_choose) (maxL := 5) (ret := (some .int)) (by decide) rfl ?_
  intro p e s m args below meth c s₁ B hml hv
  obtain ⟨rfl, hP, hZ⟩ := hv
  obtain ⟨hK, hAO, hN⟩ := id hZ
  have hx := B.exec
  have hb := B.bytes
  have hr := B.returns
  have hts := atoms_spec (ws := vsX6_choose) B.pre
  have hown : s.vm.findClass RX6 = some m.cls := findClass_of_methodNamed B.named
  have hlocks := B.notSynchronized
  have hp1l := z_lo p1
  have hp1h := z_hi p1
  have hp2l := z_lo p2
  have hp2h := z_hi p2
  have hp3l := z_lo p3
  have hp3h := z_hi p3
  have hl := lv_entry ([.ref ha0, .int p1, .int p2, .int p3]) (n := 5) (Nat.le_of_ble_eq_true rfl)
  rw [lg_entry_eq]
  generalize (lg_sl ([.ref ha0, .int p1, .int p2, .int p3]) ++ List.replicate (5 - (lg_sl ([.ref ha0, .int p1, .int p2, .int p3])).length) Slot.unset).toArray = ls at hl ⊢
  have hl : lv_has ls 5 [(0, .ref ha0), (1, .int p1), (2, .int p2), (3, .int p3)] := hl
  refine lv_iload_n hx hb dX6_choose_0 rfl (lv_at hl 1 rfl) ?_
  refine lv_iload_n hx hb dX6_choose_1 rfl (lv_at hl 3 rfl) ?_
  refine lv_iconst (v := (-1)) hx hb dX6_choose_2 (by decide) ?_
  refine lv_ixor hx hb dX6_choose_3 ?_
  refine lv_topi (fun y1 ey1 => ?_)
  refine lv_iand hx hb dX6_choose_4 ?_
  refine lv_topi (fun y2 ey2 => ?_)
  refine z_rdi (va_runSN (As := [.int y2]) (rest := []) ⟨hx, hb, hml, hown, hts⟩ (rX11_leastOf l dC dI cI cQ y2) ⟨va_cnB (host := "EachOnHisCue") 1 hts gv_X6_choose_X11_leastOf_15 rfl rfl rfl (hN.2.2.2.2.2.2.2.2.2.2.1) (hts (.initialized RX11) (by decide +kernel)) (by decide +kernel) ⟨Nat.le_of_ble_eq_true rfl, Nat.le_of_ble_eq_true rfl⟩, hts (.static yX11_leastOf) (by decide +kernel), trivial⟩ ⟨z_blindR, z_preR hZ hP [] rfl⟩ rfl rfl hl.1 rfl (lv_room (Nat.le_of_ble_eq_true rfl)) dX6_choose_5 ⟨Nat.le_of_ble_eq_true rfl, Nat.le_of_ble_eq_true rfl⟩) (fun y3 hy3 => ?_)
  obtain ⟨hy3_0, hy3_1, hy3_2⟩ := hy3
  refine lv_istore (lv' := [(4, .int y3), (0, .ref ha0), (1, .int p1), (2, .int p2), (3, .int p3)]) hx hb dX6_choose_8 hl (by decide) rfl (fun ls hl => ?_)
  refine lv_iload hx hb dX6_choose_10 (lv_at hl 0 rfl) ?_
  refine lv_bipush (v := (-9)) hx hb dX6_choose_12 (by decide) ?_
  refine lv_icmp_eq (tgt := 32) hx hb dX6_choose_14 (by decide) (fun hc => ?_) (fun hc => ?_)
  · have q4 : y3.toInt = (-9) := z_eq rfl (by decide) hc
    refine lv_bipush (v := (-9)) hx hb dX6_choose_32 (by decide) ?_
    exact W.iret (v := (-9)) hx hb hr (fun t ht hW => ⟨(-9), rfl, ⟨by first | decide | omega, by first | decide | omega, (by have hl := hy3_2; rw [ey2, ey1] at hl; exact ⟨_, hl, Or.inr ⟨Or.inl (by omega), by decide⟩⟩)⟩, ht⟩) (fun _ h => absurd h List.not_mem_nil) dX6_choose_34
  · have q5 : y3.toInt ≠ (-9) := z_ne rfl (by decide) hc
    refine lv_iload_n hx hb dX6_choose_17 rfl (lv_at hl 3 rfl) ?_
    refine lv_iload hx hb dX6_choose_18 (lv_at hl 0 rfl) ?_
    refine z_rdi (va_runSN (As := [.int p2, .int y3]) (rest := []) ⟨hx, hb, hml, hown, hts⟩ (rX11_bitAt l dC dI cI cQ p2 y3) ⟨va_cnB (host := "EachOnHisCue") 2 hts gv_X6_choose_X11_bitAt_19 rfl rfl rfl (hN.2.2.2.2.2.2.2.2.2.2.2.1) (hts (.initialized RX11) (by decide +kernel)) (by decide +kernel) ⟨Nat.le_of_ble_eq_true rfl, Nat.le_of_ble_eq_true rfl⟩, hts (.static yX11_bitAt) (by decide +kernel), trivial⟩ ⟨z_blindR, z_preR hZ hP [] rfl⟩ rfl rfl hl.1 rfl (lv_room (Nat.le_of_ble_eq_true rfl)) dX6_choose_20 ⟨Nat.le_of_ble_eq_true rfl, Nat.le_of_ble_eq_true rfl⟩) (fun y6 hy6 => ?_)
    obtain ⟨hy6_0, hy6_1, hy6_2⟩ := hy6
    refine lv_iconst (v := 1) hx hb dX6_choose_23 (by decide) ?_
    refine lv_icmp_ne (tgt := 32) hx hb dX6_choose_24 (by decide) (fun hc => ?_) (fun hc => ?_)
    · have q7 : y6.toInt ≠ 1 := z_ne rfl (by decide) hc
      refine lv_bipush (v := (-9)) hx hb dX6_choose_32 (by decide) ?_
      exact W.iret (v := (-9)) hx hb hr (fun t ht hW => ⟨(-9), rfl, ⟨by first | decide | omega, by first | decide | omega, (by have hl := hy3_2; rw [ey2, ey1] at hl; have hrg := z_lsR hl (by omega); have hb9 := hy6_2 (by omega) (by omega); exact ⟨_, hl, Or.inr ⟨Or.inr (z_btF hb9 (by omega)), by decide⟩⟩)⟩, ht⟩) (fun _ h => absurd h List.not_mem_nil) dX6_choose_34
    · have q8 : y6.toInt = 1 := z_eq rfl (by decide) hc
      refine lv_iload hx hb dX6_choose_27 (lv_at hl 0 rfl) ?_
      refine lv_goto (tgt := 34) hx hb dX6_choose_29 (by decide) ?_
      exact W.iret (v := y3) hx hb hr (fun t ht hW => ⟨y3, rfl, ⟨by first | decide | omega, by first | decide | omega, (by have hl := hy3_2; rw [ey2, ey1] at hl; have hrg := z_lsR hl (by omega); have hb9 := hy6_2 (by omega) (by omega); exact ⟨_, hl, Or.inl ⟨by omega, z_btT hb9 (by omega), rfl⟩⟩)⟩, ht⟩) (fun _ h => absurd h List.not_mem_nil) dX6_choose_34
set_option maxHeartbeats 4000000 in
set_option maxRecDepth 100000 in
theorem rX6_choose_X8 (l : Launch) (dC : Nat → ClassId) (dI : Nat → Nat → Nat) (cI cQ : ClassId) (ha0 : Nat) (p1 : Int32) (p2 : Int32) (p3 : Int32) : Met l yX6_choose vsX6_choose ({ frames := 1, cells := 0, slots := 0, locals := 21 }) (va_Pc [.ref ha0, .int p1, .int p2, .int p3] (zRB dC dI cI cQ [])) (vp_Si (fun r => (-9) ≤ r.toInt ∧ r.toInt ≤ 11 ∧ (zNxt p1 p2 p3 r.toInt))) 0 0 (fun _ => False) := by
  refine Met.ofW (cc := cX6_choose) (maxL := 5) (ret := (some .int)) (by decide) rfl ?_
  intro p e s m args below meth c s₁ B hml hv
  obtain ⟨rfl, hP, hZ⟩ := hv
  obtain ⟨hK, hAO, hN⟩ := id hZ
  have hx := B.exec
  have hb := B.bytes
  have hr := B.returns
  have hts := atoms_spec (ws := vsX6_choose) B.pre
  have hown : s.vm.findClass RX6 = some m.cls := findClass_of_methodNamed B.named
  have hlocks := B.notSynchronized
  have hp1l := z_lo p1
  have hp1h := z_hi p1
  have hp2l := z_lo p2
  have hp2h := z_hi p2
  have hp3l := z_lo p3
  have hp3h := z_hi p3
  have hl := lv_entry ([.ref ha0, .int p1, .int p2, .int p3]) (n := 5) (Nat.le_of_ble_eq_true rfl)
  rw [lg_entry_eq]
  generalize (lg_sl ([.ref ha0, .int p1, .int p2, .int p3]) ++ List.replicate (5 - (lg_sl ([.ref ha0, .int p1, .int p2, .int p3])).length) Slot.unset).toArray = ls at hl ⊢
  have hl : lv_has ls 5 [(0, .ref ha0), (1, .int p1), (2, .int p2), (3, .int p3)] := hl
  refine lv_iload_n hx hb dX6_choose_0 rfl (lv_at hl 1 rfl) ?_
  refine lv_iload_n hx hb dX6_choose_1 rfl (lv_at hl 3 rfl) ?_
  refine lv_iconst (v := (-1)) hx hb dX6_choose_2 (by decide) ?_
  refine lv_ixor hx hb dX6_choose_3 ?_
  refine lv_topi (fun y1 ey1 => ?_)
  refine lv_iand hx hb dX6_choose_4 ?_
  refine lv_topi (fun y2 ey2 => ?_)
  refine z_rdi (va_runSN (As := [.int y2]) (rest := []) ⟨hx, hb, hml, hown, hts⟩ (rX11_leastOf l dC dI cI cQ y2) ⟨va_cnB (host := "EachOnHisCue") 1 hts gv_X6_choose_X11_leastOf_15 rfl rfl rfl (hN.2.2.2.2.2.2.2.2.2.2.1) (hts (.initialized RX11) (by decide +kernel)) (by decide +kernel) ⟨Nat.le_of_ble_eq_true rfl, Nat.le_of_ble_eq_true rfl⟩, hts (.static yX11_leastOf) (by decide +kernel), trivial⟩ ⟨z_blindR, z_preR hZ hP [] rfl⟩ rfl rfl hl.1 rfl (lv_room (Nat.le_of_ble_eq_true rfl)) dX6_choose_5 ⟨Nat.le_of_ble_eq_true rfl, Nat.le_of_ble_eq_true rfl⟩) (fun y3 hy3 => ?_)
  obtain ⟨hy3_0, hy3_1, hy3_2⟩ := hy3
  refine lv_istore (lv' := [(4, .int y3), (0, .ref ha0), (1, .int p1), (2, .int p2), (3, .int p3)]) hx hb dX6_choose_8 hl (by decide) rfl (fun ls hl => ?_)
  refine lv_iload hx hb dX6_choose_10 (lv_at hl 0 rfl) ?_
  refine lv_bipush (v := (-9)) hx hb dX6_choose_12 (by decide) ?_
  refine lv_icmp_eq (tgt := 32) hx hb dX6_choose_14 (by decide) (fun hc => ?_) (fun hc => ?_)
  · have q4 : y3.toInt = (-9) := z_eq rfl (by decide) hc
    refine lv_bipush (v := (-9)) hx hb dX6_choose_32 (by decide) ?_
    exact W.iret (v := (-9)) hx hb hr (fun t ht hW => ⟨(-9), rfl, ⟨by first | decide | omega, by first | decide | omega, (by have hl := hy3_2; rw [ey2, ey1] at hl; exact ⟨_, hl, Or.inr ⟨Or.inl (by omega), by decide⟩⟩)⟩, ht⟩) (fun _ h => absurd h List.not_mem_nil) dX6_choose_34
  · have q5 : y3.toInt ≠ (-9) := z_ne rfl (by decide) hc
    refine lv_iload_n hx hb dX6_choose_17 rfl (lv_at hl 3 rfl) ?_
    refine lv_iload hx hb dX6_choose_18 (lv_at hl 0 rfl) ?_
    refine z_rdi (va_runSN (As := [.int p2, .int y3]) (rest := []) ⟨hx, hb, hml, hown, hts⟩ (rX11_bitAt l dC dI cI cQ p2 y3) ⟨va_cnB (host := "EachOnHisCue") 2 hts gv_X6_choose_X11_bitAt_19 rfl rfl rfl (hN.2.2.2.2.2.2.2.2.2.2.2.1) (hts (.initialized RX11) (by decide +kernel)) (by decide +kernel) ⟨Nat.le_of_ble_eq_true rfl, Nat.le_of_ble_eq_true rfl⟩, hts (.static yX11_bitAt) (by decide +kernel), trivial⟩ ⟨z_blindR, z_preR hZ hP [] rfl⟩ rfl rfl hl.1 rfl (lv_room (Nat.le_of_ble_eq_true rfl)) dX6_choose_20 ⟨Nat.le_of_ble_eq_true rfl, Nat.le_of_ble_eq_true rfl⟩) (fun y6 hy6 => ?_)
    obtain ⟨hy6_0, hy6_1, hy6_2⟩ := hy6
    refine lv_iconst (v := 1) hx hb dX6_choose_23 (by decide) ?_
    refine lv_icmp_ne (tgt := 32) hx hb dX6_choose_24 (by decide) (fun hc => ?_) (fun hc => ?_)
    · have q7 : y6.toInt ≠ 1 := z_ne rfl (by decide) hc
      refine lv_bipush (v := (-9)) hx hb dX6_choose_32 (by decide) ?_
      exact W.iret (v := (-9)) hx hb hr (fun t ht hW => ⟨(-9), rfl, ⟨by first | decide | omega, by first | decide | omega, (by have hl := hy3_2; rw [ey2, ey1] at hl; have hrg := z_lsR hl (by omega); have hb9 := hy6_2 (by omega) (by omega); exact ⟨_, hl, Or.inr ⟨Or.inr (z_btF hb9 (by omega)), by decide⟩⟩)⟩, ht⟩) (fun _ h => absurd h List.not_mem_nil) dX6_choose_34
    · have q8 : y6.toInt = 1 := z_eq rfl (by decide) hc
      refine lv_iload hx hb dX6_choose_27 (lv_at hl 0 rfl) ?_
      refine lv_goto (tgt := 34) hx hb dX6_choose_29 (by decide) ?_
      exact W.iret (v := y3) hx hb hr (fun t ht hW => ⟨y3, rfl, ⟨by first | decide | omega, by first | decide | omega, (by have hl := hy3_2; rw [ey2, ey1] at hl; have hrg := z_lsR hl (by omega); have hb9 := hy6_2 (by omega) (by omega); exact ⟨_, hl, Or.inl ⟨by omega, z_btT hb9 (by omega), rfl⟩⟩)⟩, ht⟩) (fun _ h => absurd h List.not_mem_nil) dX6_choose_34
