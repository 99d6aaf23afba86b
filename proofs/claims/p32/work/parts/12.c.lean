set_option maxRecDepth 20000 in
theorem edX7_wordsToMend_0 : decode cX7_wordsToMend 0 = .ok (.iload_n 1, 1) ∧ decode cX7_wordsToMend 1 = .ok (.iconst 1, 1) ∧ decode cX7_wordsToMend 2 = .ok (.if_icmp .lt 11, 3) ∧ decode cX7_wordsToMend 5 = .ok (.iload_n 1, 1) ∧ decode cX7_wordsToMend 6 = .ok (.aload_n 0, 1) ∧ decode cX7_wordsToMend 7 = .ok (.getfield 43, 3) ∧ decode cX7_wordsToMend 10 = .ok (.if_icmp .lt 5, 3) ∧ decode cX7_wordsToMend 13 = .ok (.iconst 0, 1) ∧ decode cX7_wordsToMend 14 = .ok (.ireturn, 1) ∧ decode cX7_wordsToMend 15 = .ok (.aload_n 0, 1) ∧ decode cX7_wordsToMend 16 = .ok (.getfield 37, 3) ∧ decode cX7_wordsToMend 19 = .ok (.iload_n 1, 1) := by decide +kernel
theorem dX7_wordsToMend_0 : decode cX7_wordsToMend 0 = .ok (.iload_n 1, 1) := edX7_wordsToMend_0.1
theorem dX7_wordsToMend_1 : decode cX7_wordsToMend 1 = .ok (.iconst 1, 1) := edX7_wordsToMend_0.2.1
theorem dX7_wordsToMend_2 : decode cX7_wordsToMend 2 = .ok (.if_icmp .lt 11, 3) := edX7_wordsToMend_0.2.2.1
theorem dX7_wordsToMend_5 : decode cX7_wordsToMend 5 = .ok (.iload_n 1, 1) := edX7_wordsToMend_0.2.2.2.1
theorem dX7_wordsToMend_6 : decode cX7_wordsToMend 6 = .ok (.aload_n 0, 1) := edX7_wordsToMend_0.2.2.2.2.1
theorem dX7_wordsToMend_7 : decode cX7_wordsToMend 7 = .ok (.getfield 43, 3) := edX7_wordsToMend_0.2.2.2.2.2.1
theorem dX7_wordsToMend_10 : decode cX7_wordsToMend 10 = .ok (.if_icmp .lt 5, 3) := edX7_wordsToMend_0.2.2.2.2.2.2.1
theorem dX7_wordsToMend_13 : decode cX7_wordsToMend 13 = .ok (.iconst 0, 1) := edX7_wordsToMend_0.2.2.2.2.2.2.2.1
theorem dX7_wordsToMend_14 : decode cX7_wordsToMend 14 = .ok (.ireturn, 1) := edX7_wordsToMend_0.2.2.2.2.2.2.2.2.1
theorem dX7_wordsToMend_15 : decode cX7_wordsToMend 15 = .ok (.aload_n 0, 1) := edX7_wordsToMend_0.2.2.2.2.2.2.2.2.2.1
theorem dX7_wordsToMend_16 : decode cX7_wordsToMend 16 = .ok (.getfield 37, 3) := edX7_wordsToMend_0.2.2.2.2.2.2.2.2.2.2.1
theorem dX7_wordsToMend_19 : decode cX7_wordsToMend 19 = .ok (.iload_n 1, 1) := edX7_wordsToMend_0.2.2.2.2.2.2.2.2.2.2.2
set_option maxRecDepth 20000 in
theorem edX7_wordsToMend_20 : decode cX7_wordsToMend 20 = .ok (.iaload, 1) ∧ decode cX7_wordsToMend 21 = .ok (.aload_n 0, 1) ∧ decode cX7_wordsToMend 22 = .ok (.getfield 34, 3) ∧ decode cX7_wordsToMend 25 = .ok (.iload_n 1, 1) ∧ decode cX7_wordsToMend 26 = .ok (.iconst 1, 1) ∧ decode cX7_wordsToMend 27 = .ok (.isub, 1) ∧ decode cX7_wordsToMend 28 = .ok (.iaload, 1) ∧ decode cX7_wordsToMend 29 = .ok (.invokestatic 103, 3) ∧ decode cX7_wordsToMend 32 = .ok (.istore_n 2, 1) ∧ decode cX7_wordsToMend 33 = .ok (.aload_n 0, 1) ∧ decode cX7_wordsToMend 34 = .ok (.getfield 37, 3) ∧ decode cX7_wordsToMend 37 = .ok (.iload_n 1, 1) := by decide +kernel
theorem dX7_wordsToMend_20 : decode cX7_wordsToMend 20 = .ok (.iaload, 1) := edX7_wordsToMend_20.1
theorem dX7_wordsToMend_21 : decode cX7_wordsToMend 21 = .ok (.aload_n 0, 1) := edX7_wordsToMend_20.2.1
theorem dX7_wordsToMend_22 : decode cX7_wordsToMend 22 = .ok (.getfield 34, 3) := edX7_wordsToMend_20.2.2.1
theorem dX7_wordsToMend_25 : decode cX7_wordsToMend 25 = .ok (.iload_n 1, 1) := edX7_wordsToMend_20.2.2.2.1
theorem dX7_wordsToMend_26 : decode cX7_wordsToMend 26 = .ok (.iconst 1, 1) := edX7_wordsToMend_20.2.2.2.2.1
theorem dX7_wordsToMend_27 : decode cX7_wordsToMend 27 = .ok (.isub, 1) := edX7_wordsToMend_20.2.2.2.2.2.1
theorem dX7_wordsToMend_28 : decode cX7_wordsToMend 28 = .ok (.iaload, 1) := edX7_wordsToMend_20.2.2.2.2.2.2.1
theorem dX7_wordsToMend_29 : decode cX7_wordsToMend 29 = .ok (.invokestatic 103, 3) := edX7_wordsToMend_20.2.2.2.2.2.2.2.1
theorem dX7_wordsToMend_32 : decode cX7_wordsToMend 32 = .ok (.istore_n 2, 1) := edX7_wordsToMend_20.2.2.2.2.2.2.2.2.1
theorem dX7_wordsToMend_33 : decode cX7_wordsToMend 33 = .ok (.aload_n 0, 1) := edX7_wordsToMend_20.2.2.2.2.2.2.2.2.2.1
theorem dX7_wordsToMend_34 : decode cX7_wordsToMend 34 = .ok (.getfield 37, 3) := edX7_wordsToMend_20.2.2.2.2.2.2.2.2.2.2.1
theorem dX7_wordsToMend_37 : decode cX7_wordsToMend 37 = .ok (.iload_n 1, 1) := edX7_wordsToMend_20.2.2.2.2.2.2.2.2.2.2.2
set_option maxRecDepth 20000 in
theorem edX7_wordsToMend_38 : decode cX7_wordsToMend 38 = .ok (.iaload, 1) ∧ decode cX7_wordsToMend 39 = .ok (.istore_n 3, 1) ∧ decode cX7_wordsToMend 40 = .ok (.iload_n 3, 1) ∧ decode cX7_wordsToMend 41 = .ok (.iload_n 2, 1) ∧ decode cX7_wordsToMend 42 = .ok (.if_icmp .gt 27, 3) ∧ decode cX7_wordsToMend 45 = .ok (.aload_n 0, 1) ∧ decode cX7_wordsToMend 46 = .ok (.iload_n 1, 1) ∧ decode cX7_wordsToMend 47 = .ok (.iload_n 3, 1) ∧ decode cX7_wordsToMend 48 = .ok (.invokevirtual 106, 3) ∧ decode cX7_wordsToMend 51 = .ok (.ifCond .eq 12, 3) ∧ decode cX7_wordsToMend 54 = .ok (.iload_n 3, 1) ∧ decode cX7_wordsToMend 55 = .ok (.aload_n 0, 1) := by decide +kernel
theorem dX7_wordsToMend_38 : decode cX7_wordsToMend 38 = .ok (.iaload, 1) := edX7_wordsToMend_38.1
theorem dX7_wordsToMend_39 : decode cX7_wordsToMend 39 = .ok (.istore_n 3, 1) := edX7_wordsToMend_38.2.1
theorem dX7_wordsToMend_40 : decode cX7_wordsToMend 40 = .ok (.iload_n 3, 1) := edX7_wordsToMend_38.2.2.1
theorem dX7_wordsToMend_41 : decode cX7_wordsToMend 41 = .ok (.iload_n 2, 1) := edX7_wordsToMend_38.2.2.2.1
theorem dX7_wordsToMend_42 : decode cX7_wordsToMend 42 = .ok (.if_icmp .gt 27, 3) := edX7_wordsToMend_38.2.2.2.2.1
theorem dX7_wordsToMend_45 : decode cX7_wordsToMend 45 = .ok (.aload_n 0, 1) := edX7_wordsToMend_38.2.2.2.2.2.1
theorem dX7_wordsToMend_46 : decode cX7_wordsToMend 46 = .ok (.iload_n 1, 1) := edX7_wordsToMend_38.2.2.2.2.2.2.1
theorem dX7_wordsToMend_47 : decode cX7_wordsToMend 47 = .ok (.iload_n 3, 1) := edX7_wordsToMend_38.2.2.2.2.2.2.2.1
theorem dX7_wordsToMend_48 : decode cX7_wordsToMend 48 = .ok (.invokevirtual 106, 3) := edX7_wordsToMend_38.2.2.2.2.2.2.2.2.1
theorem dX7_wordsToMend_51 : decode cX7_wordsToMend 51 = .ok (.ifCond .eq 12, 3) := edX7_wordsToMend_38.2.2.2.2.2.2.2.2.2.1
theorem dX7_wordsToMend_54 : decode cX7_wordsToMend 54 = .ok (.iload_n 3, 1) := edX7_wordsToMend_38.2.2.2.2.2.2.2.2.2.2.1
theorem dX7_wordsToMend_55 : decode cX7_wordsToMend 55 = .ok (.aload_n 0, 1) := edX7_wordsToMend_38.2.2.2.2.2.2.2.2.2.2.2
set_option maxRecDepth 20000 in
theorem edX7_wordsToMend_56 : decode cX7_wordsToMend 56 = .ok (.getfield 37, 3) ∧ decode cX7_wordsToMend 59 = .ok (.iload_n 1, 1) ∧ decode cX7_wordsToMend 60 = .ok (.iaload, 1) ∧ decode cX7_wordsToMend 61 = .ok (.isub, 1) ∧ decode cX7_wordsToMend 62 = .ok (.ireturn, 1) ∧ decode cX7_wordsToMend 63 = .ok (.iinc 3 1, 3) ∧ decode cX7_wordsToMend 66 = .ok (.goto (-26), 3) ∧ decode cX7_wordsToMend 69 = .ok (.bipush (-9), 2) ∧ decode cX7_wordsToMend 71 = .ok (.ireturn, 1) := by decide +kernel
theorem dX7_wordsToMend_56 : decode cX7_wordsToMend 56 = .ok (.getfield 37, 3) := edX7_wordsToMend_56.1
theorem dX7_wordsToMend_59 : decode cX7_wordsToMend 59 = .ok (.iload_n 1, 1) := edX7_wordsToMend_56.2.1
theorem dX7_wordsToMend_60 : decode cX7_wordsToMend 60 = .ok (.iaload, 1) := edX7_wordsToMend_56.2.2.1
theorem dX7_wordsToMend_61 : decode cX7_wordsToMend 61 = .ok (.isub, 1) := edX7_wordsToMend_56.2.2.2.1
theorem dX7_wordsToMend_62 : decode cX7_wordsToMend 62 = .ok (.ireturn, 1) := edX7_wordsToMend_56.2.2.2.2.1
theorem dX7_wordsToMend_63 : decode cX7_wordsToMend 63 = .ok (.iinc 3 1, 3) := edX7_wordsToMend_56.2.2.2.2.2.1
theorem dX7_wordsToMend_66 : decode cX7_wordsToMend 66 = .ok (.goto (-26), 3) := edX7_wordsToMend_56.2.2.2.2.2.2.1
theorem dX7_wordsToMend_69 : decode cX7_wordsToMend 69 = .ok (.bipush (-9), 2) := edX7_wordsToMend_56.2.2.2.2.2.2.2.1
theorem dX7_wordsToMend_71 : decode cX7_wordsToMend 71 = .ok (.ireturn, 1) := edX7_wordsToMend_56.2.2.2.2.2.2.2.2
noncomputable def voX7_wordsToMend : List Cond := [.fieldLink RX7 43 "EachOnHisCue$Play" "lines" "I", .fieldLink RX7 37 "EachOnHisCue$Play" "cues" "[I", .fieldLink RX7 34 "EachOnHisCue$Play" "sizes" "[I", .methodLink RX7 103 Lib.Math.max.name, .static Lib.Math.max.name, .initialized "java/lang/Math", .code Lib.Math.max.name Lib.Math.max.code 2 (some .int), .methodLink RX7 106 yX7_isCuedByAheadAlone, .instanceMethod yX7_isCuedByAheadAlone, .selects RX7 yX7_isCuedByAheadAlone yX7_isCuedByAheadAlone, .initialized RX7]
noncomputable def vsX7_wordsToMend : List Cond := .code yX7_wordsToMend cX7_wordsToMend 4 (some .int) :: (voX7_wordsToMend ++ (vsX7_isCuedByAheadAlone ++ (wsX70)))
theorem zgX7_wordsToMend : zGd vsX7_wordsToMend := z_gdC rfl (z_gdA (z_gdO (by decide +kernel) : zGd voX7_wordsToMend) (z_gdA zgX7_isCuedByAheadAlone (zgX7)))
theorem in_X7_wordsToMend_X7 : ∀ w ∈ wsX70, w ∈ vsX7_wordsToMend := fun _ h => List.mem_cons_of_mem _ (List.mem_append_right _ (List.mem_append_right _ (h)))
theorem gw_X7_wordsToMend_X7_isCuedByAheadAlone : GoodIn vsX7_wordsToMend vsX7_isCuedByAheadAlone := z_gdI (fun _ h => List.mem_cons_of_mem _ (List.mem_append_right _ (List.mem_append_left _ h))) zgX7_isCuedByAheadAlone
set_option maxRecDepth 20000 in
theorem gv_X7_wordsToMend_X7_isCuedByAheadAlone_106 : GoodIn vsX7_wordsToMend (wsV RX7 106 RX7 yX7_isCuedByAheadAlone vsX7_isCuedByAheadAlone) := goodIn_app (goodIn_of _ (by decide +kernel)) gw_X7_wordsToMend_X7_isCuedByAheadAlone
set_option maxHeartbeats 4000000 in
set_option maxRecDepth 100000 in
theorem rX7_wordsToMend (l : Launch) (dC : Nat → ClassId) (dI : Nat → Nat → Nat) (cI cQ : ClassId) (ha0 ha0_5 ha0_6 ha0_7 ha0_0 ha0_1 ha0_2 ha0_4 ha0_11 : Nat) (fa0_5 : Nat → Int32) (fa0_6 : Nat → Int32) (hBfa0_6 : ∀ k, 0 ≤ (fa0_6 k).toInt ∧ (fa0_6 k).toInt ≤ 4) (fa0_7 : Nat → Int32) (hBfa0_7 : ∀ k, (-48) ≤ (fa0_7 k).toInt ∧ (fa0_7 k).toInt ≤ 207) (ia0_3 : Int32) (hia0_3l : 0 ≤ ia0_3.toInt) (hia0_3h : ia0_3.toInt ≤ 5) (ia0_8 : Int32) (ia0_9 : Int32) (hia0_9l : 0 ≤ ia0_9.toInt) (hia0_9h : ia0_9.toInt ≤ 12) (ia0_10 : Int32) (p1 : Int32) : Met l yX7_wordsToMend vsX7_wordsToMend ({ frames := 3, cells := 0, slots := 0, locals := 70 }) (va_Pc [.ref ha0, .int p1] (zRB dC dI cI cQ [(ha0_5, .inl (cI, 12, .inl fa0_5)), (ha0_6, .inl (cI, 12, .inl fa0_6)), (ha0_7, .inl (cI, 12, .inl fa0_7)), (ha0, .inr (7, [.ref ha0_0, .ref ha0_1, .ref ha0_2, .int ia0_3, .ref ha0_4, .ref ha0_5, .ref ha0_6, .ref ha0_7, .int ia0_8, .int ia0_9, .int ia0_10, .ref ha0_11]))])) (vp_Si (fun r => (-255) ≤ r.toInt ∧ r.toInt ≤ 255 ∧ (zMdP ia0_9.toInt fa0_5 fa0_6 fa0_7 p1.toInt r.toInt))) 0 0 (fun _ => False) := by
  refine Met.ofW (cc := cX7_wordsToMend) (maxL := 4) (ret := (some .int)) (by decide) rfl ?_
  intro p e s m args below meth c s₁ B hml hv
  obtain ⟨rfl, hP, hZ⟩ := hv
  obtain ⟨hK, hAO, hN⟩ := id hZ
  have hx := B.exec
  have hb := B.bytes
  have hr := B.returns
  have hts := atoms_spec (ws := vsX7_wordsToMend) B.pre
  have hown : s.vm.findClass RX7 = some m.cls := findClass_of_methodNamed B.named
  have hlocks := B.notSynchronized
  have hp1l := z_lo p1
  have hp1h := z_hi p1
  have hl := lv_entry ([.ref ha0, .int p1]) (n := 4) (Nat.le_of_ble_eq_true rfl)
  rw [lg_entry_eq]
  generalize (lg_sl ([.ref ha0, .int p1]) ++ List.replicate (4 - (lg_sl ([.ref ha0, .int p1])).length) Slot.unset).toArray = ls at hl ⊢
  have hl : lv_has ls 4 [(0, .ref ha0), (1, .int p1)] := hl
  refine lv_iload_n hx hb dX7_wordsToMend_0 rfl (lv_at hl 1 rfl) ?_
  refine lv_iconst (v := 1) hx hb dX7_wordsToMend_1 (by decide) ?_
  refine lv_icmp_lt (tgt := 13) hx hb dX7_wordsToMend_2 (by decide) (fun hc => ?_) (fun hc => ?_)
  · have q1 : p1.toInt < 1 := z_lt rfl (by decide) hc
    refine lv_iconst (v := 0) hx hb dX7_wordsToMend_13 (by decide) ?_
    exact W.iret (v := 0) hx hb hr (fun t ht hW => ⟨0, rfl, ⟨by first | decide | omega, by first | decide | omega, (by exact Or.inl ⟨by omega, by decide⟩)⟩, ht⟩) (fun _ h => absurd h List.not_mem_nil) dX7_wordsToMend_14
  · have q2 : 1 ≤ p1.toInt := z_nlt rfl (by decide) hc
    refine lv_iload_n hx hb dX7_wordsToMend_5 rfl (lv_at hl 1 rfl) ?_
    refine lv_aload_n hx hb dX7_wordsToMend_6 rfl (lv_at hl 0 rfl) ?_
    refine va_get (D := (dC, dI)) (ci := 7) (v := .int ia0_9) (C := RX7) (T := TX7) (N := 12) hx hb hts in_X7_wordsToMend_X7 hown hK hP 3 rfl rfl 9 (by decide) (hts (.fieldLink RX7 43 "EachOnHisCue$Play" "lines" "I") (by decide +kernel)) (fun _ h9 => h9) rfl dX7_wordsToMend_7 ?_
    refine lv_icmp_lt (tgt := 15) hx hb dX7_wordsToMend_10 (by decide) (fun hc => ?_) (fun hc => ?_)
    · have q3 : p1.toInt < ia0_9.toInt := z_lt rfl rfl hc
      refine lv_aload_n hx hb dX7_wordsToMend_15 rfl (lv_at hl 0 rfl) ?_
      refine va_get (D := (dC, dI)) (ci := 7) (v := .ref ha0_7) (C := RX7) (T := TX7) (N := 12) hx hb hts in_X7_wordsToMend_X7 hown hK hP 3 rfl rfl 7 (by decide) (hts (.fieldLink RX7 37 "EachOnHisCue$Play" "cues" "[I") (by decide +kernel)) (fun _ h9 => h9) rfl dX7_wordsToMend_16 ?_
      refine lv_iload_n hx hb dX7_wordsToMend_19 rfl (lv_at hl 1 rfl) ?_
      refine va_iald hx hb hK hP 2 0 rfl rfl (z_in (by omega) (by omega)) dX7_wordsToMend_20 ?_
      refine lv_topi (fun y4 ey4 => ?_)
      have gy4 : y4.toInt = (fa0_7 (p1 : Int32).toNatClampNeg).toInt := by rw [ey4]
      have hy4 : (-48) ≤ y4.toInt ∧ y4.toInt ≤ 207 := by rw [ey4]; exact hBfa0_7 _
      obtain ⟨hy4, hy4_⟩ := hy4
      refine lv_aload_n hx hb dX7_wordsToMend_21 rfl (lv_at hl 0 rfl) ?_
      refine va_get (D := (dC, dI)) (ci := 7) (v := .ref ha0_6) (C := RX7) (T := TX7) (N := 12) hx hb hts in_X7_wordsToMend_X7 hown hK hP 3 rfl rfl 6 (by decide) (hts (.fieldLink RX7 34 "EachOnHisCue$Play" "sizes" "[I") (by decide +kernel)) (fun _ h9 => h9) rfl dX7_wordsToMend_22 ?_
      refine lv_iload_n hx hb dX7_wordsToMend_25 rfl (lv_at hl 1 rfl) ?_
      refine lv_iconst (v := 1) hx hb dX7_wordsToMend_26 (by decide) ?_
      refine lv_isub hx hb dX7_wordsToMend_27 ?_
      refine lv_topi (fun y5 ey5 => ?_)
      have hy5 : y5.toInt = p1.toInt - 1 := by rw [ey5]; exact z_sub rfl (by decide) (by omega) (by omega)
      refine va_iald hx hb hK hP 1 0 rfl rfl (z_in (by omega) (by omega)) dX7_wordsToMend_28 ?_
      refine lv_topi (fun y6 ey6 => ?_)
      have gy6 : y6.toInt = (fa0_6 (y5 : Int32).toNatClampNeg).toInt := by rw [ey6]
      have hy6 : 0 ≤ y6.toInt ∧ y6.toInt ≤ 4 := by rw [ey6]; exact hBfa0_6 _
      obtain ⟨hy6, hy6_⟩ := hy6
      refine va_mmax hx hb (hml.trans hl.1.symm) hown (hts (.methodLink RX7 103 Lib.Math.max.name) (by decide +kernel)) (hts (.static Lib.Math.max.name) (by decide +kernel)) (hts (.initialized "java/lang/Math") (by decide +kernel)) (hts (.code Lib.Math.max.name Lib.Math.max.code 2 (some .int)) (by decide +kernel)) (Nat.le_of_ble_eq_true rfl) (Nat.le_of_ble_eq_true rfl) (Nat.le_of_ble_eq_true rfl) (Nat.le_of_ble_eq_true rfl) dX7_wordsToMend_29 ?_
      refine lv_topi (fun y7 ey7 => ?_)
      obtain ⟨hy7_0, hy7_1, hy7_2⟩ : y7.toInt ≥ y4.toInt ∧ y7.toInt ≥ y6.toInt ∧ (y7.toInt = y4.toInt ∨ y7.toInt = y6.toInt) := by rw [ey7]; exact z_max rfl rfl
      refine lv_istore_n (lv' := [(2, .int y7), (0, .ref ha0), (1, .int p1)]) hx hb dX7_wordsToMend_32 rfl hl (by decide) rfl (fun ls hl => ?_)
      refine lv_aload_n hx hb dX7_wordsToMend_33 rfl (lv_at hl 1 rfl) ?_
      refine va_get (D := (dC, dI)) (ci := 7) (v := .ref ha0_7) (C := RX7) (T := TX7) (N := 12) hx hb hts in_X7_wordsToMend_X7 hown hK hP 3 rfl rfl 7 (by decide) (hts (.fieldLink RX7 37 "EachOnHisCue$Play" "cues" "[I") (by decide +kernel)) (fun _ h9 => h9) rfl dX7_wordsToMend_34 ?_
      refine lv_iload_n hx hb dX7_wordsToMend_37 rfl (lv_at hl 2 rfl) ?_
      refine va_iald hx hb hK hP 2 0 rfl rfl (z_in (by omega) (by omega)) dX7_wordsToMend_38 ?_
      refine lv_topi (fun y8 ey8 => ?_)
      obtain rfl : y4 = y8 := ey4.trans ey8.symm
      refine lv_istore_n (lv' := [(3, .int y4), (2, .int y7), (0, .ref ha0), (1, .int p1)]) hx hb dX7_wordsToMend_39 rfl hl (by decide) rfl (fun ls hl => ?_)
      have hL34 : ∀ (n : Nat) (v9 : Int32) (ls : Array Slot), (-48) ≤ v9.toInt → v9.toInt ≤ 208 → (zMdI ia0_9.toInt fa0_5 fa0_6 p1.toInt (fa0_7 p1.toNatClampNeg).toInt (v9 : Int32).toInt) → (208 - v9.toInt).toNat < n → lv_has ls 4 [(3, .int v9), (2, .int y7), (0, .ref ha0), (1, .int p1)] → W p l e (headSpec vsX7_wordsToMend ({ frames := 3, cells := 0, slots := 0, locals := 70 })).room s m ([.ref ha0, .int p1] : List Value).toArray below meth c s.heap [] 0 0 (MQ below (vp_Si (fun r => (-255) ≤ r.toInt ∧ r.toInt ≤ 255 ∧ (zMdP ia0_9.toInt fa0_5 fa0_6 fa0_7 p1.toInt r.toInt))) ([.ref ha0, .int p1] : List Value).toArray s 0 0 (fun _ => False)) (F0 m 40 ls []) := by
        intro n
        induction n with
        | zero =>
          intro v9 ls hi35_0 hi35_1 hi35_x0 hi35_m hl
          exact absurd hi35_m (Nat.not_lt_zero _)
        | succ n ih =>
          intro v9 ls hi35_0 hi35_1 hi35_x0 hi35_m hl
          have ih36 := ih
          refine lv_iload_n hx hb dX7_wordsToMend_40 rfl (lv_at hl 0 rfl) ?_
          refine lv_iload_n hx hb dX7_wordsToMend_41 rfl (lv_at hl 1 rfl) ?_
          refine lv_icmp_gt (tgt := 69) hx hb dX7_wordsToMend_42 (by decide) (fun hc => ?_) (fun hc => ?_)
          · have q37 : y7.toInt < v9.toInt := z_lt rfl rfl hc
            refine lv_bipush (v := (-9)) hx hb dX7_wordsToMend_69 (by decide) ?_
            exact W.iret (v := (-9)) hx hb hr (fun t ht hW => ⟨(-9), rfl, ⟨by first | decide | omega, by first | decide | omega, (by exact z_mdN (c := (fa0_7 p1.toNatClampNeg).toInt) (k := (v9 : Int32).toInt) (g := (y7 : Int32).toInt) (by omega) (by omega) (by assumption) rfl (by decide) (gy6.trans (by rw [z_clN (show (y5 : Int32).toInt = p1.toInt - 1 by omega)])) (by omega) (by omega) (by omega))⟩, ht⟩) (fun _ h => absurd h List.not_mem_nil) dX7_wordsToMend_71
          · have q38 : v9.toInt ≤ y7.toInt := z_nlt rfl rfl hc
            refine lv_aload_n hx hb dX7_wordsToMend_45 rfl (lv_at hl 2 rfl) ?_
            refine lv_iload_n hx hb dX7_wordsToMend_46 rfl (lv_at hl 3 rfl) ?_
            refine lv_iload_n hx hb dX7_wordsToMend_47 rfl (lv_at hl 0 rfl) ?_
            refine z_rdi (va_runV (As := [.int p1, .int v9]) (rest := []) ⟨hx, hb, hml, hown, hts⟩ (rX7_isCuedByAheadAlone l dC dI cI cQ ha0 ha0_5 ha0_6 ha0_0 ha0_1 ha0_2 ha0_4 ha0_7 ha0_11 fa0_5 fa0_6 hBfa0_6 ia0_3 hia0_3l hia0_3h ia0_8 ia0_9 hia0_9l hia0_9h ia0_10 p1 (by first | decide | omega) (by first | decide | omega) v9) (cwV 2 hts gv_X7_wordsToMend_X7_isCuedByAheadAlone_106 rfl rfl rfl (by decide +kernel) ⟨Nat.le_of_ble_eq_true rfl, Nat.le_of_ble_eq_true rfl⟩) ⟨z_blindR, va_recv hK hP (ci := 7) (q0 := 3) rfl rfl, z_preR hZ hP [0, 1, 3] rfl⟩ rfl rfl hl.1 rfl (lv_room (Nat.le_of_ble_eq_true rfl)) dX7_wordsToMend_48 ⟨Nat.le_of_ble_eq_true rfl, Nat.le_of_ble_eq_true rfl⟩) (fun y39 hy39 => ?_)
            obtain ⟨hy39_0, hy39_1, hy39_2⟩ := hy39
            refine lv_if_eq (tgt := 63) hx hb dX7_wordsToMend_51 (by decide) (fun hc => ?_) (fun hc => ?_)
            · have q40 : y39.toInt = 0 := z_eq rfl (by decide) hc
              obtain ⟨y41, ey41⟩ : ∃ y : Int32, y = v9 + 1 := ⟨_, rfl⟩
              refine lv_iinc (v := y41) (lv' := [(3, .int y41), (2, .int y7), (0, .ref ha0), (1, .int p1)]) hx hb dX7_wordsToMend_63 hl (k := 0) rfl (by rw [ey41]; rfl) (by decide) rfl (fun ls hl => ?_)
              have hy41 : y41.toInt = v9.toInt + 1 := by rw [ey41]; exact z_add rfl (by decide) (by omega) (by omega)
              refine lv_goto (tgt := 40) hx hb dX7_wordsToMend_66 (by decide) ?_
              exact ih36 y41 ls (by first | decide | omega) (by first | decide | omega) (z_mdIS (by assumption) hy39_2 (by omega) (by omega)) (by omega) (lv_sub hl [0, 1, 2, 3] rfl)
            · have q42 : y39.toInt ≠ 0 := z_ne rfl (by decide) hc
              refine lv_iload_n hx hb dX7_wordsToMend_54 rfl (lv_at hl 0 rfl) ?_
              refine lv_aload_n hx hb dX7_wordsToMend_55 rfl (lv_at hl 2 rfl) ?_
              refine va_get (D := (dC, dI)) (ci := 7) (v := .ref ha0_7) (C := RX7) (T := TX7) (N := 12) hx hb hts in_X7_wordsToMend_X7 hown hK hP 3 rfl rfl 7 (by decide) (hts (.fieldLink RX7 37 "EachOnHisCue$Play" "cues" "[I") (by decide +kernel)) (fun _ h9 => h9) rfl dX7_wordsToMend_56 ?_
              refine lv_iload_n hx hb dX7_wordsToMend_59 rfl (lv_at hl 3 rfl) ?_
              refine va_iald hx hb hK hP 2 0 rfl rfl (z_in (by omega) (by omega)) dX7_wordsToMend_60 ?_
              refine lv_topi (fun y43 ey43 => ?_)
              obtain rfl : y4 = y43 := ey4.trans ey43.symm
              refine lv_isub hx hb dX7_wordsToMend_61 ?_
              refine lv_topi (fun y44 ey44 => ?_)
              have hy44 : y44.toInt = v9.toInt - y4.toInt := by rw [ey44]; exact z_sub rfl rfl (by omega) (by omega)
              exact W.iret (v := y44) hx hb hr (fun t ht hW => ⟨y44, rfl, ⟨by first | decide | omega, by first | decide | omega, (by exact z_mdT (c := (fa0_7 p1.toNatClampNeg).toInt) (k := (v9 : Int32).toInt) (g := (y7 : Int32).toInt) (by omega) (by omega) (by assumption) rfl hy39_2 (by omega) (by omega) (gy6.trans (by rw [z_clN (show (y5 : Int32).toInt = p1.toInt - 1 by omega)])) (by omega) (by omega))⟩, ht⟩) (fun _ h => absurd h List.not_mem_nil) dX7_wordsToMend_62
      exact hL34 ((208 - y4.toInt).toNat + 1) y4 ls hy4 (Int.le_trans hy4_ (by decide)) (z_mdI0 gy4) (by omega) hl
    · have q45 : ia0_9.toInt ≤ p1.toInt := z_nlt rfl rfl hc
      refine lv_iconst (v := 0) hx hb dX7_wordsToMend_13 (by decide) ?_
      exact W.iret (v := 0) hx hb hr (fun t ht hW => ⟨0, rfl, ⟨by first | decide | omega, by first | decide | omega, (by exact Or.inl ⟨by omega, by decide⟩)⟩, ht⟩) (fun _ h => absurd h List.not_mem_nil) dX7_wordsToMend_14
set_option maxRecDepth 20000 in
theorem edX7_onStage_0 : decode cX7_onStage 0 = .ok (.iconst 0, 1) ∧ decode cX7_onStage 1 = .ok (.istore_n 2, 1) ∧ decode cX7_onStage 2 = .ok (.iconst 0, 1) ∧ decode cX7_onStage 3 = .ok (.istore_n 3, 1) ∧ decode cX7_onStage 4 = .ok (.iload_n 3, 1) ∧ decode cX7_onStage 5 = .ok (.aload_n 0, 1) ∧ decode cX7_onStage 6 = .ok (.getfield 24, 3) ∧ decode cX7_onStage 9 = .ok (.if_icmp .ge 47, 3) ∧ decode cX7_onStage 12 = .ok (.aload_n 0, 1) ∧ decode cX7_onStage 13 = .ok (.getfield 21, 3) ∧ decode cX7_onStage 16 = .ok (.iload_n 3, 1) ∧ decode cX7_onStage 17 = .ok (.iaload, 1) := by decide +kernel
theorem dX7_onStage_0 : decode cX7_onStage 0 = .ok (.iconst 0, 1) := edX7_onStage_0.1
theorem dX7_onStage_1 : decode cX7_onStage 1 = .ok (.istore_n 2, 1) := edX7_onStage_0.2.1
theorem dX7_onStage_2 : decode cX7_onStage 2 = .ok (.iconst 0, 1) := edX7_onStage_0.2.2.1
theorem dX7_onStage_3 : decode cX7_onStage 3 = .ok (.istore_n 3, 1) := edX7_onStage_0.2.2.2.1
theorem dX7_onStage_4 : decode cX7_onStage 4 = .ok (.iload_n 3, 1) := edX7_onStage_0.2.2.2.2.1
theorem dX7_onStage_5 : decode cX7_onStage 5 = .ok (.aload_n 0, 1) := edX7_onStage_0.2.2.2.2.2.1
theorem dX7_onStage_6 : decode cX7_onStage 6 = .ok (.getfield 24, 3) := edX7_onStage_0.2.2.2.2.2.2.1
theorem dX7_onStage_9 : decode cX7_onStage 9 = .ok (.if_icmp .ge 47, 3) := edX7_onStage_0.2.2.2.2.2.2.2.1
theorem dX7_onStage_12 : decode cX7_onStage 12 = .ok (.aload_n 0, 1) := edX7_onStage_0.2.2.2.2.2.2.2.2.1
theorem dX7_onStage_13 : decode cX7_onStage 13 = .ok (.getfield 21, 3) := edX7_onStage_0.2.2.2.2.2.2.2.2.2.1
theorem dX7_onStage_16 : decode cX7_onStage 16 = .ok (.iload_n 3, 1) := edX7_onStage_0.2.2.2.2.2.2.2.2.2.2.1
theorem dX7_onStage_17 : decode cX7_onStage 17 = .ok (.iaload, 1) := edX7_onStage_0.2.2.2.2.2.2.2.2.2.2.2
set_option maxRecDepth 20000 in
theorem edX7_onStage_18 : decode cX7_onStage 18 = .ok (.ifCond .eq 32, 3) ∧ decode cX7_onStage 21 = .ok (.aload_n 0, 1) ∧ decode cX7_onStage 22 = .ok (.getfield 21, 3) ∧ decode cX7_onStage 25 = .ok (.iload_n 3, 1) ∧ decode cX7_onStage 26 = .ok (.iaload, 1) ∧ decode cX7_onStage 27 = .ok (.invokestatic 110, 3) ∧ decode cX7_onStage 30 = .ok (.iload_n 1, 1) ∧ decode cX7_onStage 31 = .ok (.if_icmp .gt 19, 3) ∧ decode cX7_onStage 34 = .ok (.aload_n 0, 1) ∧ decode cX7_onStage 35 = .ok (.getfield 21, 3) ∧ decode cX7_onStage 38 = .ok (.iload_n 3, 1) ∧ decode cX7_onStage 39 = .ok (.iaload, 1) := by decide +kernel
theorem dX7_onStage_18 : decode cX7_onStage 18 = .ok (.ifCond .eq 32, 3) := edX7_onStage_18.1
theorem dX7_onStage_21 : decode cX7_onStage 21 = .ok (.aload_n 0, 1) := edX7_onStage_18.2.1
theorem dX7_onStage_22 : decode cX7_onStage 22 = .ok (.getfield 21, 3) := edX7_onStage_18.2.2.1
theorem dX7_onStage_25 : decode cX7_onStage 25 = .ok (.iload_n 3, 1) := edX7_onStage_18.2.2.2.1
theorem dX7_onStage_26 : decode cX7_onStage 26 = .ok (.iaload, 1) := edX7_onStage_18.2.2.2.2.1
theorem dX7_onStage_27 : decode cX7_onStage 27 = .ok (.invokestatic 110, 3) := edX7_onStage_18.2.2.2.2.2.1
theorem dX7_onStage_30 : decode cX7_onStage 30 = .ok (.iload_n 1, 1) := edX7_onStage_18.2.2.2.2.2.2.1
theorem dX7_onStage_31 : decode cX7_onStage 31 = .ok (.if_icmp .gt 19, 3) := edX7_onStage_18.2.2.2.2.2.2.2.1
theorem dX7_onStage_34 : decode cX7_onStage 34 = .ok (.aload_n 0, 1) := edX7_onStage_18.2.2.2.2.2.2.2.2.1
theorem dX7_onStage_35 : decode cX7_onStage 35 = .ok (.getfield 21, 3) := edX7_onStage_18.2.2.2.2.2.2.2.2.2.1
theorem dX7_onStage_38 : decode cX7_onStage 38 = .ok (.iload_n 3, 1) := edX7_onStage_18.2.2.2.2.2.2.2.2.2.2.1
theorem dX7_onStage_39 : decode cX7_onStage 39 = .ok (.iaload, 1) := edX7_onStage_18.2.2.2.2.2.2.2.2.2.2.2
set_option maxRecDepth 20000 in
theorem edX7_onStage_40 : decode cX7_onStage 40 = .ok (.invokestatic 113, 3) ∧ decode cX7_onStage 43 = .ok (.iload_n 1, 1) ∧ decode cX7_onStage 44 = .ok (.if_icmp .lt 6, 3) ∧ decode cX7_onStage 47 = .ok (.iinc 2 1, 3) ∧ decode cX7_onStage 50 = .ok (.iinc 3 1, 3) ∧ decode cX7_onStage 53 = .ok (.goto (-49), 3) ∧ decode cX7_onStage 56 = .ok (.iload_n 2, 1) ∧ decode cX7_onStage 57 = .ok (.ireturn, 1) := by decide +kernel
theorem dX7_onStage_40 : decode cX7_onStage 40 = .ok (.invokestatic 113, 3) := edX7_onStage_40.1
theorem dX7_onStage_43 : decode cX7_onStage 43 = .ok (.iload_n 1, 1) := edX7_onStage_40.2.1
theorem dX7_onStage_44 : decode cX7_onStage 44 = .ok (.if_icmp .lt 6, 3) := edX7_onStage_40.2.2.1
theorem dX7_onStage_47 : decode cX7_onStage 47 = .ok (.iinc 2 1, 3) := edX7_onStage_40.2.2.2.1
theorem dX7_onStage_50 : decode cX7_onStage 50 = .ok (.iinc 3 1, 3) := edX7_onStage_40.2.2.2.2.1
theorem dX7_onStage_53 : decode cX7_onStage 53 = .ok (.goto (-49), 3) := edX7_onStage_40.2.2.2.2.2.1
theorem dX7_onStage_56 : decode cX7_onStage 56 = .ok (.iload_n 2, 1) := edX7_onStage_40.2.2.2.2.2.2.1
theorem dX7_onStage_57 : decode cX7_onStage 57 = .ok (.ireturn, 1) := edX7_onStage_40.2.2.2.2.2.2.2
noncomputable def voX7_onStage : List Cond := [.fieldLink RX7 24 "EachOnHisCue$Play" "players" "I", .fieldLink RX7 21 "EachOnHisCue$Play" "own" "[I", .initialized RX11, .static yX11_leastOf, .static yX11_greatestOf]
noncomputable def vsX7_onStage : List Cond := .code yX7_onStage cX7_onStage 4 (some .int) :: (voX7_onStage ++ (vsX11_leastOf ++ (vsX11_greatestOf ++ (wsX70))))
theorem zgX7_onStage : zGd vsX7_onStage := z_gdC rfl (z_gdA (z_gdO (by decide +kernel) : zGd voX7_onStage) (z_gdA zgX11_leastOf (z_gdA zgX11_greatestOf (zgX7))))
theorem in_X7_onStage_X7 : ∀ w ∈ wsX70, w ∈ vsX7_onStage := fun _ h => List.mem_cons_of_mem _ (List.mem_append_right _ (List.mem_append_right _ (List.mem_append_right _ (h))))
theorem gw_X7_onStage_X11_leastOf : GoodIn vsX7_onStage vsX11_leastOf := z_gdI (fun _ h => List.mem_cons_of_mem _ (List.mem_append_right _ (List.mem_append_left _ h))) zgX11_leastOf
set_option maxRecDepth 20000 in
theorem gv_X7_onStage_X11_leastOf_110 : GoodIn vsX7_onStage (vsX11_leastOf) := gw_X7_onStage_X11_leastOf
theorem gw_X7_onStage_X11_greatestOf : GoodIn vsX7_onStage vsX11_greatestOf := z_gdI (fun _ h => List.mem_cons_of_mem _ (List.mem_append_right _ (List.mem_append_right _ (List.mem_append_left _ h)))) zgX11_greatestOf
set_option maxRecDepth 20000 in
theorem gv_X7_onStage_X11_greatestOf_113 : GoodIn vsX7_onStage (vsX11_greatestOf) := gw_X7_onStage_X11_greatestOf
set_option maxHeartbeats 4000000 in
set_option maxRecDepth 100000 in
theorem rX7_onStage (l : Launch) (dC : Nat → ClassId) (dI : Nat → Nat → Nat) (cI cQ : ClassId) (ha0 ha0_2 ha0_0 ha0_1 ha0_4 ha0_5 ha0_6 ha0_7 ha0_11 : Nat) (fa0_2 : Nat → Int32) (ia0_3 : Int32) (hia0_3l : 0 ≤ ia0_3.toInt) (hia0_3h : ia0_3.toInt ≤ 5) (ia0_8 : Int32) (ia0_9 : Int32) (hia0_9l : 0 ≤ ia0_9.toInt) (hia0_9h : ia0_9.toInt ≤ 12) (ia0_10 : Int32) (p1 : Int32) : Met l yX7_onStage vsX7_onStage ({ frames := 1, cells := 0, slots := 0, locals := 21 }) (va_Pc [.ref ha0, .int p1] (zRB dC dI cI cQ [(ha0_2, .inl (cI, 5, .inl fa0_2)), (ha0, .inr (7, [.ref ha0_0, .ref ha0_1, .ref ha0_2, .int ia0_3, .ref ha0_4, .ref ha0_5, .ref ha0_6, .ref ha0_7, .int ia0_8, .int ia0_9, .int ia0_10, .ref ha0_11]))])) (vp_Si (fun r => 0 ≤ r.toInt ∧ r.toInt ≤ 5 ∧ (zOnP ia0_3.toInt ia0_9.toInt fa0_2 p1.toInt r.toInt))) 0 0 (fun _ => False) := by
  refine Met.ofW (cc := cX7_onStage) (maxL := 4) (ret := (some .int)) (by decide) rfl ?_
  intro p e s m args below meth c s₁ B hml hv
  obtain ⟨rfl, hP, hZ⟩ := hv
  obtain ⟨hK, hAO, hN⟩ := id hZ
  have hx := B.exec
  have hb := B.bytes
  have hr := B.returns
  have hts := atoms_spec (ws := vsX7_onStage) B.pre
  have hown : s.vm.findClass RX7 = some m.cls := findClass_of_methodNamed B.named
  have hlocks := B.notSynchronized
  have hp1l := z_lo p1
  have hp1h := z_hi p1
  have hl := lv_entry ([.ref ha0, .int p1]) (n := 4) (Nat.le_of_ble_eq_true rfl)
  rw [lg_entry_eq]
  generalize (lg_sl ([.ref ha0, .int p1]) ++ List.replicate (4 - (lg_sl ([.ref ha0, .int p1])).length) Slot.unset).toArray = ls at hl ⊢
  have hl : lv_has ls 4 [(0, .ref ha0), (1, .int p1)] := hl
  refine lv_iconst (v := 0) hx hb dX7_onStage_0 (by decide) ?_
  refine lv_istore_n (lv' := [(2, .int 0), (0, .ref ha0), (1, .int p1)]) hx hb dX7_onStage_1 rfl hl (by decide) rfl (fun ls hl => ?_)
  refine lv_iconst (v := 0) hx hb dX7_onStage_2 (by decide) ?_
  refine lv_istore_n (lv' := [(3, .int 0), (2, .int 0), (0, .ref ha0), (1, .int p1)]) hx hb dX7_onStage_3 rfl hl (by decide) rfl (fun ls hl => ?_)
  have hL93 : ∀ (n : Nat) (v1 : Int32) (v2 : Int32) (ls : Array Slot), 0 ≤ v1.toInt → v1.toInt ≤ 5 → 0 ≤ v2.toInt → v2.toInt ≤ 5 → (zOnI ia0_3.toInt ia0_9.toInt fa0_2 p1.toInt (v2 : Int32).toInt (v1 : Int32).toInt) → ((v1 : Int32).toInt ≤ ia0_3.toInt) → ((v2 : Int32).toInt ≤ (v1 : Int32).toInt) → (5 - v1.toInt).toNat < n → lv_has ls 4 [(3, .int v1), (2, .int v2), (0, .ref ha0), (1, .int p1)] → W p l e (headSpec vsX7_onStage ({ frames := 1, cells := 0, slots := 0, locals := 21 })).room s m ([.ref ha0, .int p1] : List Value).toArray below meth c s.heap [] 0 0 (MQ below (vp_Si (fun r => 0 ≤ r.toInt ∧ r.toInt ≤ 5 ∧ (zOnP ia0_3.toInt ia0_9.toInt fa0_2 p1.toInt r.toInt))) ([.ref ha0, .int p1] : List Value).toArray s 0 0 (fun _ => False)) (F0 m 4 ls []) := by
    intro n
    induction n with
    | zero =>
      intro v1 v2 ls hi94_0 hi94_1 hi94_2 hi94_3 hi94_x0 hi94_x1 hi94_x2 hi94_m hl
      exact absurd hi94_m (Nat.not_lt_zero _)
    | succ n ih =>
      intro v1 v2 ls hi94_0 hi94_1 hi94_2 hi94_3 hi94_x0 hi94_x1 hi94_x2 hi94_m hl
      have ih95 := ih
      refine lv_iload_n hx hb dX7_onStage_4 rfl (lv_at hl 0 rfl) ?_
      refine lv_aload_n hx hb dX7_onStage_5 rfl (lv_at hl 2 rfl) ?_
      refine va_get (D := (dC, dI)) (ci := 7) (v := .int ia0_3) (C := RX7) (T := TX7) (N := 12) hx hb hts in_X7_onStage_X7 hown hK hP 1 rfl rfl 3 (by decide) (hts (.fieldLink RX7 24 "EachOnHisCue$Play" "players" "I") (by decide +kernel)) (fun _ h9 => h9) rfl dX7_onStage_6 ?_
      refine lv_icmp_ge (tgt := 56) hx hb dX7_onStage_9 (by decide) (fun hc => ?_) (fun hc => ?_)
      · have q96 : ia0_3.toInt ≤ v1.toInt := z_le rfl rfl hc
        refine lv_iload_n hx hb dX7_onStage_56 rfl (lv_at hl 1 rfl) ?_
        exact W.iret (v := v2) hx hb hr (fun t ht hW => ⟨v2, rfl, ⟨by first | decide | omega, by first | decide | omega, (by exact z_onIE (by assumption) (by omega))⟩, ht⟩) (fun _ h => absurd h List.not_mem_nil) dX7_onStage_57
      · have q97 : v1.toInt < ia0_3.toInt := z_nle rfl rfl hc
        refine lv_aload_n hx hb dX7_onStage_12 rfl (lv_at hl 2 rfl) ?_
        refine va_get (D := (dC, dI)) (ci := 7) (v := .ref ha0_2) (C := RX7) (T := TX7) (N := 12) hx hb hts in_X7_onStage_X7 hown hK hP 1 rfl rfl 2 (by decide) (hts (.fieldLink RX7 21 "EachOnHisCue$Play" "own" "[I") (by decide +kernel)) (fun _ h9 => h9) rfl dX7_onStage_13 ?_
        refine lv_iload_n hx hb dX7_onStage_16 rfl (lv_at hl 0 rfl) ?_
        refine va_iald hx hb hK hP 0 0 rfl rfl (z_in (by omega) (by omega)) dX7_onStage_17 ?_
        refine lv_topi (fun y98 ey98 => ?_)
        have gy98 : y98.toInt = (fa0_2 (v1 : Int32).toNatClampNeg).toInt := by rw [ey98]
        refine lv_if_eq (tgt := 50) hx hb dX7_onStage_18 (by decide) (fun hc => ?_) (fun hc => ?_)
        · have q99 : y98.toInt = 0 := z_eq rfl (by decide) hc
          obtain ⟨y100, ey100⟩ : ∃ y : Int32, y = v1 + 1 := ⟨_, rfl⟩
          refine lv_iinc (v := y100) (lv' := [(3, .int y100), (2, .int v2), (0, .ref ha0), (1, .int p1)]) hx hb dX7_onStage_50 hl (k := 0) rfl (by rw [ey100]; rfl) (by decide) rfl (fun ls hl => ?_)
          have hy100 : y100.toInt = v1.toInt + 1 := by rw [ey100]; exact z_add rfl (by decide) (by omega) (by omega)
          refine lv_goto (tgt := 4) hx hb dX7_onStage_53 (by decide) ?_
          exact ih95 y100 v2 ls (by first | decide | omega) (by first | decide | omega) hi94_2 hi94_3 (z_onIS (by assumption) (by omega) (by omega) (by omega) (by omega) gy98 (Or.inl ⟨by omega, by omega⟩)) (by have e0 : (0 : Int32).toInt = 0 := (by decide); omega) (by have e0 : (0 : Int32).toInt = 0 := (by decide); omega) (by omega) (lv_sub hl [0, 1, 2, 3] rfl)
        · have q101 : y98.toInt ≠ 0 := z_ne rfl (by decide) hc
          refine lv_aload_n hx hb dX7_onStage_21 rfl (lv_at hl 2 rfl) ?_
          refine va_get (D := (dC, dI)) (ci := 7) (v := .ref ha0_2) (C := RX7) (T := TX7) (N := 12) hx hb hts in_X7_onStage_X7 hown hK hP 1 rfl rfl 2 (by decide) (hts (.fieldLink RX7 21 "EachOnHisCue$Play" "own" "[I") (by decide +kernel)) (fun _ h9 => h9) rfl dX7_onStage_22 ?_
          refine lv_iload_n hx hb dX7_onStage_25 rfl (lv_at hl 0 rfl) ?_
          refine va_iald hx hb hK hP 0 0 rfl rfl (z_in (by omega) (by omega)) dX7_onStage_26 ?_
          refine lv_topi (fun y102 ey102 => ?_)
          obtain rfl : y98 = y102 := ey98.trans ey102.symm
          refine z_rdi (va_runSN (As := [.int y98]) (rest := []) ⟨hx, hb, hml, hown, hts⟩ (rX11_leastOf l dC dI cI cQ y98) ⟨va_cnB (host := "EachOnHisCue") 1 hts gv_X7_onStage_X11_leastOf_110 rfl rfl rfl (hN.2.2.2.2.2.2.2.2.2.2.2.2.2.1) (hts (.initialized RX11) (by decide +kernel)) (by decide +kernel) ⟨Nat.le_of_ble_eq_true rfl, Nat.le_of_ble_eq_true rfl⟩, hts (.static yX11_leastOf) (by decide +kernel), trivial⟩ ⟨z_blindR, z_preR hZ hP [] rfl⟩ rfl rfl hl.1 rfl (lv_room (Nat.le_of_ble_eq_true rfl)) dX7_onStage_27 ⟨Nat.le_of_ble_eq_true rfl, Nat.le_of_ble_eq_true rfl⟩) (fun y103 hy103 => ?_)
          obtain ⟨hy103_0, hy103_1, hy103_2⟩ := hy103
          refine lv_iload_n hx hb dX7_onStage_30 rfl (lv_at hl 3 rfl) ?_
          refine lv_icmp_gt (tgt := 50) hx hb dX7_onStage_31 (by decide) (fun hc => ?_) (fun hc => ?_)
          · have q104 : p1.toInt < y103.toInt := z_lt rfl rfl hc
            obtain ⟨y105, ey105⟩ : ∃ y : Int32, y = v1 + 1 := ⟨_, rfl⟩
            refine lv_iinc (v := y105) (lv' := [(3, .int y105), (2, .int v2), (0, .ref ha0), (1, .int p1)]) hx hb dX7_onStage_50 hl (k := 0) rfl (by rw [ey105]; rfl) (by decide) rfl (fun ls hl => ?_)
            have hy105 : y105.toInt = v1.toInt + 1 := by rw [ey105]; exact z_add rfl (by decide) (by omega) (by omega)
            refine lv_goto (tgt := 4) hx hb dX7_onStage_53 (by decide) ?_
            exact ih95 y105 v2 ls (by first | decide | omega) (by first | decide | omega) hi94_2 hi94_3 (z_onIS (by assumption) (by omega) (by omega) (by omega) (by omega) gy98 (Or.inr ⟨by omega, _, hy103_2, Or.inl ⟨by omega, by omega⟩⟩)) (by have e0 : (0 : Int32).toInt = 0 := (by decide); omega) (by have e0 : (0 : Int32).toInt = 0 := (by decide); omega) (by omega) (lv_sub hl [0, 1, 2, 3] rfl)
          · have q106 : y103.toInt ≤ p1.toInt := z_nlt rfl rfl hc
            refine lv_aload_n hx hb dX7_onStage_34 rfl (lv_at hl 2 rfl) ?_
            refine va_get (D := (dC, dI)) (ci := 7) (v := .ref ha0_2) (C := RX7) (T := TX7) (N := 12) hx hb hts in_X7_onStage_X7 hown hK hP 1 rfl rfl 2 (by decide) (hts (.fieldLink RX7 21 "EachOnHisCue$Play" "own" "[I") (by decide +kernel)) (fun _ h9 => h9) rfl dX7_onStage_35 ?_
            refine lv_iload_n hx hb dX7_onStage_38 rfl (lv_at hl 0 rfl) ?_
            refine va_iald hx hb hK hP 0 0 rfl rfl (z_in (by omega) (by omega)) dX7_onStage_39 ?_
            refine lv_topi (fun y107 ey107 => ?_)
            obtain rfl : y98 = y107 := ey98.trans ey107.symm
            refine z_rdi (va_runSN (As := [.int y98]) (rest := []) ⟨hx, hb, hml, hown, hts⟩ (rX11_greatestOf l dC dI cI cQ y98) ⟨va_cnB (host := "EachOnHisCue") 1 hts gv_X7_onStage_X11_greatestOf_113 rfl rfl rfl (hN.2.2.2.2.2.2.2.2.2.2.2.2.2.2.1) (hts (.initialized RX11) (by decide +kernel)) (by decide +kernel) ⟨Nat.le_of_ble_eq_true rfl, Nat.le_of_ble_eq_true rfl⟩, hts (.static yX11_greatestOf) (by decide +kernel), trivial⟩ ⟨z_blindR, z_preR hZ hP [] rfl⟩ rfl rfl hl.1 rfl (lv_room (Nat.le_of_ble_eq_true rfl)) dX7_onStage_40 ⟨Nat.le_of_ble_eq_true rfl, Nat.le_of_ble_eq_true rfl⟩) (fun y108 hy108 => ?_)
            obtain ⟨hy108_0, hy108_1, hy108_2⟩ := hy108
            refine lv_iload_n hx hb dX7_onStage_43 rfl (lv_at hl 3 rfl) ?_
            refine lv_icmp_lt (tgt := 50) hx hb dX7_onStage_44 (by decide) (fun hc => ?_) (fun hc => ?_)
            · have q109 : y108.toInt < p1.toInt := z_lt rfl rfl hc
              obtain ⟨y110, ey110⟩ : ∃ y : Int32, y = v1 + 1 := ⟨_, rfl⟩
              refine lv_iinc (v := y110) (lv' := [(3, .int y110), (2, .int v2), (0, .ref ha0), (1, .int p1)]) hx hb dX7_onStage_50 hl (k := 0) rfl (by rw [ey110]; rfl) (by decide) rfl (fun ls hl => ?_)
              have hy110 : y110.toInt = v1.toInt + 1 := by rw [ey110]; exact z_add rfl (by decide) (by omega) (by omega)
              refine lv_goto (tgt := 4) hx hb dX7_onStage_53 (by decide) ?_
              exact ih95 y110 v2 ls (by first | decide | omega) (by first | decide | omega) hi94_2 hi94_3 (z_onIS (by assumption) (by omega) (by omega) (by omega) (by omega) gy98 (Or.inr ⟨by omega, _, hy103_2, Or.inr ⟨by omega, _, hy108_2, (by first | exact Or.inl ⟨by omega, by omega⟩ | exact Or.inr ⟨by omega, by omega⟩)⟩⟩)) (by have e0 : (0 : Int32).toInt = 0 := (by decide); omega) (by have e0 : (0 : Int32).toInt = 0 := (by decide); omega) (by omega) (lv_sub hl [0, 1, 2, 3] rfl)
            · have q111 : p1.toInt ≤ y108.toInt := z_nlt rfl rfl hc
              obtain ⟨y112, ey112⟩ : ∃ y : Int32, y = v2 + 1 := ⟨_, rfl⟩
              refine lv_iinc (v := y112) (lv' := [(2, .int y112), (3, .int v1), (0, .ref ha0), (1, .int p1)]) hx hb dX7_onStage_47 hl (k := 1) rfl (by rw [ey112]; rfl) (by decide) rfl (fun ls hl => ?_)
              have hy112 : y112.toInt = v2.toInt + 1 := by rw [ey112]; exact z_add rfl (by decide) (by omega) (by omega)
              obtain ⟨y113, ey113⟩ : ∃ y : Int32, y = v1 + 1 := ⟨_, rfl⟩
              refine lv_iinc (v := y113) (lv' := [(3, .int y113), (2, .int y112), (0, .ref ha0), (1, .int p1)]) hx hb dX7_onStage_50 hl (k := 1) rfl (by rw [ey113]; rfl) (by decide) rfl (fun ls hl => ?_)
              have hy113 : y113.toInt = v1.toInt + 1 := by rw [ey113]; exact z_add rfl (by decide) (by omega) (by omega)
              refine lv_goto (tgt := 4) hx hb dX7_onStage_53 (by decide) ?_
              exact ih95 y113 y112 ls (by first | decide | omega) (by first | decide | omega) (by first | decide | omega) (by first | decide | omega) (z_onIS (by assumption) (by omega) (by omega) (by omega) (by omega) gy98 (Or.inr ⟨by omega, _, hy103_2, Or.inr ⟨by omega, _, hy108_2, (by first | exact Or.inl ⟨by omega, by omega⟩ | exact Or.inr ⟨by omega, by omega⟩)⟩⟩)) (by have e0 : (0 : Int32).toInt = 0 := (by decide); omega) (by have e0 : (0 : Int32).toInt = 0 := (by decide); omega) (by omega) (lv_sub hl [0, 1, 2, 3] rfl)
  exact hL93 ((5 - (0 : Int32).toInt).toNat + 1) 0 0 ls (by decide) (by decide) (by decide) (by decide) (z_onI0 (by decide) (by decide)) (by have e0 : (0 : Int32).toInt = 0 := (by decide); omega) (by have e0 : (0 : Int32).toInt = 0 := (by decide); omega) (by omega) hl
set_option maxRecDepth 20000 in
theorem edX7_allWords_0 : decode cX7_allWords 0 = .ok (.iconst 0, 1) ∧ decode cX7_allWords 1 = .ok (.istore_n 1, 1) ∧ decode cX7_allWords 2 = .ok (.iconst 0, 1) ∧ decode cX7_allWords 3 = .ok (.istore_n 2, 1) ∧ decode cX7_allWords 4 = .ok (.iload_n 2, 1) ∧ decode cX7_allWords 5 = .ok (.aload_n 0, 1) ∧ decode cX7_allWords 6 = .ok (.getfield 43, 3) ∧ decode cX7_allWords 9 = .ok (.if_icmp .ge 18, 3) ∧ decode cX7_allWords 12 = .ok (.iload_n 1, 1) ∧ decode cX7_allWords 13 = .ok (.aload_n 0, 1) ∧ decode cX7_allWords 14 = .ok (.getfield 34, 3) ∧ decode cX7_allWords 17 = .ok (.iload_n 2, 1) := by decide +kernel
theorem dX7_allWords_0 : decode cX7_allWords 0 = .ok (.iconst 0, 1) := edX7_allWords_0.1
theorem dX7_allWords_1 : decode cX7_allWords 1 = .ok (.istore_n 1, 1) := edX7_allWords_0.2.1
theorem dX7_allWords_2 : decode cX7_allWords 2 = .ok (.iconst 0, 1) := edX7_allWords_0.2.2.1
theorem dX7_allWords_3 : decode cX7_allWords 3 = .ok (.istore_n 2, 1) := edX7_allWords_0.2.2.2.1
theorem dX7_allWords_4 : decode cX7_allWords 4 = .ok (.iload_n 2, 1) := edX7_allWords_0.2.2.2.2.1
theorem dX7_allWords_5 : decode cX7_allWords 5 = .ok (.aload_n 0, 1) := edX7_allWords_0.2.2.2.2.2.1
theorem dX7_allWords_6 : decode cX7_allWords 6 = .ok (.getfield 43, 3) := edX7_allWords_0.2.2.2.2.2.2.1
theorem dX7_allWords_9 : decode cX7_allWords 9 = .ok (.if_icmp .ge 18, 3) := edX7_allWords_0.2.2.2.2.2.2.2.1
theorem dX7_allWords_12 : decode cX7_allWords 12 = .ok (.iload_n 1, 1) := edX7_allWords_0.2.2.2.2.2.2.2.2.1
theorem dX7_allWords_13 : decode cX7_allWords 13 = .ok (.aload_n 0, 1) := edX7_allWords_0.2.2.2.2.2.2.2.2.2.1
theorem dX7_allWords_14 : decode cX7_allWords 14 = .ok (.getfield 34, 3) := edX7_allWords_0.2.2.2.2.2.2.2.2.2.2.1
theorem dX7_allWords_17 : decode cX7_allWords 17 = .ok (.iload_n 2, 1) := edX7_allWords_0.2.2.2.2.2.2.2.2.2.2.2
set_option maxRecDepth 20000 in
theorem edX7_allWords_18 : decode cX7_allWords 18 = .ok (.iaload, 1) ∧ decode cX7_allWords 19 = .ok (.iadd, 1) ∧ decode cX7_allWords 20 = .ok (.istore_n 1, 1) ∧ decode cX7_allWords 21 = .ok (.iinc 2 1, 3) ∧ decode cX7_allWords 24 = .ok (.goto (-20), 3) ∧ decode cX7_allWords 27 = .ok (.iload_n 1, 1) ∧ decode cX7_allWords 28 = .ok (.ireturn, 1) := by decide +kernel
theorem dX7_allWords_18 : decode cX7_allWords 18 = .ok (.iaload, 1) := edX7_allWords_18.1
theorem dX7_allWords_19 : decode cX7_allWords 19 = .ok (.iadd, 1) := edX7_allWords_18.2.1
theorem dX7_allWords_20 : decode cX7_allWords 20 = .ok (.istore_n 1, 1) := edX7_allWords_18.2.2.1
theorem dX7_allWords_21 : decode cX7_allWords 21 = .ok (.iinc 2 1, 3) := edX7_allWords_18.2.2.2.1
theorem dX7_allWords_24 : decode cX7_allWords 24 = .ok (.goto (-20), 3) := edX7_allWords_18.2.2.2.2.1
theorem dX7_allWords_27 : decode cX7_allWords 27 = .ok (.iload_n 1, 1) := edX7_allWords_18.2.2.2.2.2.1
theorem dX7_allWords_28 : decode cX7_allWords 28 = .ok (.ireturn, 1) := edX7_allWords_18.2.2.2.2.2.2
noncomputable def voX7_allWords : List Cond := [.fieldLink RX7 43 "EachOnHisCue$Play" "lines" "I", .fieldLink RX7 34 "EachOnHisCue$Play" "sizes" "[I"]
noncomputable def vsX7_allWords : List Cond := .code yX7_allWords cX7_allWords 3 (some .int) :: (voX7_allWords ++ (wsX70))
theorem zgX7_allWords : zGd vsX7_allWords := z_gdC rfl (z_gdA (z_gdO (by decide +kernel) : zGd voX7_allWords) (zgX7))
theorem in_X7_allWords_X7 : ∀ w ∈ wsX70, w ∈ vsX7_allWords := fun _ h => List.mem_cons_of_mem _ (List.mem_append_right _ (h))
set_option maxHeartbeats 4000000 in
set_option maxRecDepth 100000 in
theorem rX7_allWords (l : Launch) (dC : Nat → ClassId) (dI : Nat → Nat → Nat) (cI cQ : ClassId) (ha0 ha0_6 ha0_0 ha0_1 ha0_2 ha0_4 ha0_5 ha0_7 ha0_11 : Nat) (fa0_6 : Nat → Int32) (hBfa0_6 : ∀ k, 0 ≤ (fa0_6 k).toInt ∧ (fa0_6 k).toInt ≤ 4) (ia0_3 : Int32) (hia0_3l : 0 ≤ ia0_3.toInt) (hia0_3h : ia0_3.toInt ≤ 5) (ia0_8 : Int32) (ia0_9 : Int32) (hia0_9l : 0 ≤ ia0_9.toInt) (hia0_9h : ia0_9.toInt ≤ 12) (ia0_10 : Int32) : Met l yX7_allWords vsX7_allWords ({ frames := 0, cells := 0, slots := 0, locals := 0 }) (va_Pc [.ref ha0] (zRB dC dI cI cQ [(ha0_6, .inl (cI, 12, .inl fa0_6)), (ha0, .inr (7, [.ref ha0_0, .ref ha0_1, .ref ha0_2, .int ia0_3, .ref ha0_4, .ref ha0_5, .ref ha0_6, .ref ha0_7, .int ia0_8, .int ia0_9, .int ia0_10, .ref ha0_11]))])) (vp_Si (fun r => (-2147483648) ≤ r.toInt ∧ r.toInt ≤ 2147483647)) 0 0 (fun _ => False) := by
  refine Met.ofW (cc := cX7_allWords) (maxL := 3) (ret := (some .int)) (by decide) rfl ?_
  intro p e s m args below meth c s₁ B hml hv
  obtain ⟨rfl, hP, hZ⟩ := hv
  obtain ⟨hK, hAO, hN⟩ := id hZ
  have hx := B.exec
  have hb := B.bytes
  have hr := B.returns
  have hts := atoms_spec (ws := vsX7_allWords) B.pre
  have hown : s.vm.findClass RX7 = some m.cls := findClass_of_methodNamed B.named
  have hlocks := B.notSynchronized
  have hl := lv_entry ([.ref ha0]) (n := 3) (Nat.le_of_ble_eq_true rfl)
  rw [lg_entry_eq]
  generalize (lg_sl ([.ref ha0]) ++ List.replicate (3 - (lg_sl ([.ref ha0])).length) Slot.unset).toArray = ls at hl ⊢
  have hl : lv_has ls 3 [(0, .ref ha0)] := hl
  refine lv_iconst (v := 0) hx hb dX7_allWords_0 (by decide) ?_
  refine lv_istore_n (lv' := [(1, .int 0), (0, .ref ha0)]) hx hb dX7_allWords_1 rfl hl (by decide) rfl (fun ls hl => ?_)
  refine lv_iconst (v := 0) hx hb dX7_allWords_2 (by decide) ?_
  refine lv_istore_n (lv' := [(2, .int 0), (1, .int 0), (0, .ref ha0)]) hx hb dX7_allWords_3 rfl hl (by decide) rfl (fun ls hl => ?_)
  have hL78 : ∀ (n : Nat) (v1 : Int32) (v2 : Int32) (ls : Array Slot), 0 ≤ v1.toInt → v1.toInt ≤ 12 → (12 - v1.toInt).toNat < n → lv_has ls 3 [(2, .int v1), (1, .int v2), (0, .ref ha0)] → W p l e (headSpec vsX7_allWords ({ frames := 0, cells := 0, slots := 0, locals := 0 })).room s m ([.ref ha0] : List Value).toArray below meth c s.heap [] 0 0 (MQ below (vp_Si (fun r => (-2147483648) ≤ r.toInt ∧ r.toInt ≤ 2147483647)) ([.ref ha0] : List Value).toArray s 0 0 (fun _ => False)) (F0 m 4 ls []) := by
    intro n
    induction n with
    | zero =>
      intro v1 v2 ls hi79_0 hi79_1 hi79_m hl
      exact absurd hi79_m (Nat.not_lt_zero _)
    | succ n ih =>
      intro v1 v2 ls hi79_0 hi79_1 hi79_m hl
      have ih80 := ih
      refine lv_iload_n hx hb dX7_allWords_4 rfl (lv_at hl 0 rfl) ?_
      refine lv_aload_n hx hb dX7_allWords_5 rfl (lv_at hl 2 rfl) ?_
      refine va_get (D := (dC, dI)) (ci := 7) (v := .int ia0_9) (C := RX7) (T := TX7) (N := 12) hx hb hts in_X7_allWords_X7 hown hK hP 1 rfl rfl 9 (by decide) (hts (.fieldLink RX7 43 "EachOnHisCue$Play" "lines" "I") (by decide +kernel)) (fun _ h9 => h9) rfl dX7_allWords_6 ?_
      refine lv_icmp_ge (tgt := 27) hx hb dX7_allWords_9 (by decide) (fun hc => ?_) (fun hc => ?_)
      · have q81 : ia0_9.toInt ≤ v1.toInt := z_le rfl rfl hc
        refine lv_iload_n hx hb dX7_allWords_27 rfl (lv_at hl 1 rfl) ?_
        exact W.iret (v := v2) hx hb hr (fun t ht hW => ⟨v2, rfl, ⟨z_lo _, z_hi _⟩, ht⟩) (fun _ h => absurd h List.not_mem_nil) dX7_allWords_28
      · have q82 : v1.toInt < ia0_9.toInt := z_nle rfl rfl hc
        refine lv_iload_n hx hb dX7_allWords_12 rfl (lv_at hl 1 rfl) ?_
        refine lv_aload_n hx hb dX7_allWords_13 rfl (lv_at hl 2 rfl) ?_
        refine va_get (D := (dC, dI)) (ci := 7) (v := .ref ha0_6) (C := RX7) (T := TX7) (N := 12) hx hb hts in_X7_allWords_X7 hown hK hP 1 rfl rfl 6 (by decide) (hts (.fieldLink RX7 34 "EachOnHisCue$Play" "sizes" "[I") (by decide +kernel)) (fun _ h9 => h9) rfl dX7_allWords_14 ?_
        refine lv_iload_n hx hb dX7_allWords_17 rfl (lv_at hl 0 rfl) ?_
        refine va_iald hx hb hK hP 0 0 rfl rfl (z_in (by omega) (by omega)) dX7_allWords_18 ?_
        refine lv_topi (fun y83 ey83 => ?_)
        have gy83 : y83.toInt = (fa0_6 (v1 : Int32).toNatClampNeg).toInt := by rw [ey83]
        have hy83 : 0 ≤ y83.toInt ∧ y83.toInt ≤ 4 := by rw [ey83]; exact hBfa0_6 _
        obtain ⟨hy83, hy83_⟩ := hy83
        refine lv_iadd hx hb dX7_allWords_19 ?_
        refine lv_topi (fun y84 ey84 => ?_)
        refine lv_istore_n (lv' := [(1, .int y84), (2, .int v1), (0, .ref ha0)]) hx hb dX7_allWords_20 rfl hl (by decide) rfl (fun ls hl => ?_)
        obtain ⟨y85, ey85⟩ : ∃ y : Int32, y = v1 + 1 := ⟨_, rfl⟩
        refine lv_iinc (v := y85) (lv' := [(2, .int y85), (1, .int y84), (0, .ref ha0)]) hx hb dX7_allWords_21 hl (k := 1) rfl (by rw [ey85]; rfl) (by decide) rfl (fun ls hl => ?_)
        have hy85 : y85.toInt = v1.toInt + 1 := by rw [ey85]; exact z_add rfl (by decide) (by omega) (by omega)
        refine lv_goto (tgt := 4) hx hb dX7_allWords_24 (by decide) ?_
        exact ih80 y85 y84 ls (by first | decide | omega) (by first | decide | omega) (by omega) (lv_sub hl [0, 1, 2] rfl)
  exact hL78 ((12 - (0 : Int32).toInt).toNat + 1) 0 0 ls (by decide) (by decide) (by omega) hl
set_option maxRecDepth 20000 in
theorem edX5_stepFrom_0 : decode cX5_stepFrom 0 = .ok (.iconst 0, 1) ∧ decode cX5_stepFrom 1 = .ok (.istore_n 2, 1) ∧ decode cX5_stepFrom 2 = .ok (.iconst 0, 1) ∧ decode cX5_stepFrom 3 = .ok (.istore_n 3, 1) ∧ decode cX5_stepFrom 4 = .ok (.iload_n 3, 1) ∧ decode cX5_stepFrom 5 = .ok (.aload_n 0, 1) ∧ decode cX5_stepFrom 6 = .ok (.getfield 15, 3) ∧ decode cX5_stepFrom 9 = .ok (.if_icmp .ge 27, 3) ∧ decode cX5_stepFrom 12 = .ok (.iload_n 1, 1) ∧ decode cX5_stepFrom 13 = .ok (.iload_n 3, 1) ∧ decode cX5_stepFrom 14 = .ok (.invokestatic 40, 3) ∧ decode cX5_stepFrom 17 = .ok (.iconst 1, 1) := by decide +kernel
theorem dX5_stepFrom_0 : decode cX5_stepFrom 0 = .ok (.iconst 0, 1) := edX5_stepFrom_0.1
theorem dX5_stepFrom_1 : decode cX5_stepFrom 1 = .ok (.istore_n 2, 1) := edX5_stepFrom_0.2.1
theorem dX5_stepFrom_2 : decode cX5_stepFrom 2 = .ok (.iconst 0, 1) := edX5_stepFrom_0.2.2.1
theorem dX5_stepFrom_3 : decode cX5_stepFrom 3 = .ok (.istore_n 3, 1) := edX5_stepFrom_0.2.2.2.1
theorem dX5_stepFrom_4 : decode cX5_stepFrom 4 = .ok (.iload_n 3, 1) := edX5_stepFrom_0.2.2.2.2.1
theorem dX5_stepFrom_5 : decode cX5_stepFrom 5 = .ok (.aload_n 0, 1) := edX5_stepFrom_0.2.2.2.2.2.1
theorem dX5_stepFrom_6 : decode cX5_stepFrom 6 = .ok (.getfield 15, 3) := edX5_stepFrom_0.2.2.2.2.2.2.1
theorem dX5_stepFrom_9 : decode cX5_stepFrom 9 = .ok (.if_icmp .ge 27, 3) := edX5_stepFrom_0.2.2.2.2.2.2.2.1
theorem dX5_stepFrom_12 : decode cX5_stepFrom 12 = .ok (.iload_n 1, 1) := edX5_stepFrom_0.2.2.2.2.2.2.2.2.1
theorem dX5_stepFrom_13 : decode cX5_stepFrom 13 = .ok (.iload_n 3, 1) := edX5_stepFrom_0.2.2.2.2.2.2.2.2.2.1
theorem dX5_stepFrom_14 : decode cX5_stepFrom 14 = .ok (.invokestatic 40, 3) := edX5_stepFrom_0.2.2.2.2.2.2.2.2.2.2.1
theorem dX5_stepFrom_17 : decode cX5_stepFrom 17 = .ok (.iconst 1, 1) := edX5_stepFrom_0.2.2.2.2.2.2.2.2.2.2.2
set_option maxRecDepth 20000 in
theorem edX5_stepFrom_18 : decode cX5_stepFrom 18 = .ok (.if_icmp .ne 12, 3) ∧ decode cX5_stepFrom 21 = .ok (.iload_n 2, 1) ∧ decode cX5_stepFrom 22 = .ok (.aload_n 0, 1) ∧ decode cX5_stepFrom 23 = .ok (.getfield 9, 3) ∧ decode cX5_stepFrom 26 = .ok (.iload_n 3, 1) ∧ decode cX5_stepFrom 27 = .ok (.iaload, 1) ∧ decode cX5_stepFrom 28 = .ok (.ior, 1) ∧ decode cX5_stepFrom 29 = .ok (.istore_n 2, 1) ∧ decode cX5_stepFrom 30 = .ok (.iinc 3 1, 3) ∧ decode cX5_stepFrom 33 = .ok (.goto (-29), 3) ∧ decode cX5_stepFrom 36 = .ok (.iload_n 2, 1) ∧ decode cX5_stepFrom 37 = .ok (.ireturn, 1) := by decide +kernel
theorem dX5_stepFrom_18 : decode cX5_stepFrom 18 = .ok (.if_icmp .ne 12, 3) := edX5_stepFrom_18.1
theorem dX5_stepFrom_21 : decode cX5_stepFrom 21 = .ok (.iload_n 2, 1) := edX5_stepFrom_18.2.1
theorem dX5_stepFrom_22 : decode cX5_stepFrom 22 = .ok (.aload_n 0, 1) := edX5_stepFrom_18.2.2.1
theorem dX5_stepFrom_23 : decode cX5_stepFrom 23 = .ok (.getfield 9, 3) := edX5_stepFrom_18.2.2.2.1
theorem dX5_stepFrom_26 : decode cX5_stepFrom 26 = .ok (.iload_n 3, 1) := edX5_stepFrom_18.2.2.2.2.1
theorem dX5_stepFrom_27 : decode cX5_stepFrom 27 = .ok (.iaload, 1) := edX5_stepFrom_18.2.2.2.2.2.1
theorem dX5_stepFrom_28 : decode cX5_stepFrom 28 = .ok (.ior, 1) := edX5_stepFrom_18.2.2.2.2.2.2.1
theorem dX5_stepFrom_29 : decode cX5_stepFrom 29 = .ok (.istore_n 2, 1) := edX5_stepFrom_18.2.2.2.2.2.2.2.1
theorem dX5_stepFrom_30 : decode cX5_stepFrom 30 = .ok (.iinc 3 1, 3) := edX5_stepFrom_18.2.2.2.2.2.2.2.2.1
theorem dX5_stepFrom_33 : decode cX5_stepFrom 33 = .ok (.goto (-29), 3) := edX5_stepFrom_18.2.2.2.2.2.2.2.2.2.1
theorem dX5_stepFrom_36 : decode cX5_stepFrom 36 = .ok (.iload_n 2, 1) := edX5_stepFrom_18.2.2.2.2.2.2.2.2.2.2.1
theorem dX5_stepFrom_37 : decode cX5_stepFrom 37 = .ok (.ireturn, 1) := edX5_stepFrom_18.2.2.2.2.2.2.2.2.2.2.2
noncomputable def voX5_stepFrom : List Cond := [.fieldLink RX5 15 "EachOnHisCue$Net" "lines" "I", .initialized RX11, .static yX11_bitAt, .fieldLink RX5 9 "EachOnHisCue$Net" "after" "[I"]
noncomputable def vsX5_stepFrom : List Cond := .code yX5_stepFrom cX5_stepFrom 4 (some .int) :: (voX5_stepFrom ++ (vsX11_bitAt ++ (wsX50)))
theorem zgX5 : zGd wsX50 := z_gdO (by decide +kernel)
theorem zgX5_stepFrom : zGd vsX5_stepFrom := z_gdC rfl (z_gdA (z_gdO (by decide +kernel) : zGd voX5_stepFrom) (z_gdA zgX11_bitAt (zgX5)))
theorem in_X5_stepFrom_X5 : ∀ w ∈ wsX50, w ∈ vsX5_stepFrom := fun _ h => List.mem_cons_of_mem _ (List.mem_append_right _ (List.mem_append_right _ (h)))
theorem gw_X5_stepFrom_X11_bitAt : GoodIn vsX5_stepFrom vsX11_bitAt := z_gdI (fun _ h => List.mem_cons_of_mem _ (List.mem_append_right _ (List.mem_append_left _ h))) zgX11_bitAt
set_option maxRecDepth 20000 in
theorem gv_X5_stepFrom_X11_bitAt_40 : GoodIn vsX5_stepFrom (vsX11_bitAt) := gw_X5_stepFrom_X11_bitAt
set_option maxHeartbeats 4000000 in
set_option maxRecDepth 100000 in
theorem rX5_stepFrom (l : Launch) (dC : Nat → ClassId) (dI : Nat → Nat → Nat) (cI cQ : ClassId) (ha0 ha0_0 : Nat) (fa0_0 : Nat → Int32) (ia0_1 : Int32) (hia0_1l : 0 ≤ ia0_1.toInt) (hia0_1h : ia0_1.toInt ≤ 12) (p1 : Int32) : Met l yX5_stepFrom vsX5_stepFrom ({ frames := 1, cells := 0, slots := 0, locals := 21 }) (va_Pc [.ref ha0, .int p1] (zRB dC dI cI cQ [(ha0_0, .inl (cI, 12, .inl fa0_0)), (ha0, .inr (5, [.ref ha0_0, .int ia0_1]))])) (vp_Si (fun r => (-2147483648) ≤ r.toInt ∧ r.toInt ≤ 2147483647)) 0 0 (fun _ => False) := by
  refine Met.ofW (cc := cX5_stepFrom) (maxL := 4) (ret := (some .int)) (by decide) rfl ?_
  intro p e s m args below meth c s₁ B hml hv
  obtain ⟨rfl, hP, hZ⟩ := hv
  obtain ⟨hK, hAO, hN⟩ := id hZ
  have hx := B.exec
  have hb := B.bytes
  have hr := B.returns
  have hts := atoms_spec (ws := vsX5_stepFrom) B.pre
  have hown : s.vm.findClass RX5 = some m.cls := findClass_of_methodNamed B.named
  have hlocks := B.notSynchronized
  have hp1l := z_lo p1
  have hp1h := z_hi p1
  have hl := lv_entry ([.ref ha0, .int p1]) (n := 4) (Nat.le_of_ble_eq_true rfl)
  rw [lg_entry_eq]
  generalize (lg_sl ([.ref ha0, .int p1]) ++ List.replicate (4 - (lg_sl ([.ref ha0, .int p1])).length) Slot.unset).toArray = ls at hl ⊢
  have hl : lv_has ls 4 [(0, .ref ha0), (1, .int p1)] := hl
  refine lv_iconst (v := 0) hx hb dX5_stepFrom_0 (by decide) ?_
  refine lv_istore_n (lv' := [(2, .int 0), (0, .ref ha0), (1, .int p1)]) hx hb dX5_stepFrom_1 rfl hl (by decide) rfl (fun ls hl => ?_)
  refine lv_iconst (v := 0) hx hb dX5_stepFrom_2 (by decide) ?_
  refine lv_istore_n (lv' := [(3, .int 0), (2, .int 0), (0, .ref ha0), (1, .int p1)]) hx hb dX5_stepFrom_3 rfl hl (by decide) rfl (fun ls hl => ?_)
  have hL75 : ∀ (n : Nat) (v1 : Int32) (v2 : Int32) (ls : Array Slot), 0 ≤ v1.toInt → v1.toInt ≤ 12 → (12 - v1.toInt).toNat < n → lv_has ls 4 [(3, .int v1), (2, .int v2), (0, .ref ha0), (1, .int p1)] → W p l e (headSpec vsX5_stepFrom ({ frames := 1, cells := 0, slots := 0, locals := 21 })).room s m ([.ref ha0, .int p1] : List Value).toArray below meth c s.heap [] 0 0 (MQ below (vp_Si (fun r => (-2147483648) ≤ r.toInt ∧ r.toInt ≤ 2147483647)) ([.ref ha0, .int p1] : List Value).toArray s 0 0 (fun _ => False)) (F0 m 4 ls []) := by
    intro n
    induction n with
    | zero =>
      intro v1 v2 ls hi76_0 hi76_1 hi76_m hl
      exact absurd hi76_m (Nat.not_lt_zero _)
    | succ n ih =>
      intro v1 v2 ls hi76_0 hi76_1 hi76_m hl
      have ih77 := ih
      refine lv_iload_n hx hb dX5_stepFrom_4 rfl (lv_at hl 0 rfl) ?_
      refine lv_aload_n hx hb dX5_stepFrom_5 rfl (lv_at hl 2 rfl) ?_
      refine va_get (D := (dC, dI)) (ci := 5) (v := .int ia0_1) (C := RX5) (T := TX5) (N := 2) hx hb hts in_X5_stepFrom_X5 hown hK hP 1 rfl rfl 1 (by decide) (hts (.fieldLink RX5 15 "EachOnHisCue$Net" "lines" "I") (by decide +kernel)) (fun _ h9 => h9) rfl dX5_stepFrom_6 ?_
      refine lv_icmp_ge (tgt := 36) hx hb dX5_stepFrom_9 (by decide) (fun hc => ?_) (fun hc => ?_)
      · have q78 : ia0_1.toInt ≤ v1.toInt := z_le rfl rfl hc
        refine lv_iload_n hx hb dX5_stepFrom_36 rfl (lv_at hl 1 rfl) ?_
        exact W.iret (v := v2) hx hb hr (fun t ht hW => ⟨v2, rfl, ⟨z_lo _, z_hi _⟩, ht⟩) (fun _ h => absurd h List.not_mem_nil) dX5_stepFrom_37
      · have q79 : v1.toInt < ia0_1.toInt := z_nle rfl rfl hc
        refine lv_iload_n hx hb dX5_stepFrom_12 rfl (lv_at hl 3 rfl) ?_
        refine lv_iload_n hx hb dX5_stepFrom_13 rfl (lv_at hl 0 rfl) ?_
        refine z_rdi (va_runSN (As := [.int p1, .int v1]) (rest := []) ⟨hx, hb, hml, hown, hts⟩ (rX11_bitAt l dC dI cI cQ p1 v1) ⟨va_cnB (host := "EachOnHisCue") 2 hts gv_X5_stepFrom_X11_bitAt_40 rfl rfl rfl (hN.2.2.2.2.2.2.2.2.2.1) (hts (.initialized RX11) (by decide +kernel)) (by decide +kernel) ⟨Nat.le_of_ble_eq_true rfl, Nat.le_of_ble_eq_true rfl⟩, hts (.static yX11_bitAt) (by decide +kernel), trivial⟩ ⟨z_blindR, z_preR hZ hP [] rfl⟩ rfl rfl hl.1 rfl (lv_room (Nat.le_of_ble_eq_true rfl)) dX5_stepFrom_14 ⟨Nat.le_of_ble_eq_true rfl, Nat.le_of_ble_eq_true rfl⟩) (fun y80 hy80 => ?_)
        obtain ⟨hy80_0, hy80_1, hy80_2⟩ := hy80
        refine lv_iconst (v := 1) hx hb dX5_stepFrom_17 (by decide) ?_
        refine lv_icmp_ne (tgt := 30) hx hb dX5_stepFrom_18 (by decide) (fun hc => ?_) (fun hc => ?_)
        · have q81 : y80.toInt ≠ 1 := z_ne rfl (by decide) hc
          obtain ⟨y82, ey82⟩ : ∃ y : Int32, y = v1 + 1 := ⟨_, rfl⟩
          refine lv_iinc (v := y82) (lv' := [(3, .int y82), (2, .int v2), (0, .ref ha0), (1, .int p1)]) hx hb dX5_stepFrom_30 hl (k := 0) rfl (by rw [ey82]; rfl) (by decide) rfl (fun ls hl => ?_)
          have hy82 : y82.toInt = v1.toInt + 1 := by rw [ey82]; exact z_add rfl (by decide) (by omega) (by omega)
          refine lv_goto (tgt := 4) hx hb dX5_stepFrom_33 (by decide) ?_
          exact ih77 y82 v2 ls (by first | decide | omega) (by first | decide | omega) (by omega) (lv_sub hl [0, 1, 2, 3] rfl)
        · have q83 : y80.toInt = 1 := z_eq rfl (by decide) hc
          refine lv_iload_n hx hb dX5_stepFrom_21 rfl (lv_at hl 1 rfl) ?_
          refine lv_aload_n hx hb dX5_stepFrom_22 rfl (lv_at hl 2 rfl) ?_
          refine va_get (D := (dC, dI)) (ci := 5) (v := .ref ha0_0) (C := RX5) (T := TX5) (N := 2) hx hb hts in_X5_stepFrom_X5 hown hK hP 1 rfl rfl 0 (by decide) (hts (.fieldLink RX5 9 "EachOnHisCue$Net" "after" "[I") (by decide +kernel)) (fun _ h9 => h9) rfl dX5_stepFrom_23 ?_
          refine lv_iload_n hx hb dX5_stepFrom_26 rfl (lv_at hl 0 rfl) ?_
          refine va_iald hx hb hK hP 0 0 rfl rfl (z_in (by omega) (by omega)) dX5_stepFrom_27 ?_
          refine lv_topi (fun y84 ey84 => ?_)
          have gy84 : y84.toInt = (fa0_0 (v1 : Int32).toNatClampNeg).toInt := by rw [ey84]
          refine lv_ior hx hb dX5_stepFrom_28 ?_
          refine lv_topi (fun y85 ey85 => ?_)
          refine lv_istore_n (lv' := [(2, .int y85), (3, .int v1), (0, .ref ha0), (1, .int p1)]) hx hb dX5_stepFrom_29 rfl hl (by decide) rfl (fun ls hl => ?_)
          obtain ⟨y86, ey86⟩ : ∃ y : Int32, y = v1 + 1 := ⟨_, rfl⟩
          refine lv_iinc (v := y86) (lv' := [(3, .int y86), (2, .int y85), (0, .ref ha0), (1, .int p1)]) hx hb dX5_stepFrom_30 hl (k := 1) rfl (by rw [ey86]; rfl) (by decide) rfl (fun ls hl => ?_)
          have hy86 : y86.toInt = v1.toInt + 1 := by rw [ey86]; exact z_add rfl (by decide) (by omega) (by omega)
          refine lv_goto (tgt := 4) hx hb dX5_stepFrom_33 (by decide) ?_
          exact ih77 y86 y85 ls (by first | decide | omega) (by first | decide | omega) (by omega) (lv_sub hl [0, 1, 2, 3] rfl)
  exact hL75 ((12 - (0 : Int32).toInt).toNat + 1) 0 0 ls (by decide) (by decide) (by omega) hl
set_option maxRecDepth 20000 in
theorem edX5_reachedFrom_0 : decode cX5_reachedFrom 0 = .ok (.iload_n 1, 1) ∧ decode cX5_reachedFrom 1 = .ok (.istore_n 2, 1) ∧ decode cX5_reachedFrom 2 = .ok (.iconst 0, 1) ∧ decode cX5_reachedFrom 3 = .ok (.istore_n 3, 1) ∧ decode cX5_reachedFrom 4 = .ok (.iload_n 3, 1) ∧ decode cX5_reachedFrom 5 = .ok (.aload_n 0, 1) ∧ decode cX5_reachedFrom 6 = .ok (.getfield 15, 3) ∧ decode cX5_reachedFrom 9 = .ok (.if_icmp .ge 17, 3) ∧ decode cX5_reachedFrom 12 = .ok (.iload_n 2, 1) ∧ decode cX5_reachedFrom 13 = .ok (.aload_n 0, 1) ∧ decode cX5_reachedFrom 14 = .ok (.iload_n 2, 1) ∧ decode cX5_reachedFrom 15 = .ok (.invokevirtual 44, 3) := by decide +kernel
theorem dX5_reachedFrom_0 : decode cX5_reachedFrom 0 = .ok (.iload_n 1, 1) := edX5_reachedFrom_0.1
theorem dX5_reachedFrom_1 : decode cX5_reachedFrom 1 = .ok (.istore_n 2, 1) := edX5_reachedFrom_0.2.1
theorem dX5_reachedFrom_2 : decode cX5_reachedFrom 2 = .ok (.iconst 0, 1) := edX5_reachedFrom_0.2.2.1
theorem dX5_reachedFrom_3 : decode cX5_reachedFrom 3 = .ok (.istore_n 3, 1) := edX5_reachedFrom_0.2.2.2.1
theorem dX5_reachedFrom_4 : decode cX5_reachedFrom 4 = .ok (.iload_n 3, 1) := edX5_reachedFrom_0.2.2.2.2.1
theorem dX5_reachedFrom_5 : decode cX5_reachedFrom 5 = .ok (.aload_n 0, 1) := edX5_reachedFrom_0.2.2.2.2.2.1
theorem dX5_reachedFrom_6 : decode cX5_reachedFrom 6 = .ok (.getfield 15, 3) := edX5_reachedFrom_0.2.2.2.2.2.2.1
theorem dX5_reachedFrom_9 : decode cX5_reachedFrom 9 = .ok (.if_icmp .ge 17, 3) := edX5_reachedFrom_0.2.2.2.2.2.2.2.1
theorem dX5_reachedFrom_12 : decode cX5_reachedFrom 12 = .ok (.iload_n 2, 1) := edX5_reachedFrom_0.2.2.2.2.2.2.2.2.1
theorem dX5_reachedFrom_13 : decode cX5_reachedFrom 13 = .ok (.aload_n 0, 1) := edX5_reachedFrom_0.2.2.2.2.2.2.2.2.2.1
theorem dX5_reachedFrom_14 : decode cX5_reachedFrom 14 = .ok (.iload_n 2, 1) := edX5_reachedFrom_0.2.2.2.2.2.2.2.2.2.2.1
theorem dX5_reachedFrom_15 : decode cX5_reachedFrom 15 = .ok (.invokevirtual 44, 3) := edX5_reachedFrom_0.2.2.2.2.2.2.2.2.2.2.2
set_option maxRecDepth 20000 in
theorem edX5_reachedFrom_18 : decode cX5_reachedFrom 18 = .ok (.ior, 1) ∧ decode cX5_reachedFrom 19 = .ok (.istore_n 2, 1) ∧ decode cX5_reachedFrom 20 = .ok (.iinc 3 1, 3) ∧ decode cX5_reachedFrom 23 = .ok (.goto (-19), 3) ∧ decode cX5_reachedFrom 26 = .ok (.iload_n 2, 1) ∧ decode cX5_reachedFrom 27 = .ok (.ireturn, 1) := by decide +kernel
theorem dX5_reachedFrom_18 : decode cX5_reachedFrom 18 = .ok (.ior, 1) := edX5_reachedFrom_18.1
theorem dX5_reachedFrom_19 : decode cX5_reachedFrom 19 = .ok (.istore_n 2, 1) := edX5_reachedFrom_18.2.1
theorem dX5_reachedFrom_20 : decode cX5_reachedFrom 20 = .ok (.iinc 3 1, 3) := edX5_reachedFrom_18.2.2.1
theorem dX5_reachedFrom_23 : decode cX5_reachedFrom 23 = .ok (.goto (-19), 3) := edX5_reachedFrom_18.2.2.2.1
theorem dX5_reachedFrom_26 : decode cX5_reachedFrom 26 = .ok (.iload_n 2, 1) := edX5_reachedFrom_18.2.2.2.2.1
theorem dX5_reachedFrom_27 : decode cX5_reachedFrom 27 = .ok (.ireturn, 1) := edX5_reachedFrom_18.2.2.2.2.2
noncomputable def voX5_reachedFrom : List Cond := [.fieldLink RX5 15 "EachOnHisCue$Net" "lines" "I", .methodLink RX5 44 yX5_stepFrom, .instanceMethod yX5_stepFrom, .selects RX5 yX5_stepFrom yX5_stepFrom, .initialized RX5]
noncomputable def vsX5_reachedFrom : List Cond := .code yX5_reachedFrom cX5_reachedFrom 4 (some .int) :: (voX5_reachedFrom ++ (vsX5_stepFrom ++ (wsX50)))
theorem zgX5_reachedFrom : zGd vsX5_reachedFrom := z_gdC rfl (z_gdA (z_gdO (by decide +kernel) : zGd voX5_reachedFrom) (z_gdA zgX5_stepFrom (zgX5)))
theorem in_X5_reachedFrom_X5 : ∀ w ∈ wsX50, w ∈ vsX5_reachedFrom := fun _ h => List.mem_cons_of_mem _ (List.mem_append_right _ (List.mem_append_right _ (h)))
theorem gw_X5_reachedFrom_X5_stepFrom : GoodIn vsX5_reachedFrom vsX5_stepFrom := z_gdI (fun _ h => List.mem_cons_of_mem _ (List.mem_append_right _ (List.mem_append_left _ h))) zgX5_stepFrom
set_option maxRecDepth 20000 in
theorem gv_X5_reachedFrom_X5_stepFrom_44 : GoodIn vsX5_reachedFrom (wsV RX5 44 RX5 yX5_stepFrom vsX5_stepFrom) := goodIn_app (goodIn_of _ (by decide +kernel)) gw_X5_reachedFrom_X5_stepFrom
set_option maxHeartbeats 4000000 in
set_option maxRecDepth 100000 in
theorem rX5_reachedFrom (l : Launch) (dC : Nat → ClassId) (dI : Nat → Nat → Nat) (cI cQ : ClassId) (ha0 ha0_0 : Nat) (fa0_0 : Nat → Int32) (ia0_1 : Int32) (hia0_1l : 0 ≤ ia0_1.toInt) (hia0_1h : ia0_1.toInt ≤ 12) (p1 : Int32) : Met l yX5_reachedFrom vsX5_reachedFrom ({ frames := 2, cells := 0, slots := 0, locals := 44 }) (va_Pc [.ref ha0, .int p1] (zRB dC dI cI cQ [(ha0_0, .inl (cI, 12, .inl fa0_0)), (ha0, .inr (5, [.ref ha0_0, .int ia0_1]))])) (vp_Si (fun r => (-2147483648) ≤ r.toInt ∧ r.toInt ≤ 2147483647)) 0 0 (fun _ => False) := by
  refine Met.ofW (cc := cX5_reachedFrom) (maxL := 4) (ret := (some .int)) (by decide) rfl ?_
  intro p e s m args below meth c s₁ B hml hv
  obtain ⟨rfl, hP, hZ⟩ := hv
  obtain ⟨hK, hAO, hN⟩ := id hZ
  have hx := B.exec
  have hb := B.bytes
  have hr := B.returns
  have hts := atoms_spec (ws := vsX5_reachedFrom) B.pre
  have hown : s.vm.findClass RX5 = some m.cls := findClass_of_methodNamed B.named
  have hlocks := B.notSynchronized
  have hp1l := z_lo p1
  have hp1h := z_hi p1
  have hl := lv_entry ([.ref ha0, .int p1]) (n := 4) (Nat.le_of_ble_eq_true rfl)
  rw [lg_entry_eq]
  generalize (lg_sl ([.ref ha0, .int p1]) ++ List.replicate (4 - (lg_sl ([.ref ha0, .int p1])).length) Slot.unset).toArray = ls at hl ⊢
  have hl : lv_has ls 4 [(0, .ref ha0), (1, .int p1)] := hl
  refine lv_iload_n hx hb dX5_reachedFrom_0 rfl (lv_at hl 1 rfl) ?_
  refine lv_istore_n (lv' := [(2, .int p1), (0, .ref ha0), (1, .int p1)]) hx hb dX5_reachedFrom_1 rfl hl (by decide) rfl (fun ls hl => ?_)
  refine lv_iconst (v := 0) hx hb dX5_reachedFrom_2 (by decide) ?_
  refine lv_istore_n (lv' := [(3, .int 0), (2, .int p1), (0, .ref ha0), (1, .int p1)]) hx hb dX5_reachedFrom_3 rfl hl (by decide) rfl (fun ls hl => ?_)
  have hL43 : ∀ (n : Nat) (v1 : Int32) (v2 : Int32) (ls : Array Slot), 0 ≤ v1.toInt → v1.toInt ≤ 12 → (12 - v1.toInt).toNat < n → lv_has ls 4 [(3, .int v1), (2, .int v2), (0, .ref ha0), (1, .int p1)] → W p l e (headSpec vsX5_reachedFrom ({ frames := 2, cells := 0, slots := 0, locals := 44 })).room s m ([.ref ha0, .int p1] : List Value).toArray below meth c s.heap [] 0 0 (MQ below (vp_Si (fun r => (-2147483648) ≤ r.toInt ∧ r.toInt ≤ 2147483647)) ([.ref ha0, .int p1] : List Value).toArray s 0 0 (fun _ => False)) (F0 m 4 ls []) := by
    intro n
    induction n with
    | zero =>
      intro v1 v2 ls hi44_0 hi44_1 hi44_m hl
      exact absurd hi44_m (Nat.not_lt_zero _)
    | succ n ih =>
      intro v1 v2 ls hi44_0 hi44_1 hi44_m hl
      have ih45 := ih
      refine lv_iload_n hx hb dX5_reachedFrom_4 rfl (lv_at hl 0 rfl) ?_
      refine lv_aload_n hx hb dX5_reachedFrom_5 rfl (lv_at hl 2 rfl) ?_
      refine va_get (D := (dC, dI)) (ci := 5) (v := .int ia0_1) (C := RX5) (T := TX5) (N := 2) hx hb hts in_X5_reachedFrom_X5 hown hK hP 1 rfl rfl 1 (by decide) (hts (.fieldLink RX5 15 "EachOnHisCue$Net" "lines" "I") (by decide +kernel)) (fun _ h9 => h9) rfl dX5_reachedFrom_6 ?_
      refine lv_icmp_ge (tgt := 26) hx hb dX5_reachedFrom_9 (by decide) (fun hc => ?_) (fun hc => ?_)
      · have q46 : ia0_1.toInt ≤ v1.toInt := z_le rfl rfl hc
        refine lv_iload_n hx hb dX5_reachedFrom_26 rfl (lv_at hl 1 rfl) ?_
        exact W.iret (v := v2) hx hb hr (fun t ht hW => ⟨v2, rfl, ⟨z_lo _, z_hi _⟩, ht⟩) (fun _ h => absurd h List.not_mem_nil) dX5_reachedFrom_27
      · have q47 : v1.toInt < ia0_1.toInt := z_nle rfl rfl hc
        refine lv_iload_n hx hb dX5_reachedFrom_12 rfl (lv_at hl 1 rfl) ?_
        refine lv_aload_n hx hb dX5_reachedFrom_13 rfl (lv_at hl 2 rfl) ?_
        refine lv_iload_n hx hb dX5_reachedFrom_14 rfl (lv_at hl 1 rfl) ?_
        refine z_rdi (va_runV (As := [.int v2]) (rest := [.int v2]) ⟨hx, hb, hml, hown, hts⟩ (rX5_stepFrom l dC dI cI cQ ha0 ha0_0 fa0_0 ia0_1 hia0_1l hia0_1h v2) (cwV 1 hts gv_X5_reachedFrom_X5_stepFrom_44 rfl rfl rfl (by decide +kernel) ⟨Nat.le_of_ble_eq_true rfl, Nat.le_of_ble_eq_true rfl⟩) ⟨z_blindR, va_recv hK hP (ci := 5) (q0 := 1) rfl rfl, z_preR hZ hP [0, 1] rfl⟩ rfl rfl hl.1 rfl (lv_room (Nat.le_of_ble_eq_true rfl)) dX5_reachedFrom_15 ⟨Nat.le_of_ble_eq_true rfl, Nat.le_of_ble_eq_true rfl⟩) (fun y48 hy48 => ?_)
        obtain ⟨hy48_0, hy48_1⟩ := hy48
        refine lv_ior hx hb dX5_reachedFrom_18 ?_
        refine lv_topi (fun y49 ey49 => ?_)
        refine lv_istore_n (lv' := [(2, .int y49), (3, .int v1), (0, .ref ha0), (1, .int p1)]) hx hb dX5_reachedFrom_19 rfl hl (by decide) rfl (fun ls hl => ?_)
        obtain ⟨y50, ey50⟩ : ∃ y : Int32, y = v1 + 1 := ⟨_, rfl⟩
        refine lv_iinc (v := y50) (lv' := [(3, .int y50), (2, .int y49), (0, .ref ha0), (1, .int p1)]) hx hb dX5_reachedFrom_20 hl (k := 1) rfl (by rw [ey50]; rfl) (by decide) rfl (fun ls hl => ?_)
        have hy50 : y50.toInt = v1.toInt + 1 := by rw [ey50]; exact z_add rfl (by decide) (by omega) (by omega)
        refine lv_goto (tgt := 4) hx hb dX5_reachedFrom_23 (by decide) ?_
        exact ih45 y50 y49 ls (by first | decide | omega) (by first | decide | omega) (by omega) (lv_sub hl [0, 1, 2, 3] rfl)
  exact hL43 ((12 - (0 : Int32).toInt).toNat + 1) 0 p1 ls (by decide) (by decide) (by omega) hl
set_option maxRecDepth 20000 in
theorem edX5_fewestSteps_0 : decode cX5_fewestSteps 0 = .ok (.iconst 1, 1) ∧ decode cX5_fewestSteps 1 = .ok (.istore_n 1, 1) ∧ decode cX5_fewestSteps 2 = .ok (.iconst 0, 1) ∧ decode cX5_fewestSteps 3 = .ok (.istore_n 2, 1) ∧ decode cX5_fewestSteps 4 = .ok (.iload_n 2, 1) ∧ decode cX5_fewestSteps 5 = .ok (.aload_n 0, 1) ∧ decode cX5_fewestSteps 6 = .ok (.getfield 15, 3) ∧ decode cX5_fewestSteps 9 = .ok (.if_icmp .ge 33, 3) ∧ decode cX5_fewestSteps 12 = .ok (.iload_n 1, 1) ∧ decode cX5_fewestSteps 13 = .ok (.aload_n 0, 1) ∧ decode cX5_fewestSteps 14 = .ok (.getfield 15, 3) ∧ decode cX5_fewestSteps 17 = .ok (.iconst 1, 1) := by decide +kernel
theorem dX5_fewestSteps_0 : decode cX5_fewestSteps 0 = .ok (.iconst 1, 1) := edX5_fewestSteps_0.1
theorem dX5_fewestSteps_1 : decode cX5_fewestSteps 1 = .ok (.istore_n 1, 1) := edX5_fewestSteps_0.2.1
theorem dX5_fewestSteps_2 : decode cX5_fewestSteps 2 = .ok (.iconst 0, 1) := edX5_fewestSteps_0.2.2.1
theorem dX5_fewestSteps_3 : decode cX5_fewestSteps 3 = .ok (.istore_n 2, 1) := edX5_fewestSteps_0.2.2.2.1
theorem dX5_fewestSteps_4 : decode cX5_fewestSteps 4 = .ok (.iload_n 2, 1) := edX5_fewestSteps_0.2.2.2.2.1
theorem dX5_fewestSteps_5 : decode cX5_fewestSteps 5 = .ok (.aload_n 0, 1) := edX5_fewestSteps_0.2.2.2.2.2.1
theorem dX5_fewestSteps_6 : decode cX5_fewestSteps 6 = .ok (.getfield 15, 3) := edX5_fewestSteps_0.2.2.2.2.2.2.1
theorem dX5_fewestSteps_9 : decode cX5_fewestSteps 9 = .ok (.if_icmp .ge 33, 3) := edX5_fewestSteps_0.2.2.2.2.2.2.2.1
theorem dX5_fewestSteps_12 : decode cX5_fewestSteps 12 = .ok (.iload_n 1, 1) := edX5_fewestSteps_0.2.2.2.2.2.2.2.2.1
theorem dX5_fewestSteps_13 : decode cX5_fewestSteps 13 = .ok (.aload_n 0, 1) := edX5_fewestSteps_0.2.2.2.2.2.2.2.2.2.1
theorem dX5_fewestSteps_14 : decode cX5_fewestSteps 14 = .ok (.getfield 15, 3) := edX5_fewestSteps_0.2.2.2.2.2.2.2.2.2.2.1
theorem dX5_fewestSteps_17 : decode cX5_fewestSteps 17 = .ok (.iconst 1, 1) := edX5_fewestSteps_0.2.2.2.2.2.2.2.2.2.2.2
set_option maxRecDepth 20000 in
theorem edX5_fewestSteps_18 : decode cX5_fewestSteps 18 = .ok (.isub, 1) ∧ decode cX5_fewestSteps 19 = .ok (.invokestatic 40, 3) ∧ decode cX5_fewestSteps 22 = .ok (.iconst 1, 1) ∧ decode cX5_fewestSteps 23 = .ok (.if_icmp .ne 5, 3) ∧ decode cX5_fewestSteps 26 = .ok (.iload_n 2, 1) ∧ decode cX5_fewestSteps 27 = .ok (.ireturn, 1) ∧ decode cX5_fewestSteps 28 = .ok (.iload_n 1, 1) ∧ decode cX5_fewestSteps 29 = .ok (.aload_n 0, 1) ∧ decode cX5_fewestSteps 30 = .ok (.iload_n 1, 1) ∧ decode cX5_fewestSteps 31 = .ok (.invokevirtual 44, 3) ∧ decode cX5_fewestSteps 34 = .ok (.ior, 1) ∧ decode cX5_fewestSteps 35 = .ok (.istore_n 1, 1) := by decide +kernel
theorem dX5_fewestSteps_18 : decode cX5_fewestSteps 18 = .ok (.isub, 1) := edX5_fewestSteps_18.1
theorem dX5_fewestSteps_19 : decode cX5_fewestSteps 19 = .ok (.invokestatic 40, 3) := edX5_fewestSteps_18.2.1
theorem dX5_fewestSteps_22 : decode cX5_fewestSteps 22 = .ok (.iconst 1, 1) := edX5_fewestSteps_18.2.2.1
theorem dX5_fewestSteps_23 : decode cX5_fewestSteps 23 = .ok (.if_icmp .ne 5, 3) := edX5_fewestSteps_18.2.2.2.1
theorem dX5_fewestSteps_26 : decode cX5_fewestSteps 26 = .ok (.iload_n 2, 1) := edX5_fewestSteps_18.2.2.2.2.1
theorem dX5_fewestSteps_27 : decode cX5_fewestSteps 27 = .ok (.ireturn, 1) := edX5_fewestSteps_18.2.2.2.2.2.1
theorem dX5_fewestSteps_28 : decode cX5_fewestSteps 28 = .ok (.iload_n 1, 1) := edX5_fewestSteps_18.2.2.2.2.2.2.1
theorem dX5_fewestSteps_29 : decode cX5_fewestSteps 29 = .ok (.aload_n 0, 1) := edX5_fewestSteps_18.2.2.2.2.2.2.2.1
theorem dX5_fewestSteps_30 : decode cX5_fewestSteps 30 = .ok (.iload_n 1, 1) := edX5_fewestSteps_18.2.2.2.2.2.2.2.2.1
theorem dX5_fewestSteps_31 : decode cX5_fewestSteps 31 = .ok (.invokevirtual 44, 3) := edX5_fewestSteps_18.2.2.2.2.2.2.2.2.2.1
theorem dX5_fewestSteps_34 : decode cX5_fewestSteps 34 = .ok (.ior, 1) := edX5_fewestSteps_18.2.2.2.2.2.2.2.2.2.2.1
theorem dX5_fewestSteps_35 : decode cX5_fewestSteps 35 = .ok (.istore_n 1, 1) := edX5_fewestSteps_18.2.2.2.2.2.2.2.2.2.2.2
set_option maxRecDepth 20000 in
theorem edX5_fewestSteps_36 : decode cX5_fewestSteps 36 = .ok (.iinc 2 1, 3) ∧ decode cX5_fewestSteps 39 = .ok (.goto (-35), 3) ∧ decode cX5_fewestSteps 42 = .ok (.bipush (-9), 2) ∧ decode cX5_fewestSteps 44 = .ok (.ireturn, 1) := by decide +kernel
theorem dX5_fewestSteps_36 : decode cX5_fewestSteps 36 = .ok (.iinc 2 1, 3) := edX5_fewestSteps_36.1
theorem dX5_fewestSteps_39 : decode cX5_fewestSteps 39 = .ok (.goto (-35), 3) := edX5_fewestSteps_36.2.1
theorem dX5_fewestSteps_42 : decode cX5_fewestSteps 42 = .ok (.bipush (-9), 2) := edX5_fewestSteps_36.2.2.1
theorem dX5_fewestSteps_44 : decode cX5_fewestSteps 44 = .ok (.ireturn, 1) := edX5_fewestSteps_36.2.2.2
noncomputable def voX5_fewestSteps : List Cond := [.fieldLink RX5 15 "EachOnHisCue$Net" "lines" "I", .initialized RX11, .static yX11_bitAt, .methodLink RX5 44 yX5_stepFrom, .instanceMethod yX5_stepFrom, .selects RX5 yX5_stepFrom yX5_stepFrom, .initialized RX5]
noncomputable def vsX5_fewestSteps : List Cond := .code yX5_fewestSteps cX5_fewestSteps 3 (some .int) :: (voX5_fewestSteps ++ (vsX11_bitAt ++ (vsX5_stepFrom ++ (wsX50))))
theorem zgX5_fewestSteps : zGd vsX5_fewestSteps := z_gdC rfl (z_gdA (z_gdO (by decide +kernel) : zGd voX5_fewestSteps) (z_gdA zgX11_bitAt (z_gdA zgX5_stepFrom (zgX5))))
theorem in_X5_fewestSteps_X5 : ∀ w ∈ wsX50, w ∈ vsX5_fewestSteps := fun _ h => List.mem_cons_of_mem _ (List.mem_append_right _ (List.mem_append_right _ (List.mem_append_right _ (h))))
theorem gw_X5_fewestSteps_X11_bitAt : GoodIn vsX5_fewestSteps vsX11_bitAt := z_gdI (fun _ h => List.mem_cons_of_mem _ (List.mem_append_right _ (List.mem_append_left _ h))) zgX11_bitAt
set_option maxRecDepth 20000 in
theorem gv_X5_fewestSteps_X11_bitAt_40 : GoodIn vsX5_fewestSteps (vsX11_bitAt) := gw_X5_fewestSteps_X11_bitAt
theorem gw_X5_fewestSteps_X5_stepFrom : GoodIn vsX5_fewestSteps vsX5_stepFrom := z_gdI (fun _ h => List.mem_cons_of_mem _ (List.mem_append_right _ (List.mem_append_right _ (List.mem_append_left _ h)))) zgX5_stepFrom
set_option maxRecDepth 20000 in
theorem gv_X5_fewestSteps_X5_stepFrom_44 : GoodIn vsX5_fewestSteps (wsV RX5 44 RX5 yX5_stepFrom vsX5_stepFrom) := goodIn_app (goodIn_of _ (by decide +kernel)) gw_X5_fewestSteps_X5_stepFrom
set_option maxHeartbeats 4000000 in
set_option maxRecDepth 100000 in
theorem rX5_fewestSteps (l : Launch) (dC : Nat → ClassId) (dI : Nat → Nat → Nat) (cI cQ : ClassId) (ha0 ha0_0 : Nat) (fa0_0 : Nat → Int32) (ia0_1 : Int32) (hia0_1l : 0 ≤ ia0_1.toInt) (hia0_1h : ia0_1.toInt ≤ 12) : Met l yX5_fewestSteps vsX5_fewestSteps ({ frames := 2, cells := 0, slots := 0, locals := 44 }) (va_Pc [.ref ha0] (zRB dC dI cI cQ [(ha0_0, .inl (cI, 12, .inl fa0_0)), (ha0, .inr (5, [.ref ha0_0, .int ia0_1]))])) (vp_Si (fun r => (-9) ≤ r.toInt ∧ r.toInt ≤ 11)) 0 0 (fun _ => False) := by
  refine Met.ofW (cc := cX5_fewestSteps) (maxL := 3) (ret := (some .int)) (by decide) rfl ?_
  intro p e s m args below meth c s₁ B hml hv
  obtain ⟨rfl, hP, hZ⟩ := hv
  obtain ⟨hK, hAO, hN⟩ := id hZ
  have hx := B.exec
  have hb := B.bytes
  have hr := B.returns
  have hts := atoms_spec (ws := vsX5_fewestSteps) B.pre
  have hown : s.vm.findClass RX5 = some m.cls := findClass_of_methodNamed B.named
  have hlocks := B.notSynchronized
  have hl := lv_entry ([.ref ha0]) (n := 3) (Nat.le_of_ble_eq_true rfl)
  rw [lg_entry_eq]
  generalize (lg_sl ([.ref ha0]) ++ List.replicate (3 - (lg_sl ([.ref ha0])).length) Slot.unset).toArray = ls at hl ⊢
  have hl : lv_has ls 3 [(0, .ref ha0)] := hl
  refine lv_iconst (v := 1) hx hb dX5_fewestSteps_0 (by decide) ?_
  refine lv_istore_n (lv' := [(1, .int 1), (0, .ref ha0)]) hx hb dX5_fewestSteps_1 rfl hl (by decide) rfl (fun ls hl => ?_)
  refine lv_iconst (v := 0) hx hb dX5_fewestSteps_2 (by decide) ?_
  refine lv_istore_n (lv' := [(2, .int 0), (1, .int 1), (0, .ref ha0)]) hx hb dX5_fewestSteps_3 rfl hl (by decide) rfl (fun ls hl => ?_)
  have hL75 : ∀ (n : Nat) (v1 : Int32) (v2 : Int32) (ls : Array Slot), 0 ≤ v1.toInt → v1.toInt ≤ 12 → (12 - v1.toInt).toNat < n → lv_has ls 3 [(2, .int v1), (1, .int v2), (0, .ref ha0)] → W p l e (headSpec vsX5_fewestSteps ({ frames := 2, cells := 0, slots := 0, locals := 44 })).room s m ([.ref ha0] : List Value).toArray below meth c s.heap [] 0 0 (MQ below (vp_Si (fun r => (-9) ≤ r.toInt ∧ r.toInt ≤ 11)) ([.ref ha0] : List Value).toArray s 0 0 (fun _ => False)) (F0 m 4 ls []) := by
    intro n
    induction n with
    | zero =>
      intro v1 v2 ls hi76_0 hi76_1 hi76_m hl
      exact absurd hi76_m (Nat.not_lt_zero _)
    | succ n ih =>
      intro v1 v2 ls hi76_0 hi76_1 hi76_m hl
      have ih77 := ih
      refine lv_iload_n hx hb dX5_fewestSteps_4 rfl (lv_at hl 0 rfl) ?_
      refine lv_aload_n hx hb dX5_fewestSteps_5 rfl (lv_at hl 2 rfl) ?_
      refine va_get (D := (dC, dI)) (ci := 5) (v := .int ia0_1) (C := RX5) (T := TX5) (N := 2) hx hb hts in_X5_fewestSteps_X5 hown hK hP 1 rfl rfl 1 (by decide) (hts (.fieldLink RX5 15 "EachOnHisCue$Net" "lines" "I") (by decide +kernel)) (fun _ h9 => h9) rfl dX5_fewestSteps_6 ?_
      refine lv_icmp_ge (tgt := 42) hx hb dX5_fewestSteps_9 (by decide) (fun hc => ?_) (fun hc => ?_)
      · have q78 : ia0_1.toInt ≤ v1.toInt := z_le rfl rfl hc
        refine lv_bipush (v := (-9)) hx hb dX5_fewestSteps_42 (by decide) ?_
        exact W.iret (v := (-9)) hx hb hr (fun t ht hW => ⟨(-9), rfl, ⟨by first | decide | omega, by first | decide | omega⟩, ht⟩) (fun _ h => absurd h List.not_mem_nil) dX5_fewestSteps_44
      · have q79 : v1.toInt < ia0_1.toInt := z_nle rfl rfl hc
        refine lv_iload_n hx hb dX5_fewestSteps_12 rfl (lv_at hl 1 rfl) ?_
        refine lv_aload_n hx hb dX5_fewestSteps_13 rfl (lv_at hl 2 rfl) ?_
        refine va_get (D := (dC, dI)) (ci := 5) (v := .int ia0_1) (C := RX5) (T := TX5) (N := 2) hx hb hts in_X5_fewestSteps_X5 hown hK hP 1 rfl rfl 1 (by decide) (hts (.fieldLink RX5 15 "EachOnHisCue$Net" "lines" "I") (by decide +kernel)) (fun _ h9 => h9) rfl dX5_fewestSteps_14 ?_
        refine lv_iconst (v := 1) hx hb dX5_fewestSteps_17 (by decide) ?_
        refine lv_isub hx hb dX5_fewestSteps_18 ?_
        refine lv_topi (fun y80 ey80 => ?_)
        have hy80 : y80.toInt = ia0_1.toInt - 1 := by rw [ey80]; exact z_sub rfl (by decide) (by omega) (by omega)
        refine z_rdi (va_runSN (As := [.int v2, .int y80]) (rest := []) ⟨hx, hb, hml, hown, hts⟩ (rX11_bitAt l dC dI cI cQ v2 y80) ⟨va_cnB (host := "EachOnHisCue") 2 hts gv_X5_fewestSteps_X11_bitAt_40 rfl rfl rfl (hN.2.2.2.2.2.2.2.2.2.1) (hts (.initialized RX11) (by decide +kernel)) (by decide +kernel) ⟨Nat.le_of_ble_eq_true rfl, Nat.le_of_ble_eq_true rfl⟩, hts (.static yX11_bitAt) (by decide +kernel), trivial⟩ ⟨z_blindR, z_preR hZ hP [] rfl⟩ rfl rfl hl.1 rfl (lv_room (Nat.le_of_ble_eq_true rfl)) dX5_fewestSteps_19 ⟨Nat.le_of_ble_eq_true rfl, Nat.le_of_ble_eq_true rfl⟩) (fun y81 hy81 => ?_)
        obtain ⟨hy81_0, hy81_1, hy81_2⟩ := hy81
        refine lv_iconst (v := 1) hx hb dX5_fewestSteps_22 (by decide) ?_
        refine lv_icmp_ne (tgt := 28) hx hb dX5_fewestSteps_23 (by decide) (fun hc => ?_) (fun hc => ?_)
        · have q82 : y81.toInt ≠ 1 := z_ne rfl (by decide) hc
          refine lv_iload_n hx hb dX5_fewestSteps_28 rfl (lv_at hl 1 rfl) ?_
          refine lv_aload_n hx hb dX5_fewestSteps_29 rfl (lv_at hl 2 rfl) ?_
          refine lv_iload_n hx hb dX5_fewestSteps_30 rfl (lv_at hl 1 rfl) ?_
          refine z_rdi (va_runV (As := [.int v2]) (rest := [.int v2]) ⟨hx, hb, hml, hown, hts⟩ (rX5_stepFrom l dC dI cI cQ ha0 ha0_0 fa0_0 ia0_1 hia0_1l hia0_1h v2) (cwV 1 hts gv_X5_fewestSteps_X5_stepFrom_44 rfl rfl rfl (by decide +kernel) ⟨Nat.le_of_ble_eq_true rfl, Nat.le_of_ble_eq_true rfl⟩) ⟨z_blindR, va_recv hK hP (ci := 5) (q0 := 1) rfl rfl, z_preR hZ hP [0, 1] rfl⟩ rfl rfl hl.1 rfl (lv_room (Nat.le_of_ble_eq_true rfl)) dX5_fewestSteps_31 ⟨Nat.le_of_ble_eq_true rfl, Nat.le_of_ble_eq_true rfl⟩) (fun y83 hy83 => ?_)
          obtain ⟨hy83_0, hy83_1⟩ := hy83
          refine lv_ior hx hb dX5_fewestSteps_34 ?_
          refine lv_topi (fun y84 ey84 => ?_)
          refine lv_istore_n (lv' := [(1, .int y84), (2, .int v1), (0, .ref ha0)]) hx hb dX5_fewestSteps_35 rfl hl (by decide) rfl (fun ls hl => ?_)
          obtain ⟨y85, ey85⟩ : ∃ y : Int32, y = v1 + 1 := ⟨_, rfl⟩
          refine lv_iinc (v := y85) (lv' := [(2, .int y85), (1, .int y84), (0, .ref ha0)]) hx hb dX5_fewestSteps_36 hl (k := 1) rfl (by rw [ey85]; rfl) (by decide) rfl (fun ls hl => ?_)
          have hy85 : y85.toInt = v1.toInt + 1 := by rw [ey85]; exact z_add rfl (by decide) (by omega) (by omega)
          refine lv_goto (tgt := 4) hx hb dX5_fewestSteps_39 (by decide) ?_
          exact ih77 y85 y84 ls (by first | decide | omega) (by first | decide | omega) (by omega) (lv_sub hl [0, 1, 2] rfl)
        · have q86 : y81.toInt = 1 := z_eq rfl (by decide) hc
          refine lv_iload_n hx hb dX5_fewestSteps_26 rfl (lv_at hl 0 rfl) ?_
          exact W.iret (v := v1) hx hb hr (fun t ht hW => ⟨v1, rfl, ⟨by first | decide | omega, by first | decide | omega⟩, ht⟩) (fun _ h => absurd h List.not_mem_nil) dX5_fewestSteps_27
  exact hL75 ((12 - (0 : Int32).toInt).toNat + 1) 0 1 ls (by decide) (by decide) (by omega) hl
set_option maxRecDepth 20000 in
theorem edX5_hasRound_0 : decode cX5_hasRound 0 = .ok (.aload_n 0, 1) ∧ decode cX5_hasRound 1 = .ok (.iconst 1, 1) ∧ decode cX5_hasRound 2 = .ok (.invokevirtual 48, 3) ∧ decode cX5_hasRound 5 = .ok (.istore_n 1, 1) ∧ decode cX5_hasRound 6 = .ok (.iconst 0, 1) ∧ decode cX5_hasRound 7 = .ok (.istore_n 2, 1) ∧ decode cX5_hasRound 8 = .ok (.iload_n 2, 1) ∧ decode cX5_hasRound 9 = .ok (.aload_n 0, 1) ∧ decode cX5_hasRound 10 = .ok (.getfield 15, 3) ∧ decode cX5_hasRound 13 = .ok (.if_icmp .ge 38, 3) ∧ decode cX5_hasRound 16 = .ok (.iload_n 1, 1) ∧ decode cX5_hasRound 17 = .ok (.iload_n 2, 1) := by decide +kernel
theorem dX5_hasRound_0 : decode cX5_hasRound 0 = .ok (.aload_n 0, 1) := edX5_hasRound_0.1
theorem dX5_hasRound_1 : decode cX5_hasRound 1 = .ok (.iconst 1, 1) := edX5_hasRound_0.2.1
theorem dX5_hasRound_2 : decode cX5_hasRound 2 = .ok (.invokevirtual 48, 3) := edX5_hasRound_0.2.2.1
theorem dX5_hasRound_5 : decode cX5_hasRound 5 = .ok (.istore_n 1, 1) := edX5_hasRound_0.2.2.2.1
theorem dX5_hasRound_6 : decode cX5_hasRound 6 = .ok (.iconst 0, 1) := edX5_hasRound_0.2.2.2.2.1
theorem dX5_hasRound_7 : decode cX5_hasRound 7 = .ok (.istore_n 2, 1) := edX5_hasRound_0.2.2.2.2.2.1
theorem dX5_hasRound_8 : decode cX5_hasRound 8 = .ok (.iload_n 2, 1) := edX5_hasRound_0.2.2.2.2.2.2.1
theorem dX5_hasRound_9 : decode cX5_hasRound 9 = .ok (.aload_n 0, 1) := edX5_hasRound_0.2.2.2.2.2.2.2.1
theorem dX5_hasRound_10 : decode cX5_hasRound 10 = .ok (.getfield 15, 3) := edX5_hasRound_0.2.2.2.2.2.2.2.2.1
theorem dX5_hasRound_13 : decode cX5_hasRound 13 = .ok (.if_icmp .ge 38, 3) := edX5_hasRound_0.2.2.2.2.2.2.2.2.2.1
theorem dX5_hasRound_16 : decode cX5_hasRound 16 = .ok (.iload_n 1, 1) := edX5_hasRound_0.2.2.2.2.2.2.2.2.2.2.1
theorem dX5_hasRound_17 : decode cX5_hasRound 17 = .ok (.iload_n 2, 1) := edX5_hasRound_0.2.2.2.2.2.2.2.2.2.2.2
set_option maxRecDepth 20000 in
theorem edX5_hasRound_18 : decode cX5_hasRound 18 = .ok (.invokestatic 40, 3) ∧ decode cX5_hasRound 21 = .ok (.iconst 1, 1) ∧ decode cX5_hasRound 22 = .ok (.if_icmp .ne 23, 3) ∧ decode cX5_hasRound 25 = .ok (.aload_n 0, 1) ∧ decode cX5_hasRound 26 = .ok (.aload_n 0, 1) ∧ decode cX5_hasRound 27 = .ok (.getfield 9, 3) ∧ decode cX5_hasRound 30 = .ok (.iload_n 2, 1) ∧ decode cX5_hasRound 31 = .ok (.iaload, 1) ∧ decode cX5_hasRound 32 = .ok (.invokevirtual 48, 3) ∧ decode cX5_hasRound 35 = .ok (.iload_n 2, 1) ∧ decode cX5_hasRound 36 = .ok (.invokestatic 40, 3) ∧ decode cX5_hasRound 39 = .ok (.iconst 1, 1) := by decide +kernel
theorem dX5_hasRound_18 : decode cX5_hasRound 18 = .ok (.invokestatic 40, 3) := edX5_hasRound_18.1
theorem dX5_hasRound_21 : decode cX5_hasRound 21 = .ok (.iconst 1, 1) := edX5_hasRound_18.2.1
theorem dX5_hasRound_22 : decode cX5_hasRound 22 = .ok (.if_icmp .ne 23, 3) := edX5_hasRound_18.2.2.1
theorem dX5_hasRound_25 : decode cX5_hasRound 25 = .ok (.aload_n 0, 1) := edX5_hasRound_18.2.2.2.1
theorem dX5_hasRound_26 : decode cX5_hasRound 26 = .ok (.aload_n 0, 1) := edX5_hasRound_18.2.2.2.2.1
theorem dX5_hasRound_27 : decode cX5_hasRound 27 = .ok (.getfield 9, 3) := edX5_hasRound_18.2.2.2.2.2.1
theorem dX5_hasRound_30 : decode cX5_hasRound 30 = .ok (.iload_n 2, 1) := edX5_hasRound_18.2.2.2.2.2.2.1
theorem dX5_hasRound_31 : decode cX5_hasRound 31 = .ok (.iaload, 1) := edX5_hasRound_18.2.2.2.2.2.2.2.1
theorem dX5_hasRound_32 : decode cX5_hasRound 32 = .ok (.invokevirtual 48, 3) := edX5_hasRound_18.2.2.2.2.2.2.2.2.1
theorem dX5_hasRound_35 : decode cX5_hasRound 35 = .ok (.iload_n 2, 1) := edX5_hasRound_18.2.2.2.2.2.2.2.2.2.1
theorem dX5_hasRound_36 : decode cX5_hasRound 36 = .ok (.invokestatic 40, 3) := edX5_hasRound_18.2.2.2.2.2.2.2.2.2.2.1
theorem dX5_hasRound_39 : decode cX5_hasRound 39 = .ok (.iconst 1, 1) := edX5_hasRound_18.2.2.2.2.2.2.2.2.2.2.2
set_option maxRecDepth 20000 in
theorem edX5_hasRound_40 : decode cX5_hasRound 40 = .ok (.if_icmp .ne 5, 3) ∧ decode cX5_hasRound 43 = .ok (.iconst 1, 1) ∧ decode cX5_hasRound 44 = .ok (.ireturn, 1) ∧ decode cX5_hasRound 45 = .ok (.iinc 2 1, 3) ∧ decode cX5_hasRound 48 = .ok (.goto (-40), 3) ∧ decode cX5_hasRound 51 = .ok (.iconst 0, 1) ∧ decode cX5_hasRound 52 = .ok (.ireturn, 1) := by decide +kernel
theorem dX5_hasRound_40 : decode cX5_hasRound 40 = .ok (.if_icmp .ne 5, 3) := edX5_hasRound_40.1
theorem dX5_hasRound_43 : decode cX5_hasRound 43 = .ok (.iconst 1, 1) := edX5_hasRound_40.2.1
theorem dX5_hasRound_44 : decode cX5_hasRound 44 = .ok (.ireturn, 1) := edX5_hasRound_40.2.2.1
theorem dX5_hasRound_45 : decode cX5_hasRound 45 = .ok (.iinc 2 1, 3) := edX5_hasRound_40.2.2.2.1
theorem dX5_hasRound_48 : decode cX5_hasRound 48 = .ok (.goto (-40), 3) := edX5_hasRound_40.2.2.2.2.1
theorem dX5_hasRound_51 : decode cX5_hasRound 51 = .ok (.iconst 0, 1) := edX5_hasRound_40.2.2.2.2.2.1
theorem dX5_hasRound_52 : decode cX5_hasRound 52 = .ok (.ireturn, 1) := edX5_hasRound_40.2.2.2.2.2.2
noncomputable def voX5_hasRound : List Cond := [.fieldLink RX5 15 "EachOnHisCue$Net" "lines" "I", .initialized RX11, .static yX11_bitAt, .fieldLink RX5 9 "EachOnHisCue$Net" "after" "[I", .methodLink RX5 48 yX5_reachedFrom, .instanceMethod yX5_reachedFrom, .selects RX5 yX5_reachedFrom yX5_reachedFrom, .initialized RX5]
noncomputable def vsX5_hasRound : List Cond := .code yX5_hasRound cX5_hasRound 3 (some .boolean) :: (voX5_hasRound ++ (vsX5_reachedFrom ++ (vsX11_bitAt ++ (wsX50))))
theorem zgX5_hasRound : zGd vsX5_hasRound := z_gdC rfl (z_gdA (z_gdO (by decide +kernel) : zGd voX5_hasRound) (z_gdA zgX5_reachedFrom (z_gdA zgX11_bitAt (zgX5))))
theorem in_X5_hasRound_X5 : ∀ w ∈ wsX50, w ∈ vsX5_hasRound := fun _ h => List.mem_cons_of_mem _ (List.mem_append_right _ (List.mem_append_right _ (List.mem_append_right _ (h))))
theorem gw_X5_hasRound_X5_reachedFrom : GoodIn vsX5_hasRound vsX5_reachedFrom := z_gdI (fun _ h => List.mem_cons_of_mem _ (List.mem_append_right _ (List.mem_append_left _ h))) zgX5_reachedFrom
set_option maxRecDepth 20000 in
theorem gv_X5_hasRound_X5_reachedFrom_48 : GoodIn vsX5_hasRound (wsV RX5 48 RX5 yX5_reachedFrom vsX5_reachedFrom) := goodIn_app (goodIn_of _ (by decide +kernel)) gw_X5_hasRound_X5_reachedFrom
theorem gw_X5_hasRound_X11_bitAt : GoodIn vsX5_hasRound vsX11_bitAt := z_gdI (fun _ h => List.mem_cons_of_mem _ (List.mem_append_right _ (List.mem_append_right _ (List.mem_append_left _ h)))) zgX11_bitAt
set_option maxRecDepth 20000 in
theorem gv_X5_hasRound_X11_bitAt_40 : GoodIn vsX5_hasRound (vsX11_bitAt) := gw_X5_hasRound_X11_bitAt
set_option maxHeartbeats 4000000 in
set_option maxRecDepth 100000 in
theorem rX5_hasRound (l : Launch) (dC : Nat → ClassId) (dI : Nat → Nat → Nat) (cI cQ : ClassId) (ha0 ha0_0 : Nat) (fa0_0 : Nat → Int32) (ia0_1 : Int32) (hia0_1l : 0 ≤ ia0_1.toInt) (hia0_1h : ia0_1.toInt ≤ 12) : Met l yX5_hasRound vsX5_hasRound ({ frames := 3, cells := 0, slots := 0, locals := 67 }) (va_Pc [.ref ha0] (zRB dC dI cI cQ [(ha0_0, .inl (cI, 12, .inl fa0_0)), (ha0, .inr (5, [.ref ha0_0, .int ia0_1]))])) (vp_Si (fun r => 0 ≤ r.toInt ∧ r.toInt ≤ 1)) 0 0 (fun _ => False) := by
  refine Met.ofW (cc := cX5_hasRound) (maxL := 3) (ret := (some .boolean)) (by decide) rfl ?_
  intro p e s m args below meth c s₁ B hml hv
  obtain ⟨rfl, hP, hZ⟩ := hv
  obtain ⟨hK, hAO, hN⟩ := id hZ
  have hx := B.exec
  have hb := B.bytes
  have hr := B.returns
  have hts := atoms_spec (ws := vsX5_hasRound) B.pre
  have hown : s.vm.findClass RX5 = some m.cls := findClass_of_methodNamed B.named
  have hlocks := B.notSynchronized
  have hl := lv_entry ([.ref ha0]) (n := 3) (Nat.le_of_ble_eq_true rfl)
  rw [lg_entry_eq]
  generalize (lg_sl ([.ref ha0]) ++ List.replicate (3 - (lg_sl ([.ref ha0])).length) Slot.unset).toArray = ls at hl ⊢
  have hl : lv_has ls 3 [(0, .ref ha0)] := hl
  refine lv_aload_n hx hb dX5_hasRound_0 rfl (lv_at hl 0 rfl) ?_
  refine lv_iconst (v := 1) hx hb dX5_hasRound_1 (by decide) ?_
  refine z_rdi (va_runV (As := [.int 1]) (rest := []) ⟨hx, hb, hml, hown, hts⟩ (rX5_reachedFrom l dC dI cI cQ ha0 ha0_0 fa0_0 ia0_1 hia0_1l hia0_1h 1) (cwV 1 hts gv_X5_hasRound_X5_reachedFrom_48 rfl rfl rfl (by decide +kernel) ⟨Nat.le_of_ble_eq_true rfl, Nat.le_of_ble_eq_true rfl⟩) ⟨z_blindR, va_recv hK hP (ci := 5) (q0 := 1) rfl rfl, z_preR hZ hP [0, 1] rfl⟩ rfl rfl hl.1 rfl (lv_room (Nat.le_of_ble_eq_true rfl)) dX5_hasRound_2 ⟨Nat.le_of_ble_eq_true rfl, Nat.le_of_ble_eq_true rfl⟩) (fun y1 hy1 => ?_)
  obtain ⟨hy1_0, hy1_1⟩ := hy1
  refine lv_istore_n (lv' := [(1, .int y1), (0, .ref ha0)]) hx hb dX5_hasRound_5 rfl hl (by decide) rfl (fun ls hl => ?_)
  refine lv_iconst (v := 0) hx hb dX5_hasRound_6 (by decide) ?_
  refine lv_istore_n (lv' := [(2, .int 0), (1, .int y1), (0, .ref ha0)]) hx hb dX5_hasRound_7 rfl hl (by decide) rfl (fun ls hl => ?_)
  have hL99 : ∀ (n : Nat) (v2 : Int32) (ls : Array Slot), 0 ≤ v2.toInt → v2.toInt ≤ 12 → (12 - v2.toInt).toNat < n → lv_has ls 3 [(2, .int v2), (1, .int y1), (0, .ref ha0)] → W p l e (headSpec vsX5_hasRound ({ frames := 3, cells := 0, slots := 0, locals := 67 })).room s m ([.ref ha0] : List Value).toArray below meth c s.heap [] 0 0 (MQ below (vp_Si (fun r => 0 ≤ r.toInt ∧ r.toInt ≤ 1)) ([.ref ha0] : List Value).toArray s 0 0 (fun _ => False)) (F0 m 8 ls []) := by
    intro n
    induction n with
    | zero =>
      intro v2 ls hi100_0 hi100_1 hi100_m hl
      exact absurd hi100_m (Nat.not_lt_zero _)
    | succ n ih =>
      intro v2 ls hi100_0 hi100_1 hi100_m hl
      have ih101 := ih
      refine lv_iload_n hx hb dX5_hasRound_8 rfl (lv_at hl 0 rfl) ?_
      refine lv_aload_n hx hb dX5_hasRound_9 rfl (lv_at hl 2 rfl) ?_
      refine va_get (D := (dC, dI)) (ci := 5) (v := .int ia0_1) (C := RX5) (T := TX5) (N := 2) hx hb hts in_X5_hasRound_X5 hown hK hP 1 rfl rfl 1 (by decide) (hts (.fieldLink RX5 15 "EachOnHisCue$Net" "lines" "I") (by decide +kernel)) (fun _ h9 => h9) rfl dX5_hasRound_10 ?_
      refine lv_icmp_ge (tgt := 51) hx hb dX5_hasRound_13 (by decide) (fun hc => ?_) (fun hc => ?_)
      · have q102 : ia0_1.toInt ≤ v2.toInt := z_le rfl rfl hc
        refine lv_iconst (v := 0) hx hb dX5_hasRound_51 (by decide) ?_
        exact W.zret (v := 0) hx hb hr (rfl) (fun t ht hW => ⟨0, rfl, ⟨by first | decide | omega, by first | decide | omega⟩, ht⟩) (fun _ h => absurd h List.not_mem_nil) dX5_hasRound_52
      · have q103 : v2.toInt < ia0_1.toInt := z_nle rfl rfl hc
        refine lv_iload_n hx hb dX5_hasRound_16 rfl (lv_at hl 1 rfl) ?_
        refine lv_iload_n hx hb dX5_hasRound_17 rfl (lv_at hl 0 rfl) ?_
        refine z_rdi (va_runSN (As := [.int y1, .int v2]) (rest := []) ⟨hx, hb, hml, hown, hts⟩ (rX11_bitAt l dC dI cI cQ y1 v2) ⟨va_cnB (host := "EachOnHisCue") 2 hts gv_X5_hasRound_X11_bitAt_40 rfl rfl rfl (hN.2.2.2.2.2.2.2.2.2.1) (hts (.initialized RX11) (by decide +kernel)) (by decide +kernel) ⟨Nat.le_of_ble_eq_true rfl, Nat.le_of_ble_eq_true rfl⟩, hts (.static yX11_bitAt) (by decide +kernel), trivial⟩ ⟨z_blindR, z_preR hZ hP [] rfl⟩ rfl rfl hl.1 rfl (lv_room (Nat.le_of_ble_eq_true rfl)) dX5_hasRound_18 ⟨Nat.le_of_ble_eq_true rfl, Nat.le_of_ble_eq_true rfl⟩) (fun y104 hy104 => ?_)
        obtain ⟨hy104_0, hy104_1, hy104_2⟩ := hy104
        refine lv_iconst (v := 1) hx hb dX5_hasRound_21 (by decide) ?_
        refine lv_icmp_ne (tgt := 45) hx hb dX5_hasRound_22 (by decide) (fun hc => ?_) (fun hc => ?_)
        · have q105 : y104.toInt ≠ 1 := z_ne rfl (by decide) hc
          obtain ⟨y106, ey106⟩ : ∃ y : Int32, y = v2 + 1 := ⟨_, rfl⟩
          refine lv_iinc (v := y106) (lv' := [(2, .int y106), (1, .int y1), (0, .ref ha0)]) hx hb dX5_hasRound_45 hl (k := 0) rfl (by rw [ey106]; rfl) (by decide) rfl (fun ls hl => ?_)
          have hy106 : y106.toInt = v2.toInt + 1 := by rw [ey106]; exact z_add rfl (by decide) (by omega) (by omega)
          refine lv_goto (tgt := 8) hx hb dX5_hasRound_48 (by decide) ?_
          exact ih101 y106 ls (by first | decide | omega) (by first | decide | omega) (by omega) (lv_sub hl [0, 1, 2] rfl)
        · have q107 : y104.toInt = 1 := z_eq rfl (by decide) hc
          refine lv_aload_n hx hb dX5_hasRound_25 rfl (lv_at hl 2 rfl) ?_
          refine lv_aload_n hx hb dX5_hasRound_26 rfl (lv_at hl 2 rfl) ?_
          refine va_get (D := (dC, dI)) (ci := 5) (v := .ref ha0_0) (C := RX5) (T := TX5) (N := 2) hx hb hts in_X5_hasRound_X5 hown hK hP 1 rfl rfl 0 (by decide) (hts (.fieldLink RX5 9 "EachOnHisCue$Net" "after" "[I") (by decide +kernel)) (fun _ h9 => h9) rfl dX5_hasRound_27 ?_
          refine lv_iload_n hx hb dX5_hasRound_30 rfl (lv_at hl 0 rfl) ?_
          refine va_iald hx hb hK hP 0 0 rfl rfl (z_in (by omega) (by omega)) dX5_hasRound_31 ?_
          refine lv_topi (fun y108 ey108 => ?_)
          have gy108 : y108.toInt = (fa0_0 (v2 : Int32).toNatClampNeg).toInt := by rw [ey108]
          refine z_rdi (va_runV (As := [.int y108]) (rest := []) ⟨hx, hb, hml, hown, hts⟩ (rX5_reachedFrom l dC dI cI cQ ha0 ha0_0 fa0_0 ia0_1 hia0_1l hia0_1h y108) (cwV 1 hts gv_X5_hasRound_X5_reachedFrom_48 rfl rfl rfl (by decide +kernel) ⟨Nat.le_of_ble_eq_true rfl, Nat.le_of_ble_eq_true rfl⟩) ⟨z_blindR, va_recv hK hP (ci := 5) (q0 := 1) rfl rfl, z_preR hZ hP [0, 1] rfl⟩ rfl rfl hl.1 rfl (lv_room (Nat.le_of_ble_eq_true rfl)) dX5_hasRound_32 ⟨Nat.le_of_ble_eq_true rfl, Nat.le_of_ble_eq_true rfl⟩) (fun y109 hy109 => ?_)
          obtain ⟨hy109_0, hy109_1⟩ := hy109
          refine lv_iload_n hx hb dX5_hasRound_35 rfl (lv_at hl 0 rfl) ?_
          refine z_rdi (va_runSN (As := [.int y109, .int v2]) (rest := []) ⟨hx, hb, hml, hown, hts⟩ (rX11_bitAt l dC dI cI cQ y109 v2) ⟨va_cnB (host := "EachOnHisCue") 2 hts gv_X5_hasRound_X11_bitAt_40 rfl rfl rfl (hN.2.2.2.2.2.2.2.2.2.1) (hts (.initialized RX11) (by decide +kernel)) (by decide +kernel) ⟨Nat.le_of_ble_eq_true rfl, Nat.le_of_ble_eq_true rfl⟩, hts (.static yX11_bitAt) (by decide +kernel), trivial⟩ ⟨z_blindR, z_preR hZ hP [] rfl⟩ rfl rfl hl.1 rfl (lv_room (Nat.le_of_ble_eq_true rfl)) dX5_hasRound_36 ⟨Nat.le_of_ble_eq_true rfl, Nat.le_of_ble_eq_true rfl⟩) (fun y110 hy110 => ?_)
          obtain ⟨hy110_0, hy110_1, hy110_2⟩ := hy110
          refine lv_iconst (v := 1) hx hb dX5_hasRound_39 (by decide) ?_
          refine lv_icmp_ne (tgt := 45) hx hb dX5_hasRound_40 (by decide) (fun hc => ?_) (fun hc => ?_)
          · have q111 : y110.toInt ≠ 1 := z_ne rfl (by decide) hc
            obtain ⟨y112, ey112⟩ : ∃ y : Int32, y = v2 + 1 := ⟨_, rfl⟩
            refine lv_iinc (v := y112) (lv' := [(2, .int y112), (1, .int y1), (0, .ref ha0)]) hx hb dX5_hasRound_45 hl (k := 0) rfl (by rw [ey112]; rfl) (by decide) rfl (fun ls hl => ?_)
            have hy112 : y112.toInt = v2.toInt + 1 := by rw [ey112]; exact z_add rfl (by decide) (by omega) (by omega)
            refine lv_goto (tgt := 8) hx hb dX5_hasRound_48 (by decide) ?_
            exact ih101 y112 ls (by first | decide | omega) (by first | decide | omega) (by omega) (lv_sub hl [0, 1, 2] rfl)
          · have q113 : y110.toInt = 1 := z_eq rfl (by decide) hc
            refine lv_iconst (v := 1) hx hb dX5_hasRound_43 (by decide) ?_
            exact W.zret (v := 1) hx hb hr (rfl) (fun t ht hW => ⟨1, rfl, ⟨by first | decide | omega, by first | decide | omega⟩, ht⟩) (fun _ h => absurd h List.not_mem_nil) dX5_hasRound_44
  exact hL99 ((12 - (0 : Int32).toInt).toNat + 1) 0 ls (by decide) (by decide) (by omega) hl
set_option maxRecDepth 20000 in
theorem edX5_isSure_0 : decode cX5_isSure 0 = .ok (.iconst 0, 1) ∧ decode cX5_isSure 1 = .ok (.istore_n 1, 1) ∧ decode cX5_isSure 2 = .ok (.iload_n 1, 1) ∧ decode cX5_isSure 3 = .ok (.aload_n 0, 1) ∧ decode cX5_isSure 4 = .ok (.getfield 15, 3) ∧ decode cX5_isSure 7 = .ok (.if_icmp .ge 41, 3) ∧ decode cX5_isSure 10 = .ok (.iload_n 1, 1) ∧ decode cX5_isSure 11 = .ok (.aload_n 0, 1) ∧ decode cX5_isSure 12 = .ok (.getfield 15, 3) ∧ decode cX5_isSure 15 = .ok (.iconst 1, 1) ∧ decode cX5_isSure 16 = .ok (.isub, 1) ∧ decode cX5_isSure 17 = .ok (.if_icmp .ne 7, 3) := by decide +kernel
theorem dX5_isSure_0 : decode cX5_isSure 0 = .ok (.iconst 0, 1) := edX5_isSure_0.1
theorem dX5_isSure_1 : decode cX5_isSure 1 = .ok (.istore_n 1, 1) := edX5_isSure_0.2.1
theorem dX5_isSure_2 : decode cX5_isSure 2 = .ok (.iload_n 1, 1) := edX5_isSure_0.2.2.1
theorem dX5_isSure_3 : decode cX5_isSure 3 = .ok (.aload_n 0, 1) := edX5_isSure_0.2.2.2.1
theorem dX5_isSure_4 : decode cX5_isSure 4 = .ok (.getfield 15, 3) := edX5_isSure_0.2.2.2.2.1
theorem dX5_isSure_7 : decode cX5_isSure 7 = .ok (.if_icmp .ge 41, 3) := edX5_isSure_0.2.2.2.2.2.1
theorem dX5_isSure_10 : decode cX5_isSure 10 = .ok (.iload_n 1, 1) := edX5_isSure_0.2.2.2.2.2.2.1
theorem dX5_isSure_11 : decode cX5_isSure 11 = .ok (.aload_n 0, 1) := edX5_isSure_0.2.2.2.2.2.2.2.1
theorem dX5_isSure_12 : decode cX5_isSure 12 = .ok (.getfield 15, 3) := edX5_isSure_0.2.2.2.2.2.2.2.2.1
theorem dX5_isSure_15 : decode cX5_isSure 15 = .ok (.iconst 1, 1) := edX5_isSure_0.2.2.2.2.2.2.2.2.2.1
theorem dX5_isSure_16 : decode cX5_isSure 16 = .ok (.isub, 1) := edX5_isSure_0.2.2.2.2.2.2.2.2.2.2.1
theorem dX5_isSure_17 : decode cX5_isSure 17 = .ok (.if_icmp .ne 7, 3) := edX5_isSure_0.2.2.2.2.2.2.2.2.2.2.2
set_option maxRecDepth 20000 in
theorem edX5_isSure_20 : decode cX5_isSure 20 = .ok (.iconst 0, 1) ∧ decode cX5_isSure 21 = .ok (.goto 8, 3) ∧ decode cX5_isSure 24 = .ok (.iconst 1, 1) ∧ decode cX5_isSure 25 = .ok (.iload_n 1, 1) ∧ decode cX5_isSure 26 = .ok (.iconst 1, 1) ∧ decode cX5_isSure 27 = .ok (.iadd, 1) ∧ decode cX5_isSure 28 = .ok (.ishl, 1) ∧ decode cX5_isSure 29 = .ok (.istore_n 2, 1) ∧ decode cX5_isSure 30 = .ok (.aload_n 0, 1) ∧ decode cX5_isSure 31 = .ok (.getfield 9, 3) ∧ decode cX5_isSure 34 = .ok (.iload_n 1, 1) ∧ decode cX5_isSure 35 = .ok (.iaload, 1) := by decide +kernel
theorem dX5_isSure_20 : decode cX5_isSure 20 = .ok (.iconst 0, 1) := edX5_isSure_20.1
theorem dX5_isSure_21 : decode cX5_isSure 21 = .ok (.goto 8, 3) := edX5_isSure_20.2.1
theorem dX5_isSure_24 : decode cX5_isSure 24 = .ok (.iconst 1, 1) := edX5_isSure_20.2.2.1
theorem dX5_isSure_25 : decode cX5_isSure 25 = .ok (.iload_n 1, 1) := edX5_isSure_20.2.2.2.1
theorem dX5_isSure_26 : decode cX5_isSure 26 = .ok (.iconst 1, 1) := edX5_isSure_20.2.2.2.2.1
theorem dX5_isSure_27 : decode cX5_isSure 27 = .ok (.iadd, 1) := edX5_isSure_20.2.2.2.2.2.1
theorem dX5_isSure_28 : decode cX5_isSure 28 = .ok (.ishl, 1) := edX5_isSure_20.2.2.2.2.2.2.1
theorem dX5_isSure_29 : decode cX5_isSure 29 = .ok (.istore_n 2, 1) := edX5_isSure_20.2.2.2.2.2.2.2.1
theorem dX5_isSure_30 : decode cX5_isSure 30 = .ok (.aload_n 0, 1) := edX5_isSure_20.2.2.2.2.2.2.2.2.1
theorem dX5_isSure_31 : decode cX5_isSure 31 = .ok (.getfield 9, 3) := edX5_isSure_20.2.2.2.2.2.2.2.2.2.1
theorem dX5_isSure_34 : decode cX5_isSure 34 = .ok (.iload_n 1, 1) := edX5_isSure_20.2.2.2.2.2.2.2.2.2.2.1
theorem dX5_isSure_35 : decode cX5_isSure 35 = .ok (.iaload, 1) := edX5_isSure_20.2.2.2.2.2.2.2.2.2.2.2
set_option maxRecDepth 20000 in
theorem edX5_isSure_36 : decode cX5_isSure 36 = .ok (.iload_n 2, 1) ∧ decode cX5_isSure 37 = .ok (.if_icmp .eq 5, 3) ∧ decode cX5_isSure 40 = .ok (.iconst 0, 1) ∧ decode cX5_isSure 41 = .ok (.ireturn, 1) ∧ decode cX5_isSure 42 = .ok (.iinc 1 1, 3) ∧ decode cX5_isSure 45 = .ok (.goto (-43), 3) ∧ decode cX5_isSure 48 = .ok (.iconst 1, 1) ∧ decode cX5_isSure 49 = .ok (.ireturn, 1) := by decide +kernel
theorem dX5_isSure_36 : decode cX5_isSure 36 = .ok (.iload_n 2, 1) := edX5_isSure_36.1
theorem dX5_isSure_37 : decode cX5_isSure 37 = .ok (.if_icmp .eq 5, 3) := edX5_isSure_36.2.1
theorem dX5_isSure_40 : decode cX5_isSure 40 = .ok (.iconst 0, 1) := edX5_isSure_36.2.2.1
theorem dX5_isSure_41 : decode cX5_isSure 41 = .ok (.ireturn, 1) := edX5_isSure_36.2.2.2.1
theorem dX5_isSure_42 : decode cX5_isSure 42 = .ok (.iinc 1 1, 3) := edX5_isSure_36.2.2.2.2.1
theorem dX5_isSure_45 : decode cX5_isSure 45 = .ok (.goto (-43), 3) := edX5_isSure_36.2.2.2.2.2.1
theorem dX5_isSure_48 : decode cX5_isSure 48 = .ok (.iconst 1, 1) := edX5_isSure_36.2.2.2.2.2.2.1
theorem dX5_isSure_49 : decode cX5_isSure 49 = .ok (.ireturn, 1) := edX5_isSure_36.2.2.2.2.2.2.2
noncomputable def voX5_isSure : List Cond := [.fieldLink RX5 15 "EachOnHisCue$Net" "lines" "I", .fieldLink RX5 9 "EachOnHisCue$Net" "after" "[I"]
noncomputable def vsX5_isSure : List Cond := .code yX5_isSure cX5_isSure 3 (some .boolean) :: (voX5_isSure ++ (wsX50))
theorem zgX5_isSure : zGd vsX5_isSure := z_gdC rfl (z_gdA (z_gdO (by decide +kernel) : zGd voX5_isSure) (zgX5))
theorem in_X5_isSure_X5 : ∀ w ∈ wsX50, w ∈ vsX5_isSure := fun _ h => List.mem_cons_of_mem _ (List.mem_append_right _ (h))
set_option maxHeartbeats 4000000 in
set_option maxRecDepth 100000 in
theorem rX5_isSure (l : Launch) (dC : Nat → ClassId) (dI : Nat → Nat → Nat) (cI cQ : ClassId) (ha0 ha0_0 : Nat) (fa0_0 : Nat → Int32) (ia0_1 : Int32) (hia0_1l : 0 ≤ ia0_1.toInt) (hia0_1h : ia0_1.toInt ≤ 12) : Met l yX5_isSure vsX5_isSure ({ frames := 0, cells := 0, slots := 0, locals := 0 }) (va_Pc [.ref ha0] (zRB dC dI cI cQ [(ha0_0, .inl (cI, 12, .inl fa0_0)), (ha0, .inr (5, [.ref ha0_0, .int ia0_1]))])) (vp_Si (fun r => 0 ≤ r.toInt ∧ r.toInt ≤ 1)) 0 0 (fun _ => False) := by
  refine Met.ofW (cc := cX5_isSure) (maxL := 3) (ret := (some .boolean)) (by decide) rfl ?_
  intro p e s m args below meth c s₁ B hml hv
  obtain ⟨rfl, hP, hZ⟩ := hv
  obtain ⟨hK, hAO, hN⟩ := id hZ
  have hx := B.exec
  have hb := B.bytes
  have hr := B.returns
  have hts := atoms_spec (ws := vsX5_isSure) B.pre
  have hown : s.vm.findClass RX5 = some m.cls := findClass_of_methodNamed B.named
  have hlocks := B.notSynchronized
  have hl := lv_entry ([.ref ha0]) (n := 3) (Nat.le_of_ble_eq_true rfl)
  rw [lg_entry_eq]
  generalize (lg_sl ([.ref ha0]) ++ List.replicate (3 - (lg_sl ([.ref ha0])).length) Slot.unset).toArray = ls at hl ⊢
  have hl : lv_has ls 3 [(0, .ref ha0)] := hl
  refine lv_iconst (v := 0) hx hb dX5_isSure_0 (by decide) ?_
  refine lv_istore_n (lv' := [(1, .int 0), (0, .ref ha0)]) hx hb dX5_isSure_1 rfl hl (by decide) rfl (fun ls hl => ?_)
  have hL122 : ∀ (n : Nat) (v1 : Int32) (ls : Array Slot), 0 ≤ v1.toInt → v1.toInt ≤ 12 → (12 - v1.toInt).toNat < n → lv_has ls 3 [(1, .int v1), (0, .ref ha0)] → W p l e (headSpec vsX5_isSure ({ frames := 0, cells := 0, slots := 0, locals := 0 })).room s m ([.ref ha0] : List Value).toArray below meth c s.heap [] 0 0 (MQ below (vp_Si (fun r => 0 ≤ r.toInt ∧ r.toInt ≤ 1)) ([.ref ha0] : List Value).toArray s 0 0 (fun _ => False)) (F0 m 2 ls []) := by
    intro n
    induction n with
    | zero =>
      intro v1 ls hi123_0 hi123_1 hi123_m hl
      exact absurd hi123_m (Nat.not_lt_zero _)
    | succ n ih =>
      intro v1 ls hi123_0 hi123_1 hi123_m hl
      have ih124 := ih
      refine lv_iload_n hx hb dX5_isSure_2 rfl (lv_at hl 0 rfl) ?_
      refine lv_aload_n hx hb dX5_isSure_3 rfl (lv_at hl 1 rfl) ?_
      refine va_get (D := (dC, dI)) (ci := 5) (v := .int ia0_1) (C := RX5) (T := TX5) (N := 2) hx hb hts in_X5_isSure_X5 hown hK hP 1 rfl rfl 1 (by decide) (hts (.fieldLink RX5 15 "EachOnHisCue$Net" "lines" "I") (by decide +kernel)) (fun _ h9 => h9) rfl dX5_isSure_4 ?_
      refine lv_icmp_ge (tgt := 48) hx hb dX5_isSure_7 (by decide) (fun hc => ?_) (fun hc => ?_)
      · have q125 : ia0_1.toInt ≤ v1.toInt := z_le rfl rfl hc
        refine lv_iconst (v := 1) hx hb dX5_isSure_48 (by decide) ?_
        exact W.zret (v := 1) hx hb hr (rfl) (fun t ht hW => ⟨1, rfl, ⟨by first | decide | omega, by first | decide | omega⟩, ht⟩) (fun _ h => absurd h List.not_mem_nil) dX5_isSure_49
      · have q126 : v1.toInt < ia0_1.toInt := z_nle rfl rfl hc
        refine lv_iload_n hx hb dX5_isSure_10 rfl (lv_at hl 0 rfl) ?_
        refine lv_aload_n hx hb dX5_isSure_11 rfl (lv_at hl 1 rfl) ?_
        refine va_get (D := (dC, dI)) (ci := 5) (v := .int ia0_1) (C := RX5) (T := TX5) (N := 2) hx hb hts in_X5_isSure_X5 hown hK hP 1 rfl rfl 1 (by decide) (hts (.fieldLink RX5 15 "EachOnHisCue$Net" "lines" "I") (by decide +kernel)) (fun _ h9 => h9) rfl dX5_isSure_12 ?_
        refine lv_iconst (v := 1) hx hb dX5_isSure_15 (by decide) ?_
        refine lv_isub hx hb dX5_isSure_16 ?_
        refine lv_topi (fun y127 ey127 => ?_)
        have hy127 : y127.toInt = ia0_1.toInt - 1 := by rw [ey127]; exact z_sub rfl (by decide) (by omega) (by omega)
        refine lv_icmp_ne (tgt := 24) hx hb dX5_isSure_17 (by decide) (fun hc => ?_) (fun hc => ?_)
        · have q128 : v1.toInt ≠ y127.toInt := z_ne rfl rfl hc
          refine lv_iconst (v := 1) hx hb dX5_isSure_24 (by decide) ?_
          refine lv_iload_n hx hb dX5_isSure_25 rfl (lv_at hl 0 rfl) ?_
          refine lv_iconst (v := 1) hx hb dX5_isSure_26 (by decide) ?_
          refine lv_iadd hx hb dX5_isSure_27 ?_
          refine lv_topi (fun y129 ey129 => ?_)
          have hy129 : y129.toInt = v1.toInt + 1 := by rw [ey129]; exact z_add rfl (by decide) (by omega) (by omega)
          refine lv_ishl hx hb dX5_isSure_28 ?_
          refine lv_topi (fun y130 ey130 => ?_)
          refine lv_istore_n (lv' := [(2, .int y130), (1, .int v1), (0, .ref ha0)]) hx hb dX5_isSure_29 rfl hl (by decide) rfl (fun ls hl => ?_)
          refine lv_aload_n hx hb dX5_isSure_30 rfl (lv_at hl 2 rfl) ?_
          refine va_get (D := (dC, dI)) (ci := 5) (v := .ref ha0_0) (C := RX5) (T := TX5) (N := 2) hx hb hts in_X5_isSure_X5 hown hK hP 1 rfl rfl 0 (by decide) (hts (.fieldLink RX5 9 "EachOnHisCue$Net" "after" "[I") (by decide +kernel)) (fun _ h9 => h9) rfl dX5_isSure_31 ?_
          refine lv_iload_n hx hb dX5_isSure_34 rfl (lv_at hl 1 rfl) ?_
          refine va_iald hx hb hK hP 0 0 rfl rfl (z_in (by omega) (by omega)) dX5_isSure_35 ?_
          refine lv_topi (fun y131 ey131 => ?_)
          have gy131 : y131.toInt = (fa0_0 (v1 : Int32).toNatClampNeg).toInt := by rw [ey131]
          refine lv_iload_n hx hb dX5_isSure_36 rfl (lv_at hl 0 rfl) ?_
          refine lv_icmp_eq (tgt := 42) hx hb dX5_isSure_37 (by decide) (fun hc => ?_) (fun hc => ?_)
          · have q132 : y131.toInt = y130.toInt := z_eq rfl rfl hc
            obtain ⟨y133, ey133⟩ : ∃ y : Int32, y = v1 + 1 := ⟨_, rfl⟩
            refine lv_iinc (v := y133) (lv' := [(1, .int y133), (2, .int y130), (0, .ref ha0)]) hx hb dX5_isSure_42 hl (k := 1) rfl (by rw [ey133]; rfl) (by decide) rfl (fun ls hl => ?_)
            have hy133 : y133.toInt = v1.toInt + 1 := by rw [ey133]; exact z_add rfl (by decide) (by omega) (by omega)
            refine lv_goto (tgt := 2) hx hb dX5_isSure_45 (by decide) ?_
            exact ih124 y133 ls (by first | decide | omega) (by first | decide | omega) (by omega) (lv_sub hl [0, 2] rfl)
          · have q134 : y131.toInt ≠ y130.toInt := z_ne rfl rfl hc
            refine lv_iconst (v := 0) hx hb dX5_isSure_40 (by decide) ?_
            exact W.zret (v := 0) hx hb hr (rfl) (fun t ht hW => ⟨0, rfl, ⟨by first | decide | omega, by first | decide | omega⟩, ht⟩) (fun _ h => absurd h List.not_mem_nil) dX5_isSure_41
        · have q135 : v1.toInt = y127.toInt := z_eq rfl rfl hc
          refine lv_iconst (v := 0) hx hb dX5_isSure_20 (by decide) ?_
          refine lv_goto (tgt := 29) hx hb dX5_isSure_21 (by decide) ?_
          refine lv_istore_n (lv' := [(2, .int 0), (1, .int v1), (0, .ref ha0)]) hx hb dX5_isSure_29 rfl hl (by decide) rfl (fun ls hl => ?_)
          refine lv_aload_n hx hb dX5_isSure_30 rfl (lv_at hl 2 rfl) ?_
          refine va_get (D := (dC, dI)) (ci := 5) (v := .ref ha0_0) (C := RX5) (T := TX5) (N := 2) hx hb hts in_X5_isSure_X5 hown hK hP 1 rfl rfl 0 (by decide) (hts (.fieldLink RX5 9 "EachOnHisCue$Net" "after" "[I") (by decide +kernel)) (fun _ h9 => h9) rfl dX5_isSure_31 ?_
          refine lv_iload_n hx hb dX5_isSure_34 rfl (lv_at hl 1 rfl) ?_
          refine va_iald hx hb hK hP 0 0 rfl rfl (z_in (by omega) (by omega)) dX5_isSure_35 ?_
          refine lv_topi (fun y136 ey136 => ?_)
          have gy136 : y136.toInt = (fa0_0 (v1 : Int32).toNatClampNeg).toInt := by rw [ey136]
          refine lv_iload_n hx hb dX5_isSure_36 rfl (lv_at hl 0 rfl) ?_
          refine lv_icmp_eq (tgt := 42) hx hb dX5_isSure_37 (by decide) (fun hc => ?_) (fun hc => ?_)
          · have q137 : y136.toInt = 0 := z_eq rfl (by decide) hc
            obtain ⟨y138, ey138⟩ : ∃ y : Int32, y = v1 + 1 := ⟨_, rfl⟩
            refine lv_iinc (v := y138) (lv' := [(1, .int y138), (2, .int 0), (0, .ref ha0)]) hx hb dX5_isSure_42 hl (k := 1) rfl (by rw [ey138]; rfl) (by decide) rfl (fun ls hl => ?_)
            have hy138 : y138.toInt = v1.toInt + 1 := by rw [ey138]; exact z_add rfl (by decide) (by omega) (by omega)
            refine lv_goto (tgt := 2) hx hb dX5_isSure_45 (by decide) ?_
            exact ih124 y138 ls (by first | decide | omega) (by first | decide | omega) (by omega) (lv_sub hl [0, 2] rfl)
          · have q139 : y136.toInt ≠ 0 := z_ne rfl (by decide) hc
            refine lv_iconst (v := 0) hx hb dX5_isSure_40 (by decide) ?_
            exact W.zret (v := 0) hx hb hr (rfl) (fun t ht hW => ⟨0, rfl, ⟨by first | decide | omega, by first | decide | omega⟩, ht⟩) (fun _ h => absurd h List.not_mem_nil) dX5_isSure_41
  exact hL122 ((12 - (0 : Int32).toInt).toNat + 1) 0 ls (by decide) (by decide) (by omega) hl
set_option maxRecDepth 20000 in
theorem edX5_freeBehind_0 : decode cX5_freeBehind 0 = .ok (.iload_n 1, 1) ∧ decode cX5_freeBehind 1 = .ok (.ifCond .lt 24, 3) ∧ decode cX5_freeBehind 4 = .ok (.iload_n 1, 1) ∧ decode cX5_freeBehind 5 = .ok (.aload_n 0, 1) ∧ decode cX5_freeBehind 6 = .ok (.getfield 15, 3) ∧ decode cX5_freeBehind 9 = .ok (.if_icmp .ge 16, 3) ∧ decode cX5_freeBehind 12 = .ok (.aload_n 0, 1) ∧ decode cX5_freeBehind 13 = .ok (.getfield 9, 3) ∧ decode cX5_freeBehind 16 = .ok (.iload_n 1, 1) ∧ decode cX5_freeBehind 17 = .ok (.iaload, 1) ∧ decode cX5_freeBehind 18 = .ok (.iload_n 2, 1) ∧ decode cX5_freeBehind 19 = .ok (.iconst (-1), 1) := by decide +kernel
theorem dX5_freeBehind_0 : decode cX5_freeBehind 0 = .ok (.iload_n 1, 1) := edX5_freeBehind_0.1
theorem dX5_freeBehind_1 : decode cX5_freeBehind 1 = .ok (.ifCond .lt 24, 3) := edX5_freeBehind_0.2.1
theorem dX5_freeBehind_4 : decode cX5_freeBehind 4 = .ok (.iload_n 1, 1) := edX5_freeBehind_0.2.2.1
theorem dX5_freeBehind_5 : decode cX5_freeBehind 5 = .ok (.aload_n 0, 1) := edX5_freeBehind_0.2.2.2.1
theorem dX5_freeBehind_6 : decode cX5_freeBehind 6 = .ok (.getfield 15, 3) := edX5_freeBehind_0.2.2.2.2.1
theorem dX5_freeBehind_9 : decode cX5_freeBehind 9 = .ok (.if_icmp .ge 16, 3) := edX5_freeBehind_0.2.2.2.2.2.1
theorem dX5_freeBehind_12 : decode cX5_freeBehind 12 = .ok (.aload_n 0, 1) := edX5_freeBehind_0.2.2.2.2.2.2.1
theorem dX5_freeBehind_13 : decode cX5_freeBehind 13 = .ok (.getfield 9, 3) := edX5_freeBehind_0.2.2.2.2.2.2.2.1
theorem dX5_freeBehind_16 : decode cX5_freeBehind 16 = .ok (.iload_n 1, 1) := edX5_freeBehind_0.2.2.2.2.2.2.2.2.1
theorem dX5_freeBehind_17 : decode cX5_freeBehind 17 = .ok (.iaload, 1) := edX5_freeBehind_0.2.2.2.2.2.2.2.2.2.1
theorem dX5_freeBehind_18 : decode cX5_freeBehind 18 = .ok (.iload_n 2, 1) := edX5_freeBehind_0.2.2.2.2.2.2.2.2.2.2.1
theorem dX5_freeBehind_19 : decode cX5_freeBehind 19 = .ok (.iconst (-1), 1) := edX5_freeBehind_0.2.2.2.2.2.2.2.2.2.2.2
set_option maxRecDepth 20000 in
theorem edX5_freeBehind_20 : decode cX5_freeBehind 20 = .ok (.ixor, 1) ∧ decode cX5_freeBehind 21 = .ok (.iand, 1) ∧ decode cX5_freeBehind 22 = .ok (.goto 4, 3) ∧ decode cX5_freeBehind 25 = .ok (.iconst 0, 1) ∧ decode cX5_freeBehind 26 = .ok (.ireturn, 1) := by decide +kernel
theorem dX5_freeBehind_20 : decode cX5_freeBehind 20 = .ok (.ixor, 1) := edX5_freeBehind_20.1
theorem dX5_freeBehind_21 : decode cX5_freeBehind 21 = .ok (.iand, 1) := edX5_freeBehind_20.2.1
theorem dX5_freeBehind_22 : decode cX5_freeBehind 22 = .ok (.goto 4, 3) := edX5_freeBehind_20.2.2.1
theorem dX5_freeBehind_25 : decode cX5_freeBehind 25 = .ok (.iconst 0, 1) := edX5_freeBehind_20.2.2.2.1
theorem dX5_freeBehind_26 : decode cX5_freeBehind 26 = .ok (.ireturn, 1) := edX5_freeBehind_20.2.2.2.2
noncomputable def voX5_freeBehind : List Cond := [.fieldLink RX5 15 "EachOnHisCue$Net" "lines" "I", .fieldLink RX5 9 "EachOnHisCue$Net" "after" "[I"]
noncomputable def vsX5_freeBehind : List Cond := .code yX5_freeBehind cX5_freeBehind 3 (some .int) :: (voX5_freeBehind ++ (wsX50))
theorem zgX5_freeBehind : zGd vsX5_freeBehind := z_gdC rfl (z_gdA (z_gdO (by decide +kernel) : zGd voX5_freeBehind) (zgX5))
theorem in_X5_freeBehind_X5 : ∀ w ∈ wsX50, w ∈ vsX5_freeBehind := fun _ h => List.mem_cons_of_mem _ (List.mem_append_right _ (h))
set_option maxHeartbeats 4000000 in
set_option maxRecDepth 100000 in
theorem rX5_freeBehind (l : Launch) (dC : Nat → ClassId) (dI : Nat → Nat → Nat) (cI cQ : ClassId) (ha0 ha0_0 : Nat) (fa0_0 : Nat → Int32) (ia0_1 : Int32) (hia0_1l : 0 ≤ ia0_1.toInt) (hia0_1h : ia0_1.toInt ≤ 12) (p1 : Int32) (p2 : Int32) : Met l yX5_freeBehind vsX5_freeBehind ({ frames := 0, cells := 0, slots := 0, locals := 0 }) (va_Pc [.ref ha0, .int p1, .int p2] (zRB dC dI cI cQ [(ha0_0, .inl (cI, 12, .inl fa0_0)), (ha0, .inr (5, [.ref ha0_0, .int ia0_1]))])) (vp_Si (fun r => (-2147483648) ≤ r.toInt ∧ r.toInt ≤ 2147483647)) 0 0 (fun _ => False) := by
  refine Met.ofW (cc := cX5_freeBehind) (maxL := 3) (ret := (some .int)) (by decide) rfl ?_
  intro p e s m args below meth c s₁ B hml hv
  obtain ⟨rfl, hP, hZ⟩ := hv
  obtain ⟨hK, hAO, hN⟩ := id hZ
  have hx := B.exec
  have hb := B.bytes
  have hr := B.returns
  have hts := atoms_spec (ws := vsX5_freeBehind) B.pre
  have hown : s.vm.findClass RX5 = some m.cls := findClass_of_methodNamed B.named
  have hlocks := B.notSynchronized
  have hp1l := z_lo p1
  have hp1h := z_hi p1
  have hp2l := z_lo p2
  have hp2h := z_hi p2
  have hl := lv_entry ([.ref ha0, .int p1, .int p2]) (n := 3) (Nat.le_of_ble_eq_true rfl)
  rw [lg_entry_eq]
  generalize (lg_sl ([.ref ha0, .int p1, .int p2]) ++ List.replicate (3 - (lg_sl ([.ref ha0, .int p1, .int p2])).length) Slot.unset).toArray = ls at hl ⊢
  have hl : lv_has ls 3 [(0, .ref ha0), (1, .int p1), (2, .int p2)] := hl
  refine lv_iload_n hx hb dX5_freeBehind_0 rfl (lv_at hl 1 rfl) ?_
  refine lv_if_lt (tgt := 25) hx hb dX5_freeBehind_1 (by decide) (fun hc => ?_) (fun hc => ?_)
  · have q1 : p1.toInt < 0 := z_lt rfl (by decide) hc
    refine lv_iconst (v := 0) hx hb dX5_freeBehind_25 (by decide) ?_
    exact W.iret (v := 0) hx hb hr (fun t ht hW => ⟨0, rfl, ⟨z_lo _, z_hi _⟩, ht⟩) (fun _ h => absurd h List.not_mem_nil) dX5_freeBehind_26
  · have q2 : 0 ≤ p1.toInt := z_nlt rfl (by decide) hc
    refine lv_iload_n hx hb dX5_freeBehind_4 rfl (lv_at hl 1 rfl) ?_
    refine lv_aload_n hx hb dX5_freeBehind_5 rfl (lv_at hl 0 rfl) ?_
    refine va_get (D := (dC, dI)) (ci := 5) (v := .int ia0_1) (C := RX5) (T := TX5) (N := 2) hx hb hts in_X5_freeBehind_X5 hown hK hP 1 rfl rfl 1 (by decide) (hts (.fieldLink RX5 15 "EachOnHisCue$Net" "lines" "I") (by decide +kernel)) (fun _ h9 => h9) rfl dX5_freeBehind_6 ?_
    refine lv_icmp_ge (tgt := 25) hx hb dX5_freeBehind_9 (by decide) (fun hc => ?_) (fun hc => ?_)
    · have q3 : ia0_1.toInt ≤ p1.toInt := z_le rfl rfl hc
      refine lv_iconst (v := 0) hx hb dX5_freeBehind_25 (by decide) ?_
      exact W.iret (v := 0) hx hb hr (fun t ht hW => ⟨0, rfl, ⟨z_lo _, z_hi _⟩, ht⟩) (fun _ h => absurd h List.not_mem_nil) dX5_freeBehind_26
    · have q4 : p1.toInt < ia0_1.toInt := z_nle rfl rfl hc
      refine lv_aload_n hx hb dX5_freeBehind_12 rfl (lv_at hl 0 rfl) ?_
      refine va_get (D := (dC, dI)) (ci := 5) (v := .ref ha0_0) (C := RX5) (T := TX5) (N := 2) hx hb hts in_X5_freeBehind_X5 hown hK hP 1 rfl rfl 0 (by decide) (hts (.fieldLink RX5 9 "EachOnHisCue$Net" "after" "[I") (by decide +kernel)) (fun _ h9 => h9) rfl dX5_freeBehind_13 ?_
      refine lv_iload_n hx hb dX5_freeBehind_16 rfl (lv_at hl 1 rfl) ?_
      refine va_iald hx hb hK hP 0 0 rfl rfl (z_in (by omega) (by omega)) dX5_freeBehind_17 ?_
      refine lv_topi (fun y5 ey5 => ?_)
      have gy5 : y5.toInt = (fa0_0 (p1 : Int32).toNatClampNeg).toInt := by rw [ey5]
      refine lv_iload_n hx hb dX5_freeBehind_18 rfl (lv_at hl 2 rfl) ?_
      refine lv_iconst (v := (-1)) hx hb dX5_freeBehind_19 (by decide) ?_
      refine lv_ixor hx hb dX5_freeBehind_20 ?_
      refine lv_topi (fun y6 ey6 => ?_)
      refine lv_iand hx hb dX5_freeBehind_21 ?_
      refine lv_topi (fun y7 ey7 => ?_)
      refine lv_goto (tgt := 26) hx hb dX5_freeBehind_22 (by decide) ?_
      exact W.iret (v := y7) hx hb hr (fun t ht hW => ⟨y7, rfl, ⟨z_lo _, z_hi _⟩, ht⟩) (fun _ h => absurd h List.not_mem_nil) dX5_freeBehind_26
set_option maxRecDepth 20000 in
theorem edX5_canFollow_0 : decode cX5_canFollow 0 = .ok (.iload_n 1, 1) ∧ decode cX5_canFollow 1 = .ok (.ifCond .lt 41, 3) ∧ decode cX5_canFollow 4 = .ok (.iload_n 1, 1) ∧ decode cX5_canFollow 5 = .ok (.aload_n 0, 1) ∧ decode cX5_canFollow 6 = .ok (.getfield 15, 3) ∧ decode cX5_canFollow 9 = .ok (.if_icmp .ge 33, 3) ∧ decode cX5_canFollow 12 = .ok (.iload_n 2, 1) ∧ decode cX5_canFollow 13 = .ok (.ifCond .lt 29, 3) ∧ decode cX5_canFollow 16 = .ok (.iload_n 2, 1) ∧ decode cX5_canFollow 17 = .ok (.aload_n 0, 1) ∧ decode cX5_canFollow 18 = .ok (.getfield 15, 3) ∧ decode cX5_canFollow 21 = .ok (.if_icmp .ge 21, 3) := by decide +kernel
theorem dX5_canFollow_0 : decode cX5_canFollow 0 = .ok (.iload_n 1, 1) := edX5_canFollow_0.1
theorem dX5_canFollow_1 : decode cX5_canFollow 1 = .ok (.ifCond .lt 41, 3) := edX5_canFollow_0.2.1
theorem dX5_canFollow_4 : decode cX5_canFollow 4 = .ok (.iload_n 1, 1) := edX5_canFollow_0.2.2.1
theorem dX5_canFollow_5 : decode cX5_canFollow 5 = .ok (.aload_n 0, 1) := edX5_canFollow_0.2.2.2.1
theorem dX5_canFollow_6 : decode cX5_canFollow 6 = .ok (.getfield 15, 3) := edX5_canFollow_0.2.2.2.2.1
theorem dX5_canFollow_9 : decode cX5_canFollow 9 = .ok (.if_icmp .ge 33, 3) := edX5_canFollow_0.2.2.2.2.2.1
theorem dX5_canFollow_12 : decode cX5_canFollow 12 = .ok (.iload_n 2, 1) := edX5_canFollow_0.2.2.2.2.2.2.1
theorem dX5_canFollow_13 : decode cX5_canFollow 13 = .ok (.ifCond .lt 29, 3) := edX5_canFollow_0.2.2.2.2.2.2.2.1
theorem dX5_canFollow_16 : decode cX5_canFollow 16 = .ok (.iload_n 2, 1) := edX5_canFollow_0.2.2.2.2.2.2.2.2.1
theorem dX5_canFollow_17 : decode cX5_canFollow 17 = .ok (.aload_n 0, 1) := edX5_canFollow_0.2.2.2.2.2.2.2.2.2.1
theorem dX5_canFollow_18 : decode cX5_canFollow 18 = .ok (.getfield 15, 3) := edX5_canFollow_0.2.2.2.2.2.2.2.2.2.2.1
theorem dX5_canFollow_21 : decode cX5_canFollow 21 = .ok (.if_icmp .ge 21, 3) := edX5_canFollow_0.2.2.2.2.2.2.2.2.2.2.2
set_option maxRecDepth 20000 in
theorem edX5_canFollow_24 : decode cX5_canFollow 24 = .ok (.aload_n 0, 1) ∧ decode cX5_canFollow 25 = .ok (.getfield 9, 3) ∧ decode cX5_canFollow 28 = .ok (.iload_n 1, 1) ∧ decode cX5_canFollow 29 = .ok (.iaload, 1) ∧ decode cX5_canFollow 30 = .ok (.iload_n 2, 1) ∧ decode cX5_canFollow 31 = .ok (.invokestatic 40, 3) ∧ decode cX5_canFollow 34 = .ok (.iconst 1, 1) ∧ decode cX5_canFollow 35 = .ok (.if_icmp .ne 7, 3) ∧ decode cX5_canFollow 38 = .ok (.iconst 1, 1) ∧ decode cX5_canFollow 39 = .ok (.goto 4, 3) ∧ decode cX5_canFollow 42 = .ok (.iconst 0, 1) ∧ decode cX5_canFollow 43 = .ok (.ireturn, 1) := by decide +kernel
theorem dX5_canFollow_24 : decode cX5_canFollow 24 = .ok (.aload_n 0, 1) := edX5_canFollow_24.1
theorem dX5_canFollow_25 : decode cX5_canFollow 25 = .ok (.getfield 9, 3) := edX5_canFollow_24.2.1
theorem dX5_canFollow_28 : decode cX5_canFollow 28 = .ok (.iload_n 1, 1) := edX5_canFollow_24.2.2.1
theorem dX5_canFollow_29 : decode cX5_canFollow 29 = .ok (.iaload, 1) := edX5_canFollow_24.2.2.2.1
theorem dX5_canFollow_30 : decode cX5_canFollow 30 = .ok (.iload_n 2, 1) := edX5_canFollow_24.2.2.2.2.1
theorem dX5_canFollow_31 : decode cX5_canFollow 31 = .ok (.invokestatic 40, 3) := edX5_canFollow_24.2.2.2.2.2.1
theorem dX5_canFollow_34 : decode cX5_canFollow 34 = .ok (.iconst 1, 1) := edX5_canFollow_24.2.2.2.2.2.2.1
theorem dX5_canFollow_35 : decode cX5_canFollow 35 = .ok (.if_icmp .ne 7, 3) := edX5_canFollow_24.2.2.2.2.2.2.2.1
theorem dX5_canFollow_38 : decode cX5_canFollow 38 = .ok (.iconst 1, 1) := edX5_canFollow_24.2.2.2.2.2.2.2.2.1
theorem dX5_canFollow_39 : decode cX5_canFollow 39 = .ok (.goto 4, 3) := edX5_canFollow_24.2.2.2.2.2.2.2.2.2.1
theorem dX5_canFollow_42 : decode cX5_canFollow 42 = .ok (.iconst 0, 1) := edX5_canFollow_24.2.2.2.2.2.2.2.2.2.2.1
theorem dX5_canFollow_43 : decode cX5_canFollow 43 = .ok (.ireturn, 1) := edX5_canFollow_24.2.2.2.2.2.2.2.2.2.2.2
noncomputable def voX5_canFollow : List Cond := [.fieldLink RX5 15 "EachOnHisCue$Net" "lines" "I", .fieldLink RX5 9 "EachOnHisCue$Net" "after" "[I", .initialized RX11, .static yX11_bitAt]
noncomputable def vsX5_canFollow : List Cond := .code yX5_canFollow cX5_canFollow 3 (some .boolean) :: (voX5_canFollow ++ (vsX11_bitAt ++ (wsX50)))
theorem zgX5_canFollow : zGd vsX5_canFollow := z_gdC rfl (z_gdA (z_gdO (by decide +kernel) : zGd voX5_canFollow) (z_gdA zgX11_bitAt (zgX5)))
theorem in_X5_canFollow_X5 : ∀ w ∈ wsX50, w ∈ vsX5_canFollow := fun _ h => List.mem_cons_of_mem _ (List.mem_append_right _ (List.mem_append_right _ (h)))
theorem gw_X5_canFollow_X11_bitAt : GoodIn vsX5_canFollow vsX11_bitAt := z_gdI (fun _ h => List.mem_cons_of_mem _ (List.mem_append_right _ (List.mem_append_left _ h))) zgX11_bitAt
set_option maxRecDepth 20000 in
theorem gv_X5_canFollow_X11_bitAt_40 : GoodIn vsX5_canFollow (vsX11_bitAt) := gw_X5_canFollow_X11_bitAt
set_option maxHeartbeats 4000000 in
set_option maxRecDepth 100000 in
theorem rX5_canFollow (l : Launch) (dC : Nat → ClassId) (dI : Nat → Nat → Nat) (cI cQ : ClassId) (ha0 ha0_0 : Nat) (fa0_0 : Nat → Int32) (ia0_1 : Int32) (hia0_1l : 0 ≤ ia0_1.toInt) (hia0_1h : ia0_1.toInt ≤ 12) (p1 : Int32) (p2 : Int32) : Met l yX5_canFollow vsX5_canFollow ({ frames := 1, cells := 0, slots := 0, locals := 21 }) (va_Pc [.ref ha0, .int p1, .int p2] (zRB dC dI cI cQ [(ha0_0, .inl (cI, 12, .inl fa0_0)), (ha0, .inr (5, [.ref ha0_0, .int ia0_1]))])) (vp_Si (fun r => 0 ≤ r.toInt ∧ r.toInt ≤ 1)) 0 0 (fun _ => False) := by
  refine Met.ofW (cc := cX5_canFollow) (maxL := 3) (ret := (some .boolean)) (by decide) rfl ?_
  intro p e s m args below meth c s₁ B hml hv
  obtain ⟨rfl, hP, hZ⟩ := hv
  obtain ⟨hK, hAO, hN⟩ := id hZ
  have hx := B.exec
  have hb := B.bytes
  have hr := B.returns
  have hts := atoms_spec (ws := vsX5_canFollow) B.pre
  have hown : s.vm.findClass RX5 = some m.cls := findClass_of_methodNamed B.named
  have hlocks := B.notSynchronized
  have hp1l := z_lo p1
  have hp1h := z_hi p1
  have hp2l := z_lo p2
  have hp2h := z_hi p2
  have hl := lv_entry ([.ref ha0, .int p1, .int p2]) (n := 3) (Nat.le_of_ble_eq_true rfl)
  rw [lg_entry_eq]
  generalize (lg_sl ([.ref ha0, .int p1, .int p2]) ++ List.replicate (3 - (lg_sl ([.ref ha0, .int p1, .int p2])).length) Slot.unset).toArray = ls at hl ⊢
  have hl : lv_has ls 3 [(0, .ref ha0), (1, .int p1), (2, .int p2)] := hl
  refine lv_iload_n hx hb dX5_canFollow_0 rfl (lv_at hl 1 rfl) ?_
  refine lv_if_lt (tgt := 42) hx hb dX5_canFollow_1 (by decide) (fun hc => ?_) (fun hc => ?_)
  · have q1 : p1.toInt < 0 := z_lt rfl (by decide) hc
    refine lv_iconst (v := 0) hx hb dX5_canFollow_42 (by decide) ?_
    exact W.zret (v := 0) hx hb hr (rfl) (fun t ht hW => ⟨0, rfl, ⟨by first | decide | omega, by first | decide | omega⟩, ht⟩) (fun _ h => absurd h List.not_mem_nil) dX5_canFollow_43
  · have q2 : 0 ≤ p1.toInt := z_nlt rfl (by decide) hc
    refine lv_iload_n hx hb dX5_canFollow_4 rfl (lv_at hl 1 rfl) ?_
    refine lv_aload_n hx hb dX5_canFollow_5 rfl (lv_at hl 0 rfl) ?_
    refine va_get (D := (dC, dI)) (ci := 5) (v := .int ia0_1) (C := RX5) (T := TX5) (N := 2) hx hb hts in_X5_canFollow_X5 hown hK hP 1 rfl rfl 1 (by decide) (hts (.fieldLink RX5 15 "EachOnHisCue$Net" "lines" "I") (by decide +kernel)) (fun _ h9 => h9) rfl dX5_canFollow_6 ?_
    refine lv_icmp_ge (tgt := 42) hx hb dX5_canFollow_9 (by decide) (fun hc => ?_) (fun hc => ?_)
    · have q3 : ia0_1.toInt ≤ p1.toInt := z_le rfl rfl hc
      refine lv_iconst (v := 0) hx hb dX5_canFollow_42 (by decide) ?_
      exact W.zret (v := 0) hx hb hr (rfl) (fun t ht hW => ⟨0, rfl, ⟨by first | decide | omega, by first | decide | omega⟩, ht⟩) (fun _ h => absurd h List.not_mem_nil) dX5_canFollow_43
    · have q4 : p1.toInt < ia0_1.toInt := z_nle rfl rfl hc
      refine lv_iload_n hx hb dX5_canFollow_12 rfl (lv_at hl 2 rfl) ?_
      refine lv_if_lt (tgt := 42) hx hb dX5_canFollow_13 (by decide) (fun hc => ?_) (fun hc => ?_)
      · have q5 : p2.toInt < 0 := z_lt rfl (by decide) hc
        refine lv_iconst (v := 0) hx hb dX5_canFollow_42 (by decide) ?_
        exact W.zret (v := 0) hx hb hr (rfl) (fun t ht hW => ⟨0, rfl, ⟨by first | decide | omega, by first | decide | omega⟩, ht⟩) (fun _ h => absurd h List.not_mem_nil) dX5_canFollow_43
      · have q6 : 0 ≤ p2.toInt := z_nlt rfl (by decide) hc
        refine lv_iload_n hx hb dX5_canFollow_16 rfl (lv_at hl 2 rfl) ?_
        refine lv_aload_n hx hb dX5_canFollow_17 rfl (lv_at hl 0 rfl) ?_
        refine va_get (D := (dC, dI)) (ci := 5) (v := .int ia0_1) (C := RX5) (T := TX5) (N := 2) hx hb hts in_X5_canFollow_X5 hown hK hP 1 rfl rfl 1 (by decide) (hts (.fieldLink RX5 15 "EachOnHisCue$Net" "lines" "I") (by decide +kernel)) (fun _ h9 => h9) rfl dX5_canFollow_18 ?_
        refine lv_icmp_ge (tgt := 42) hx hb dX5_canFollow_21 (by decide) (fun hc => ?_) (fun hc => ?_)
        · have q7 : ia0_1.toInt ≤ p2.toInt := z_le rfl rfl hc
          refine lv_iconst (v := 0) hx hb dX5_canFollow_42 (by decide) ?_
          exact W.zret (v := 0) hx hb hr (rfl) (fun t ht hW => ⟨0, rfl, ⟨by first | decide | omega, by first | decide | omega⟩, ht⟩) (fun _ h => absurd h List.not_mem_nil) dX5_canFollow_43
        · have q8 : p2.toInt < ia0_1.toInt := z_nle rfl rfl hc
          refine lv_aload_n hx hb dX5_canFollow_24 rfl (lv_at hl 0 rfl) ?_
          refine va_get (D := (dC, dI)) (ci := 5) (v := .ref ha0_0) (C := RX5) (T := TX5) (N := 2) hx hb hts in_X5_canFollow_X5 hown hK hP 1 rfl rfl 0 (by decide) (hts (.fieldLink RX5 9 "EachOnHisCue$Net" "after" "[I") (by decide +kernel)) (fun _ h9 => h9) rfl dX5_canFollow_25 ?_
          refine lv_iload_n hx hb dX5_canFollow_28 rfl (lv_at hl 1 rfl) ?_
          refine va_iald hx hb hK hP 0 0 rfl rfl (z_in (by omega) (by omega)) dX5_canFollow_29 ?_
          refine lv_topi (fun y9 ey9 => ?_)
          have gy9 : y9.toInt = (fa0_0 (p1 : Int32).toNatClampNeg).toInt := by rw [ey9]
          refine lv_iload_n hx hb dX5_canFollow_30 rfl (lv_at hl 2 rfl) ?_
          refine z_rdi (va_runSN (As := [.int y9, .int p2]) (rest := []) ⟨hx, hb, hml, hown, hts⟩ (rX11_bitAt l dC dI cI cQ y9 p2) ⟨va_cnB (host := "EachOnHisCue") 2 hts gv_X5_canFollow_X11_bitAt_40 rfl rfl rfl (hN.2.2.2.2.2.2.2.2.2.1) (hts (.initialized RX11) (by decide +kernel)) (by decide +kernel) ⟨Nat.le_of_ble_eq_true rfl, Nat.le_of_ble_eq_true rfl⟩, hts (.static yX11_bitAt) (by decide +kernel), trivial⟩ ⟨z_blindR, z_preR hZ hP [] rfl⟩ rfl rfl hl.1 rfl (lv_room (Nat.le_of_ble_eq_true rfl)) dX5_canFollow_31 ⟨Nat.le_of_ble_eq_true rfl, Nat.le_of_ble_eq_true rfl⟩) (fun y10 hy10 => ?_)
          obtain ⟨hy10_0, hy10_1, hy10_2⟩ := hy10
          refine lv_iconst (v := 1) hx hb dX5_canFollow_34 (by decide) ?_
          refine lv_icmp_ne (tgt := 42) hx hb dX5_canFollow_35 (by decide) (fun hc => ?_) (fun hc => ?_)
          · have q11 : y10.toInt ≠ 1 := z_ne rfl (by decide) hc
            refine lv_iconst (v := 0) hx hb dX5_canFollow_42 (by decide) ?_
            exact W.zret (v := 0) hx hb hr (rfl) (fun t ht hW => ⟨0, rfl, ⟨by first | decide | omega, by first | decide | omega⟩, ht⟩) (fun _ h => absurd h List.not_mem_nil) dX5_canFollow_43
          · have q12 : y10.toInt = 1 := z_eq rfl (by decide) hc
            refine lv_iconst (v := 1) hx hb dX5_canFollow_38 (by decide) ?_
            refine lv_goto (tgt := 43) hx hb dX5_canFollow_39 (by decide) ?_
            exact W.zret (v := 1) hx hb hr (rfl) (fun t ht hW => ⟨1, rfl, ⟨by first | decide | omega, by first | decide | omega⟩, ht⟩) (fun _ h => absurd h List.not_mem_nil) dX5_canFollow_43
