set_option maxRecDepth 20000 in
theorem edX4_firstWrongLetter_0 : decode cX4_firstWrongLetter 0 = .ok (.iconst 0, 1) ∧ decode cX4_firstWrongLetter 1 = .ok (.istore_n 1, 1) ∧ decode cX4_firstWrongLetter 2 = .ok (.iconst 0, 1) ∧ decode cX4_firstWrongLetter 3 = .ok (.istore_n 2, 1) ∧ decode cX4_firstWrongLetter 4 = .ok (.iconst 0, 1) ∧ decode cX4_firstWrongLetter 5 = .ok (.istore_n 3, 1) ∧ decode cX4_firstWrongLetter 6 = .ok (.iload_n 3, 1) ∧ decode cX4_firstWrongLetter 7 = .ok (.aload_n 0, 1) ∧ decode cX4_firstWrongLetter 8 = .ok (.getfield 15, 3) ∧ decode cX4_firstWrongLetter 11 = .ok (.if_icmp .ge 39, 3) ∧ decode cX4_firstWrongLetter 14 = .ok (.aload_n 0, 1) ∧ decode cX4_firstWrongLetter 15 = .ok (.iload_n 1, 1) := by decide +kernel
theorem dX4_firstWrongLetter_0 : decode cX4_firstWrongLetter 0 = .ok (.iconst 0, 1) := edX4_firstWrongLetter_0.1
theorem dX4_firstWrongLetter_1 : decode cX4_firstWrongLetter 1 = .ok (.istore_n 1, 1) := edX4_firstWrongLetter_0.2.1
theorem dX4_firstWrongLetter_2 : decode cX4_firstWrongLetter 2 = .ok (.iconst 0, 1) := edX4_firstWrongLetter_0.2.2.1
theorem dX4_firstWrongLetter_3 : decode cX4_firstWrongLetter 3 = .ok (.istore_n 2, 1) := edX4_firstWrongLetter_0.2.2.2.1
theorem dX4_firstWrongLetter_4 : decode cX4_firstWrongLetter 4 = .ok (.iconst 0, 1) := edX4_firstWrongLetter_0.2.2.2.2.1
theorem dX4_firstWrongLetter_5 : decode cX4_firstWrongLetter 5 = .ok (.istore_n 3, 1) := edX4_firstWrongLetter_0.2.2.2.2.2.1
theorem dX4_firstWrongLetter_6 : decode cX4_firstWrongLetter 6 = .ok (.iload_n 3, 1) := edX4_firstWrongLetter_0.2.2.2.2.2.2.1
theorem dX4_firstWrongLetter_7 : decode cX4_firstWrongLetter 7 = .ok (.aload_n 0, 1) := edX4_firstWrongLetter_0.2.2.2.2.2.2.2.1
theorem dX4_firstWrongLetter_8 : decode cX4_firstWrongLetter 8 = .ok (.getfield 15, 3) := edX4_firstWrongLetter_0.2.2.2.2.2.2.2.2.1
theorem dX4_firstWrongLetter_11 : decode cX4_firstWrongLetter 11 = .ok (.if_icmp .ge 39, 3) := edX4_firstWrongLetter_0.2.2.2.2.2.2.2.2.2.1
theorem dX4_firstWrongLetter_14 : decode cX4_firstWrongLetter 14 = .ok (.aload_n 0, 1) := edX4_firstWrongLetter_0.2.2.2.2.2.2.2.2.2.2.1
theorem dX4_firstWrongLetter_15 : decode cX4_firstWrongLetter 15 = .ok (.iload_n 1, 1) := edX4_firstWrongLetter_0.2.2.2.2.2.2.2.2.2.2.2
set_option maxRecDepth 20000 in
theorem edX4_firstWrongLetter_16 : decode cX4_firstWrongLetter 16 = .ok (.iload_n 3, 1) ∧ decode cX4_firstWrongLetter 17 = .ok (.iload_n 2, 1) ∧ decode cX4_firstWrongLetter 18 = .ok (.invokevirtual 31, 3) ∧ decode cX4_firstWrongLetter 21 = .ok (.istore_n 1, 1) ∧ decode cX4_firstWrongLetter 22 = .ok (.iload_n 1, 1) ∧ decode cX4_firstWrongLetter 23 = .ok (.bipush 9, 2) ∧ decode cX4_firstWrongLetter 25 = .ok (.if_icmp .ne 5, 3) ∧ decode cX4_firstWrongLetter 28 = .ok (.iload_n 3, 1) ∧ decode cX4_firstWrongLetter 29 = .ok (.ireturn, 1) ∧ decode cX4_firstWrongLetter 30 = .ok (.iload_n 1, 1) ∧ decode cX4_firstWrongLetter 31 = .ok (.bipush 6, 2) ∧ decode cX4_firstWrongLetter 33 = .ok (.if_icmp .ne 9, 3) := by decide +kernel
theorem dX4_firstWrongLetter_16 : decode cX4_firstWrongLetter 16 = .ok (.iload_n 3, 1) := edX4_firstWrongLetter_16.1
theorem dX4_firstWrongLetter_17 : decode cX4_firstWrongLetter 17 = .ok (.iload_n 2, 1) := edX4_firstWrongLetter_16.2.1
theorem dX4_firstWrongLetter_18 : decode cX4_firstWrongLetter 18 = .ok (.invokevirtual 31, 3) := edX4_firstWrongLetter_16.2.2.1
theorem dX4_firstWrongLetter_21 : decode cX4_firstWrongLetter 21 = .ok (.istore_n 1, 1) := edX4_firstWrongLetter_16.2.2.2.1
theorem dX4_firstWrongLetter_22 : decode cX4_firstWrongLetter 22 = .ok (.iload_n 1, 1) := edX4_firstWrongLetter_16.2.2.2.2.1
theorem dX4_firstWrongLetter_23 : decode cX4_firstWrongLetter 23 = .ok (.bipush 9, 2) := edX4_firstWrongLetter_16.2.2.2.2.2.1
theorem dX4_firstWrongLetter_25 : decode cX4_firstWrongLetter 25 = .ok (.if_icmp .ne 5, 3) := edX4_firstWrongLetter_16.2.2.2.2.2.2.1
theorem dX4_firstWrongLetter_28 : decode cX4_firstWrongLetter 28 = .ok (.iload_n 3, 1) := edX4_firstWrongLetter_16.2.2.2.2.2.2.2.1
theorem dX4_firstWrongLetter_29 : decode cX4_firstWrongLetter 29 = .ok (.ireturn, 1) := edX4_firstWrongLetter_16.2.2.2.2.2.2.2.2.1
theorem dX4_firstWrongLetter_30 : decode cX4_firstWrongLetter 30 = .ok (.iload_n 1, 1) := edX4_firstWrongLetter_16.2.2.2.2.2.2.2.2.2.1
theorem dX4_firstWrongLetter_31 : decode cX4_firstWrongLetter 31 = .ok (.bipush 6, 2) := edX4_firstWrongLetter_16.2.2.2.2.2.2.2.2.2.2.1
theorem dX4_firstWrongLetter_33 : decode cX4_firstWrongLetter 33 = .ok (.if_icmp .ne 9, 3) := edX4_firstWrongLetter_16.2.2.2.2.2.2.2.2.2.2.2
set_option maxRecDepth 20000 in
theorem edX4_firstWrongLetter_36 : decode cX4_firstWrongLetter 36 = .ok (.iload_n 2, 1) ∧ decode cX4_firstWrongLetter 37 = .ok (.iconst 1, 1) ∧ decode cX4_firstWrongLetter 38 = .ok (.iadd, 1) ∧ decode cX4_firstWrongLetter 39 = .ok (.goto 4, 3) ∧ decode cX4_firstWrongLetter 42 = .ok (.iconst 0, 1) ∧ decode cX4_firstWrongLetter 43 = .ok (.istore_n 2, 1) ∧ decode cX4_firstWrongLetter 44 = .ok (.iinc 3 1, 3) ∧ decode cX4_firstWrongLetter 47 = .ok (.goto (-41), 3) ∧ decode cX4_firstWrongLetter 50 = .ok (.aload_n 0, 1) ∧ decode cX4_firstWrongLetter 51 = .ok (.getfield 15, 3) ∧ decode cX4_firstWrongLetter 54 = .ok (.ifCond .le 12, 3) ∧ decode cX4_firstWrongLetter 57 = .ok (.iload_n 1, 1) := by decide +kernel
theorem dX4_firstWrongLetter_36 : decode cX4_firstWrongLetter 36 = .ok (.iload_n 2, 1) := edX4_firstWrongLetter_36.1
theorem dX4_firstWrongLetter_37 : decode cX4_firstWrongLetter 37 = .ok (.iconst 1, 1) := edX4_firstWrongLetter_36.2.1
theorem dX4_firstWrongLetter_38 : decode cX4_firstWrongLetter 38 = .ok (.iadd, 1) := edX4_firstWrongLetter_36.2.2.1
theorem dX4_firstWrongLetter_39 : decode cX4_firstWrongLetter 39 = .ok (.goto 4, 3) := edX4_firstWrongLetter_36.2.2.2.1
theorem dX4_firstWrongLetter_42 : decode cX4_firstWrongLetter 42 = .ok (.iconst 0, 1) := edX4_firstWrongLetter_36.2.2.2.2.1
theorem dX4_firstWrongLetter_43 : decode cX4_firstWrongLetter 43 = .ok (.istore_n 2, 1) := edX4_firstWrongLetter_36.2.2.2.2.2.1
theorem dX4_firstWrongLetter_44 : decode cX4_firstWrongLetter 44 = .ok (.iinc 3 1, 3) := edX4_firstWrongLetter_36.2.2.2.2.2.2.1
theorem dX4_firstWrongLetter_47 : decode cX4_firstWrongLetter 47 = .ok (.goto (-41), 3) := edX4_firstWrongLetter_36.2.2.2.2.2.2.2.1
theorem dX4_firstWrongLetter_50 : decode cX4_firstWrongLetter 50 = .ok (.aload_n 0, 1) := edX4_firstWrongLetter_36.2.2.2.2.2.2.2.2.1
theorem dX4_firstWrongLetter_51 : decode cX4_firstWrongLetter 51 = .ok (.getfield 15, 3) := edX4_firstWrongLetter_36.2.2.2.2.2.2.2.2.2.1
theorem dX4_firstWrongLetter_54 : decode cX4_firstWrongLetter 54 = .ok (.ifCond .le 12, 3) := edX4_firstWrongLetter_36.2.2.2.2.2.2.2.2.2.2.1
theorem dX4_firstWrongLetter_57 : decode cX4_firstWrongLetter 57 = .ok (.iload_n 1, 1) := edX4_firstWrongLetter_36.2.2.2.2.2.2.2.2.2.2.2
set_option maxRecDepth 20000 in
theorem edX4_firstWrongLetter_58 : decode cX4_firstWrongLetter 58 = .ok (.ifCond .ne 8, 3) ∧ decode cX4_firstWrongLetter 61 = .ok (.bipush (-9), 2) ∧ decode cX4_firstWrongLetter 63 = .ok (.goto 7, 3) ∧ decode cX4_firstWrongLetter 66 = .ok (.aload_n 0, 1) ∧ decode cX4_firstWrongLetter 67 = .ok (.getfield 15, 3) ∧ decode cX4_firstWrongLetter 70 = .ok (.ireturn, 1) := by decide +kernel
theorem dX4_firstWrongLetter_58 : decode cX4_firstWrongLetter 58 = .ok (.ifCond .ne 8, 3) := edX4_firstWrongLetter_58.1
theorem dX4_firstWrongLetter_61 : decode cX4_firstWrongLetter 61 = .ok (.bipush (-9), 2) := edX4_firstWrongLetter_58.2.1
theorem dX4_firstWrongLetter_63 : decode cX4_firstWrongLetter 63 = .ok (.goto 7, 3) := edX4_firstWrongLetter_58.2.2.1
theorem dX4_firstWrongLetter_66 : decode cX4_firstWrongLetter 66 = .ok (.aload_n 0, 1) := edX4_firstWrongLetter_58.2.2.2.1
theorem dX4_firstWrongLetter_67 : decode cX4_firstWrongLetter 67 = .ok (.getfield 15, 3) := edX4_firstWrongLetter_58.2.2.2.2.1
theorem dX4_firstWrongLetter_70 : decode cX4_firstWrongLetter 70 = .ok (.ireturn, 1) := edX4_firstWrongLetter_58.2.2.2.2.2
noncomputable def voX4_firstWrongLetter : List Cond := [.fieldLink RX4 15 "EachOnHisCue$Letters" "size" "I", .methodLink RX4 31 yX4_stateBehind, .instanceMethod yX4_stateBehind, .selects RX4 yX4_stateBehind yX4_stateBehind, .initialized RX4]
noncomputable def vsX4_firstWrongLetter : List Cond := .code yX4_firstWrongLetter cX4_firstWrongLetter 4 (some .int) :: (voX4_firstWrongLetter ++ (vsX4_stateBehind ++ (wsX40)))
theorem zgX4_firstWrongLetter : zGd vsX4_firstWrongLetter := z_gdC rfl (z_gdA (z_gdO (by decide +kernel) : zGd voX4_firstWrongLetter) (z_gdA zgX4_stateBehind (zgX4)))
theorem in_X4_firstWrongLetter_X4 : ∀ w ∈ wsX40, w ∈ vsX4_firstWrongLetter := fun _ h => List.mem_cons_of_mem _ (List.mem_append_right _ (List.mem_append_right _ (h)))
theorem gw_X4_firstWrongLetter_X4_stateBehind : GoodIn vsX4_firstWrongLetter vsX4_stateBehind := z_gdI (fun _ h => List.mem_cons_of_mem _ (List.mem_append_right _ (List.mem_append_left _ h))) zgX4_stateBehind
set_option maxRecDepth 20000 in
theorem gv_X4_firstWrongLetter_X4_stateBehind_31 : GoodIn vsX4_firstWrongLetter (wsV RX4 31 RX4 yX4_stateBehind vsX4_stateBehind) := goodIn_app (goodIn_of _ (by decide +kernel)) gw_X4_firstWrongLetter_X4_stateBehind
set_option maxHeartbeats 4000000 in
set_option maxRecDepth 100000 in
theorem rX4_firstWrongLetter (l : Launch) (dC : Nat → ClassId) (dI : Nat → Nat → Nat) (cI cQ : ClassId) (ha0 ha0_0 : Nat) (fa0_0 : Nat → Int32) (hBfa0_0 : ∀ k, 0 ≤ (fa0_0 k).toInt ∧ (fa0_0 k).toInt ≤ 255) (ia0_1 : Int32) (hia0_1l : 0 ≤ ia0_1.toInt) (hia0_1h : ia0_1.toInt ≤ 80) : Met l yX4_firstWrongLetter vsX4_firstWrongLetter ({ frames := 3, cells := 0, slots := 0, locals := 66 }) (va_Pc [.ref ha0] (zRB dC dI cI cQ [(ha0_0, .inl (cI, 80, .inl fa0_0)), (ha0, .inr (4, [.ref ha0_0, .int ia0_1]))])) (vp_Si (fun r => (-9) ≤ r.toInt ∧ r.toInt ≤ 80 ∧ (r.toInt = zFwK fa0_0 ia0_1.toInt 0 0 0))) 0 0 (fun _ => False) := by
  refine Met.ofW (cc := cX4_firstWrongLetter) (maxL := 4) (ret := (some .int)) (by decide) rfl ?_
  intro p e s m args below meth c s₁ B hml hv
  obtain ⟨rfl, hP, hZ⟩ := hv
  obtain ⟨hK, hAO, hN⟩ := id hZ
  have hx := B.exec
  have hb := B.bytes
  have hr := B.returns
  have hts := atoms_spec (ws := vsX4_firstWrongLetter) B.pre
  have hown : s.vm.findClass RX4 = some m.cls := findClass_of_methodNamed B.named
  have hlocks := B.notSynchronized
  have hl := lv_entry ([.ref ha0]) (n := 4) (Nat.le_of_ble_eq_true rfl)
  rw [lg_entry_eq]
  generalize (lg_sl ([.ref ha0]) ++ List.replicate (4 - (lg_sl ([.ref ha0])).length) Slot.unset).toArray = ls at hl ⊢
  have hl : lv_has ls 4 [(0, .ref ha0)] := hl
  refine lv_iconst (v := 0) hx hb dX4_firstWrongLetter_0 (by decide) ?_
  refine lv_istore_n (lv' := [(1, .int 0), (0, .ref ha0)]) hx hb dX4_firstWrongLetter_1 rfl hl (by decide) rfl (fun ls hl => ?_)
  refine lv_iconst (v := 0) hx hb dX4_firstWrongLetter_2 (by decide) ?_
  refine lv_istore_n (lv' := [(2, .int 0), (1, .int 0), (0, .ref ha0)]) hx hb dX4_firstWrongLetter_3 rfl hl (by decide) rfl (fun ls hl => ?_)
  refine lv_iconst (v := 0) hx hb dX4_firstWrongLetter_4 (by decide) ?_
  refine lv_istore_n (lv' := [(3, .int 0), (2, .int 0), (1, .int 0), (0, .ref ha0)]) hx hb dX4_firstWrongLetter_5 rfl hl (by decide) rfl (fun ls hl => ?_)
  have hL184 : ∀ (n : Nat) (v1 : Int32) (v2 : Int32) (v3 : Int32) (ls : Array Slot), 0 ≤ v1.toInt → v1.toInt ≤ 80 → 0 ≤ v2.toInt → v2.toInt ≤ 80 → 0 ≤ v3.toInt → v3.toInt ≤ 8 → (zFwK fa0_0 ia0_1.toInt 0 0 0 = zFwK fa0_0 ia0_1.toInt (v1 : Int32).toInt (v3 : Int32).toInt (v2 : Int32).toInt) → ((v1 : Int32).toInt ≤ ia0_1.toInt) → ((v2 : Int32).toInt ≤ (v1 : Int32).toInt) → (80 - v1.toInt).toNat < n → lv_has ls 4 [(3, .int v1), (2, .int v2), (1, .int v3), (0, .ref ha0)] → W p l e (headSpec vsX4_firstWrongLetter ({ frames := 3, cells := 0, slots := 0, locals := 66 })).room s m ([.ref ha0] : List Value).toArray below meth c s.heap [] 0 0 (MQ below (vp_Si (fun r => (-9) ≤ r.toInt ∧ r.toInt ≤ 80 ∧ (r.toInt = zFwK fa0_0 ia0_1.toInt 0 0 0))) ([.ref ha0] : List Value).toArray s 0 0 (fun _ => False)) (F0 m 6 ls []) := by
    intro n
    induction n with
    | zero =>
      intro v1 v2 v3 ls hi185_0 hi185_1 hi185_2 hi185_3 hi185_4 hi185_5 hi185_x0 hi185_x1 hi185_x2 hi185_m hl
      exact absurd hi185_m (Nat.not_lt_zero _)
    | succ n ih =>
      intro v1 v2 v3 ls hi185_0 hi185_1 hi185_2 hi185_3 hi185_4 hi185_5 hi185_x0 hi185_x1 hi185_x2 hi185_m hl
      have ih186 := ih
      refine lv_iload_n hx hb dX4_firstWrongLetter_6 rfl (lv_at hl 0 rfl) ?_
      refine lv_aload_n hx hb dX4_firstWrongLetter_7 rfl (lv_at hl 3 rfl) ?_
      refine va_get (D := (dC, dI)) (ci := 4) (v := .int ia0_1) (C := RX4) (T := TX4) (N := 2) hx hb hts in_X4_firstWrongLetter_X4 hown hK hP 1 rfl rfl 1 (by decide) (hts (.fieldLink RX4 15 "EachOnHisCue$Letters" "size" "I") (by decide +kernel)) (fun _ h9 => h9) rfl dX4_firstWrongLetter_8 ?_
      refine lv_icmp_ge (tgt := 50) hx hb dX4_firstWrongLetter_11 (by decide) (fun hc => ?_) (fun hc => ?_)
      · have q187 : ia0_1.toInt ≤ v1.toInt := z_le rfl rfl hc
        refine lv_aload_n hx hb dX4_firstWrongLetter_50 rfl (lv_at hl 3 rfl) ?_
        refine va_get (D := (dC, dI)) (ci := 4) (v := .int ia0_1) (C := RX4) (T := TX4) (N := 2) hx hb hts in_X4_firstWrongLetter_X4 hown hK hP 1 rfl rfl 1 (by decide) (hts (.fieldLink RX4 15 "EachOnHisCue$Letters" "size" "I") (by decide +kernel)) (fun _ h9 => h9) rfl dX4_firstWrongLetter_51 ?_
        refine lv_if_le (tgt := 66) hx hb dX4_firstWrongLetter_54 (by decide) (fun hc => ?_) (fun hc => ?_)
        · have q188 : ia0_1.toInt ≤ 0 := z_le rfl (by decide) hc
          refine lv_aload_n hx hb dX4_firstWrongLetter_66 rfl (lv_at hl 3 rfl) ?_
          refine va_get (D := (dC, dI)) (ci := 4) (v := .int ia0_1) (C := RX4) (T := TX4) (N := 2) hx hb hts in_X4_firstWrongLetter_X4 hown hK hP 1 rfl rfl 1 (by decide) (hts (.fieldLink RX4 15 "EachOnHisCue$Letters" "size" "I") (by decide +kernel)) (fun _ h9 => h9) rfl dX4_firstWrongLetter_67 ?_
          exact W.iret (v := ia0_1) hx hb hr (fun t ht hW => ⟨ia0_1, rfl, ⟨by first | decide | omega, by first | decide | omega, (by first | exact z_fwR2 (by assumption) (by omega) (by omega) (by omega) (by decide) | exact z_fwR3 (by assumption) (by omega) (by omega) rfl)⟩, ht⟩) (fun _ h => absurd h List.not_mem_nil) dX4_firstWrongLetter_70
        · have q189 : 0 < ia0_1.toInt := z_nle rfl (by decide) hc
          refine lv_iload_n hx hb dX4_firstWrongLetter_57 rfl (lv_at hl 2 rfl) ?_
          refine lv_if_ne (tgt := 66) hx hb dX4_firstWrongLetter_58 (by decide) (fun hc => ?_) (fun hc => ?_)
          · have q190 : v3.toInt ≠ 0 := z_ne rfl (by decide) hc
            refine lv_aload_n hx hb dX4_firstWrongLetter_66 rfl (lv_at hl 3 rfl) ?_
            refine va_get (D := (dC, dI)) (ci := 4) (v := .int ia0_1) (C := RX4) (T := TX4) (N := 2) hx hb hts in_X4_firstWrongLetter_X4 hown hK hP 1 rfl rfl 1 (by decide) (hts (.fieldLink RX4 15 "EachOnHisCue$Letters" "size" "I") (by decide +kernel)) (fun _ h9 => h9) rfl dX4_firstWrongLetter_67 ?_
            exact W.iret (v := ia0_1) hx hb hr (fun t ht hW => ⟨ia0_1, rfl, ⟨by first | decide | omega, by first | decide | omega, (by first | exact z_fwR2 (by assumption) (by omega) (by omega) (by omega) (by decide) | exact z_fwR3 (by assumption) (by omega) (by omega) rfl)⟩, ht⟩) (fun _ h => absurd h List.not_mem_nil) dX4_firstWrongLetter_70
          · have q191 : v3.toInt = 0 := z_eq rfl (by decide) hc
            refine lv_bipush (v := (-9)) hx hb dX4_firstWrongLetter_61 (by decide) ?_
            refine lv_goto (tgt := 70) hx hb dX4_firstWrongLetter_63 (by decide) ?_
            exact W.iret (v := (-9)) hx hb hr (fun t ht hW => ⟨(-9), rfl, ⟨by first | decide | omega, by first | decide | omega, (by first | exact z_fwR2 (by assumption) (by omega) (by omega) (by omega) (by decide) | exact z_fwR3 (by assumption) (by omega) (by omega) rfl)⟩, ht⟩) (fun _ h => absurd h List.not_mem_nil) dX4_firstWrongLetter_70
      · have q192 : v1.toInt < ia0_1.toInt := z_nle rfl rfl hc
        refine lv_aload_n hx hb dX4_firstWrongLetter_14 rfl (lv_at hl 3 rfl) ?_
        refine lv_iload_n hx hb dX4_firstWrongLetter_15 rfl (lv_at hl 2 rfl) ?_
        refine lv_iload_n hx hb dX4_firstWrongLetter_16 rfl (lv_at hl 0 rfl) ?_
        refine lv_iload_n hx hb dX4_firstWrongLetter_17 rfl (lv_at hl 1 rfl) ?_
        refine z_rdi (va_runV (As := [.int v3, .int v1, .int v2]) (rest := []) ⟨hx, hb, hml, hown, hts⟩ (rX4_stateBehind l dC dI cI cQ ha0 ha0_0 fa0_0 hBfa0_0 ia0_1 hia0_1l hia0_1h v3 v1 v2) (cwV 3 hts gv_X4_firstWrongLetter_X4_stateBehind_31 rfl rfl rfl (by decide +kernel) ⟨Nat.le_of_ble_eq_true rfl, Nat.le_of_ble_eq_true rfl⟩) ⟨z_blindR, va_recv hK hP (ci := 4) (q0 := 1) rfl rfl, z_preR hZ hP [0, 1] rfl⟩ rfl rfl hl.1 rfl (lv_room (Nat.le_of_ble_eq_true rfl)) dX4_firstWrongLetter_18 ⟨Nat.le_of_ble_eq_true rfl, Nat.le_of_ble_eq_true rfl⟩) (fun y193 hy193 => ?_)
        obtain ⟨hy193_0, hy193_1, hy193_2⟩ := hy193
        refine lv_istore_n (lv' := [(1, .int y193), (3, .int v1), (2, .int v2), (0, .ref ha0)]) hx hb dX4_firstWrongLetter_21 rfl hl (by decide) rfl (fun ls hl => ?_)
        refine lv_iload_n hx hb dX4_firstWrongLetter_22 rfl (lv_at hl 0 rfl) ?_
        refine lv_bipush (v := 9) hx hb dX4_firstWrongLetter_23 (by decide) ?_
        refine lv_icmp_ne (tgt := 30) hx hb dX4_firstWrongLetter_25 (by decide) (fun hc => ?_) (fun hc => ?_)
        · have q194 : y193.toInt ≠ 9 := z_ne rfl (by decide) hc
          refine lv_iload_n hx hb dX4_firstWrongLetter_30 rfl (lv_at hl 0 rfl) ?_
          refine lv_bipush (v := 6) hx hb dX4_firstWrongLetter_31 (by decide) ?_
          refine lv_icmp_ne (tgt := 42) hx hb dX4_firstWrongLetter_33 (by decide) (fun hc => ?_) (fun hc => ?_)
          · have q195 : y193.toInt ≠ 6 := z_ne rfl (by decide) hc
            refine lv_iconst (v := 0) hx hb dX4_firstWrongLetter_42 (by decide) ?_
            refine lv_istore_n (lv' := [(2, .int 0), (1, .int y193), (3, .int v1), (0, .ref ha0)]) hx hb dX4_firstWrongLetter_43 rfl hl (by decide) rfl (fun ls hl => ?_)
            obtain ⟨y196, ey196⟩ : ∃ y : Int32, y = v1 + 1 := ⟨_, rfl⟩
            refine lv_iinc (v := y196) (lv' := [(3, .int y196), (2, .int 0), (1, .int y193), (0, .ref ha0)]) hx hb dX4_firstWrongLetter_44 hl (k := 2) rfl (by rw [ey196]; rfl) (by decide) rfl (fun ls hl => ?_)
            have hy196 : y196.toInt = v1.toInt + 1 := by rw [ey196]; exact z_add rfl (by decide) (by omega) (by omega)
            refine lv_goto (tgt := 6) hx hb dX4_firstWrongLetter_47 (by decide) ?_
            exact ih186 y196 0 y193 ls (by first | decide | omega) (by first | decide | omega) (by decide) (by decide) (by first | decide | omega) (by first | decide | omega) (z_fwA (by assumption) (by omega) hy193_2 (by omega) (by omega) (by have e0 : (0 : Int32).toInt = 0 := (by decide); omega)) (by have e0 : (0 : Int32).toInt = 0 := (by decide); omega) (by have e0 : (0 : Int32).toInt = 0 := (by decide); omega) (by omega) (lv_sub hl [0, 1, 2, 3] rfl)
          · have q197 : y193.toInt = 6 := z_eq rfl (by decide) hc
            refine lv_iload_n hx hb dX4_firstWrongLetter_36 rfl (lv_at hl 2 rfl) ?_
            refine lv_iconst (v := 1) hx hb dX4_firstWrongLetter_37 (by decide) ?_
            refine lv_iadd hx hb dX4_firstWrongLetter_38 ?_
            refine lv_topi (fun y198 ey198 => ?_)
            have hy198 : y198.toInt = v2.toInt + 1 := by rw [ey198]; exact z_add rfl (by decide) (by omega) (by omega)
            refine lv_goto (tgt := 43) hx hb dX4_firstWrongLetter_39 (by decide) ?_
            refine lv_istore_n (lv' := [(2, .int y198), (1, .int y193), (3, .int v1), (0, .ref ha0)]) hx hb dX4_firstWrongLetter_43 rfl hl (by decide) rfl (fun ls hl => ?_)
            obtain ⟨y199, ey199⟩ : ∃ y : Int32, y = v1 + 1 := ⟨_, rfl⟩
            refine lv_iinc (v := y199) (lv' := [(3, .int y199), (2, .int y198), (1, .int y193), (0, .ref ha0)]) hx hb dX4_firstWrongLetter_44 hl (k := 2) rfl (by rw [ey199]; rfl) (by decide) rfl (fun ls hl => ?_)
            have hy199 : y199.toInt = v1.toInt + 1 := by rw [ey199]; exact z_add rfl (by decide) (by omega) (by omega)
            refine lv_goto (tgt := 6) hx hb dX4_firstWrongLetter_47 (by decide) ?_
            exact ih186 y199 y198 y193 ls (by first | decide | omega) (by first | decide | omega) (by first | decide | omega) (by first | decide | omega) (by first | decide | omega) (by first | decide | omega) (z_fwA (by assumption) (by omega) hy193_2 (by omega) (by omega) (by have e0 : (0 : Int32).toInt = 0 := (by decide); omega)) (by have e0 : (0 : Int32).toInt = 0 := (by decide); omega) (by have e0 : (0 : Int32).toInt = 0 := (by decide); omega) (by omega) (lv_sub hl [0, 1, 2, 3] rfl)
        · have q200 : y193.toInt = 9 := z_eq rfl (by decide) hc
          refine lv_iload_n hx hb dX4_firstWrongLetter_28 rfl (lv_at hl 1 rfl) ?_
          exact W.iret (v := v1) hx hb hr (fun t ht hW => ⟨v1, rfl, ⟨by first | decide | omega, by first | decide | omega, (by first | exact z_fwR1 (by assumption) (by omega) hy193_2 (by omega) | exact z_fwR3 (by assumption) (by omega) (by omega) rfl)⟩, ht⟩) (fun _ h => absurd h List.not_mem_nil) dX4_firstWrongLetter_29
  exact hL184 ((80 - (0 : Int32).toInt).toNat + 1) 0 0 0 ls (by decide) (by decide) (by decide) (by decide) (by decide) (by decide) (by rw [show (0 : Int32).toInt = 0 from by decide]) (by have e0 : (0 : Int32).toInt = 0 := (by decide); omega) (by have e0 : (0 : Int32).toInt = 0 := (by decide); omega) (by omega) hl
set_option maxRecDepth 20000 in
theorem edX4_firstWrongStatement_0 : decode cX4_firstWrongStatement 0 = .ok (.aload_n 1, 1) ∧ decode cX4_firstWrongStatement 1 = .ok (.getfield 42, 3) ∧ decode cX4_firstWrongStatement 4 = .ok (.istore_n 2, 1) ∧ decode cX4_firstWrongStatement 5 = .ok (.aload_n 1, 1) ∧ decode cX4_firstWrongStatement 6 = .ok (.getfield 47, 3) ∧ decode cX4_firstWrongStatement 9 = .ok (.istore_n 3, 1) ∧ decode cX4_firstWrongStatement 10 = .ok (.iconst 0, 1) ∧ decode cX4_firstWrongStatement 11 = .ok (.istore 4, 2) ∧ decode cX4_firstWrongStatement 13 = .ok (.iload 4, 2) ∧ decode cX4_firstWrongStatement 15 = .ok (.aload_n 0, 1) ∧ decode cX4_firstWrongStatement 16 = .ok (.getfield 15, 3) ∧ decode cX4_firstWrongStatement 19 = .ok (.if_icmp .ge 98, 3) := by decide +kernel
theorem dX4_firstWrongStatement_0 : decode cX4_firstWrongStatement 0 = .ok (.aload_n 1, 1) := edX4_firstWrongStatement_0.1
theorem dX4_firstWrongStatement_1 : decode cX4_firstWrongStatement 1 = .ok (.getfield 42, 3) := edX4_firstWrongStatement_0.2.1
theorem dX4_firstWrongStatement_4 : decode cX4_firstWrongStatement 4 = .ok (.istore_n 2, 1) := edX4_firstWrongStatement_0.2.2.1
theorem dX4_firstWrongStatement_5 : decode cX4_firstWrongStatement 5 = .ok (.aload_n 1, 1) := edX4_firstWrongStatement_0.2.2.2.1
theorem dX4_firstWrongStatement_6 : decode cX4_firstWrongStatement 6 = .ok (.getfield 47, 3) := edX4_firstWrongStatement_0.2.2.2.2.1
theorem dX4_firstWrongStatement_9 : decode cX4_firstWrongStatement 9 = .ok (.istore_n 3, 1) := edX4_firstWrongStatement_0.2.2.2.2.2.1
theorem dX4_firstWrongStatement_10 : decode cX4_firstWrongStatement 10 = .ok (.iconst 0, 1) := edX4_firstWrongStatement_0.2.2.2.2.2.2.1
theorem dX4_firstWrongStatement_11 : decode cX4_firstWrongStatement 11 = .ok (.istore 4, 2) := edX4_firstWrongStatement_0.2.2.2.2.2.2.2.1
theorem dX4_firstWrongStatement_13 : decode cX4_firstWrongStatement 13 = .ok (.iload 4, 2) := edX4_firstWrongStatement_0.2.2.2.2.2.2.2.2.1
theorem dX4_firstWrongStatement_15 : decode cX4_firstWrongStatement 15 = .ok (.aload_n 0, 1) := edX4_firstWrongStatement_0.2.2.2.2.2.2.2.2.2.1
theorem dX4_firstWrongStatement_16 : decode cX4_firstWrongStatement 16 = .ok (.getfield 15, 3) := edX4_firstWrongStatement_0.2.2.2.2.2.2.2.2.2.2.1
theorem dX4_firstWrongStatement_19 : decode cX4_firstWrongStatement 19 = .ok (.if_icmp .ge 98, 3) := edX4_firstWrongStatement_0.2.2.2.2.2.2.2.2.2.2.2
set_option maxRecDepth 20000 in
theorem edX4_firstWrongStatement_22 : decode cX4_firstWrongStatement 22 = .ok (.aload_n 0, 1) ∧ decode cX4_firstWrongStatement 23 = .ok (.iload 4, 2) ∧ decode cX4_firstWrongStatement 25 = .ok (.invokevirtual 50, 3) ∧ decode cX4_firstWrongStatement 28 = .ok (.ifCond .ne 6, 3) ∧ decode cX4_firstWrongStatement 31 = .ok (.goto 80, 3) ∧ decode cX4_firstWrongStatement 34 = .ok (.aload_n 0, 1) ∧ decode cX4_firstWrongStatement 35 = .ok (.iload 4, 2) ∧ decode cX4_firstWrongStatement 37 = .ok (.invokevirtual 19, 3) ∧ decode cX4_firstWrongStatement 40 = .ok (.bipush 112, 2) ∧ decode cX4_firstWrongStatement 42 = .ok (.if_icmp .ne 13, 3) ∧ decode cX4_firstWrongStatement 45 = .ok (.aload_n 0, 1) ∧ decode cX4_firstWrongStatement 46 = .ok (.iload 4, 2) := by decide +kernel
theorem dX4_firstWrongStatement_22 : decode cX4_firstWrongStatement 22 = .ok (.aload_n 0, 1) := edX4_firstWrongStatement_22.1
theorem dX4_firstWrongStatement_23 : decode cX4_firstWrongStatement 23 = .ok (.iload 4, 2) := edX4_firstWrongStatement_22.2.1
theorem dX4_firstWrongStatement_25 : decode cX4_firstWrongStatement 25 = .ok (.invokevirtual 50, 3) := edX4_firstWrongStatement_22.2.2.1
theorem dX4_firstWrongStatement_28 : decode cX4_firstWrongStatement 28 = .ok (.ifCond .ne 6, 3) := edX4_firstWrongStatement_22.2.2.2.1
theorem dX4_firstWrongStatement_31 : decode cX4_firstWrongStatement 31 = .ok (.goto 80, 3) := edX4_firstWrongStatement_22.2.2.2.2.1
theorem dX4_firstWrongStatement_34 : decode cX4_firstWrongStatement 34 = .ok (.aload_n 0, 1) := edX4_firstWrongStatement_22.2.2.2.2.2.1
theorem dX4_firstWrongStatement_35 : decode cX4_firstWrongStatement 35 = .ok (.iload 4, 2) := edX4_firstWrongStatement_22.2.2.2.2.2.2.1
theorem dX4_firstWrongStatement_37 : decode cX4_firstWrongStatement 37 = .ok (.invokevirtual 19, 3) := edX4_firstWrongStatement_22.2.2.2.2.2.2.2.1
theorem dX4_firstWrongStatement_40 : decode cX4_firstWrongStatement 40 = .ok (.bipush 112, 2) := edX4_firstWrongStatement_22.2.2.2.2.2.2.2.2.1
theorem dX4_firstWrongStatement_42 : decode cX4_firstWrongStatement 42 = .ok (.if_icmp .ne 13, 3) := edX4_firstWrongStatement_22.2.2.2.2.2.2.2.2.2.1
theorem dX4_firstWrongStatement_45 : decode cX4_firstWrongStatement 45 = .ok (.aload_n 0, 1) := edX4_firstWrongStatement_22.2.2.2.2.2.2.2.2.2.2.1
theorem dX4_firstWrongStatement_46 : decode cX4_firstWrongStatement 46 = .ok (.iload 4, 2) := edX4_firstWrongStatement_22.2.2.2.2.2.2.2.2.2.2.2
set_option maxRecDepth 20000 in
theorem edX4_firstWrongStatement_48 : decode cX4_firstWrongStatement 48 = .ok (.iload_n 2, 1) ∧ decode cX4_firstWrongStatement 49 = .ok (.invokevirtual 53, 3) ∧ decode cX4_firstWrongStatement 52 = .ok (.goto 11, 3) ∧ decode cX4_firstWrongStatement 55 = .ok (.aload_n 0, 1) ∧ decode cX4_firstWrongStatement 56 = .ok (.iload 4, 2) ∧ decode cX4_firstWrongStatement 58 = .ok (.iload_n 2, 1) ∧ decode cX4_firstWrongStatement 59 = .ok (.iload_n 3, 1) ∧ decode cX4_firstWrongStatement 60 = .ok (.invokevirtual 57, 3) ∧ decode cX4_firstWrongStatement 63 = .ok (.istore 5, 2) ∧ decode cX4_firstWrongStatement 65 = .ok (.iload 5, 2) ∧ decode cX4_firstWrongStatement 67 = .ok (.ifCond .ne 6, 3) ∧ decode cX4_firstWrongStatement 70 = .ok (.iload 4, 2) := by decide +kernel
theorem dX4_firstWrongStatement_48 : decode cX4_firstWrongStatement 48 = .ok (.iload_n 2, 1) := edX4_firstWrongStatement_48.1
theorem dX4_firstWrongStatement_49 : decode cX4_firstWrongStatement 49 = .ok (.invokevirtual 53, 3) := edX4_firstWrongStatement_48.2.1
theorem dX4_firstWrongStatement_52 : decode cX4_firstWrongStatement 52 = .ok (.goto 11, 3) := edX4_firstWrongStatement_48.2.2.1
theorem dX4_firstWrongStatement_55 : decode cX4_firstWrongStatement 55 = .ok (.aload_n 0, 1) := edX4_firstWrongStatement_48.2.2.2.1
theorem dX4_firstWrongStatement_56 : decode cX4_firstWrongStatement 56 = .ok (.iload 4, 2) := edX4_firstWrongStatement_48.2.2.2.2.1
theorem dX4_firstWrongStatement_58 : decode cX4_firstWrongStatement 58 = .ok (.iload_n 2, 1) := edX4_firstWrongStatement_48.2.2.2.2.2.1
theorem dX4_firstWrongStatement_59 : decode cX4_firstWrongStatement 59 = .ok (.iload_n 3, 1) := edX4_firstWrongStatement_48.2.2.2.2.2.2.1
theorem dX4_firstWrongStatement_60 : decode cX4_firstWrongStatement 60 = .ok (.invokevirtual 57, 3) := edX4_firstWrongStatement_48.2.2.2.2.2.2.2.1
theorem dX4_firstWrongStatement_63 : decode cX4_firstWrongStatement 63 = .ok (.istore 5, 2) := edX4_firstWrongStatement_48.2.2.2.2.2.2.2.2.1
theorem dX4_firstWrongStatement_65 : decode cX4_firstWrongStatement 65 = .ok (.iload 5, 2) := edX4_firstWrongStatement_48.2.2.2.2.2.2.2.2.2.1
theorem dX4_firstWrongStatement_67 : decode cX4_firstWrongStatement 67 = .ok (.ifCond .ne 6, 3) := edX4_firstWrongStatement_48.2.2.2.2.2.2.2.2.2.2.1
theorem dX4_firstWrongStatement_70 : decode cX4_firstWrongStatement 70 = .ok (.iload 4, 2) := edX4_firstWrongStatement_48.2.2.2.2.2.2.2.2.2.2.2
set_option maxRecDepth 20000 in
theorem edX4_firstWrongStatement_72 : decode cX4_firstWrongStatement 72 = .ok (.ireturn, 1) ∧ decode cX4_firstWrongStatement 73 = .ok (.iload_n 2, 1) ∧ decode cX4_firstWrongStatement 74 = .ok (.aload_n 0, 1) ∧ decode cX4_firstWrongStatement 75 = .ok (.iload 4, 2) ∧ decode cX4_firstWrongStatement 77 = .ok (.invokevirtual 19, 3) ∧ decode cX4_firstWrongStatement 80 = .ok (.bipush 112, 2) ∧ decode cX4_firstWrongStatement 82 = .ok (.if_icmp .ne 7, 3) ∧ decode cX4_firstWrongStatement 85 = .ok (.iconst 1, 1) ∧ decode cX4_firstWrongStatement 86 = .ok (.goto 4, 3) ∧ decode cX4_firstWrongStatement 89 = .ok (.iconst 0, 1) ∧ decode cX4_firstWrongStatement 90 = .ok (.iadd, 1) ∧ decode cX4_firstWrongStatement 91 = .ok (.istore_n 2, 1) := by decide +kernel
theorem dX4_firstWrongStatement_72 : decode cX4_firstWrongStatement 72 = .ok (.ireturn, 1) := edX4_firstWrongStatement_72.1
theorem dX4_firstWrongStatement_73 : decode cX4_firstWrongStatement 73 = .ok (.iload_n 2, 1) := edX4_firstWrongStatement_72.2.1
theorem dX4_firstWrongStatement_74 : decode cX4_firstWrongStatement 74 = .ok (.aload_n 0, 1) := edX4_firstWrongStatement_72.2.2.1
theorem dX4_firstWrongStatement_75 : decode cX4_firstWrongStatement 75 = .ok (.iload 4, 2) := edX4_firstWrongStatement_72.2.2.2.1
theorem dX4_firstWrongStatement_77 : decode cX4_firstWrongStatement 77 = .ok (.invokevirtual 19, 3) := edX4_firstWrongStatement_72.2.2.2.2.1
theorem dX4_firstWrongStatement_80 : decode cX4_firstWrongStatement 80 = .ok (.bipush 112, 2) := edX4_firstWrongStatement_72.2.2.2.2.2.1
theorem dX4_firstWrongStatement_82 : decode cX4_firstWrongStatement 82 = .ok (.if_icmp .ne 7, 3) := edX4_firstWrongStatement_72.2.2.2.2.2.2.1
theorem dX4_firstWrongStatement_85 : decode cX4_firstWrongStatement 85 = .ok (.iconst 1, 1) := edX4_firstWrongStatement_72.2.2.2.2.2.2.2.1
theorem dX4_firstWrongStatement_86 : decode cX4_firstWrongStatement 86 = .ok (.goto 4, 3) := edX4_firstWrongStatement_72.2.2.2.2.2.2.2.2.1
theorem dX4_firstWrongStatement_89 : decode cX4_firstWrongStatement 89 = .ok (.iconst 0, 1) := edX4_firstWrongStatement_72.2.2.2.2.2.2.2.2.2.1
theorem dX4_firstWrongStatement_90 : decode cX4_firstWrongStatement 90 = .ok (.iadd, 1) := edX4_firstWrongStatement_72.2.2.2.2.2.2.2.2.2.2.1
theorem dX4_firstWrongStatement_91 : decode cX4_firstWrongStatement 91 = .ok (.istore_n 2, 1) := edX4_firstWrongStatement_72.2.2.2.2.2.2.2.2.2.2.2
set_option maxRecDepth 20000 in
theorem edX4_firstWrongStatement_92 : decode cX4_firstWrongStatement 92 = .ok (.iload_n 3, 1) ∧ decode cX4_firstWrongStatement 93 = .ok (.aload_n 0, 1) ∧ decode cX4_firstWrongStatement 94 = .ok (.iload 4, 2) ∧ decode cX4_firstWrongStatement 96 = .ok (.invokevirtual 19, 3) ∧ decode cX4_firstWrongStatement 99 = .ok (.bipush 112, 2) ∧ decode cX4_firstWrongStatement 101 = .ok (.if_icmp .ne 7, 3) ∧ decode cX4_firstWrongStatement 104 = .ok (.iconst 0, 1) ∧ decode cX4_firstWrongStatement 105 = .ok (.goto 4, 3) ∧ decode cX4_firstWrongStatement 108 = .ok (.iconst 1, 1) ∧ decode cX4_firstWrongStatement 109 = .ok (.iadd, 1) ∧ decode cX4_firstWrongStatement 110 = .ok (.istore_n 3, 1) ∧ decode cX4_firstWrongStatement 111 = .ok (.iinc 4 1, 3) := by decide +kernel
theorem dX4_firstWrongStatement_92 : decode cX4_firstWrongStatement 92 = .ok (.iload_n 3, 1) := edX4_firstWrongStatement_92.1
theorem dX4_firstWrongStatement_93 : decode cX4_firstWrongStatement 93 = .ok (.aload_n 0, 1) := edX4_firstWrongStatement_92.2.1
theorem dX4_firstWrongStatement_94 : decode cX4_firstWrongStatement 94 = .ok (.iload 4, 2) := edX4_firstWrongStatement_92.2.2.1
theorem dX4_firstWrongStatement_96 : decode cX4_firstWrongStatement 96 = .ok (.invokevirtual 19, 3) := edX4_firstWrongStatement_92.2.2.2.1
theorem dX4_firstWrongStatement_99 : decode cX4_firstWrongStatement 99 = .ok (.bipush 112, 2) := edX4_firstWrongStatement_92.2.2.2.2.1
theorem dX4_firstWrongStatement_101 : decode cX4_firstWrongStatement 101 = .ok (.if_icmp .ne 7, 3) := edX4_firstWrongStatement_92.2.2.2.2.2.1
theorem dX4_firstWrongStatement_104 : decode cX4_firstWrongStatement 104 = .ok (.iconst 0, 1) := edX4_firstWrongStatement_92.2.2.2.2.2.2.1
theorem dX4_firstWrongStatement_105 : decode cX4_firstWrongStatement 105 = .ok (.goto 4, 3) := edX4_firstWrongStatement_92.2.2.2.2.2.2.2.1
theorem dX4_firstWrongStatement_108 : decode cX4_firstWrongStatement 108 = .ok (.iconst 1, 1) := edX4_firstWrongStatement_92.2.2.2.2.2.2.2.2.1
theorem dX4_firstWrongStatement_109 : decode cX4_firstWrongStatement 109 = .ok (.iadd, 1) := edX4_firstWrongStatement_92.2.2.2.2.2.2.2.2.2.1
theorem dX4_firstWrongStatement_110 : decode cX4_firstWrongStatement 110 = .ok (.istore_n 3, 1) := edX4_firstWrongStatement_92.2.2.2.2.2.2.2.2.2.2.1
theorem dX4_firstWrongStatement_111 : decode cX4_firstWrongStatement 111 = .ok (.iinc 4 1, 3) := edX4_firstWrongStatement_92.2.2.2.2.2.2.2.2.2.2.2
set_option maxRecDepth 20000 in
theorem edX4_firstWrongStatement_114 : decode cX4_firstWrongStatement 114 = .ok (.goto (-101), 3) ∧ decode cX4_firstWrongStatement 117 = .ok (.bipush (-9), 2) ∧ decode cX4_firstWrongStatement 119 = .ok (.ireturn, 1) := by decide +kernel
theorem dX4_firstWrongStatement_114 : decode cX4_firstWrongStatement 114 = .ok (.goto (-101), 3) := edX4_firstWrongStatement_114.1
theorem dX4_firstWrongStatement_117 : decode cX4_firstWrongStatement 117 = .ok (.bipush (-9), 2) := edX4_firstWrongStatement_114.2.1
theorem dX4_firstWrongStatement_119 : decode cX4_firstWrongStatement 119 = .ok (.ireturn, 1) := edX4_firstWrongStatement_114.2.2
noncomputable def voX4_firstWrongStatement : List Cond := [.fieldLink RX4 42 "EachOnHisCue$Play" "players" "I", .fieldLink RX4 47 "EachOnHisCue$Play" "lines" "I", .fieldLink RX4 15 "EachOnHisCue$Letters" "size" "I", .methodLink RX4 50 yX4_begins, .instanceMethod yX4_begins, .selects RX4 yX4_begins yX4_begins, .initialized RX4, .methodLink RX4 19 yX4_at, .instanceMethod yX4_at, .selects RX4 yX4_at yX4_at, .methodLink RX4 57 yX4_isLine, .instanceMethod yX4_isLine, .selects RX4 yX4_isLine yX4_isLine, .methodLink RX4 53 yX4_isPlayer, .instanceMethod yX4_isPlayer, .selects RX4 yX4_isPlayer yX4_isPlayer]
noncomputable def vsX4_firstWrongStatement : List Cond := .code yX4_firstWrongStatement cX4_firstWrongStatement 6 (some .int) :: (voX4_firstWrongStatement ++ (vsX4_begins ++ (vsX4_at ++ (vsX4_isLine ++ (vsX4_isPlayer ++ (wsX40 ++ (wsX70)))))))
theorem zgX7 : zGd wsX70 := z_gdO (by decide +kernel)
theorem zgX4_firstWrongStatement : zGd vsX4_firstWrongStatement := z_gdC rfl (z_gdA (z_gdO (by decide +kernel) : zGd voX4_firstWrongStatement) (z_gdA zgX4_begins (z_gdA zgX4_at (z_gdA zgX4_isLine (z_gdA zgX4_isPlayer (z_gdA zgX4 (zgX7)))))))
theorem in_X4_firstWrongStatement_X4 : ∀ w ∈ wsX40, w ∈ vsX4_firstWrongStatement := fun _ h => List.mem_cons_of_mem _ (List.mem_append_right _ (List.mem_append_right _ (List.mem_append_right _ (List.mem_append_right _ (List.mem_append_right _ (List.mem_append_left _ h))))))
theorem in_X4_firstWrongStatement_X7 : ∀ w ∈ wsX70, w ∈ vsX4_firstWrongStatement := fun _ h => List.mem_cons_of_mem _ (List.mem_append_right _ (List.mem_append_right _ (List.mem_append_right _ (List.mem_append_right _ (List.mem_append_right _ (List.mem_append_right _ (h)))))))
theorem gw_X4_firstWrongStatement_X4_begins : GoodIn vsX4_firstWrongStatement vsX4_begins := z_gdI (fun _ h => List.mem_cons_of_mem _ (List.mem_append_right _ (List.mem_append_left _ h))) zgX4_begins
set_option maxRecDepth 20000 in
theorem gv_X4_firstWrongStatement_X4_begins_50 : GoodIn vsX4_firstWrongStatement (wsV RX4 50 RX4 yX4_begins vsX4_begins) := goodIn_app (goodIn_of _ (by decide +kernel)) gw_X4_firstWrongStatement_X4_begins
theorem gw_X4_firstWrongStatement_X4_at : GoodIn vsX4_firstWrongStatement vsX4_at := z_gdI (fun _ h => List.mem_cons_of_mem _ (List.mem_append_right _ (List.mem_append_right _ (List.mem_append_left _ h)))) zgX4_at
set_option maxRecDepth 20000 in
theorem gv_X4_firstWrongStatement_X4_at_19 : GoodIn vsX4_firstWrongStatement (wsV RX4 19 RX4 yX4_at vsX4_at) := goodIn_app (goodIn_of _ (by decide +kernel)) gw_X4_firstWrongStatement_X4_at
theorem gw_X4_firstWrongStatement_X4_isLine : GoodIn vsX4_firstWrongStatement vsX4_isLine := z_gdI (fun _ h => List.mem_cons_of_mem _ (List.mem_append_right _ (List.mem_append_right _ (List.mem_append_right _ (List.mem_append_left _ h))))) zgX4_isLine
set_option maxRecDepth 20000 in
theorem gv_X4_firstWrongStatement_X4_isLine_57 : GoodIn vsX4_firstWrongStatement (wsV RX4 57 RX4 yX4_isLine vsX4_isLine) := goodIn_app (goodIn_of _ (by decide +kernel)) gw_X4_firstWrongStatement_X4_isLine
theorem gw_X4_firstWrongStatement_X4_isPlayer : GoodIn vsX4_firstWrongStatement vsX4_isPlayer := z_gdI (fun _ h => List.mem_cons_of_mem _ (List.mem_append_right _ (List.mem_append_right _ (List.mem_append_right _ (List.mem_append_right _ (List.mem_append_left _ h)))))) zgX4_isPlayer
set_option maxRecDepth 20000 in
theorem gv_X4_firstWrongStatement_X4_isPlayer_53 : GoodIn vsX4_firstWrongStatement (wsV RX4 53 RX4 yX4_isPlayer vsX4_isPlayer) := goodIn_app (goodIn_of _ (by decide +kernel)) gw_X4_firstWrongStatement_X4_isPlayer
set_option maxHeartbeats 4000000 in
set_option maxRecDepth 100000 in
theorem rX4_firstWrongStatement (l : Launch) (dC : Nat → ClassId) (dI : Nat → Nat → Nat) (cI cQ : ClassId) (ha0 ha1 ha0_0 ha1_0 ha1_1 ha1_2 ha1_4 ha1_5 ha1_6 ha1_7 ha1_11 : Nat) (fa0_0 : Nat → Int32) (hBfa0_0 : ∀ k, 0 ≤ (fa0_0 k).toInt ∧ (fa0_0 k).toInt ≤ 255) (ia0_1 : Int32) (hia0_1l : 0 ≤ ia0_1.toInt) (hia0_1h : ia0_1.toInt ≤ 80) (ia1_3 : Int32) (hia1_3l : 0 ≤ ia1_3.toInt) (hia1_3h : ia1_3.toInt ≤ 5) (ia1_8 : Int32) (ia1_9 : Int32) (hia1_9l : 0 ≤ ia1_9.toInt) (hia1_9h : ia1_9.toInt ≤ 12) (ia1_10 : Int32) : Met l yX4_firstWrongStatement vsX4_firstWrongStatement ({ frames := 4, cells := 0, slots := 0, locals := 88 }) (va_Pc [.ref ha0, .ref ha1] (zRB dC dI cI cQ [(ha0_0, .inl (cI, 80, .inl fa0_0)), (ha0, .inr (4, [.ref ha0_0, .int ia0_1])), (ha1, .inr (7, [.ref ha1_0, .ref ha1_1, .ref ha1_2, .int ia1_3, .ref ha1_4, .ref ha1_5, .ref ha1_6, .ref ha1_7, .int ia1_8, .int ia1_9, .int ia1_10, .ref ha1_11]))])) (vp_Si (fun r => (-9) ≤ r.toInt ∧ r.toInt ≤ 79 ∧ (r.toInt = zCkK fa0_0 ia0_1.toInt 0 ia1_3.toInt ia1_9.toInt))) 0 0 (fun _ => False) := by
  refine Met.ofW (cc := cX4_firstWrongStatement) (maxL := 6) (ret := (some .int)) (by decide) rfl ?_
  intro p e s m args below meth c s₁ B hml hv
  obtain ⟨rfl, hP, hZ⟩ := hv
  obtain ⟨hK, hAO, hN⟩ := id hZ
  have hx := B.exec
  have hb := B.bytes
  have hr := B.returns
  have hts := atoms_spec (ws := vsX4_firstWrongStatement) B.pre
  have hown : s.vm.findClass RX4 = some m.cls := findClass_of_methodNamed B.named
  have hlocks := B.notSynchronized
  have hl := lv_entry ([.ref ha0, .ref ha1]) (n := 6) (Nat.le_of_ble_eq_true rfl)
  rw [lg_entry_eq]
  generalize (lg_sl ([.ref ha0, .ref ha1]) ++ List.replicate (6 - (lg_sl ([.ref ha0, .ref ha1])).length) Slot.unset).toArray = ls at hl ⊢
  have hl : lv_has ls 6 [(0, .ref ha0), (1, .ref ha1)] := hl
  refine lv_aload_n hx hb dX4_firstWrongStatement_0 rfl (lv_at hl 1 rfl) ?_
  refine va_get (D := (dC, dI)) (ci := 7) (v := .int ia1_3) (C := RX7) (T := TX7) (N := 12) hx hb hts in_X4_firstWrongStatement_X7 hown hK hP 2 rfl rfl 3 (by decide) (hts (.fieldLink RX4 42 "EachOnHisCue$Play" "players" "I") (by decide +kernel)) (fun _ h9 => h9) rfl dX4_firstWrongStatement_1 ?_
  refine lv_istore_n (lv' := [(2, .int ia1_3), (0, .ref ha0), (1, .ref ha1)]) hx hb dX4_firstWrongStatement_4 rfl hl (by decide) rfl (fun ls hl => ?_)
  refine lv_aload_n hx hb dX4_firstWrongStatement_5 rfl (lv_at hl 2 rfl) ?_
  refine va_get (D := (dC, dI)) (ci := 7) (v := .int ia1_9) (C := RX7) (T := TX7) (N := 12) hx hb hts in_X4_firstWrongStatement_X7 hown hK hP 2 rfl rfl 9 (by decide) (hts (.fieldLink RX4 47 "EachOnHisCue$Play" "lines" "I") (by decide +kernel)) (fun _ h9 => h9) rfl dX4_firstWrongStatement_6 ?_
  refine lv_istore_n (lv' := [(3, .int ia1_9), (2, .int ia1_3), (0, .ref ha0), (1, .ref ha1)]) hx hb dX4_firstWrongStatement_9 rfl hl (by decide) rfl (fun ls hl => ?_)
  refine lv_iconst (v := 0) hx hb dX4_firstWrongStatement_10 (by decide) ?_
  refine lv_istore (lv' := [(4, .int 0), (3, .int ia1_9), (2, .int ia1_3), (0, .ref ha0), (1, .ref ha1)]) hx hb dX4_firstWrongStatement_11 hl (by decide) rfl (fun ls hl => ?_)
  have hL693 : ∀ (n : Nat) (v1 : Int32) (v2 : Int32) (v3 : Int32) (ls : Array Slot), 0 ≤ v1.toInt → v1.toInt ≤ 80 → 0 ≤ v2.toInt → v2.toInt ≤ 12 → 0 ≤ v3.toInt → v3.toInt ≤ 5 → (zCkK fa0_0 ia0_1.toInt 0 ia1_3.toInt ia1_9.toInt = zCkK fa0_0 ia0_1.toInt (v1 : Int32).toInt (v3 : Int32).toInt (v2 : Int32).toInt) → (80 - v1.toInt).toNat < n → lv_has ls 6 [(4, .int v1), (3, .int v2), (2, .int v3), (0, .ref ha0), (1, .ref ha1)] → W p l e (headSpec vsX4_firstWrongStatement ({ frames := 4, cells := 0, slots := 0, locals := 88 })).room s m ([.ref ha0, .ref ha1] : List Value).toArray below meth c s.heap [] 0 0 (MQ below (vp_Si (fun r => (-9) ≤ r.toInt ∧ r.toInt ≤ 79 ∧ (r.toInt = zCkK fa0_0 ia0_1.toInt 0 ia1_3.toInt ia1_9.toInt))) ([.ref ha0, .ref ha1] : List Value).toArray s 0 0 (fun _ => False)) (F0 m 13 ls []) := by
    intro n
    induction n with
    | zero =>
      intro v1 v2 v3 ls hi694_0 hi694_1 hi694_2 hi694_3 hi694_4 hi694_5 hi694_x0 hi694_m hl
      exact absurd hi694_m (Nat.not_lt_zero _)
    | succ n ih =>
      intro v1 v2 v3 ls hi694_0 hi694_1 hi694_2 hi694_3 hi694_4 hi694_5 hi694_x0 hi694_m hl
      have ih695 := ih
      refine lv_iload hx hb dX4_firstWrongStatement_13 (lv_at hl 0 rfl) ?_
      refine lv_aload_n hx hb dX4_firstWrongStatement_15 rfl (lv_at hl 3 rfl) ?_
      refine va_get (D := (dC, dI)) (ci := 4) (v := .int ia0_1) (C := RX4) (T := TX4) (N := 2) hx hb hts in_X4_firstWrongStatement_X4 hown hK hP 1 rfl rfl 1 (by decide) (hts (.fieldLink RX4 15 "EachOnHisCue$Letters" "size" "I") (by decide +kernel)) (fun _ h9 => h9) rfl dX4_firstWrongStatement_16 ?_
      refine lv_icmp_ge (tgt := 117) hx hb dX4_firstWrongStatement_19 (by decide) (fun hc => ?_) (fun hc => ?_)
      · have q696 : ia0_1.toInt ≤ v1.toInt := z_le rfl rfl hc
        refine lv_bipush (v := (-9)) hx hb dX4_firstWrongStatement_117 (by decide) ?_
        exact W.iret (v := (-9)) hx hb hr (fun t ht hW => ⟨(-9), rfl, ⟨by first | decide | omega, by first | decide | omega, (by exact z_ckR1 (by assumption) (by omega) (by decide))⟩, ht⟩) (fun _ h => absurd h List.not_mem_nil) dX4_firstWrongStatement_119
      · have q697 : v1.toInt < ia0_1.toInt := z_nle rfl rfl hc
        refine lv_aload_n hx hb dX4_firstWrongStatement_22 rfl (lv_at hl 3 rfl) ?_
        refine lv_iload hx hb dX4_firstWrongStatement_23 (lv_at hl 0 rfl) ?_
        refine z_rdi (va_runV (As := [.int v1]) (rest := []) ⟨hx, hb, hml, hown, hts⟩ (rX4_begins l dC dI cI cQ ha0 ha0_0 fa0_0 hBfa0_0 ia0_1 hia0_1l hia0_1h v1 hi694_0 hi694_1) (cwV 1 hts gv_X4_firstWrongStatement_X4_begins_50 rfl rfl rfl (by decide +kernel) ⟨Nat.le_of_ble_eq_true rfl, Nat.le_of_ble_eq_true rfl⟩) ⟨z_blindR, va_recv hK hP (ci := 4) (q0 := 1) rfl rfl, z_preR hZ hP [0, 1] rfl⟩ rfl rfl hl.1 rfl (lv_room (Nat.le_of_ble_eq_true rfl)) dX4_firstWrongStatement_25 ⟨Nat.le_of_ble_eq_true rfl, Nat.le_of_ble_eq_true rfl⟩) (fun y698 hy698 => ?_)
        obtain ⟨hy698_0, hy698_1, hy698_2⟩ := hy698
        refine lv_if_ne (tgt := 34) hx hb dX4_firstWrongStatement_28 (by decide) (fun hc => ?_) (fun hc => ?_)
        · have q699 : y698.toInt ≠ 0 := z_ne rfl (by decide) hc
          refine lv_aload_n hx hb dX4_firstWrongStatement_34 rfl (lv_at hl 3 rfl) ?_
          refine lv_iload hx hb dX4_firstWrongStatement_35 (lv_at hl 0 rfl) ?_
          refine z_rdi (va_runV (As := [.int v1]) (rest := []) ⟨hx, hb, hml, hown, hts⟩ (rX4_at l dC dI cI cQ ha0 ha0_0 fa0_0 hBfa0_0 ia0_1 hia0_1l hia0_1h v1) (cwV 1 hts gv_X4_firstWrongStatement_X4_at_19 rfl rfl rfl (by decide +kernel) ⟨Nat.le_of_ble_eq_true rfl, Nat.le_of_ble_eq_true rfl⟩) ⟨z_blindR, va_recv hK hP (ci := 4) (q0 := 1) rfl rfl, z_preR hZ hP [0, 1] rfl⟩ rfl rfl hl.1 rfl (lv_room (Nat.le_of_ble_eq_true rfl)) dX4_firstWrongStatement_37 ⟨Nat.le_of_ble_eq_true rfl, Nat.le_of_ble_eq_true rfl⟩) (fun y700 hy700 => ?_)
          obtain ⟨hy700_0, hy700_1, hy700_2⟩ := hy700
          refine lv_bipush (v := 112) hx hb dX4_firstWrongStatement_40 (by decide) ?_
          refine lv_icmp_ne (tgt := 55) hx hb dX4_firstWrongStatement_42 (by decide) (fun hc => ?_) (fun hc => ?_)
          · have q701 : y700.toInt ≠ 112 := z_ne rfl (by decide) hc
            refine lv_aload_n hx hb dX4_firstWrongStatement_55 rfl (lv_at hl 3 rfl) ?_
            refine lv_iload hx hb dX4_firstWrongStatement_56 (lv_at hl 0 rfl) ?_
            refine lv_iload_n hx hb dX4_firstWrongStatement_58 rfl (lv_at hl 2 rfl) ?_
            refine lv_iload_n hx hb dX4_firstWrongStatement_59 rfl (lv_at hl 1 rfl) ?_
            refine z_rdi (va_runV (As := [.int v1, .int v3, .int v2]) (rest := []) ⟨hx, hb, hml, hown, hts⟩ (rX4_isLine l dC dI cI cQ ha0 ha0_0 fa0_0 hBfa0_0 ia0_1 hia0_1l hia0_1h v1 hi694_0 hi694_1 v3 v2) (cwV 3 hts gv_X4_firstWrongStatement_X4_isLine_57 rfl rfl rfl (by decide +kernel) ⟨Nat.le_of_ble_eq_true rfl, Nat.le_of_ble_eq_true rfl⟩) ⟨z_blindR, va_recv hK hP (ci := 4) (q0 := 1) rfl rfl, z_preR hZ hP [0, 1] rfl⟩ rfl rfl hl.1 rfl (lv_room (Nat.le_of_ble_eq_true rfl)) dX4_firstWrongStatement_60 ⟨Nat.le_of_ble_eq_true rfl, Nat.le_of_ble_eq_true rfl⟩) (fun y702 hy702 => ?_)
            obtain ⟨hy702_0, hy702_1, hy702_2⟩ := hy702
            refine lv_istore (lv' := [(5, .int y702), (4, .int v1), (3, .int v2), (2, .int v3), (0, .ref ha0), (1, .ref ha1)]) hx hb dX4_firstWrongStatement_63 hl (by decide) rfl (fun ls hl => ?_)
            refine lv_iload hx hb dX4_firstWrongStatement_65 (lv_at hl 0 rfl) ?_
            refine lv_if_ne (tgt := 73) hx hb dX4_firstWrongStatement_67 (by decide) (fun hc => ?_) (fun hc => ?_)
            · have q703 : y702.toInt ≠ 0 := z_ne rfl (by decide) hc
              refine lv_iload_n hx hb dX4_firstWrongStatement_73 rfl (lv_at hl 3 rfl) ?_
              refine lv_aload_n hx hb dX4_firstWrongStatement_74 rfl (lv_at hl 4 rfl) ?_
              refine lv_iload hx hb dX4_firstWrongStatement_75 (lv_at hl 1 rfl) ?_
              refine z_rdi (va_runV (As := [.int v1]) (rest := [.int v3]) ⟨hx, hb, hml, hown, hts⟩ (rX4_at l dC dI cI cQ ha0 ha0_0 fa0_0 hBfa0_0 ia0_1 hia0_1l hia0_1h v1) (cwV 1 hts gv_X4_firstWrongStatement_X4_at_19 rfl rfl rfl (by decide +kernel) ⟨Nat.le_of_ble_eq_true rfl, Nat.le_of_ble_eq_true rfl⟩) ⟨z_blindR, va_recv hK hP (ci := 4) (q0 := 1) rfl rfl, z_preR hZ hP [0, 1] rfl⟩ rfl rfl hl.1 rfl (lv_room (Nat.le_of_ble_eq_true rfl)) dX4_firstWrongStatement_77 ⟨Nat.le_of_ble_eq_true rfl, Nat.le_of_ble_eq_true rfl⟩) (fun y704 hy704 => ?_)
              obtain ⟨hy704_0, hy704_1, hy704_2⟩ := hy704
              refine lv_bipush (v := 112) hx hb dX4_firstWrongStatement_80 (by decide) ?_
              refine lv_icmp_ne (tgt := 89) hx hb dX4_firstWrongStatement_82 (by decide) (fun hc => ?_) (fun hc => ?_)
              · have q705 : y704.toInt ≠ 112 := z_ne rfl (by decide) hc
                refine lv_iconst (v := 0) hx hb dX4_firstWrongStatement_89 (by decide) ?_
                refine lv_iadd hx hb dX4_firstWrongStatement_90 ?_
                refine lv_topi (fun y706 ey706 => ?_)
                have hy706 : y706.toInt = v3.toInt + 0 := by rw [ey706]; exact z_add rfl (by decide) (by omega) (by omega)
                refine lv_istore_n (lv' := [(2, .int y706), (5, .int y702), (4, .int v1), (3, .int v2), (0, .ref ha0), (1, .ref ha1)]) hx hb dX4_firstWrongStatement_91 rfl hl (by decide) rfl (fun ls hl => ?_)
                refine lv_iload_n hx hb dX4_firstWrongStatement_92 rfl (lv_at hl 3 rfl) ?_
                refine lv_aload_n hx hb dX4_firstWrongStatement_93 rfl (lv_at hl 4 rfl) ?_
                refine lv_iload hx hb dX4_firstWrongStatement_94 (lv_at hl 2 rfl) ?_
                refine z_rdi (va_runV (As := [.int v1]) (rest := [.int v2]) ⟨hx, hb, hml, hown, hts⟩ (rX4_at l dC dI cI cQ ha0 ha0_0 fa0_0 hBfa0_0 ia0_1 hia0_1l hia0_1h v1) (cwV 1 hts gv_X4_firstWrongStatement_X4_at_19 rfl rfl rfl (by decide +kernel) ⟨Nat.le_of_ble_eq_true rfl, Nat.le_of_ble_eq_true rfl⟩) ⟨z_blindR, va_recv hK hP (ci := 4) (q0 := 1) rfl rfl, z_preR hZ hP [0, 1] rfl⟩ rfl rfl hl.1 rfl (lv_room (Nat.le_of_ble_eq_true rfl)) dX4_firstWrongStatement_96 ⟨Nat.le_of_ble_eq_true rfl, Nat.le_of_ble_eq_true rfl⟩) (fun y707 hy707 => ?_)
                obtain ⟨hy707_0, hy707_1, hy707_2⟩ := hy707
                refine lv_bipush (v := 112) hx hb dX4_firstWrongStatement_99 (by decide) ?_
                refine lv_icmp_ne (tgt := 108) hx hb dX4_firstWrongStatement_101 (by decide) (fun hc => ?_) (fun hc => ?_)
                · have q708 : y707.toInt ≠ 112 := z_ne rfl (by decide) hc
                  refine lv_iconst (v := 1) hx hb dX4_firstWrongStatement_108 (by decide) ?_
                  refine lv_iadd hx hb dX4_firstWrongStatement_109 ?_
                  refine lv_topi (fun y709 ey709 => ?_)
                  have hy709 : y709.toInt = v2.toInt + 1 := by rw [ey709]; exact z_add rfl (by decide) (by omega) (by omega)
                  refine lv_istore_n (lv' := [(3, .int y709), (2, .int y706), (5, .int y702), (4, .int v1), (0, .ref ha0), (1, .ref ha1)]) hx hb dX4_firstWrongStatement_110 rfl hl (by decide) rfl (fun ls hl => ?_)
                  obtain ⟨y710, ey710⟩ : ∃ y : Int32, y = v1 + 1 := ⟨_, rfl⟩
                  refine lv_iinc (v := y710) (lv' := [(4, .int y710), (3, .int y709), (2, .int y706), (5, .int y702), (0, .ref ha0), (1, .ref ha1)]) hx hb dX4_firstWrongStatement_111 hl (k := 3) rfl (by rw [ey710]; rfl) (by decide) rfl (fun ls hl => ?_)
                  have hy710 : y710.toInt = v1.toInt + 1 := by rw [ey710]; exact z_add rfl (by decide) (by omega) (by omega)
                  refine lv_goto (tgt := 13) hx hb dX4_firstWrongStatement_114 (by decide) ?_
                  exact ih695 y710 y709 y706 ls (by first | decide | omega) (by first | decide | omega) (by first | decide | omega) (by first | decide | omega) (by first | decide | omega) (by first | decide | omega) (by first | exact z_ckC (by assumption) (by omega) hy698_2 (by omega) hy700_2 (by omega) hy702_2 (by omega) (by omega) (by omega) (by omega) | (exfalso; omega)) (by omega) (lv_sub hl [0, 1, 2, 4, 5] rfl)
                · have q711 : y707.toInt = 112 := z_eq rfl (by decide) hc
                  refine lv_iconst (v := 0) hx hb dX4_firstWrongStatement_104 (by decide) ?_
                  refine lv_goto (tgt := 109) hx hb dX4_firstWrongStatement_105 (by decide) ?_
                  refine lv_iadd hx hb dX4_firstWrongStatement_109 ?_
                  refine lv_topi (fun y712 ey712 => ?_)
                  have hy712 : y712.toInt = v2.toInt + 0 := by rw [ey712]; exact z_add rfl (by decide) (by omega) (by omega)
                  refine lv_istore_n (lv' := [(3, .int y712), (2, .int y706), (5, .int y702), (4, .int v1), (0, .ref ha0), (1, .ref ha1)]) hx hb dX4_firstWrongStatement_110 rfl hl (by decide) rfl (fun ls hl => ?_)
                  obtain ⟨y713, ey713⟩ : ∃ y : Int32, y = v1 + 1 := ⟨_, rfl⟩
                  refine lv_iinc (v := y713) (lv' := [(4, .int y713), (3, .int y712), (2, .int y706), (5, .int y702), (0, .ref ha0), (1, .ref ha1)]) hx hb dX4_firstWrongStatement_111 hl (k := 3) rfl (by rw [ey713]; rfl) (by decide) rfl (fun ls hl => ?_)
                  have hy713 : y713.toInt = v1.toInt + 1 := by rw [ey713]; exact z_add rfl (by decide) (by omega) (by omega)
                  refine lv_goto (tgt := 13) hx hb dX4_firstWrongStatement_114 (by decide) ?_
                  exact ih695 y713 y712 y706 ls (by first | decide | omega) (by first | decide | omega) (by first | decide | omega) (by first | decide | omega) (by first | decide | omega) (by first | decide | omega) (by first | exact z_ckC (by assumption) (by omega) hy698_2 (by omega) hy700_2 (by omega) hy702_2 (by omega) (by omega) (by omega) (by omega) | (exfalso; omega)) (by omega) (lv_sub hl [0, 1, 2, 4, 5] rfl)
              · have q714 : y704.toInt = 112 := z_eq rfl (by decide) hc
                refine lv_iconst (v := 1) hx hb dX4_firstWrongStatement_85 (by decide) ?_
                refine lv_goto (tgt := 90) hx hb dX4_firstWrongStatement_86 (by decide) ?_
                refine lv_iadd hx hb dX4_firstWrongStatement_90 ?_
                refine lv_topi (fun y715 ey715 => ?_)
                have hy715 : y715.toInt = v3.toInt + 1 := by rw [ey715]; exact z_add rfl (by decide) (by omega) (by omega)
                refine lv_istore_n (lv' := [(2, .int y715), (5, .int y702), (4, .int v1), (3, .int v2), (0, .ref ha0), (1, .ref ha1)]) hx hb dX4_firstWrongStatement_91 rfl hl (by decide) rfl (fun ls hl => ?_)
                refine lv_iload_n hx hb dX4_firstWrongStatement_92 rfl (lv_at hl 3 rfl) ?_
                refine lv_aload_n hx hb dX4_firstWrongStatement_93 rfl (lv_at hl 4 rfl) ?_
                refine lv_iload hx hb dX4_firstWrongStatement_94 (lv_at hl 2 rfl) ?_
                refine z_rdi (va_runV (As := [.int v1]) (rest := [.int v2]) ⟨hx, hb, hml, hown, hts⟩ (rX4_at l dC dI cI cQ ha0 ha0_0 fa0_0 hBfa0_0 ia0_1 hia0_1l hia0_1h v1) (cwV 1 hts gv_X4_firstWrongStatement_X4_at_19 rfl rfl rfl (by decide +kernel) ⟨Nat.le_of_ble_eq_true rfl, Nat.le_of_ble_eq_true rfl⟩) ⟨z_blindR, va_recv hK hP (ci := 4) (q0 := 1) rfl rfl, z_preR hZ hP [0, 1] rfl⟩ rfl rfl hl.1 rfl (lv_room (Nat.le_of_ble_eq_true rfl)) dX4_firstWrongStatement_96 ⟨Nat.le_of_ble_eq_true rfl, Nat.le_of_ble_eq_true rfl⟩) (fun y716 hy716 => ?_)
                obtain ⟨hy716_0, hy716_1, hy716_2⟩ := hy716
                refine lv_bipush (v := 112) hx hb dX4_firstWrongStatement_99 (by decide) ?_
                refine lv_icmp_ne (tgt := 108) hx hb dX4_firstWrongStatement_101 (by decide) (fun hc => ?_) (fun hc => ?_)
                · have q717 : y716.toInt ≠ 112 := z_ne rfl (by decide) hc
                  refine lv_iconst (v := 1) hx hb dX4_firstWrongStatement_108 (by decide) ?_
                  refine lv_iadd hx hb dX4_firstWrongStatement_109 ?_
                  refine lv_topi (fun y718 ey718 => ?_)
                  have hy718 : y718.toInt = v2.toInt + 1 := by rw [ey718]; exact z_add rfl (by decide) (by omega) (by omega)
                  refine lv_istore_n (lv' := [(3, .int y718), (2, .int y715), (5, .int y702), (4, .int v1), (0, .ref ha0), (1, .ref ha1)]) hx hb dX4_firstWrongStatement_110 rfl hl (by decide) rfl (fun ls hl => ?_)
                  obtain ⟨y719, ey719⟩ : ∃ y : Int32, y = v1 + 1 := ⟨_, rfl⟩
                  refine lv_iinc (v := y719) (lv' := [(4, .int y719), (3, .int y718), (2, .int y715), (5, .int y702), (0, .ref ha0), (1, .ref ha1)]) hx hb dX4_firstWrongStatement_111 hl (k := 3) rfl (by rw [ey719]; rfl) (by decide) rfl (fun ls hl => ?_)
                  have hy719 : y719.toInt = v1.toInt + 1 := by rw [ey719]; exact z_add rfl (by decide) (by omega) (by omega)
                  refine lv_goto (tgt := 13) hx hb dX4_firstWrongStatement_114 (by decide) ?_
                  exact ih695 y719 y718 y715 ls (by first | decide | omega) (by first | decide | omega) (by first | decide | omega) (by first | decide | omega) (by first | decide | omega) (by first | decide | omega) (by first | exact z_ckC (by assumption) (by omega) hy698_2 (by omega) hy700_2 (by omega) hy702_2 (by omega) (by omega) (by omega) (by omega) | (exfalso; omega)) (by omega) (lv_sub hl [0, 1, 2, 4, 5] rfl)
                · have q720 : y716.toInt = 112 := z_eq rfl (by decide) hc
                  refine lv_iconst (v := 0) hx hb dX4_firstWrongStatement_104 (by decide) ?_
                  refine lv_goto (tgt := 109) hx hb dX4_firstWrongStatement_105 (by decide) ?_
                  refine lv_iadd hx hb dX4_firstWrongStatement_109 ?_
                  refine lv_topi (fun y721 ey721 => ?_)
                  have hy721 : y721.toInt = v2.toInt + 0 := by rw [ey721]; exact z_add rfl (by decide) (by omega) (by omega)
                  refine lv_istore_n (lv' := [(3, .int y721), (2, .int y715), (5, .int y702), (4, .int v1), (0, .ref ha0), (1, .ref ha1)]) hx hb dX4_firstWrongStatement_110 rfl hl (by decide) rfl (fun ls hl => ?_)
                  obtain ⟨y722, ey722⟩ : ∃ y : Int32, y = v1 + 1 := ⟨_, rfl⟩
                  refine lv_iinc (v := y722) (lv' := [(4, .int y722), (3, .int y721), (2, .int y715), (5, .int y702), (0, .ref ha0), (1, .ref ha1)]) hx hb dX4_firstWrongStatement_111 hl (k := 3) rfl (by rw [ey722]; rfl) (by decide) rfl (fun ls hl => ?_)
                  have hy722 : y722.toInt = v1.toInt + 1 := by rw [ey722]; exact z_add rfl (by decide) (by omega) (by omega)
                  refine lv_goto (tgt := 13) hx hb dX4_firstWrongStatement_114 (by decide) ?_
                  exact ih695 y722 y721 y715 ls (by first | decide | omega) (by first | decide | omega) (by first | decide | omega) (by first | decide | omega) (by first | decide | omega) (by first | decide | omega) (by first | exact z_ckC (by assumption) (by omega) hy698_2 (by omega) hy700_2 (by omega) hy702_2 (by omega) (by omega) (by omega) (by omega) | (exfalso; omega)) (by omega) (lv_sub hl [0, 1, 2, 4, 5] rfl)
            · have q723 : y702.toInt = 0 := z_eq rfl (by decide) hc
              refine lv_iload hx hb dX4_firstWrongStatement_70 (lv_at hl 1 rfl) ?_
              exact W.iret (v := v1) hx hb hr (fun t ht hW => ⟨v1, rfl, ⟨by first | decide | omega, by first | decide | omega, (by first | exact z_ckR3 (by assumption) (by omega) hy698_2 (by omega) hy700_2 (by omega) hy702_2 (by omega) | (exfalso; omega))⟩, ht⟩) (fun _ h => absurd h List.not_mem_nil) dX4_firstWrongStatement_72
          · have q724 : y700.toInt = 112 := z_eq rfl (by decide) hc
            refine lv_aload_n hx hb dX4_firstWrongStatement_45 rfl (lv_at hl 3 rfl) ?_
            refine lv_iload hx hb dX4_firstWrongStatement_46 (lv_at hl 0 rfl) ?_
            refine lv_iload_n hx hb dX4_firstWrongStatement_48 rfl (lv_at hl 2 rfl) ?_
            refine z_rdi (va_runV (As := [.int v1, .int v3]) (rest := []) ⟨hx, hb, hml, hown, hts⟩ (rX4_isPlayer l dC dI cI cQ ha0 ha0_0 fa0_0 hBfa0_0 ia0_1 hia0_1l hia0_1h v1 hi694_0 hi694_1 v3) (cwV 2 hts gv_X4_firstWrongStatement_X4_isPlayer_53 rfl rfl rfl (by decide +kernel) ⟨Nat.le_of_ble_eq_true rfl, Nat.le_of_ble_eq_true rfl⟩) ⟨z_blindR, va_recv hK hP (ci := 4) (q0 := 1) rfl rfl, z_preR hZ hP [0, 1] rfl⟩ rfl rfl hl.1 rfl (lv_room (Nat.le_of_ble_eq_true rfl)) dX4_firstWrongStatement_49 ⟨Nat.le_of_ble_eq_true rfl, Nat.le_of_ble_eq_true rfl⟩) (fun y725 hy725 => ?_)
            obtain ⟨hy725_0, hy725_1, hy725_2⟩ := hy725
            refine lv_goto (tgt := 63) hx hb dX4_firstWrongStatement_52 (by decide) ?_
            refine lv_istore (lv' := [(5, .int y725), (4, .int v1), (3, .int v2), (2, .int v3), (0, .ref ha0), (1, .ref ha1)]) hx hb dX4_firstWrongStatement_63 hl (by decide) rfl (fun ls hl => ?_)
            refine lv_iload hx hb dX4_firstWrongStatement_65 (lv_at hl 0 rfl) ?_
            refine lv_if_ne (tgt := 73) hx hb dX4_firstWrongStatement_67 (by decide) (fun hc => ?_) (fun hc => ?_)
            · have q726 : y725.toInt ≠ 0 := z_ne rfl (by decide) hc
              refine lv_iload_n hx hb dX4_firstWrongStatement_73 rfl (lv_at hl 3 rfl) ?_
              refine lv_aload_n hx hb dX4_firstWrongStatement_74 rfl (lv_at hl 4 rfl) ?_
              refine lv_iload hx hb dX4_firstWrongStatement_75 (lv_at hl 1 rfl) ?_
              refine z_rdi (va_runV (As := [.int v1]) (rest := [.int v3]) ⟨hx, hb, hml, hown, hts⟩ (rX4_at l dC dI cI cQ ha0 ha0_0 fa0_0 hBfa0_0 ia0_1 hia0_1l hia0_1h v1) (cwV 1 hts gv_X4_firstWrongStatement_X4_at_19 rfl rfl rfl (by decide +kernel) ⟨Nat.le_of_ble_eq_true rfl, Nat.le_of_ble_eq_true rfl⟩) ⟨z_blindR, va_recv hK hP (ci := 4) (q0 := 1) rfl rfl, z_preR hZ hP [0, 1] rfl⟩ rfl rfl hl.1 rfl (lv_room (Nat.le_of_ble_eq_true rfl)) dX4_firstWrongStatement_77 ⟨Nat.le_of_ble_eq_true rfl, Nat.le_of_ble_eq_true rfl⟩) (fun y727 hy727 => ?_)
              obtain ⟨hy727_0, hy727_1, hy727_2⟩ := hy727
              refine lv_bipush (v := 112) hx hb dX4_firstWrongStatement_80 (by decide) ?_
              refine lv_icmp_ne (tgt := 89) hx hb dX4_firstWrongStatement_82 (by decide) (fun hc => ?_) (fun hc => ?_)
              · have q728 : y727.toInt ≠ 112 := z_ne rfl (by decide) hc
                refine lv_iconst (v := 0) hx hb dX4_firstWrongStatement_89 (by decide) ?_
                refine lv_iadd hx hb dX4_firstWrongStatement_90 ?_
                refine lv_topi (fun y729 ey729 => ?_)
                have hy729 : y729.toInt = v3.toInt + 0 := by rw [ey729]; exact z_add rfl (by decide) (by omega) (by omega)
                refine lv_istore_n (lv' := [(2, .int y729), (5, .int y725), (4, .int v1), (3, .int v2), (0, .ref ha0), (1, .ref ha1)]) hx hb dX4_firstWrongStatement_91 rfl hl (by decide) rfl (fun ls hl => ?_)
                refine lv_iload_n hx hb dX4_firstWrongStatement_92 rfl (lv_at hl 3 rfl) ?_
                refine lv_aload_n hx hb dX4_firstWrongStatement_93 rfl (lv_at hl 4 rfl) ?_
                refine lv_iload hx hb dX4_firstWrongStatement_94 (lv_at hl 2 rfl) ?_
                refine z_rdi (va_runV (As := [.int v1]) (rest := [.int v2]) ⟨hx, hb, hml, hown, hts⟩ (rX4_at l dC dI cI cQ ha0 ha0_0 fa0_0 hBfa0_0 ia0_1 hia0_1l hia0_1h v1) (cwV 1 hts gv_X4_firstWrongStatement_X4_at_19 rfl rfl rfl (by decide +kernel) ⟨Nat.le_of_ble_eq_true rfl, Nat.le_of_ble_eq_true rfl⟩) ⟨z_blindR, va_recv hK hP (ci := 4) (q0 := 1) rfl rfl, z_preR hZ hP [0, 1] rfl⟩ rfl rfl hl.1 rfl (lv_room (Nat.le_of_ble_eq_true rfl)) dX4_firstWrongStatement_96 ⟨Nat.le_of_ble_eq_true rfl, Nat.le_of_ble_eq_true rfl⟩) (fun y730 hy730 => ?_)
                obtain ⟨hy730_0, hy730_1, hy730_2⟩ := hy730
                refine lv_bipush (v := 112) hx hb dX4_firstWrongStatement_99 (by decide) ?_
                refine lv_icmp_ne (tgt := 108) hx hb dX4_firstWrongStatement_101 (by decide) (fun hc => ?_) (fun hc => ?_)
                · have q731 : y730.toInt ≠ 112 := z_ne rfl (by decide) hc
                  refine lv_iconst (v := 1) hx hb dX4_firstWrongStatement_108 (by decide) ?_
                  refine lv_iadd hx hb dX4_firstWrongStatement_109 ?_
                  refine lv_topi (fun y732 ey732 => ?_)
                  have hy732 : y732.toInt = v2.toInt + 1 := by rw [ey732]; exact z_add rfl (by decide) (by omega) (by omega)
                  refine lv_istore_n (lv' := [(3, .int y732), (2, .int y729), (5, .int y725), (4, .int v1), (0, .ref ha0), (1, .ref ha1)]) hx hb dX4_firstWrongStatement_110 rfl hl (by decide) rfl (fun ls hl => ?_)
                  obtain ⟨y733, ey733⟩ : ∃ y : Int32, y = v1 + 1 := ⟨_, rfl⟩
                  refine lv_iinc (v := y733) (lv' := [(4, .int y733), (3, .int y732), (2, .int y729), (5, .int y725), (0, .ref ha0), (1, .ref ha1)]) hx hb dX4_firstWrongStatement_111 hl (k := 3) rfl (by rw [ey733]; rfl) (by decide) rfl (fun ls hl => ?_)
                  have hy733 : y733.toInt = v1.toInt + 1 := by rw [ey733]; exact z_add rfl (by decide) (by omega) (by omega)
                  refine lv_goto (tgt := 13) hx hb dX4_firstWrongStatement_114 (by decide) ?_
                  exact ih695 y733 y732 y729 ls (by first | decide | omega) (by first | decide | omega) (by first | decide | omega) (by first | decide | omega) (by first | decide | omega) (by first | decide | omega) (by first | exact z_ckB (by assumption) (by omega) hy698_2 (by omega) hy700_2 (by omega) hy725_2 (by omega) (by omega) (by omega) (by omega) | (exfalso; omega)) (by omega) (lv_sub hl [0, 1, 2, 4, 5] rfl)
                · have q734 : y730.toInt = 112 := z_eq rfl (by decide) hc
                  refine lv_iconst (v := 0) hx hb dX4_firstWrongStatement_104 (by decide) ?_
                  refine lv_goto (tgt := 109) hx hb dX4_firstWrongStatement_105 (by decide) ?_
                  refine lv_iadd hx hb dX4_firstWrongStatement_109 ?_
                  refine lv_topi (fun y735 ey735 => ?_)
                  have hy735 : y735.toInt = v2.toInt + 0 := by rw [ey735]; exact z_add rfl (by decide) (by omega) (by omega)
                  refine lv_istore_n (lv' := [(3, .int y735), (2, .int y729), (5, .int y725), (4, .int v1), (0, .ref ha0), (1, .ref ha1)]) hx hb dX4_firstWrongStatement_110 rfl hl (by decide) rfl (fun ls hl => ?_)
                  obtain ⟨y736, ey736⟩ : ∃ y : Int32, y = v1 + 1 := ⟨_, rfl⟩
                  refine lv_iinc (v := y736) (lv' := [(4, .int y736), (3, .int y735), (2, .int y729), (5, .int y725), (0, .ref ha0), (1, .ref ha1)]) hx hb dX4_firstWrongStatement_111 hl (k := 3) rfl (by rw [ey736]; rfl) (by decide) rfl (fun ls hl => ?_)
                  have hy736 : y736.toInt = v1.toInt + 1 := by rw [ey736]; exact z_add rfl (by decide) (by omega) (by omega)
                  refine lv_goto (tgt := 13) hx hb dX4_firstWrongStatement_114 (by decide) ?_
                  exact ih695 y736 y735 y729 ls (by first | decide | omega) (by first | decide | omega) (by first | decide | omega) (by first | decide | omega) (by first | decide | omega) (by first | decide | omega) (by first | exact z_ckB (by assumption) (by omega) hy698_2 (by omega) hy700_2 (by omega) hy725_2 (by omega) (by omega) (by omega) (by omega) | (exfalso; omega)) (by omega) (lv_sub hl [0, 1, 2, 4, 5] rfl)
              · have q737 : y727.toInt = 112 := z_eq rfl (by decide) hc
                refine lv_iconst (v := 1) hx hb dX4_firstWrongStatement_85 (by decide) ?_
                refine lv_goto (tgt := 90) hx hb dX4_firstWrongStatement_86 (by decide) ?_
                refine lv_iadd hx hb dX4_firstWrongStatement_90 ?_
                refine lv_topi (fun y738 ey738 => ?_)
                have hy738 : y738.toInt = v3.toInt + 1 := by rw [ey738]; exact z_add rfl (by decide) (by omega) (by omega)
                refine lv_istore_n (lv' := [(2, .int y738), (5, .int y725), (4, .int v1), (3, .int v2), (0, .ref ha0), (1, .ref ha1)]) hx hb dX4_firstWrongStatement_91 rfl hl (by decide) rfl (fun ls hl => ?_)
                refine lv_iload_n hx hb dX4_firstWrongStatement_92 rfl (lv_at hl 3 rfl) ?_
                refine lv_aload_n hx hb dX4_firstWrongStatement_93 rfl (lv_at hl 4 rfl) ?_
                refine lv_iload hx hb dX4_firstWrongStatement_94 (lv_at hl 2 rfl) ?_
                refine z_rdi (va_runV (As := [.int v1]) (rest := [.int v2]) ⟨hx, hb, hml, hown, hts⟩ (rX4_at l dC dI cI cQ ha0 ha0_0 fa0_0 hBfa0_0 ia0_1 hia0_1l hia0_1h v1) (cwV 1 hts gv_X4_firstWrongStatement_X4_at_19 rfl rfl rfl (by decide +kernel) ⟨Nat.le_of_ble_eq_true rfl, Nat.le_of_ble_eq_true rfl⟩) ⟨z_blindR, va_recv hK hP (ci := 4) (q0 := 1) rfl rfl, z_preR hZ hP [0, 1] rfl⟩ rfl rfl hl.1 rfl (lv_room (Nat.le_of_ble_eq_true rfl)) dX4_firstWrongStatement_96 ⟨Nat.le_of_ble_eq_true rfl, Nat.le_of_ble_eq_true rfl⟩) (fun y739 hy739 => ?_)
                obtain ⟨hy739_0, hy739_1, hy739_2⟩ := hy739
                refine lv_bipush (v := 112) hx hb dX4_firstWrongStatement_99 (by decide) ?_
                refine lv_icmp_ne (tgt := 108) hx hb dX4_firstWrongStatement_101 (by decide) (fun hc => ?_) (fun hc => ?_)
                · have q740 : y739.toInt ≠ 112 := z_ne rfl (by decide) hc
                  refine lv_iconst (v := 1) hx hb dX4_firstWrongStatement_108 (by decide) ?_
                  refine lv_iadd hx hb dX4_firstWrongStatement_109 ?_
                  refine lv_topi (fun y741 ey741 => ?_)
                  have hy741 : y741.toInt = v2.toInt + 1 := by rw [ey741]; exact z_add rfl (by decide) (by omega) (by omega)
                  refine lv_istore_n (lv' := [(3, .int y741), (2, .int y738), (5, .int y725), (4, .int v1), (0, .ref ha0), (1, .ref ha1)]) hx hb dX4_firstWrongStatement_110 rfl hl (by decide) rfl (fun ls hl => ?_)
                  obtain ⟨y742, ey742⟩ : ∃ y : Int32, y = v1 + 1 := ⟨_, rfl⟩
                  refine lv_iinc (v := y742) (lv' := [(4, .int y742), (3, .int y741), (2, .int y738), (5, .int y725), (0, .ref ha0), (1, .ref ha1)]) hx hb dX4_firstWrongStatement_111 hl (k := 3) rfl (by rw [ey742]; rfl) (by decide) rfl (fun ls hl => ?_)
                  have hy742 : y742.toInt = v1.toInt + 1 := by rw [ey742]; exact z_add rfl (by decide) (by omega) (by omega)
                  refine lv_goto (tgt := 13) hx hb dX4_firstWrongStatement_114 (by decide) ?_
                  exact ih695 y742 y741 y738 ls (by first | decide | omega) (by first | decide | omega) (by first | decide | omega) (by first | decide | omega) (by first | decide | omega) (by first | decide | omega) (by first | exact z_ckB (by assumption) (by omega) hy698_2 (by omega) hy700_2 (by omega) hy725_2 (by omega) (by omega) (by omega) (by omega) | (exfalso; omega)) (by omega) (lv_sub hl [0, 1, 2, 4, 5] rfl)
                · have q743 : y739.toInt = 112 := z_eq rfl (by decide) hc
                  refine lv_iconst (v := 0) hx hb dX4_firstWrongStatement_104 (by decide) ?_
                  refine lv_goto (tgt := 109) hx hb dX4_firstWrongStatement_105 (by decide) ?_
                  refine lv_iadd hx hb dX4_firstWrongStatement_109 ?_
                  refine lv_topi (fun y744 ey744 => ?_)
                  have hy744 : y744.toInt = v2.toInt + 0 := by rw [ey744]; exact z_add rfl (by decide) (by omega) (by omega)
                  refine lv_istore_n (lv' := [(3, .int y744), (2, .int y738), (5, .int y725), (4, .int v1), (0, .ref ha0), (1, .ref ha1)]) hx hb dX4_firstWrongStatement_110 rfl hl (by decide) rfl (fun ls hl => ?_)
                  obtain ⟨y745, ey745⟩ : ∃ y : Int32, y = v1 + 1 := ⟨_, rfl⟩
                  refine lv_iinc (v := y745) (lv' := [(4, .int y745), (3, .int y744), (2, .int y738), (5, .int y725), (0, .ref ha0), (1, .ref ha1)]) hx hb dX4_firstWrongStatement_111 hl (k := 3) rfl (by rw [ey745]; rfl) (by decide) rfl (fun ls hl => ?_)
                  have hy745 : y745.toInt = v1.toInt + 1 := by rw [ey745]; exact z_add rfl (by decide) (by omega) (by omega)
                  refine lv_goto (tgt := 13) hx hb dX4_firstWrongStatement_114 (by decide) ?_
                  exact ih695 y745 y744 y738 ls (by first | decide | omega) (by first | decide | omega) (by first | decide | omega) (by first | decide | omega) (by first | decide | omega) (by first | decide | omega) (by first | exact z_ckB (by assumption) (by omega) hy698_2 (by omega) hy700_2 (by omega) hy725_2 (by omega) (by omega) (by omega) (by omega) | (exfalso; omega)) (by omega) (lv_sub hl [0, 1, 2, 4, 5] rfl)
            · have q746 : y725.toInt = 0 := z_eq rfl (by decide) hc
              refine lv_iload hx hb dX4_firstWrongStatement_70 (lv_at hl 1 rfl) ?_
              exact W.iret (v := v1) hx hb hr (fun t ht hW => ⟨v1, rfl, ⟨by first | decide | omega, by first | decide | omega, (by first | exact z_ckR2 (by assumption) (by omega) hy698_2 (by omega) hy700_2 (by omega) hy725_2 (by omega) | (exfalso; omega))⟩, ht⟩) (fun _ h => absurd h List.not_mem_nil) dX4_firstWrongStatement_72
        · have q747 : y698.toInt = 0 := z_eq rfl (by decide) hc
          refine lv_goto (tgt := 111) hx hb dX4_firstWrongStatement_31 (by decide) ?_
          obtain ⟨y748, ey748⟩ : ∃ y : Int32, y = v1 + 1 := ⟨_, rfl⟩
          refine lv_iinc (v := y748) (lv' := [(4, .int y748), (3, .int v2), (2, .int v3), (0, .ref ha0), (1, .ref ha1)]) hx hb dX4_firstWrongStatement_111 hl (k := 0) rfl (by rw [ey748]; rfl) (by decide) rfl (fun ls hl => ?_)
          have hy748 : y748.toInt = v1.toInt + 1 := by rw [ey748]; exact z_add rfl (by decide) (by omega) (by omega)
          refine lv_goto (tgt := 13) hx hb dX4_firstWrongStatement_114 (by decide) ?_
          exact ih695 y748 v2 v3 ls (by first | decide | omega) (by first | decide | omega) hi694_2 hi694_3 hi694_4 hi694_5 (by first | exact z_ckA (by assumption) (by omega) hy698_2 (by omega) (by omega) | (exfalso; omega)) (by omega) (lv_sub hl [0, 1, 2, 3, 4] rfl)
  exact hL693 ((80 - (0 : Int32).toInt).toNat + 1) 0 ia1_9 ia1_3 ls (by decide) (by decide) hia1_9l hia1_9h hia1_3l hia1_3h (by rw [show (0 : Int32).toInt = 0 from by decide]) (by omega) hl
set_option maxRecDepth 20000 in
theorem edX4_firstFault_0 : decode cX4_firstFault 0 = .ok (.aload_n 0, 1) ∧ decode cX4_firstFault 1 = .ok (.invokevirtual 23, 3) ∧ decode cX4_firstFault 4 = .ok (.istore_n 2, 1) ∧ decode cX4_firstFault 5 = .ok (.iload_n 2, 1) ∧ decode cX4_firstFault 6 = .ok (.bipush (-9), 2) ∧ decode cX4_firstFault 8 = .ok (.if_icmp .eq 9, 3) ∧ decode cX4_firstFault 11 = .ok (.sipush (-1000), 3) ∧ decode cX4_firstFault 14 = .ok (.iload_n 2, 1) ∧ decode cX4_firstFault 15 = .ok (.isub, 1) ∧ decode cX4_firstFault 16 = .ok (.ireturn, 1) ∧ decode cX4_firstFault 17 = .ok (.aload_n 0, 1) ∧ decode cX4_firstFault 18 = .ok (.aload_n 1, 1) := by decide +kernel
theorem dX4_firstFault_0 : decode cX4_firstFault 0 = .ok (.aload_n 0, 1) := edX4_firstFault_0.1
theorem dX4_firstFault_1 : decode cX4_firstFault 1 = .ok (.invokevirtual 23, 3) := edX4_firstFault_0.2.1
theorem dX4_firstFault_4 : decode cX4_firstFault 4 = .ok (.istore_n 2, 1) := edX4_firstFault_0.2.2.1
theorem dX4_firstFault_5 : decode cX4_firstFault 5 = .ok (.iload_n 2, 1) := edX4_firstFault_0.2.2.2.1
theorem dX4_firstFault_6 : decode cX4_firstFault 6 = .ok (.bipush (-9), 2) := edX4_firstFault_0.2.2.2.2.1
theorem dX4_firstFault_8 : decode cX4_firstFault 8 = .ok (.if_icmp .eq 9, 3) := edX4_firstFault_0.2.2.2.2.2.1
theorem dX4_firstFault_11 : decode cX4_firstFault 11 = .ok (.sipush (-1000), 3) := edX4_firstFault_0.2.2.2.2.2.2.1
theorem dX4_firstFault_14 : decode cX4_firstFault 14 = .ok (.iload_n 2, 1) := edX4_firstFault_0.2.2.2.2.2.2.2.1
theorem dX4_firstFault_15 : decode cX4_firstFault 15 = .ok (.isub, 1) := edX4_firstFault_0.2.2.2.2.2.2.2.2.1
theorem dX4_firstFault_16 : decode cX4_firstFault 16 = .ok (.ireturn, 1) := edX4_firstFault_0.2.2.2.2.2.2.2.2.2.1
theorem dX4_firstFault_17 : decode cX4_firstFault 17 = .ok (.aload_n 0, 1) := edX4_firstFault_0.2.2.2.2.2.2.2.2.2.2.1
theorem dX4_firstFault_18 : decode cX4_firstFault 18 = .ok (.aload_n 1, 1) := edX4_firstFault_0.2.2.2.2.2.2.2.2.2.2.2
set_option maxRecDepth 20000 in
theorem edX4_firstFault_19 : decode cX4_firstFault 19 = .ok (.invokevirtual 27, 3) ∧ decode cX4_firstFault 22 = .ok (.istore_n 2, 1) ∧ decode cX4_firstFault 23 = .ok (.iload_n 2, 1) ∧ decode cX4_firstFault 24 = .ok (.bipush (-9), 2) ∧ decode cX4_firstFault 26 = .ok (.if_icmp .ne 7, 3) ∧ decode cX4_firstFault 29 = .ok (.iconst 0, 1) ∧ decode cX4_firstFault 30 = .ok (.goto 8, 3) ∧ decode cX4_firstFault 33 = .ok (.sipush (-2000), 3) ∧ decode cX4_firstFault 36 = .ok (.iload_n 2, 1) ∧ decode cX4_firstFault 37 = .ok (.isub, 1) ∧ decode cX4_firstFault 38 = .ok (.ireturn, 1) := by decide +kernel
theorem dX4_firstFault_19 : decode cX4_firstFault 19 = .ok (.invokevirtual 27, 3) := edX4_firstFault_19.1
theorem dX4_firstFault_22 : decode cX4_firstFault 22 = .ok (.istore_n 2, 1) := edX4_firstFault_19.2.1
theorem dX4_firstFault_23 : decode cX4_firstFault 23 = .ok (.iload_n 2, 1) := edX4_firstFault_19.2.2.1
theorem dX4_firstFault_24 : decode cX4_firstFault 24 = .ok (.bipush (-9), 2) := edX4_firstFault_19.2.2.2.1
theorem dX4_firstFault_26 : decode cX4_firstFault 26 = .ok (.if_icmp .ne 7, 3) := edX4_firstFault_19.2.2.2.2.1
theorem dX4_firstFault_29 : decode cX4_firstFault 29 = .ok (.iconst 0, 1) := edX4_firstFault_19.2.2.2.2.2.1
theorem dX4_firstFault_30 : decode cX4_firstFault 30 = .ok (.goto 8, 3) := edX4_firstFault_19.2.2.2.2.2.2.1
theorem dX4_firstFault_33 : decode cX4_firstFault 33 = .ok (.sipush (-2000), 3) := edX4_firstFault_19.2.2.2.2.2.2.2.1
theorem dX4_firstFault_36 : decode cX4_firstFault 36 = .ok (.iload_n 2, 1) := edX4_firstFault_19.2.2.2.2.2.2.2.2.1
theorem dX4_firstFault_37 : decode cX4_firstFault 37 = .ok (.isub, 1) := edX4_firstFault_19.2.2.2.2.2.2.2.2.2.1
theorem dX4_firstFault_38 : decode cX4_firstFault 38 = .ok (.ireturn, 1) := edX4_firstFault_19.2.2.2.2.2.2.2.2.2.2
noncomputable def voX4_firstFault : List Cond := [.methodLink RX4 23 yX4_firstWrongLetter, .instanceMethod yX4_firstWrongLetter, .selects RX4 yX4_firstWrongLetter yX4_firstWrongLetter, .initialized RX4, .methodLink RX4 27 yX4_firstWrongStatement, .instanceMethod yX4_firstWrongStatement, .selects RX4 yX4_firstWrongStatement yX4_firstWrongStatement]
noncomputable def vsX4_firstFault : List Cond := .code yX4_firstFault cX4_firstFault 3 (some .int) :: (voX4_firstFault ++ (vsX4_firstWrongLetter ++ (vsX4_firstWrongStatement)))
theorem zgX4_firstFault : zGd vsX4_firstFault := z_gdC rfl (z_gdA (z_gdO (by decide +kernel) : zGd voX4_firstFault) (z_gdA zgX4_firstWrongLetter (zgX4_firstWrongStatement)))
theorem gw_X4_firstFault_X4_firstWrongLetter : GoodIn vsX4_firstFault vsX4_firstWrongLetter := z_gdI (fun _ h => List.mem_cons_of_mem _ (List.mem_append_right _ (List.mem_append_left _ h))) zgX4_firstWrongLetter
set_option maxRecDepth 20000 in
theorem gv_X4_firstFault_X4_firstWrongLetter_23 : GoodIn vsX4_firstFault (wsV RX4 23 RX4 yX4_firstWrongLetter vsX4_firstWrongLetter) := goodIn_app (goodIn_of _ (by decide +kernel)) gw_X4_firstFault_X4_firstWrongLetter
theorem gw_X4_firstFault_X4_firstWrongStatement : GoodIn vsX4_firstFault vsX4_firstWrongStatement := z_gdI (fun _ h => List.mem_cons_of_mem _ (List.mem_append_right _ (List.mem_append_right _ (h)))) zgX4_firstWrongStatement
set_option maxRecDepth 20000 in
theorem gv_X4_firstFault_X4_firstWrongStatement_27 : GoodIn vsX4_firstFault (wsV RX4 27 RX4 yX4_firstWrongStatement vsX4_firstWrongStatement) := goodIn_app (goodIn_of _ (by decide +kernel)) gw_X4_firstFault_X4_firstWrongStatement
set_option maxHeartbeats 4000000 in
set_option maxRecDepth 100000 in
theorem rX4_firstFault (l : Launch) (dC : Nat → ClassId) (dI : Nat → Nat → Nat) (cI cQ : ClassId) (ha0 ha1 ha0_0 ha1_0 ha1_1 ha1_2 ha1_4 ha1_5 ha1_6 ha1_7 ha1_11 : Nat) (fa0_0 : Nat → Int32) (hBfa0_0 : ∀ k, 0 ≤ (fa0_0 k).toInt ∧ (fa0_0 k).toInt ≤ 255) (ia0_1 : Int32) (hia0_1l : 0 ≤ ia0_1.toInt) (hia0_1h : ia0_1.toInt ≤ 80) (ia1_3 : Int32) (hia1_3l : 0 ≤ ia1_3.toInt) (hia1_3h : ia1_3.toInt ≤ 5) (ia1_8 : Int32) (ia1_9 : Int32) (hia1_9l : 0 ≤ ia1_9.toInt) (hia1_9h : ia1_9.toInt ≤ 12) (ia1_10 : Int32) : Met l yX4_firstFault vsX4_firstFault ({ frames := 5, cells := 0, slots := 0, locals := 113 }) (va_Pc [.ref ha0, .ref ha1] (zRB dC dI cI cQ [(ha0_0, .inl (cI, 80, .inl fa0_0)), (ha0, .inr (4, [.ref ha0_0, .int ia0_1])), (ha1, .inr (7, [.ref ha1_0, .ref ha1_1, .ref ha1_2, .int ia1_3, .ref ha1_4, .ref ha1_5, .ref ha1_6, .ref ha1_7, .int ia1_8, .int ia1_9, .int ia1_10, .ref ha1_11]))])) (vp_Si (fun r => (-2079) ≤ r.toInt ∧ r.toInt ≤ 0 ∧ (zFfP fa0_0 ia0_1.toInt ia1_3.toInt ia1_9.toInt r.toInt))) 0 0 (fun _ => False) := by
  refine Met.ofW (cc := cX4_firstFault) (maxL := 3) (ret := (some .int)) (by decide) rfl ?_
  intro p e s m args below meth c s₁ B hml hv
  obtain ⟨rfl, hP, hZ⟩ := hv
  obtain ⟨hK, hAO, hN⟩ := id hZ
  have hx := B.exec
  have hb := B.bytes
  have hr := B.returns
  have hts := atoms_spec (ws := vsX4_firstFault) B.pre
  have hown : s.vm.findClass RX4 = some m.cls := findClass_of_methodNamed B.named
  have hlocks := B.notSynchronized
  have hl := lv_entry ([.ref ha0, .ref ha1]) (n := 3) (Nat.le_of_ble_eq_true rfl)
  rw [lg_entry_eq]
  generalize (lg_sl ([.ref ha0, .ref ha1]) ++ List.replicate (3 - (lg_sl ([.ref ha0, .ref ha1])).length) Slot.unset).toArray = ls at hl ⊢
  have hl : lv_has ls 3 [(0, .ref ha0), (1, .ref ha1)] := hl
  refine lv_aload_n hx hb dX4_firstFault_0 rfl (lv_at hl 0 rfl) ?_
  refine z_rdi (va_runV (As := []) (rest := []) ⟨hx, hb, hml, hown, hts⟩ (rX4_firstWrongLetter l dC dI cI cQ ha0 ha0_0 fa0_0 hBfa0_0 ia0_1 hia0_1l hia0_1h) (cwV 0 hts gv_X4_firstFault_X4_firstWrongLetter_23 rfl rfl rfl (by decide +kernel) ⟨Nat.le_of_ble_eq_true rfl, Nat.le_of_ble_eq_true rfl⟩) ⟨z_blindR, va_recv hK hP (ci := 4) (q0 := 1) rfl rfl, z_preR hZ hP [0, 1] rfl⟩ rfl rfl hl.1 rfl (lv_room (Nat.le_of_ble_eq_true rfl)) dX4_firstFault_1 ⟨Nat.le_of_ble_eq_true rfl, Nat.le_of_ble_eq_true rfl⟩) (fun y1 hy1 => ?_)
  obtain ⟨hy1_0, hy1_1, hy1_2⟩ := hy1
  refine lv_istore_n (lv' := [(2, .int y1), (0, .ref ha0), (1, .ref ha1)]) hx hb dX4_firstFault_4 rfl hl (by decide) rfl (fun ls hl => ?_)
  refine lv_iload_n hx hb dX4_firstFault_5 rfl (lv_at hl 0 rfl) ?_
  refine lv_bipush (v := (-9)) hx hb dX4_firstFault_6 (by decide) ?_
  refine lv_icmp_eq (tgt := 17) hx hb dX4_firstFault_8 (by decide) (fun hc => ?_) (fun hc => ?_)
  · have q2 : y1.toInt = (-9) := z_eq rfl (by decide) hc
    refine lv_aload_n hx hb dX4_firstFault_17 rfl (lv_at hl 1 rfl) ?_
    refine lv_aload_n hx hb dX4_firstFault_18 rfl (lv_at hl 2 rfl) ?_
    refine z_rdi (va_runV (As := [.ref ha1]) (rest := []) ⟨hx, hb, hml, hown, hts⟩ (rX4_firstWrongStatement l dC dI cI cQ ha0 ha1 ha0_0 ha1_0 ha1_1 ha1_2 ha1_4 ha1_5 ha1_6 ha1_7 ha1_11 fa0_0 hBfa0_0 ia0_1 hia0_1l hia0_1h ia1_3 hia1_3l hia1_3h ia1_8 ia1_9 hia1_9l hia1_9h ia1_10) (cwV 1 hts gv_X4_firstFault_X4_firstWrongStatement_27 rfl rfl rfl (by decide +kernel) ⟨Nat.le_of_ble_eq_true rfl, Nat.le_of_ble_eq_true rfl⟩) ⟨z_blindR, va_recv hK hP (ci := 4) (q0 := 1) rfl rfl, z_preR hZ hP [0, 1, 2] rfl⟩ rfl rfl hl.1 rfl (lv_room (Nat.le_of_ble_eq_true rfl)) dX4_firstFault_19 ⟨Nat.le_of_ble_eq_true rfl, Nat.le_of_ble_eq_true rfl⟩) (fun y3 hy3 => ?_)
    obtain ⟨hy3_0, hy3_1, hy3_2⟩ := hy3
    refine lv_istore_n (lv' := [(2, .int y3), (0, .ref ha0), (1, .ref ha1)]) hx hb dX4_firstFault_22 rfl hl (by decide) rfl (fun ls hl => ?_)
    refine lv_iload_n hx hb dX4_firstFault_23 rfl (lv_at hl 0 rfl) ?_
    refine lv_bipush (v := (-9)) hx hb dX4_firstFault_24 (by decide) ?_
    refine lv_icmp_ne (tgt := 33) hx hb dX4_firstFault_26 (by decide) (fun hc => ?_) (fun hc => ?_)
    · have q4 : y3.toInt ≠ (-9) := z_ne rfl (by decide) hc
      refine lv_sipush (v := (-2000)) hx hb dX4_firstFault_33 (by decide) ?_
      refine lv_iload_n hx hb dX4_firstFault_36 rfl (lv_at hl 0 rfl) ?_
      refine lv_isub hx hb dX4_firstFault_37 ?_
      refine lv_topi (fun y5 ey5 => ?_)
      have hy5 : y5.toInt = (-2000) - y3.toInt := by rw [ey5]; exact z_sub (by decide) rfl (by omega) (by omega)
      exact W.iret (v := y5) hx hb hr (fun t ht hW => ⟨y5, rfl, ⟨by first | decide | omega, by first | decide | omega, (by have e0 : (0 : Int32).toInt = 0 := (by decide); have e1 : (1 : Int32).toInt = 1 := (by decide); have e9 : (-9 : Int32).toInt = -9 := (by decide); unfold zFfP; omega)⟩, ht⟩) (fun _ h => absurd h List.not_mem_nil) dX4_firstFault_38
    · have q6 : y3.toInt = (-9) := z_eq rfl (by decide) hc
      refine lv_iconst (v := 0) hx hb dX4_firstFault_29 (by decide) ?_
      refine lv_goto (tgt := 38) hx hb dX4_firstFault_30 (by decide) ?_
      exact W.iret (v := 0) hx hb hr (fun t ht hW => ⟨0, rfl, ⟨by first | decide | omega, by first | decide | omega, (by have e0 : (0 : Int32).toInt = 0 := (by decide); have e1 : (1 : Int32).toInt = 1 := (by decide); have e9 : (-9 : Int32).toInt = -9 := (by decide); unfold zFfP; omega)⟩, ht⟩) (fun _ h => absurd h List.not_mem_nil) dX4_firstFault_38
  · have q7 : y1.toInt ≠ (-9) := z_ne rfl (by decide) hc
    refine lv_sipush (v := (-1000)) hx hb dX4_firstFault_11 (by decide) ?_
    refine lv_iload_n hx hb dX4_firstFault_14 rfl (lv_at hl 0 rfl) ?_
    refine lv_isub hx hb dX4_firstFault_15 ?_
    refine lv_topi (fun y8 ey8 => ?_)
    have hy8 : y8.toInt = (-1000) - y1.toInt := by rw [ey8]; exact z_sub (by decide) rfl (by omega) (by omega)
    exact W.iret (v := y8) hx hb hr (fun t ht hW => ⟨y8, rfl, ⟨by first | decide | omega, by first | decide | omega, (by have e0 : (0 : Int32).toInt = 0 := (by decide); have e1 : (1 : Int32).toInt = 1 := (by decide); have e9 : (-9 : Int32).toInt = -9 := (by decide); unfold zFfP; omega)⟩, ht⟩) (fun _ h => absurd h List.not_mem_nil) dX4_firstFault_16
set_option maxRecDepth 20000 in
theorem edX7_hasPlayer_0 : decode cX7_hasPlayer 0 = .ok (.iload_n 1, 1) ∧ decode cX7_hasPlayer 1 = .ok (.ifCond .lt 15, 3) ∧ decode cX7_hasPlayer 4 = .ok (.iload_n 1, 1) ∧ decode cX7_hasPlayer 5 = .ok (.aload_n 0, 1) ∧ decode cX7_hasPlayer 6 = .ok (.getfield 24, 3) ∧ decode cX7_hasPlayer 9 = .ok (.if_icmp .ge 7, 3) ∧ decode cX7_hasPlayer 12 = .ok (.iconst 1, 1) ∧ decode cX7_hasPlayer 13 = .ok (.goto 4, 3) ∧ decode cX7_hasPlayer 16 = .ok (.iconst 0, 1) ∧ decode cX7_hasPlayer 17 = .ok (.ireturn, 1) := by decide +kernel
theorem dX7_hasPlayer_0 : decode cX7_hasPlayer 0 = .ok (.iload_n 1, 1) := edX7_hasPlayer_0.1
theorem dX7_hasPlayer_1 : decode cX7_hasPlayer 1 = .ok (.ifCond .lt 15, 3) := edX7_hasPlayer_0.2.1
theorem dX7_hasPlayer_4 : decode cX7_hasPlayer 4 = .ok (.iload_n 1, 1) := edX7_hasPlayer_0.2.2.1
theorem dX7_hasPlayer_5 : decode cX7_hasPlayer 5 = .ok (.aload_n 0, 1) := edX7_hasPlayer_0.2.2.2.1
theorem dX7_hasPlayer_6 : decode cX7_hasPlayer 6 = .ok (.getfield 24, 3) := edX7_hasPlayer_0.2.2.2.2.1
theorem dX7_hasPlayer_9 : decode cX7_hasPlayer 9 = .ok (.if_icmp .ge 7, 3) := edX7_hasPlayer_0.2.2.2.2.2.1
theorem dX7_hasPlayer_12 : decode cX7_hasPlayer 12 = .ok (.iconst 1, 1) := edX7_hasPlayer_0.2.2.2.2.2.2.1
theorem dX7_hasPlayer_13 : decode cX7_hasPlayer 13 = .ok (.goto 4, 3) := edX7_hasPlayer_0.2.2.2.2.2.2.2.1
theorem dX7_hasPlayer_16 : decode cX7_hasPlayer 16 = .ok (.iconst 0, 1) := edX7_hasPlayer_0.2.2.2.2.2.2.2.2.1
theorem dX7_hasPlayer_17 : decode cX7_hasPlayer 17 = .ok (.ireturn, 1) := edX7_hasPlayer_0.2.2.2.2.2.2.2.2.2
noncomputable def voX7_hasPlayer : List Cond := [.fieldLink RX7 24 "EachOnHisCue$Play" "players" "I"]
noncomputable def vsX7_hasPlayer : List Cond := .code yX7_hasPlayer cX7_hasPlayer 2 (some .boolean) :: (voX7_hasPlayer ++ (wsX70))
theorem zgX7_hasPlayer : zGd vsX7_hasPlayer := z_gdC rfl (z_gdA (z_gdO (by decide +kernel) : zGd voX7_hasPlayer) (zgX7))
theorem in_X7_hasPlayer_X7 : ∀ w ∈ wsX70, w ∈ vsX7_hasPlayer := fun _ h => List.mem_cons_of_mem _ (List.mem_append_right _ (h))
set_option maxHeartbeats 4000000 in
set_option maxRecDepth 100000 in
theorem rX7_hasPlayer (l : Launch) (dC : Nat → ClassId) (dI : Nat → Nat → Nat) (cI cQ : ClassId) (ha0 ha0_0 ha0_1 ha0_2 ha0_4 ha0_5 ha0_6 ha0_7 ha0_11 : Nat) (ia0_3 : Int32) (hia0_3l : 0 ≤ ia0_3.toInt) (hia0_3h : ia0_3.toInt ≤ 5) (ia0_8 : Int32) (ia0_9 : Int32) (hia0_9l : 0 ≤ ia0_9.toInt) (hia0_9h : ia0_9.toInt ≤ 12) (ia0_10 : Int32) (p1 : Int32) : Met l yX7_hasPlayer vsX7_hasPlayer ({ frames := 0, cells := 0, slots := 0, locals := 0 }) (va_Pc [.ref ha0, .int p1] (zRB dC dI cI cQ [(ha0, .inr (7, [.ref ha0_0, .ref ha0_1, .ref ha0_2, .int ia0_3, .ref ha0_4, .ref ha0_5, .ref ha0_6, .ref ha0_7, .int ia0_8, .int ia0_9, .int ia0_10, .ref ha0_11]))])) (vp_Si (fun r => 0 ≤ r.toInt ∧ r.toInt ≤ 1 ∧ ((r.toInt = 1 ∧ 0 ≤ p1.toInt ∧ p1.toInt < ia0_3.toInt) ∨ (r.toInt = 0 ∧ (p1.toInt < 0 ∨ ia0_3.toInt ≤ p1.toInt))))) 0 0 (fun _ => False) := by
  refine Met.ofW (cc := cX7_hasPlayer) (maxL := 2) (ret := (some .boolean)) (by decide) rfl ?_
  intro p e s m args below meth c s₁ B hml hv
  obtain ⟨rfl, hP, hZ⟩ := hv
  obtain ⟨hK, hAO, hN⟩ := id hZ
  have hx := B.exec
  have hb := B.bytes
  have hr := B.returns
  have hts := atoms_spec (ws := vsX7_hasPlayer) B.pre
  have hown : s.vm.findClass RX7 = some m.cls := findClass_of_methodNamed B.named
  have hlocks := B.notSynchronized
  have hp1l := z_lo p1
  have hp1h := z_hi p1
  have hl := lv_entry ([.ref ha0, .int p1]) (n := 2) (Nat.le_of_ble_eq_true rfl)
  rw [lg_entry_eq]
  generalize (lg_sl ([.ref ha0, .int p1]) ++ List.replicate (2 - (lg_sl ([.ref ha0, .int p1])).length) Slot.unset).toArray = ls at hl ⊢
  have hl : lv_has ls 2 [(0, .ref ha0), (1, .int p1)] := hl
  refine lv_iload_n hx hb dX7_hasPlayer_0 rfl (lv_at hl 1 rfl) ?_
  refine lv_if_lt (tgt := 16) hx hb dX7_hasPlayer_1 (by decide) (fun hc => ?_) (fun hc => ?_)
  · have q1 : p1.toInt < 0 := z_lt rfl (by decide) hc
    refine lv_iconst (v := 0) hx hb dX7_hasPlayer_16 (by decide) ?_
    exact W.zret (v := 0) hx hb hr (rfl) (fun t ht hW => ⟨0, rfl, ⟨by first | decide | omega, by first | decide | omega, (by have e0 : (0 : Int32).toInt = 0 := (by decide); have e1 : (1 : Int32).toInt = 1 := (by decide); have e9 : (-9 : Int32).toInt = -9 := (by decide); omega)⟩, ht⟩) (fun _ h => absurd h List.not_mem_nil) dX7_hasPlayer_17
  · have q2 : 0 ≤ p1.toInt := z_nlt rfl (by decide) hc
    refine lv_iload_n hx hb dX7_hasPlayer_4 rfl (lv_at hl 1 rfl) ?_
    refine lv_aload_n hx hb dX7_hasPlayer_5 rfl (lv_at hl 0 rfl) ?_
    refine va_get (D := (dC, dI)) (ci := 7) (v := .int ia0_3) (C := RX7) (T := TX7) (N := 12) hx hb hts in_X7_hasPlayer_X7 hown hK hP 0 rfl rfl 3 (by decide) (hts (.fieldLink RX7 24 "EachOnHisCue$Play" "players" "I") (by decide +kernel)) (fun _ h9 => h9) rfl dX7_hasPlayer_6 ?_
    refine lv_icmp_ge (tgt := 16) hx hb dX7_hasPlayer_9 (by decide) (fun hc => ?_) (fun hc => ?_)
    · have q3 : ia0_3.toInt ≤ p1.toInt := z_le rfl rfl hc
      refine lv_iconst (v := 0) hx hb dX7_hasPlayer_16 (by decide) ?_
      exact W.zret (v := 0) hx hb hr (rfl) (fun t ht hW => ⟨0, rfl, ⟨by first | decide | omega, by first | decide | omega, (by have e0 : (0 : Int32).toInt = 0 := (by decide); have e1 : (1 : Int32).toInt = 1 := (by decide); have e9 : (-9 : Int32).toInt = -9 := (by decide); omega)⟩, ht⟩) (fun _ h => absurd h List.not_mem_nil) dX7_hasPlayer_17
    · have q4 : p1.toInt < ia0_3.toInt := z_nle rfl rfl hc
      refine lv_iconst (v := 1) hx hb dX7_hasPlayer_12 (by decide) ?_
      refine lv_goto (tgt := 17) hx hb dX7_hasPlayer_13 (by decide) ?_
      exact W.zret (v := 1) hx hb hr (rfl) (fun t ht hW => ⟨1, rfl, ⟨by first | decide | omega, by first | decide | omega, (by have e0 : (0 : Int32).toInt = 0 := (by decide); have e1 : (1 : Int32).toInt = 1 := (by decide); have e9 : (-9 : Int32).toInt = -9 := (by decide); omega)⟩, ht⟩) (fun _ h => absurd h List.not_mem_nil) dX7_hasPlayer_17
set_option maxRecDepth 20000 in
theorem edX7_hasLine_0 : decode cX7_hasLine 0 = .ok (.iload_n 1, 1) ∧ decode cX7_hasLine 1 = .ok (.ifCond .lt 15, 3) ∧ decode cX7_hasLine 4 = .ok (.iload_n 1, 1) ∧ decode cX7_hasLine 5 = .ok (.aload_n 0, 1) ∧ decode cX7_hasLine 6 = .ok (.getfield 43, 3) ∧ decode cX7_hasLine 9 = .ok (.if_icmp .ge 7, 3) ∧ decode cX7_hasLine 12 = .ok (.iconst 1, 1) ∧ decode cX7_hasLine 13 = .ok (.goto 4, 3) ∧ decode cX7_hasLine 16 = .ok (.iconst 0, 1) ∧ decode cX7_hasLine 17 = .ok (.ireturn, 1) := by decide +kernel
theorem dX7_hasLine_0 : decode cX7_hasLine 0 = .ok (.iload_n 1, 1) := edX7_hasLine_0.1
theorem dX7_hasLine_1 : decode cX7_hasLine 1 = .ok (.ifCond .lt 15, 3) := edX7_hasLine_0.2.1
theorem dX7_hasLine_4 : decode cX7_hasLine 4 = .ok (.iload_n 1, 1) := edX7_hasLine_0.2.2.1
theorem dX7_hasLine_5 : decode cX7_hasLine 5 = .ok (.aload_n 0, 1) := edX7_hasLine_0.2.2.2.1
theorem dX7_hasLine_6 : decode cX7_hasLine 6 = .ok (.getfield 43, 3) := edX7_hasLine_0.2.2.2.2.1
theorem dX7_hasLine_9 : decode cX7_hasLine 9 = .ok (.if_icmp .ge 7, 3) := edX7_hasLine_0.2.2.2.2.2.1
theorem dX7_hasLine_12 : decode cX7_hasLine 12 = .ok (.iconst 1, 1) := edX7_hasLine_0.2.2.2.2.2.2.1
theorem dX7_hasLine_13 : decode cX7_hasLine 13 = .ok (.goto 4, 3) := edX7_hasLine_0.2.2.2.2.2.2.2.1
theorem dX7_hasLine_16 : decode cX7_hasLine 16 = .ok (.iconst 0, 1) := edX7_hasLine_0.2.2.2.2.2.2.2.2.1
theorem dX7_hasLine_17 : decode cX7_hasLine 17 = .ok (.ireturn, 1) := edX7_hasLine_0.2.2.2.2.2.2.2.2.2
noncomputable def voX7_hasLine : List Cond := [.fieldLink RX7 43 "EachOnHisCue$Play" "lines" "I"]
noncomputable def vsX7_hasLine : List Cond := .code yX7_hasLine cX7_hasLine 2 (some .boolean) :: (voX7_hasLine ++ (wsX70))
theorem zgX7_hasLine : zGd vsX7_hasLine := z_gdC rfl (z_gdA (z_gdO (by decide +kernel) : zGd voX7_hasLine) (zgX7))
theorem in_X7_hasLine_X7 : ∀ w ∈ wsX70, w ∈ vsX7_hasLine := fun _ h => List.mem_cons_of_mem _ (List.mem_append_right _ (h))
set_option maxHeartbeats 4000000 in
set_option maxRecDepth 100000 in
theorem rX7_hasLine (l : Launch) (dC : Nat → ClassId) (dI : Nat → Nat → Nat) (cI cQ : ClassId) (ha0 ha0_0 ha0_1 ha0_2 ha0_4 ha0_5 ha0_6 ha0_7 ha0_11 : Nat) (ia0_3 : Int32) (hia0_3l : 0 ≤ ia0_3.toInt) (hia0_3h : ia0_3.toInt ≤ 5) (ia0_8 : Int32) (ia0_9 : Int32) (hia0_9l : 0 ≤ ia0_9.toInt) (hia0_9h : ia0_9.toInt ≤ 12) (ia0_10 : Int32) (p1 : Int32) : Met l yX7_hasLine vsX7_hasLine ({ frames := 0, cells := 0, slots := 0, locals := 0 }) (va_Pc [.ref ha0, .int p1] (zRB dC dI cI cQ [(ha0, .inr (7, [.ref ha0_0, .ref ha0_1, .ref ha0_2, .int ia0_3, .ref ha0_4, .ref ha0_5, .ref ha0_6, .ref ha0_7, .int ia0_8, .int ia0_9, .int ia0_10, .ref ha0_11]))])) (vp_Si (fun r => 0 ≤ r.toInt ∧ r.toInt ≤ 1 ∧ ((r.toInt = 1 ∧ 0 ≤ p1.toInt ∧ p1.toInt < ia0_9.toInt) ∨ (r.toInt = 0 ∧ (p1.toInt < 0 ∨ ia0_9.toInt ≤ p1.toInt))))) 0 0 (fun _ => False) := by
  refine Met.ofW (cc := cX7_hasLine) (maxL := 2) (ret := (some .boolean)) (by decide) rfl ?_
  intro p e s m args below meth c s₁ B hml hv
  obtain ⟨rfl, hP, hZ⟩ := hv
  obtain ⟨hK, hAO, hN⟩ := id hZ
  have hx := B.exec
  have hb := B.bytes
  have hr := B.returns
  have hts := atoms_spec (ws := vsX7_hasLine) B.pre
  have hown : s.vm.findClass RX7 = some m.cls := findClass_of_methodNamed B.named
  have hlocks := B.notSynchronized
  have hp1l := z_lo p1
  have hp1h := z_hi p1
  have hl := lv_entry ([.ref ha0, .int p1]) (n := 2) (Nat.le_of_ble_eq_true rfl)
  rw [lg_entry_eq]
  generalize (lg_sl ([.ref ha0, .int p1]) ++ List.replicate (2 - (lg_sl ([.ref ha0, .int p1])).length) Slot.unset).toArray = ls at hl ⊢
  have hl : lv_has ls 2 [(0, .ref ha0), (1, .int p1)] := hl
  refine lv_iload_n hx hb dX7_hasLine_0 rfl (lv_at hl 1 rfl) ?_
  refine lv_if_lt (tgt := 16) hx hb dX7_hasLine_1 (by decide) (fun hc => ?_) (fun hc => ?_)
  · have q1 : p1.toInt < 0 := z_lt rfl (by decide) hc
    refine lv_iconst (v := 0) hx hb dX7_hasLine_16 (by decide) ?_
    exact W.zret (v := 0) hx hb hr (rfl) (fun t ht hW => ⟨0, rfl, ⟨by first | decide | omega, by first | decide | omega, (by have e0 : (0 : Int32).toInt = 0 := (by decide); have e1 : (1 : Int32).toInt = 1 := (by decide); have e9 : (-9 : Int32).toInt = -9 := (by decide); omega)⟩, ht⟩) (fun _ h => absurd h List.not_mem_nil) dX7_hasLine_17
  · have q2 : 0 ≤ p1.toInt := z_nlt rfl (by decide) hc
    refine lv_iload_n hx hb dX7_hasLine_4 rfl (lv_at hl 1 rfl) ?_
    refine lv_aload_n hx hb dX7_hasLine_5 rfl (lv_at hl 0 rfl) ?_
    refine va_get (D := (dC, dI)) (ci := 7) (v := .int ia0_9) (C := RX7) (T := TX7) (N := 12) hx hb hts in_X7_hasLine_X7 hown hK hP 0 rfl rfl 9 (by decide) (hts (.fieldLink RX7 43 "EachOnHisCue$Play" "lines" "I") (by decide +kernel)) (fun _ h9 => h9) rfl dX7_hasLine_6 ?_
    refine lv_icmp_ge (tgt := 16) hx hb dX7_hasLine_9 (by decide) (fun hc => ?_) (fun hc => ?_)
    · have q3 : ia0_9.toInt ≤ p1.toInt := z_le rfl rfl hc
      refine lv_iconst (v := 0) hx hb dX7_hasLine_16 (by decide) ?_
      exact W.zret (v := 0) hx hb hr (rfl) (fun t ht hW => ⟨0, rfl, ⟨by first | decide | omega, by first | decide | omega, (by have e0 : (0 : Int32).toInt = 0 := (by decide); have e1 : (1 : Int32).toInt = 1 := (by decide); have e9 : (-9 : Int32).toInt = -9 := (by decide); omega)⟩, ht⟩) (fun _ h => absurd h List.not_mem_nil) dX7_hasLine_17
    · have q4 : p1.toInt < ia0_9.toInt := z_nle rfl rfl hc
      refine lv_iconst (v := 1) hx hb dX7_hasLine_12 (by decide) ?_
      refine lv_goto (tgt := 17) hx hb dX7_hasLine_13 (by decide) ?_
      exact W.zret (v := 1) hx hb hr (rfl) (fun t ht hW => ⟨1, rfl, ⟨by first | decide | omega, by first | decide | omega, (by have e0 : (0 : Int32).toInt = 0 := (by decide); have e1 : (1 : Int32).toInt = 1 := (by decide); have e9 : (-9 : Int32).toInt = -9 := (by decide); omega)⟩, ht⟩) (fun _ h => absurd h List.not_mem_nil) dX7_hasLine_17
set_option maxRecDepth 20000 in
theorem edX7_endsAsAhead_0 : decode cX7_endsAsAhead 0 = .ok (.iload_n 3, 1) ∧ decode cX7_endsAsAhead 1 = .ok (.iconst 1, 1) ∧ decode cX7_endsAsAhead 2 = .ok (.if_icmp .lt 11, 3) ∧ decode cX7_endsAsAhead 5 = .ok (.iload_n 3, 1) ∧ decode cX7_endsAsAhead 6 = .ok (.aload_n 0, 1) ∧ decode cX7_endsAsAhead 7 = .ok (.getfield 43, 3) ∧ decode cX7_endsAsAhead 10 = .ok (.if_icmp .lt 5, 3) ∧ decode cX7_endsAsAhead 13 = .ok (.iconst 0, 1) ∧ decode cX7_endsAsAhead 14 = .ok (.ireturn, 1) ∧ decode cX7_endsAsAhead 15 = .ok (.iload 4, 2) ∧ decode cX7_endsAsAhead 17 = .ok (.aload_n 0, 1) ∧ decode cX7_endsAsAhead 18 = .ok (.getfield 34, 3) := by decide +kernel
theorem dX7_endsAsAhead_0 : decode cX7_endsAsAhead 0 = .ok (.iload_n 3, 1) := edX7_endsAsAhead_0.1
theorem dX7_endsAsAhead_1 : decode cX7_endsAsAhead 1 = .ok (.iconst 1, 1) := edX7_endsAsAhead_0.2.1
theorem dX7_endsAsAhead_2 : decode cX7_endsAsAhead 2 = .ok (.if_icmp .lt 11, 3) := edX7_endsAsAhead_0.2.2.1
theorem dX7_endsAsAhead_5 : decode cX7_endsAsAhead 5 = .ok (.iload_n 3, 1) := edX7_endsAsAhead_0.2.2.2.1
theorem dX7_endsAsAhead_6 : decode cX7_endsAsAhead 6 = .ok (.aload_n 0, 1) := edX7_endsAsAhead_0.2.2.2.2.1
theorem dX7_endsAsAhead_7 : decode cX7_endsAsAhead 7 = .ok (.getfield 43, 3) := edX7_endsAsAhead_0.2.2.2.2.2.1
theorem dX7_endsAsAhead_10 : decode cX7_endsAsAhead 10 = .ok (.if_icmp .lt 5, 3) := edX7_endsAsAhead_0.2.2.2.2.2.2.1
theorem dX7_endsAsAhead_13 : decode cX7_endsAsAhead 13 = .ok (.iconst 0, 1) := edX7_endsAsAhead_0.2.2.2.2.2.2.2.1
theorem dX7_endsAsAhead_14 : decode cX7_endsAsAhead 14 = .ok (.ireturn, 1) := edX7_endsAsAhead_0.2.2.2.2.2.2.2.2.1
theorem dX7_endsAsAhead_15 : decode cX7_endsAsAhead 15 = .ok (.iload 4, 2) := edX7_endsAsAhead_0.2.2.2.2.2.2.2.2.2.1
theorem dX7_endsAsAhead_17 : decode cX7_endsAsAhead 17 = .ok (.aload_n 0, 1) := edX7_endsAsAhead_0.2.2.2.2.2.2.2.2.2.2.1
theorem dX7_endsAsAhead_18 : decode cX7_endsAsAhead 18 = .ok (.getfield 34, 3) := edX7_endsAsAhead_0.2.2.2.2.2.2.2.2.2.2.2
set_option maxRecDepth 20000 in
theorem edX7_endsAsAhead_21 : decode cX7_endsAsAhead 21 = .ok (.iload_n 3, 1) ∧ decode cX7_endsAsAhead 22 = .ok (.iconst 1, 1) ∧ decode cX7_endsAsAhead 23 = .ok (.isub, 1) ∧ decode cX7_endsAsAhead 24 = .ok (.iaload, 1) ∧ decode cX7_endsAsAhead 25 = .ok (.invokestatic 91, 3) ∧ decode cX7_endsAsAhead 28 = .ok (.istore 5, 2) ∧ decode cX7_endsAsAhead 30 = .ok (.iconst 1, 1) ∧ decode cX7_endsAsAhead 31 = .ok (.iconst 5, 1) ∧ decode cX7_endsAsAhead 32 = .ok (.iload 5, 2) ∧ decode cX7_endsAsAhead 34 = .ok (.imul, 1) ∧ decode cX7_endsAsAhead 35 = .ok (.ishl, 1) ∧ decode cX7_endsAsAhead 36 = .ok (.iconst 1, 1) := by decide +kernel
theorem dX7_endsAsAhead_21 : decode cX7_endsAsAhead 21 = .ok (.iload_n 3, 1) := edX7_endsAsAhead_21.1
theorem dX7_endsAsAhead_22 : decode cX7_endsAsAhead 22 = .ok (.iconst 1, 1) := edX7_endsAsAhead_21.2.1
theorem dX7_endsAsAhead_23 : decode cX7_endsAsAhead 23 = .ok (.isub, 1) := edX7_endsAsAhead_21.2.2.1
theorem dX7_endsAsAhead_24 : decode cX7_endsAsAhead 24 = .ok (.iaload, 1) := edX7_endsAsAhead_21.2.2.2.1
theorem dX7_endsAsAhead_25 : decode cX7_endsAsAhead 25 = .ok (.invokestatic 91, 3) := edX7_endsAsAhead_21.2.2.2.2.1
theorem dX7_endsAsAhead_28 : decode cX7_endsAsAhead 28 = .ok (.istore 5, 2) := edX7_endsAsAhead_21.2.2.2.2.2.1
theorem dX7_endsAsAhead_30 : decode cX7_endsAsAhead 30 = .ok (.iconst 1, 1) := edX7_endsAsAhead_21.2.2.2.2.2.2.1
theorem dX7_endsAsAhead_31 : decode cX7_endsAsAhead 31 = .ok (.iconst 5, 1) := edX7_endsAsAhead_21.2.2.2.2.2.2.2.1
theorem dX7_endsAsAhead_32 : decode cX7_endsAsAhead 32 = .ok (.iload 5, 2) := edX7_endsAsAhead_21.2.2.2.2.2.2.2.2.1
theorem dX7_endsAsAhead_34 : decode cX7_endsAsAhead 34 = .ok (.imul, 1) := edX7_endsAsAhead_21.2.2.2.2.2.2.2.2.2.1
theorem dX7_endsAsAhead_35 : decode cX7_endsAsAhead 35 = .ok (.ishl, 1) := edX7_endsAsAhead_21.2.2.2.2.2.2.2.2.2.2.1
theorem dX7_endsAsAhead_36 : decode cX7_endsAsAhead 36 = .ok (.iconst 1, 1) := edX7_endsAsAhead_21.2.2.2.2.2.2.2.2.2.2.2
set_option maxRecDepth 20000 in
theorem edX7_endsAsAhead_37 : decode cX7_endsAsAhead 37 = .ok (.isub, 1) ∧ decode cX7_endsAsAhead 38 = .ok (.istore 6, 2) ∧ decode cX7_endsAsAhead 40 = .ok (.iload_n 2, 1) ∧ decode cX7_endsAsAhead 41 = .ok (.iload 5, 2) ∧ decode cX7_endsAsAhead 43 = .ok (.if_icmp .lt 25, 3) ∧ decode cX7_endsAsAhead 46 = .ok (.iload_n 1, 1) ∧ decode cX7_endsAsAhead 47 = .ok (.iload 6, 2) ∧ decode cX7_endsAsAhead 49 = .ok (.iand, 1) ∧ decode cX7_endsAsAhead 50 = .ok (.aload_n 0, 1) ∧ decode cX7_endsAsAhead 51 = .ok (.getfield 31, 3) ∧ decode cX7_endsAsAhead 54 = .ok (.iload_n 3, 1) ∧ decode cX7_endsAsAhead 55 = .ok (.iconst 1, 1) := by decide +kernel
theorem dX7_endsAsAhead_37 : decode cX7_endsAsAhead 37 = .ok (.isub, 1) := edX7_endsAsAhead_37.1
theorem dX7_endsAsAhead_38 : decode cX7_endsAsAhead 38 = .ok (.istore 6, 2) := edX7_endsAsAhead_37.2.1
theorem dX7_endsAsAhead_40 : decode cX7_endsAsAhead 40 = .ok (.iload_n 2, 1) := edX7_endsAsAhead_37.2.2.1
theorem dX7_endsAsAhead_41 : decode cX7_endsAsAhead 41 = .ok (.iload 5, 2) := edX7_endsAsAhead_37.2.2.2.1
theorem dX7_endsAsAhead_43 : decode cX7_endsAsAhead 43 = .ok (.if_icmp .lt 25, 3) := edX7_endsAsAhead_37.2.2.2.2.1
theorem dX7_endsAsAhead_46 : decode cX7_endsAsAhead 46 = .ok (.iload_n 1, 1) := edX7_endsAsAhead_37.2.2.2.2.2.1
theorem dX7_endsAsAhead_47 : decode cX7_endsAsAhead 47 = .ok (.iload 6, 2) := edX7_endsAsAhead_37.2.2.2.2.2.2.1
theorem dX7_endsAsAhead_49 : decode cX7_endsAsAhead 49 = .ok (.iand, 1) := edX7_endsAsAhead_37.2.2.2.2.2.2.2.1
theorem dX7_endsAsAhead_50 : decode cX7_endsAsAhead 50 = .ok (.aload_n 0, 1) := edX7_endsAsAhead_37.2.2.2.2.2.2.2.2.1
theorem dX7_endsAsAhead_51 : decode cX7_endsAsAhead 51 = .ok (.getfield 31, 3) := edX7_endsAsAhead_37.2.2.2.2.2.2.2.2.2.1
theorem dX7_endsAsAhead_54 : decode cX7_endsAsAhead 54 = .ok (.iload_n 3, 1) := edX7_endsAsAhead_37.2.2.2.2.2.2.2.2.2.2.1
theorem dX7_endsAsAhead_55 : decode cX7_endsAsAhead 55 = .ok (.iconst 1, 1) := edX7_endsAsAhead_37.2.2.2.2.2.2.2.2.2.2.2
set_option maxRecDepth 20000 in
theorem edX7_endsAsAhead_56 : decode cX7_endsAsAhead 56 = .ok (.isub, 1) ∧ decode cX7_endsAsAhead 57 = .ok (.iaload, 1) ∧ decode cX7_endsAsAhead 58 = .ok (.iload 6, 2) ∧ decode cX7_endsAsAhead 60 = .ok (.iand, 1) ∧ decode cX7_endsAsAhead 61 = .ok (.if_icmp .ne 7, 3) ∧ decode cX7_endsAsAhead 64 = .ok (.iconst 1, 1) ∧ decode cX7_endsAsAhead 65 = .ok (.goto 4, 3) ∧ decode cX7_endsAsAhead 68 = .ok (.iconst 0, 1) ∧ decode cX7_endsAsAhead 69 = .ok (.ireturn, 1) := by decide +kernel
theorem dX7_endsAsAhead_56 : decode cX7_endsAsAhead 56 = .ok (.isub, 1) := edX7_endsAsAhead_56.1
theorem dX7_endsAsAhead_57 : decode cX7_endsAsAhead 57 = .ok (.iaload, 1) := edX7_endsAsAhead_56.2.1
theorem dX7_endsAsAhead_58 : decode cX7_endsAsAhead 58 = .ok (.iload 6, 2) := edX7_endsAsAhead_56.2.2.1
theorem dX7_endsAsAhead_60 : decode cX7_endsAsAhead 60 = .ok (.iand, 1) := edX7_endsAsAhead_56.2.2.2.1
theorem dX7_endsAsAhead_61 : decode cX7_endsAsAhead 61 = .ok (.if_icmp .ne 7, 3) := edX7_endsAsAhead_56.2.2.2.2.1
theorem dX7_endsAsAhead_64 : decode cX7_endsAsAhead 64 = .ok (.iconst 1, 1) := edX7_endsAsAhead_56.2.2.2.2.2.1
theorem dX7_endsAsAhead_65 : decode cX7_endsAsAhead 65 = .ok (.goto 4, 3) := edX7_endsAsAhead_56.2.2.2.2.2.2.1
theorem dX7_endsAsAhead_68 : decode cX7_endsAsAhead 68 = .ok (.iconst 0, 1) := edX7_endsAsAhead_56.2.2.2.2.2.2.2.1
theorem dX7_endsAsAhead_69 : decode cX7_endsAsAhead 69 = .ok (.ireturn, 1) := edX7_endsAsAhead_56.2.2.2.2.2.2.2.2
noncomputable def voX7_endsAsAhead : List Cond := [.fieldLink RX7 43 "EachOnHisCue$Play" "lines" "I", .fieldLink RX7 34 "EachOnHisCue$Play" "sizes" "[I", .methodLink RX7 91 Lib.Math.min.name, .static Lib.Math.min.name, .initialized "java/lang/Math", .code Lib.Math.min.name Lib.Math.min.code 2 (some .int), .fieldLink RX7 31 "EachOnHisCue$Play" "texts" "[I"]
noncomputable def vsX7_endsAsAhead : List Cond := .code yX7_endsAsAhead cX7_endsAsAhead 7 (some .boolean) :: (voX7_endsAsAhead ++ (wsX70))
theorem zgX7_endsAsAhead : zGd vsX7_endsAsAhead := z_gdC rfl (z_gdA (z_gdO (by decide +kernel) : zGd voX7_endsAsAhead) (zgX7))
theorem in_X7_endsAsAhead_X7 : ∀ w ∈ wsX70, w ∈ vsX7_endsAsAhead := fun _ h => List.mem_cons_of_mem _ (List.mem_append_right _ (h))
set_option maxHeartbeats 4000000 in
set_option maxRecDepth 100000 in
theorem rX7_endsAsAhead (l : Launch) (dC : Nat → ClassId) (dI : Nat → Nat → Nat) (cI cQ : ClassId) (ha0 ha0_5 ha0_6 ha0_0 ha0_1 ha0_2 ha0_4 ha0_7 ha0_11 : Nat) (fa0_5 : Nat → Int32) (fa0_6 : Nat → Int32) (hBfa0_6 : ∀ k, 0 ≤ (fa0_6 k).toInt ∧ (fa0_6 k).toInt ≤ 4) (ia0_3 : Int32) (hia0_3l : 0 ≤ ia0_3.toInt) (hia0_3h : ia0_3.toInt ≤ 5) (ia0_8 : Int32) (ia0_9 : Int32) (hia0_9l : 0 ≤ ia0_9.toInt) (hia0_9h : ia0_9.toInt ≤ 12) (ia0_10 : Int32) (p1 : Int32) (p2 : Int32) (p3 : Int32) (p4 : Int32) : Met l yX7_endsAsAhead vsX7_endsAsAhead ({ frames := 1, cells := 0, slots := 0, locals := 21 }) (va_Pc [.ref ha0, .int p1, .int p2, .int p3, .int p4] (zRB dC dI cI cQ [(ha0_5, .inl (cI, 12, .inl fa0_5)), (ha0_6, .inl (cI, 12, .inl fa0_6)), (ha0, .inr (7, [.ref ha0_0, .ref ha0_1, .ref ha0_2, .int ia0_3, .ref ha0_4, .ref ha0_5, .ref ha0_6, .ref ha0_7, .int ia0_8, .int ia0_9, .int ia0_10, .ref ha0_11]))])) (vp_Si (fun r => 0 ≤ r.toInt ∧ r.toInt ≤ 1 ∧ (zEaP p1 p2 p3 p4 ia0_9 fa0_5 fa0_6 r))) 0 0 (fun _ => False) := by
  refine Met.ofW (cc := cX7_endsAsAhead) (maxL := 7) (ret := (some .boolean)) (by decide) rfl ?_
  intro p e s m args below meth c s₁ B hml hv
  obtain ⟨rfl, hP, hZ⟩ := hv
  obtain ⟨hK, hAO, hN⟩ := id hZ
  have hx := B.exec
  have hb := B.bytes
  have hr := B.returns
  have hts := atoms_spec (ws := vsX7_endsAsAhead) B.pre
  have hown : s.vm.findClass RX7 = some m.cls := findClass_of_methodNamed B.named
  have hlocks := B.notSynchronized
  have hp1l := z_lo p1
  have hp1h := z_hi p1
  have hp2l := z_lo p2
  have hp2h := z_hi p2
  have hp3l := z_lo p3
  have hp3h := z_hi p3
  have hp4l := z_lo p4
  have hp4h := z_hi p4
  have hl := lv_entry ([.ref ha0, .int p1, .int p2, .int p3, .int p4]) (n := 7) (Nat.le_of_ble_eq_true rfl)
  rw [lg_entry_eq]
  generalize (lg_sl ([.ref ha0, .int p1, .int p2, .int p3, .int p4]) ++ List.replicate (7 - (lg_sl ([.ref ha0, .int p1, .int p2, .int p3, .int p4])).length) Slot.unset).toArray = ls at hl ⊢
  have hl : lv_has ls 7 [(0, .ref ha0), (1, .int p1), (2, .int p2), (3, .int p3), (4, .int p4)] := hl
  refine lv_iload_n hx hb dX7_endsAsAhead_0 rfl (lv_at hl 3 rfl) ?_
  refine lv_iconst (v := 1) hx hb dX7_endsAsAhead_1 (by decide) ?_
  refine lv_icmp_lt (tgt := 13) hx hb dX7_endsAsAhead_2 (by decide) (fun hc => ?_) (fun hc => ?_)
  · have q1 : p3.toInt < 1 := z_lt rfl (by decide) hc
    refine lv_iconst (v := 0) hx hb dX7_endsAsAhead_13 (by decide) ?_
    exact W.zret (v := 0) hx hb hr (rfl) (fun t ht hW => ⟨0, rfl, ⟨by first | decide | omega, by first | decide | omega, (by exact Or.inl ⟨by omega, by decide⟩)⟩, ht⟩) (fun _ h => absurd h List.not_mem_nil) dX7_endsAsAhead_14
  · have q2 : 1 ≤ p3.toInt := z_nlt rfl (by decide) hc
    refine lv_iload_n hx hb dX7_endsAsAhead_5 rfl (lv_at hl 3 rfl) ?_
    refine lv_aload_n hx hb dX7_endsAsAhead_6 rfl (lv_at hl 0 rfl) ?_
    refine va_get (D := (dC, dI)) (ci := 7) (v := .int ia0_9) (C := RX7) (T := TX7) (N := 12) hx hb hts in_X7_endsAsAhead_X7 hown hK hP 2 rfl rfl 9 (by decide) (hts (.fieldLink RX7 43 "EachOnHisCue$Play" "lines" "I") (by decide +kernel)) (fun _ h9 => h9) rfl dX7_endsAsAhead_7 ?_
    refine lv_icmp_lt (tgt := 15) hx hb dX7_endsAsAhead_10 (by decide) (fun hc => ?_) (fun hc => ?_)
    · have q3 : p3.toInt < ia0_9.toInt := z_lt rfl rfl hc
      refine lv_iload hx hb dX7_endsAsAhead_15 (lv_at hl 4 rfl) ?_
      refine lv_aload_n hx hb dX7_endsAsAhead_17 rfl (lv_at hl 0 rfl) ?_
      refine va_get (D := (dC, dI)) (ci := 7) (v := .ref ha0_6) (C := RX7) (T := TX7) (N := 12) hx hb hts in_X7_endsAsAhead_X7 hown hK hP 2 rfl rfl 6 (by decide) (hts (.fieldLink RX7 34 "EachOnHisCue$Play" "sizes" "[I") (by decide +kernel)) (fun _ h9 => h9) rfl dX7_endsAsAhead_18 ?_
      refine lv_iload_n hx hb dX7_endsAsAhead_21 rfl (lv_at hl 3 rfl) ?_
      refine lv_iconst (v := 1) hx hb dX7_endsAsAhead_22 (by decide) ?_
      refine lv_isub hx hb dX7_endsAsAhead_23 ?_
      refine lv_topi (fun y4 ey4 => ?_)
      have hy4 : y4.toInt = p3.toInt - 1 := by rw [ey4]; exact z_sub rfl (by decide) (by omega) (by omega)
      refine va_iald hx hb hK hP 1 0 rfl rfl (z_in (by omega) (by omega)) dX7_endsAsAhead_24 ?_
      refine lv_topi (fun y5 ey5 => ?_)
      have gy5 : y5.toInt = (fa0_6 (y4 : Int32).toNatClampNeg).toInt := by rw [ey5]
      have hy5 : 0 ≤ y5.toInt ∧ y5.toInt ≤ 4 := by rw [ey5]; exact hBfa0_6 _
      obtain ⟨hy5, hy5_⟩ := hy5
      refine va_mmin hx hb (hml.trans hl.1.symm) hown (hts (.methodLink RX7 91 Lib.Math.min.name) (by decide +kernel)) (hts (.static Lib.Math.min.name) (by decide +kernel)) (hts (.initialized "java/lang/Math") (by decide +kernel)) (hts (.code Lib.Math.min.name Lib.Math.min.code 2 (some .int)) (by decide +kernel)) (Nat.le_of_ble_eq_true rfl) (Nat.le_of_ble_eq_true rfl) (Nat.le_of_ble_eq_true rfl) (Nat.le_of_ble_eq_true rfl) dX7_endsAsAhead_25 ?_
      refine lv_topi (fun y6 ey6 => ?_)
      obtain ⟨hy6_0, hy6_1, hy6_2⟩ : y6.toInt ≤ p4.toInt ∧ y6.toInt ≤ y5.toInt ∧ (y6.toInt = p4.toInt ∨ y6.toInt = y5.toInt) := by rw [ey6]; exact z_min rfl rfl
      refine lv_istore (lv' := [(5, .int y6), (0, .ref ha0), (1, .int p1), (2, .int p2), (3, .int p3), (4, .int p4)]) hx hb dX7_endsAsAhead_28 hl (by decide) rfl (fun ls hl => ?_)
      refine lv_iconst (v := 1) hx hb dX7_endsAsAhead_30 (by decide) ?_
      refine lv_iconst (v := 5) hx hb dX7_endsAsAhead_31 (by decide) ?_
      refine lv_iload hx hb dX7_endsAsAhead_32 (lv_at hl 0 rfl) ?_
      refine lv_imul hx hb dX7_endsAsAhead_34 ?_
      refine lv_topi (fun y7 ey7 => ?_)
      refine lv_ishl hx hb dX7_endsAsAhead_35 ?_
      refine lv_topi (fun y8 ey8 => ?_)
      refine lv_iconst (v := 1) hx hb dX7_endsAsAhead_36 (by decide) ?_
      refine lv_isub hx hb dX7_endsAsAhead_37 ?_
      refine lv_topi (fun y9 ey9 => ?_)
      refine lv_istore (lv' := [(6, .int y9), (5, .int y6), (0, .ref ha0), (1, .int p1), (2, .int p2), (3, .int p3), (4, .int p4)]) hx hb dX7_endsAsAhead_38 hl (by decide) rfl (fun ls hl => ?_)
      refine lv_iload_n hx hb dX7_endsAsAhead_40 rfl (lv_at hl 4 rfl) ?_
      refine lv_iload hx hb dX7_endsAsAhead_41 (lv_at hl 1 rfl) ?_
      refine lv_icmp_lt (tgt := 68) hx hb dX7_endsAsAhead_43 (by decide) (fun hc => ?_) (fun hc => ?_)
      · have q10 : p2.toInt < y6.toInt := z_lt rfl rfl hc
        refine lv_iconst (v := 0) hx hb dX7_endsAsAhead_68 (by decide) ?_
        exact W.zret (v := 0) hx hb hr (rfl) (fun t ht hW => ⟨0, rfl, ⟨by first | decide | omega, by first | decide | omega, (by exact z_eaN (i := y4) (by omega) (by omega) (by omega) gy5 hy6_0 hy6_1 hy6_2 (by omega) (by decide))⟩, ht⟩) (fun _ h => absurd h List.not_mem_nil) dX7_endsAsAhead_69
      · have q11 : y6.toInt ≤ p2.toInt := z_nlt rfl rfl hc
        refine lv_iload_n hx hb dX7_endsAsAhead_46 rfl (lv_at hl 3 rfl) ?_
        refine lv_iload hx hb dX7_endsAsAhead_47 (lv_at hl 0 rfl) ?_
        refine lv_iand hx hb dX7_endsAsAhead_49 ?_
        refine lv_topi (fun y12 ey12 => ?_)
        refine lv_aload_n hx hb dX7_endsAsAhead_50 rfl (lv_at hl 2 rfl) ?_
        refine va_get (D := (dC, dI)) (ci := 7) (v := .ref ha0_5) (C := RX7) (T := TX7) (N := 12) hx hb hts in_X7_endsAsAhead_X7 hown hK hP 2 rfl rfl 5 (by decide) (hts (.fieldLink RX7 31 "EachOnHisCue$Play" "texts" "[I") (by decide +kernel)) (fun _ h9 => h9) rfl dX7_endsAsAhead_51 ?_
        refine lv_iload_n hx hb dX7_endsAsAhead_54 rfl (lv_at hl 5 rfl) ?_
        refine lv_iconst (v := 1) hx hb dX7_endsAsAhead_55 (by decide) ?_
        refine lv_isub hx hb dX7_endsAsAhead_56 ?_
        refine lv_topi (fun y13 ey13 => ?_)
        obtain rfl : y4 = y13 := ey4.trans ey13.symm
        refine va_iald hx hb hK hP 0 0 rfl rfl (z_in (by omega) (by omega)) dX7_endsAsAhead_57 ?_
        refine lv_topi (fun y14 ey14 => ?_)
        have gy14 : y14.toInt = (fa0_5 (y4 : Int32).toNatClampNeg).toInt := by rw [ey14]
        refine lv_iload hx hb dX7_endsAsAhead_58 (lv_at hl 0 rfl) ?_
        refine lv_iand hx hb dX7_endsAsAhead_60 ?_
        refine lv_topi (fun y15 ey15 => ?_)
        refine lv_icmp_ne (tgt := 68) hx hb dX7_endsAsAhead_61 (by decide) (fun hc => ?_) (fun hc => ?_)
        · have q16 : y12.toInt ≠ y15.toInt := z_ne rfl rfl hc
          refine lv_iconst (v := 0) hx hb dX7_endsAsAhead_68 (by decide) ?_
          exact W.zret (v := 0) hx hb hr (rfl) (fun t ht hW => ⟨0, rfl, ⟨by first | decide | omega, by first | decide | omega, (by exact z_eaE (i := y4) (by omega) (by omega) (by omega) gy5 gy14 hy6_0 hy6_1 hy6_2 ey7 ey8 ey9 ey12 ey15 (by omega) (by first | exact Or.inl ⟨by omega, by decide⟩ | exact Or.inr ⟨by omega, by decide⟩))⟩, ht⟩) (fun _ h => absurd h List.not_mem_nil) dX7_endsAsAhead_69
        · have q17 : y12.toInt = y15.toInt := z_eq rfl rfl hc
          refine lv_iconst (v := 1) hx hb dX7_endsAsAhead_64 (by decide) ?_
          refine lv_goto (tgt := 69) hx hb dX7_endsAsAhead_65 (by decide) ?_
          exact W.zret (v := 1) hx hb hr (rfl) (fun t ht hW => ⟨1, rfl, ⟨by first | decide | omega, by first | decide | omega, (by exact z_eaE (i := y4) (by omega) (by omega) (by omega) gy5 gy14 hy6_0 hy6_1 hy6_2 ey7 ey8 ey9 ey12 ey15 (by omega) (by first | exact Or.inl ⟨by omega, by decide⟩ | exact Or.inr ⟨by omega, by decide⟩))⟩, ht⟩) (fun _ h => absurd h List.not_mem_nil) dX7_endsAsAhead_69
    · have q18 : ia0_9.toInt ≤ p3.toInt := z_nlt rfl rfl hc
      refine lv_iconst (v := 0) hx hb dX7_endsAsAhead_13 (by decide) ?_
      exact W.zret (v := 0) hx hb hr (rfl) (fun t ht hW => ⟨0, rfl, ⟨by first | decide | omega, by first | decide | omega, (by exact Or.inl ⟨by omega, by decide⟩)⟩, ht⟩) (fun _ h => absurd h List.not_mem_nil) dX7_endsAsAhead_14
set_option maxRecDepth 20000 in
theorem edX7_isCuedByAheadAlone_0 : decode cX7_isCuedByAheadAlone 0 = .ok (.iconst 0, 1) ∧ decode cX7_isCuedByAheadAlone 1 = .ok (.istore_n 3, 1) ∧ decode cX7_isCuedByAheadAlone 2 = .ok (.iload_n 3, 1) ∧ decode cX7_isCuedByAheadAlone 3 = .ok (.aload_n 0, 1) ∧ decode cX7_isCuedByAheadAlone 4 = .ok (.getfield 43, 3) ∧ decode cX7_isCuedByAheadAlone 7 = .ok (.if_icmp .ge 39, 3) ∧ decode cX7_isCuedByAheadAlone 10 = .ok (.iload_n 3, 1) ∧ decode cX7_isCuedByAheadAlone 11 = .ok (.iload_n 1, 1) ∧ decode cX7_isCuedByAheadAlone 12 = .ok (.iconst 1, 1) ∧ decode cX7_isCuedByAheadAlone 13 = .ok (.isub, 1) ∧ decode cX7_isCuedByAheadAlone 14 = .ok (.if_icmp .eq 26, 3) ∧ decode cX7_isCuedByAheadAlone 17 = .ok (.aload_n 0, 1) := by decide +kernel
theorem dX7_isCuedByAheadAlone_0 : decode cX7_isCuedByAheadAlone 0 = .ok (.iconst 0, 1) := edX7_isCuedByAheadAlone_0.1
theorem dX7_isCuedByAheadAlone_1 : decode cX7_isCuedByAheadAlone 1 = .ok (.istore_n 3, 1) := edX7_isCuedByAheadAlone_0.2.1
theorem dX7_isCuedByAheadAlone_2 : decode cX7_isCuedByAheadAlone 2 = .ok (.iload_n 3, 1) := edX7_isCuedByAheadAlone_0.2.2.1
theorem dX7_isCuedByAheadAlone_3 : decode cX7_isCuedByAheadAlone 3 = .ok (.aload_n 0, 1) := edX7_isCuedByAheadAlone_0.2.2.2.1
theorem dX7_isCuedByAheadAlone_4 : decode cX7_isCuedByAheadAlone 4 = .ok (.getfield 43, 3) := edX7_isCuedByAheadAlone_0.2.2.2.2.1
theorem dX7_isCuedByAheadAlone_7 : decode cX7_isCuedByAheadAlone 7 = .ok (.if_icmp .ge 39, 3) := edX7_isCuedByAheadAlone_0.2.2.2.2.2.1
theorem dX7_isCuedByAheadAlone_10 : decode cX7_isCuedByAheadAlone 10 = .ok (.iload_n 3, 1) := edX7_isCuedByAheadAlone_0.2.2.2.2.2.2.1
theorem dX7_isCuedByAheadAlone_11 : decode cX7_isCuedByAheadAlone 11 = .ok (.iload_n 1, 1) := edX7_isCuedByAheadAlone_0.2.2.2.2.2.2.2.1
theorem dX7_isCuedByAheadAlone_12 : decode cX7_isCuedByAheadAlone 12 = .ok (.iconst 1, 1) := edX7_isCuedByAheadAlone_0.2.2.2.2.2.2.2.2.1
theorem dX7_isCuedByAheadAlone_13 : decode cX7_isCuedByAheadAlone 13 = .ok (.isub, 1) := edX7_isCuedByAheadAlone_0.2.2.2.2.2.2.2.2.2.1
theorem dX7_isCuedByAheadAlone_14 : decode cX7_isCuedByAheadAlone 14 = .ok (.if_icmp .eq 26, 3) := edX7_isCuedByAheadAlone_0.2.2.2.2.2.2.2.2.2.2.1
theorem dX7_isCuedByAheadAlone_17 : decode cX7_isCuedByAheadAlone 17 = .ok (.aload_n 0, 1) := edX7_isCuedByAheadAlone_0.2.2.2.2.2.2.2.2.2.2.2
set_option maxRecDepth 20000 in
theorem edX7_isCuedByAheadAlone_18 : decode cX7_isCuedByAheadAlone 18 = .ok (.aload_n 0, 1) ∧ decode cX7_isCuedByAheadAlone 19 = .ok (.getfield 31, 3) ∧ decode cX7_isCuedByAheadAlone 22 = .ok (.iload_n 3, 1) ∧ decode cX7_isCuedByAheadAlone 23 = .ok (.iaload, 1) ∧ decode cX7_isCuedByAheadAlone 24 = .ok (.aload_n 0, 1) ∧ decode cX7_isCuedByAheadAlone 25 = .ok (.getfield 34, 3) ∧ decode cX7_isCuedByAheadAlone 28 = .ok (.iload_n 3, 1) ∧ decode cX7_isCuedByAheadAlone 29 = .ok (.iaload, 1) ∧ decode cX7_isCuedByAheadAlone 30 = .ok (.iload_n 1, 1) ∧ decode cX7_isCuedByAheadAlone 31 = .ok (.iload_n 2, 1) ∧ decode cX7_isCuedByAheadAlone 32 = .ok (.invokevirtual 99, 3) ∧ decode cX7_isCuedByAheadAlone 35 = .ok (.ifCond .eq 5, 3) := by decide +kernel
theorem dX7_isCuedByAheadAlone_18 : decode cX7_isCuedByAheadAlone 18 = .ok (.aload_n 0, 1) := edX7_isCuedByAheadAlone_18.1
theorem dX7_isCuedByAheadAlone_19 : decode cX7_isCuedByAheadAlone 19 = .ok (.getfield 31, 3) := edX7_isCuedByAheadAlone_18.2.1
theorem dX7_isCuedByAheadAlone_22 : decode cX7_isCuedByAheadAlone 22 = .ok (.iload_n 3, 1) := edX7_isCuedByAheadAlone_18.2.2.1
theorem dX7_isCuedByAheadAlone_23 : decode cX7_isCuedByAheadAlone 23 = .ok (.iaload, 1) := edX7_isCuedByAheadAlone_18.2.2.2.1
theorem dX7_isCuedByAheadAlone_24 : decode cX7_isCuedByAheadAlone 24 = .ok (.aload_n 0, 1) := edX7_isCuedByAheadAlone_18.2.2.2.2.1
theorem dX7_isCuedByAheadAlone_25 : decode cX7_isCuedByAheadAlone 25 = .ok (.getfield 34, 3) := edX7_isCuedByAheadAlone_18.2.2.2.2.2.1
theorem dX7_isCuedByAheadAlone_28 : decode cX7_isCuedByAheadAlone 28 = .ok (.iload_n 3, 1) := edX7_isCuedByAheadAlone_18.2.2.2.2.2.2.1
theorem dX7_isCuedByAheadAlone_29 : decode cX7_isCuedByAheadAlone 29 = .ok (.iaload, 1) := edX7_isCuedByAheadAlone_18.2.2.2.2.2.2.2.1
theorem dX7_isCuedByAheadAlone_30 : decode cX7_isCuedByAheadAlone 30 = .ok (.iload_n 1, 1) := edX7_isCuedByAheadAlone_18.2.2.2.2.2.2.2.2.1
theorem dX7_isCuedByAheadAlone_31 : decode cX7_isCuedByAheadAlone 31 = .ok (.iload_n 2, 1) := edX7_isCuedByAheadAlone_18.2.2.2.2.2.2.2.2.2.1
theorem dX7_isCuedByAheadAlone_32 : decode cX7_isCuedByAheadAlone 32 = .ok (.invokevirtual 99, 3) := edX7_isCuedByAheadAlone_18.2.2.2.2.2.2.2.2.2.2.1
theorem dX7_isCuedByAheadAlone_35 : decode cX7_isCuedByAheadAlone 35 = .ok (.ifCond .eq 5, 3) := edX7_isCuedByAheadAlone_18.2.2.2.2.2.2.2.2.2.2.2
set_option maxRecDepth 20000 in
theorem edX7_isCuedByAheadAlone_38 : decode cX7_isCuedByAheadAlone 38 = .ok (.iconst 0, 1) ∧ decode cX7_isCuedByAheadAlone 39 = .ok (.ireturn, 1) ∧ decode cX7_isCuedByAheadAlone 40 = .ok (.iinc 3 1, 3) ∧ decode cX7_isCuedByAheadAlone 43 = .ok (.goto (-41), 3) ∧ decode cX7_isCuedByAheadAlone 46 = .ok (.iconst 1, 1) ∧ decode cX7_isCuedByAheadAlone 47 = .ok (.ireturn, 1) := by decide +kernel
theorem dX7_isCuedByAheadAlone_38 : decode cX7_isCuedByAheadAlone 38 = .ok (.iconst 0, 1) := edX7_isCuedByAheadAlone_38.1
theorem dX7_isCuedByAheadAlone_39 : decode cX7_isCuedByAheadAlone 39 = .ok (.ireturn, 1) := edX7_isCuedByAheadAlone_38.2.1
theorem dX7_isCuedByAheadAlone_40 : decode cX7_isCuedByAheadAlone 40 = .ok (.iinc 3 1, 3) := edX7_isCuedByAheadAlone_38.2.2.1
theorem dX7_isCuedByAheadAlone_43 : decode cX7_isCuedByAheadAlone 43 = .ok (.goto (-41), 3) := edX7_isCuedByAheadAlone_38.2.2.2.1
theorem dX7_isCuedByAheadAlone_46 : decode cX7_isCuedByAheadAlone 46 = .ok (.iconst 1, 1) := edX7_isCuedByAheadAlone_38.2.2.2.2.1
theorem dX7_isCuedByAheadAlone_47 : decode cX7_isCuedByAheadAlone 47 = .ok (.ireturn, 1) := edX7_isCuedByAheadAlone_38.2.2.2.2.2
noncomputable def voX7_isCuedByAheadAlone : List Cond := [.fieldLink RX7 43 "EachOnHisCue$Play" "lines" "I", .fieldLink RX7 31 "EachOnHisCue$Play" "texts" "[I", .fieldLink RX7 34 "EachOnHisCue$Play" "sizes" "[I", .methodLink RX7 99 yX7_endsAsAhead, .instanceMethod yX7_endsAsAhead, .selects RX7 yX7_endsAsAhead yX7_endsAsAhead, .initialized RX7]
noncomputable def vsX7_isCuedByAheadAlone : List Cond := .code yX7_isCuedByAheadAlone cX7_isCuedByAheadAlone 4 (some .boolean) :: (voX7_isCuedByAheadAlone ++ (vsX7_endsAsAhead ++ (wsX70)))
theorem zgX7_isCuedByAheadAlone : zGd vsX7_isCuedByAheadAlone := z_gdC rfl (z_gdA (z_gdO (by decide +kernel) : zGd voX7_isCuedByAheadAlone) (z_gdA zgX7_endsAsAhead (zgX7)))
theorem in_X7_isCuedByAheadAlone_X7 : ∀ w ∈ wsX70, w ∈ vsX7_isCuedByAheadAlone := fun _ h => List.mem_cons_of_mem _ (List.mem_append_right _ (List.mem_append_right _ (h)))
theorem gw_X7_isCuedByAheadAlone_X7_endsAsAhead : GoodIn vsX7_isCuedByAheadAlone vsX7_endsAsAhead := z_gdI (fun _ h => List.mem_cons_of_mem _ (List.mem_append_right _ (List.mem_append_left _ h))) zgX7_endsAsAhead
set_option maxRecDepth 20000 in
theorem gv_X7_isCuedByAheadAlone_X7_endsAsAhead_99 : GoodIn vsX7_isCuedByAheadAlone (wsV RX7 99 RX7 yX7_endsAsAhead vsX7_endsAsAhead) := goodIn_app (goodIn_of _ (by decide +kernel)) gw_X7_isCuedByAheadAlone_X7_endsAsAhead
set_option maxHeartbeats 4000000 in
set_option maxRecDepth 100000 in
theorem rX7_isCuedByAheadAlone (l : Launch) (dC : Nat → ClassId) (dI : Nat → Nat → Nat) (cI cQ : ClassId) (ha0 ha0_5 ha0_6 ha0_0 ha0_1 ha0_2 ha0_4 ha0_7 ha0_11 : Nat) (fa0_5 : Nat → Int32) (fa0_6 : Nat → Int32) (hBfa0_6 : ∀ k, 0 ≤ (fa0_6 k).toInt ∧ (fa0_6 k).toInt ≤ 4) (ia0_3 : Int32) (hia0_3l : 0 ≤ ia0_3.toInt) (hia0_3h : ia0_3.toInt ≤ 5) (ia0_8 : Int32) (ia0_9 : Int32) (hia0_9l : 0 ≤ ia0_9.toInt) (hia0_9h : ia0_9.toInt ≤ 12) (ia0_10 : Int32) (p1 : Int32) (hp1l : 1 ≤ p1.toInt) (hp1h : p1.toInt ≤ 11) (p2 : Int32) : Met l yX7_isCuedByAheadAlone vsX7_isCuedByAheadAlone ({ frames := 2, cells := 0, slots := 0, locals := 47 }) (va_Pc [.ref ha0, .int p1, .int p2] (zRB dC dI cI cQ [(ha0_5, .inl (cI, 12, .inl fa0_5)), (ha0_6, .inl (cI, 12, .inl fa0_6)), (ha0, .inr (7, [.ref ha0_0, .ref ha0_1, .ref ha0_2, .int ia0_3, .ref ha0_4, .ref ha0_5, .ref ha0_6, .ref ha0_7, .int ia0_8, .int ia0_9, .int ia0_10, .ref ha0_11]))])) (vp_Si (fun r => 0 ≤ r.toInt ∧ r.toInt ≤ 1 ∧ (zAlP ia0_9.toInt fa0_5 fa0_6 p1.toInt p2.toInt r.toInt))) 0 0 (fun _ => False) := by
  refine Met.ofW (cc := cX7_isCuedByAheadAlone) (maxL := 4) (ret := (some .boolean)) (by decide) rfl ?_
  intro p e s m args below meth c s₁ B hml hv
  obtain ⟨rfl, hP, hZ⟩ := hv
  obtain ⟨hK, hAO, hN⟩ := id hZ
  have hx := B.exec
  have hb := B.bytes
  have hr := B.returns
  have hts := atoms_spec (ws := vsX7_isCuedByAheadAlone) B.pre
  have hown : s.vm.findClass RX7 = some m.cls := findClass_of_methodNamed B.named
  have hlocks := B.notSynchronized
  have hp2l := z_lo p2
  have hp2h := z_hi p2
  have hl := lv_entry ([.ref ha0, .int p1, .int p2]) (n := 4) (Nat.le_of_ble_eq_true rfl)
  rw [lg_entry_eq]
  generalize (lg_sl ([.ref ha0, .int p1, .int p2]) ++ List.replicate (4 - (lg_sl ([.ref ha0, .int p1, .int p2])).length) Slot.unset).toArray = ls at hl ⊢
  have hl : lv_has ls 4 [(0, .ref ha0), (1, .int p1), (2, .int p2)] := hl
  refine lv_iconst (v := 0) hx hb dX7_isCuedByAheadAlone_0 (by decide) ?_
  refine lv_istore_n (lv' := [(3, .int 0), (0, .ref ha0), (1, .int p1), (2, .int p2)]) hx hb dX7_isCuedByAheadAlone_1 rfl hl (by decide) rfl (fun ls hl => ?_)
  have hL98 : ∀ (n : Nat) (v1 : Int32) (ls : Array Slot), 0 ≤ v1.toInt → v1.toInt ≤ 12 → (zAlI ia0_9.toInt fa0_5 fa0_6 p1.toInt p2.toInt (v1 : Int32).toInt) → (12 - v1.toInt).toNat < n → lv_has ls 4 [(3, .int v1), (0, .ref ha0), (1, .int p1), (2, .int p2)] → W p l e (headSpec vsX7_isCuedByAheadAlone ({ frames := 2, cells := 0, slots := 0, locals := 47 })).room s m ([.ref ha0, .int p1, .int p2] : List Value).toArray below meth c s.heap [] 0 0 (MQ below (vp_Si (fun r => 0 ≤ r.toInt ∧ r.toInt ≤ 1 ∧ (zAlP ia0_9.toInt fa0_5 fa0_6 p1.toInt p2.toInt r.toInt))) ([.ref ha0, .int p1, .int p2] : List Value).toArray s 0 0 (fun _ => False)) (F0 m 2 ls []) := by
    intro n
    induction n with
    | zero =>
      intro v1 ls hi99_0 hi99_1 hi99_x0 hi99_m hl
      exact absurd hi99_m (Nat.not_lt_zero _)
    | succ n ih =>
      intro v1 ls hi99_0 hi99_1 hi99_x0 hi99_m hl
      have ih100 := ih
      refine lv_iload_n hx hb dX7_isCuedByAheadAlone_2 rfl (lv_at hl 0 rfl) ?_
      refine lv_aload_n hx hb dX7_isCuedByAheadAlone_3 rfl (lv_at hl 1 rfl) ?_
      refine va_get (D := (dC, dI)) (ci := 7) (v := .int ia0_9) (C := RX7) (T := TX7) (N := 12) hx hb hts in_X7_isCuedByAheadAlone_X7 hown hK hP 2 rfl rfl 9 (by decide) (hts (.fieldLink RX7 43 "EachOnHisCue$Play" "lines" "I") (by decide +kernel)) (fun _ h9 => h9) rfl dX7_isCuedByAheadAlone_4 ?_
      refine lv_icmp_ge (tgt := 46) hx hb dX7_isCuedByAheadAlone_7 (by decide) (fun hc => ?_) (fun hc => ?_)
      · have q101 : ia0_9.toInt ≤ v1.toInt := z_le rfl rfl hc
        refine lv_iconst (v := 1) hx hb dX7_isCuedByAheadAlone_46 (by decide) ?_
        exact W.zret (v := 1) hx hb hr (rfl) (fun t ht hW => ⟨1, rfl, ⟨by first | decide | omega, by first | decide | omega, (by exact z_alT (by assumption) (by omega) (by decide))⟩, ht⟩) (fun _ h => absurd h List.not_mem_nil) dX7_isCuedByAheadAlone_47
      · have q102 : v1.toInt < ia0_9.toInt := z_nle rfl rfl hc
        refine lv_iload_n hx hb dX7_isCuedByAheadAlone_10 rfl (lv_at hl 0 rfl) ?_
        refine lv_iload_n hx hb dX7_isCuedByAheadAlone_11 rfl (lv_at hl 2 rfl) ?_
        refine lv_iconst (v := 1) hx hb dX7_isCuedByAheadAlone_12 (by decide) ?_
        refine lv_isub hx hb dX7_isCuedByAheadAlone_13 ?_
        refine lv_topi (fun y103 ey103 => ?_)
        have hy103 : y103.toInt = p1.toInt - 1 := by rw [ey103]; exact z_sub rfl (by decide) (by omega) (by omega)
        refine lv_icmp_eq (tgt := 40) hx hb dX7_isCuedByAheadAlone_14 (by decide) (fun hc => ?_) (fun hc => ?_)
        · have q104 : v1.toInt = y103.toInt := z_eq rfl rfl hc
          obtain ⟨y105, ey105⟩ : ∃ y : Int32, y = v1 + 1 := ⟨_, rfl⟩
          refine lv_iinc (v := y105) (lv' := [(3, .int y105), (0, .ref ha0), (1, .int p1), (2, .int p2)]) hx hb dX7_isCuedByAheadAlone_40 hl (k := 0) rfl (by rw [ey105]; rfl) (by decide) rfl (fun ls hl => ?_)
          have hy105 : y105.toInt = v1.toInt + 1 := by rw [ey105]; exact z_add rfl (by decide) (by omega) (by omega)
          refine lv_goto (tgt := 2) hx hb dX7_isCuedByAheadAlone_43 (by decide) ?_
          exact ih100 y105 ls (by first | decide | omega) (by first | decide | omega) (z_alS (by assumption) (by omega) (by omega) (Or.inl (by omega))) (by omega) (lv_sub hl [0, 1, 2, 3] rfl)
        · have q106 : v1.toInt ≠ y103.toInt := z_ne rfl rfl hc
          refine lv_aload_n hx hb dX7_isCuedByAheadAlone_17 rfl (lv_at hl 1 rfl) ?_
          refine lv_aload_n hx hb dX7_isCuedByAheadAlone_18 rfl (lv_at hl 1 rfl) ?_
          refine va_get (D := (dC, dI)) (ci := 7) (v := .ref ha0_5) (C := RX7) (T := TX7) (N := 12) hx hb hts in_X7_isCuedByAheadAlone_X7 hown hK hP 2 rfl rfl 5 (by decide) (hts (.fieldLink RX7 31 "EachOnHisCue$Play" "texts" "[I") (by decide +kernel)) (fun _ h9 => h9) rfl dX7_isCuedByAheadAlone_19 ?_
          refine lv_iload_n hx hb dX7_isCuedByAheadAlone_22 rfl (lv_at hl 0 rfl) ?_
          refine va_iald hx hb hK hP 0 0 rfl rfl (z_in (by omega) (by omega)) dX7_isCuedByAheadAlone_23 ?_
          refine lv_topi (fun y107 ey107 => ?_)
          have gy107 : y107.toInt = (fa0_5 (v1 : Int32).toNatClampNeg).toInt := by rw [ey107]
          refine lv_aload_n hx hb dX7_isCuedByAheadAlone_24 rfl (lv_at hl 1 rfl) ?_
          refine va_get (D := (dC, dI)) (ci := 7) (v := .ref ha0_6) (C := RX7) (T := TX7) (N := 12) hx hb hts in_X7_isCuedByAheadAlone_X7 hown hK hP 2 rfl rfl 6 (by decide) (hts (.fieldLink RX7 34 "EachOnHisCue$Play" "sizes" "[I") (by decide +kernel)) (fun _ h9 => h9) rfl dX7_isCuedByAheadAlone_25 ?_
          refine lv_iload_n hx hb dX7_isCuedByAheadAlone_28 rfl (lv_at hl 0 rfl) ?_
          refine va_iald hx hb hK hP 1 0 rfl rfl (z_in (by omega) (by omega)) dX7_isCuedByAheadAlone_29 ?_
          refine lv_topi (fun y108 ey108 => ?_)
          have gy108 : y108.toInt = (fa0_6 (v1 : Int32).toNatClampNeg).toInt := by rw [ey108]
          have hy108 : 0 ≤ y108.toInt ∧ y108.toInt ≤ 4 := by rw [ey108]; exact hBfa0_6 _
          obtain ⟨hy108, hy108_⟩ := hy108
          refine lv_iload_n hx hb dX7_isCuedByAheadAlone_30 rfl (lv_at hl 2 rfl) ?_
          refine lv_iload_n hx hb dX7_isCuedByAheadAlone_31 rfl (lv_at hl 3 rfl) ?_
          refine z_rdi (va_runV (As := [.int y107, .int y108, .int p1, .int p2]) (rest := []) ⟨hx, hb, hml, hown, hts⟩ (rX7_endsAsAhead l dC dI cI cQ ha0 ha0_5 ha0_6 ha0_0 ha0_1 ha0_2 ha0_4 ha0_7 ha0_11 fa0_5 fa0_6 hBfa0_6 ia0_3 hia0_3l hia0_3h ia0_8 ia0_9 hia0_9l hia0_9h ia0_10 y107 y108 p1 p2) (cwV 4 hts gv_X7_isCuedByAheadAlone_X7_endsAsAhead_99 rfl rfl rfl (by decide +kernel) ⟨Nat.le_of_ble_eq_true rfl, Nat.le_of_ble_eq_true rfl⟩) ⟨z_blindR, va_recv hK hP (ci := 7) (q0 := 2) rfl rfl, z_preR hZ hP [0, 1, 2] rfl⟩ rfl rfl hl.1 rfl (lv_room (Nat.le_of_ble_eq_true rfl)) dX7_isCuedByAheadAlone_32 ⟨Nat.le_of_ble_eq_true rfl, Nat.le_of_ble_eq_true rfl⟩) (fun y109 hy109 => ?_)
          obtain ⟨hy109_0, hy109_1, hy109_2⟩ := hy109
          refine lv_if_eq (tgt := 40) hx hb dX7_isCuedByAheadAlone_35 (by decide) (fun hc => ?_) (fun hc => ?_)
          · have q110 : y109.toInt = 0 := z_eq rfl (by decide) hc
            obtain ⟨y111, ey111⟩ : ∃ y : Int32, y = v1 + 1 := ⟨_, rfl⟩
            refine lv_iinc (v := y111) (lv' := [(3, .int y111), (0, .ref ha0), (1, .int p1), (2, .int p2)]) hx hb dX7_isCuedByAheadAlone_40 hl (k := 0) rfl (by rw [ey111]; rfl) (by decide) rfl (fun ls hl => ?_)
            have hy111 : y111.toInt = v1.toInt + 1 := by rw [ey111]; exact z_add rfl (by decide) (by omega) (by omega)
            refine lv_goto (tgt := 2) hx hb dX7_isCuedByAheadAlone_43 (by decide) ?_
            exact ih100 y111 ls (by first | decide | omega) (by first | decide | omega) (z_alS (by assumption) (by omega) (by omega) (Or.inr ⟨_, _, _, hy109_2, by omega, gy107, gy108, by omega⟩)) (by omega) (lv_sub hl [0, 1, 2, 3] rfl)
          · have q112 : y109.toInt ≠ 0 := z_ne rfl (by decide) hc
            refine lv_iconst (v := 0) hx hb dX7_isCuedByAheadAlone_38 (by decide) ?_
            exact W.zret (v := 0) hx hb hr (rfl) (fun t ht hW => ⟨0, rfl, ⟨by first | decide | omega, by first | decide | omega, (by exact z_alF hy109_2 (by omega) gy107 gy108 (by omega) (by omega) (by omega) (by decide))⟩, ht⟩) (fun _ h => absurd h List.not_mem_nil) dX7_isCuedByAheadAlone_39
  exact hL98 ((12 - (0 : Int32).toInt).toNat + 1) 0 ls (by decide) (by decide) (fun _ _ _ _ _ _ i hi _ => by have e0 : (0 : Int32).toInt = 0 := (by decide); omega) (by omega) hl
