theorem dX7_hasPlayer_0 : decode cX7_hasPlayer 0 = .ok (.iload_n 1, 1) := by decide +kernel
theorem dX7_hasPlayer_1 : decode cX7_hasPlayer 1 = .ok (.ifCond .lt 15, 3) := by decide +kernel
theorem dX7_hasPlayer_4 : decode cX7_hasPlayer 4 = .ok (.iload_n 1, 1) := by decide +kernel
theorem dX7_hasPlayer_5 : decode cX7_hasPlayer 5 = .ok (.aload_n 0, 1) := by decide +kernel
theorem dX7_hasPlayer_6 : decode cX7_hasPlayer 6 = .ok (.getfield 24, 3) := by decide +kernel
theorem dX7_hasPlayer_9 : decode cX7_hasPlayer 9 = .ok (.if_icmp .ge 7, 3) := by decide +kernel
theorem dX7_hasPlayer_12 : decode cX7_hasPlayer 12 = .ok (.iconst 1, 1) := by decide +kernel
theorem dX7_hasPlayer_13 : decode cX7_hasPlayer 13 = .ok (.goto 4, 3) := by decide +kernel
theorem dX7_hasPlayer_16 : decode cX7_hasPlayer 16 = .ok (.iconst 0, 1) := by decide +kernel
theorem dX7_hasPlayer_17 : decode cX7_hasPlayer 17 = .ok (.ireturn, 1) := by decide +kernel
noncomputable def vsX7_hasPlayer : List Cond := .code yX7_hasPlayer cX7_hasPlayer 2 (some .boolean) :: (([.fieldLink RX7 24 "EachOnHisCue$Play" "players" "I"] : List Cond) ++ wsX70)
theorem in_X7_hasPlayer_X7 : ∀ w ∈ wsX70, w ∈ vsX7_hasPlayer := fun _ h => List.mem_cons_of_mem _ (List.mem_append_right _ h)
set_option maxHeartbeats 4000000 in
set_option maxRecDepth 100000 in
theorem rX7_hasPlayer (l : Launch) (dC : Nat → ClassId) (dI : Nat → Nat → Nat) (cI cQ : ClassId) (ha0 ha0_0 ha0_1 ha0_2 ha0_4 ha0_5 ha0_6 ha0_7 ha0_11 : Nat) (ia0_3 : Int32) (hia0_3l : 0 ≤ ia0_3.toInt) (hia0_3h : ia0_3.toInt ≤ 5) (ia0_8 : Int32) (ia0_9 : Int32) (hia0_9l : 0 ≤ ia0_9.toInt) (hia0_9h : ia0_9.toInt ≤ 12) (ia0_10 : Int32) (p1 : Int32) : Met l yX7_hasPlayer vsX7_hasPlayer ({ frames := 0, cells := 0, slots := 0, locals := 0 }) (va_Pc [.ref ha0, .int p1] (zRB dC dI cI cQ [(ha0, .inr (7, [.ref ha0_0, .ref ha0_1, .ref ha0_2, .int ia0_3, .ref ha0_4, .ref ha0_5, .ref ha0_6, .ref ha0_7, .int ia0_8, .int ia0_9, .int ia0_10, .ref ha0_11]))])) (vp_Si (fun r => 0 ≤ r.toInt ∧ r.toInt ≤ 1 ∧ (r.toInt = 1 → 0 ≤ p1.toInt ∧ p1.toInt < ia0_3.toInt))) 0 0 (fun _ => False) := by
  refine Met.ofW (cc := cX7_hasPlayer) (maxL := 2) (ret := (some .boolean)) (by decide) rfl ?_
  intro p e s m args below meth c s₁ B hml hv
  obtain ⟨rfl, hP, hZ⟩ := hv
  obtain ⟨hK, hAO, hN⟩ := id hZ
  have hx := B.exec
  have hb := B.bytes
  have hr := B.returns
  have hts := atoms_spec (ws := vsX7_hasPlayer) B.pre
  have hown : s.vm.findClass RX7 = some m.cls := findClass_of_methodNamed B.named
  have hlocks := B.notSynchronized
  have hp1l := z_lo p1
  have hp1h := z_hi p1
  have hl := lv_entry ([.ref ha0, .int p1]) (n := 2) (Nat.le_of_ble_eq_true rfl)
  rw [lg_entry_eq]
  generalize (lg_sl ([.ref ha0, .int p1]) ++ List.replicate (2 - (lg_sl ([.ref ha0, .int p1])).length) Slot.unset).toArray = ls at hl ⊢
  have hl : lv_has ls 2 [(0, .ref ha0), (1, .int p1)] := hl
  refine lv_iload_n hx hb dX7_hasPlayer_0 rfl (lv_at hl 1 rfl) ?_
  refine lv_if_lt (tgt := 16) hx hb dX7_hasPlayer_1 (by decide) (fun hc => ?_) (fun hc => ?_)
  · have q1 : p1.toInt < 0 := z_lt rfl (by decide) hc
    refine lv_iconst (v := 0) hx hb dX7_hasPlayer_16 (by decide) ?_
    exact W.zret (v := 0) hx hb hr (rfl) (fun t ht hW => ⟨0, rfl, ⟨by first | omega | decide | exact z_lo _, by first | omega | decide | exact z_hi _, by first | omega | (intro _; omega) | (intro h; exact absurd h (by decide)) | (refine ⟨?_, ?_⟩ <;> omega) | (split <;> omega)⟩, ht⟩) (fun _ h => absurd h List.not_mem_nil) dX7_hasPlayer_17
  · have q2 : 0 ≤ p1.toInt := z_nlt rfl (by decide) hc
    refine lv_iload_n hx hb dX7_hasPlayer_4 rfl (lv_at hl 1 rfl) ?_
    refine lv_aload_n hx hb dX7_hasPlayer_5 rfl (lv_at hl 0 rfl) ?_
    refine va_get (D := (dC, dI)) (ci := 7) (v := .int ia0_3) (C := RX7) (T := TX7) (N := 12) hx hb hts in_X7_hasPlayer_X7 hown hK hP 0 rfl rfl 3 (by decide) (hts (.fieldLink RX7 24 "EachOnHisCue$Play" "players" "I") (by decide +kernel)) (fun _ h9 => h9) rfl dX7_hasPlayer_6 ?_
    refine lv_icmp_ge (tgt := 16) hx hb dX7_hasPlayer_9 (by decide) (fun hc => ?_) (fun hc => ?_)
    · have q3 : ia0_3.toInt ≤ p1.toInt := z_le rfl rfl hc
      refine lv_iconst (v := 0) hx hb dX7_hasPlayer_16 (by decide) ?_
      exact W.zret (v := 0) hx hb hr (rfl) (fun t ht hW => ⟨0, rfl, ⟨by first | omega | decide | exact z_lo _, by first | omega | decide | exact z_hi _, by first | omega | (intro _; omega) | (intro h; exact absurd h (by decide)) | (refine ⟨?_, ?_⟩ <;> omega) | (split <;> omega)⟩, ht⟩) (fun _ h => absurd h List.not_mem_nil) dX7_hasPlayer_17
    · have q4 : p1.toInt < ia0_3.toInt := z_nle rfl rfl hc
      refine lv_iconst (v := 1) hx hb dX7_hasPlayer_12 (by decide) ?_
      refine lv_goto (tgt := 17) hx hb dX7_hasPlayer_13 (by decide) ?_
      exact W.zret (v := 1) hx hb hr (rfl) (fun t ht hW => ⟨1, rfl, ⟨by first | omega | decide | exact z_lo _, by first | omega | decide | exact z_hi _, by first | omega | (intro _; omega) | (intro h; exact absurd h (by decide)) | (refine ⟨?_, ?_⟩ <;> omega) | (split <;> omega)⟩, ht⟩) (fun _ h => absurd h List.not_mem_nil) dX7_hasPlayer_17
theorem dX7_hasLine_0 : decode cX7_hasLine 0 = .ok (.iload_n 1, 1) := by decide +kernel
theorem dX7_hasLine_1 : decode cX7_hasLine 1 = .ok (.ifCond .lt 15, 3) := by decide +kernel
theorem dX7_hasLine_4 : decode cX7_hasLine 4 = .ok (.iload_n 1, 1) := by decide +kernel
theorem dX7_hasLine_5 : decode cX7_hasLine 5 = .ok (.aload_n 0, 1) := by decide +kernel
theorem dX7_hasLine_6 : decode cX7_hasLine 6 = .ok (.getfield 43, 3) := by decide +kernel
theorem dX7_hasLine_9 : decode cX7_hasLine 9 = .ok (.if_icmp .ge 7, 3) := by decide +kernel
theorem dX7_hasLine_12 : decode cX7_hasLine 12 = .ok (.iconst 1, 1) := by decide +kernel
theorem dX7_hasLine_13 : decode cX7_hasLine 13 = .ok (.goto 4, 3) := by decide +kernel
theorem dX7_hasLine_16 : decode cX7_hasLine 16 = .ok (.iconst 0, 1) := by decide +kernel
theorem dX7_hasLine_17 : decode cX7_hasLine 17 = .ok (.ireturn, 1) := by decide +kernel
noncomputable def vsX7_hasLine : List Cond := .code yX7_hasLine cX7_hasLine 2 (some .boolean) :: (([.fieldLink RX7 43 "EachOnHisCue$Play" "lines" "I"] : List Cond) ++ wsX70)
theorem in_X7_hasLine_X7 : ∀ w ∈ wsX70, w ∈ vsX7_hasLine := fun _ h => List.mem_cons_of_mem _ (List.mem_append_right _ h)
set_option maxHeartbeats 4000000 in
set_option maxRecDepth 100000 in
theorem rX7_hasLine (l : Launch) (dC : Nat → ClassId) (dI : Nat → Nat → Nat) (cI cQ : ClassId) (ha0 ha0_0 ha0_1 ha0_2 ha0_4 ha0_5 ha0_6 ha0_7 ha0_11 : Nat) (ia0_3 : Int32) (hia0_3l : 0 ≤ ia0_3.toInt) (hia0_3h : ia0_3.toInt ≤ 5) (ia0_8 : Int32) (ia0_9 : Int32) (hia0_9l : 0 ≤ ia0_9.toInt) (hia0_9h : ia0_9.toInt ≤ 12) (ia0_10 : Int32) (p1 : Int32) : Met l yX7_hasLine vsX7_hasLine ({ frames := 0, cells := 0, slots := 0, locals := 0 }) (va_Pc [.ref ha0, .int p1] (zRB dC dI cI cQ [(ha0, .inr (7, [.ref ha0_0, .ref ha0_1, .ref ha0_2, .int ia0_3, .ref ha0_4, .ref ha0_5, .ref ha0_6, .ref ha0_7, .int ia0_8, .int ia0_9, .int ia0_10, .ref ha0_11]))])) (vp_Si (fun r => 0 ≤ r.toInt ∧ r.toInt ≤ 1 ∧ (r.toInt = 1 → 0 ≤ p1.toInt ∧ p1.toInt < ia0_9.toInt))) 0 0 (fun _ => False) := by
  refine Met.ofW (cc := cX7_hasLine) (maxL := 2) (ret := (some .boolean)) (by decide) rfl ?_
  intro p e s m args below meth c s₁ B hml hv
  obtain ⟨rfl, hP, hZ⟩ := hv
  obtain ⟨hK, hAO, hN⟩ := id hZ
  have hx := B.exec
  have hb := B.bytes
  have hr := B.returns
  have hts := atoms_spec (ws := vsX7_hasLine) B.pre
  have hown : s.vm.findClass RX7 = some m.cls := findClass_of_methodNamed B.named
  have hlocks := B.notSynchronized
  have hp1l := z_lo p1
  have hp1h := z_hi p1
  have hl := lv_entry ([.ref ha0, .int p1]) (n := 2) (Nat.le_of_ble_eq_true rfl)
  rw [lg_entry_eq]
  generalize (lg_sl ([.ref ha0, .int p1]) ++ List.replicate (2 - (lg_sl ([.ref ha0, .int p1])).length) Slot.unset).toArray = ls at hl ⊢
  have hl : lv_has ls 2 [(0, .ref ha0), (1, .int p1)] := hl
  refine lv_iload_n hx hb dX7_hasLine_0 rfl (lv_at hl 1 rfl) ?_
  refine lv_if_lt (tgt := 16) hx hb dX7_hasLine_1 (by decide) (fun hc => ?_) (fun hc => ?_)
  · have q1 : p1.toInt < 0 := z_lt rfl (by decide) hc
    refine lv_iconst (v := 0) hx hb dX7_hasLine_16 (by decide) ?_
    exact W.zret (v := 0) hx hb hr (rfl) (fun t ht hW => ⟨0, rfl, ⟨by first | omega | decide | exact z_lo _, by first | omega | decide | exact z_hi _, by first | omega | (intro _; omega) | (intro h; exact absurd h (by decide)) | (refine ⟨?_, ?_⟩ <;> omega) | (split <;> omega)⟩, ht⟩) (fun _ h => absurd h List.not_mem_nil) dX7_hasLine_17
  · have q2 : 0 ≤ p1.toInt := z_nlt rfl (by decide) hc
    refine lv_iload_n hx hb dX7_hasLine_4 rfl (lv_at hl 1 rfl) ?_
    refine lv_aload_n hx hb dX7_hasLine_5 rfl (lv_at hl 0 rfl) ?_
    refine va_get (D := (dC, dI)) (ci := 7) (v := .int ia0_9) (C := RX7) (T := TX7) (N := 12) hx hb hts in_X7_hasLine_X7 hown hK hP 0 rfl rfl 9 (by decide) (hts (.fieldLink RX7 43 "EachOnHisCue$Play" "lines" "I") (by decide +kernel)) (fun _ h9 => h9) rfl dX7_hasLine_6 ?_
    refine lv_icmp_ge (tgt := 16) hx hb dX7_hasLine_9 (by decide) (fun hc => ?_) (fun hc => ?_)
    · have q3 : ia0_9.toInt ≤ p1.toInt := z_le rfl rfl hc
      refine lv_iconst (v := 0) hx hb dX7_hasLine_16 (by decide) ?_
      exact W.zret (v := 0) hx hb hr (rfl) (fun t ht hW => ⟨0, rfl, ⟨by first | omega | decide | exact z_lo _, by first | omega | decide | exact z_hi _, by first | omega | (intro _; omega) | (intro h; exact absurd h (by decide)) | (refine ⟨?_, ?_⟩ <;> omega) | (split <;> omega)⟩, ht⟩) (fun _ h => absurd h List.not_mem_nil) dX7_hasLine_17
    · have q4 : p1.toInt < ia0_9.toInt := z_nle rfl rfl hc
      refine lv_iconst (v := 1) hx hb dX7_hasLine_12 (by decide) ?_
      refine lv_goto (tgt := 17) hx hb dX7_hasLine_13 (by decide) ?_
      exact W.zret (v := 1) hx hb hr (rfl) (fun t ht hW => ⟨1, rfl, ⟨by first | omega | decide | exact z_lo _, by first | omega | decide | exact z_hi _, by first | omega | (intro _; omega) | (intro h; exact absurd h (by decide)) | (refine ⟨?_, ?_⟩ <;> omega) | (split <;> omega)⟩, ht⟩) (fun _ h => absurd h List.not_mem_nil) dX7_hasLine_17
theorem dX7_endsAsAhead_0 : decode cX7_endsAsAhead 0 = .ok (.iload_n 3, 1) := by decide +kernel
theorem dX7_endsAsAhead_1 : decode cX7_endsAsAhead 1 = .ok (.iconst 1, 1) := by decide +kernel
theorem dX7_endsAsAhead_2 : decode cX7_endsAsAhead 2 = .ok (.if_icmp .lt 11, 3) := by decide +kernel
theorem dX7_endsAsAhead_5 : decode cX7_endsAsAhead 5 = .ok (.iload_n 3, 1) := by decide +kernel
theorem dX7_endsAsAhead_6 : decode cX7_endsAsAhead 6 = .ok (.aload_n 0, 1) := by decide +kernel
theorem dX7_endsAsAhead_7 : decode cX7_endsAsAhead 7 = .ok (.getfield 43, 3) := by decide +kernel
theorem dX7_endsAsAhead_10 : decode cX7_endsAsAhead 10 = .ok (.if_icmp .lt 5, 3) := by decide +kernel
theorem dX7_endsAsAhead_13 : decode cX7_endsAsAhead 13 = .ok (.iconst 0, 1) := by decide +kernel
theorem dX7_endsAsAhead_14 : decode cX7_endsAsAhead 14 = .ok (.ireturn, 1) := by decide +kernel
theorem dX7_endsAsAhead_15 : decode cX7_endsAsAhead 15 = .ok (.iload 4, 2) := by decide +kernel
theorem dX7_endsAsAhead_17 : decode cX7_endsAsAhead 17 = .ok (.aload_n 0, 1) := by decide +kernel
theorem dX7_endsAsAhead_18 : decode cX7_endsAsAhead 18 = .ok (.getfield 34, 3) := by decide +kernel
theorem dX7_endsAsAhead_21 : decode cX7_endsAsAhead 21 = .ok (.iload_n 3, 1) := by decide +kernel
theorem dX7_endsAsAhead_22 : decode cX7_endsAsAhead 22 = .ok (.iconst 1, 1) := by decide +kernel
theorem dX7_endsAsAhead_23 : decode cX7_endsAsAhead 23 = .ok (.isub, 1) := by decide +kernel
theorem dX7_endsAsAhead_24 : decode cX7_endsAsAhead 24 = .ok (.iaload, 1) := by decide +kernel
theorem dX7_endsAsAhead_25 : decode cX7_endsAsAhead 25 = .ok (.invokestatic 91, 3) := by decide +kernel
theorem dX7_endsAsAhead_28 : decode cX7_endsAsAhead 28 = .ok (.istore 5, 2) := by decide +kernel
theorem dX7_endsAsAhead_30 : decode cX7_endsAsAhead 30 = .ok (.iconst 1, 1) := by decide +kernel
theorem dX7_endsAsAhead_31 : decode cX7_endsAsAhead 31 = .ok (.iconst 5, 1) := by decide +kernel
theorem dX7_endsAsAhead_32 : decode cX7_endsAsAhead 32 = .ok (.iload 5, 2) := by decide +kernel
theorem dX7_endsAsAhead_34 : decode cX7_endsAsAhead 34 = .ok (.imul, 1) := by decide +kernel
theorem dX7_endsAsAhead_35 : decode cX7_endsAsAhead 35 = .ok (.ishl, 1) := by decide +kernel
theorem dX7_endsAsAhead_36 : decode cX7_endsAsAhead 36 = .ok (.iconst 1, 1) := by decide +kernel
theorem dX7_endsAsAhead_37 : decode cX7_endsAsAhead 37 = .ok (.isub, 1) := by decide +kernel
theorem dX7_endsAsAhead_38 : decode cX7_endsAsAhead 38 = .ok (.istore 6, 2) := by decide +kernel
theorem dX7_endsAsAhead_40 : decode cX7_endsAsAhead 40 = .ok (.iload_n 2, 1) := by decide +kernel
theorem dX7_endsAsAhead_41 : decode cX7_endsAsAhead 41 = .ok (.iload 5, 2) := by decide +kernel
theorem dX7_endsAsAhead_43 : decode cX7_endsAsAhead 43 = .ok (.if_icmp .lt 25, 3) := by decide +kernel
theorem dX7_endsAsAhead_46 : decode cX7_endsAsAhead 46 = .ok (.iload_n 1, 1) := by decide +kernel
theorem dX7_endsAsAhead_47 : decode cX7_endsAsAhead 47 = .ok (.iload 6, 2) := by decide +kernel
theorem dX7_endsAsAhead_49 : decode cX7_endsAsAhead 49 = .ok (.iand, 1) := by decide +kernel
theorem dX7_endsAsAhead_50 : decode cX7_endsAsAhead 50 = .ok (.aload_n 0, 1) := by decide +kernel
theorem dX7_endsAsAhead_51 : decode cX7_endsAsAhead 51 = .ok (.getfield 31, 3) := by decide +kernel
theorem dX7_endsAsAhead_54 : decode cX7_endsAsAhead 54 = .ok (.iload_n 3, 1) := by decide +kernel
theorem dX7_endsAsAhead_55 : decode cX7_endsAsAhead 55 = .ok (.iconst 1, 1) := by decide +kernel
theorem dX7_endsAsAhead_56 : decode cX7_endsAsAhead 56 = .ok (.isub, 1) := by decide +kernel
theorem dX7_endsAsAhead_57 : decode cX7_endsAsAhead 57 = .ok (.iaload, 1) := by decide +kernel
theorem dX7_endsAsAhead_58 : decode cX7_endsAsAhead 58 = .ok (.iload 6, 2) := by decide +kernel
theorem dX7_endsAsAhead_60 : decode cX7_endsAsAhead 60 = .ok (.iand, 1) := by decide +kernel
theorem dX7_endsAsAhead_61 : decode cX7_endsAsAhead 61 = .ok (.if_icmp .ne 7, 3) := by decide +kernel
theorem dX7_endsAsAhead_64 : decode cX7_endsAsAhead 64 = .ok (.iconst 1, 1) := by decide +kernel
theorem dX7_endsAsAhead_65 : decode cX7_endsAsAhead 65 = .ok (.goto 4, 3) := by decide +kernel
theorem dX7_endsAsAhead_68 : decode cX7_endsAsAhead 68 = .ok (.iconst 0, 1) := by decide +kernel
theorem dX7_endsAsAhead_69 : decode cX7_endsAsAhead 69 = .ok (.ireturn, 1) := by decide +kernel
noncomputable def vsX7_endsAsAhead : List Cond := .code yX7_endsAsAhead cX7_endsAsAhead 7 (some .boolean) :: (([.fieldLink RX7 43 "EachOnHisCue$Play" "lines" "I", .fieldLink RX7 34 "EachOnHisCue$Play" "sizes" "[I", .methodLink RX7 91 Lib.Math.min.name, .static Lib.Math.min.name, .initialized "java/lang/Math", .code Lib.Math.min.name Lib.Math.min.code 2 (some .int), .fieldLink RX7 31 "EachOnHisCue$Play" "texts" "[I"] : List Cond) ++ wsX70)
theorem in_X7_endsAsAhead_X7 : ∀ w ∈ wsX70, w ∈ vsX7_endsAsAhead := fun _ h => List.mem_cons_of_mem _ (List.mem_append_right _ h)
set_option maxHeartbeats 4000000 in
set_option maxRecDepth 100000 in
theorem rX7_endsAsAhead (l : Launch) (dC : Nat → ClassId) (dI : Nat → Nat → Nat) (cI cQ : ClassId) (ha0 ha0_5 ha0_6 ha0_0 ha0_1 ha0_2 ha0_4 ha0_7 ha0_11 : Nat) (fa0_5 : Nat → Int32) (fa0_6 : Nat → Int32) (hBfa0_6 : ∀ k, 0 ≤ (fa0_6 k).toInt ∧ (fa0_6 k).toInt ≤ 4) (ia0_3 : Int32) (hia0_3l : 0 ≤ ia0_3.toInt) (hia0_3h : ia0_3.toInt ≤ 5) (ia0_8 : Int32) (ia0_9 : Int32) (hia0_9l : 0 ≤ ia0_9.toInt) (hia0_9h : ia0_9.toInt ≤ 12) (ia0_10 : Int32) (p1 : Int32) (p2 : Int32) (p3 : Int32) (p4 : Int32) : Met l yX7_endsAsAhead vsX7_endsAsAhead ({ frames := 1, cells := 0, slots := 0, locals := 21 }) (va_Pc [.ref ha0, .int p1, .int p2, .int p3, .int p4] (zRB dC dI cI cQ [(ha0_5, .inl (cI, 12, .inl fa0_5)), (ha0_6, .inl (cI, 12, .inl fa0_6)), (ha0, .inr (7, [.ref ha0_0, .ref ha0_1, .ref ha0_2, .int ia0_3, .ref ha0_4, .ref ha0_5, .ref ha0_6, .ref ha0_7, .int ia0_8, .int ia0_9, .int ia0_10, .ref ha0_11]))])) (vp_Si (fun r => 0 ≤ r.toInt ∧ r.toInt ≤ 1)) 0 0 (fun _ => False) := by
  refine Met.ofW (cc := cX7_endsAsAhead) (maxL := 7) (ret := (some .boolean)) (by decide) rfl ?_
  intro p e s m args below meth c s₁ B hml hv
  obtain ⟨rfl, hP, hZ⟩ := hv
  obtain ⟨hK, hAO, hN⟩ := id hZ
  have hx := B.exec
  have hb := B.bytes
  have hr := B.returns
  have hts := atoms_spec (ws := vsX7_endsAsAhead) B.pre
  have hown : s.vm.findClass RX7 = some m.cls := findClass_of_methodNamed B.named
  have hlocks := B.notSynchronized
  have hp1l := z_lo p1
  have hp1h := z_hi p1
  have hp2l := z_lo p2
  have hp2h := z_hi p2
  have hp3l := z_lo p3
  have hp3h := z_hi p3
  have hp4l := z_lo p4
  have hp4h := z_hi p4
  have hl := lv_entry ([.ref ha0, .int p1, .int p2, .int p3, .int p4]) (n := 7) (Nat.le_of_ble_eq_true rfl)
  rw [lg_entry_eq]
  generalize (lg_sl ([.ref ha0, .int p1, .int p2, .int p3, .int p4]) ++ List.replicate (7 - (lg_sl ([.ref ha0, .int p1, .int p2, .int p3, .int p4])).length) Slot.unset).toArray = ls at hl ⊢
  have hl : lv_has ls 7 [(0, .ref ha0), (1, .int p1), (2, .int p2), (3, .int p3), (4, .int p4)] := hl
  refine lv_iload_n hx hb dX7_endsAsAhead_0 rfl (lv_at hl 3 rfl) ?_
  refine lv_iconst (v := 1) hx hb dX7_endsAsAhead_1 (by decide) ?_
  refine lv_icmp_lt (tgt := 13) hx hb dX7_endsAsAhead_2 (by decide) (fun hc => ?_) (fun hc => ?_)
  · have q1 : p3.toInt < 1 := z_lt rfl (by decide) hc
    refine lv_iconst (v := 0) hx hb dX7_endsAsAhead_13 (by decide) ?_
    exact W.zret (v := 0) hx hb hr (rfl) (fun t ht hW => ⟨0, rfl, ⟨by first | omega | decide | exact z_lo _, by first | omega | decide | exact z_hi _⟩, ht⟩) (fun _ h => absurd h List.not_mem_nil) dX7_endsAsAhead_14
  · have q2 : 1 ≤ p3.toInt := z_nlt rfl (by decide) hc
    refine lv_iload_n hx hb dX7_endsAsAhead_5 rfl (lv_at hl 3 rfl) ?_
    refine lv_aload_n hx hb dX7_endsAsAhead_6 rfl (lv_at hl 0 rfl) ?_
    refine va_get (D := (dC, dI)) (ci := 7) (v := .int ia0_9) (C := RX7) (T := TX7) (N := 12) hx hb hts in_X7_endsAsAhead_X7 hown hK hP 2 rfl rfl 9 (by decide) (hts (.fieldLink RX7 43 "EachOnHisCue$Play" "lines" "I") (by decide +kernel)) (fun _ h9 => h9) rfl dX7_endsAsAhead_7 ?_
    refine lv_icmp_lt (tgt := 15) hx hb dX7_endsAsAhead_10 (by decide) (fun hc => ?_) (fun hc => ?_)
    · have q3 : p3.toInt < ia0_9.toInt := z_lt rfl rfl hc
      refine lv_iload hx hb dX7_endsAsAhead_15 (lv_at hl 4 rfl) ?_
      refine lv_aload_n hx hb dX7_endsAsAhead_17 rfl (lv_at hl 0 rfl) ?_
      refine va_get (D := (dC, dI)) (ci := 7) (v := .ref ha0_6) (C := RX7) (T := TX7) (N := 12) hx hb hts in_X7_endsAsAhead_X7 hown hK hP 2 rfl rfl 6 (by decide) (hts (.fieldLink RX7 34 "EachOnHisCue$Play" "sizes" "[I") (by decide +kernel)) (fun _ h9 => h9) rfl dX7_endsAsAhead_18 ?_
      refine lv_iload_n hx hb dX7_endsAsAhead_21 rfl (lv_at hl 3 rfl) ?_
      refine lv_iconst (v := 1) hx hb dX7_endsAsAhead_22 (by decide) ?_
      refine lv_isub hx hb dX7_endsAsAhead_23 ?_
      refine lv_topi (fun y4 ey4 => ?_)
      have hy4 : y4.toInt = p3.toInt - 1 := by rw [ey4]; exact z_sub rfl (by decide) (by omega) (by omega)
      refine va_iald hx hb hK hP 1 0 rfl rfl (z_in (by omega) (by omega)) dX7_endsAsAhead_24 ?_
      refine lv_topi (fun y5 ey5 => ?_)
      have gy5 : y5.toInt = (fa0_6 (y4 : Int32).toNatClampNeg).toInt := by rw [ey5]
      have hy5 : 0 ≤ y5.toInt ∧ y5.toInt ≤ 4 := by rw [ey5]; exact hBfa0_6 _
      obtain ⟨hy5, hy5_⟩ := hy5
      refine va_mmin hx hb (hml.trans hl.1.symm) hown (hts (.methodLink RX7 91 Lib.Math.min.name) (by decide +kernel)) (hts (.static Lib.Math.min.name) (by decide +kernel)) (hts (.initialized "java/lang/Math") (by decide +kernel)) (hts (.code Lib.Math.min.name Lib.Math.min.code 2 (some .int)) (by decide +kernel)) (Nat.le_of_ble_eq_true rfl) (Nat.le_of_ble_eq_true rfl) (Nat.le_of_ble_eq_true rfl) (Nat.le_of_ble_eq_true rfl) dX7_endsAsAhead_25 ?_
      refine lv_topi (fun y6 ey6 => ?_)
      obtain ⟨hy6_0, hy6_1, hy6_2⟩ : y6.toInt ≤ p4.toInt ∧ y6.toInt ≤ y5.toInt ∧ (y6.toInt = p4.toInt ∨ y6.toInt = y5.toInt) := by rw [ey6]; exact z_min rfl rfl
      refine lv_istore (lv' := [(5, .int y6), (0, .ref ha0), (1, .int p1), (2, .int p2), (3, .int p3), (4, .int p4)]) hx hb dX7_endsAsAhead_28 hl (by decide) rfl (fun ls hl => ?_)
      refine lv_iconst (v := 1) hx hb dX7_endsAsAhead_30 (by decide) ?_
      refine lv_iconst (v := 5) hx hb dX7_endsAsAhead_31 (by decide) ?_
      refine lv_iload hx hb dX7_endsAsAhead_32 (lv_at hl 0 rfl) ?_
      refine lv_imul hx hb dX7_endsAsAhead_34 ?_
      refine lv_topi (fun y7 ey7 => ?_)
      refine lv_ishl hx hb dX7_endsAsAhead_35 ?_
      refine lv_topi (fun y8 ey8 => ?_)
      refine lv_iconst (v := 1) hx hb dX7_endsAsAhead_36 (by decide) ?_
      refine lv_isub hx hb dX7_endsAsAhead_37 ?_
      refine lv_topi (fun y9 ey9 => ?_)
      refine lv_istore (lv' := [(6, .int y9), (5, .int y6), (0, .ref ha0), (1, .int p1), (2, .int p2), (3, .int p3), (4, .int p4)]) hx hb dX7_endsAsAhead_38 hl (by decide) rfl (fun ls hl => ?_)
      refine lv_iload_n hx hb dX7_endsAsAhead_40 rfl (lv_at hl 4 rfl) ?_
      refine lv_iload hx hb dX7_endsAsAhead_41 (lv_at hl 1 rfl) ?_
      refine lv_icmp_lt (tgt := 68) hx hb dX7_endsAsAhead_43 (by decide) (fun hc => ?_) (fun hc => ?_)
      · have q10 : p2.toInt < y6.toInt := z_lt rfl rfl hc
        refine lv_iconst (v := 0) hx hb dX7_endsAsAhead_68 (by decide) ?_
        exact W.zret (v := 0) hx hb hr (rfl) (fun t ht hW => ⟨0, rfl, ⟨by first | omega | decide | exact z_lo _, by first | omega | decide | exact z_hi _⟩, ht⟩) (fun _ h => absurd h List.not_mem_nil) dX7_endsAsAhead_69
      · have q11 : y6.toInt ≤ p2.toInt := z_nlt rfl rfl hc
        refine lv_iload_n hx hb dX7_endsAsAhead_46 rfl (lv_at hl 3 rfl) ?_
        refine lv_iload hx hb dX7_endsAsAhead_47 (lv_at hl 0 rfl) ?_
        refine lv_iand hx hb dX7_endsAsAhead_49 ?_
        refine lv_topi (fun y12 ey12 => ?_)
        refine lv_aload_n hx hb dX7_endsAsAhead_50 rfl (lv_at hl 2 rfl) ?_
        refine va_get (D := (dC, dI)) (ci := 7) (v := .ref ha0_5) (C := RX7) (T := TX7) (N := 12) hx hb hts in_X7_endsAsAhead_X7 hown hK hP 2 rfl rfl 5 (by decide) (hts (.fieldLink RX7 31 "EachOnHisCue$Play" "texts" "[I") (by decide +kernel)) (fun _ h9 => h9) rfl dX7_endsAsAhead_51 ?_
        refine lv_iload_n hx hb dX7_endsAsAhead_54 rfl (lv_at hl 5 rfl) ?_
        refine lv_iconst (v := 1) hx hb dX7_endsAsAhead_55 (by decide) ?_
        refine lv_isub hx hb dX7_endsAsAhead_56 ?_
        refine lv_topi (fun y13 ey13 => ?_)
        obtain rfl : y4 = y13 := ey4.trans ey13.symm
        refine va_iald hx hb hK hP 0 0 rfl rfl (z_in (by omega) (by omega)) dX7_endsAsAhead_57 ?_
        refine lv_topi (fun y14 ey14 => ?_)
        have gy14 : y14.toInt = (fa0_5 (y4 : Int32).toNatClampNeg).toInt := by rw [ey14]
        refine lv_iload hx hb dX7_endsAsAhead_58 (lv_at hl 0 rfl) ?_
        refine lv_iand hx hb dX7_endsAsAhead_60 ?_
        refine lv_topi (fun y15 ey15 => ?_)
        refine lv_icmp_ne (tgt := 68) hx hb dX7_endsAsAhead_61 (by decide) (fun hc => ?_) (fun hc => ?_)
        · have q16 : y12.toInt ≠ y15.toInt := z_ne rfl rfl hc
          refine lv_iconst (v := 0) hx hb dX7_endsAsAhead_68 (by decide) ?_
          exact W.zret (v := 0) hx hb hr (rfl) (fun t ht hW => ⟨0, rfl, ⟨by first | omega | decide | exact z_lo _, by first | omega | decide | exact z_hi _⟩, ht⟩) (fun _ h => absurd h List.not_mem_nil) dX7_endsAsAhead_69
        · have q17 : y12.toInt = y15.toInt := z_eq rfl rfl hc
          refine lv_iconst (v := 1) hx hb dX7_endsAsAhead_64 (by decide) ?_
          refine lv_goto (tgt := 69) hx hb dX7_endsAsAhead_65 (by decide) ?_
          exact W.zret (v := 1) hx hb hr (rfl) (fun t ht hW => ⟨1, rfl, ⟨by first | omega | decide | exact z_lo _, by first | omega | decide | exact z_hi _⟩, ht⟩) (fun _ h => absurd h List.not_mem_nil) dX7_endsAsAhead_69
    · have q18 : ia0_9.toInt ≤ p3.toInt := z_nlt rfl rfl hc
      refine lv_iconst (v := 0) hx hb dX7_endsAsAhead_13 (by decide) ?_
      exact W.zret (v := 0) hx hb hr (rfl) (fun t ht hW => ⟨0, rfl, ⟨by first | omega | decide | exact z_lo _, by first | omega | decide | exact z_hi _⟩, ht⟩) (fun _ h => absurd h List.not_mem_nil) dX7_endsAsAhead_14
theorem dX7_isCuedByAheadAlone_0 : decode cX7_isCuedByAheadAlone 0 = .ok (.iconst 0, 1) := by decide +kernel
theorem dX7_isCuedByAheadAlone_1 : decode cX7_isCuedByAheadAlone 1 = .ok (.istore_n 3, 1) := by decide +kernel
theorem dX7_isCuedByAheadAlone_2 : decode cX7_isCuedByAheadAlone 2 = .ok (.iload_n 3, 1) := by decide +kernel
theorem dX7_isCuedByAheadAlone_3 : decode cX7_isCuedByAheadAlone 3 = .ok (.aload_n 0, 1) := by decide +kernel
theorem dX7_isCuedByAheadAlone_4 : decode cX7_isCuedByAheadAlone 4 = .ok (.getfield 43, 3) := by decide +kernel
theorem dX7_isCuedByAheadAlone_7 : decode cX7_isCuedByAheadAlone 7 = .ok (.if_icmp .ge 39, 3) := by decide +kernel
theorem dX7_isCuedByAheadAlone_10 : decode cX7_isCuedByAheadAlone 10 = .ok (.iload_n 3, 1) := by decide +kernel
theorem dX7_isCuedByAheadAlone_11 : decode cX7_isCuedByAheadAlone 11 = .ok (.iload_n 1, 1) := by decide +kernel
theorem dX7_isCuedByAheadAlone_12 : decode cX7_isCuedByAheadAlone 12 = .ok (.iconst 1, 1) := by decide +kernel
theorem dX7_isCuedByAheadAlone_13 : decode cX7_isCuedByAheadAlone 13 = .ok (.isub, 1) := by decide +kernel
theorem dX7_isCuedByAheadAlone_14 : decode cX7_isCuedByAheadAlone 14 = .ok (.if_icmp .eq 26, 3) := by decide +kernel
theorem dX7_isCuedByAheadAlone_17 : decode cX7_isCuedByAheadAlone 17 = .ok (.aload_n 0, 1) := by decide +kernel
theorem dX7_isCuedByAheadAlone_18 : decode cX7_isCuedByAheadAlone 18 = .ok (.aload_n 0, 1) := by decide +kernel
theorem dX7_isCuedByAheadAlone_19 : decode cX7_isCuedByAheadAlone 19 = .ok (.getfield 31, 3) := by decide +kernel
theorem dX7_isCuedByAheadAlone_22 : decode cX7_isCuedByAheadAlone 22 = .ok (.iload_n 3, 1) := by decide +kernel
theorem dX7_isCuedByAheadAlone_23 : decode cX7_isCuedByAheadAlone 23 = .ok (.iaload, 1) := by decide +kernel
theorem dX7_isCuedByAheadAlone_24 : decode cX7_isCuedByAheadAlone 24 = .ok (.aload_n 0, 1) := by decide +kernel
theorem dX7_isCuedByAheadAlone_25 : decode cX7_isCuedByAheadAlone 25 = .ok (.getfield 34, 3) := by decide +kernel
theorem dX7_isCuedByAheadAlone_28 : decode cX7_isCuedByAheadAlone 28 = .ok (.iload_n 3, 1) := by decide +kernel
theorem dX7_isCuedByAheadAlone_29 : decode cX7_isCuedByAheadAlone 29 = .ok (.iaload, 1) := by decide +kernel
theorem dX7_isCuedByAheadAlone_30 : decode cX7_isCuedByAheadAlone 30 = .ok (.iload_n 1, 1) := by decide +kernel
theorem dX7_isCuedByAheadAlone_31 : decode cX7_isCuedByAheadAlone 31 = .ok (.iload_n 2, 1) := by decide +kernel
theorem dX7_isCuedByAheadAlone_32 : decode cX7_isCuedByAheadAlone 32 = .ok (.invokevirtual 99, 3) := by decide +kernel
theorem dX7_isCuedByAheadAlone_35 : decode cX7_isCuedByAheadAlone 35 = .ok (.ifCond .eq 5, 3) := by decide +kernel
theorem dX7_isCuedByAheadAlone_38 : decode cX7_isCuedByAheadAlone 38 = .ok (.iconst 0, 1) := by decide +kernel
theorem dX7_isCuedByAheadAlone_39 : decode cX7_isCuedByAheadAlone 39 = .ok (.ireturn, 1) := by decide +kernel
theorem dX7_isCuedByAheadAlone_40 : decode cX7_isCuedByAheadAlone 40 = .ok (.iinc 3 1, 3) := by decide +kernel
theorem dX7_isCuedByAheadAlone_43 : decode cX7_isCuedByAheadAlone 43 = .ok (.goto (-41), 3) := by decide +kernel
theorem dX7_isCuedByAheadAlone_46 : decode cX7_isCuedByAheadAlone 46 = .ok (.iconst 1, 1) := by decide +kernel
theorem dX7_isCuedByAheadAlone_47 : decode cX7_isCuedByAheadAlone 47 = .ok (.ireturn, 1) := by decide +kernel
noncomputable def vsX7_isCuedByAheadAlone : List Cond := .code yX7_isCuedByAheadAlone cX7_isCuedByAheadAlone 4 (some .boolean) :: (([.fieldLink RX7 43 "EachOnHisCue$Play" "lines" "I", .fieldLink RX7 31 "EachOnHisCue$Play" "texts" "[I", .fieldLink RX7 34 "EachOnHisCue$Play" "sizes" "[I", .methodLink RX7 99 yX7_endsAsAhead, .instanceMethod yX7_endsAsAhead, .selects RX7 yX7_endsAsAhead yX7_endsAsAhead, .initialized RX7, .code yX7_endsAsAhead cX7_endsAsAhead 7 (some .boolean), .methodLink RX7 91 Lib.Math.min.name, .static Lib.Math.min.name, .initialized "java/lang/Math", .code Lib.Math.min.name Lib.Math.min.code 2 (some .int)] : List Cond) ++ wsX70)
theorem in_X7_isCuedByAheadAlone_X7 : ∀ w ∈ wsX70, w ∈ vsX7_isCuedByAheadAlone := fun _ h => List.mem_cons_of_mem _ (List.mem_append_right _ h)
set_option maxRecDepth 20000 in
theorem gw_X7_isCuedByAheadAlone_X7_endsAsAhead : GoodIn vsX7_isCuedByAheadAlone vsX7_endsAsAhead := goodIn_r _ [8, 1, 3, 9, 10, 11, 12, 2, 13, 14, 15, 16, 17, 18, 19, 20, 21, 22, 23, 24] (by decide +kernel) (by decide +kernel)
set_option maxRecDepth 20000 in
theorem gv_X7_isCuedByAheadAlone_X7_endsAsAhead_99 : GoodIn vsX7_isCuedByAheadAlone (wsV RX7 99 RX7 yX7_endsAsAhead vsX7_endsAsAhead) := goodIn_app (goodIn_of _ (by decide +kernel)) gw_X7_isCuedByAheadAlone_X7_endsAsAhead
set_option maxHeartbeats 4000000 in
set_option maxRecDepth 100000 in
theorem rX7_isCuedByAheadAlone (l : Launch) (dC : Nat → ClassId) (dI : Nat → Nat → Nat) (cI cQ : ClassId) (ha0 ha0_5 ha0_6 ha0_0 ha0_1 ha0_2 ha0_4 ha0_7 ha0_11 : Nat) (fa0_5 : Nat → Int32) (fa0_6 : Nat → Int32) (hBfa0_6 : ∀ k, 0 ≤ (fa0_6 k).toInt ∧ (fa0_6 k).toInt ≤ 4) (ia0_3 : Int32) (hia0_3l : 0 ≤ ia0_3.toInt) (hia0_3h : ia0_3.toInt ≤ 5) (ia0_8 : Int32) (ia0_9 : Int32) (hia0_9l : 0 ≤ ia0_9.toInt) (hia0_9h : ia0_9.toInt ≤ 12) (ia0_10 : Int32) (p1 : Int32) (p2 : Int32) : Met l yX7_isCuedByAheadAlone vsX7_isCuedByAheadAlone ({ frames := 2, cells := 0, slots := 0, locals := 47 }) (va_Pc [.ref ha0, .int p1, .int p2] (zRB dC dI cI cQ [(ha0_5, .inl (cI, 12, .inl fa0_5)), (ha0_6, .inl (cI, 12, .inl fa0_6)), (ha0, .inr (7, [.ref ha0_0, .ref ha0_1, .ref ha0_2, .int ia0_3, .ref ha0_4, .ref ha0_5, .ref ha0_6, .ref ha0_7, .int ia0_8, .int ia0_9, .int ia0_10, .ref ha0_11]))])) (vp_Si (fun r => 0 ≤ r.toInt ∧ r.toInt ≤ 1)) 0 0 (fun _ => False) := by
  refine Met.ofW (cc := cX7_isCuedByAheadAlone) (maxL := 4) (ret := (some .boolean)) (by decide) rfl ?_
  intro p e s m args below meth c s₁ B hml hv
  obtain ⟨rfl, hP, hZ⟩ := hv
  obtain ⟨hK, hAO, hN⟩ := id hZ
  have hx := B.exec
  have hb := B.bytes
  have hr := B.returns
  have hts := atoms_spec (ws := vsX7_isCuedByAheadAlone) B.pre
  have hown : s.vm.findClass RX7 = some m.cls := findClass_of_methodNamed B.named
  have hlocks := B.notSynchronized
  have hp1l := z_lo p1
  have hp1h := z_hi p1
  have hp2l := z_lo p2
  have hp2h := z_hi p2
  have hl := lv_entry ([.ref ha0, .int p1, .int p2]) (n := 4) (Nat.le_of_ble_eq_true rfl)
  rw [lg_entry_eq]
  generalize (lg_sl ([.ref ha0, .int p1, .int p2]) ++ List.replicate (4 - (lg_sl ([.ref ha0, .int p1, .int p2])).length) Slot.unset).toArray = ls at hl ⊢
  have hl : lv_has ls 4 [(0, .ref ha0), (1, .int p1), (2, .int p2)] := hl
  refine lv_iconst (v := 0) hx hb dX7_isCuedByAheadAlone_0 (by decide) ?_
  refine lv_istore_n (lv' := [(3, .int 0), (0, .ref ha0), (1, .int p1), (2, .int p2)]) hx hb dX7_isCuedByAheadAlone_1 rfl hl (by decide) rfl (fun ls hl => ?_)
  have hL74 : ∀ (n : Nat) (v1 : Int32) (ls : Array Slot), 0 ≤ v1.toInt → v1.toInt ≤ 12 → (12 - v1.toInt).toNat < n → lv_has ls 4 [(3, .int v1), (0, .ref ha0), (1, .int p1), (2, .int p2)] → W p l e (headSpec vsX7_isCuedByAheadAlone ({ frames := 2, cells := 0, slots := 0, locals := 47 })).room s m ([.ref ha0, .int p1, .int p2] : List Value).toArray below meth c s.heap [] 0 0 (MQ below (vp_Si (fun r => 0 ≤ r.toInt ∧ r.toInt ≤ 1)) ([.ref ha0, .int p1, .int p2] : List Value).toArray s 0 0 (fun _ => False)) (F0 m 2 ls []) := by
    intro n
    induction n with
    | zero =>
      intro v1 ls hi75_0 hi75_1 hi75_m hl
      exact absurd hi75_m (Nat.not_lt_zero _)
    | succ n ih =>
      intro v1 ls hi75_0 hi75_1 hi75_m hl
      have ih76 := ih
      refine lv_iload_n hx hb dX7_isCuedByAheadAlone_2 rfl (lv_at hl 0 rfl) ?_
      refine lv_aload_n hx hb dX7_isCuedByAheadAlone_3 rfl (lv_at hl 1 rfl) ?_
      refine va_get (D := (dC, dI)) (ci := 7) (v := .int ia0_9) (C := RX7) (T := TX7) (N := 12) hx hb hts in_X7_isCuedByAheadAlone_X7 hown hK hP 2 rfl rfl 9 (by decide) (hts (.fieldLink RX7 43 "EachOnHisCue$Play" "lines" "I") (by decide +kernel)) (fun _ h9 => h9) rfl dX7_isCuedByAheadAlone_4 ?_
      refine lv_icmp_ge (tgt := 46) hx hb dX7_isCuedByAheadAlone_7 (by decide) (fun hc => ?_) (fun hc => ?_)
      · have q77 : ia0_9.toInt ≤ v1.toInt := z_le rfl rfl hc
        refine lv_iconst (v := 1) hx hb dX7_isCuedByAheadAlone_46 (by decide) ?_
        exact W.zret (v := 1) hx hb hr (rfl) (fun t ht hW => ⟨1, rfl, ⟨by first | omega | decide | exact z_lo _, by first | omega | decide | exact z_hi _⟩, ht⟩) (fun _ h => absurd h List.not_mem_nil) dX7_isCuedByAheadAlone_47
      · have q78 : v1.toInt < ia0_9.toInt := z_nle rfl rfl hc
        refine lv_iload_n hx hb dX7_isCuedByAheadAlone_10 rfl (lv_at hl 0 rfl) ?_
        refine lv_iload_n hx hb dX7_isCuedByAheadAlone_11 rfl (lv_at hl 2 rfl) ?_
        refine lv_iconst (v := 1) hx hb dX7_isCuedByAheadAlone_12 (by decide) ?_
        refine lv_isub hx hb dX7_isCuedByAheadAlone_13 ?_
        refine lv_topi (fun y79 ey79 => ?_)
        refine lv_icmp_eq (tgt := 40) hx hb dX7_isCuedByAheadAlone_14 (by decide) (fun hc => ?_) (fun hc => ?_)
        · have q80 : v1.toInt = y79.toInt := z_eq rfl rfl hc
          obtain ⟨y81, ey81⟩ : ∃ y : Int32, y = v1 + 1 := ⟨_, rfl⟩
          refine lv_iinc (v := y81) (lv' := [(3, .int y81), (0, .ref ha0), (1, .int p1), (2, .int p2)]) hx hb dX7_isCuedByAheadAlone_40 hl (k := 0) rfl (by rw [ey81]; rfl) (by decide) rfl (fun ls hl => ?_)
          have hy81 : y81.toInt = v1.toInt + 1 := by rw [ey81]; exact z_add rfl (by decide) (by omega) (by omega)
          refine lv_goto (tgt := 2) hx hb dX7_isCuedByAheadAlone_43 (by decide) ?_
          exact ih76 y81 ls (by first | omega | decide | exact z_lo _ | exact z_hi _) (by first | omega | decide | exact z_lo _ | exact z_hi _) (by omega) (lv_sub hl [0, 1, 2, 3] rfl)
        · have q82 : v1.toInt ≠ y79.toInt := z_ne rfl rfl hc
          refine lv_aload_n hx hb dX7_isCuedByAheadAlone_17 rfl (lv_at hl 1 rfl) ?_
          refine lv_aload_n hx hb dX7_isCuedByAheadAlone_18 rfl (lv_at hl 1 rfl) ?_
          refine va_get (D := (dC, dI)) (ci := 7) (v := .ref ha0_5) (C := RX7) (T := TX7) (N := 12) hx hb hts in_X7_isCuedByAheadAlone_X7 hown hK hP 2 rfl rfl 5 (by decide) (hts (.fieldLink RX7 31 "EachOnHisCue$Play" "texts" "[I") (by decide +kernel)) (fun _ h9 => h9) rfl dX7_isCuedByAheadAlone_19 ?_
          refine lv_iload_n hx hb dX7_isCuedByAheadAlone_22 rfl (lv_at hl 0 rfl) ?_
          refine va_iald hx hb hK hP 0 0 rfl rfl (z_in (by omega) (by omega)) dX7_isCuedByAheadAlone_23 ?_
          refine lv_topi (fun y83 ey83 => ?_)
          have gy83 : y83.toInt = (fa0_5 (v1 : Int32).toNatClampNeg).toInt := by rw [ey83]
          refine lv_aload_n hx hb dX7_isCuedByAheadAlone_24 rfl (lv_at hl 1 rfl) ?_
          refine va_get (D := (dC, dI)) (ci := 7) (v := .ref ha0_6) (C := RX7) (T := TX7) (N := 12) hx hb hts in_X7_isCuedByAheadAlone_X7 hown hK hP 2 rfl rfl 6 (by decide) (hts (.fieldLink RX7 34 "EachOnHisCue$Play" "sizes" "[I") (by decide +kernel)) (fun _ h9 => h9) rfl dX7_isCuedByAheadAlone_25 ?_
          refine lv_iload_n hx hb dX7_isCuedByAheadAlone_28 rfl (lv_at hl 0 rfl) ?_
          refine va_iald hx hb hK hP 1 0 rfl rfl (z_in (by omega) (by omega)) dX7_isCuedByAheadAlone_29 ?_
          refine lv_topi (fun y84 ey84 => ?_)
          have gy84 : y84.toInt = (fa0_6 (v1 : Int32).toNatClampNeg).toInt := by rw [ey84]
          have hy84 : 0 ≤ y84.toInt ∧ y84.toInt ≤ 4 := by rw [ey84]; exact hBfa0_6 _
          obtain ⟨hy84, hy84_⟩ := hy84
          refine lv_iload_n hx hb dX7_isCuedByAheadAlone_30 rfl (lv_at hl 2 rfl) ?_
          refine lv_iload_n hx hb dX7_isCuedByAheadAlone_31 rfl (lv_at hl 3 rfl) ?_
          refine z_rdi (va_runV (As := [.int y83, .int y84, .int p1, .int p2]) (rest := []) ⟨hx, hb, hml, hown, hts⟩ (rX7_endsAsAhead l dC dI cI cQ ha0 ha0_5 ha0_6 ha0_0 ha0_1 ha0_2 ha0_4 ha0_7 ha0_11 fa0_5 fa0_6 hBfa0_6 ia0_3 (by first | omega | decide | exact z_lo _ | exact z_hi _) (by first | omega | decide | exact z_lo _ | exact z_hi _) ia0_8 ia0_9 (by first | omega | decide | exact z_lo _ | exact z_hi _) (by first | omega | decide | exact z_lo _ | exact z_hi _) ia0_10 y83 y84 p1 p2) (cwV 4 hts gv_X7_isCuedByAheadAlone_X7_endsAsAhead_99 rfl rfl rfl (by decide +kernel) ⟨Nat.le_of_ble_eq_true rfl, Nat.le_of_ble_eq_true rfl⟩) ⟨z_blindR, va_recv hK hP (ci := 7) (q0 := 2) rfl rfl, z_preR hZ hP [0, 1, 2] rfl⟩ rfl rfl hl.1 rfl (lv_room (Nat.le_of_ble_eq_true rfl)) dX7_isCuedByAheadAlone_32 ⟨Nat.le_of_ble_eq_true rfl, Nat.le_of_ble_eq_true rfl⟩) (fun y85 hy85 => ?_)
          obtain ⟨hy85_0, hy85_1⟩ := hy85
          refine lv_if_eq (tgt := 40) hx hb dX7_isCuedByAheadAlone_35 (by decide) (fun hc => ?_) (fun hc => ?_)
          · have q86 : y85.toInt = 0 := z_eq rfl (by decide) hc
            obtain ⟨y87, ey87⟩ : ∃ y : Int32, y = v1 + 1 := ⟨_, rfl⟩
            refine lv_iinc (v := y87) (lv' := [(3, .int y87), (0, .ref ha0), (1, .int p1), (2, .int p2)]) hx hb dX7_isCuedByAheadAlone_40 hl (k := 0) rfl (by rw [ey87]; rfl) (by decide) rfl (fun ls hl => ?_)
            have hy87 : y87.toInt = v1.toInt + 1 := by rw [ey87]; exact z_add rfl (by decide) (by omega) (by omega)
            refine lv_goto (tgt := 2) hx hb dX7_isCuedByAheadAlone_43 (by decide) ?_
            exact ih76 y87 ls (by first | omega | decide | exact z_lo _ | exact z_hi _) (by first | omega | decide | exact z_lo _ | exact z_hi _) (by omega) (lv_sub hl [0, 1, 2, 3] rfl)
          · have q88 : y85.toInt ≠ 0 := z_ne rfl (by decide) hc
            refine lv_iconst (v := 0) hx hb dX7_isCuedByAheadAlone_38 (by decide) ?_
            exact W.zret (v := 0) hx hb hr (rfl) (fun t ht hW => ⟨0, rfl, ⟨by first | omega | decide | exact z_lo _, by first | omega | decide | exact z_hi _⟩, ht⟩) (fun _ h => absurd h List.not_mem_nil) dX7_isCuedByAheadAlone_39
  exact hL74 ((12 - (0 : Int32).toInt).toNat + 1) 0 ls (by first | omega | decide | exact z_lo _ | exact z_hi _) (by first | omega | decide | exact z_lo _ | exact z_hi _) (by omega) hl
theorem dX7_wordsToMend_0 : decode cX7_wordsToMend 0 = .ok (.iload_n 1, 1) := by decide +kernel
theorem dX7_wordsToMend_1 : decode cX7_wordsToMend 1 = .ok (.iconst 1, 1) := by decide +kernel
theorem dX7_wordsToMend_2 : decode cX7_wordsToMend 2 = .ok (.if_icmp .lt 11, 3) := by decide +kernel
theorem dX7_wordsToMend_5 : decode cX7_wordsToMend 5 = .ok (.iload_n 1, 1) := by decide +kernel
theorem dX7_wordsToMend_6 : decode cX7_wordsToMend 6 = .ok (.aload_n 0, 1) := by decide +kernel
theorem dX7_wordsToMend_7 : decode cX7_wordsToMend 7 = .ok (.getfield 43, 3) := by decide +kernel
theorem dX7_wordsToMend_10 : decode cX7_wordsToMend 10 = .ok (.if_icmp .lt 5, 3) := by decide +kernel
theorem dX7_wordsToMend_13 : decode cX7_wordsToMend 13 = .ok (.iconst 0, 1) := by decide +kernel
theorem dX7_wordsToMend_14 : decode cX7_wordsToMend 14 = .ok (.ireturn, 1) := by decide +kernel
theorem dX7_wordsToMend_15 : decode cX7_wordsToMend 15 = .ok (.aload_n 0, 1) := by decide +kernel
theorem dX7_wordsToMend_16 : decode cX7_wordsToMend 16 = .ok (.getfield 37, 3) := by decide +kernel
theorem dX7_wordsToMend_19 : decode cX7_wordsToMend 19 = .ok (.iload_n 1, 1) := by decide +kernel
theorem dX7_wordsToMend_20 : decode cX7_wordsToMend 20 = .ok (.iaload, 1) := by decide +kernel
theorem dX7_wordsToMend_21 : decode cX7_wordsToMend 21 = .ok (.aload_n 0, 1) := by decide +kernel
theorem dX7_wordsToMend_22 : decode cX7_wordsToMend 22 = .ok (.getfield 34, 3) := by decide +kernel
theorem dX7_wordsToMend_25 : decode cX7_wordsToMend 25 = .ok (.iload_n 1, 1) := by decide +kernel
theorem dX7_wordsToMend_26 : decode cX7_wordsToMend 26 = .ok (.iconst 1, 1) := by decide +kernel
theorem dX7_wordsToMend_27 : decode cX7_wordsToMend 27 = .ok (.isub, 1) := by decide +kernel
theorem dX7_wordsToMend_28 : decode cX7_wordsToMend 28 = .ok (.iaload, 1) := by decide +kernel
theorem dX7_wordsToMend_29 : decode cX7_wordsToMend 29 = .ok (.invokestatic 103, 3) := by decide +kernel
theorem dX7_wordsToMend_32 : decode cX7_wordsToMend 32 = .ok (.istore_n 2, 1) := by decide +kernel
theorem dX7_wordsToMend_33 : decode cX7_wordsToMend 33 = .ok (.aload_n 0, 1) := by decide +kernel
theorem dX7_wordsToMend_34 : decode cX7_wordsToMend 34 = .ok (.getfield 37, 3) := by decide +kernel
theorem dX7_wordsToMend_37 : decode cX7_wordsToMend 37 = .ok (.iload_n 1, 1) := by decide +kernel
theorem dX7_wordsToMend_38 : decode cX7_wordsToMend 38 = .ok (.iaload, 1) := by decide +kernel
theorem dX7_wordsToMend_39 : decode cX7_wordsToMend 39 = .ok (.istore_n 3, 1) := by decide +kernel
theorem dX7_wordsToMend_40 : decode cX7_wordsToMend 40 = .ok (.iload_n 3, 1) := by decide +kernel
theorem dX7_wordsToMend_41 : decode cX7_wordsToMend 41 = .ok (.iload_n 2, 1) := by decide +kernel
theorem dX7_wordsToMend_42 : decode cX7_wordsToMend 42 = .ok (.if_icmp .gt 27, 3) := by decide +kernel
theorem dX7_wordsToMend_45 : decode cX7_wordsToMend 45 = .ok (.aload_n 0, 1) := by decide +kernel
theorem dX7_wordsToMend_46 : decode cX7_wordsToMend 46 = .ok (.iload_n 1, 1) := by decide +kernel
theorem dX7_wordsToMend_47 : decode cX7_wordsToMend 47 = .ok (.iload_n 3, 1) := by decide +kernel
theorem dX7_wordsToMend_48 : decode cX7_wordsToMend 48 = .ok (.invokevirtual 106, 3) := by decide +kernel
theorem dX7_wordsToMend_51 : decode cX7_wordsToMend 51 = .ok (.ifCond .eq 12, 3) := by decide +kernel
theorem dX7_wordsToMend_54 : decode cX7_wordsToMend 54 = .ok (.iload_n 3, 1) := by decide +kernel
theorem dX7_wordsToMend_55 : decode cX7_wordsToMend 55 = .ok (.aload_n 0, 1) := by decide +kernel
theorem dX7_wordsToMend_56 : decode cX7_wordsToMend 56 = .ok (.getfield 37, 3) := by decide +kernel
theorem dX7_wordsToMend_59 : decode cX7_wordsToMend 59 = .ok (.iload_n 1, 1) := by decide +kernel
theorem dX7_wordsToMend_60 : decode cX7_wordsToMend 60 = .ok (.iaload, 1) := by decide +kernel
theorem dX7_wordsToMend_61 : decode cX7_wordsToMend 61 = .ok (.isub, 1) := by decide +kernel
theorem dX7_wordsToMend_62 : decode cX7_wordsToMend 62 = .ok (.ireturn, 1) := by decide +kernel
theorem dX7_wordsToMend_63 : decode cX7_wordsToMend 63 = .ok (.iinc 3 1, 3) := by decide +kernel
theorem dX7_wordsToMend_66 : decode cX7_wordsToMend 66 = .ok (.goto (-26), 3) := by decide +kernel
theorem dX7_wordsToMend_69 : decode cX7_wordsToMend 69 = .ok (.bipush (-9), 2) := by decide +kernel
theorem dX7_wordsToMend_71 : decode cX7_wordsToMend 71 = .ok (.ireturn, 1) := by decide +kernel
noncomputable def vsX7_wordsToMend : List Cond := .code yX7_wordsToMend cX7_wordsToMend 4 (some .int) :: (([.fieldLink RX7 43 "EachOnHisCue$Play" "lines" "I", .fieldLink RX7 37 "EachOnHisCue$Play" "cues" "[I", .fieldLink RX7 34 "EachOnHisCue$Play" "sizes" "[I", .methodLink RX7 103 Lib.Math.max.name, .static Lib.Math.max.name, .initialized "java/lang/Math", .code Lib.Math.max.name Lib.Math.max.code 2 (some .int), .methodLink RX7 106 yX7_isCuedByAheadAlone, .instanceMethod yX7_isCuedByAheadAlone, .selects RX7 yX7_isCuedByAheadAlone yX7_isCuedByAheadAlone, .initialized RX7, .code yX7_isCuedByAheadAlone cX7_isCuedByAheadAlone 4 (some .boolean), .fieldLink RX7 31 "EachOnHisCue$Play" "texts" "[I", .methodLink RX7 99 yX7_endsAsAhead, .instanceMethod yX7_endsAsAhead, .selects RX7 yX7_endsAsAhead yX7_endsAsAhead, .code yX7_endsAsAhead cX7_endsAsAhead 7 (some .boolean), .methodLink RX7 91 Lib.Math.min.name, .static Lib.Math.min.name, .code Lib.Math.min.name Lib.Math.min.code 2 (some .int)] : List Cond) ++ wsX70)
theorem in_X7_wordsToMend_X7 : ∀ w ∈ wsX70, w ∈ vsX7_wordsToMend := fun _ h => List.mem_cons_of_mem _ (List.mem_append_right _ h)
set_option maxRecDepth 20000 in
theorem gw_X7_wordsToMend_X7_isCuedByAheadAlone : GoodIn vsX7_wordsToMend vsX7_isCuedByAheadAlone := goodIn_r _ [12, 1, 13, 3, 14, 15, 16, 11, 17, 18, 19, 6, 20, 21, 22, 23, 24, 25, 26, 27, 28, 29, 30, 31, 32] (by decide +kernel) (by decide +kernel)
set_option maxRecDepth 20000 in
theorem gv_X7_wordsToMend_X7_isCuedByAheadAlone_106 : GoodIn vsX7_wordsToMend (wsV RX7 106 RX7 yX7_isCuedByAheadAlone vsX7_isCuedByAheadAlone) := goodIn_app (goodIn_of _ (by decide +kernel)) gw_X7_wordsToMend_X7_isCuedByAheadAlone
set_option maxHeartbeats 4000000 in
set_option maxRecDepth 100000 in
theorem rX7_wordsToMend (l : Launch) (dC : Nat → ClassId) (dI : Nat → Nat → Nat) (cI cQ : ClassId) (ha0 ha0_5 ha0_6 ha0_7 ha0_0 ha0_1 ha0_2 ha0_4 ha0_11 : Nat) (fa0_5 : Nat → Int32) (fa0_6 : Nat → Int32) (hBfa0_6 : ∀ k, 0 ≤ (fa0_6 k).toInt ∧ (fa0_6 k).toInt ≤ 4) (fa0_7 : Nat → Int32) (hBfa0_7 : ∀ k, (-48) ≤ (fa0_7 k).toInt ∧ (fa0_7 k).toInt ≤ 207) (ia0_3 : Int32) (hia0_3l : 0 ≤ ia0_3.toInt) (hia0_3h : ia0_3.toInt ≤ 5) (ia0_8 : Int32) (ia0_9 : Int32) (hia0_9l : 0 ≤ ia0_9.toInt) (hia0_9h : ia0_9.toInt ≤ 12) (ia0_10 : Int32) (p1 : Int32) : Met l yX7_wordsToMend vsX7_wordsToMend ({ frames := 3, cells := 0, slots := 0, locals := 70 }) (va_Pc [.ref ha0, .int p1] (zRB dC dI cI cQ [(ha0_5, .inl (cI, 12, .inl fa0_5)), (ha0_6, .inl (cI, 12, .inl fa0_6)), (ha0_7, .inl (cI, 12, .inl fa0_7)), (ha0, .inr (7, [.ref ha0_0, .ref ha0_1, .ref ha0_2, .int ia0_3, .ref ha0_4, .ref ha0_5, .ref ha0_6, .ref ha0_7, .int ia0_8, .int ia0_9, .int ia0_10, .ref ha0_11]))])) (vp_Si (fun r => (-255) ≤ r.toInt ∧ r.toInt ≤ 255)) 0 0 (fun _ => False) := by
  refine Met.ofW (cc := cX7_wordsToMend) (maxL := 4) (ret := (some .int)) (by decide) rfl ?_
  intro p e s m args below meth c s₁ B hml hv
  obtain ⟨rfl, hP, hZ⟩ := hv
  obtain ⟨hK, hAO, hN⟩ := id hZ
  have hx := B.exec
  have hb := B.bytes
  have hr := B.returns
  have hts := atoms_spec (ws := vsX7_wordsToMend) B.pre
  have hown : s.vm.findClass RX7 = some m.cls := findClass_of_methodNamed B.named
  have hlocks := B.notSynchronized
  have hp1l := z_lo p1
  have hp1h := z_hi p1
  have hl := lv_entry ([.ref ha0, .int p1]) (n := 4) (Nat.le_of_ble_eq_true rfl)
  rw [lg_entry_eq]
  generalize (lg_sl ([.ref ha0, .int p1]) ++ List.replicate (4 - (lg_sl ([.ref ha0, .int p1])).length) Slot.unset).toArray = ls at hl ⊢
  have hl : lv_has ls 4 [(0, .ref ha0), (1, .int p1)] := hl
  refine lv_iload_n hx hb dX7_wordsToMend_0 rfl (lv_at hl 1 rfl) ?_
  refine lv_iconst (v := 1) hx hb dX7_wordsToMend_1 (by decide) ?_
  refine lv_icmp_lt (tgt := 13) hx hb dX7_wordsToMend_2 (by decide) (fun hc => ?_) (fun hc => ?_)
  · have q1 : p1.toInt < 1 := z_lt rfl (by decide) hc
    refine lv_iconst (v := 0) hx hb dX7_wordsToMend_13 (by decide) ?_
    exact W.iret (v := 0) hx hb hr (fun t ht hW => ⟨0, rfl, ⟨by first | omega | decide | exact z_lo _, by first | omega | decide | exact z_hi _⟩, ht⟩) (fun _ h => absurd h List.not_mem_nil) dX7_wordsToMend_14
  · have q2 : 1 ≤ p1.toInt := z_nlt rfl (by decide) hc
    refine lv_iload_n hx hb dX7_wordsToMend_5 rfl (lv_at hl 1 rfl) ?_
    refine lv_aload_n hx hb dX7_wordsToMend_6 rfl (lv_at hl 0 rfl) ?_
    refine va_get (D := (dC, dI)) (ci := 7) (v := .int ia0_9) (C := RX7) (T := TX7) (N := 12) hx hb hts in_X7_wordsToMend_X7 hown hK hP 3 rfl rfl 9 (by decide) (hts (.fieldLink RX7 43 "EachOnHisCue$Play" "lines" "I") (by decide +kernel)) (fun _ h9 => h9) rfl dX7_wordsToMend_7 ?_
    refine lv_icmp_lt (tgt := 15) hx hb dX7_wordsToMend_10 (by decide) (fun hc => ?_) (fun hc => ?_)
    · have q3 : p1.toInt < ia0_9.toInt := z_lt rfl rfl hc
      refine lv_aload_n hx hb dX7_wordsToMend_15 rfl (lv_at hl 0 rfl) ?_
      refine va_get (D := (dC, dI)) (ci := 7) (v := .ref ha0_7) (C := RX7) (T := TX7) (N := 12) hx hb hts in_X7_wordsToMend_X7 hown hK hP 3 rfl rfl 7 (by decide) (hts (.fieldLink RX7 37 "EachOnHisCue$Play" "cues" "[I") (by decide +kernel)) (fun _ h9 => h9) rfl dX7_wordsToMend_16 ?_
      refine lv_iload_n hx hb dX7_wordsToMend_19 rfl (lv_at hl 1 rfl) ?_
      refine va_iald hx hb hK hP 2 0 rfl rfl (z_in (by omega) (by omega)) dX7_wordsToMend_20 ?_
      refine lv_topi (fun y4 ey4 => ?_)
      have gy4 : y4.toInt = (fa0_7 (p1 : Int32).toNatClampNeg).toInt := by rw [ey4]
      have hy4 : (-48) ≤ y4.toInt ∧ y4.toInt ≤ 207 := by rw [ey4]; exact hBfa0_7 _
      obtain ⟨hy4, hy4_⟩ := hy4
      refine lv_aload_n hx hb dX7_wordsToMend_21 rfl (lv_at hl 0 rfl) ?_
      refine va_get (D := (dC, dI)) (ci := 7) (v := .ref ha0_6) (C := RX7) (T := TX7) (N := 12) hx hb hts in_X7_wordsToMend_X7 hown hK hP 3 rfl rfl 6 (by decide) (hts (.fieldLink RX7 34 "EachOnHisCue$Play" "sizes" "[I") (by decide +kernel)) (fun _ h9 => h9) rfl dX7_wordsToMend_22 ?_
      refine lv_iload_n hx hb dX7_wordsToMend_25 rfl (lv_at hl 1 rfl) ?_
      refine lv_iconst (v := 1) hx hb dX7_wordsToMend_26 (by decide) ?_
      refine lv_isub hx hb dX7_wordsToMend_27 ?_
      refine lv_topi (fun y5 ey5 => ?_)
      have hy5 : y5.toInt = p1.toInt - 1 := by rw [ey5]; exact z_sub rfl (by decide) (by omega) (by omega)
      refine va_iald hx hb hK hP 1 0 rfl rfl (z_in (by omega) (by omega)) dX7_wordsToMend_28 ?_
      refine lv_topi (fun y6 ey6 => ?_)
      have gy6 : y6.toInt = (fa0_6 (y5 : Int32).toNatClampNeg).toInt := by rw [ey6]
      have hy6 : 0 ≤ y6.toInt ∧ y6.toInt ≤ 4 := by rw [ey6]; exact hBfa0_6 _
      obtain ⟨hy6, hy6_⟩ := hy6
      refine va_mmax hx hb (hml.trans hl.1.symm) hown (hts (.methodLink RX7 103 Lib.Math.max.name) (by decide +kernel)) (hts (.static Lib.Math.max.name) (by decide +kernel)) (hts (.initialized "java/lang/Math") (by decide +kernel)) (hts (.code Lib.Math.max.name Lib.Math.max.code 2 (some .int)) (by decide +kernel)) (Nat.le_of_ble_eq_true rfl) (Nat.le_of_ble_eq_true rfl) (Nat.le_of_ble_eq_true rfl) (Nat.le_of_ble_eq_true rfl) dX7_wordsToMend_29 ?_
      refine lv_topi (fun y7 ey7 => ?_)
      obtain ⟨hy7_0, hy7_1, hy7_2⟩ : y7.toInt ≥ y4.toInt ∧ y7.toInt ≥ y6.toInt ∧ (y7.toInt = y4.toInt ∨ y7.toInt = y6.toInt) := by rw [ey7]; exact z_max rfl rfl
      refine lv_istore_n (lv' := [(2, .int y7), (0, .ref ha0), (1, .int p1)]) hx hb dX7_wordsToMend_32 rfl hl (by decide) rfl (fun ls hl => ?_)
      refine lv_aload_n hx hb dX7_wordsToMend_33 rfl (lv_at hl 1 rfl) ?_
      refine va_get (D := (dC, dI)) (ci := 7) (v := .ref ha0_7) (C := RX7) (T := TX7) (N := 12) hx hb hts in_X7_wordsToMend_X7 hown hK hP 3 rfl rfl 7 (by decide) (hts (.fieldLink RX7 37 "EachOnHisCue$Play" "cues" "[I") (by decide +kernel)) (fun _ h9 => h9) rfl dX7_wordsToMend_34 ?_
      refine lv_iload_n hx hb dX7_wordsToMend_37 rfl (lv_at hl 2 rfl) ?_
      refine va_iald hx hb hK hP 2 0 rfl rfl (z_in (by omega) (by omega)) dX7_wordsToMend_38 ?_
      refine lv_topi (fun y8 ey8 => ?_)
      obtain rfl : y4 = y8 := ey4.trans ey8.symm
      refine lv_istore_n (lv' := [(3, .int y4), (2, .int y7), (0, .ref ha0), (1, .int p1)]) hx hb dX7_wordsToMend_39 rfl hl (by decide) rfl (fun ls hl => ?_)
      have hL34 : ∀ (n : Nat) (v9 : Int32) (ls : Array Slot), (-48) ≤ v9.toInt → v9.toInt ≤ 208 → (208 - v9.toInt).toNat < n → lv_has ls 4 [(3, .int v9), (2, .int y7), (0, .ref ha0), (1, .int p1)] → W p l e (headSpec vsX7_wordsToMend ({ frames := 3, cells := 0, slots := 0, locals := 70 })).room s m ([.ref ha0, .int p1] : List Value).toArray below meth c s.heap [] 0 0 (MQ below (vp_Si (fun r => (-255) ≤ r.toInt ∧ r.toInt ≤ 255)) ([.ref ha0, .int p1] : List Value).toArray s 0 0 (fun _ => False)) (F0 m 40 ls []) := by
        intro n
        induction n with
        | zero =>
          intro v9 ls hi35_0 hi35_1 hi35_m hl
          exact absurd hi35_m (Nat.not_lt_zero _)
        | succ n ih =>
          intro v9 ls hi35_0 hi35_1 hi35_m hl
          have ih36 := ih
          refine lv_iload_n hx hb dX7_wordsToMend_40 rfl (lv_at hl 0 rfl) ?_
          refine lv_iload_n hx hb dX7_wordsToMend_41 rfl (lv_at hl 1 rfl) ?_
          refine lv_icmp_gt (tgt := 69) hx hb dX7_wordsToMend_42 (by decide) (fun hc => ?_) (fun hc => ?_)
          · have q37 : y7.toInt < v9.toInt := z_lt rfl rfl hc
            refine lv_bipush (v := (-9)) hx hb dX7_wordsToMend_69 (by decide) ?_
            exact W.iret (v := (-9)) hx hb hr (fun t ht hW => ⟨(-9), rfl, ⟨by first | omega | decide | exact z_lo _, by first | omega | decide | exact z_hi _⟩, ht⟩) (fun _ h => absurd h List.not_mem_nil) dX7_wordsToMend_71
          · have q38 : v9.toInt ≤ y7.toInt := z_nlt rfl rfl hc
            refine lv_aload_n hx hb dX7_wordsToMend_45 rfl (lv_at hl 2 rfl) ?_
            refine lv_iload_n hx hb dX7_wordsToMend_46 rfl (lv_at hl 3 rfl) ?_
            refine lv_iload_n hx hb dX7_wordsToMend_47 rfl (lv_at hl 0 rfl) ?_
            refine z_rdi (va_runV (As := [.int p1, .int v9]) (rest := []) ⟨hx, hb, hml, hown, hts⟩ (rX7_isCuedByAheadAlone l dC dI cI cQ ha0 ha0_5 ha0_6 ha0_0 ha0_1 ha0_2 ha0_4 ha0_7 ha0_11 fa0_5 fa0_6 hBfa0_6 ia0_3 (by first | omega | decide | exact z_lo _ | exact z_hi _) (by first | omega | decide | exact z_lo _ | exact z_hi _) ia0_8 ia0_9 (by first | omega | decide | exact z_lo _ | exact z_hi _) (by first | omega | decide | exact z_lo _ | exact z_hi _) ia0_10 p1 v9) (cwV 2 hts gv_X7_wordsToMend_X7_isCuedByAheadAlone_106 rfl rfl rfl (by decide +kernel) ⟨Nat.le_of_ble_eq_true rfl, Nat.le_of_ble_eq_true rfl⟩) ⟨z_blindR, va_recv hK hP (ci := 7) (q0 := 3) rfl rfl, z_preR hZ hP [0, 1, 3] rfl⟩ rfl rfl hl.1 rfl (lv_room (Nat.le_of_ble_eq_true rfl)) dX7_wordsToMend_48 ⟨Nat.le_of_ble_eq_true rfl, Nat.le_of_ble_eq_true rfl⟩) (fun y39 hy39 => ?_)
            obtain ⟨hy39_0, hy39_1⟩ := hy39
            refine lv_if_eq (tgt := 63) hx hb dX7_wordsToMend_51 (by decide) (fun hc => ?_) (fun hc => ?_)
            · have q40 : y39.toInt = 0 := z_eq rfl (by decide) hc
              obtain ⟨y41, ey41⟩ : ∃ y : Int32, y = v9 + 1 := ⟨_, rfl⟩
              refine lv_iinc (v := y41) (lv' := [(3, .int y41), (2, .int y7), (0, .ref ha0), (1, .int p1)]) hx hb dX7_wordsToMend_63 hl (k := 0) rfl (by rw [ey41]; rfl) (by decide) rfl (fun ls hl => ?_)
              have hy41 : y41.toInt = v9.toInt + 1 := by rw [ey41]; exact z_add rfl (by decide) (by omega) (by omega)
              refine lv_goto (tgt := 40) hx hb dX7_wordsToMend_66 (by decide) ?_
              exact ih36 y41 ls (by first | omega | decide | exact z_lo _ | exact z_hi _) (by first | omega | decide | exact z_lo _ | exact z_hi _) (by omega) (lv_sub hl [0, 1, 2, 3] rfl)
            · have q42 : y39.toInt ≠ 0 := z_ne rfl (by decide) hc
              refine lv_iload_n hx hb dX7_wordsToMend_54 rfl (lv_at hl 0 rfl) ?_
              refine lv_aload_n hx hb dX7_wordsToMend_55 rfl (lv_at hl 2 rfl) ?_
              refine va_get (D := (dC, dI)) (ci := 7) (v := .ref ha0_7) (C := RX7) (T := TX7) (N := 12) hx hb hts in_X7_wordsToMend_X7 hown hK hP 3 rfl rfl 7 (by decide) (hts (.fieldLink RX7 37 "EachOnHisCue$Play" "cues" "[I") (by decide +kernel)) (fun _ h9 => h9) rfl dX7_wordsToMend_56 ?_
              refine lv_iload_n hx hb dX7_wordsToMend_59 rfl (lv_at hl 3 rfl) ?_
              refine va_iald hx hb hK hP 2 0 rfl rfl (z_in (by omega) (by omega)) dX7_wordsToMend_60 ?_
              refine lv_topi (fun y43 ey43 => ?_)
              obtain rfl : y4 = y43 := ey4.trans ey43.symm
              refine lv_isub hx hb dX7_wordsToMend_61 ?_
              refine lv_topi (fun y44 ey44 => ?_)
              have hy44 : y44.toInt = v9.toInt - y4.toInt := by rw [ey44]; exact z_sub rfl rfl (by omega) (by omega)
              exact W.iret (v := y44) hx hb hr (fun t ht hW => ⟨y44, rfl, ⟨by first | omega | decide | exact z_lo _, by first | omega | decide | exact z_hi _⟩, ht⟩) (fun _ h => absurd h List.not_mem_nil) dX7_wordsToMend_62
      exact hL34 ((208 - y4.toInt).toNat + 1) y4 ls (by first | omega | decide | exact z_lo _ | exact z_hi _) (by first | omega | decide | exact z_lo _ | exact z_hi _) (by omega) hl
    · have q45 : ia0_9.toInt ≤ p1.toInt := z_nlt rfl rfl hc
      refine lv_iconst (v := 0) hx hb dX7_wordsToMend_13 (by decide) ?_
      exact W.iret (v := 0) hx hb hr (fun t ht hW => ⟨0, rfl, ⟨by first | omega | decide | exact z_lo _, by first | omega | decide | exact z_hi _⟩, ht⟩) (fun _ h => absurd h List.not_mem_nil) dX7_wordsToMend_14
theorem dX7_onStage_0 : decode cX7_onStage 0 = .ok (.iconst 0, 1) := by decide +kernel
theorem dX7_onStage_1 : decode cX7_onStage 1 = .ok (.istore_n 2, 1) := by decide +kernel
theorem dX7_onStage_2 : decode cX7_onStage 2 = .ok (.iconst 0, 1) := by decide +kernel
theorem dX7_onStage_3 : decode cX7_onStage 3 = .ok (.istore_n 3, 1) := by decide +kernel
theorem dX7_onStage_4 : decode cX7_onStage 4 = .ok (.iload_n 3, 1) := by decide +kernel
theorem dX7_onStage_5 : decode cX7_onStage 5 = .ok (.aload_n 0, 1) := by decide +kernel
theorem dX7_onStage_6 : decode cX7_onStage 6 = .ok (.getfield 24, 3) := by decide +kernel
theorem dX7_onStage_9 : decode cX7_onStage 9 = .ok (.if_icmp .ge 47, 3) := by decide +kernel
theorem dX7_onStage_12 : decode cX7_onStage 12 = .ok (.aload_n 0, 1) := by decide +kernel
theorem dX7_onStage_13 : decode cX7_onStage 13 = .ok (.getfield 21, 3) := by decide +kernel
theorem dX7_onStage_16 : decode cX7_onStage 16 = .ok (.iload_n 3, 1) := by decide +kernel
theorem dX7_onStage_17 : decode cX7_onStage 17 = .ok (.iaload, 1) := by decide +kernel
theorem dX7_onStage_18 : decode cX7_onStage 18 = .ok (.ifCond .eq 32, 3) := by decide +kernel
theorem dX7_onStage_21 : decode cX7_onStage 21 = .ok (.aload_n 0, 1) := by decide +kernel
theorem dX7_onStage_22 : decode cX7_onStage 22 = .ok (.getfield 21, 3) := by decide +kernel
theorem dX7_onStage_25 : decode cX7_onStage 25 = .ok (.iload_n 3, 1) := by decide +kernel
theorem dX7_onStage_26 : decode cX7_onStage 26 = .ok (.iaload, 1) := by decide +kernel
theorem dX7_onStage_27 : decode cX7_onStage 27 = .ok (.invokestatic 110, 3) := by decide +kernel
theorem dX7_onStage_30 : decode cX7_onStage 30 = .ok (.iload_n 1, 1) := by decide +kernel
theorem dX7_onStage_31 : decode cX7_onStage 31 = .ok (.if_icmp .gt 19, 3) := by decide +kernel
theorem dX7_onStage_34 : decode cX7_onStage 34 = .ok (.aload_n 0, 1) := by decide +kernel
theorem dX7_onStage_35 : decode cX7_onStage 35 = .ok (.getfield 21, 3) := by decide +kernel
theorem dX7_onStage_38 : decode cX7_onStage 38 = .ok (.iload_n 3, 1) := by decide +kernel
theorem dX7_onStage_39 : decode cX7_onStage 39 = .ok (.iaload, 1) := by decide +kernel
theorem dX7_onStage_40 : decode cX7_onStage 40 = .ok (.invokestatic 113, 3) := by decide +kernel
theorem dX7_onStage_43 : decode cX7_onStage 43 = .ok (.iload_n 1, 1) := by decide +kernel
theorem dX7_onStage_44 : decode cX7_onStage 44 = .ok (.if_icmp .lt 6, 3) := by decide +kernel
theorem dX7_onStage_47 : decode cX7_onStage 47 = .ok (.iinc 2 1, 3) := by decide +kernel
theorem dX7_onStage_50 : decode cX7_onStage 50 = .ok (.iinc 3 1, 3) := by decide +kernel
theorem dX7_onStage_53 : decode cX7_onStage 53 = .ok (.goto (-49), 3) := by decide +kernel
theorem dX7_onStage_56 : decode cX7_onStage 56 = .ok (.iload_n 2, 1) := by decide +kernel
theorem dX7_onStage_57 : decode cX7_onStage 57 = .ok (.ireturn, 1) := by decide +kernel
noncomputable def vsX7_onStage : List Cond := .code yX7_onStage cX7_onStage 4 (some .int) :: (([.fieldLink RX7 24 "EachOnHisCue$Play" "players" "I", .fieldLink RX7 21 "EachOnHisCue$Play" "own" "[I", .initialized RX11, .static yX11_leastOf, .static yX11_greatestOf, .code yX11_leastOf cX11_leastOf 2 (some .int), .code yX11_greatestOf cX11_greatestOf 2 (some .int)] : List Cond) ++ wsX70)
theorem in_X7_onStage_X7 : ∀ w ∈ wsX70, w ∈ vsX7_onStage := fun _ h => List.mem_cons_of_mem _ (List.mem_append_right _ h)
set_option maxRecDepth 20000 in
theorem gw_X7_onStage_X11_leastOf : GoodIn vsX7_onStage vsX11_leastOf := goodIn_r _ [6] (by decide +kernel) (by decide +kernel)
set_option maxRecDepth 20000 in
theorem gv_X7_onStage_X11_leastOf_110 : GoodIn vsX7_onStage (vsX11_leastOf) := gw_X7_onStage_X11_leastOf
set_option maxRecDepth 20000 in
theorem gw_X7_onStage_X11_greatestOf : GoodIn vsX7_onStage vsX11_greatestOf := goodIn_r _ [7] (by decide +kernel) (by decide +kernel)
set_option maxRecDepth 20000 in
theorem gv_X7_onStage_X11_greatestOf_113 : GoodIn vsX7_onStage (vsX11_greatestOf) := gw_X7_onStage_X11_greatestOf
set_option maxHeartbeats 4000000 in
set_option maxRecDepth 100000 in
theorem rX7_onStage (l : Launch) (dC : Nat → ClassId) (dI : Nat → Nat → Nat) (cI cQ : ClassId) (ha0 ha0_2 ha0_0 ha0_1 ha0_4 ha0_5 ha0_6 ha0_7 ha0_11 : Nat) (fa0_2 : Nat → Int32) (ia0_3 : Int32) (hia0_3l : 0 ≤ ia0_3.toInt) (hia0_3h : ia0_3.toInt ≤ 5) (ia0_8 : Int32) (ia0_9 : Int32) (hia0_9l : 0 ≤ ia0_9.toInt) (hia0_9h : ia0_9.toInt ≤ 12) (ia0_10 : Int32) (p1 : Int32) : Met l yX7_onStage vsX7_onStage ({ frames := 1, cells := 0, slots := 0, locals := 21 }) (va_Pc [.ref ha0, .int p1] (zRB dC dI cI cQ [(ha0_2, .inl (cI, 5, .inl fa0_2)), (ha0, .inr (7, [.ref ha0_0, .ref ha0_1, .ref ha0_2, .int ia0_3, .ref ha0_4, .ref ha0_5, .ref ha0_6, .ref ha0_7, .int ia0_8, .int ia0_9, .int ia0_10, .ref ha0_11]))])) (vp_Si (fun r => (-2147483648) ≤ r.toInt ∧ r.toInt ≤ 2147483647)) 0 0 (fun _ => False) := by
  refine Met.ofW (cc := cX7_onStage) (maxL := 4) (ret := (some .int)) (by decide) rfl ?_
  intro p e s m args below meth c s₁ B hml hv
  obtain ⟨rfl, hP, hZ⟩ := hv
  obtain ⟨hK, hAO, hN⟩ := id hZ
  have hx := B.exec
  have hb := B.bytes
  have hr := B.returns
  have hts := atoms_spec (ws := vsX7_onStage) B.pre
  have hown : s.vm.findClass RX7 = some m.cls := findClass_of_methodNamed B.named
  have hlocks := B.notSynchronized
  have hp1l := z_lo p1
  have hp1h := z_hi p1
  have hl := lv_entry ([.ref ha0, .int p1]) (n := 4) (Nat.le_of_ble_eq_true rfl)
  rw [lg_entry_eq]
  generalize (lg_sl ([.ref ha0, .int p1]) ++ List.replicate (4 - (lg_sl ([.ref ha0, .int p1])).length) Slot.unset).toArray = ls at hl ⊢
  have hl : lv_has ls 4 [(0, .ref ha0), (1, .int p1)] := hl
  refine lv_iconst (v := 0) hx hb dX7_onStage_0 (by decide) ?_
  refine lv_istore_n (lv' := [(2, .int 0), (0, .ref ha0), (1, .int p1)]) hx hb dX7_onStage_1 rfl hl (by decide) rfl (fun ls hl => ?_)
  refine lv_iconst (v := 0) hx hb dX7_onStage_2 (by decide) ?_
  refine lv_istore_n (lv' := [(3, .int 0), (2, .int 0), (0, .ref ha0), (1, .int p1)]) hx hb dX7_onStage_3 rfl hl (by decide) rfl (fun ls hl => ?_)
  have hL129 : ∀ (n : Nat) (v1 : Int32) (v2 : Int32) (ls : Array Slot), 0 ≤ v1.toInt → v1.toInt ≤ 5 → (5 - v1.toInt).toNat < n → lv_has ls 4 [(3, .int v1), (2, .int v2), (0, .ref ha0), (1, .int p1)] → W p l e (headSpec vsX7_onStage ({ frames := 1, cells := 0, slots := 0, locals := 21 })).room s m ([.ref ha0, .int p1] : List Value).toArray below meth c s.heap [] 0 0 (MQ below (vp_Si (fun r => (-2147483648) ≤ r.toInt ∧ r.toInt ≤ 2147483647)) ([.ref ha0, .int p1] : List Value).toArray s 0 0 (fun _ => False)) (F0 m 4 ls []) := by
    intro n
    induction n with
    | zero =>
      intro v1 v2 ls hi130_0 hi130_1 hi130_m hl
      exact absurd hi130_m (Nat.not_lt_zero _)
    | succ n ih =>
      intro v1 v2 ls hi130_0 hi130_1 hi130_m hl
      have ih131 := ih
      refine lv_iload_n hx hb dX7_onStage_4 rfl (lv_at hl 0 rfl) ?_
      refine lv_aload_n hx hb dX7_onStage_5 rfl (lv_at hl 2 rfl) ?_
      refine va_get (D := (dC, dI)) (ci := 7) (v := .int ia0_3) (C := RX7) (T := TX7) (N := 12) hx hb hts in_X7_onStage_X7 hown hK hP 1 rfl rfl 3 (by decide) (hts (.fieldLink RX7 24 "EachOnHisCue$Play" "players" "I") (by decide +kernel)) (fun _ h9 => h9) rfl dX7_onStage_6 ?_
      refine lv_icmp_ge (tgt := 56) hx hb dX7_onStage_9 (by decide) (fun hc => ?_) (fun hc => ?_)
      · have q132 : ia0_3.toInt ≤ v1.toInt := z_le rfl rfl hc
        refine lv_iload_n hx hb dX7_onStage_56 rfl (lv_at hl 1 rfl) ?_
        exact W.iret (v := v2) hx hb hr (fun t ht hW => ⟨v2, rfl, ⟨by first | omega | decide | exact z_lo _, by first | omega | decide | exact z_hi _⟩, ht⟩) (fun _ h => absurd h List.not_mem_nil) dX7_onStage_57
      · have q133 : v1.toInt < ia0_3.toInt := z_nle rfl rfl hc
        refine lv_aload_n hx hb dX7_onStage_12 rfl (lv_at hl 2 rfl) ?_
        refine va_get (D := (dC, dI)) (ci := 7) (v := .ref ha0_2) (C := RX7) (T := TX7) (N := 12) hx hb hts in_X7_onStage_X7 hown hK hP 1 rfl rfl 2 (by decide) (hts (.fieldLink RX7 21 "EachOnHisCue$Play" "own" "[I") (by decide +kernel)) (fun _ h9 => h9) rfl dX7_onStage_13 ?_
        refine lv_iload_n hx hb dX7_onStage_16 rfl (lv_at hl 0 rfl) ?_
        refine va_iald hx hb hK hP 0 0 rfl rfl (z_in (by omega) (by omega)) dX7_onStage_17 ?_
        refine lv_topi (fun y134 ey134 => ?_)
        have gy134 : y134.toInt = (fa0_2 (v1 : Int32).toNatClampNeg).toInt := by rw [ey134]
        refine lv_if_eq (tgt := 50) hx hb dX7_onStage_18 (by decide) (fun hc => ?_) (fun hc => ?_)
        · have q135 : y134.toInt = 0 := z_eq rfl (by decide) hc
          obtain ⟨y136, ey136⟩ : ∃ y : Int32, y = v1 + 1 := ⟨_, rfl⟩
          refine lv_iinc (v := y136) (lv' := [(3, .int y136), (2, .int v2), (0, .ref ha0), (1, .int p1)]) hx hb dX7_onStage_50 hl (k := 0) rfl (by rw [ey136]; rfl) (by decide) rfl (fun ls hl => ?_)
          have hy136 : y136.toInt = v1.toInt + 1 := by rw [ey136]; exact z_add rfl (by decide) (by omega) (by omega)
          refine lv_goto (tgt := 4) hx hb dX7_onStage_53 (by decide) ?_
          exact ih131 y136 v2 ls (by first | omega | decide | exact z_lo _ | exact z_hi _) (by first | omega | decide | exact z_lo _ | exact z_hi _) (by omega) (lv_sub hl [0, 1, 2, 3] rfl)
        · have q137 : y134.toInt ≠ 0 := z_ne rfl (by decide) hc
          refine lv_aload_n hx hb dX7_onStage_21 rfl (lv_at hl 2 rfl) ?_
          refine va_get (D := (dC, dI)) (ci := 7) (v := .ref ha0_2) (C := RX7) (T := TX7) (N := 12) hx hb hts in_X7_onStage_X7 hown hK hP 1 rfl rfl 2 (by decide) (hts (.fieldLink RX7 21 "EachOnHisCue$Play" "own" "[I") (by decide +kernel)) (fun _ h9 => h9) rfl dX7_onStage_22 ?_
          refine lv_iload_n hx hb dX7_onStage_25 rfl (lv_at hl 0 rfl) ?_
          refine va_iald hx hb hK hP 0 0 rfl rfl (z_in (by omega) (by omega)) dX7_onStage_26 ?_
          refine lv_topi (fun y138 ey138 => ?_)
          obtain rfl : y134 = y138 := ey134.trans ey138.symm
          refine z_rdi (va_runSN (As := [.int y134]) (rest := []) ⟨hx, hb, hml, hown, hts⟩ (rX11_leastOf l dC dI cI cQ y134) ⟨va_cnB (host := "EachOnHisCue") 1 hts gv_X7_onStage_X11_leastOf_110 rfl rfl rfl (hN.2.2.2.2.2.2.2.2.2.2.2.2.2.1) (hts (.initialized RX11) (by decide +kernel)) (by decide +kernel) ⟨Nat.le_of_ble_eq_true rfl, Nat.le_of_ble_eq_true rfl⟩, hts (.static yX11_leastOf) (by decide +kernel), trivial⟩ ⟨z_blindR, z_preR hZ hP [] rfl⟩ rfl rfl hl.1 rfl (lv_room (Nat.le_of_ble_eq_true rfl)) dX7_onStage_27 ⟨Nat.le_of_ble_eq_true rfl, Nat.le_of_ble_eq_true rfl⟩) (fun y139 hy139 => ?_)
          obtain ⟨hy139_0, hy139_1⟩ := hy139
          refine lv_iload_n hx hb dX7_onStage_30 rfl (lv_at hl 3 rfl) ?_
          refine lv_icmp_gt (tgt := 50) hx hb dX7_onStage_31 (by decide) (fun hc => ?_) (fun hc => ?_)
          · have q140 : p1.toInt < y139.toInt := z_lt rfl rfl hc
            obtain ⟨y141, ey141⟩ : ∃ y : Int32, y = v1 + 1 := ⟨_, rfl⟩
            refine lv_iinc (v := y141) (lv' := [(3, .int y141), (2, .int v2), (0, .ref ha0), (1, .int p1)]) hx hb dX7_onStage_50 hl (k := 0) rfl (by rw [ey141]; rfl) (by decide) rfl (fun ls hl => ?_)
            have hy141 : y141.toInt = v1.toInt + 1 := by rw [ey141]; exact z_add rfl (by decide) (by omega) (by omega)
            refine lv_goto (tgt := 4) hx hb dX7_onStage_53 (by decide) ?_
            exact ih131 y141 v2 ls (by first | omega | decide | exact z_lo _ | exact z_hi _) (by first | omega | decide | exact z_lo _ | exact z_hi _) (by omega) (lv_sub hl [0, 1, 2, 3] rfl)
          · have q142 : y139.toInt ≤ p1.toInt := z_nlt rfl rfl hc
            refine lv_aload_n hx hb dX7_onStage_34 rfl (lv_at hl 2 rfl) ?_
            refine va_get (D := (dC, dI)) (ci := 7) (v := .ref ha0_2) (C := RX7) (T := TX7) (N := 12) hx hb hts in_X7_onStage_X7 hown hK hP 1 rfl rfl 2 (by decide) (hts (.fieldLink RX7 21 "EachOnHisCue$Play" "own" "[I") (by decide +kernel)) (fun _ h9 => h9) rfl dX7_onStage_35 ?_
            refine lv_iload_n hx hb dX7_onStage_38 rfl (lv_at hl 0 rfl) ?_
            refine va_iald hx hb hK hP 0 0 rfl rfl (z_in (by omega) (by omega)) dX7_onStage_39 ?_
            refine lv_topi (fun y143 ey143 => ?_)
            obtain rfl : y134 = y143 := ey134.trans ey143.symm
            refine z_rdi (va_runSN (As := [.int y134]) (rest := []) ⟨hx, hb, hml, hown, hts⟩ (rX11_greatestOf l dC dI cI cQ y134) ⟨va_cnB (host := "EachOnHisCue") 1 hts gv_X7_onStage_X11_greatestOf_113 rfl rfl rfl (hN.2.2.2.2.2.2.2.2.2.2.2.2.2.2.1) (hts (.initialized RX11) (by decide +kernel)) (by decide +kernel) ⟨Nat.le_of_ble_eq_true rfl, Nat.le_of_ble_eq_true rfl⟩, hts (.static yX11_greatestOf) (by decide +kernel), trivial⟩ ⟨z_blindR, z_preR hZ hP [] rfl⟩ rfl rfl hl.1 rfl (lv_room (Nat.le_of_ble_eq_true rfl)) dX7_onStage_40 ⟨Nat.le_of_ble_eq_true rfl, Nat.le_of_ble_eq_true rfl⟩) (fun y144 hy144 => ?_)
            obtain ⟨hy144_0, hy144_1⟩ := hy144
            refine lv_iload_n hx hb dX7_onStage_43 rfl (lv_at hl 3 rfl) ?_
            refine lv_icmp_lt (tgt := 50) hx hb dX7_onStage_44 (by decide) (fun hc => ?_) (fun hc => ?_)
            · have q145 : y144.toInt < p1.toInt := z_lt rfl rfl hc
              obtain ⟨y146, ey146⟩ : ∃ y : Int32, y = v1 + 1 := ⟨_, rfl⟩
              refine lv_iinc (v := y146) (lv' := [(3, .int y146), (2, .int v2), (0, .ref ha0), (1, .int p1)]) hx hb dX7_onStage_50 hl (k := 0) rfl (by rw [ey146]; rfl) (by decide) rfl (fun ls hl => ?_)
              have hy146 : y146.toInt = v1.toInt + 1 := by rw [ey146]; exact z_add rfl (by decide) (by omega) (by omega)
              refine lv_goto (tgt := 4) hx hb dX7_onStage_53 (by decide) ?_
              exact ih131 y146 v2 ls (by first | omega | decide | exact z_lo _ | exact z_hi _) (by first | omega | decide | exact z_lo _ | exact z_hi _) (by omega) (lv_sub hl [0, 1, 2, 3] rfl)
            · have q147 : p1.toInt ≤ y144.toInt := z_nlt rfl rfl hc
              obtain ⟨y148, ey148⟩ : ∃ y : Int32, y = v2 + 1 := ⟨_, rfl⟩
              refine lv_iinc (v := y148) (lv' := [(2, .int y148), (3, .int v1), (0, .ref ha0), (1, .int p1)]) hx hb dX7_onStage_47 hl (k := 1) rfl (by rw [ey148]; rfl) (by decide) rfl (fun ls hl => ?_)
              obtain ⟨y149, ey149⟩ : ∃ y : Int32, y = v1 + 1 := ⟨_, rfl⟩
              refine lv_iinc (v := y149) (lv' := [(3, .int y149), (2, .int y148), (0, .ref ha0), (1, .int p1)]) hx hb dX7_onStage_50 hl (k := 1) rfl (by rw [ey149]; rfl) (by decide) rfl (fun ls hl => ?_)
              have hy149 : y149.toInt = v1.toInt + 1 := by rw [ey149]; exact z_add rfl (by decide) (by omega) (by omega)
              refine lv_goto (tgt := 4) hx hb dX7_onStage_53 (by decide) ?_
              exact ih131 y149 y148 ls (by first | omega | decide | exact z_lo _ | exact z_hi _) (by first | omega | decide | exact z_lo _ | exact z_hi _) (by omega) (lv_sub hl [0, 1, 2, 3] rfl)
  exact hL129 ((5 - (0 : Int32).toInt).toNat + 1) 0 0 ls (by first | omega | decide | exact z_lo _ | exact z_hi _) (by first | omega | decide | exact z_lo _ | exact z_hi _) (by omega) hl
theorem dX7_allWords_0 : decode cX7_allWords 0 = .ok (.iconst 0, 1) := by decide +kernel
theorem dX7_allWords_1 : decode cX7_allWords 1 = .ok (.istore_n 1, 1) := by decide +kernel
theorem dX7_allWords_2 : decode cX7_allWords 2 = .ok (.iconst 0, 1) := by decide +kernel
theorem dX7_allWords_3 : decode cX7_allWords 3 = .ok (.istore_n 2, 1) := by decide +kernel
theorem dX7_allWords_4 : decode cX7_allWords 4 = .ok (.iload_n 2, 1) := by decide +kernel
theorem dX7_allWords_5 : decode cX7_allWords 5 = .ok (.aload_n 0, 1) := by decide +kernel
theorem dX7_allWords_6 : decode cX7_allWords 6 = .ok (.getfield 43, 3) := by decide +kernel
theorem dX7_allWords_9 : decode cX7_allWords 9 = .ok (.if_icmp .ge 18, 3) := by decide +kernel
theorem dX7_allWords_12 : decode cX7_allWords 12 = .ok (.iload_n 1, 1) := by decide +kernel
theorem dX7_allWords_13 : decode cX7_allWords 13 = .ok (.aload_n 0, 1) := by decide +kernel
theorem dX7_allWords_14 : decode cX7_allWords 14 = .ok (.getfield 34, 3) := by decide +kernel
theorem dX7_allWords_17 : decode cX7_allWords 17 = .ok (.iload_n 2, 1) := by decide +kernel
theorem dX7_allWords_18 : decode cX7_allWords 18 = .ok (.iaload, 1) := by decide +kernel
theorem dX7_allWords_19 : decode cX7_allWords 19 = .ok (.iadd, 1) := by decide +kernel
theorem dX7_allWords_20 : decode cX7_allWords 20 = .ok (.istore_n 1, 1) := by decide +kernel
theorem dX7_allWords_21 : decode cX7_allWords 21 = .ok (.iinc 2 1, 3) := by decide +kernel
theorem dX7_allWords_24 : decode cX7_allWords 24 = .ok (.goto (-20), 3) := by decide +kernel
theorem dX7_allWords_27 : decode cX7_allWords 27 = .ok (.iload_n 1, 1) := by decide +kernel
theorem dX7_allWords_28 : decode cX7_allWords 28 = .ok (.ireturn, 1) := by decide +kernel
noncomputable def vsX7_allWords : List Cond := .code yX7_allWords cX7_allWords 3 (some .int) :: (([.fieldLink RX7 43 "EachOnHisCue$Play" "lines" "I", .fieldLink RX7 34 "EachOnHisCue$Play" "sizes" "[I"] : List Cond) ++ wsX70)
theorem in_X7_allWords_X7 : ∀ w ∈ wsX70, w ∈ vsX7_allWords := fun _ h => List.mem_cons_of_mem _ (List.mem_append_right _ h)
set_option maxHeartbeats 4000000 in
set_option maxRecDepth 100000 in
theorem rX7_allWords (l : Launch) (dC : Nat → ClassId) (dI : Nat → Nat → Nat) (cI cQ : ClassId) (ha0 ha0_6 ha0_0 ha0_1 ha0_2 ha0_4 ha0_5 ha0_7 ha0_11 : Nat) (fa0_6 : Nat → Int32) (hBfa0_6 : ∀ k, 0 ≤ (fa0_6 k).toInt ∧ (fa0_6 k).toInt ≤ 4) (ia0_3 : Int32) (hia0_3l : 0 ≤ ia0_3.toInt) (hia0_3h : ia0_3.toInt ≤ 5) (ia0_8 : Int32) (ia0_9 : Int32) (hia0_9l : 0 ≤ ia0_9.toInt) (hia0_9h : ia0_9.toInt ≤ 12) (ia0_10 : Int32) : Met l yX7_allWords vsX7_allWords ({ frames := 0, cells := 0, slots := 0, locals := 0 }) (va_Pc [.ref ha0] (zRB dC dI cI cQ [(ha0_6, .inl (cI, 12, .inl fa0_6)), (ha0, .inr (7, [.ref ha0_0, .ref ha0_1, .ref ha0_2, .int ia0_3, .ref ha0_4, .ref ha0_5, .ref ha0_6, .ref ha0_7, .int ia0_8, .int ia0_9, .int ia0_10, .ref ha0_11]))])) (vp_Si (fun r => (-2147483648) ≤ r.toInt ∧ r.toInt ≤ 2147483647)) 0 0 (fun _ => False) := by
  refine Met.ofW (cc := cX7_allWords) (maxL := 3) (ret := (some .int)) (by decide) rfl ?_
  intro p e s m args below meth c s₁ B hml hv
  obtain ⟨rfl, hP, hZ⟩ := hv
  obtain ⟨hK, hAO, hN⟩ := id hZ
  have hx := B.exec
  have hb := B.bytes
  have hr := B.returns
  have hts := atoms_spec (ws := vsX7_allWords) B.pre
  have hown : s.vm.findClass RX7 = some m.cls := findClass_of_methodNamed B.named
  have hlocks := B.notSynchronized
  have hl := lv_entry ([.ref ha0]) (n := 3) (Nat.le_of_ble_eq_true rfl)
  rw [lg_entry_eq]
  generalize (lg_sl ([.ref ha0]) ++ List.replicate (3 - (lg_sl ([.ref ha0])).length) Slot.unset).toArray = ls at hl ⊢
  have hl : lv_has ls 3 [(0, .ref ha0)] := hl
  refine lv_iconst (v := 0) hx hb dX7_allWords_0 (by decide) ?_
  refine lv_istore_n (lv' := [(1, .int 0), (0, .ref ha0)]) hx hb dX7_allWords_1 rfl hl (by decide) rfl (fun ls hl => ?_)
  refine lv_iconst (v := 0) hx hb dX7_allWords_2 (by decide) ?_
  refine lv_istore_n (lv' := [(2, .int 0), (1, .int 0), (0, .ref ha0)]) hx hb dX7_allWords_3 rfl hl (by decide) rfl (fun ls hl => ?_)
  have hL38 : ∀ (n : Nat) (v1 : Int32) (v2 : Int32) (ls : Array Slot), 0 ≤ v1.toInt → v1.toInt ≤ 12 → (12 - v1.toInt).toNat < n → lv_has ls 3 [(2, .int v1), (1, .int v2), (0, .ref ha0)] → W p l e (headSpec vsX7_allWords ({ frames := 0, cells := 0, slots := 0, locals := 0 })).room s m ([.ref ha0] : List Value).toArray below meth c s.heap [] 0 0 (MQ below (vp_Si (fun r => (-2147483648) ≤ r.toInt ∧ r.toInt ≤ 2147483647)) ([.ref ha0] : List Value).toArray s 0 0 (fun _ => False)) (F0 m 4 ls []) := by
    intro n
    induction n with
    | zero =>
      intro v1 v2 ls hi39_0 hi39_1 hi39_m hl
      exact absurd hi39_m (Nat.not_lt_zero _)
    | succ n ih =>
      intro v1 v2 ls hi39_0 hi39_1 hi39_m hl
      have ih40 := ih
      refine lv_iload_n hx hb dX7_allWords_4 rfl (lv_at hl 0 rfl) ?_
      refine lv_aload_n hx hb dX7_allWords_5 rfl (lv_at hl 2 rfl) ?_
      refine va_get (D := (dC, dI)) (ci := 7) (v := .int ia0_9) (C := RX7) (T := TX7) (N := 12) hx hb hts in_X7_allWords_X7 hown hK hP 1 rfl rfl 9 (by decide) (hts (.fieldLink RX7 43 "EachOnHisCue$Play" "lines" "I") (by decide +kernel)) (fun _ h9 => h9) rfl dX7_allWords_6 ?_
      refine lv_icmp_ge (tgt := 27) hx hb dX7_allWords_9 (by decide) (fun hc => ?_) (fun hc => ?_)
      · have q41 : ia0_9.toInt ≤ v1.toInt := z_le rfl rfl hc
        refine lv_iload_n hx hb dX7_allWords_27 rfl (lv_at hl 1 rfl) ?_
        exact W.iret (v := v2) hx hb hr (fun t ht hW => ⟨v2, rfl, ⟨by first | omega | decide | exact z_lo _, by first | omega | decide | exact z_hi _⟩, ht⟩) (fun _ h => absurd h List.not_mem_nil) dX7_allWords_28
      · have q42 : v1.toInt < ia0_9.toInt := z_nle rfl rfl hc
        refine lv_iload_n hx hb dX7_allWords_12 rfl (lv_at hl 1 rfl) ?_
        refine lv_aload_n hx hb dX7_allWords_13 rfl (lv_at hl 2 rfl) ?_
        refine va_get (D := (dC, dI)) (ci := 7) (v := .ref ha0_6) (C := RX7) (T := TX7) (N := 12) hx hb hts in_X7_allWords_X7 hown hK hP 1 rfl rfl 6 (by decide) (hts (.fieldLink RX7 34 "EachOnHisCue$Play" "sizes" "[I") (by decide +kernel)) (fun _ h9 => h9) rfl dX7_allWords_14 ?_
        refine lv_iload_n hx hb dX7_allWords_17 rfl (lv_at hl 0 rfl) ?_
        refine va_iald hx hb hK hP 0 0 rfl rfl (z_in (by omega) (by omega)) dX7_allWords_18 ?_
        refine lv_topi (fun y43 ey43 => ?_)
        have gy43 : y43.toInt = (fa0_6 (v1 : Int32).toNatClampNeg).toInt := by rw [ey43]
        have hy43 : 0 ≤ y43.toInt ∧ y43.toInt ≤ 4 := by rw [ey43]; exact hBfa0_6 _
        obtain ⟨hy43, hy43_⟩ := hy43
        refine lv_iadd hx hb dX7_allWords_19 ?_
        refine lv_topi (fun y44 ey44 => ?_)
        refine lv_istore_n (lv' := [(1, .int y44), (2, .int v1), (0, .ref ha0)]) hx hb dX7_allWords_20 rfl hl (by decide) rfl (fun ls hl => ?_)
        obtain ⟨y45, ey45⟩ : ∃ y : Int32, y = v1 + 1 := ⟨_, rfl⟩
        refine lv_iinc (v := y45) (lv' := [(2, .int y45), (1, .int y44), (0, .ref ha0)]) hx hb dX7_allWords_21 hl (k := 1) rfl (by rw [ey45]; rfl) (by decide) rfl (fun ls hl => ?_)
        have hy45 : y45.toInt = v1.toInt + 1 := by rw [ey45]; exact z_add rfl (by decide) (by omega) (by omega)
        refine lv_goto (tgt := 4) hx hb dX7_allWords_24 (by decide) ?_
        exact ih40 y45 y44 ls (by first | omega | decide | exact z_lo _ | exact z_hi _) (by first | omega | decide | exact z_lo _ | exact z_hi _) (by omega) (lv_sub hl [0, 1, 2] rfl)
  exact hL38 ((12 - (0 : Int32).toInt).toNat + 1) 0 0 ls (by first | omega | decide | exact z_lo _ | exact z_hi _) (by first | omega | decide | exact z_lo _ | exact z_hi _) (by omega) hl
