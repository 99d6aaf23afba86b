theorem dX11_bitAt_0 : decode cX11_bitAt 0 = .ok (.iload_n 0, 1) := by decide +kernel
theorem dX11_bitAt_1 : decode cX11_bitAt 1 = .ok (.iload_n 1, 1) := by decide +kernel
theorem dX11_bitAt_2 : decode cX11_bitAt 2 = .ok (.ishr, 1) := by decide +kernel
theorem dX11_bitAt_3 : decode cX11_bitAt 3 = .ok (.iconst 1, 1) := by decide +kernel
theorem dX11_bitAt_4 : decode cX11_bitAt 4 = .ok (.iand, 1) := by decide +kernel
theorem dX11_bitAt_5 : decode cX11_bitAt 5 = .ok (.ireturn, 1) := by decide +kernel
noncomputable def vsX11_bitAt : List Cond := .code yX11_bitAt cX11_bitAt 2 (some .int) :: (([] : List Cond))
set_option maxHeartbeats 4000000 in
set_option maxRecDepth 100000 in
theorem rX11_bitAt (l : Launch) (dC : Nat → ClassId) (dI : Nat → Nat → Nat) (cI cQ : ClassId) (p0 : Int32) (p1 : Int32) : Met l yX11_bitAt vsX11_bitAt ({ frames := 0, cells := 0, slots := 0, locals := 0 }) (va_Pc [.int p0, .int p1] (zRB dC dI cI cQ [])) (vp_Si (fun r => 0 ≤ r.toInt ∧ r.toInt ≤ 1)) 0 0 (fun _ => False) := by
  refine Met.ofW (cc := cX11_bitAt) (maxL := 2) (ret := (some .int)) (by decide) rfl ?_
  intro p e s m args below meth c s₁ B hml hv
  obtain ⟨rfl, hP, hZ⟩ := hv
  obtain ⟨hK, hAO, hN⟩ := id hZ
  have hx := B.exec
  have hb := B.bytes
  have hr := B.returns
  have hts := atoms_spec (ws := vsX11_bitAt) B.pre
  have hown : s.vm.findClass RX11 = some m.cls := findClass_of_methodNamed B.named
  have hlocks := B.notSynchronized
  have hp0l := z_lo p0
  have hp0h := z_hi p0
  have hp1l := z_lo p1
  have hp1h := z_hi p1
  have hl := lv_entry ([.int p0, .int p1]) (n := 2) (Nat.le_of_ble_eq_true rfl)
  rw [lg_entry_eq]
  generalize (lg_sl ([.int p0, .int p1]) ++ List.replicate (2 - (lg_sl ([.int p0, .int p1])).length) Slot.unset).toArray = ls at hl ⊢
  have hl : lv_has ls 2 [(0, .int p0), (1, .int p1)] := hl
  refine lv_iload_n hx hb dX11_bitAt_0 rfl (lv_at hl 0 rfl) ?_
  refine lv_iload_n hx hb dX11_bitAt_1 rfl (lv_at hl 1 rfl) ?_
  refine lv_ishr hx hb dX11_bitAt_2 ?_
  refine lv_topi (fun y1 ey1 => ?_)
  refine lv_iconst (v := 1) hx hb dX11_bitAt_3 (by decide) ?_
  refine lv_iand hx hb dX11_bitAt_4 ?_
  refine lv_topi (fun y2 ey2 => ?_)
  have hy2 : 0 ≤ y2.toInt ∧ y2.toInt ≤ 1 := by rw [ey2]; exact z_and1 _
  obtain ⟨hy2, hy2_⟩ := hy2
  exact W.iret (v := y2) hx hb hr (fun t ht hW => ⟨y2, rfl, ⟨by first | omega | decide | exact z_lo _, by first | omega | decide | exact z_hi _⟩, ht⟩) (fun _ h => absurd h List.not_mem_nil) dX11_bitAt_5
theorem dX11_leastOf_0 : decode cX11_leastOf 0 = .ok (.iconst 0, 1) := by decide +kernel
theorem dX11_leastOf_1 : decode cX11_leastOf 1 = .ok (.istore_n 1, 1) := by decide +kernel
theorem dX11_leastOf_2 : decode cX11_leastOf 2 = .ok (.iload_n 1, 1) := by decide +kernel
theorem dX11_leastOf_3 : decode cX11_leastOf 3 = .ok (.bipush 12, 2) := by decide +kernel
theorem dX11_leastOf_5 : decode cX11_leastOf 5 = .ok (.if_icmp .ge 20, 3) := by decide +kernel
theorem dX11_leastOf_8 : decode cX11_leastOf 8 = .ok (.iload_n 0, 1) := by decide +kernel
theorem dX11_leastOf_9 : decode cX11_leastOf 9 = .ok (.iload_n 1, 1) := by decide +kernel
theorem dX11_leastOf_10 : decode cX11_leastOf 10 = .ok (.ishr, 1) := by decide +kernel
theorem dX11_leastOf_11 : decode cX11_leastOf 11 = .ok (.iconst 1, 1) := by decide +kernel
theorem dX11_leastOf_12 : decode cX11_leastOf 12 = .ok (.iand, 1) := by decide +kernel
theorem dX11_leastOf_13 : decode cX11_leastOf 13 = .ok (.iconst 1, 1) := by decide +kernel
theorem dX11_leastOf_14 : decode cX11_leastOf 14 = .ok (.if_icmp .ne 5, 3) := by decide +kernel
theorem dX11_leastOf_17 : decode cX11_leastOf 17 = .ok (.iload_n 1, 1) := by decide +kernel
theorem dX11_leastOf_18 : decode cX11_leastOf 18 = .ok (.ireturn, 1) := by decide +kernel
theorem dX11_leastOf_19 : decode cX11_leastOf 19 = .ok (.iinc 1 1, 3) := by decide +kernel
theorem dX11_leastOf_22 : decode cX11_leastOf 22 = .ok (.goto (-20), 3) := by decide +kernel
theorem dX11_leastOf_25 : decode cX11_leastOf 25 = .ok (.bipush (-9), 2) := by decide +kernel
theorem dX11_leastOf_27 : decode cX11_leastOf 27 = .ok (.ireturn, 1) := by decide +kernel
noncomputable def vsX11_leastOf : List Cond := .code yX11_leastOf cX11_leastOf 2 (some .int) :: (([] : List Cond))
set_option maxHeartbeats 4000000 in
set_option maxRecDepth 100000 in
theorem rX11_leastOf (l : Launch) (dC : Nat → ClassId) (dI : Nat → Nat → Nat) (cI cQ : ClassId) (p0 : Int32) : Met l yX11_leastOf vsX11_leastOf ({ frames := 0, cells := 0, slots := 0, locals := 0 }) (va_Pc [.int p0] (zRB dC dI cI cQ [])) (vp_Si (fun r => (-9) ≤ r.toInt ∧ r.toInt ≤ 11)) 0 0 (fun _ => False) := by
  refine Met.ofW (cc := cX11_leastOf) (maxL := 2) (ret := (some .int)) (by decide) rfl ?_
  intro p e s m args below meth c s₁ B hml hv
  obtain ⟨rfl, hP, hZ⟩ := hv
  obtain ⟨hK, hAO, hN⟩ := id hZ
  have hx := B.exec
  have hb := B.bytes
  have hr := B.returns
  have hts := atoms_spec (ws := vsX11_leastOf) B.pre
  have hown : s.vm.findClass RX11 = some m.cls := findClass_of_methodNamed B.named
  have hlocks := B.notSynchronized
  have hp0l := z_lo p0
  have hp0h := z_hi p0
  have hl := lv_entry ([.int p0]) (n := 2) (Nat.le_of_ble_eq_true rfl)
  rw [lg_entry_eq]
  generalize (lg_sl ([.int p0]) ++ List.replicate (2 - (lg_sl ([.int p0])).length) Slot.unset).toArray = ls at hl ⊢
  have hl : lv_has ls 2 [(0, .int p0)] := hl
  refine lv_iconst (v := 0) hx hb dX11_leastOf_0 (by decide) ?_
  refine lv_istore_n (lv' := [(1, .int 0), (0, .int p0)]) hx hb dX11_leastOf_1 rfl hl (by decide) rfl (fun ls hl => ?_)
  have hL44 : ∀ (n : Nat) (v1 : Int32) (ls : Array Slot), 0 ≤ v1.toInt → v1.toInt ≤ 12 → (12 - v1.toInt).toNat < n → lv_has ls 2 [(1, .int v1), (0, .int p0)] → W p l e (headSpec vsX11_leastOf ({ frames := 0, cells := 0, slots := 0, locals := 0 })).room s m ([.int p0] : List Value).toArray below meth c s.heap [] 0 0 (MQ below (vp_Si (fun r => (-9) ≤ r.toInt ∧ r.toInt ≤ 11)) ([.int p0] : List Value).toArray s 0 0 (fun _ => False)) (F0 m 2 ls []) := by
    intro n
    induction n with
    | zero =>
      intro v1 ls hi45_0 hi45_1 hi45_m hl
      exact absurd hi45_m (Nat.not_lt_zero _)
    | succ n ih =>
      intro v1 ls hi45_0 hi45_1 hi45_m hl
      have ih46 := ih
      refine lv_iload_n hx hb dX11_leastOf_2 rfl (lv_at hl 0 rfl) ?_
      refine lv_bipush (v := 12) hx hb dX11_leastOf_3 (by decide) ?_
      refine lv_icmp_ge (tgt := 25) hx hb dX11_leastOf_5 (by decide) (fun hc => ?_) (fun hc => ?_)
      · have q47 : 12 ≤ v1.toInt := z_le (by decide) rfl hc
        refine lv_bipush (v := (-9)) hx hb dX11_leastOf_25 (by decide) ?_
        exact W.iret (v := (-9)) hx hb hr (fun t ht hW => ⟨(-9), rfl, ⟨by first | omega | decide | exact z_lo _, by first | omega | decide | exact z_hi _⟩, ht⟩) (fun _ h => absurd h List.not_mem_nil) dX11_leastOf_27
      · have q48 : v1.toInt < 12 := z_nle (by decide) rfl hc
        refine lv_iload_n hx hb dX11_leastOf_8 rfl (lv_at hl 1 rfl) ?_
        refine lv_iload_n hx hb dX11_leastOf_9 rfl (lv_at hl 0 rfl) ?_
        refine lv_ishr hx hb dX11_leastOf_10 ?_
        refine lv_topi (fun y49 ey49 => ?_)
        refine lv_iconst (v := 1) hx hb dX11_leastOf_11 (by decide) ?_
        refine lv_iand hx hb dX11_leastOf_12 ?_
        refine lv_topi (fun y50 ey50 => ?_)
        have hy50 : 0 ≤ y50.toInt ∧ y50.toInt ≤ 1 := by rw [ey50]; exact z_and1 _
        obtain ⟨hy50, hy50_⟩ := hy50
        refine lv_iconst (v := 1) hx hb dX11_leastOf_13 (by decide) ?_
        refine lv_icmp_ne (tgt := 19) hx hb dX11_leastOf_14 (by decide) (fun hc => ?_) (fun hc => ?_)
        · have q51 : y50.toInt ≠ 1 := z_ne rfl (by decide) hc
          obtain ⟨y52, ey52⟩ : ∃ y : Int32, y = v1 + 1 := ⟨_, rfl⟩
          refine lv_iinc (v := y52) (lv' := [(1, .int y52), (0, .int p0)]) hx hb dX11_leastOf_19 hl (k := 0) rfl (by rw [ey52]; rfl) (by decide) rfl (fun ls hl => ?_)
          have hy52 : y52.toInt = v1.toInt + 1 := by rw [ey52]; exact z_add rfl (by decide) (by omega) (by omega)
          refine lv_goto (tgt := 2) hx hb dX11_leastOf_22 (by decide) ?_
          exact ih46 y52 ls (by first | omega | decide | exact z_lo _ | exact z_hi _) (by first | omega | decide | exact z_lo _ | exact z_hi _) (by omega) (lv_sub hl [0, 1] rfl)
        · have q53 : y50.toInt = 1 := z_eq rfl (by decide) hc
          refine lv_iload_n hx hb dX11_leastOf_17 rfl (lv_at hl 0 rfl) ?_
          exact W.iret (v := v1) hx hb hr (fun t ht hW => ⟨v1, rfl, ⟨by first | omega | decide | exact z_lo _, by first | omega | decide | exact z_hi _⟩, ht⟩) (fun _ h => absurd h List.not_mem_nil) dX11_leastOf_18
  exact hL44 ((12 - (0 : Int32).toInt).toNat + 1) 0 ls (by first | omega | decide | exact z_lo _ | exact z_hi _) (by first | omega | decide | exact z_lo _ | exact z_hi _) (by omega) hl
theorem dX11_greatestOf_0 : decode cX11_greatestOf 0 = .ok (.bipush 11, 2) := by decide +kernel
theorem dX11_greatestOf_2 : decode cX11_greatestOf 2 = .ok (.istore_n 1, 1) := by decide +kernel
theorem dX11_greatestOf_3 : decode cX11_greatestOf 3 = .ok (.iload_n 1, 1) := by decide +kernel
theorem dX11_greatestOf_4 : decode cX11_greatestOf 4 = .ok (.ifCond .lt 20, 3) := by decide +kernel
theorem dX11_greatestOf_7 : decode cX11_greatestOf 7 = .ok (.iload_n 0, 1) := by decide +kernel
theorem dX11_greatestOf_8 : decode cX11_greatestOf 8 = .ok (.iload_n 1, 1) := by decide +kernel
theorem dX11_greatestOf_9 : decode cX11_greatestOf 9 = .ok (.ishr, 1) := by decide +kernel
theorem dX11_greatestOf_10 : decode cX11_greatestOf 10 = .ok (.iconst 1, 1) := by decide +kernel
theorem dX11_greatestOf_11 : decode cX11_greatestOf 11 = .ok (.iand, 1) := by decide +kernel
theorem dX11_greatestOf_12 : decode cX11_greatestOf 12 = .ok (.iconst 1, 1) := by decide +kernel
theorem dX11_greatestOf_13 : decode cX11_greatestOf 13 = .ok (.if_icmp .ne 5, 3) := by decide +kernel
theorem dX11_greatestOf_16 : decode cX11_greatestOf 16 = .ok (.iload_n 1, 1) := by decide +kernel
theorem dX11_greatestOf_17 : decode cX11_greatestOf 17 = .ok (.ireturn, 1) := by decide +kernel
theorem dX11_greatestOf_18 : decode cX11_greatestOf 18 = .ok (.iinc 1 (-1), 3) := by decide +kernel
theorem dX11_greatestOf_21 : decode cX11_greatestOf 21 = .ok (.goto (-18), 3) := by decide +kernel
theorem dX11_greatestOf_24 : decode cX11_greatestOf 24 = .ok (.bipush (-9), 2) := by decide +kernel
theorem dX11_greatestOf_26 : decode cX11_greatestOf 26 = .ok (.ireturn, 1) := by decide +kernel
noncomputable def vsX11_greatestOf : List Cond := .code yX11_greatestOf cX11_greatestOf 2 (some .int) :: (([] : List Cond))
set_option maxHeartbeats 4000000 in
set_option maxRecDepth 100000 in
theorem rX11_greatestOf (l : Launch) (dC : Nat → ClassId) (dI : Nat → Nat → Nat) (cI cQ : ClassId) (p0 : Int32) : Met l yX11_greatestOf vsX11_greatestOf ({ frames := 0, cells := 0, slots := 0, locals := 0 }) (va_Pc [.int p0] (zRB dC dI cI cQ [])) (vp_Si (fun r => (-9) ≤ r.toInt ∧ r.toInt ≤ 11)) 0 0 (fun _ => False) := by
  refine Met.ofW (cc := cX11_greatestOf) (maxL := 2) (ret := (some .int)) (by decide) rfl ?_
  intro p e s m args below meth c s₁ B hml hv
  obtain ⟨rfl, hP, hZ⟩ := hv
  obtain ⟨hK, hAO, hN⟩ := id hZ
  have hx := B.exec
  have hb := B.bytes
  have hr := B.returns
  have hts := atoms_spec (ws := vsX11_greatestOf) B.pre
  have hown : s.vm.findClass RX11 = some m.cls := findClass_of_methodNamed B.named
  have hlocks := B.notSynchronized
  have hp0l := z_lo p0
  have hp0h := z_hi p0
  have hl := lv_entry ([.int p0]) (n := 2) (Nat.le_of_ble_eq_true rfl)
  rw [lg_entry_eq]
  generalize (lg_sl ([.int p0]) ++ List.replicate (2 - (lg_sl ([.int p0])).length) Slot.unset).toArray = ls at hl ⊢
  have hl : lv_has ls 2 [(0, .int p0)] := hl
  refine lv_bipush (v := 11) hx hb dX11_greatestOf_0 (by decide) ?_
  refine lv_istore_n (lv' := [(1, .int 11), (0, .int p0)]) hx hb dX11_greatestOf_2 rfl hl (by decide) rfl (fun ls hl => ?_)
  have hL44 : ∀ (n : Nat) (v1 : Int32) (ls : Array Slot), (-1) ≤ v1.toInt → v1.toInt ≤ 11 → (v1.toInt - (-1)).toNat < n → lv_has ls 2 [(1, .int v1), (0, .int p0)] → W p l e (headSpec vsX11_greatestOf ({ frames := 0, cells := 0, slots := 0, locals := 0 })).room s m ([.int p0] : List Value).toArray below meth c s.heap [] 0 0 (MQ below (vp_Si (fun r => (-9) ≤ r.toInt ∧ r.toInt ≤ 11)) ([.int p0] : List Value).toArray s 0 0 (fun _ => False)) (F0 m 3 ls []) := by
    intro n
    induction n with
    | zero =>
      intro v1 ls hi45_0 hi45_1 hi45_m hl
      exact absurd hi45_m (Nat.not_lt_zero _)
    | succ n ih =>
      intro v1 ls hi45_0 hi45_1 hi45_m hl
      have ih46 := ih
      refine lv_iload_n hx hb dX11_greatestOf_3 rfl (lv_at hl 0 rfl) ?_
      refine lv_if_lt (tgt := 24) hx hb dX11_greatestOf_4 (by decide) (fun hc => ?_) (fun hc => ?_)
      · have q47 : v1.toInt < 0 := z_lt rfl (by decide) hc
        refine lv_bipush (v := (-9)) hx hb dX11_greatestOf_24 (by decide) ?_
        exact W.iret (v := (-9)) hx hb hr (fun t ht hW => ⟨(-9), rfl, ⟨by first | omega | decide | exact z_lo _, by first | omega | decide | exact z_hi _⟩, ht⟩) (fun _ h => absurd h List.not_mem_nil) dX11_greatestOf_26
      · have q48 : 0 ≤ v1.toInt := z_nlt rfl (by decide) hc
        refine lv_iload_n hx hb dX11_greatestOf_7 rfl (lv_at hl 1 rfl) ?_
        refine lv_iload_n hx hb dX11_greatestOf_8 rfl (lv_at hl 0 rfl) ?_
        refine lv_ishr hx hb dX11_greatestOf_9 ?_
        refine lv_topi (fun y49 ey49 => ?_)
        refine lv_iconst (v := 1) hx hb dX11_greatestOf_10 (by decide) ?_
        refine lv_iand hx hb dX11_greatestOf_11 ?_
        refine lv_topi (fun y50 ey50 => ?_)
        have hy50 : 0 ≤ y50.toInt ∧ y50.toInt ≤ 1 := by rw [ey50]; exact z_and1 _
        obtain ⟨hy50, hy50_⟩ := hy50
        refine lv_iconst (v := 1) hx hb dX11_greatestOf_12 (by decide) ?_
        refine lv_icmp_ne (tgt := 18) hx hb dX11_greatestOf_13 (by decide) (fun hc => ?_) (fun hc => ?_)
        · have q51 : y50.toInt ≠ 1 := z_ne rfl (by decide) hc
          obtain ⟨y52, ey52⟩ : ∃ y : Int32, y = v1 + (-1) := ⟨_, rfl⟩
          refine lv_iinc (v := y52) (lv' := [(1, .int y52), (0, .int p0)]) hx hb dX11_greatestOf_18 hl (k := 0) rfl (by rw [ey52]; rfl) (by decide) rfl (fun ls hl => ?_)
          have hy52 : y52.toInt = v1.toInt + (-1) := by rw [ey52]; exact z_add rfl (by decide) (by omega) (by omega)
          refine lv_goto (tgt := 3) hx hb dX11_greatestOf_21 (by decide) ?_
          exact ih46 y52 ls (by first | omega | decide | exact z_lo _ | exact z_hi _) (by first | omega | decide | exact z_lo _ | exact z_hi _) (by omega) (lv_sub hl [0, 1] rfl)
        · have q53 : y50.toInt = 1 := z_eq rfl (by decide) hc
          refine lv_iload_n hx hb dX11_greatestOf_16 rfl (lv_at hl 0 rfl) ?_
          exact W.iret (v := v1) hx hb hr (fun t ht hW => ⟨v1, rfl, ⟨by first | omega | decide | exact z_lo _, by first | omega | decide | exact z_hi _⟩, ht⟩) (fun _ h => absurd h List.not_mem_nil) dX11_greatestOf_17
  exact hL44 (((11 : Int32).toInt - (-1)).toNat + 1) 11 ls (by first | omega | decide | exact z_lo _ | exact z_hi _) (by first | omega | decide | exact z_lo _ | exact z_hi _) (by omega) hl
theorem dX11_greatestDivisor_0 : decode cX11_greatestDivisor 0 = .ok (.iload_n 0, 1) := by decide +kernel
theorem dX11_greatestDivisor_1 : decode cX11_greatestDivisor 1 = .ok (.iload_n 1, 1) := by decide +kernel
theorem dX11_greatestDivisor_2 : decode cX11_greatestDivisor 2 = .ok (.invokestatic 244, 3) := by decide +kernel
theorem dX11_greatestDivisor_5 : decode cX11_greatestDivisor 5 = .ok (.istore_n 2, 1) := by decide +kernel
theorem dX11_greatestDivisor_6 : decode cX11_greatestDivisor 6 = .ok (.iload_n 2, 1) := by decide +kernel
theorem dX11_greatestDivisor_7 : decode cX11_greatestDivisor 7 = .ok (.iconst 1, 1) := by decide +kernel
theorem dX11_greatestDivisor_8 : decode cX11_greatestDivisor 8 = .ok (.if_icmp .le 23, 3) := by decide +kernel
theorem dX11_greatestDivisor_11 : decode cX11_greatestDivisor 11 = .ok (.iload_n 0, 1) := by decide +kernel
theorem dX11_greatestDivisor_12 : decode cX11_greatestDivisor 12 = .ok (.iload_n 2, 1) := by decide +kernel
theorem dX11_greatestDivisor_13 : decode cX11_greatestDivisor 13 = .ok (.irem, 1) := by decide +kernel
theorem dX11_greatestDivisor_14 : decode cX11_greatestDivisor 14 = .ok (.ifCond .ne 11, 3) := by decide +kernel
theorem dX11_greatestDivisor_17 : decode cX11_greatestDivisor 17 = .ok (.iload_n 1, 1) := by decide +kernel
theorem dX11_greatestDivisor_18 : decode cX11_greatestDivisor 18 = .ok (.iload_n 2, 1) := by decide +kernel
theorem dX11_greatestDivisor_19 : decode cX11_greatestDivisor 19 = .ok (.irem, 1) := by decide +kernel
theorem dX11_greatestDivisor_20 : decode cX11_greatestDivisor 20 = .ok (.ifCond .ne 5, 3) := by decide +kernel
theorem dX11_greatestDivisor_23 : decode cX11_greatestDivisor 23 = .ok (.iload_n 2, 1) := by decide +kernel
theorem dX11_greatestDivisor_24 : decode cX11_greatestDivisor 24 = .ok (.ireturn, 1) := by decide +kernel
theorem dX11_greatestDivisor_25 : decode cX11_greatestDivisor 25 = .ok (.iinc 2 (-1), 3) := by decide +kernel
theorem dX11_greatestDivisor_28 : decode cX11_greatestDivisor 28 = .ok (.goto (-22), 3) := by decide +kernel
theorem dX11_greatestDivisor_31 : decode cX11_greatestDivisor 31 = .ok (.iconst 1, 1) := by decide +kernel
theorem dX11_greatestDivisor_32 : decode cX11_greatestDivisor 32 = .ok (.ireturn, 1) := by decide +kernel
noncomputable def vsX11_greatestDivisor : List Cond := .code yX11_greatestDivisor cX11_greatestDivisor 3 (some .int) :: (([.methodLink RX11 244 Lib.Math.min.name, .static Lib.Math.min.name, .initialized "java/lang/Math", .code Lib.Math.min.name Lib.Math.min.code 2 (some .int)] : List Cond))
set_option maxHeartbeats 4000000 in
set_option maxRecDepth 100000 in
theorem rX11_greatestDivisor (l : Launch) (dC : Nat → ClassId) (dI : Nat → Nat → Nat) (cI cQ : ClassId) (p0 : Int32) (p1 : Int32) : Met l yX11_greatestDivisor vsX11_greatestDivisor ({ frames := 1, cells := 0, slots := 0, locals := 21 }) (va_Pc [.int p0, .int p1] (zRB dC dI cI cQ [])) (vp_Si (fun r => 1 ≤ r.toInt ∧ r.toInt ≤ 2147483647)) 0 0 (fun _ => False) := by
  refine Met.ofW (cc := cX11_greatestDivisor) (maxL := 3) (ret := (some .int)) (by decide) rfl ?_
  intro p e s m args below meth c s₁ B hml hv
  obtain ⟨rfl, hP, hZ⟩ := hv
  obtain ⟨hK, hAO, hN⟩ := id hZ
  have hx := B.exec
  have hb := B.bytes
  have hr := B.returns
  have hts := atoms_spec (ws := vsX11_greatestDivisor) B.pre
  have hown : s.vm.findClass RX11 = some m.cls := findClass_of_methodNamed B.named
  have hlocks := B.notSynchronized
  have hp0l := z_lo p0
  have hp0h := z_hi p0
  have hp1l := z_lo p1
  have hp1h := z_hi p1
  have hl := lv_entry ([.int p0, .int p1]) (n := 3) (Nat.le_of_ble_eq_true rfl)
  rw [lg_entry_eq]
  generalize (lg_sl ([.int p0, .int p1]) ++ List.replicate (3 - (lg_sl ([.int p0, .int p1])).length) Slot.unset).toArray = ls at hl ⊢
  have hl : lv_has ls 3 [(0, .int p0), (1, .int p1)] := hl
  refine lv_iload_n hx hb dX11_greatestDivisor_0 rfl (lv_at hl 0 rfl) ?_
  refine lv_iload_n hx hb dX11_greatestDivisor_1 rfl (lv_at hl 1 rfl) ?_
  refine va_mmin hx hb (hml.trans hl.1.symm) hown (hts (.methodLink RX11 244 Lib.Math.min.name) (by decide +kernel)) (hts (.static Lib.Math.min.name) (by decide +kernel)) (hts (.initialized "java/lang/Math") (by decide +kernel)) (hts (.code Lib.Math.min.name Lib.Math.min.code 2 (some .int)) (by decide +kernel)) (Nat.le_of_ble_eq_true rfl) (Nat.le_of_ble_eq_true rfl) (Nat.le_of_ble_eq_true rfl) (Nat.le_of_ble_eq_true rfl) dX11_greatestDivisor_2 ?_
  refine lv_topi (fun y1 ey1 => ?_)
  obtain ⟨hy1_0, hy1_1, hy1_2⟩ : y1.toInt ≤ p0.toInt ∧ y1.toInt ≤ p1.toInt ∧ (y1.toInt = p0.toInt ∨ y1.toInt = p1.toInt) := by rw [ey1]; exact z_min rfl rfl
  refine lv_istore_n (lv' := [(2, .int y1), (0, .int p0), (1, .int p1)]) hx hb dX11_greatestDivisor_5 rfl hl (by decide) rfl (fun ls hl => ?_)
  have hL23 : ∀ (n : Nat) (v2 : Int32) (ls : Array Slot), (v2.toInt - 0).toNat < n → lv_has ls 3 [(2, .int v2), (0, .int p0), (1, .int p1)] → W p l e (headSpec vsX11_greatestDivisor ({ frames := 1, cells := 0, slots := 0, locals := 21 })).room s m ([.int p0, .int p1] : List Value).toArray below meth c s.heap [] 0 0 (MQ below (vp_Si (fun r => 1 ≤ r.toInt ∧ r.toInt ≤ 2147483647)) ([.int p0, .int p1] : List Value).toArray s 0 0 (fun _ => False)) (F0 m 6 ls []) := by
    intro n
    induction n with
    | zero =>
      intro v2 ls hi24_m hl
      exact absurd hi24_m (Nat.not_lt_zero _)
    | succ n ih =>
      intro v2 ls hi24_m hl
      have ih25 := ih
      refine lv_iload_n hx hb dX11_greatestDivisor_6 rfl (lv_at hl 0 rfl) ?_
      refine lv_iconst (v := 1) hx hb dX11_greatestDivisor_7 (by decide) ?_
      refine lv_icmp_le (tgt := 31) hx hb dX11_greatestDivisor_8 (by decide) (fun hc => ?_) (fun hc => ?_)
      · have q26 : v2.toInt ≤ 1 := z_le rfl (by decide) hc
        refine lv_iconst (v := 1) hx hb dX11_greatestDivisor_31 (by decide) ?_
        exact W.iret (v := 1) hx hb hr (fun t ht hW => ⟨1, rfl, ⟨by first | omega | decide | exact z_lo _, by first | omega | decide | exact z_hi _⟩, ht⟩) (fun _ h => absurd h List.not_mem_nil) dX11_greatestDivisor_32
      · have q27 : 1 < v2.toInt := z_nle rfl (by decide) hc
        refine lv_iload_n hx hb dX11_greatestDivisor_11 rfl (lv_at hl 1 rfl) ?_
        refine lv_iload_n hx hb dX11_greatestDivisor_12 rfl (lv_at hl 0 rfl) ?_
        refine lv_irem hx hb dX11_greatestDivisor_13 (z_n0 (by omega)) ?_
        refine lv_topi (fun y28 ey28 => ?_)
        refine lv_if_ne (tgt := 25) hx hb dX11_greatestDivisor_14 (by decide) (fun hc => ?_) (fun hc => ?_)
        · have q29 : y28.toInt ≠ 0 := z_ne rfl (by decide) hc
          obtain ⟨y30, ey30⟩ : ∃ y : Int32, y = v2 + (-1) := ⟨_, rfl⟩
          refine lv_iinc (v := y30) (lv' := [(2, .int y30), (0, .int p0), (1, .int p1)]) hx hb dX11_greatestDivisor_25 hl (k := 0) rfl (by rw [ey30]; rfl) (by decide) rfl (fun ls hl => ?_)
          have := z_hi v2
          have hy30 : y30.toInt = v2.toInt + (-1) := by rw [ey30]; exact z_add rfl (by decide) (by omega) (by omega)
          refine lv_goto (tgt := 6) hx hb dX11_greatestDivisor_28 (by decide) ?_
          exact ih25 y30 ls (by omega) (lv_sub hl [0, 1, 2] rfl)
        · have q31 : y28.toInt = 0 := z_eq rfl (by decide) hc
          refine lv_iload_n hx hb dX11_greatestDivisor_17 rfl (lv_at hl 2 rfl) ?_
          refine lv_iload_n hx hb dX11_greatestDivisor_18 rfl (lv_at hl 0 rfl) ?_
          refine lv_irem hx hb dX11_greatestDivisor_19 (z_n0 (by omega)) ?_
          refine lv_topi (fun y32 ey32 => ?_)
          refine lv_if_ne (tgt := 25) hx hb dX11_greatestDivisor_20 (by decide) (fun hc => ?_) (fun hc => ?_)
          · have q33 : y32.toInt ≠ 0 := z_ne rfl (by decide) hc
            obtain ⟨y34, ey34⟩ : ∃ y : Int32, y = v2 + (-1) := ⟨_, rfl⟩
            refine lv_iinc (v := y34) (lv' := [(2, .int y34), (0, .int p0), (1, .int p1)]) hx hb dX11_greatestDivisor_25 hl (k := 0) rfl (by rw [ey34]; rfl) (by decide) rfl (fun ls hl => ?_)
            have := z_hi v2
            have hy34 : y34.toInt = v2.toInt + (-1) := by rw [ey34]; exact z_add rfl (by decide) (by omega) (by omega)
            refine lv_goto (tgt := 6) hx hb dX11_greatestDivisor_28 (by decide) ?_
            exact ih25 y34 ls (by omega) (lv_sub hl [0, 1, 2] rfl)
          · have q35 : y32.toInt = 0 := z_eq rfl (by decide) hc
            refine lv_iload_n hx hb dX11_greatestDivisor_23 rfl (lv_at hl 0 rfl) ?_
            exact W.iret (v := v2) hx hb hr (fun t ht hW => ⟨v2, rfl, ⟨by first | omega | decide | exact z_lo _, by first | omega | decide | exact z_hi _⟩, ht⟩) (fun _ h => absurd h List.not_mem_nil) dX11_greatestDivisor_24
  exact hL23 ((y1.toInt - 0).toNat + 1) y1 ls (by omega) hl
