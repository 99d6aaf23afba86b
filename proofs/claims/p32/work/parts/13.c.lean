set_option maxRecDepth 20000 in
theorem edX12_isIn_0 : decode cX12_isIn 0 = .ok (.iload_n 0, 1) ∧ decode cX12_isIn 1 = .ok (.iload_n 1, 1) ∧ decode cX12_isIn 2 = .ok (.if_icmp .lt 12, 3) ∧ decode cX12_isIn 5 = .ok (.iload_n 0, 1) ∧ decode cX12_isIn 6 = .ok (.iload_n 2, 1) ∧ decode cX12_isIn 7 = .ok (.if_icmp .gt 7, 3) ∧ decode cX12_isIn 10 = .ok (.iconst 1, 1) ∧ decode cX12_isIn 11 = .ok (.goto 4, 3) ∧ decode cX12_isIn 14 = .ok (.iconst 0, 1) ∧ decode cX12_isIn 15 = .ok (.ireturn, 1) := by decide +kernel
theorem dX12_isIn_0 : decode cX12_isIn 0 = .ok (.iload_n 0, 1) := edX12_isIn_0.1
theorem dX12_isIn_1 : decode cX12_isIn 1 = .ok (.iload_n 1, 1) := edX12_isIn_0.2.1
theorem dX12_isIn_2 : decode cX12_isIn 2 = .ok (.if_icmp .lt 12, 3) := edX12_isIn_0.2.2.1
theorem dX12_isIn_5 : decode cX12_isIn 5 = .ok (.iload_n 0, 1) := edX12_isIn_0.2.2.2.1
theorem dX12_isIn_6 : decode cX12_isIn 6 = .ok (.iload_n 2, 1) := edX12_isIn_0.2.2.2.2.1
theorem dX12_isIn_7 : decode cX12_isIn 7 = .ok (.if_icmp .gt 7, 3) := edX12_isIn_0.2.2.2.2.2.1
theorem dX12_isIn_10 : decode cX12_isIn 10 = .ok (.iconst 1, 1) := edX12_isIn_0.2.2.2.2.2.2.1
theorem dX12_isIn_11 : decode cX12_isIn 11 = .ok (.goto 4, 3) := edX12_isIn_0.2.2.2.2.2.2.2.1
theorem dX12_isIn_14 : decode cX12_isIn 14 = .ok (.iconst 0, 1) := edX12_isIn_0.2.2.2.2.2.2.2.2.1
theorem dX12_isIn_15 : decode cX12_isIn 15 = .ok (.ireturn, 1) := edX12_isIn_0.2.2.2.2.2.2.2.2.2
noncomputable def voX12_isIn : List Cond := []
noncomputable def vsX12_isIn : List Cond := .code yX12_isIn cX12_isIn 3 (some .boolean) :: (voX12_isIn)
theorem zgX12_isIn : zGd vsX12_isIn := z_gdC rfl ((z_gdO (by decide +kernel) : zGd voX12_isIn))
set_option maxHeartbeats 4000000 in
set_option maxRecDepth 100000 in
theorem rX12_isIn (l : Launch) (dC : Nat → ClassId) (dI : Nat → Nat → Nat) (cI cQ : ClassId) (p0 : Int32) (p1 : Int32) (p2 : Int32) : Met l yX12_isIn vsX12_isIn ({ frames := 0, cells := 0, slots := 0, locals := 0 }) (va_Pc [.int p0, .int p1, .int p2] (zRB dC dI cI cQ [])) (vp_Si (fun r => 0 ≤ r.toInt ∧ r.toInt ≤ 1 ∧ ((r.toInt = 1 ∧ p1.toInt ≤ p0.toInt ∧ p0.toInt ≤ p2.toInt) ∨ (r.toInt = 0 ∧ (p0.toInt < p1.toInt ∨ p2.toInt < p0.toInt))))) 0 0 (fun _ => False) := by
  refine Met.ofW (cc := cX12_isIn) (maxL := 3) (ret := (some .boolean)) (by decide) rfl ?_
  intro p e s m args below meth c s₁ B hml hv
  obtain ⟨rfl, hP, hZ⟩ := hv
  obtain ⟨hK, hAO, hN⟩ := id hZ
  have hx := B.exec
  have hb := B.bytes
  have hr := B.returns
  have hts := atoms_spec (ws := vsX12_isIn) B.pre
  have hown : s.vm.findClass RX12 = some m.cls := findClass_of_methodNamed B.named
  have hlocks := B.notSynchronized
  have hp0l := z_lo p0
  have hp0h := z_hi p0
  have hp1l := z_lo p1
  have hp1h := z_hi p1
  have hp2l := z_lo p2
  have hp2h := z_hi p2
  have hl := lv_entry ([.int p0, .int p1, .int p2]) (n := 3) (Nat.le_of_ble_eq_true rfl)
  rw [lg_entry_eq]
  generalize (lg_sl ([.int p0, .int p1, .int p2]) ++ List.replicate (3 - (lg_sl ([.int p0, .int p1, .int p2])).length) Slot.unset).toArray = ls at hl ⊢
  have hl : lv_has ls 3 [(0, .int p0), (1, .int p1), (2, .int p2)] := hl
  refine lv_iload_n hx hb dX12_isIn_0 rfl (lv_at hl 0 rfl) ?_
  refine lv_iload_n hx hb dX12_isIn_1 rfl (lv_at hl 1 rfl) ?_
  refine lv_icmp_lt (tgt := 14) hx hb dX12_isIn_2 (by decide) (fun hc => ?_) (fun hc => ?_)
  · have q1 : p0.toInt < p1.toInt := z_lt rfl rfl hc
    refine lv_iconst (v := 0) hx hb dX12_isIn_14 (by decide) ?_
    exact W.zret (v := 0) hx hb hr (rfl) (fun t ht hW => ⟨0, rfl, ⟨by first | decide | omega, by first | decide | omega, (by have e0 : (0 : Int32).toInt = 0 := (by decide); have e1 : (1 : Int32).toInt = 1 := (by decide); have e9 : (-9 : Int32).toInt = -9 := (by decide); omega)⟩, ht⟩) (fun _ h => absurd h List.not_mem_nil) dX12_isIn_15
  · have q2 : p1.toInt ≤ p0.toInt := z_nlt rfl rfl hc
    refine lv_iload_n hx hb dX12_isIn_5 rfl (lv_at hl 0 rfl) ?_
    refine lv_iload_n hx hb dX12_isIn_6 rfl (lv_at hl 2 rfl) ?_
    refine lv_icmp_gt (tgt := 14) hx hb dX12_isIn_7 (by decide) (fun hc => ?_) (fun hc => ?_)
    · have q3 : p2.toInt < p0.toInt := z_lt rfl rfl hc
      refine lv_iconst (v := 0) hx hb dX12_isIn_14 (by decide) ?_
      exact W.zret (v := 0) hx hb hr (rfl) (fun t ht hW => ⟨0, rfl, ⟨by first | decide | omega, by first | decide | omega, (by have e0 : (0 : Int32).toInt = 0 := (by decide); have e1 : (1 : Int32).toInt = 1 := (by decide); have e9 : (-9 : Int32).toInt = -9 := (by decide); omega)⟩, ht⟩) (fun _ h => absurd h List.not_mem_nil) dX12_isIn_15
    · have q4 : p0.toInt ≤ p2.toInt := z_nlt rfl rfl hc
      refine lv_iconst (v := 1) hx hb dX12_isIn_10 (by decide) ?_
      refine lv_goto (tgt := 15) hx hb dX12_isIn_11 (by decide) ?_
      exact W.zret (v := 1) hx hb hr (rfl) (fun t ht hW => ⟨1, rfl, ⟨by first | decide | omega, by first | decide | omega, (by have e0 : (0 : Int32).toInt = 0 := (by decide); have e1 : (1 : Int32).toInt = 1 := (by decide); have e9 : (-9 : Int32).toInt = -9 := (by decide); omega)⟩, ht⟩) (fun _ h => absurd h List.not_mem_nil) dX12_isIn_15
set_option maxRecDepth 20000 in
theorem edX12_bound_0 : decode cX12_bound 0 = .ok (.iload_n 0, 1) ∧ decode cX12_bound 1 = .ok (.iload_n 1, 1) ∧ decode cX12_bound 2 = .ok (.if_icmp .ge 8, 3) ∧ decode cX12_bound 5 = .ok (.bipush (-4), 2) ∧ decode cX12_bound 7 = .ok (.goto 14, 3) ∧ decode cX12_bound 10 = .ok (.iload_n 0, 1) ∧ decode cX12_bound 11 = .ok (.iload_n 2, 1) ∧ decode cX12_bound 12 = .ok (.if_icmp .le 8, 3) ∧ decode cX12_bound 15 = .ok (.bipush (-6), 2) ∧ decode cX12_bound 17 = .ok (.goto 4, 3) ∧ decode cX12_bound 20 = .ok (.iconst 0, 1) ∧ decode cX12_bound 21 = .ok (.ireturn, 1) := by decide +kernel
theorem dX12_bound_0 : decode cX12_bound 0 = .ok (.iload_n 0, 1) := edX12_bound_0.1
theorem dX12_bound_1 : decode cX12_bound 1 = .ok (.iload_n 1, 1) := edX12_bound_0.2.1
theorem dX12_bound_2 : decode cX12_bound 2 = .ok (.if_icmp .ge 8, 3) := edX12_bound_0.2.2.1
theorem dX12_bound_5 : decode cX12_bound 5 = .ok (.bipush (-4), 2) := edX12_bound_0.2.2.2.1
theorem dX12_bound_7 : decode cX12_bound 7 = .ok (.goto 14, 3) := edX12_bound_0.2.2.2.2.1
theorem dX12_bound_10 : decode cX12_bound 10 = .ok (.iload_n 0, 1) := edX12_bound_0.2.2.2.2.2.1
theorem dX12_bound_11 : decode cX12_bound 11 = .ok (.iload_n 2, 1) := edX12_bound_0.2.2.2.2.2.2.1
theorem dX12_bound_12 : decode cX12_bound 12 = .ok (.if_icmp .le 8, 3) := edX12_bound_0.2.2.2.2.2.2.2.1
theorem dX12_bound_15 : decode cX12_bound 15 = .ok (.bipush (-6), 2) := edX12_bound_0.2.2.2.2.2.2.2.2.1
theorem dX12_bound_17 : decode cX12_bound 17 = .ok (.goto 4, 3) := edX12_bound_0.2.2.2.2.2.2.2.2.2.1
theorem dX12_bound_20 : decode cX12_bound 20 = .ok (.iconst 0, 1) := edX12_bound_0.2.2.2.2.2.2.2.2.2.2.1
theorem dX12_bound_21 : decode cX12_bound 21 = .ok (.ireturn, 1) := edX12_bound_0.2.2.2.2.2.2.2.2.2.2.2
noncomputable def voX12_bound : List Cond := []
noncomputable def vsX12_bound : List Cond := .code yX12_bound cX12_bound 3 (some .int) :: (voX12_bound)
theorem zgX12_bound : zGd vsX12_bound := z_gdC rfl ((z_gdO (by decide +kernel) : zGd voX12_bound))
set_option maxHeartbeats 4000000 in
set_option maxRecDepth 100000 in
theorem rX12_bound (l : Launch) (dC : Nat → ClassId) (dI : Nat → Nat → Nat) (cI cQ : ClassId) (p0 : Int32) (p1 : Int32) (p2 : Int32) : Met l yX12_bound vsX12_bound ({ frames := 0, cells := 0, slots := 0, locals := 0 }) (va_Pc [.int p0, .int p1, .int p2] (zRB dC dI cI cQ [])) (vp_Si (fun r => (-6) ≤ r.toInt ∧ r.toInt ≤ 0 ∧ ((r.toInt = -4 ∧ p0.toInt < p1.toInt) ∨ (r.toInt = -6 ∧ p1.toInt ≤ p0.toInt ∧ p2.toInt < p0.toInt) ∨ (r.toInt = 0 ∧ p1.toInt ≤ p0.toInt ∧ p0.toInt ≤ p2.toInt)))) 0 0 (fun _ => False) := by
  refine Met.ofW (cc := cX12_bound) (maxL := 3) (ret := (some .int)) (by decide) rfl ?_
  intro p e s m args below meth c s₁ B hml hv
  obtain ⟨rfl, hP, hZ⟩ := hv
  obtain ⟨hK, hAO, hN⟩ := id hZ
  have hx := B.exec
  have hb := B.bytes
  have hr := B.returns
  have hts := atoms_spec (ws := vsX12_bound) B.pre
  have hown : s.vm.findClass RX12 = some m.cls := findClass_of_methodNamed B.named
  have hlocks := B.notSynchronized
  have hlt0 : ((-9) : Int32).toInt = (-9) := by decide
  have hlt1 : ((-6) : Int32).toInt = (-6) := by decide
  have hlt2 : ((-4) : Int32).toInt = (-4) := by decide
  have hlt3 : ((-3) : Int32).toInt = (-3) := by decide
  have hlt4 : ((-2) : Int32).toInt = (-2) := by decide
  have hlt5 : ((-1) : Int32).toInt = (-1) := by decide
  have hlt6 : (0 : Int32).toInt = 0 := by decide
  have hlt7 : (1 : Int32).toInt = 1 := by decide
  have hp0l := z_lo p0
  have hp0h := z_hi p0
  have hp1l := z_lo p1
  have hp1h := z_hi p1
  have hp2l := z_lo p2
  have hp2h := z_hi p2
  have hl := lv_entry ([.int p0, .int p1, .int p2]) (n := 3) (Nat.le_of_ble_eq_true rfl)
  rw [lg_entry_eq]
  generalize (lg_sl ([.int p0, .int p1, .int p2]) ++ List.replicate (3 - (lg_sl ([.int p0, .int p1, .int p2])).length) Slot.unset).toArray = ls at hl ⊢
  have hl : lv_has ls 3 [(0, .int p0), (1, .int p1), (2, .int p2)] := hl
  refine lv_iload_n hx hb dX12_bound_0 rfl (lv_at hl 0 rfl) ?_
  refine lv_iload_n hx hb dX12_bound_1 rfl (lv_at hl 1 rfl) ?_
  refine lv_icmp_ge (tgt := 10) hx hb dX12_bound_2 (by decide) (fun hc => ?_) (fun hc => ?_)
  · have q1 : p1.toInt ≤ p0.toInt := z_le rfl rfl hc
    refine lv_iload_n hx hb dX12_bound_10 rfl (lv_at hl 0 rfl) ?_
    refine lv_iload_n hx hb dX12_bound_11 rfl (lv_at hl 2 rfl) ?_
    refine lv_icmp_le (tgt := 20) hx hb dX12_bound_12 (by decide) (fun hc => ?_) (fun hc => ?_)
    · have q2 : p0.toInt ≤ p2.toInt := z_le rfl rfl hc
      refine lv_iconst (v := 0) hx hb dX12_bound_20 (by decide) ?_
      exact W.iret (v := 0) hx hb hr (fun t ht hW => ⟨0, rfl, ⟨by first | decide | omega, by first | decide | omega, (by have e4 : (-4 : Int32).toInt = -4 := (by decide); have e6 : (-6 : Int32).toInt = -6 := (by decide); have e0 : (0 : Int32).toInt = 0 := (by decide); have e1 : (1 : Int32).toInt = 1 := (by decide); have e9 : (-9 : Int32).toInt = -9 := (by decide); omega)⟩, ht⟩) (fun _ h => absurd h List.not_mem_nil) dX12_bound_21
    · have q3 : p2.toInt < p0.toInt := z_nle rfl rfl hc
      refine lv_bipush (v := (-6)) hx hb dX12_bound_15 (by decide) ?_
      refine lv_goto (tgt := 21) hx hb dX12_bound_17 (by decide) ?_
      exact W.iret (v := (-6)) hx hb hr (fun t ht hW => ⟨(-6), rfl, ⟨by first | decide | omega, by first | decide | omega, (by have e4 : (-4 : Int32).toInt = -4 := (by decide); have e6 : (-6 : Int32).toInt = -6 := (by decide); have e0 : (0 : Int32).toInt = 0 := (by decide); have e1 : (1 : Int32).toInt = 1 := (by decide); have e9 : (-9 : Int32).toInt = -9 := (by decide); omega)⟩, ht⟩) (fun _ h => absurd h List.not_mem_nil) dX12_bound_21
  · have q4 : p0.toInt < p1.toInt := z_nle rfl rfl hc
    refine lv_bipush (v := (-4)) hx hb dX12_bound_5 (by decide) ?_
    refine lv_goto (tgt := 21) hx hb dX12_bound_7 (by decide) ?_
    exact W.iret (v := (-4)) hx hb hr (fun t ht hW => ⟨(-4), rfl, ⟨by first | decide | omega, by first | decide | omega, (by have e4 : (-4 : Int32).toInt = -4 := (by decide); have e6 : (-6 : Int32).toInt = -6 := (by decide); have e0 : (0 : Int32).toInt = 0 := (by decide); have e1 : (1 : Int32).toInt = 1 := (by decide); have e9 : (-9 : Int32).toInt = -9 := (by decide); omega)⟩, ht⟩) (fun _ h => absurd h List.not_mem_nil) dX12_bound_21
set_option maxRecDepth 20000 in
theorem edX12_least_0 : decode cX12_least 0 = .ok (.iload_n 0, 1) ∧ decode cX12_least 1 = .ok (.iload_n 1, 1) ∧ decode cX12_least 2 = .ok (.if_icmp .ge 7, 3) ∧ decode cX12_least 5 = .ok (.iload_n 0, 1) ∧ decode cX12_least 6 = .ok (.goto 4, 3) ∧ decode cX12_least 9 = .ok (.iload_n 1, 1) ∧ decode cX12_least 10 = .ok (.ireturn, 1) := by decide +kernel
theorem dX12_least_0 : decode cX12_least 0 = .ok (.iload_n 0, 1) := edX12_least_0.1
theorem dX12_least_1 : decode cX12_least 1 = .ok (.iload_n 1, 1) := edX12_least_0.2.1
theorem dX12_least_2 : decode cX12_least 2 = .ok (.if_icmp .ge 7, 3) := edX12_least_0.2.2.1
theorem dX12_least_5 : decode cX12_least 5 = .ok (.iload_n 0, 1) := edX12_least_0.2.2.2.1
theorem dX12_least_6 : decode cX12_least 6 = .ok (.goto 4, 3) := edX12_least_0.2.2.2.2.1
theorem dX12_least_9 : decode cX12_least 9 = .ok (.iload_n 1, 1) := edX12_least_0.2.2.2.2.2.1
theorem dX12_least_10 : decode cX12_least 10 = .ok (.ireturn, 1) := edX12_least_0.2.2.2.2.2.2
noncomputable def voX12_least : List Cond := []
noncomputable def vsX12_least : List Cond := .code yX12_least cX12_least 2 (some .int) :: (voX12_least)
theorem zgX12_least : zGd vsX12_least := z_gdC rfl ((z_gdO (by decide +kernel) : zGd voX12_least))
set_option maxHeartbeats 4000000 in
set_option maxRecDepth 100000 in
theorem rX12_least (l : Launch) (dC : Nat → ClassId) (dI : Nat → Nat → Nat) (cI cQ : ClassId) (p0 : Int32) (p1 : Int32) : Met l yX12_least vsX12_least ({ frames := 0, cells := 0, slots := 0, locals := 0 }) (va_Pc [.int p0, .int p1] (zRB dC dI cI cQ [])) (vp_Si (fun r => (-2147483648) ≤ r.toInt ∧ r.toInt ≤ 2147483647 ∧ (r.toInt ≤ p0.toInt ∧ r.toInt ≤ p1.toInt ∧ (r.toInt = p0.toInt ∨ r.toInt = p1.toInt)))) 0 0 (fun _ => False) := by
  refine Met.ofW (cc := cX12_least) (maxL := 2) (ret := (some .int)) (by decide) rfl ?_
  intro p e s m args below meth c s₁ B hml hv
  obtain ⟨rfl, hP, hZ⟩ := hv
  obtain ⟨hK, hAO, hN⟩ := id hZ
  have hx := B.exec
  have hb := B.bytes
  have hr := B.returns
  have hts := atoms_spec (ws := vsX12_least) B.pre
  have hown : s.vm.findClass RX12 = some m.cls := findClass_of_methodNamed B.named
  have hlocks := B.notSynchronized
  have hp0l := z_lo p0
  have hp0h := z_hi p0
  have hp1l := z_lo p1
  have hp1h := z_hi p1
  have hl := lv_entry ([.int p0, .int p1]) (n := 2) (Nat.le_of_ble_eq_true rfl)
  rw [lg_entry_eq]
  generalize (lg_sl ([.int p0, .int p1]) ++ List.replicate (2 - (lg_sl ([.int p0, .int p1])).length) Slot.unset).toArray = ls at hl ⊢
  have hl : lv_has ls 2 [(0, .int p0), (1, .int p1)] := hl
  refine lv_iload_n hx hb dX12_least_0 rfl (lv_at hl 0 rfl) ?_
  refine lv_iload_n hx hb dX12_least_1 rfl (lv_at hl 1 rfl) ?_
  refine lv_icmp_ge (tgt := 9) hx hb dX12_least_2 (by decide) (fun hc => ?_) (fun hc => ?_)
  · have q1 : p1.toInt ≤ p0.toInt := z_le rfl rfl hc
    refine lv_iload_n hx hb dX12_least_9 rfl (lv_at hl 1 rfl) ?_
    exact W.iret (v := p1) hx hb hr (fun t ht hW => ⟨p1, rfl, ⟨z_lo _, z_hi _, by first | omega | (intro _; omega) | (intro h; exact absurd h (by decide)) | (refine ⟨?_, ?_⟩ <;> omega) | (split <;> omega)⟩, ht⟩) (fun _ h => absurd h List.not_mem_nil) dX12_least_10
  · have q2 : p0.toInt < p1.toInt := z_nle rfl rfl hc
    refine lv_iload_n hx hb dX12_least_5 rfl (lv_at hl 0 rfl) ?_
    refine lv_goto (tgt := 10) hx hb dX12_least_6 (by decide) ?_
    exact W.iret (v := p0) hx hb hr (fun t ht hW => ⟨p0, rfl, ⟨z_lo _, z_hi _, by first | omega | (intro _; omega) | (intro h; exact absurd h (by decide)) | (refine ⟨?_, ?_⟩ <;> omega) | (split <;> omega)⟩, ht⟩) (fun _ h => absurd h List.not_mem_nil) dX12_least_10
set_option maxRecDepth 20000 in
theorem edX12_isPlayer_0 : decode cX12_isPlayer 0 = .ok (.iload_n 1, 1) ∧ decode cX12_isPlayer 1 = .ok (.ifCond .lt 15, 3) ∧ decode cX12_isPlayer 4 = .ok (.iload_n 1, 1) ∧ decode cX12_isPlayer 5 = .ok (.aload_n 0, 1) ∧ decode cX12_isPlayer 6 = .ok (.getfield 76, 3) ∧ decode cX12_isPlayer 9 = .ok (.if_icmp .ge 7, 3) ∧ decode cX12_isPlayer 12 = .ok (.iconst 1, 1) ∧ decode cX12_isPlayer 13 = .ok (.goto 4, 3) ∧ decode cX12_isPlayer 16 = .ok (.iconst 0, 1) ∧ decode cX12_isPlayer 17 = .ok (.ireturn, 1) := by decide +kernel
theorem dX12_isPlayer_0 : decode cX12_isPlayer 0 = .ok (.iload_n 1, 1) := edX12_isPlayer_0.1
theorem dX12_isPlayer_1 : decode cX12_isPlayer 1 = .ok (.ifCond .lt 15, 3) := edX12_isPlayer_0.2.1
theorem dX12_isPlayer_4 : decode cX12_isPlayer 4 = .ok (.iload_n 1, 1) := edX12_isPlayer_0.2.2.1
theorem dX12_isPlayer_5 : decode cX12_isPlayer 5 = .ok (.aload_n 0, 1) := edX12_isPlayer_0.2.2.2.1
theorem dX12_isPlayer_6 : decode cX12_isPlayer 6 = .ok (.getfield 76, 3) := edX12_isPlayer_0.2.2.2.2.1
theorem dX12_isPlayer_9 : decode cX12_isPlayer 9 = .ok (.if_icmp .ge 7, 3) := edX12_isPlayer_0.2.2.2.2.2.1
theorem dX12_isPlayer_12 : decode cX12_isPlayer 12 = .ok (.iconst 1, 1) := edX12_isPlayer_0.2.2.2.2.2.2.1
theorem dX12_isPlayer_13 : decode cX12_isPlayer 13 = .ok (.goto 4, 3) := edX12_isPlayer_0.2.2.2.2.2.2.2.1
theorem dX12_isPlayer_16 : decode cX12_isPlayer 16 = .ok (.iconst 0, 1) := edX12_isPlayer_0.2.2.2.2.2.2.2.2.1
theorem dX12_isPlayer_17 : decode cX12_isPlayer 17 = .ok (.ireturn, 1) := edX12_isPlayer_0.2.2.2.2.2.2.2.2.2
noncomputable def voX12_isPlayer : List Cond := [.fieldLink RX12 76 "EachOnHisCueModel" "players" "I"]
noncomputable def vsX12_isPlayer : List Cond := .code yX12_isPlayer cX12_isPlayer 2 (some .boolean) :: (voX12_isPlayer ++ (wsX120))
theorem zgX12 : zGd wsX120 := z_gdO (by decide +kernel)
theorem zgX12_isPlayer : zGd vsX12_isPlayer := z_gdC rfl (z_gdA (z_gdO (by decide +kernel) : zGd voX12_isPlayer) (zgX12))
theorem in_X12_isPlayer_X12 : ∀ w ∈ wsX120, w ∈ vsX12_isPlayer := fun _ h => List.mem_cons_of_mem _ (List.mem_append_right _ (h))
set_option maxHeartbeats 4000000 in
set_option maxRecDepth 100000 in
theorem rX12_isPlayer (l : Launch) (dC : Nat → ClassId) (dI : Nat → Nat → Nat) (cI cQ : ClassId) (ha0 ha0_0 ha0_1 ha0_2 ha0_3 ha0_4 ha0_5 ha0_6 ha0_7 ha0_8 ha0_16 ha0_17 ha0_18 ha0_19 ha0_23 ha0_29 ha0_33 ha0_34 ha0_35 : Nat) (ia0_9 : Int32) (hia0_9l : 0 ≤ ia0_9.toInt) (hia0_9h : ia0_9.toInt ≤ 5) (ia0_10 : Int32) (hia0_10l : 0 ≤ ia0_10.toInt) (hia0_10h : ia0_10.toInt ≤ 12) (ia0_11 : Int32) (ia0_12 : Int32) (ia0_13 : Int32) (ia0_14 : Int32) (hia0_14l : (-9) ≤ ia0_14.toInt) (hia0_14h : ia0_14.toInt ≤ 11) (ia0_15 : Int32) (ia0_20 : Int32) (hia0_20l : 0 ≤ ia0_20.toInt) (hia0_20h : ia0_20.toInt ≤ 80) (ia0_21 : Int32) (hia0_21l : 0 ≤ ia0_21.toInt) (hia0_21h : ia0_21.toInt ≤ 80) (ia0_22 : Int32) (hia0_22l : 0 ≤ ia0_22.toInt) (hia0_22h : ia0_22.toInt ≤ 40) (ia0_24 : Int32) (hia0_24l : 0 ≤ ia0_24.toInt) (hia0_24h : ia0_24.toInt ≤ 1) (ia0_25 : Int32) (hia0_25l : 0 ≤ ia0_25.toInt) (hia0_25h : ia0_25.toInt ≤ 1) (ia0_26 : Int32) (hia0_26l : 0 ≤ ia0_26.toInt) (hia0_26h : ia0_26.toInt ≤ 300) (ia0_27 : Int32) (hia0_27l : (-9) ≤ ia0_27.toInt) (hia0_27h : ia0_27.toInt ≤ 11) (ia0_28 : Int32) (ia0_30 : Int32) (hia0_30l : 0 ≤ ia0_30.toInt) (hia0_30h : ia0_30.toInt ≤ 60) (ia0_31 : Int32) (ia0_32 : Int32) (hia0_32l : 0 ≤ ia0_32.toInt) (hia0_32h : ia0_32.toInt ≤ 1) (ia0_36 : Int32) (hia0_36l : 0 ≤ ia0_36.toInt) (hia0_36h : ia0_36.toInt ≤ 12) (ia0_37 : Int32) (p1 : Int32) : Met l yX12_isPlayer vsX12_isPlayer ({ frames := 0, cells := 0, slots := 0, locals := 0 }) (va_Pc [.ref ha0, .int p1] (zRB dC dI cI cQ [(ha0, .inr (12, [.ref ha0_0, .ref ha0_1, .ref ha0_2, .ref ha0_3, .ref ha0_4, .ref ha0_5, .ref ha0_6, .ref ha0_7, .ref ha0_8, .int ia0_9, .int ia0_10, .int ia0_11, .int ia0_12, .int ia0_13, .int ia0_14, .int ia0_15, .ref ha0_16, .ref ha0_17, .ref ha0_18, .ref ha0_19, .int ia0_20, .int ia0_21, .int ia0_22, .ref ha0_23, .int ia0_24, .int ia0_25, .int ia0_26, .int ia0_27, .int ia0_28, .ref ha0_29, .int ia0_30, .int ia0_31, .int ia0_32, .ref ha0_33, .ref ha0_34, .ref ha0_35, .int ia0_36, .int ia0_37]))])) (vp_Si (fun r => 0 ≤ r.toInt ∧ r.toInt ≤ 1 ∧ ((r.toInt = 1 ∧ 0 ≤ p1.toInt ∧ p1.toInt < ia0_9.toInt) ∨ (r.toInt = 0 ∧ (p1.toInt < 0 ∨ ia0_9.toInt ≤ p1.toInt))))) 0 0 (fun _ => False) := by
  refine Met.ofW (cc := cX12_isPlayer) (maxL := 2) (ret := (some .boolean)) (by decide) rfl ?_
  intro p e s m args below meth c s₁ B hml hv
  obtain ⟨rfl, hP, hZ⟩ := hv
  obtain ⟨hK, hAO, hN⟩ := id hZ
  have hx := B.exec
  have hb := B.bytes
  have hr := B.returns
  have hts := atoms_spec (ws := vsX12_isPlayer) B.pre
  have hown : s.vm.findClass RX12 = some m.cls := findClass_of_methodNamed B.named
  have hlocks := B.notSynchronized
  have hp1l := z_lo p1
  have hp1h := z_hi p1
  have hl := lv_entry ([.ref ha0, .int p1]) (n := 2) (Nat.le_of_ble_eq_true rfl)
  rw [lg_entry_eq]
  generalize (lg_sl ([.ref ha0, .int p1]) ++ List.replicate (2 - (lg_sl ([.ref ha0, .int p1])).length) Slot.unset).toArray = ls at hl ⊢
  have hl : lv_has ls 2 [(0, .ref ha0), (1, .int p1)] := hl
  refine lv_iload_n hx hb dX12_isPlayer_0 rfl (lv_at hl 1 rfl) ?_
  refine lv_if_lt (tgt := 16) hx hb dX12_isPlayer_1 (by decide) (fun hc => ?_) (fun hc => ?_)
  · have q1 : p1.toInt < 0 := z_lt rfl (by decide) hc
    refine lv_iconst (v := 0) hx hb dX12_isPlayer_16 (by decide) ?_
    exact W.zret (v := 0) hx hb hr (rfl) (fun t ht hW => ⟨0, rfl, ⟨by first | decide | omega, by first | decide | omega, (by have e0 : (0 : Int32).toInt = 0 := (by decide); have e1 : (1 : Int32).toInt = 1 := (by decide); have e9 : (-9 : Int32).toInt = -9 := (by decide); omega)⟩, ht⟩) (fun _ h => absurd h List.not_mem_nil) dX12_isPlayer_17
  · have q2 : 0 ≤ p1.toInt := z_nlt rfl (by decide) hc
    refine lv_iload_n hx hb dX12_isPlayer_4 rfl (lv_at hl 1 rfl) ?_
    refine lv_aload_n hx hb dX12_isPlayer_5 rfl (lv_at hl 0 rfl) ?_
    refine va_get (D := (dC, dI)) (ci := 12) (v := .int ia0_9) (C := RX12) (T := TX12) (N := 38) hx hb hts in_X12_isPlayer_X12 hown hK hP 0 rfl rfl 9 (by decide) (hts (.fieldLink RX12 76 "EachOnHisCueModel" "players" "I") (by decide +kernel)) (fun _ h9 => h9) rfl dX12_isPlayer_6 ?_
    refine lv_icmp_ge (tgt := 16) hx hb dX12_isPlayer_9 (by decide) (fun hc => ?_) (fun hc => ?_)
    · have q3 : ia0_9.toInt ≤ p1.toInt := z_le rfl rfl hc
      refine lv_iconst (v := 0) hx hb dX12_isPlayer_16 (by decide) ?_
      exact W.zret (v := 0) hx hb hr (rfl) (fun t ht hW => ⟨0, rfl, ⟨by first | decide | omega, by first | decide | omega, (by have e0 : (0 : Int32).toInt = 0 := (by decide); have e1 : (1 : Int32).toInt = 1 := (by decide); have e9 : (-9 : Int32).toInt = -9 := (by decide); omega)⟩, ht⟩) (fun _ h => absurd h List.not_mem_nil) dX12_isPlayer_17
    · have q4 : p1.toInt < ia0_9.toInt := z_nle rfl rfl hc
      refine lv_iconst (v := 1) hx hb dX12_isPlayer_12 (by decide) ?_
      refine lv_goto (tgt := 17) hx hb dX12_isPlayer_13 (by decide) ?_
      exact W.zret (v := 1) hx hb hr (rfl) (fun t ht hW => ⟨1, rfl, ⟨by first | decide | omega, by first | decide | omega, (by have e0 : (0 : Int32).toInt = 0 := (by decide); have e1 : (1 : Int32).toInt = 1 := (by decide); have e9 : (-9 : Int32).toInt = -9 := (by decide); omega)⟩, ht⟩) (fun _ h => absurd h List.not_mem_nil) dX12_isPlayer_17
set_option maxRecDepth 20000 in
theorem edX12_isLine_0 : decode cX12_isLine 0 = .ok (.iload_n 1, 1) ∧ decode cX12_isLine 1 = .ok (.ifCond .lt 15, 3) ∧ decode cX12_isLine 4 = .ok (.iload_n 1, 1) ∧ decode cX12_isLine 5 = .ok (.aload_n 0, 1) ∧ decode cX12_isLine 6 = .ok (.getfield 79, 3) ∧ decode cX12_isLine 9 = .ok (.if_icmp .ge 7, 3) ∧ decode cX12_isLine 12 = .ok (.iconst 1, 1) ∧ decode cX12_isLine 13 = .ok (.goto 4, 3) ∧ decode cX12_isLine 16 = .ok (.iconst 0, 1) ∧ decode cX12_isLine 17 = .ok (.ireturn, 1) := by decide +kernel
theorem dX12_isLine_0 : decode cX12_isLine 0 = .ok (.iload_n 1, 1) := edX12_isLine_0.1
theorem dX12_isLine_1 : decode cX12_isLine 1 = .ok (.ifCond .lt 15, 3) := edX12_isLine_0.2.1
theorem dX12_isLine_4 : decode cX12_isLine 4 = .ok (.iload_n 1, 1) := edX12_isLine_0.2.2.1
theorem dX12_isLine_5 : decode cX12_isLine 5 = .ok (.aload_n 0, 1) := edX12_isLine_0.2.2.2.1
theorem dX12_isLine_6 : decode cX12_isLine 6 = .ok (.getfield 79, 3) := edX12_isLine_0.2.2.2.2.1
theorem dX12_isLine_9 : decode cX12_isLine 9 = .ok (.if_icmp .ge 7, 3) := edX12_isLine_0.2.2.2.2.2.1
theorem dX12_isLine_12 : decode cX12_isLine 12 = .ok (.iconst 1, 1) := edX12_isLine_0.2.2.2.2.2.2.1
theorem dX12_isLine_13 : decode cX12_isLine 13 = .ok (.goto 4, 3) := edX12_isLine_0.2.2.2.2.2.2.2.1
theorem dX12_isLine_16 : decode cX12_isLine 16 = .ok (.iconst 0, 1) := edX12_isLine_0.2.2.2.2.2.2.2.2.1
theorem dX12_isLine_17 : decode cX12_isLine 17 = .ok (.ireturn, 1) := edX12_isLine_0.2.2.2.2.2.2.2.2.2
noncomputable def voX12_isLine : List Cond := [.fieldLink RX12 79 "EachOnHisCueModel" "lines" "I"]
noncomputable def vsX12_isLine : List Cond := .code yX12_isLine cX12_isLine 2 (some .boolean) :: (voX12_isLine ++ (wsX120))
theorem zgX12_isLine : zGd vsX12_isLine := z_gdC rfl (z_gdA (z_gdO (by decide +kernel) : zGd voX12_isLine) (zgX12))
theorem in_X12_isLine_X12 : ∀ w ∈ wsX120, w ∈ vsX12_isLine := fun _ h => List.mem_cons_of_mem _ (List.mem_append_right _ (h))
set_option maxHeartbeats 4000000 in
set_option maxRecDepth 100000 in
theorem rX12_isLine (l : Launch) (dC : Nat → ClassId) (dI : Nat → Nat → Nat) (cI cQ : ClassId) (ha0 ha0_0 ha0_1 ha0_2 ha0_3 ha0_4 ha0_5 ha0_6 ha0_7 ha0_8 ha0_16 ha0_17 ha0_18 ha0_19 ha0_23 ha0_29 ha0_33 ha0_34 ha0_35 : Nat) (ia0_9 : Int32) (hia0_9l : 0 ≤ ia0_9.toInt) (hia0_9h : ia0_9.toInt ≤ 5) (ia0_10 : Int32) (hia0_10l : 0 ≤ ia0_10.toInt) (hia0_10h : ia0_10.toInt ≤ 12) (ia0_11 : Int32) (ia0_12 : Int32) (ia0_13 : Int32) (ia0_14 : Int32) (hia0_14l : (-9) ≤ ia0_14.toInt) (hia0_14h : ia0_14.toInt ≤ 11) (ia0_15 : Int32) (ia0_20 : Int32) (hia0_20l : 0 ≤ ia0_20.toInt) (hia0_20h : ia0_20.toInt ≤ 80) (ia0_21 : Int32) (hia0_21l : 0 ≤ ia0_21.toInt) (hia0_21h : ia0_21.toInt ≤ 80) (ia0_22 : Int32) (hia0_22l : 0 ≤ ia0_22.toInt) (hia0_22h : ia0_22.toInt ≤ 40) (ia0_24 : Int32) (hia0_24l : 0 ≤ ia0_24.toInt) (hia0_24h : ia0_24.toInt ≤ 1) (ia0_25 : Int32) (hia0_25l : 0 ≤ ia0_25.toInt) (hia0_25h : ia0_25.toInt ≤ 1) (ia0_26 : Int32) (hia0_26l : 0 ≤ ia0_26.toInt) (hia0_26h : ia0_26.toInt ≤ 300) (ia0_27 : Int32) (hia0_27l : (-9) ≤ ia0_27.toInt) (hia0_27h : ia0_27.toInt ≤ 11) (ia0_28 : Int32) (ia0_30 : Int32) (hia0_30l : 0 ≤ ia0_30.toInt) (hia0_30h : ia0_30.toInt ≤ 60) (ia0_31 : Int32) (ia0_32 : Int32) (hia0_32l : 0 ≤ ia0_32.toInt) (hia0_32h : ia0_32.toInt ≤ 1) (ia0_36 : Int32) (hia0_36l : 0 ≤ ia0_36.toInt) (hia0_36h : ia0_36.toInt ≤ 12) (ia0_37 : Int32) (p1 : Int32) : Met l yX12_isLine vsX12_isLine ({ frames := 0, cells := 0, slots := 0, locals := 0 }) (va_Pc [.ref ha0, .int p1] (zRB dC dI cI cQ [(ha0, .inr (12, [.ref ha0_0, .ref ha0_1, .ref ha0_2, .ref ha0_3, .ref ha0_4, .ref ha0_5, .ref ha0_6, .ref ha0_7, .ref ha0_8, .int ia0_9, .int ia0_10, .int ia0_11, .int ia0_12, .int ia0_13, .int ia0_14, .int ia0_15, .ref ha0_16, .ref ha0_17, .ref ha0_18, .ref ha0_19, .int ia0_20, .int ia0_21, .int ia0_22, .ref ha0_23, .int ia0_24, .int ia0_25, .int ia0_26, .int ia0_27, .int ia0_28, .ref ha0_29, .int ia0_30, .int ia0_31, .int ia0_32, .ref ha0_33, .ref ha0_34, .ref ha0_35, .int ia0_36, .int ia0_37]))])) (vp_Si (fun r => 0 ≤ r.toInt ∧ r.toInt ≤ 1 ∧ ((r.toInt = 1 ∧ 0 ≤ p1.toInt ∧ p1.toInt < ia0_10.toInt) ∨ (r.toInt = 0 ∧ (p1.toInt < 0 ∨ ia0_10.toInt ≤ p1.toInt))))) 0 0 (fun _ => False) := by
  refine Met.ofW (cc := cX12_isLine) (maxL := 2) (ret := (some .boolean)) (by decide) rfl ?_
  intro p e s m args below meth c s₁ B hml hv
  obtain ⟨rfl, hP, hZ⟩ := hv
  obtain ⟨hK, hAO, hN⟩ := id hZ
  have hx := B.exec
  have hb := B.bytes
  have hr := B.returns
  have hts := atoms_spec (ws := vsX12_isLine) B.pre
  have hown : s.vm.findClass RX12 = some m.cls := findClass_of_methodNamed B.named
  have hlocks := B.notSynchronized
  have hp1l := z_lo p1
  have hp1h := z_hi p1
  have hl := lv_entry ([.ref ha0, .int p1]) (n := 2) (Nat.le_of_ble_eq_true rfl)
  rw [lg_entry_eq]
  generalize (lg_sl ([.ref ha0, .int p1]) ++ List.replicate (2 - (lg_sl ([.ref ha0, .int p1])).length) Slot.unset).toArray = ls at hl ⊢
  have hl : lv_has ls 2 [(0, .ref ha0), (1, .int p1)] := hl
  refine lv_iload_n hx hb dX12_isLine_0 rfl (lv_at hl 1 rfl) ?_
  refine lv_if_lt (tgt := 16) hx hb dX12_isLine_1 (by decide) (fun hc => ?_) (fun hc => ?_)
  · have q1 : p1.toInt < 0 := z_lt rfl (by decide) hc
    refine lv_iconst (v := 0) hx hb dX12_isLine_16 (by decide) ?_
    exact W.zret (v := 0) hx hb hr (rfl) (fun t ht hW => ⟨0, rfl, ⟨by first | decide | omega, by first | decide | omega, (by have e0 : (0 : Int32).toInt = 0 := (by decide); have e1 : (1 : Int32).toInt = 1 := (by decide); have e9 : (-9 : Int32).toInt = -9 := (by decide); omega)⟩, ht⟩) (fun _ h => absurd h List.not_mem_nil) dX12_isLine_17
  · have q2 : 0 ≤ p1.toInt := z_nlt rfl (by decide) hc
    refine lv_iload_n hx hb dX12_isLine_4 rfl (lv_at hl 1 rfl) ?_
    refine lv_aload_n hx hb dX12_isLine_5 rfl (lv_at hl 0 rfl) ?_
    refine va_get (D := (dC, dI)) (ci := 12) (v := .int ia0_10) (C := RX12) (T := TX12) (N := 38) hx hb hts in_X12_isLine_X12 hown hK hP 0 rfl rfl 10 (by decide) (hts (.fieldLink RX12 79 "EachOnHisCueModel" "lines" "I") (by decide +kernel)) (fun _ h9 => h9) rfl dX12_isLine_6 ?_
    refine lv_icmp_ge (tgt := 16) hx hb dX12_isLine_9 (by decide) (fun hc => ?_) (fun hc => ?_)
    · have q3 : ia0_10.toInt ≤ p1.toInt := z_le rfl rfl hc
      refine lv_iconst (v := 0) hx hb dX12_isLine_16 (by decide) ?_
      exact W.zret (v := 0) hx hb hr (rfl) (fun t ht hW => ⟨0, rfl, ⟨by first | decide | omega, by first | decide | omega, (by have e0 : (0 : Int32).toInt = 0 := (by decide); have e1 : (1 : Int32).toInt = 1 := (by decide); have e9 : (-9 : Int32).toInt = -9 := (by decide); omega)⟩, ht⟩) (fun _ h => absurd h List.not_mem_nil) dX12_isLine_17
    · have q4 : p1.toInt < ia0_10.toInt := z_nle rfl rfl hc
      refine lv_iconst (v := 1) hx hb dX12_isLine_12 (by decide) ?_
      refine lv_goto (tgt := 17) hx hb dX12_isLine_13 (by decide) ?_
      exact W.zret (v := 1) hx hb hr (rfl) (fun t ht hW => ⟨1, rfl, ⟨by first | decide | omega, by first | decide | omega, (by have e0 : (0 : Int32).toInt = 0 := (by decide); have e1 : (1 : Int32).toInt = 1 := (by decide); have e9 : (-9 : Int32).toInt = -9 := (by decide); omega)⟩, ht⟩) (fun _ h => absurd h List.not_mem_nil) dX12_isLine_17
set_option maxRecDepth 20000 in
theorem edX12_next_0 : decode cX12_next 0 = .ok (.aload_n 0, 1) ∧ decode cX12_next 1 = .ok (.getfield 93, 3) ∧ decode cX12_next 4 = .ok (.aload_n 0, 1) ∧ decode cX12_next 5 = .ok (.getfield 86, 3) ∧ decode cX12_next 8 = .ok (.if_icmp .ge 15, 3) ∧ decode cX12_next 11 = .ok (.aload_n 0, 1) ∧ decode cX12_next 12 = .ok (.getfield 44, 3) ∧ decode cX12_next 15 = .ok (.aload_n 0, 1) ∧ decode cX12_next 16 = .ok (.getfield 93, 3) ∧ decode cX12_next 19 = .ok (.iaload, 1) ∧ decode cX12_next 20 = .ok (.goto 4, 3) ∧ decode cX12_next 23 = .ok (.iconst (-1), 1) := by decide +kernel
theorem dX12_next_0 : decode cX12_next 0 = .ok (.aload_n 0, 1) := edX12_next_0.1
theorem dX12_next_1 : decode cX12_next 1 = .ok (.getfield 93, 3) := edX12_next_0.2.1
theorem dX12_next_4 : decode cX12_next 4 = .ok (.aload_n 0, 1) := edX12_next_0.2.2.1
theorem dX12_next_5 : decode cX12_next 5 = .ok (.getfield 86, 3) := edX12_next_0.2.2.2.1
theorem dX12_next_8 : decode cX12_next 8 = .ok (.if_icmp .ge 15, 3) := edX12_next_0.2.2.2.2.1
theorem dX12_next_11 : decode cX12_next 11 = .ok (.aload_n 0, 1) := edX12_next_0.2.2.2.2.2.1
theorem dX12_next_12 : decode cX12_next 12 = .ok (.getfield 44, 3) := edX12_next_0.2.2.2.2.2.2.1
theorem dX12_next_15 : decode cX12_next 15 = .ok (.aload_n 0, 1) := edX12_next_0.2.2.2.2.2.2.2.1
theorem dX12_next_16 : decode cX12_next 16 = .ok (.getfield 93, 3) := edX12_next_0.2.2.2.2.2.2.2.2.1
theorem dX12_next_19 : decode cX12_next 19 = .ok (.iaload, 1) := edX12_next_0.2.2.2.2.2.2.2.2.2.1
theorem dX12_next_20 : decode cX12_next 20 = .ok (.goto 4, 3) := edX12_next_0.2.2.2.2.2.2.2.2.2.2.1
theorem dX12_next_23 : decode cX12_next 23 = .ok (.iconst (-1), 1) := edX12_next_0.2.2.2.2.2.2.2.2.2.2.2
theorem dX12_next_24 : decode cX12_next 24 = .ok (.ireturn, 1) := by decide +kernel
noncomputable def voX12_next : List Cond := [.fieldLink RX12 93 "EachOnHisCueModel" "at" "I", .fieldLink RX12 86 "EachOnHisCueModel" "taped" "I", .fieldLink RX12 44 "EachOnHisCueModel" "tape" "[I"]
noncomputable def vsX12_next : List Cond := .code yX12_next cX12_next 1 (some .int) :: (voX12_next ++ (wsX120))
theorem zgX12_next : zGd vsX12_next := z_gdC rfl (z_gdA (z_gdO (by decide +kernel) : zGd voX12_next) (zgX12))
theorem in_X12_next_X12 : ∀ w ∈ wsX120, w ∈ vsX12_next := fun _ h => List.mem_cons_of_mem _ (List.mem_append_right _ (h))
set_option maxHeartbeats 4000000 in
set_option maxRecDepth 100000 in
theorem rX12_next (l : Launch) (dC : Nat → ClassId) (dI : Nat → Nat → Nat) (cI cQ : ClassId) (ha0 ha0_16 ha0_0 ha0_1 ha0_2 ha0_3 ha0_4 ha0_5 ha0_6 ha0_7 ha0_8 ha0_17 ha0_18 ha0_19 ha0_23 ha0_29 ha0_33 ha0_34 ha0_35 : Nat) (fa0_16 : Nat → Int32) (hBfa0_16 : ∀ k, 0 ≤ (fa0_16 k).toInt ∧ (fa0_16 k).toInt ≤ 255) (ia0_9 : Int32) (hia0_9l : 0 ≤ ia0_9.toInt) (hia0_9h : ia0_9.toInt ≤ 5) (ia0_10 : Int32) (hia0_10l : 0 ≤ ia0_10.toInt) (hia0_10h : ia0_10.toInt ≤ 12) (ia0_11 : Int32) (ia0_12 : Int32) (ia0_13 : Int32) (ia0_14 : Int32) (hia0_14l : (-9) ≤ ia0_14.toInt) (hia0_14h : ia0_14.toInt ≤ 11) (ia0_15 : Int32) (ia0_20 : Int32) (hia0_20l : 0 ≤ ia0_20.toInt) (hia0_20h : ia0_20.toInt ≤ 80) (ia0_21 : Int32) (hia0_21l : 0 ≤ ia0_21.toInt) (hia0_21h : ia0_21.toInt ≤ 80) (ia0_22 : Int32) (hia0_22l : 0 ≤ ia0_22.toInt) (hia0_22h : ia0_22.toInt ≤ 40) (ia0_24 : Int32) (hia0_24l : 0 ≤ ia0_24.toInt) (hia0_24h : ia0_24.toInt ≤ 1) (ia0_25 : Int32) (hia0_25l : 0 ≤ ia0_25.toInt) (hia0_25h : ia0_25.toInt ≤ 1) (ia0_26 : Int32) (hia0_26l : 0 ≤ ia0_26.toInt) (hia0_26h : ia0_26.toInt ≤ 300) (ia0_27 : Int32) (hia0_27l : (-9) ≤ ia0_27.toInt) (hia0_27h : ia0_27.toInt ≤ 11) (ia0_28 : Int32) (ia0_30 : Int32) (hia0_30l : 0 ≤ ia0_30.toInt) (hia0_30h : ia0_30.toInt ≤ 60) (ia0_31 : Int32) (ia0_32 : Int32) (hia0_32l : 0 ≤ ia0_32.toInt) (hia0_32h : ia0_32.toInt ≤ 1) (ia0_36 : Int32) (hia0_36l : 0 ≤ ia0_36.toInt) (hia0_36h : ia0_36.toInt ≤ 12) (ia0_37 : Int32) : Met l yX12_next vsX12_next ({ frames := 0, cells := 0, slots := 0, locals := 0 }) (va_Pc [.ref ha0] (zRB dC dI cI cQ [(ha0_16, .inl (cI, 80, .inl fa0_16)), (ha0, .inr (12, [.ref ha0_0, .ref ha0_1, .ref ha0_2, .ref ha0_3, .ref ha0_4, .ref ha0_5, .ref ha0_6, .ref ha0_7, .ref ha0_8, .int ia0_9, .int ia0_10, .int ia0_11, .int ia0_12, .int ia0_13, .int ia0_14, .int ia0_15, .ref ha0_16, .ref ha0_17, .ref ha0_18, .ref ha0_19, .int ia0_20, .int ia0_21, .int ia0_22, .ref ha0_23, .int ia0_24, .int ia0_25, .int ia0_26, .int ia0_27, .int ia0_28, .ref ha0_29, .int ia0_30, .int ia0_31, .int ia0_32, .ref ha0_33, .ref ha0_34, .ref ha0_35, .int ia0_36, .int ia0_37]))])) (vp_Si (fun r => (-1) ≤ r.toInt ∧ r.toInt ≤ 255 ∧ ((ia0_21.toInt < ia0_20.toInt ∧ r.toInt = zAt fa0_16 ia0_20.toInt ia0_21.toInt) ∨ (ia0_20.toInt ≤ ia0_21.toInt ∧ r.toInt = -1)))) 0 0 (fun _ => False) := by
  refine Met.ofW (cc := cX12_next) (maxL := 1) (ret := (some .int)) (by decide) rfl ?_
  intro p e s m args below meth c s₁ B hml hv
  obtain ⟨rfl, hP, hZ⟩ := hv
  obtain ⟨hK, hAO, hN⟩ := id hZ
  have hx := B.exec
  have hb := B.bytes
  have hr := B.returns
  have hts := atoms_spec (ws := vsX12_next) B.pre
  have hown : s.vm.findClass RX12 = some m.cls := findClass_of_methodNamed B.named
  have hlocks := B.notSynchronized
  have hl := lv_entry ([.ref ha0]) (n := 1) (Nat.le_of_ble_eq_true rfl)
  rw [lg_entry_eq]
  generalize (lg_sl ([.ref ha0]) ++ List.replicate (1 - (lg_sl ([.ref ha0])).length) Slot.unset).toArray = ls at hl ⊢
  have hl : lv_has ls 1 [(0, .ref ha0)] := hl
  refine lv_aload_n hx hb dX12_next_0 rfl (lv_at hl 0 rfl) ?_
  refine va_get (D := (dC, dI)) (ci := 12) (v := .int ia0_21) (C := RX12) (T := TX12) (N := 38) hx hb hts in_X12_next_X12 hown hK hP 1 rfl rfl 21 (by decide) (hts (.fieldLink RX12 93 "EachOnHisCueModel" "at" "I") (by decide +kernel)) (fun _ h9 => h9) rfl dX12_next_1 ?_
  refine lv_aload_n hx hb dX12_next_4 rfl (lv_at hl 0 rfl) ?_
  refine va_get (D := (dC, dI)) (ci := 12) (v := .int ia0_20) (C := RX12) (T := TX12) (N := 38) hx hb hts in_X12_next_X12 hown hK hP 1 rfl rfl 20 (by decide) (hts (.fieldLink RX12 86 "EachOnHisCueModel" "taped" "I") (by decide +kernel)) (fun _ h9 => h9) rfl dX12_next_5 ?_
  refine lv_icmp_ge (tgt := 23) hx hb dX12_next_8 (by decide) (fun hc => ?_) (fun hc => ?_)
  · have q1 : ia0_20.toInt ≤ ia0_21.toInt := z_le rfl rfl hc
    refine lv_iconst (v := (-1)) hx hb dX12_next_23 (by decide) ?_
    exact W.iret (v := (-1)) hx hb hr (fun t ht hW => ⟨(-1), rfl, ⟨by first | decide | omega, by first | decide | omega, (by first | exact Or.inl ⟨by omega, z_atE (by assumption) rfl (by omega) (by omega)⟩ | exact Or.inr ⟨by omega, by decide⟩)⟩, ht⟩) (fun _ h => absurd h List.not_mem_nil) dX12_next_24
  · have q2 : ia0_21.toInt < ia0_20.toInt := z_nle rfl rfl hc
    refine lv_aload_n hx hb dX12_next_11 rfl (lv_at hl 0 rfl) ?_
    refine va_get (D := (dC, dI)) (ci := 12) (v := .ref ha0_16) (C := RX12) (T := TX12) (N := 38) hx hb hts in_X12_next_X12 hown hK hP 1 rfl rfl 16 (by decide) (hts (.fieldLink RX12 44 "EachOnHisCueModel" "tape" "[I") (by decide +kernel)) (fun _ h9 => h9) rfl dX12_next_12 ?_
    refine lv_aload_n hx hb dX12_next_15 rfl (lv_at hl 0 rfl) ?_
    refine va_get (D := (dC, dI)) (ci := 12) (v := .int ia0_21) (C := RX12) (T := TX12) (N := 38) hx hb hts in_X12_next_X12 hown hK hP 1 rfl rfl 21 (by decide) (hts (.fieldLink RX12 93 "EachOnHisCueModel" "at" "I") (by decide +kernel)) (fun _ h9 => h9) rfl dX12_next_16 ?_
    refine va_iald hx hb hK hP 0 0 rfl rfl (z_in (by omega) (by omega)) dX12_next_19 ?_
    refine lv_topi (fun y3 ey3 => ?_)
    have gy3 : y3.toInt = (fa0_16 (ia0_21 : Int32).toNatClampNeg).toInt := by rw [ey3]
    have hy3 : 0 ≤ y3.toInt ∧ y3.toInt ≤ 255 := by rw [ey3]; exact hBfa0_16 _
    obtain ⟨hy3, hy3_⟩ := hy3
    refine lv_goto (tgt := 24) hx hb dX12_next_20 (by decide) ?_
    exact W.iret (v := y3) hx hb hr (fun t ht hW => ⟨y3, rfl, ⟨by first | decide | omega, by first | decide | omega, (by first | exact Or.inl ⟨by omega, z_atE (by assumption) rfl (by omega) (by omega)⟩ | exact Or.inr ⟨by omega, by decide⟩)⟩, ht⟩) (fun _ h => absurd h List.not_mem_nil) dX12_next_24
set_option maxRecDepth 20000 in
theorem edX12_hasteOf_0 : decode cX12_hasteOf 0 = .ok (.aload_n 0, 1) ∧ decode cX12_hasteOf 1 = .ok (.getfield 13, 3) ∧ decode cX12_hasteOf 4 = .ok (.iload_n 1, 1) ∧ decode cX12_hasteOf 5 = .ok (.iaload, 1) ∧ decode cX12_hasteOf 6 = .ok (.iconst 2, 1) ∧ decode cX12_hasteOf 7 = .ok (.if_icmp .ne 16, 3) ∧ decode cX12_hasteOf 10 = .ok (.iconst 2, 1) ∧ decode cX12_hasteOf 11 = .ok (.aload_n 0, 1) ∧ decode cX12_hasteOf 12 = .ok (.getfield 19, 3) ∧ decode cX12_hasteOf 15 = .ok (.iload_n 1, 1) ∧ decode cX12_hasteOf 16 = .ok (.iaload, 1) ∧ decode cX12_hasteOf 17 = .ok (.imul, 1) := by decide +kernel
theorem dX12_hasteOf_0 : decode cX12_hasteOf 0 = .ok (.aload_n 0, 1) := edX12_hasteOf_0.1
theorem dX12_hasteOf_1 : decode cX12_hasteOf 1 = .ok (.getfield 13, 3) := edX12_hasteOf_0.2.1
theorem dX12_hasteOf_4 : decode cX12_hasteOf 4 = .ok (.iload_n 1, 1) := edX12_hasteOf_0.2.2.1
theorem dX12_hasteOf_5 : decode cX12_hasteOf 5 = .ok (.iaload, 1) := edX12_hasteOf_0.2.2.2.1
theorem dX12_hasteOf_6 : decode cX12_hasteOf 6 = .ok (.iconst 2, 1) := edX12_hasteOf_0.2.2.2.2.1
theorem dX12_hasteOf_7 : decode cX12_hasteOf 7 = .ok (.if_icmp .ne 16, 3) := edX12_hasteOf_0.2.2.2.2.2.1
theorem dX12_hasteOf_10 : decode cX12_hasteOf 10 = .ok (.iconst 2, 1) := edX12_hasteOf_0.2.2.2.2.2.2.1
theorem dX12_hasteOf_11 : decode cX12_hasteOf 11 = .ok (.aload_n 0, 1) := edX12_hasteOf_0.2.2.2.2.2.2.2.1
theorem dX12_hasteOf_12 : decode cX12_hasteOf 12 = .ok (.getfield 19, 3) := edX12_hasteOf_0.2.2.2.2.2.2.2.2.1
theorem dX12_hasteOf_15 : decode cX12_hasteOf 15 = .ok (.iload_n 1, 1) := edX12_hasteOf_0.2.2.2.2.2.2.2.2.2.1
theorem dX12_hasteOf_16 : decode cX12_hasteOf 16 = .ok (.iaload, 1) := edX12_hasteOf_0.2.2.2.2.2.2.2.2.2.2.1
theorem dX12_hasteOf_17 : decode cX12_hasteOf 17 = .ok (.imul, 1) := edX12_hasteOf_0.2.2.2.2.2.2.2.2.2.2.2
set_option maxRecDepth 20000 in
theorem edX12_hasteOf_18 : decode cX12_hasteOf 18 = .ok (.iconst 1, 1) ∧ decode cX12_hasteOf 19 = .ok (.iadd, 1) ∧ decode cX12_hasteOf 20 = .ok (.goto 9, 3) ∧ decode cX12_hasteOf 23 = .ok (.aload_n 0, 1) ∧ decode cX12_hasteOf 24 = .ok (.getfield 19, 3) ∧ decode cX12_hasteOf 27 = .ok (.iload_n 1, 1) ∧ decode cX12_hasteOf 28 = .ok (.iaload, 1) ∧ decode cX12_hasteOf 29 = .ok (.ireturn, 1) := by decide +kernel
theorem dX12_hasteOf_18 : decode cX12_hasteOf 18 = .ok (.iconst 1, 1) := edX12_hasteOf_18.1
theorem dX12_hasteOf_19 : decode cX12_hasteOf 19 = .ok (.iadd, 1) := edX12_hasteOf_18.2.1
theorem dX12_hasteOf_20 : decode cX12_hasteOf 20 = .ok (.goto 9, 3) := edX12_hasteOf_18.2.2.1
theorem dX12_hasteOf_23 : decode cX12_hasteOf 23 = .ok (.aload_n 0, 1) := edX12_hasteOf_18.2.2.2.1
theorem dX12_hasteOf_24 : decode cX12_hasteOf 24 = .ok (.getfield 19, 3) := edX12_hasteOf_18.2.2.2.2.1
theorem dX12_hasteOf_27 : decode cX12_hasteOf 27 = .ok (.iload_n 1, 1) := edX12_hasteOf_18.2.2.2.2.2.1
theorem dX12_hasteOf_28 : decode cX12_hasteOf 28 = .ok (.iaload, 1) := edX12_hasteOf_18.2.2.2.2.2.2.1
theorem dX12_hasteOf_29 : decode cX12_hasteOf 29 = .ok (.ireturn, 1) := edX12_hasteOf_18.2.2.2.2.2.2.2
noncomputable def voX12_hasteOf : List Cond := [.fieldLink RX12 13 "EachOnHisCueModel" "kind" "[I", .fieldLink RX12 19 "EachOnHisCueModel" "speed" "[I"]
noncomputable def vsX12_hasteOf : List Cond := .code yX12_hasteOf cX12_hasteOf 2 (some .int) :: (voX12_hasteOf ++ (wsX120))
theorem zgX12_hasteOf : zGd vsX12_hasteOf := z_gdC rfl (z_gdA (z_gdO (by decide +kernel) : zGd voX12_hasteOf) (zgX12))
theorem in_X12_hasteOf_X12 : ∀ w ∈ wsX120, w ∈ vsX12_hasteOf := fun _ h => List.mem_cons_of_mem _ (List.mem_append_right _ (h))
set_option maxHeartbeats 4000000 in
set_option maxRecDepth 100000 in
theorem rX12_hasteOf (l : Launch) (dC : Nat → ClassId) (dI : Nat → Nat → Nat) (cI cQ : ClassId) (ha0 ha0_1 ha0_3 ha0_0 ha0_2 ha0_4 ha0_5 ha0_6 ha0_7 ha0_8 ha0_16 ha0_17 ha0_18 ha0_19 ha0_23 ha0_29 ha0_33 ha0_34 ha0_35 : Nat) (fa0_1 : Nat → Int32) (fa0_3 : Nat → Int32) (ia0_9 : Int32) (hia0_9l : 0 ≤ ia0_9.toInt) (hia0_9h : ia0_9.toInt ≤ 5) (ia0_10 : Int32) (hia0_10l : 0 ≤ ia0_10.toInt) (hia0_10h : ia0_10.toInt ≤ 12) (ia0_11 : Int32) (ia0_12 : Int32) (ia0_13 : Int32) (ia0_14 : Int32) (hia0_14l : (-9) ≤ ia0_14.toInt) (hia0_14h : ia0_14.toInt ≤ 11) (ia0_15 : Int32) (ia0_20 : Int32) (hia0_20l : 0 ≤ ia0_20.toInt) (hia0_20h : ia0_20.toInt ≤ 80) (ia0_21 : Int32) (hia0_21l : 0 ≤ ia0_21.toInt) (hia0_21h : ia0_21.toInt ≤ 80) (ia0_22 : Int32) (hia0_22l : 0 ≤ ia0_22.toInt) (hia0_22h : ia0_22.toInt ≤ 40) (ia0_24 : Int32) (hia0_24l : 0 ≤ ia0_24.toInt) (hia0_24h : ia0_24.toInt ≤ 1) (ia0_25 : Int32) (hia0_25l : 0 ≤ ia0_25.toInt) (hia0_25h : ia0_25.toInt ≤ 1) (ia0_26 : Int32) (hia0_26l : 0 ≤ ia0_26.toInt) (hia0_26h : ia0_26.toInt ≤ 300) (ia0_27 : Int32) (hia0_27l : (-9) ≤ ia0_27.toInt) (hia0_27h : ia0_27.toInt ≤ 11) (ia0_28 : Int32) (ia0_30 : Int32) (hia0_30l : 0 ≤ ia0_30.toInt) (hia0_30h : ia0_30.toInt ≤ 60) (ia0_31 : Int32) (ia0_32 : Int32) (hia0_32l : 0 ≤ ia0_32.toInt) (hia0_32h : ia0_32.toInt ≤ 1) (ia0_36 : Int32) (hia0_36l : 0 ≤ ia0_36.toInt) (hia0_36h : ia0_36.toInt ≤ 12) (ia0_37 : Int32) (p1 : Int32) (hp1l : 0 ≤ p1.toInt) (hp1h : p1.toInt ≤ 4) : Met l yX12_hasteOf vsX12_hasteOf ({ frames := 0, cells := 0, slots := 0, locals := 0 }) (va_Pc [.ref ha0, .int p1] (zRB dC dI cI cQ [(ha0_1, .inl (cI, 5, .inl fa0_1)), (ha0_3, .inl (cI, 5, .inl fa0_3)), (ha0, .inr (12, [.ref ha0_0, .ref ha0_1, .ref ha0_2, .ref ha0_3, .ref ha0_4, .ref ha0_5, .ref ha0_6, .ref ha0_7, .ref ha0_8, .int ia0_9, .int ia0_10, .int ia0_11, .int ia0_12, .int ia0_13, .int ia0_14, .int ia0_15, .ref ha0_16, .ref ha0_17, .ref ha0_18, .ref ha0_19, .int ia0_20, .int ia0_21, .int ia0_22, .ref ha0_23, .int ia0_24, .int ia0_25, .int ia0_26, .int ia0_27, .int ia0_28, .ref ha0_29, .int ia0_30, .int ia0_31, .int ia0_32, .ref ha0_33, .ref ha0_34, .ref ha0_35, .int ia0_36, .int ia0_37]))])) (vp_Si (fun r => (-2147483648) ≤ r.toInt ∧ r.toInt ≤ 2147483647 ∧ (r = zHs fa0_1 fa0_3 p1.toNatClampNeg))) 0 0 (fun _ => False) := by
  refine Met.ofW (cc := cX12_hasteOf) (maxL := 2) (ret := (some .int)) (by decide) rfl ?_
  intro p e s m args below meth c s₁ B hml hv
  obtain ⟨rfl, hP, hZ⟩ := hv
  obtain ⟨hK, hAO, hN⟩ := id hZ
  have hx := B.exec
  have hb := B.bytes
  have hr := B.returns
  have hts := atoms_spec (ws := vsX12_hasteOf) B.pre
  have hown : s.vm.findClass RX12 = some m.cls := findClass_of_methodNamed B.named
  have hlocks := B.notSynchronized
  have hl := lv_entry ([.ref ha0, .int p1]) (n := 2) (Nat.le_of_ble_eq_true rfl)
  rw [lg_entry_eq]
  generalize (lg_sl ([.ref ha0, .int p1]) ++ List.replicate (2 - (lg_sl ([.ref ha0, .int p1])).length) Slot.unset).toArray = ls at hl ⊢
  have hl : lv_has ls 2 [(0, .ref ha0), (1, .int p1)] := hl
  refine lv_aload_n hx hb dX12_hasteOf_0 rfl (lv_at hl 0 rfl) ?_
  refine va_get (D := (dC, dI)) (ci := 12) (v := .ref ha0_1) (C := RX12) (T := TX12) (N := 38) hx hb hts in_X12_hasteOf_X12 hown hK hP 2 rfl rfl 1 (by decide) (hts (.fieldLink RX12 13 "EachOnHisCueModel" "kind" "[I") (by decide +kernel)) (fun _ h9 => h9) rfl dX12_hasteOf_1 ?_
  refine lv_iload_n hx hb dX12_hasteOf_4 rfl (lv_at hl 1 rfl) ?_
  refine va_iald hx hb hK hP 0 0 rfl rfl (z_in (by omega) (by omega)) dX12_hasteOf_5 ?_
  refine lv_topi (fun y1 ey1 => ?_)
  have gy1 : y1.toInt = (fa0_1 (p1 : Int32).toNatClampNeg).toInt := by rw [ey1]
  refine lv_iconst (v := 2) hx hb dX12_hasteOf_6 (by decide) ?_
  refine lv_icmp_ne (tgt := 23) hx hb dX12_hasteOf_7 (by decide) (fun hc => ?_) (fun hc => ?_)
  · have q2 : y1.toInt ≠ 2 := z_ne rfl (by decide) hc
    refine lv_aload_n hx hb dX12_hasteOf_23 rfl (lv_at hl 0 rfl) ?_
    refine va_get (D := (dC, dI)) (ci := 12) (v := .ref ha0_3) (C := RX12) (T := TX12) (N := 38) hx hb hts in_X12_hasteOf_X12 hown hK hP 2 rfl rfl 3 (by decide) (hts (.fieldLink RX12 19 "EachOnHisCueModel" "speed" "[I") (by decide +kernel)) (fun _ h9 => h9) rfl dX12_hasteOf_24 ?_
    refine lv_iload_n hx hb dX12_hasteOf_27 rfl (lv_at hl 1 rfl) ?_
    refine va_iald hx hb hK hP 1 0 rfl rfl (z_in (by omega) (by omega)) dX12_hasteOf_28 ?_
    refine lv_topi (fun y3 ey3 => ?_)
    have gy3 : y3.toInt = (fa0_3 (p1 : Int32).toNatClampNeg).toInt := by rw [ey3]
    exact W.iret (v := y3) hx hb hr (fun t ht hW => ⟨y3, rfl, ⟨z_lo _, z_hi _, (by exact z_hsN (c := (y1 : Int32).toInt) (by rw [ey1]) (by omega) rfl ey3)⟩, ht⟩) (fun _ h => absurd h List.not_mem_nil) dX12_hasteOf_29
  · have q4 : y1.toInt = 2 := z_eq rfl (by decide) hc
    refine lv_iconst (v := 2) hx hb dX12_hasteOf_10 (by decide) ?_
    refine lv_aload_n hx hb dX12_hasteOf_11 rfl (lv_at hl 0 rfl) ?_
    refine va_get (D := (dC, dI)) (ci := 12) (v := .ref ha0_3) (C := RX12) (T := TX12) (N := 38) hx hb hts in_X12_hasteOf_X12 hown hK hP 2 rfl rfl 3 (by decide) (hts (.fieldLink RX12 19 "EachOnHisCueModel" "speed" "[I") (by decide +kernel)) (fun _ h9 => h9) rfl dX12_hasteOf_12 ?_
    refine lv_iload_n hx hb dX12_hasteOf_15 rfl (lv_at hl 1 rfl) ?_
    refine va_iald hx hb hK hP 1 0 rfl rfl (z_in (by omega) (by omega)) dX12_hasteOf_16 ?_
    refine lv_topi (fun y5 ey5 => ?_)
    have gy5 : y5.toInt = (fa0_3 (p1 : Int32).toNatClampNeg).toInt := by rw [ey5]
    refine lv_imul hx hb dX12_hasteOf_17 ?_
    refine lv_topi (fun y6 ey6 => ?_)
    refine lv_iconst (v := 1) hx hb dX12_hasteOf_18 (by decide) ?_
    refine lv_iadd hx hb dX12_hasteOf_19 ?_
    refine lv_topi (fun y7 ey7 => ?_)
    refine lv_goto (tgt := 29) hx hb dX12_hasteOf_20 (by decide) ?_
    exact W.iret (v := y7) hx hb hr (fun t ht hW => ⟨y7, rfl, ⟨z_lo _, z_hi _, (by exact z_hsQ (by rw [← ey1]; omega) (by rw [ey7, ey6]) ey5)⟩, ht⟩) (fun _ h => absurd h List.not_mem_nil) dX12_hasteOf_29
set_option maxRecDepth 20000 in
theorem edX12_linesOf_0 : decode cX12_linesOf 0 = .ok (.iconst 0, 1) ∧ decode cX12_linesOf 1 = .ok (.istore_n 2, 1) ∧ decode cX12_linesOf 2 = .ok (.iconst 0, 1) ∧ decode cX12_linesOf 3 = .ok (.istore_n 3, 1) ∧ decode cX12_linesOf 4 = .ok (.iload_n 3, 1) ∧ decode cX12_linesOf 5 = .ok (.aload_n 0, 1) ∧ decode cX12_linesOf 6 = .ok (.getfield 79, 3) ∧ decode cX12_linesOf 9 = .ok (.if_icmp .ge 29, 3) ∧ decode cX12_linesOf 12 = .ok (.iload_n 2, 1) ∧ decode cX12_linesOf 13 = .ok (.aload_n 0, 1) ∧ decode cX12_linesOf 14 = .ok (.getfield 22, 3) ∧ decode cX12_linesOf 17 = .ok (.iload_n 3, 1) := by decide +kernel
theorem dX12_linesOf_0 : decode cX12_linesOf 0 = .ok (.iconst 0, 1) := edX12_linesOf_0.1
theorem dX12_linesOf_1 : decode cX12_linesOf 1 = .ok (.istore_n 2, 1) := edX12_linesOf_0.2.1
theorem dX12_linesOf_2 : decode cX12_linesOf 2 = .ok (.iconst 0, 1) := edX12_linesOf_0.2.2.1
theorem dX12_linesOf_3 : decode cX12_linesOf 3 = .ok (.istore_n 3, 1) := edX12_linesOf_0.2.2.2.1
theorem dX12_linesOf_4 : decode cX12_linesOf 4 = .ok (.iload_n 3, 1) := edX12_linesOf_0.2.2.2.2.1
theorem dX12_linesOf_5 : decode cX12_linesOf 5 = .ok (.aload_n 0, 1) := edX12_linesOf_0.2.2.2.2.2.1
theorem dX12_linesOf_6 : decode cX12_linesOf 6 = .ok (.getfield 79, 3) := edX12_linesOf_0.2.2.2.2.2.2.1
theorem dX12_linesOf_9 : decode cX12_linesOf 9 = .ok (.if_icmp .ge 29, 3) := edX12_linesOf_0.2.2.2.2.2.2.2.1
theorem dX12_linesOf_12 : decode cX12_linesOf 12 = .ok (.iload_n 2, 1) := edX12_linesOf_0.2.2.2.2.2.2.2.2.1
theorem dX12_linesOf_13 : decode cX12_linesOf 13 = .ok (.aload_n 0, 1) := edX12_linesOf_0.2.2.2.2.2.2.2.2.2.1
theorem dX12_linesOf_14 : decode cX12_linesOf 14 = .ok (.getfield 22, 3) := edX12_linesOf_0.2.2.2.2.2.2.2.2.2.2.1
theorem dX12_linesOf_17 : decode cX12_linesOf 17 = .ok (.iload_n 3, 1) := edX12_linesOf_0.2.2.2.2.2.2.2.2.2.2.2
set_option maxRecDepth 20000 in
theorem edX12_linesOf_18 : decode cX12_linesOf 18 = .ok (.iaload, 1) ∧ decode cX12_linesOf 19 = .ok (.iload_n 1, 1) ∧ decode cX12_linesOf 20 = .ok (.if_icmp .ne 9, 3) ∧ decode cX12_linesOf 23 = .ok (.iconst 1, 1) ∧ decode cX12_linesOf 24 = .ok (.iload_n 3, 1) ∧ decode cX12_linesOf 25 = .ok (.ishl, 1) ∧ decode cX12_linesOf 26 = .ok (.goto 4, 3) ∧ decode cX12_linesOf 29 = .ok (.iconst 0, 1) ∧ decode cX12_linesOf 30 = .ok (.ior, 1) ∧ decode cX12_linesOf 31 = .ok (.istore_n 2, 1) ∧ decode cX12_linesOf 32 = .ok (.iinc 3 1, 3) ∧ decode cX12_linesOf 35 = .ok (.goto (-31), 3) := by decide +kernel
theorem dX12_linesOf_18 : decode cX12_linesOf 18 = .ok (.iaload, 1) := edX12_linesOf_18.1
theorem dX12_linesOf_19 : decode cX12_linesOf 19 = .ok (.iload_n 1, 1) := edX12_linesOf_18.2.1
theorem dX12_linesOf_20 : decode cX12_linesOf 20 = .ok (.if_icmp .ne 9, 3) := edX12_linesOf_18.2.2.1
theorem dX12_linesOf_23 : decode cX12_linesOf 23 = .ok (.iconst 1, 1) := edX12_linesOf_18.2.2.2.1
theorem dX12_linesOf_24 : decode cX12_linesOf 24 = .ok (.iload_n 3, 1) := edX12_linesOf_18.2.2.2.2.1
theorem dX12_linesOf_25 : decode cX12_linesOf 25 = .ok (.ishl, 1) := edX12_linesOf_18.2.2.2.2.2.1
theorem dX12_linesOf_26 : decode cX12_linesOf 26 = .ok (.goto 4, 3) := edX12_linesOf_18.2.2.2.2.2.2.1
theorem dX12_linesOf_29 : decode cX12_linesOf 29 = .ok (.iconst 0, 1) := edX12_linesOf_18.2.2.2.2.2.2.2.1
theorem dX12_linesOf_30 : decode cX12_linesOf 30 = .ok (.ior, 1) := edX12_linesOf_18.2.2.2.2.2.2.2.2.1
theorem dX12_linesOf_31 : decode cX12_linesOf 31 = .ok (.istore_n 2, 1) := edX12_linesOf_18.2.2.2.2.2.2.2.2.2.1
theorem dX12_linesOf_32 : decode cX12_linesOf 32 = .ok (.iinc 3 1, 3) := edX12_linesOf_18.2.2.2.2.2.2.2.2.2.2.1
theorem dX12_linesOf_35 : decode cX12_linesOf 35 = .ok (.goto (-31), 3) := edX12_linesOf_18.2.2.2.2.2.2.2.2.2.2.2
set_option maxRecDepth 20000 in
theorem edX12_linesOf_38 : decode cX12_linesOf 38 = .ok (.iload_n 2, 1) ∧ decode cX12_linesOf 39 = .ok (.ireturn, 1) := by decide +kernel
theorem dX12_linesOf_38 : decode cX12_linesOf 38 = .ok (.iload_n 2, 1) := edX12_linesOf_38.1
theorem dX12_linesOf_39 : decode cX12_linesOf 39 = .ok (.ireturn, 1) := edX12_linesOf_38.2
noncomputable def voX12_linesOf : List Cond := [.fieldLink RX12 79 "EachOnHisCueModel" "lines" "I", .fieldLink RX12 22 "EachOnHisCueModel" "whose" "[I"]
noncomputable def vsX12_linesOf : List Cond := .code yX12_linesOf cX12_linesOf 4 (some .int) :: (voX12_linesOf ++ (wsX120))
theorem zgX12_linesOf : zGd vsX12_linesOf := z_gdC rfl (z_gdA (z_gdO (by decide +kernel) : zGd voX12_linesOf) (zgX12))
theorem in_X12_linesOf_X12 : ∀ w ∈ wsX120, w ∈ vsX12_linesOf := fun _ h => List.mem_cons_of_mem _ (List.mem_append_right _ (h))
set_option maxHeartbeats 4000000 in
set_option maxRecDepth 100000 in
theorem rX12_linesOf (l : Launch) (dC : Nat → ClassId) (dI : Nat → Nat → Nat) (cI cQ : ClassId) (ha0 ha0_4 ha0_0 ha0_1 ha0_2 ha0_3 ha0_5 ha0_6 ha0_7 ha0_8 ha0_16 ha0_17 ha0_18 ha0_19 ha0_23 ha0_29 ha0_33 ha0_34 ha0_35 : Nat) (fa0_4 : Nat → Int32) (hBfa0_4 : ∀ k, 0 ≤ (fa0_4 k).toInt ∧ (fa0_4 k).toInt ≤ 4) (ia0_9 : Int32) (hia0_9l : 0 ≤ ia0_9.toInt) (hia0_9h : ia0_9.toInt ≤ 5) (ia0_10 : Int32) (hia0_10l : 0 ≤ ia0_10.toInt) (hia0_10h : ia0_10.toInt ≤ 12) (ia0_11 : Int32) (ia0_12 : Int32) (ia0_13 : Int32) (ia0_14 : Int32) (hia0_14l : (-9) ≤ ia0_14.toInt) (hia0_14h : ia0_14.toInt ≤ 11) (ia0_15 : Int32) (ia0_20 : Int32) (hia0_20l : 0 ≤ ia0_20.toInt) (hia0_20h : ia0_20.toInt ≤ 80) (ia0_21 : Int32) (hia0_21l : 0 ≤ ia0_21.toInt) (hia0_21h : ia0_21.toInt ≤ 80) (ia0_22 : Int32) (hia0_22l : 0 ≤ ia0_22.toInt) (hia0_22h : ia0_22.toInt ≤ 40) (ia0_24 : Int32) (hia0_24l : 0 ≤ ia0_24.toInt) (hia0_24h : ia0_24.toInt ≤ 1) (ia0_25 : Int32) (hia0_25l : 0 ≤ ia0_25.toInt) (hia0_25h : ia0_25.toInt ≤ 1) (ia0_26 : Int32) (hia0_26l : 0 ≤ ia0_26.toInt) (hia0_26h : ia0_26.toInt ≤ 300) (ia0_27 : Int32) (hia0_27l : (-9) ≤ ia0_27.toInt) (hia0_27h : ia0_27.toInt ≤ 11) (ia0_28 : Int32) (ia0_30 : Int32) (hia0_30l : 0 ≤ ia0_30.toInt) (hia0_30h : ia0_30.toInt ≤ 60) (ia0_31 : Int32) (ia0_32 : Int32) (hia0_32l : 0 ≤ ia0_32.toInt) (hia0_32h : ia0_32.toInt ≤ 1) (ia0_36 : Int32) (hia0_36l : 0 ≤ ia0_36.toInt) (hia0_36h : ia0_36.toInt ≤ 12) (ia0_37 : Int32) (p1 : Int32) : Met l yX12_linesOf vsX12_linesOf ({ frames := 0, cells := 0, slots := 0, locals := 0 }) (va_Pc [.ref ha0, .int p1] (zRB dC dI cI cQ [(ha0_4, .inl (cI, 12, .inl fa0_4)), (ha0, .inr (12, [.ref ha0_0, .ref ha0_1, .ref ha0_2, .ref ha0_3, .ref ha0_4, .ref ha0_5, .ref ha0_6, .ref ha0_7, .ref ha0_8, .int ia0_9, .int ia0_10, .int ia0_11, .int ia0_12, .int ia0_13, .int ia0_14, .int ia0_15, .ref ha0_16, .ref ha0_17, .ref ha0_18, .ref ha0_19, .int ia0_20, .int ia0_21, .int ia0_22, .ref ha0_23, .int ia0_24, .int ia0_25, .int ia0_26, .int ia0_27, .int ia0_28, .ref ha0_29, .int ia0_30, .int ia0_31, .int ia0_32, .ref ha0_33, .ref ha0_34, .ref ha0_35, .int ia0_36, .int ia0_37]))])) (vp_Si (fun r => (-2147483648) ≤ r.toInt ∧ r.toInt ≤ 2147483647 ∧ (zOwL ia0_10.toInt fa0_4 p1.toInt r))) 0 0 (fun _ => False) := by
  refine Met.ofW (cc := cX12_linesOf) (maxL := 4) (ret := (some .int)) (by decide) rfl ?_
  intro p e s m args below meth c s₁ B hml hv
  obtain ⟨rfl, hP, hZ⟩ := hv
  obtain ⟨hK, hAO, hN⟩ := id hZ
  have hx := B.exec
  have hb := B.bytes
  have hr := B.returns
  have hts := atoms_spec (ws := vsX12_linesOf) B.pre
  have hown : s.vm.findClass RX12 = some m.cls := findClass_of_methodNamed B.named
  have hlocks := B.notSynchronized
  have hp1l := z_lo p1
  have hp1h := z_hi p1
  have hl := lv_entry ([.ref ha0, .int p1]) (n := 4) (Nat.le_of_ble_eq_true rfl)
  rw [lg_entry_eq]
  generalize (lg_sl ([.ref ha0, .int p1]) ++ List.replicate (4 - (lg_sl ([.ref ha0, .int p1])).length) Slot.unset).toArray = ls at hl ⊢
  have hl : lv_has ls 4 [(0, .ref ha0), (1, .int p1)] := hl
  refine lv_iconst (v := 0) hx hb dX12_linesOf_0 (by decide) ?_
  refine lv_istore_n (lv' := [(2, .int 0), (0, .ref ha0), (1, .int p1)]) hx hb dX12_linesOf_1 rfl hl (by decide) rfl (fun ls hl => ?_)
  refine lv_iconst (v := 0) hx hb dX12_linesOf_2 (by decide) ?_
  refine lv_istore_n (lv' := [(3, .int 0), (2, .int 0), (0, .ref ha0), (1, .int p1)]) hx hb dX12_linesOf_3 rfl hl (by decide) rfl (fun ls hl => ?_)
  have hL83 : ∀ (n : Nat) (v1 : Int32) (v2 : Int32) (ls : Array Slot), 0 ≤ v1.toInt → v1.toInt ≤ 12 → (zOwL (v1 : Int32).toInt fa0_4 p1.toInt (v2 : Int32)) → ((v1 : Int32).toInt ≤ ia0_10.toInt) → (12 - v1.toInt).toNat < n → lv_has ls 4 [(3, .int v1), (2, .int v2), (0, .ref ha0), (1, .int p1)] → W p l e (headSpec vsX12_linesOf ({ frames := 0, cells := 0, slots := 0, locals := 0 })).room s m ([.ref ha0, .int p1] : List Value).toArray below meth c s.heap [] 0 0 (MQ below (vp_Si (fun r => (-2147483648) ≤ r.toInt ∧ r.toInt ≤ 2147483647 ∧ (zOwL ia0_10.toInt fa0_4 p1.toInt r))) ([.ref ha0, .int p1] : List Value).toArray s 0 0 (fun _ => False)) (F0 m 4 ls []) := by
    intro n
    induction n with
    | zero =>
      intro v1 v2 ls hi84_0 hi84_1 hi84_x0 hi84_x1 hi84_m hl
      exact absurd hi84_m (Nat.not_lt_zero _)
    | succ n ih =>
      intro v1 v2 ls hi84_0 hi84_1 hi84_x0 hi84_x1 hi84_m hl
      have ih85 := ih
      refine lv_iload_n hx hb dX12_linesOf_4 rfl (lv_at hl 0 rfl) ?_
      refine lv_aload_n hx hb dX12_linesOf_5 rfl (lv_at hl 2 rfl) ?_
      refine va_get (D := (dC, dI)) (ci := 12) (v := .int ia0_10) (C := RX12) (T := TX12) (N := 38) hx hb hts in_X12_linesOf_X12 hown hK hP 1 rfl rfl 10 (by decide) (hts (.fieldLink RX12 79 "EachOnHisCueModel" "lines" "I") (by decide +kernel)) (fun _ h9 => h9) rfl dX12_linesOf_6 ?_
      refine lv_icmp_ge (tgt := 38) hx hb dX12_linesOf_9 (by decide) (fun hc => ?_) (fun hc => ?_)
      · have q86 : ia0_10.toInt ≤ v1.toInt := z_le rfl rfl hc
        refine lv_iload_n hx hb dX12_linesOf_38 rfl (lv_at hl 1 rfl) ?_
        exact W.iret (v := v2) hx hb hr (fun t ht hW => ⟨v2, rfl, ⟨z_lo _, z_hi _, (by exact z_owE (by assumption) (by omega))⟩, ht⟩) (fun _ h => absurd h List.not_mem_nil) dX12_linesOf_39
      · have q87 : v1.toInt < ia0_10.toInt := z_nle rfl rfl hc
        refine lv_iload_n hx hb dX12_linesOf_12 rfl (lv_at hl 1 rfl) ?_
        refine lv_aload_n hx hb dX12_linesOf_13 rfl (lv_at hl 2 rfl) ?_
        refine va_get (D := (dC, dI)) (ci := 12) (v := .ref ha0_4) (C := RX12) (T := TX12) (N := 38) hx hb hts in_X12_linesOf_X12 hown hK hP 1 rfl rfl 4 (by decide) (hts (.fieldLink RX12 22 "EachOnHisCueModel" "whose" "[I") (by decide +kernel)) (fun _ h9 => h9) rfl dX12_linesOf_14 ?_
        refine lv_iload_n hx hb dX12_linesOf_17 rfl (lv_at hl 0 rfl) ?_
        refine va_iald hx hb hK hP 0 0 rfl rfl (z_in (by omega) (by omega)) dX12_linesOf_18 ?_
        refine lv_topi (fun y88 ey88 => ?_)
        have gy88 : y88.toInt = (fa0_4 (v1 : Int32).toNatClampNeg).toInt := by rw [ey88]
        have hy88 : 0 ≤ y88.toInt ∧ y88.toInt ≤ 4 := by rw [ey88]; exact hBfa0_4 _
        obtain ⟨hy88, hy88_⟩ := hy88
        refine lv_iload_n hx hb dX12_linesOf_19 rfl (lv_at hl 3 rfl) ?_
        refine lv_icmp_ne (tgt := 29) hx hb dX12_linesOf_20 (by decide) (fun hc => ?_) (fun hc => ?_)
        · have q89 : y88.toInt ≠ p1.toInt := z_ne rfl rfl hc
          refine lv_iconst (v := 0) hx hb dX12_linesOf_29 (by decide) ?_
          refine lv_ior hx hb dX12_linesOf_30 ?_
          refine lv_topi (fun y90 ey90 => ?_)
          refine lv_istore_n (lv' := [(2, .int y90), (3, .int v1), (0, .ref ha0), (1, .int p1)]) hx hb dX12_linesOf_31 rfl hl (by decide) rfl (fun ls hl => ?_)
          obtain ⟨y91, ey91⟩ : ∃ y : Int32, y = v1 + 1 := ⟨_, rfl⟩
          refine lv_iinc (v := y91) (lv' := [(3, .int y91), (2, .int y90), (0, .ref ha0), (1, .int p1)]) hx hb dX12_linesOf_32 hl (k := 1) rfl (by rw [ey91]; rfl) (by decide) rfl (fun ls hl => ?_)
          have hy91 : y91.toInt = v1.toInt + 1 := by rw [ey91]; exact z_add rfl (by decide) (by omega) (by omega)
          refine lv_goto (tgt := 4) hx hb dX12_linesOf_35 (by decide) ?_
          exact ih85 y91 y90 ls (by first | decide | omega) (by first | decide | omega) (z_owS (by assumption) (by omega) (by omega) (by omega) gy88 (Or.inr ⟨by omega, ey90⟩)) (by have e0 : (0 : Int32).toInt = 0 := (by decide); omega) (by omega) (lv_sub hl [0, 1, 2, 3] rfl)
        · have q92 : y88.toInt = p1.toInt := z_eq rfl rfl hc
          refine lv_iconst (v := 1) hx hb dX12_linesOf_23 (by decide) ?_
          refine lv_iload_n hx hb dX12_linesOf_24 rfl (lv_at hl 0 rfl) ?_
          refine lv_ishl hx hb dX12_linesOf_25 ?_
          refine lv_topi (fun y93 ey93 => ?_)
          refine lv_goto (tgt := 30) hx hb dX12_linesOf_26 (by decide) ?_
          refine lv_ior hx hb dX12_linesOf_30 ?_
          refine lv_topi (fun y94 ey94 => ?_)
          refine lv_istore_n (lv' := [(2, .int y94), (3, .int v1), (0, .ref ha0), (1, .int p1)]) hx hb dX12_linesOf_31 rfl hl (by decide) rfl (fun ls hl => ?_)
          obtain ⟨y95, ey95⟩ : ∃ y : Int32, y = v1 + 1 := ⟨_, rfl⟩
          refine lv_iinc (v := y95) (lv' := [(3, .int y95), (2, .int y94), (0, .ref ha0), (1, .int p1)]) hx hb dX12_linesOf_32 hl (k := 1) rfl (by rw [ey95]; rfl) (by decide) rfl (fun ls hl => ?_)
          have hy95 : y95.toInt = v1.toInt + 1 := by rw [ey95]; exact z_add rfl (by decide) (by omega) (by omega)
          refine lv_goto (tgt := 4) hx hb dX12_linesOf_35 (by decide) ?_
          exact ih85 y95 y94 ls (by first | decide | omega) (by first | decide | omega) (z_owS (by assumption) (by omega) (by omega) (by omega) gy88 (Or.inl ⟨by omega, _, ey93, ey94⟩)) (by have e0 : (0 : Int32).toInt = 0 := (by decide); omega) (by omega) (lv_sub hl [0, 1, 2, 3] rfl)
  exact hL83 ((12 - (0 : Int32).toInt).toNat + 1) 0 0 ls (by decide) (by decide) (z_ow0 (by decide)) (by have e0 : (0 : Int32).toInt = 0 := (by decide); omega) (by omega) hl
set_option maxRecDepth 20000 in
theorem edX12_saidWords_0 : decode cX12_saidWords 0 = .ok (.aload_n 0, 1) ∧ decode cX12_saidWords 1 = .ok (.getfield 25, 3) ∧ decode cX12_saidWords 4 = .ok (.iload_n 1, 1) ∧ decode cX12_saidWords 5 = .ok (.iaload, 1) ∧ decode cX12_saidWords 6 = .ok (.iload_n 1, 1) ∧ decode cX12_saidWords 7 = .ok (.aload_n 0, 1) ∧ decode cX12_saidWords 8 = .ok (.getfield 59, 3) ∧ decode cX12_saidWords 11 = .ok (.if_icmp .ne 7, 3) ∧ decode cX12_saidWords 14 = .ok (.iconst 1, 1) ∧ decode cX12_saidWords 15 = .ok (.goto 4, 3) ∧ decode cX12_saidWords 18 = .ok (.iconst 0, 1) ∧ decode cX12_saidWords 19 = .ok (.iadd, 1) := by decide +kernel
theorem dX12_saidWords_0 : decode cX12_saidWords 0 = .ok (.aload_n 0, 1) := edX12_saidWords_0.1
theorem dX12_saidWords_1 : decode cX12_saidWords 1 = .ok (.getfield 25, 3) := edX12_saidWords_0.2.1
theorem dX12_saidWords_4 : decode cX12_saidWords 4 = .ok (.iload_n 1, 1) := edX12_saidWords_0.2.2.1
theorem dX12_saidWords_5 : decode cX12_saidWords 5 = .ok (.iaload, 1) := edX12_saidWords_0.2.2.2.1
theorem dX12_saidWords_6 : decode cX12_saidWords 6 = .ok (.iload_n 1, 1) := edX12_saidWords_0.2.2.2.2.1
theorem dX12_saidWords_7 : decode cX12_saidWords 7 = .ok (.aload_n 0, 1) := edX12_saidWords_0.2.2.2.2.2.1
theorem dX12_saidWords_8 : decode cX12_saidWords 8 = .ok (.getfield 59, 3) := edX12_saidWords_0.2.2.2.2.2.2.1
theorem dX12_saidWords_11 : decode cX12_saidWords 11 = .ok (.if_icmp .ne 7, 3) := edX12_saidWords_0.2.2.2.2.2.2.2.1
theorem dX12_saidWords_14 : decode cX12_saidWords 14 = .ok (.iconst 1, 1) := edX12_saidWords_0.2.2.2.2.2.2.2.2.1
theorem dX12_saidWords_15 : decode cX12_saidWords 15 = .ok (.goto 4, 3) := edX12_saidWords_0.2.2.2.2.2.2.2.2.2.1
theorem dX12_saidWords_18 : decode cX12_saidWords 18 = .ok (.iconst 0, 1) := edX12_saidWords_0.2.2.2.2.2.2.2.2.2.2.1
theorem dX12_saidWords_19 : decode cX12_saidWords 19 = .ok (.iadd, 1) := edX12_saidWords_0.2.2.2.2.2.2.2.2.2.2.2
theorem dX12_saidWords_20 : decode cX12_saidWords 20 = .ok (.ireturn, 1) := by decide +kernel
noncomputable def voX12_saidWords : List Cond := [.fieldLink RX12 25 "EachOnHisCueModel" "many" "[I", .fieldLink RX12 59 "EachOnHisCueModel" "joked" "I"]
noncomputable def vsX12_saidWords : List Cond := .code yX12_saidWords cX12_saidWords 2 (some .int) :: (voX12_saidWords ++ (wsX120))
theorem zgX12_saidWords : zGd vsX12_saidWords := z_gdC rfl (z_gdA (z_gdO (by decide +kernel) : zGd voX12_saidWords) (zgX12))
theorem in_X12_saidWords_X12 : ∀ w ∈ wsX120, w ∈ vsX12_saidWords := fun _ h => List.mem_cons_of_mem _ (List.mem_append_right _ (h))
set_option maxHeartbeats 4000000 in
set_option maxRecDepth 100000 in
theorem rX12_saidWords (l : Launch) (dC : Nat → ClassId) (dI : Nat → Nat → Nat) (cI cQ : ClassId) (ha0 ha0_5 ha0_0 ha0_1 ha0_2 ha0_3 ha0_4 ha0_6 ha0_7 ha0_8 ha0_16 ha0_17 ha0_18 ha0_19 ha0_23 ha0_29 ha0_33 ha0_34 ha0_35 : Nat) (fa0_5 : Nat → Int32) (hBfa0_5 : ∀ k, 0 ≤ (fa0_5 k).toInt ∧ (fa0_5 k).toInt ≤ 4) (ia0_9 : Int32) (hia0_9l : 0 ≤ ia0_9.toInt) (hia0_9h : ia0_9.toInt ≤ 5) (ia0_10 : Int32) (hia0_10l : 0 ≤ ia0_10.toInt) (hia0_10h : ia0_10.toInt ≤ 12) (ia0_11 : Int32) (ia0_12 : Int32) (ia0_13 : Int32) (ia0_14 : Int32) (hia0_14l : (-9) ≤ ia0_14.toInt) (hia0_14h : ia0_14.toInt ≤ 11) (ia0_15 : Int32) (ia0_20 : Int32) (hia0_20l : 0 ≤ ia0_20.toInt) (hia0_20h : ia0_20.toInt ≤ 80) (ia0_21 : Int32) (hia0_21l : 0 ≤ ia0_21.toInt) (hia0_21h : ia0_21.toInt ≤ 80) (ia0_22 : Int32) (hia0_22l : 0 ≤ ia0_22.toInt) (hia0_22h : ia0_22.toInt ≤ 40) (ia0_24 : Int32) (hia0_24l : 0 ≤ ia0_24.toInt) (hia0_24h : ia0_24.toInt ≤ 1) (ia0_25 : Int32) (hia0_25l : 0 ≤ ia0_25.toInt) (hia0_25h : ia0_25.toInt ≤ 1) (ia0_26 : Int32) (hia0_26l : 0 ≤ ia0_26.toInt) (hia0_26h : ia0_26.toInt ≤ 300) (ia0_27 : Int32) (hia0_27l : (-9) ≤ ia0_27.toInt) (hia0_27h : ia0_27.toInt ≤ 11) (ia0_28 : Int32) (ia0_30 : Int32) (hia0_30l : 0 ≤ ia0_30.toInt) (hia0_30h : ia0_30.toInt ≤ 60) (ia0_31 : Int32) (ia0_32 : Int32) (hia0_32l : 0 ≤ ia0_32.toInt) (hia0_32h : ia0_32.toInt ≤ 1) (ia0_36 : Int32) (hia0_36l : 0 ≤ ia0_36.toInt) (hia0_36h : ia0_36.toInt ≤ 12) (ia0_37 : Int32) (p1 : Int32) (hp1l : 0 ≤ p1.toInt) (hp1h : p1.toInt ≤ 11) : Met l yX12_saidWords vsX12_saidWords ({ frames := 0, cells := 0, slots := 0, locals := 0 }) (va_Pc [.ref ha0, .int p1] (zRB dC dI cI cQ [(ha0_5, .inl (cI, 12, .inl fa0_5)), (ha0, .inr (12, [.ref ha0_0, .ref ha0_1, .ref ha0_2, .ref ha0_3, .ref ha0_4, .ref ha0_5, .ref ha0_6, .ref ha0_7, .ref ha0_8, .int ia0_9, .int ia0_10, .int ia0_11, .int ia0_12, .int ia0_13, .int ia0_14, .int ia0_15, .ref ha0_16, .ref ha0_17, .ref ha0_18, .ref ha0_19, .int ia0_20, .int ia0_21, .int ia0_22, .ref ha0_23, .int ia0_24, .int ia0_25, .int ia0_26, .int ia0_27, .int ia0_28, .ref ha0_29, .int ia0_30, .int ia0_31, .int ia0_32, .ref ha0_33, .ref ha0_34, .ref ha0_35, .int ia0_36, .int ia0_37]))])) (vp_Si (fun r => 0 ≤ r.toInt ∧ r.toInt ≤ 5 ∧ (r.toInt = (fa0_5 p1.toNatClampNeg).toInt + (if p1.toInt = ia0_27.toInt then 1 else 0)))) 0 0 (fun _ => False) := by
  refine Met.ofW (cc := cX12_saidWords) (maxL := 2) (ret := (some .int)) (by decide) rfl ?_
  intro p e s m args below meth c s₁ B hml hv
  obtain ⟨rfl, hP, hZ⟩ := hv
  obtain ⟨hK, hAO, hN⟩ := id hZ
  have hx := B.exec
  have hb := B.bytes
  have hr := B.returns
  have hts := atoms_spec (ws := vsX12_saidWords) B.pre
  have hown : s.vm.findClass RX12 = some m.cls := findClass_of_methodNamed B.named
  have hlocks := B.notSynchronized
  have hl := lv_entry ([.ref ha0, .int p1]) (n := 2) (Nat.le_of_ble_eq_true rfl)
  rw [lg_entry_eq]
  generalize (lg_sl ([.ref ha0, .int p1]) ++ List.replicate (2 - (lg_sl ([.ref ha0, .int p1])).length) Slot.unset).toArray = ls at hl ⊢
  have hl : lv_has ls 2 [(0, .ref ha0), (1, .int p1)] := hl
  refine lv_aload_n hx hb dX12_saidWords_0 rfl (lv_at hl 0 rfl) ?_
  refine va_get (D := (dC, dI)) (ci := 12) (v := .ref ha0_5) (C := RX12) (T := TX12) (N := 38) hx hb hts in_X12_saidWords_X12 hown hK hP 1 rfl rfl 5 (by decide) (hts (.fieldLink RX12 25 "EachOnHisCueModel" "many" "[I") (by decide +kernel)) (fun _ h9 => h9) rfl dX12_saidWords_1 ?_
  refine lv_iload_n hx hb dX12_saidWords_4 rfl (lv_at hl 1 rfl) ?_
  refine va_iald hx hb hK hP 0 0 rfl rfl (z_in (by omega) (by omega)) dX12_saidWords_5 ?_
  refine lv_topi (fun y1 ey1 => ?_)
  have gy1 : y1.toInt = (fa0_5 (p1 : Int32).toNatClampNeg).toInt := by rw [ey1]
  have hy1 : 0 ≤ y1.toInt ∧ y1.toInt ≤ 4 := by rw [ey1]; exact hBfa0_5 _
  obtain ⟨hy1, hy1_⟩ := hy1
  refine lv_iload_n hx hb dX12_saidWords_6 rfl (lv_at hl 1 rfl) ?_
  refine lv_aload_n hx hb dX12_saidWords_7 rfl (lv_at hl 0 rfl) ?_
  refine va_get (D := (dC, dI)) (ci := 12) (v := .int ia0_27) (C := RX12) (T := TX12) (N := 38) hx hb hts in_X12_saidWords_X12 hown hK hP 1 rfl rfl 27 (by decide) (hts (.fieldLink RX12 59 "EachOnHisCueModel" "joked" "I") (by decide +kernel)) (fun _ h9 => h9) rfl dX12_saidWords_8 ?_
  refine lv_icmp_ne (tgt := 18) hx hb dX12_saidWords_11 (by decide) (fun hc => ?_) (fun hc => ?_)
  · have q2 : p1.toInt ≠ ia0_27.toInt := z_ne rfl rfl hc
    refine lv_iconst (v := 0) hx hb dX12_saidWords_18 (by decide) ?_
    refine lv_iadd hx hb dX12_saidWords_19 ?_
    refine lv_topi (fun y3 ey3 => ?_)
    have hy3 : y3.toInt = y1.toInt + 0 := by rw [ey3]; exact z_add rfl (by decide) (by omega) (by omega)
    exact W.iret (v := y3) hx hb hr (fun t ht hW => ⟨y3, rfl, ⟨by first | decide | omega, by first | decide | omega, by first | omega | (intro _; omega) | (intro h; exact absurd h (by decide)) | (refine ⟨?_, ?_⟩ <;> omega) | (split <;> omega)⟩, ht⟩) (fun _ h => absurd h List.not_mem_nil) dX12_saidWords_20
  · have q4 : p1.toInt = ia0_27.toInt := z_eq rfl rfl hc
    refine lv_iconst (v := 1) hx hb dX12_saidWords_14 (by decide) ?_
    refine lv_goto (tgt := 19) hx hb dX12_saidWords_15 (by decide) ?_
    refine lv_iadd hx hb dX12_saidWords_19 ?_
    refine lv_topi (fun y5 ey5 => ?_)
    have hy5 : y5.toInt = y1.toInt + 1 := by rw [ey5]; exact z_add rfl (by decide) (by omega) (by omega)
    exact W.iret (v := y5) hx hb hr (fun t ht hW => ⟨y5, rfl, ⟨by first | decide | omega, by first | decide | omega, by first | omega | (intro _; omega) | (intro h; exact absurd h (by decide)) | (refine ⟨?_, ?_⟩ <;> omega) | (split <;> omega)⟩, ht⟩) (fun _ h => absurd h List.not_mem_nil) dX12_saidWords_20
set_option maxRecDepth 20000 in
theorem edX12_saidWord_0 : decode cX12_saidWord 0 = .ok (.iload_n 2, 1) ∧ decode cX12_saidWord 1 = .ok (.aload_n 0, 1) ∧ decode cX12_saidWord 2 = .ok (.getfield 25, 3) ∧ decode cX12_saidWord 5 = .ok (.iload_n 1, 1) ∧ decode cX12_saidWord 6 = .ok (.iaload, 1) ∧ decode cX12_saidWord 7 = .ok (.if_icmp .ne 10, 3) ∧ decode cX12_saidWord 10 = .ok (.aload_n 0, 1) ∧ decode cX12_saidWord 11 = .ok (.getfield 172, 3) ∧ decode cX12_saidWord 14 = .ok (.goto 13, 3) ∧ decode cX12_saidWord 17 = .ok (.aload_n 0, 1) ∧ decode cX12_saidWord 18 = .ok (.getfield 34, 3) ∧ decode cX12_saidWord 21 = .ok (.iconst 5, 1) := by decide +kernel
theorem dX12_saidWord_0 : decode cX12_saidWord 0 = .ok (.iload_n 2, 1) := edX12_saidWord_0.1
theorem dX12_saidWord_1 : decode cX12_saidWord 1 = .ok (.aload_n 0, 1) := edX12_saidWord_0.2.1
theorem dX12_saidWord_2 : decode cX12_saidWord 2 = .ok (.getfield 25, 3) := edX12_saidWord_0.2.2.1
theorem dX12_saidWord_5 : decode cX12_saidWord 5 = .ok (.iload_n 1, 1) := edX12_saidWord_0.2.2.2.1
theorem dX12_saidWord_6 : decode cX12_saidWord 6 = .ok (.iaload, 1) := edX12_saidWord_0.2.2.2.2.1
theorem dX12_saidWord_7 : decode cX12_saidWord 7 = .ok (.if_icmp .ne 10, 3) := edX12_saidWord_0.2.2.2.2.2.1
theorem dX12_saidWord_10 : decode cX12_saidWord 10 = .ok (.aload_n 0, 1) := edX12_saidWord_0.2.2.2.2.2.2.1
theorem dX12_saidWord_11 : decode cX12_saidWord 11 = .ok (.getfield 172, 3) := edX12_saidWord_0.2.2.2.2.2.2.2.1
theorem dX12_saidWord_14 : decode cX12_saidWord 14 = .ok (.goto 13, 3) := edX12_saidWord_0.2.2.2.2.2.2.2.2.1
theorem dX12_saidWord_17 : decode cX12_saidWord 17 = .ok (.aload_n 0, 1) := edX12_saidWord_0.2.2.2.2.2.2.2.2.2.1
theorem dX12_saidWord_18 : decode cX12_saidWord 18 = .ok (.getfield 34, 3) := edX12_saidWord_0.2.2.2.2.2.2.2.2.2.2.1
theorem dX12_saidWord_21 : decode cX12_saidWord 21 = .ok (.iconst 5, 1) := edX12_saidWord_0.2.2.2.2.2.2.2.2.2.2.2
set_option maxRecDepth 20000 in
theorem edX12_saidWord_22 : decode cX12_saidWord 22 = .ok (.iload_n 1, 1) ∧ decode cX12_saidWord 23 = .ok (.imul, 1) ∧ decode cX12_saidWord 24 = .ok (.iload_n 2, 1) ∧ decode cX12_saidWord 25 = .ok (.iadd, 1) ∧ decode cX12_saidWord 26 = .ok (.iaload, 1) ∧ decode cX12_saidWord 27 = .ok (.ireturn, 1) := by decide +kernel
theorem dX12_saidWord_22 : decode cX12_saidWord 22 = .ok (.iload_n 1, 1) := edX12_saidWord_22.1
theorem dX12_saidWord_23 : decode cX12_saidWord 23 = .ok (.imul, 1) := edX12_saidWord_22.2.1
theorem dX12_saidWord_24 : decode cX12_saidWord 24 = .ok (.iload_n 2, 1) := edX12_saidWord_22.2.2.1
theorem dX12_saidWord_25 : decode cX12_saidWord 25 = .ok (.iadd, 1) := edX12_saidWord_22.2.2.2.1
theorem dX12_saidWord_26 : decode cX12_saidWord 26 = .ok (.iaload, 1) := edX12_saidWord_22.2.2.2.2.1
theorem dX12_saidWord_27 : decode cX12_saidWord 27 = .ok (.ireturn, 1) := edX12_saidWord_22.2.2.2.2.2
noncomputable def voX12_saidWord : List Cond := [.fieldLink RX12 25 "EachOnHisCueModel" "many" "[I", .fieldLink RX12 34 "EachOnHisCueModel" "word" "[I", .fieldLink RX12 172 "EachOnHisCueModel" "joke" "I"]
noncomputable def vsX12_saidWord : List Cond := .code yX12_saidWord cX12_saidWord 3 (some .int) :: (voX12_saidWord ++ (wsX120))
theorem zgX12_saidWord : zGd vsX12_saidWord := z_gdC rfl (z_gdA (z_gdO (by decide +kernel) : zGd voX12_saidWord) (zgX12))
theorem in_X12_saidWord_X12 : ∀ w ∈ wsX120, w ∈ vsX12_saidWord := fun _ h => List.mem_cons_of_mem _ (List.mem_append_right _ (h))
set_option maxHeartbeats 4000000 in
set_option maxRecDepth 100000 in
theorem rX12_saidWord (l : Launch) (dC : Nat → ClassId) (dI : Nat → Nat → Nat) (cI cQ : ClassId) (ha0 ha0_5 ha0_8 ha0_0 ha0_1 ha0_2 ha0_3 ha0_4 ha0_6 ha0_7 ha0_16 ha0_17 ha0_18 ha0_19 ha0_23 ha0_29 ha0_33 ha0_34 ha0_35 : Nat) (fa0_5 : Nat → Int32) (hBfa0_5 : ∀ k, 0 ≤ (fa0_5 k).toInt ∧ (fa0_5 k).toInt ≤ 4) (fa0_8 : Nat → Int32) (ia0_9 : Int32) (hia0_9l : 0 ≤ ia0_9.toInt) (hia0_9h : ia0_9.toInt ≤ 5) (ia0_10 : Int32) (hia0_10l : 0 ≤ ia0_10.toInt) (hia0_10h : ia0_10.toInt ≤ 12) (ia0_11 : Int32) (ia0_12 : Int32) (ia0_13 : Int32) (ia0_14 : Int32) (hia0_14l : (-9) ≤ ia0_14.toInt) (hia0_14h : ia0_14.toInt ≤ 11) (ia0_15 : Int32) (ia0_20 : Int32) (hia0_20l : 0 ≤ ia0_20.toInt) (hia0_20h : ia0_20.toInt ≤ 80) (ia0_21 : Int32) (hia0_21l : 0 ≤ ia0_21.toInt) (hia0_21h : ia0_21.toInt ≤ 80) (ia0_22 : Int32) (hia0_22l : 0 ≤ ia0_22.toInt) (hia0_22h : ia0_22.toInt ≤ 40) (ia0_24 : Int32) (hia0_24l : 0 ≤ ia0_24.toInt) (hia0_24h : ia0_24.toInt ≤ 1) (ia0_25 : Int32) (hia0_25l : 0 ≤ ia0_25.toInt) (hia0_25h : ia0_25.toInt ≤ 1) (ia0_26 : Int32) (hia0_26l : 0 ≤ ia0_26.toInt) (hia0_26h : ia0_26.toInt ≤ 300) (ia0_27 : Int32) (hia0_27l : (-9) ≤ ia0_27.toInt) (hia0_27h : ia0_27.toInt ≤ 11) (ia0_28 : Int32) (ia0_30 : Int32) (hia0_30l : 0 ≤ ia0_30.toInt) (hia0_30h : ia0_30.toInt ≤ 60) (ia0_31 : Int32) (ia0_32 : Int32) (hia0_32l : 0 ≤ ia0_32.toInt) (hia0_32h : ia0_32.toInt ≤ 1) (ia0_36 : Int32) (hia0_36l : 0 ≤ ia0_36.toInt) (hia0_36h : ia0_36.toInt ≤ 12) (ia0_37 : Int32) (p1 : Int32) (hp1l : 0 ≤ p1.toInt) (hp1h : p1.toInt ≤ 11) (p2 : Int32) (hp2l : 0 ≤ p2.toInt) (hp2h : p2.toInt ≤ 4) : Met l yX12_saidWord vsX12_saidWord ({ frames := 0, cells := 0, slots := 0, locals := 0 }) (va_Pc [.ref ha0, .int p1, .int p2] (zRB dC dI cI cQ [(ha0_5, .inl (cI, 12, .inl fa0_5)), (ha0_8, .inl (cI, 60, .inl fa0_8)), (ha0, .inr (12, [.ref ha0_0, .ref ha0_1, .ref ha0_2, .ref ha0_3, .ref ha0_4, .ref ha0_5, .ref ha0_6, .ref ha0_7, .ref ha0_8, .int ia0_9, .int ia0_10, .int ia0_11, .int ia0_12, .int ia0_13, .int ia0_14, .int ia0_15, .ref ha0_16, .ref ha0_17, .ref ha0_18, .ref ha0_19, .int ia0_20, .int ia0_21, .int ia0_22, .ref ha0_23, .int ia0_24, .int ia0_25, .int ia0_26, .int ia0_27, .int ia0_28, .ref ha0_29, .int ia0_30, .int ia0_31, .int ia0_32, .ref ha0_33, .ref ha0_34, .ref ha0_35, .int ia0_36, .int ia0_37]))])) (vp_Si (fun r => (-2147483648) ≤ r.toInt ∧ r.toInt ≤ 2147483647 ∧ (r.toInt = zJw fa0_8 fa0_5 ia0_28 p1.toInt p2.toInt))) 0 0 (fun _ => False) := by
  refine Met.ofW (cc := cX12_saidWord) (maxL := 3) (ret := (some .int)) (by decide) rfl ?_
  intro p e s m args below meth c s₁ B hml hv
  obtain ⟨rfl, hP, hZ⟩ := hv
  obtain ⟨hK, hAO, hN⟩ := id hZ
  have hx := B.exec
  have hb := B.bytes
  have hr := B.returns
  have hts := atoms_spec (ws := vsX12_saidWord) B.pre
  have hown : s.vm.findClass RX12 = some m.cls := findClass_of_methodNamed B.named
  have hlocks := B.notSynchronized
  have hl := lv_entry ([.ref ha0, .int p1, .int p2]) (n := 3) (Nat.le_of_ble_eq_true rfl)
  rw [lg_entry_eq]
  generalize (lg_sl ([.ref ha0, .int p1, .int p2]) ++ List.replicate (3 - (lg_sl ([.ref ha0, .int p1, .int p2])).length) Slot.unset).toArray = ls at hl ⊢
  have hl : lv_has ls 3 [(0, .ref ha0), (1, .int p1), (2, .int p2)] := hl
  refine lv_iload_n hx hb dX12_saidWord_0 rfl (lv_at hl 2 rfl) ?_
  refine lv_aload_n hx hb dX12_saidWord_1 rfl (lv_at hl 0 rfl) ?_
  refine va_get (D := (dC, dI)) (ci := 12) (v := .ref ha0_5) (C := RX12) (T := TX12) (N := 38) hx hb hts in_X12_saidWord_X12 hown hK hP 2 rfl rfl 5 (by decide) (hts (.fieldLink RX12 25 "EachOnHisCueModel" "many" "[I") (by decide +kernel)) (fun _ h9 => h9) rfl dX12_saidWord_2 ?_
  refine lv_iload_n hx hb dX12_saidWord_5 rfl (lv_at hl 1 rfl) ?_
  refine va_iald hx hb hK hP 0 0 rfl rfl (z_in (by omega) (by omega)) dX12_saidWord_6 ?_
  refine lv_topi (fun y1 ey1 => ?_)
  have gy1 : y1.toInt = (fa0_5 (p1 : Int32).toNatClampNeg).toInt := by rw [ey1]
  have hy1 : 0 ≤ y1.toInt ∧ y1.toInt ≤ 4 := by rw [ey1]; exact hBfa0_5 _
  obtain ⟨hy1, hy1_⟩ := hy1
  refine lv_icmp_ne (tgt := 17) hx hb dX12_saidWord_7 (by decide) (fun hc => ?_) (fun hc => ?_)
  · have q2 : p2.toInt ≠ y1.toInt := z_ne rfl rfl hc
    refine lv_aload_n hx hb dX12_saidWord_17 rfl (lv_at hl 0 rfl) ?_
    refine va_get (D := (dC, dI)) (ci := 12) (v := .ref ha0_8) (C := RX12) (T := TX12) (N := 38) hx hb hts in_X12_saidWord_X12 hown hK hP 2 rfl rfl 8 (by decide) (hts (.fieldLink RX12 34 "EachOnHisCueModel" "word" "[I") (by decide +kernel)) (fun _ h9 => h9) rfl dX12_saidWord_18 ?_
    refine lv_iconst (v := 5) hx hb dX12_saidWord_21 (by decide) ?_
    refine lv_iload_n hx hb dX12_saidWord_22 rfl (lv_at hl 1 rfl) ?_
    refine lv_imul hx hb dX12_saidWord_23 ?_
    refine lv_topi (fun y3 ey3 => ?_)
    have hy3 : y3.toInt = 5 * p1.toInt := by rw [ey3]; exact z_mul (by decide) rfl (by omega) (by omega)
    refine lv_iload_n hx hb dX12_saidWord_24 rfl (lv_at hl 2 rfl) ?_
    refine lv_iadd hx hb dX12_saidWord_25 ?_
    refine lv_topi (fun y4 ey4 => ?_)
    have hy4 : y4.toInt = y3.toInt + p2.toInt := by rw [ey4]; exact z_add rfl rfl (by omega) (by omega)
    refine va_iald hx hb hK hP 1 0 rfl rfl (z_in (by omega) (by omega)) dX12_saidWord_26 ?_
    refine lv_topi (fun y5 ey5 => ?_)
    have gy5 : y5.toInt = (fa0_8 (y4 : Int32).toNatClampNeg).toInt := by rw [ey5]
    exact W.iret (v := y5) hx hb hr (fun t ht hW => ⟨y5, rfl, ⟨z_lo _, z_hi _, (by exact z_jw2 gy1 (by omega) gy5 (by omega))⟩, ht⟩) (fun _ h => absurd h List.not_mem_nil) dX12_saidWord_27
  · have q6 : p2.toInt = y1.toInt := z_eq rfl rfl hc
    refine lv_aload_n hx hb dX12_saidWord_10 rfl (lv_at hl 0 rfl) ?_
    refine va_get (D := (dC, dI)) (ci := 12) (v := .int ia0_28) (C := RX12) (T := TX12) (N := 38) hx hb hts in_X12_saidWord_X12 hown hK hP 2 rfl rfl 28 (by decide) (hts (.fieldLink RX12 172 "EachOnHisCueModel" "joke" "I") (by decide +kernel)) (fun _ h9 => h9) rfl dX12_saidWord_11 ?_
    refine lv_goto (tgt := 27) hx hb dX12_saidWord_14 (by decide) ?_
    exact W.iret (v := ia0_28) hx hb hr (fun t ht hW => ⟨ia0_28, rfl, ⟨z_lo _, z_hi _, (by exact z_jw1 gy1 (by omega))⟩, ht⟩) (fun _ h => absurd h List.not_mem_nil) dX12_saidWord_27
set_option maxRecDepth 20000 in
theorem edX12_doesEnd_0 : decode cX12_doesEnd 0 = .ok (.iload_n 3, 1) ∧ decode cX12_doesEnd 1 = .ok (.aload_n 0, 1) ∧ decode cX12_doesEnd 2 = .ok (.getfield 25, 3) ∧ decode cX12_doesEnd 5 = .ok (.iload_n 2, 1) ∧ decode cX12_doesEnd 6 = .ok (.iconst 1, 1) ∧ decode cX12_doesEnd 7 = .ok (.isub, 1) ∧ decode cX12_doesEnd 8 = .ok (.iaload, 1) ∧ decode cX12_doesEnd 9 = .ok (.invokestatic 175, 3) ∧ decode cX12_doesEnd 12 = .ok (.istore 4, 2) ∧ decode cX12_doesEnd 14 = .ok (.aload_n 0, 1) ∧ decode cX12_doesEnd 15 = .ok (.iload_n 1, 1) ∧ decode cX12_doesEnd 16 = .ok (.invokevirtual 179, 3) := by decide +kernel
theorem dX12_doesEnd_0 : decode cX12_doesEnd 0 = .ok (.iload_n 3, 1) := edX12_doesEnd_0.1
theorem dX12_doesEnd_1 : decode cX12_doesEnd 1 = .ok (.aload_n 0, 1) := edX12_doesEnd_0.2.1
theorem dX12_doesEnd_2 : decode cX12_doesEnd 2 = .ok (.getfield 25, 3) := edX12_doesEnd_0.2.2.1
theorem dX12_doesEnd_5 : decode cX12_doesEnd 5 = .ok (.iload_n 2, 1) := edX12_doesEnd_0.2.2.2.1
theorem dX12_doesEnd_6 : decode cX12_doesEnd 6 = .ok (.iconst 1, 1) := edX12_doesEnd_0.2.2.2.2.1
theorem dX12_doesEnd_7 : decode cX12_doesEnd 7 = .ok (.isub, 1) := edX12_doesEnd_0.2.2.2.2.2.1
theorem dX12_doesEnd_8 : decode cX12_doesEnd 8 = .ok (.iaload, 1) := edX12_doesEnd_0.2.2.2.2.2.2.1
theorem dX12_doesEnd_9 : decode cX12_doesEnd 9 = .ok (.invokestatic 175, 3) := edX12_doesEnd_0.2.2.2.2.2.2.2.1
theorem dX12_doesEnd_12 : decode cX12_doesEnd 12 = .ok (.istore 4, 2) := edX12_doesEnd_0.2.2.2.2.2.2.2.2.1
theorem dX12_doesEnd_14 : decode cX12_doesEnd 14 = .ok (.aload_n 0, 1) := edX12_doesEnd_0.2.2.2.2.2.2.2.2.2.1
theorem dX12_doesEnd_15 : decode cX12_doesEnd 15 = .ok (.iload_n 1, 1) := edX12_doesEnd_0.2.2.2.2.2.2.2.2.2.2.1
theorem dX12_doesEnd_16 : decode cX12_doesEnd 16 = .ok (.invokevirtual 179, 3) := edX12_doesEnd_0.2.2.2.2.2.2.2.2.2.2.2
set_option maxRecDepth 20000 in
theorem edX12_doesEnd_19 : decode cX12_doesEnd 19 = .ok (.iload 4, 2) ∧ decode cX12_doesEnd 21 = .ok (.if_icmp .ge 5, 3) ∧ decode cX12_doesEnd 24 = .ok (.iconst 0, 1) ∧ decode cX12_doesEnd 25 = .ok (.ireturn, 1) ∧ decode cX12_doesEnd 26 = .ok (.iconst 1, 1) ∧ decode cX12_doesEnd 27 = .ok (.istore 5, 2) ∧ decode cX12_doesEnd 29 = .ok (.iload 5, 2) ∧ decode cX12_doesEnd 31 = .ok (.iload 4, 2) ∧ decode cX12_doesEnd 33 = .ok (.if_icmp .gt 49, 3) ∧ decode cX12_doesEnd 36 = .ok (.aload_n 0, 1) ∧ decode cX12_doesEnd 37 = .ok (.iload_n 1, 1) ∧ decode cX12_doesEnd 38 = .ok (.aload_n 0, 1) := by decide +kernel
theorem dX12_doesEnd_19 : decode cX12_doesEnd 19 = .ok (.iload 4, 2) := edX12_doesEnd_19.1
theorem dX12_doesEnd_21 : decode cX12_doesEnd 21 = .ok (.if_icmp .ge 5, 3) := edX12_doesEnd_19.2.1
theorem dX12_doesEnd_24 : decode cX12_doesEnd 24 = .ok (.iconst 0, 1) := edX12_doesEnd_19.2.2.1
theorem dX12_doesEnd_25 : decode cX12_doesEnd 25 = .ok (.ireturn, 1) := edX12_doesEnd_19.2.2.2.1
theorem dX12_doesEnd_26 : decode cX12_doesEnd 26 = .ok (.iconst 1, 1) := edX12_doesEnd_19.2.2.2.2.1
theorem dX12_doesEnd_27 : decode cX12_doesEnd 27 = .ok (.istore 5, 2) := edX12_doesEnd_19.2.2.2.2.2.1
theorem dX12_doesEnd_29 : decode cX12_doesEnd 29 = .ok (.iload 5, 2) := edX12_doesEnd_19.2.2.2.2.2.2.1
theorem dX12_doesEnd_31 : decode cX12_doesEnd 31 = .ok (.iload 4, 2) := edX12_doesEnd_19.2.2.2.2.2.2.2.1
theorem dX12_doesEnd_33 : decode cX12_doesEnd 33 = .ok (.if_icmp .gt 49, 3) := edX12_doesEnd_19.2.2.2.2.2.2.2.2.1
theorem dX12_doesEnd_36 : decode cX12_doesEnd 36 = .ok (.aload_n 0, 1) := edX12_doesEnd_19.2.2.2.2.2.2.2.2.2.1
theorem dX12_doesEnd_37 : decode cX12_doesEnd 37 = .ok (.iload_n 1, 1) := edX12_doesEnd_19.2.2.2.2.2.2.2.2.2.2.1
theorem dX12_doesEnd_38 : decode cX12_doesEnd 38 = .ok (.aload_n 0, 1) := edX12_doesEnd_19.2.2.2.2.2.2.2.2.2.2.2
set_option maxRecDepth 20000 in
theorem edX12_doesEnd_39 : decode cX12_doesEnd 39 = .ok (.iload_n 1, 1) ∧ decode cX12_doesEnd 40 = .ok (.invokevirtual 179, 3) ∧ decode cX12_doesEnd 43 = .ok (.iload 5, 2) ∧ decode cX12_doesEnd 45 = .ok (.isub, 1) ∧ decode cX12_doesEnd 46 = .ok (.invokevirtual 182, 3) ∧ decode cX12_doesEnd 49 = .ok (.aload_n 0, 1) ∧ decode cX12_doesEnd 50 = .ok (.getfield 34, 3) ∧ decode cX12_doesEnd 53 = .ok (.iconst 5, 1) ∧ decode cX12_doesEnd 54 = .ok (.iload_n 2, 1) ∧ decode cX12_doesEnd 55 = .ok (.iconst 1, 1) ∧ decode cX12_doesEnd 56 = .ok (.isub, 1) ∧ decode cX12_doesEnd 57 = .ok (.imul, 1) := by decide +kernel
theorem dX12_doesEnd_39 : decode cX12_doesEnd 39 = .ok (.iload_n 1, 1) := edX12_doesEnd_39.1
theorem dX12_doesEnd_40 : decode cX12_doesEnd 40 = .ok (.invokevirtual 179, 3) := edX12_doesEnd_39.2.1
theorem dX12_doesEnd_43 : decode cX12_doesEnd 43 = .ok (.iload 5, 2) := edX12_doesEnd_39.2.2.1
theorem dX12_doesEnd_45 : decode cX12_doesEnd 45 = .ok (.isub, 1) := edX12_doesEnd_39.2.2.2.1
theorem dX12_doesEnd_46 : decode cX12_doesEnd 46 = .ok (.invokevirtual 182, 3) := edX12_doesEnd_39.2.2.2.2.1
theorem dX12_doesEnd_49 : decode cX12_doesEnd 49 = .ok (.aload_n 0, 1) := edX12_doesEnd_39.2.2.2.2.2.1
theorem dX12_doesEnd_50 : decode cX12_doesEnd 50 = .ok (.getfield 34, 3) := edX12_doesEnd_39.2.2.2.2.2.2.1
theorem dX12_doesEnd_53 : decode cX12_doesEnd 53 = .ok (.iconst 5, 1) := edX12_doesEnd_39.2.2.2.2.2.2.2.1
theorem dX12_doesEnd_54 : decode cX12_doesEnd 54 = .ok (.iload_n 2, 1) := edX12_doesEnd_39.2.2.2.2.2.2.2.2.1
theorem dX12_doesEnd_55 : decode cX12_doesEnd 55 = .ok (.iconst 1, 1) := edX12_doesEnd_39.2.2.2.2.2.2.2.2.2.1
theorem dX12_doesEnd_56 : decode cX12_doesEnd 56 = .ok (.isub, 1) := edX12_doesEnd_39.2.2.2.2.2.2.2.2.2.2.1
theorem dX12_doesEnd_57 : decode cX12_doesEnd 57 = .ok (.imul, 1) := edX12_doesEnd_39.2.2.2.2.2.2.2.2.2.2.2
set_option maxRecDepth 20000 in
theorem edX12_doesEnd_58 : decode cX12_doesEnd 58 = .ok (.aload_n 0, 1) ∧ decode cX12_doesEnd 59 = .ok (.getfield 25, 3) ∧ decode cX12_doesEnd 62 = .ok (.iload_n 2, 1) ∧ decode cX12_doesEnd 63 = .ok (.iconst 1, 1) ∧ decode cX12_doesEnd 64 = .ok (.isub, 1) ∧ decode cX12_doesEnd 65 = .ok (.iaload, 1) ∧ decode cX12_doesEnd 66 = .ok (.iadd, 1) ∧ decode cX12_doesEnd 67 = .ok (.iload 5, 2) ∧ decode cX12_doesEnd 69 = .ok (.isub, 1) ∧ decode cX12_doesEnd 70 = .ok (.iaload, 1) ∧ decode cX12_doesEnd 71 = .ok (.if_icmp .eq 5, 3) ∧ decode cX12_doesEnd 74 = .ok (.iconst 0, 1) := by decide +kernel
theorem dX12_doesEnd_58 : decode cX12_doesEnd 58 = .ok (.aload_n 0, 1) := edX12_doesEnd_58.1
theorem dX12_doesEnd_59 : decode cX12_doesEnd 59 = .ok (.getfield 25, 3) := edX12_doesEnd_58.2.1
theorem dX12_doesEnd_62 : decode cX12_doesEnd 62 = .ok (.iload_n 2, 1) := edX12_doesEnd_58.2.2.1
theorem dX12_doesEnd_63 : decode cX12_doesEnd 63 = .ok (.iconst 1, 1) := edX12_doesEnd_58.2.2.2.1
theorem dX12_doesEnd_64 : decode cX12_doesEnd 64 = .ok (.isub, 1) := edX12_doesEnd_58.2.2.2.2.1
theorem dX12_doesEnd_65 : decode cX12_doesEnd 65 = .ok (.iaload, 1) := edX12_doesEnd_58.2.2.2.2.2.1
theorem dX12_doesEnd_66 : decode cX12_doesEnd 66 = .ok (.iadd, 1) := edX12_doesEnd_58.2.2.2.2.2.2.1
theorem dX12_doesEnd_67 : decode cX12_doesEnd 67 = .ok (.iload 5, 2) := edX12_doesEnd_58.2.2.2.2.2.2.2.1
theorem dX12_doesEnd_69 : decode cX12_doesEnd 69 = .ok (.isub, 1) := edX12_doesEnd_58.2.2.2.2.2.2.2.2.1
theorem dX12_doesEnd_70 : decode cX12_doesEnd 70 = .ok (.iaload, 1) := edX12_doesEnd_58.2.2.2.2.2.2.2.2.2.1
theorem dX12_doesEnd_71 : decode cX12_doesEnd 71 = .ok (.if_icmp .eq 5, 3) := edX12_doesEnd_58.2.2.2.2.2.2.2.2.2.2.1
theorem dX12_doesEnd_74 : decode cX12_doesEnd 74 = .ok (.iconst 0, 1) := edX12_doesEnd_58.2.2.2.2.2.2.2.2.2.2.2
set_option maxRecDepth 20000 in
theorem edX12_doesEnd_75 : decode cX12_doesEnd 75 = .ok (.ireturn, 1) ∧ decode cX12_doesEnd 76 = .ok (.iinc 5 1, 3) ∧ decode cX12_doesEnd 79 = .ok (.goto (-50), 3) ∧ decode cX12_doesEnd 82 = .ok (.iconst 1, 1) ∧ decode cX12_doesEnd 83 = .ok (.ireturn, 1) := by decide +kernel
theorem dX12_doesEnd_75 : decode cX12_doesEnd 75 = .ok (.ireturn, 1) := edX12_doesEnd_75.1
theorem dX12_doesEnd_76 : decode cX12_doesEnd 76 = .ok (.iinc 5 1, 3) := edX12_doesEnd_75.2.1
theorem dX12_doesEnd_79 : decode cX12_doesEnd 79 = .ok (.goto (-50), 3) := edX12_doesEnd_75.2.2.1
theorem dX12_doesEnd_82 : decode cX12_doesEnd 82 = .ok (.iconst 1, 1) := edX12_doesEnd_75.2.2.2.1
theorem dX12_doesEnd_83 : decode cX12_doesEnd 83 = .ok (.ireturn, 1) := edX12_doesEnd_75.2.2.2.2
noncomputable def voX12_doesEnd : List Cond := [.fieldLink RX12 25 "EachOnHisCueModel" "many" "[I", .fieldLink RX12 34 "EachOnHisCueModel" "word" "[I", .methodLink RX12 175 yX12_least, .static yX12_least, .initialized RX12, .methodLink RX12 179 yX12_saidWords, .instanceMethod yX12_saidWords, .selects RX12 yX12_saidWords yX12_saidWords, .methodLink RX12 182 yX12_saidWord, .instanceMethod yX12_saidWord, .selects RX12 yX12_saidWord yX12_saidWord]
noncomputable def vsX12_doesEnd : List Cond := .code yX12_doesEnd cX12_doesEnd 6 (some .boolean) :: (voX12_doesEnd ++ (vsX12_least ++ (vsX12_saidWords ++ (vsX12_saidWord ++ (wsX120)))))
theorem zgX12_doesEnd : zGd vsX12_doesEnd := z_gdC rfl (z_gdA (z_gdO (by decide +kernel) : zGd voX12_doesEnd) (z_gdA zgX12_least (z_gdA zgX12_saidWords (z_gdA zgX12_saidWord (zgX12)))))
theorem in_X12_doesEnd_X12 : ∀ w ∈ wsX120, w ∈ vsX12_doesEnd := fun _ h => List.mem_cons_of_mem _ (List.mem_append_right _ (List.mem_append_right _ (List.mem_append_right _ (List.mem_append_right _ (h)))))
theorem gw_X12_doesEnd_X12_least : GoodIn vsX12_doesEnd vsX12_least := z_gdI (fun _ h => List.mem_cons_of_mem _ (List.mem_append_right _ (List.mem_append_left _ h))) zgX12_least
set_option maxRecDepth 20000 in
theorem gv_X12_doesEnd_X12_least_175 : GoodIn vsX12_doesEnd (va_wsS RX12 175 yX12_least vsX12_least) := goodIn_app (goodIn_of _ (by decide +kernel)) gw_X12_doesEnd_X12_least
theorem gw_X12_doesEnd_X12_saidWords : GoodIn vsX12_doesEnd vsX12_saidWords := z_gdI (fun _ h => List.mem_cons_of_mem _ (List.mem_append_right _ (List.mem_append_right _ (List.mem_append_left _ h)))) zgX12_saidWords
set_option maxRecDepth 20000 in
theorem gv_X12_doesEnd_X12_saidWords_179 : GoodIn vsX12_doesEnd (wsV RX12 179 RX12 yX12_saidWords vsX12_saidWords) := goodIn_app (goodIn_of _ (by decide +kernel)) gw_X12_doesEnd_X12_saidWords
theorem gw_X12_doesEnd_X12_saidWord : GoodIn vsX12_doesEnd vsX12_saidWord := z_gdI (fun _ h => List.mem_cons_of_mem _ (List.mem_append_right _ (List.mem_append_right _ (List.mem_append_right _ (List.mem_append_left _ h))))) zgX12_saidWord
set_option maxRecDepth 20000 in
theorem gv_X12_doesEnd_X12_saidWord_182 : GoodIn vsX12_doesEnd (wsV RX12 182 RX12 yX12_saidWord vsX12_saidWord) := goodIn_app (goodIn_of _ (by decide +kernel)) gw_X12_doesEnd_X12_saidWord
set_option maxHeartbeats 4000000 in
set_option maxRecDepth 100000 in
theorem rX12_doesEnd (l : Launch) (dC : Nat → ClassId) (dI : Nat → Nat → Nat) (cI cQ : ClassId) (ha0 ha0_5 ha0_8 ha0_0 ha0_1 ha0_2 ha0_3 ha0_4 ha0_6 ha0_7 ha0_16 ha0_17 ha0_18 ha0_19 ha0_23 ha0_29 ha0_33 ha0_34 ha0_35 : Nat) (fa0_5 : Nat → Int32) (hBfa0_5 : ∀ k, 0 ≤ (fa0_5 k).toInt ∧ (fa0_5 k).toInt ≤ 4) (fa0_8 : Nat → Int32) (ia0_9 : Int32) (hia0_9l : 0 ≤ ia0_9.toInt) (hia0_9h : ia0_9.toInt ≤ 5) (ia0_10 : Int32) (hia0_10l : 0 ≤ ia0_10.toInt) (hia0_10h : ia0_10.toInt ≤ 12) (ia0_11 : Int32) (ia0_12 : Int32) (ia0_13 : Int32) (ia0_14 : Int32) (hia0_14l : (-9) ≤ ia0_14.toInt) (hia0_14h : ia0_14.toInt ≤ 11) (ia0_15 : Int32) (ia0_20 : Int32) (hia0_20l : 0 ≤ ia0_20.toInt) (hia0_20h : ia0_20.toInt ≤ 80) (ia0_21 : Int32) (hia0_21l : 0 ≤ ia0_21.toInt) (hia0_21h : ia0_21.toInt ≤ 80) (ia0_22 : Int32) (hia0_22l : 0 ≤ ia0_22.toInt) (hia0_22h : ia0_22.toInt ≤ 40) (ia0_24 : Int32) (hia0_24l : 0 ≤ ia0_24.toInt) (hia0_24h : ia0_24.toInt ≤ 1) (ia0_25 : Int32) (hia0_25l : 0 ≤ ia0_25.toInt) (hia0_25h : ia0_25.toInt ≤ 1) (ia0_26 : Int32) (hia0_26l : 0 ≤ ia0_26.toInt) (hia0_26h : ia0_26.toInt ≤ 300) (ia0_27 : Int32) (hia0_27l : (-9) ≤ ia0_27.toInt) (hia0_27h : ia0_27.toInt ≤ 11) (ia0_28 : Int32) (ia0_30 : Int32) (hia0_30l : 0 ≤ ia0_30.toInt) (hia0_30h : ia0_30.toInt ≤ 60) (ia0_31 : Int32) (ia0_32 : Int32) (hia0_32l : 0 ≤ ia0_32.toInt) (hia0_32h : ia0_32.toInt ≤ 1) (ia0_36 : Int32) (hia0_36l : 0 ≤ ia0_36.toInt) (hia0_36h : ia0_36.toInt ≤ 12) (ia0_37 : Int32) (p1 : Int32) (hp1l : 0 ≤ p1.toInt) (hp1h : p1.toInt ≤ 11) (p2 : Int32) (hp2l : 1 ≤ p2.toInt) (hp2h : p2.toInt ≤ 11) (p3 : Int32) : Met l yX12_doesEnd vsX12_doesEnd ({ frames := 1, cells := 0, slots := 0, locals := 22 }) (va_Pc [.ref ha0, .int p1, .int p2, .int p3] (zRB dC dI cI cQ [(ha0_5, .inl (cI, 12, .inl fa0_5)), (ha0_8, .inl (cI, 60, .inl fa0_8)), (ha0, .inr (12, [.ref ha0_0, .ref ha0_1, .ref ha0_2, .ref ha0_3, .ref ha0_4, .ref ha0_5, .ref ha0_6, .ref ha0_7, .ref ha0_8, .int ia0_9, .int ia0_10, .int ia0_11, .int ia0_12, .int ia0_13, .int ia0_14, .int ia0_15, .ref ha0_16, .ref ha0_17, .ref ha0_18, .ref ha0_19, .int ia0_20, .int ia0_21, .int ia0_22, .ref ha0_23, .int ia0_24, .int ia0_25, .int ia0_26, .int ia0_27, .int ia0_28, .ref ha0_29, .int ia0_30, .int ia0_31, .int ia0_32, .ref ha0_33, .ref ha0_34, .ref ha0_35, .int ia0_36, .int ia0_37]))])) (vp_Si (fun r => 0 ≤ r.toInt ∧ r.toInt ≤ 1 ∧ (zYn (zDeR fa0_8 fa0_5 ia0_27 ia0_28 p1.toInt p2.toInt p3.toInt) r.toInt))) 0 0 (fun _ => False) := by
  refine Met.ofW (cc := cX12_doesEnd) (maxL := 6) (ret := (some .boolean)) (by decide) rfl ?_
  intro p e s m args below meth c s₁ B hml hv
  obtain ⟨rfl, hP, hZ⟩ := hv
  obtain ⟨hK, hAO, hN⟩ := id hZ
  have hx := B.exec
  have hb := B.bytes
  have hr := B.returns
  have hts := atoms_spec (ws := vsX12_doesEnd) B.pre
  have hown : s.vm.findClass RX12 = some m.cls := findClass_of_methodNamed B.named
  have hlocks := B.notSynchronized
  have hp3l := z_lo p3
  have hp3h := z_hi p3
  have hl := lv_entry ([.ref ha0, .int p1, .int p2, .int p3]) (n := 6) (Nat.le_of_ble_eq_true rfl)
  rw [lg_entry_eq]
  generalize (lg_sl ([.ref ha0, .int p1, .int p2, .int p3]) ++ List.replicate (6 - (lg_sl ([.ref ha0, .int p1, .int p2, .int p3])).length) Slot.unset).toArray = ls at hl ⊢
  have hl : lv_has ls 6 [(0, .ref ha0), (1, .int p1), (2, .int p2), (3, .int p3)] := hl
  refine lv_iload_n hx hb dX12_doesEnd_0 rfl (lv_at hl 3 rfl) ?_
  refine lv_aload_n hx hb dX12_doesEnd_1 rfl (lv_at hl 0 rfl) ?_
  refine va_get (D := (dC, dI)) (ci := 12) (v := .ref ha0_5) (C := RX12) (T := TX12) (N := 38) hx hb hts in_X12_doesEnd_X12 hown hK hP 2 rfl rfl 5 (by decide) (hts (.fieldLink RX12 25 "EachOnHisCueModel" "many" "[I") (by decide +kernel)) (fun _ h9 => h9) rfl dX12_doesEnd_2 ?_
  refine lv_iload_n hx hb dX12_doesEnd_5 rfl (lv_at hl 2 rfl) ?_
  refine lv_iconst (v := 1) hx hb dX12_doesEnd_6 (by decide) ?_
  refine lv_isub hx hb dX12_doesEnd_7 ?_
  refine lv_topi (fun y1 ey1 => ?_)
  have hy1 : y1.toInt = p2.toInt - 1 := by rw [ey1]; exact z_sub rfl (by decide) (by omega) (by omega)
  refine va_iald hx hb hK hP 0 0 rfl rfl (z_in (by omega) (by omega)) dX12_doesEnd_8 ?_
  refine lv_topi (fun y2 ey2 => ?_)
  have gy2 : y2.toInt = (fa0_5 (y1 : Int32).toNatClampNeg).toInt := by rw [ey2]
  have hy2 : 0 ≤ y2.toInt ∧ y2.toInt ≤ 4 := by rw [ey2]; exact hBfa0_5 _
  obtain ⟨hy2, hy2_⟩ := hy2
  refine z_rdi (va_runS (As := [.int p3, .int y2]) (rest := []) ⟨hx, hb, hml, hown, hts⟩ (rX12_least l dC dI cI cQ p3 y2) (va_cwS 2 hts gv_X12_doesEnd_X12_least_175 rfl rfl rfl (by decide +kernel) ⟨Nat.le_of_ble_eq_true rfl, Nat.le_of_ble_eq_true rfl⟩) ⟨z_blindR, z_preR hZ hP [] rfl⟩ rfl rfl hl.1 rfl (lv_room (Nat.le_of_ble_eq_true rfl)) dX12_doesEnd_9 ⟨Nat.le_of_ble_eq_true rfl, Nat.le_of_ble_eq_true rfl⟩) (fun y3 hy3 => ?_)
  obtain ⟨hy3_0, hy3_1, hy3_2⟩ := hy3
  refine lv_istore (lv' := [(4, .int y3), (0, .ref ha0), (1, .int p1), (2, .int p2), (3, .int p3)]) hx hb dX12_doesEnd_12 hl (by decide) rfl (fun ls hl => ?_)
  refine lv_aload_n hx hb dX12_doesEnd_14 rfl (lv_at hl 1 rfl) ?_
  refine lv_iload_n hx hb dX12_doesEnd_15 rfl (lv_at hl 2 rfl) ?_
  refine z_rdi (va_runV (As := [.int p1]) (rest := []) ⟨hx, hb, hml, hown, hts⟩ (rX12_saidWords l dC dI cI cQ ha0 ha0_5 ha0_0 ha0_1 ha0_2 ha0_3 ha0_4 ha0_6 ha0_7 ha0_8 ha0_16 ha0_17 ha0_18 ha0_19 ha0_23 ha0_29 ha0_33 ha0_34 ha0_35 fa0_5 hBfa0_5 ia0_9 hia0_9l hia0_9h ia0_10 hia0_10l hia0_10h ia0_11 ia0_12 ia0_13 ia0_14 hia0_14l hia0_14h ia0_15 ia0_20 hia0_20l hia0_20h ia0_21 hia0_21l hia0_21h ia0_22 hia0_22l hia0_22h ia0_24 hia0_24l hia0_24h ia0_25 hia0_25l hia0_25h ia0_26 hia0_26l hia0_26h ia0_27 hia0_27l hia0_27h ia0_28 ia0_30 hia0_30l hia0_30h ia0_31 ia0_32 hia0_32l hia0_32h ia0_36 hia0_36l hia0_36h ia0_37 p1 hp1l hp1h) (cwV 1 hts gv_X12_doesEnd_X12_saidWords_179 rfl rfl rfl (by decide +kernel) ⟨Nat.le_of_ble_eq_true rfl, Nat.le_of_ble_eq_true rfl⟩) ⟨z_blindR, va_recv hK hP (ci := 12) (q0 := 2) rfl rfl, z_preR hZ hP [0, 2] rfl⟩ rfl rfl hl.1 rfl (lv_room (Nat.le_of_ble_eq_true rfl)) dX12_doesEnd_16 ⟨Nat.le_of_ble_eq_true rfl, Nat.le_of_ble_eq_true rfl⟩) (fun y4 hy4 => ?_)
  obtain ⟨hy4_0, hy4_1, hy4_2⟩ := hy4
  have hsy4 : (y4 : Int32).toInt = zSn fa0_5 ia0_27 p1.toInt := hy4_2
  refine lv_iload hx hb dX12_doesEnd_19 (lv_at hl 0 rfl) ?_
  refine lv_icmp_ge (tgt := 26) hx hb dX12_doesEnd_21 (by decide) (fun hc => ?_) (fun hc => ?_)
  · have q5 : y3.toInt ≤ y4.toInt := z_le rfl rfl hc
    refine lv_iconst (v := 1) hx hb dX12_doesEnd_26 (by decide) ?_
    refine lv_istore (lv' := [(5, .int 1), (4, .int y3), (0, .ref ha0), (1, .int p1), (2, .int p2), (3, .int p3)]) hx hb dX12_doesEnd_27 hl (by decide) rfl (fun ls hl => ?_)
    have hL127 : ∀ (n : Nat) (v6 : Int32) (ls : Array Slot), 1 ≤ v6.toInt → v6.toInt ≤ 6 → (zDeL fa0_8 fa0_5 ia0_27 ia0_28 p1.toInt p2.toInt (v6 : Int32).toInt) → (6 - v6.toInt).toNat < n → lv_has ls 6 [(5, .int v6), (4, .int y3), (0, .ref ha0), (1, .int p1), (2, .int p2), (3, .int p3)] → W p l e (headSpec vsX12_doesEnd ({ frames := 1, cells := 0, slots := 0, locals := 22 })).room s m ([.ref ha0, .int p1, .int p2, .int p3] : List Value).toArray below meth c s.heap [] 0 0 (MQ below (vp_Si (fun r => 0 ≤ r.toInt ∧ r.toInt ≤ 1 ∧ (zYn (zDeR fa0_8 fa0_5 ia0_27 ia0_28 p1.toInt p2.toInt p3.toInt) r.toInt))) ([.ref ha0, .int p1, .int p2, .int p3] : List Value).toArray s 0 0 (fun _ => False)) (F0 m 29 ls []) := by
      intro n
      induction n with
      | zero =>
        intro v6 ls hi128_0 hi128_1 hi128_x0 hi128_m hl
        exact absurd hi128_m (Nat.not_lt_zero _)
      | succ n ih =>
        intro v6 ls hi128_0 hi128_1 hi128_x0 hi128_m hl
        have ih129 := ih
        refine lv_iload hx hb dX12_doesEnd_29 (lv_at hl 0 rfl) ?_
        refine lv_iload hx hb dX12_doesEnd_31 (lv_at hl 1 rfl) ?_
        refine lv_icmp_gt (tgt := 82) hx hb dX12_doesEnd_33 (by decide) (fun hc => ?_) (fun hc => ?_)
        · have q130 : y3.toInt < v6.toInt := z_lt rfl rfl hc
          refine lv_iconst (v := 1) hx hb dX12_doesEnd_82 (by decide) ?_
          exact W.zret (v := 1) hx hb hr (rfl) (fun t ht hW => ⟨1, rfl, ⟨by first | decide | omega, by first | decide | omega, (by have hm2 : (y2 : Int32).toInt = (fa0_5 (p2.toInt - 1).toNat).toInt := (by rw [gy2, z_clN (show (y1 : Int32).toInt = p2.toInt - 1 by omega)]); exact z_deT (l := (y3 : Int32).toInt) (by assumption) (by omega) (by omega) (by omega) (by omega) (by omega) (by omega) (by decide))⟩, ht⟩) (fun _ h => absurd h List.not_mem_nil) dX12_doesEnd_83
        · have q131 : v6.toInt ≤ y3.toInt := z_nlt rfl rfl hc
          refine lv_aload_n hx hb dX12_doesEnd_36 rfl (lv_at hl 2 rfl) ?_
          refine lv_iload_n hx hb dX12_doesEnd_37 rfl (lv_at hl 3 rfl) ?_
          refine lv_aload_n hx hb dX12_doesEnd_38 rfl (lv_at hl 2 rfl) ?_
          refine lv_iload_n hx hb dX12_doesEnd_39 rfl (lv_at hl 3 rfl) ?_
          refine z_rdi (va_runV (As := [.int p1]) (rest := [.int p1, .ref ha0]) ⟨hx, hb, hml, hown, hts⟩ (rX12_saidWords l dC dI cI cQ ha0 ha0_5 ha0_0 ha0_1 ha0_2 ha0_3 ha0_4 ha0_6 ha0_7 ha0_8 ha0_16 ha0_17 ha0_18 ha0_19 ha0_23 ha0_29 ha0_33 ha0_34 ha0_35 fa0_5 hBfa0_5 ia0_9 hia0_9l hia0_9h ia0_10 hia0_10l hia0_10h ia0_11 ia0_12 ia0_13 ia0_14 hia0_14l hia0_14h ia0_15 ia0_20 hia0_20l hia0_20h ia0_21 hia0_21l hia0_21h ia0_22 hia0_22l hia0_22h ia0_24 hia0_24l hia0_24h ia0_25 hia0_25l hia0_25h ia0_26 hia0_26l hia0_26h ia0_27 hia0_27l hia0_27h ia0_28 ia0_30 hia0_30l hia0_30h ia0_31 ia0_32 hia0_32l hia0_32h ia0_36 hia0_36l hia0_36h ia0_37 p1 hp1l hp1h) (cwV 1 hts gv_X12_doesEnd_X12_saidWords_179 rfl rfl rfl (by decide +kernel) ⟨Nat.le_of_ble_eq_true rfl, Nat.le_of_ble_eq_true rfl⟩) ⟨z_blindR, va_recv hK hP (ci := 12) (q0 := 2) rfl rfl, z_preR hZ hP [0, 2] rfl⟩ rfl rfl hl.1 rfl (lv_room (Nat.le_of_ble_eq_true rfl)) dX12_doesEnd_40 ⟨Nat.le_of_ble_eq_true rfl, Nat.le_of_ble_eq_true rfl⟩) (fun y132 hy132 => ?_)
          obtain ⟨hy132_0, hy132_1, hy132_2⟩ := hy132
          have hsy132 : (y132 : Int32).toInt = zSn fa0_5 ia0_27 p1.toInt := hy132_2
          refine lv_iload hx hb dX12_doesEnd_43 (lv_at hl 0 rfl) ?_
          refine lv_isub hx hb dX12_doesEnd_45 ?_
          refine lv_topi (fun y133 ey133 => ?_)
          have hy133 : y133.toInt = y132.toInt - v6.toInt := by rw [ey133]; exact z_sub rfl rfl (by omega) (by omega)
          refine z_rdi (va_runV (As := [.int p1, .int y133]) (rest := []) ⟨hx, hb, hml, hown, hts⟩ (rX12_saidWord l dC dI cI cQ ha0 ha0_5 ha0_8 ha0_0 ha0_1 ha0_2 ha0_3 ha0_4 ha0_6 ha0_7 ha0_16 ha0_17 ha0_18 ha0_19 ha0_23 ha0_29 ha0_33 ha0_34 ha0_35 fa0_5 hBfa0_5 fa0_8 ia0_9 hia0_9l hia0_9h ia0_10 hia0_10l hia0_10h ia0_11 ia0_12 ia0_13 ia0_14 hia0_14l hia0_14h ia0_15 ia0_20 hia0_20l hia0_20h ia0_21 hia0_21l hia0_21h ia0_22 hia0_22l hia0_22h ia0_24 hia0_24l hia0_24h ia0_25 hia0_25l hia0_25h ia0_26 hia0_26l hia0_26h ia0_27 hia0_27l hia0_27h ia0_28 ia0_30 hia0_30l hia0_30h ia0_31 ia0_32 hia0_32l hia0_32h ia0_36 hia0_36l hia0_36h ia0_37 p1 hp1l hp1h y133 (by first | decide | omega) (by first | decide | omega)) (cwV 2 hts gv_X12_doesEnd_X12_saidWord_182 rfl rfl rfl (by decide +kernel) ⟨Nat.le_of_ble_eq_true rfl, Nat.le_of_ble_eq_true rfl⟩) ⟨z_blindR, va_recv hK hP (ci := 12) (q0 := 2) rfl rfl, z_preR hZ hP [0, 1, 2] rfl⟩ rfl rfl hl.1 rfl (lv_room (Nat.le_of_ble_eq_true rfl)) dX12_doesEnd_46 ⟨Nat.le_of_ble_eq_true rfl, Nat.le_of_ble_eq_true rfl⟩) (fun y134 hy134 => ?_)
          obtain ⟨hy134_0, hy134_1, hy134_2⟩ := hy134
          refine lv_aload_n hx hb dX12_doesEnd_49 rfl (lv_at hl 2 rfl) ?_
          refine va_get (D := (dC, dI)) (ci := 12) (v := .ref ha0_8) (C := RX12) (T := TX12) (N := 38) hx hb hts in_X12_doesEnd_X12 hown hK hP 2 rfl rfl 8 (by decide) (hts (.fieldLink RX12 34 "EachOnHisCueModel" "word" "[I") (by decide +kernel)) (fun _ h9 => h9) rfl dX12_doesEnd_50 ?_
          refine lv_iconst (v := 5) hx hb dX12_doesEnd_53 (by decide) ?_
          refine lv_iload_n hx hb dX12_doesEnd_54 rfl (lv_at hl 4 rfl) ?_
          refine lv_iconst (v := 1) hx hb dX12_doesEnd_55 (by decide) ?_
          refine lv_isub hx hb dX12_doesEnd_56 ?_
          refine lv_topi (fun y135 ey135 => ?_)
          obtain rfl : y1 = y135 := ey1.trans ey135.symm
          refine lv_imul hx hb dX12_doesEnd_57 ?_
          refine lv_topi (fun y136 ey136 => ?_)
          have hy136 : y136.toInt = 5 * y1.toInt := by rw [ey136]; exact z_mul (by decide) rfl (by omega) (by omega)
          refine lv_aload_n hx hb dX12_doesEnd_58 rfl (lv_at hl 2 rfl) ?_
          refine va_get (D := (dC, dI)) (ci := 12) (v := .ref ha0_5) (C := RX12) (T := TX12) (N := 38) hx hb hts in_X12_doesEnd_X12 hown hK hP 2 rfl rfl 5 (by decide) (hts (.fieldLink RX12 25 "EachOnHisCueModel" "many" "[I") (by decide +kernel)) (fun _ h9 => h9) rfl dX12_doesEnd_59 ?_
          refine lv_iload_n hx hb dX12_doesEnd_62 rfl (lv_at hl 4 rfl) ?_
          refine lv_iconst (v := 1) hx hb dX12_doesEnd_63 (by decide) ?_
          refine lv_isub hx hb dX12_doesEnd_64 ?_
          refine lv_topi (fun y137 ey137 => ?_)
          obtain rfl : y1 = y137 := ey1.trans ey137.symm
          refine va_iald hx hb hK hP 0 0 rfl rfl (z_in (by omega) (by omega)) dX12_doesEnd_65 ?_
          refine lv_topi (fun y138 ey138 => ?_)
          obtain rfl : y2 = y138 := ey2.trans ey138.symm
          refine lv_iadd hx hb dX12_doesEnd_66 ?_
          refine lv_topi (fun y139 ey139 => ?_)
          have hy139 : y139.toInt = y136.toInt + y2.toInt := by rw [ey139]; exact z_add rfl rfl (by omega) (by omega)
          refine lv_iload hx hb dX12_doesEnd_67 (lv_at hl 0 rfl) ?_
          refine lv_isub hx hb dX12_doesEnd_69 ?_
          refine lv_topi (fun y140 ey140 => ?_)
          have hy140 : y140.toInt = y139.toInt - v6.toInt := by rw [ey140]; exact z_sub rfl rfl (by omega) (by omega)
          refine va_iald hx hb hK hP 1 0 rfl rfl (z_in (by omega) (by omega)) dX12_doesEnd_70 ?_
          refine lv_topi (fun y141 ey141 => ?_)
          have gy141 : y141.toInt = (fa0_8 (y140 : Int32).toNatClampNeg).toInt := by rw [ey141]
          refine lv_icmp_eq (tgt := 76) hx hb dX12_doesEnd_71 (by decide) (fun hc => ?_) (fun hc => ?_)
          · have q142 : y134.toInt = y141.toInt := z_eq rfl rfl hc
            obtain ⟨y143, ey143⟩ : ∃ y : Int32, y = v6 + 1 := ⟨_, rfl⟩
            refine lv_iinc (v := y143) (lv' := [(5, .int y143), (4, .int y3), (0, .ref ha0), (1, .int p1), (2, .int p2), (3, .int p3)]) hx hb dX12_doesEnd_76 hl (k := 0) rfl (by rw [ey143]; rfl) (by decide) rfl (fun ls hl => ?_)
            have hy143 : y143.toInt = v6.toInt + 1 := by rw [ey143]; exact z_add rfl (by decide) (by omega) (by omega)
            refine lv_goto (tgt := 29) hx hb dX12_doesEnd_79 (by decide) ?_
            exact ih129 y143 ls (by first | decide | omega) (by first | decide | omega) (z_deLS (by assumption) (by omega) (by omega) (hy134_2.trans (by rw [show (y133 : Int32).toInt = zSn fa0_5 ia0_27 p1.toInt - (v6 : Int32).toInt by omega])) gy141 (by have hm2 : (y2 : Int32).toInt = (fa0_5 (p2.toInt - 1).toNat).toInt := (by rw [gy2, z_clN (show (y1 : Int32).toInt = p2.toInt - 1 by omega)]); omega) (by omega)) (by omega) (lv_sub hl [0, 1, 2, 3, 4, 5] rfl)
          · have q144 : y134.toInt ≠ y141.toInt := z_ne rfl rfl hc
            refine lv_iconst (v := 0) hx hb dX12_doesEnd_74 (by decide) ?_
            exact W.zret (v := 0) hx hb hr (rfl) (fun t ht hW => ⟨0, rfl, ⟨by first | decide | omega, by first | decide | omega, (by have hm2 : (y2 : Int32).toInt = (fa0_5 (p2.toInt - 1).toNat).toInt := (by rw [gy2, z_clN (show (y1 : Int32).toInt = p2.toInt - 1 by omega)]); exact z_deF (k := (v6 : Int32).toInt) (l := (y3 : Int32).toInt) (by omega) (by omega) (by omega) (by omega) (by omega) (by omega) (by omega) (hy134_2.trans (by rw [show (y133 : Int32).toInt = zSn fa0_5 ia0_27 p1.toInt - (v6 : Int32).toInt by omega])) gy141 (by have hm2 : (y2 : Int32).toInt = (fa0_5 (p2.toInt - 1).toNat).toInt := (by rw [gy2, z_clN (show (y1 : Int32).toInt = p2.toInt - 1 by omega)]); omega) (by omega) (by decide))⟩, ht⟩) (fun _ h => absurd h List.not_mem_nil) dX12_doesEnd_75
    exact hL127 ((6 - (1 : Int32).toInt).toNat + 1) 1 ls (by decide) (by decide) (z_deL1 (by decide)) (by omega) hl
  · have q145 : y4.toInt < y3.toInt := z_nle rfl rfl hc
    refine lv_iconst (v := 0) hx hb dX12_doesEnd_24 (by decide) ?_
    exact W.zret (v := 0) hx hb hr (rfl) (fun t ht hW => ⟨0, rfl, ⟨by first | decide | omega, by first | decide | omega, (by have hm2 : (y2 : Int32).toInt = (fa0_5 (p2.toInt - 1).toNat).toInt := (by rw [gy2, z_clN (show (y1 : Int32).toInt = p2.toInt - 1 by omega)]); exact z_deN (l := (y3 : Int32).toInt) (by omega) (by omega) (by omega) (by omega) (by decide))⟩, ht⟩) (fun _ h => absurd h List.not_mem_nil) dX12_doesEnd_25
set_option maxRecDepth 20000 in
theorem edX12_isCued_0 : decode cX12_isCued 0 = .ok (.iload_n 1, 1) ∧ decode cX12_isCued 1 = .ok (.ifCond .ne 5, 3) ∧ decode cX12_isCued 4 = .ok (.iconst 0, 1) ∧ decode cX12_isCued 5 = .ok (.ireturn, 1) ∧ decode cX12_isCued 6 = .ok (.aload_n 0, 1) ∧ decode cX12_isCued 7 = .ok (.getfield 22, 3) ∧ decode cX12_isCued 10 = .ok (.iload_n 1, 1) ∧ decode cX12_isCued 11 = .ok (.iaload, 1) ∧ decode cX12_isCued 12 = .ok (.istore_n 3, 1) ∧ decode cX12_isCued 13 = .ok (.aload_n 0, 1) ∧ decode cX12_isCued 14 = .ok (.getfield 13, 3) ∧ decode cX12_isCued 17 = .ok (.iload_n 3, 1) := by decide +kernel
theorem dX12_isCued_0 : decode cX12_isCued 0 = .ok (.iload_n 1, 1) := edX12_isCued_0.1
theorem dX12_isCued_1 : decode cX12_isCued 1 = .ok (.ifCond .ne 5, 3) := edX12_isCued_0.2.1
theorem dX12_isCued_4 : decode cX12_isCued 4 = .ok (.iconst 0, 1) := edX12_isCued_0.2.2.1
theorem dX12_isCued_5 : decode cX12_isCued 5 = .ok (.ireturn, 1) := edX12_isCued_0.2.2.2.1
theorem dX12_isCued_6 : decode cX12_isCued 6 = .ok (.aload_n 0, 1) := edX12_isCued_0.2.2.2.2.1
theorem dX12_isCued_7 : decode cX12_isCued 7 = .ok (.getfield 22, 3) := edX12_isCued_0.2.2.2.2.2.1
theorem dX12_isCued_10 : decode cX12_isCued 10 = .ok (.iload_n 1, 1) := edX12_isCued_0.2.2.2.2.2.2.1
theorem dX12_isCued_11 : decode cX12_isCued 11 = .ok (.iaload, 1) := edX12_isCued_0.2.2.2.2.2.2.2.1
theorem dX12_isCued_12 : decode cX12_isCued 12 = .ok (.istore_n 3, 1) := edX12_isCued_0.2.2.2.2.2.2.2.2.1
theorem dX12_isCued_13 : decode cX12_isCued 13 = .ok (.aload_n 0, 1) := edX12_isCued_0.2.2.2.2.2.2.2.2.2.1
theorem dX12_isCued_14 : decode cX12_isCued 14 = .ok (.getfield 13, 3) := edX12_isCued_0.2.2.2.2.2.2.2.2.2.2.1
theorem dX12_isCued_17 : decode cX12_isCued 17 = .ok (.iload_n 3, 1) := edX12_isCued_0.2.2.2.2.2.2.2.2.2.2.2
set_option maxRecDepth 20000 in
theorem edX12_isCued_18 : decode cX12_isCued 18 = .ok (.iaload, 1) ∧ decode cX12_isCued 19 = .ok (.iconst 3, 1) ∧ decode cX12_isCued 20 = .ok (.if_icmp .eq 13, 3) ∧ decode cX12_isCued 23 = .ok (.aload_n 0, 1) ∧ decode cX12_isCued 24 = .ok (.getfield 13, 3) ∧ decode cX12_isCued 27 = .ok (.iload_n 3, 1) ∧ decode cX12_isCued 28 = .ok (.iaload, 1) ∧ decode cX12_isCued 29 = .ok (.iconst 4, 1) ∧ decode cX12_isCued 30 = .ok (.if_icmp .ne 7, 3) ∧ decode cX12_isCued 33 = .ok (.iconst 1, 1) ∧ decode cX12_isCued 34 = .ok (.goto 4, 3) ∧ decode cX12_isCued 37 = .ok (.iconst 0, 1) := by decide +kernel
theorem dX12_isCued_18 : decode cX12_isCued 18 = .ok (.iaload, 1) := edX12_isCued_18.1
theorem dX12_isCued_19 : decode cX12_isCued 19 = .ok (.iconst 3, 1) := edX12_isCued_18.2.1
theorem dX12_isCued_20 : decode cX12_isCued 20 = .ok (.if_icmp .eq 13, 3) := edX12_isCued_18.2.2.1
theorem dX12_isCued_23 : decode cX12_isCued 23 = .ok (.aload_n 0, 1) := edX12_isCued_18.2.2.2.1
theorem dX12_isCued_24 : decode cX12_isCued 24 = .ok (.getfield 13, 3) := edX12_isCued_18.2.2.2.2.1
theorem dX12_isCued_27 : decode cX12_isCued 27 = .ok (.iload_n 3, 1) := edX12_isCued_18.2.2.2.2.2.1
theorem dX12_isCued_28 : decode cX12_isCued 28 = .ok (.iaload, 1) := edX12_isCued_18.2.2.2.2.2.2.1
theorem dX12_isCued_29 : decode cX12_isCued 29 = .ok (.iconst 4, 1) := edX12_isCued_18.2.2.2.2.2.2.2.1
theorem dX12_isCued_30 : decode cX12_isCued 30 = .ok (.if_icmp .ne 7, 3) := edX12_isCued_18.2.2.2.2.2.2.2.2.1
theorem dX12_isCued_33 : decode cX12_isCued 33 = .ok (.iconst 1, 1) := edX12_isCued_18.2.2.2.2.2.2.2.2.2.1
theorem dX12_isCued_34 : decode cX12_isCued 34 = .ok (.goto 4, 3) := edX12_isCued_18.2.2.2.2.2.2.2.2.2.2.1
theorem dX12_isCued_37 : decode cX12_isCued 37 = .ok (.iconst 0, 1) := edX12_isCued_18.2.2.2.2.2.2.2.2.2.2.2
set_option maxRecDepth 20000 in
theorem edX12_isCued_38 : decode cX12_isCued 38 = .ok (.istore 4, 2) ∧ decode cX12_isCued 40 = .ok (.aload_n 0, 1) ∧ decode cX12_isCued 41 = .ok (.iload_n 2, 1) ∧ decode cX12_isCued 42 = .ok (.iload_n 1, 1) ∧ decode cX12_isCued 43 = .ok (.iload 4, 2) ∧ decode cX12_isCued 45 = .ok (.ifCond .eq 21, 3) ∧ decode cX12_isCued 48 = .ok (.aload_n 0, 1) ∧ decode cX12_isCued 49 = .ok (.getfield 28, 3) ∧ decode cX12_isCued 52 = .ok (.iload_n 1, 1) ∧ decode cX12_isCued 53 = .ok (.iaload, 1) ∧ decode cX12_isCued 54 = .ok (.aload_n 0, 1) ∧ decode cX12_isCued 55 = .ok (.getfield 16, 3) := by decide +kernel
theorem dX12_isCued_38 : decode cX12_isCued 38 = .ok (.istore 4, 2) := edX12_isCued_38.1
theorem dX12_isCued_40 : decode cX12_isCued 40 = .ok (.aload_n 0, 1) := edX12_isCued_38.2.1
theorem dX12_isCued_41 : decode cX12_isCued 41 = .ok (.iload_n 2, 1) := edX12_isCued_38.2.2.1
theorem dX12_isCued_42 : decode cX12_isCued 42 = .ok (.iload_n 1, 1) := edX12_isCued_38.2.2.2.1
theorem dX12_isCued_43 : decode cX12_isCued 43 = .ok (.iload 4, 2) := edX12_isCued_38.2.2.2.2.1
theorem dX12_isCued_45 : decode cX12_isCued 45 = .ok (.ifCond .eq 21, 3) := edX12_isCued_38.2.2.2.2.2.1
theorem dX12_isCued_48 : decode cX12_isCued 48 = .ok (.aload_n 0, 1) := edX12_isCued_38.2.2.2.2.2.2.1
theorem dX12_isCued_49 : decode cX12_isCued 49 = .ok (.getfield 28, 3) := edX12_isCued_38.2.2.2.2.2.2.2.1
theorem dX12_isCued_52 : decode cX12_isCued 52 = .ok (.iload_n 1, 1) := edX12_isCued_38.2.2.2.2.2.2.2.2.1
theorem dX12_isCued_53 : decode cX12_isCued 53 = .ok (.iaload, 1) := edX12_isCued_38.2.2.2.2.2.2.2.2.2.1
theorem dX12_isCued_54 : decode cX12_isCued 54 = .ok (.aload_n 0, 1) := edX12_isCued_38.2.2.2.2.2.2.2.2.2.2.1
theorem dX12_isCued_55 : decode cX12_isCued 55 = .ok (.getfield 16, 3) := edX12_isCued_38.2.2.2.2.2.2.2.2.2.2.2
set_option maxRecDepth 20000 in
theorem edX12_isCued_58 : decode cX12_isCued 58 = .ok (.iload_n 3, 1) ∧ decode cX12_isCued 59 = .ok (.iaload, 1) ∧ decode cX12_isCued 60 = .ok (.invokestatic 175, 3) ∧ decode cX12_isCued 63 = .ok (.goto 9, 3) ∧ decode cX12_isCued 66 = .ok (.aload_n 0, 1) ∧ decode cX12_isCued 67 = .ok (.getfield 28, 3) ∧ decode cX12_isCued 70 = .ok (.iload_n 1, 1) ∧ decode cX12_isCued 71 = .ok (.iaload, 1) ∧ decode cX12_isCued 72 = .ok (.invokevirtual 185, 3) ∧ decode cX12_isCued 75 = .ok (.ireturn, 1) := by decide +kernel
theorem dX12_isCued_58 : decode cX12_isCued 58 = .ok (.iload_n 3, 1) := edX12_isCued_58.1
theorem dX12_isCued_59 : decode cX12_isCued 59 = .ok (.iaload, 1) := edX12_isCued_58.2.1
theorem dX12_isCued_60 : decode cX12_isCued 60 = .ok (.invokestatic 175, 3) := edX12_isCued_58.2.2.1
theorem dX12_isCued_63 : decode cX12_isCued 63 = .ok (.goto 9, 3) := edX12_isCued_58.2.2.2.1
theorem dX12_isCued_66 : decode cX12_isCued 66 = .ok (.aload_n 0, 1) := edX12_isCued_58.2.2.2.2.1
theorem dX12_isCued_67 : decode cX12_isCued 67 = .ok (.getfield 28, 3) := edX12_isCued_58.2.2.2.2.2.1
theorem dX12_isCued_70 : decode cX12_isCued 70 = .ok (.iload_n 1, 1) := edX12_isCued_58.2.2.2.2.2.2.1
theorem dX12_isCued_71 : decode cX12_isCued 71 = .ok (.iaload, 1) := edX12_isCued_58.2.2.2.2.2.2.2.1
theorem dX12_isCued_72 : decode cX12_isCued 72 = .ok (.invokevirtual 185, 3) := edX12_isCued_58.2.2.2.2.2.2.2.2.1
theorem dX12_isCued_75 : decode cX12_isCued 75 = .ok (.ireturn, 1) := edX12_isCued_58.2.2.2.2.2.2.2.2.2
noncomputable def voX12_isCued : List Cond := [.fieldLink RX12 22 "EachOnHisCueModel" "whose" "[I", .fieldLink RX12 13 "EachOnHisCueModel" "kind" "[I", .fieldLink RX12 28 "EachOnHisCueModel" "cue" "[I", .fieldLink RX12 16 "EachOnHisCueModel" "figure" "[I", .methodLink RX12 175 yX12_least, .static yX12_least, .initialized RX12, .methodLink RX12 185 yX12_doesEnd, .instanceMethod yX12_doesEnd, .selects RX12 yX12_doesEnd yX12_doesEnd]
noncomputable def vsX12_isCued : List Cond := .code yX12_isCued cX12_isCued 5 (some .boolean) :: (voX12_isCued ++ (vsX12_least ++ (vsX12_doesEnd ++ (wsX120))))
theorem zgX12_isCued : zGd vsX12_isCued := z_gdC rfl (z_gdA (z_gdO (by decide +kernel) : zGd voX12_isCued) (z_gdA zgX12_least (z_gdA zgX12_doesEnd (zgX12))))
theorem in_X12_isCued_X12 : ∀ w ∈ wsX120, w ∈ vsX12_isCued := fun _ h => List.mem_cons_of_mem _ (List.mem_append_right _ (List.mem_append_right _ (List.mem_append_right _ (h))))
theorem gw_X12_isCued_X12_least : GoodIn vsX12_isCued vsX12_least := z_gdI (fun _ h => List.mem_cons_of_mem _ (List.mem_append_right _ (List.mem_append_left _ h))) zgX12_least
set_option maxRecDepth 20000 in
theorem gv_X12_isCued_X12_least_175 : GoodIn vsX12_isCued (va_wsS RX12 175 yX12_least vsX12_least) := goodIn_app (goodIn_of _ (by decide +kernel)) gw_X12_isCued_X12_least
theorem gw_X12_isCued_X12_doesEnd : GoodIn vsX12_isCued vsX12_doesEnd := z_gdI (fun _ h => List.mem_cons_of_mem _ (List.mem_append_right _ (List.mem_append_right _ (List.mem_append_left _ h)))) zgX12_doesEnd
set_option maxRecDepth 20000 in
theorem gv_X12_isCued_X12_doesEnd_185 : GoodIn vsX12_isCued (wsV RX12 185 RX12 yX12_doesEnd vsX12_doesEnd) := goodIn_app (goodIn_of _ (by decide +kernel)) gw_X12_isCued_X12_doesEnd
set_option maxHeartbeats 4000000 in
set_option maxRecDepth 100000 in
theorem rX12_isCued (l : Launch) (dC : Nat → ClassId) (dI : Nat → Nat → Nat) (cI cQ : ClassId) (ha0 ha0_1 ha0_2 ha0_4 ha0_5 ha0_6 ha0_8 ha0_0 ha0_3 ha0_7 ha0_16 ha0_17 ha0_18 ha0_19 ha0_23 ha0_29 ha0_33 ha0_34 ha0_35 : Nat) (fa0_1 : Nat → Int32) (fa0_2 : Nat → Int32) (fa0_4 : Nat → Int32) (hBfa0_4 : ∀ k, 0 ≤ (fa0_4 k).toInt ∧ (fa0_4 k).toInt ≤ 4) (fa0_5 : Nat → Int32) (hBfa0_5 : ∀ k, 0 ≤ (fa0_5 k).toInt ∧ (fa0_5 k).toInt ≤ 4) (fa0_6 : Nat → Int32) (hBfa0_6 : ∀ k, 0 ≤ (fa0_6 k).toInt ∧ (fa0_6 k).toInt ≤ 9) (fa0_8 : Nat → Int32) (ia0_9 : Int32) (hia0_9l : 0 ≤ ia0_9.toInt) (hia0_9h : ia0_9.toInt ≤ 5) (ia0_10 : Int32) (hia0_10l : 0 ≤ ia0_10.toInt) (hia0_10h : ia0_10.toInt ≤ 12) (ia0_11 : Int32) (ia0_12 : Int32) (ia0_13 : Int32) (ia0_14 : Int32) (hia0_14l : (-9) ≤ ia0_14.toInt) (hia0_14h : ia0_14.toInt ≤ 11) (ia0_15 : Int32) (ia0_20 : Int32) (hia0_20l : 0 ≤ ia0_20.toInt) (hia0_20h : ia0_20.toInt ≤ 80) (ia0_21 : Int32) (hia0_21l : 0 ≤ ia0_21.toInt) (hia0_21h : ia0_21.toInt ≤ 80) (ia0_22 : Int32) (hia0_22l : 0 ≤ ia0_22.toInt) (hia0_22h : ia0_22.toInt ≤ 40) (ia0_24 : Int32) (hia0_24l : 0 ≤ ia0_24.toInt) (hia0_24h : ia0_24.toInt ≤ 1) (ia0_25 : Int32) (hia0_25l : 0 ≤ ia0_25.toInt) (hia0_25h : ia0_25.toInt ≤ 1) (ia0_26 : Int32) (hia0_26l : 0 ≤ ia0_26.toInt) (hia0_26h : ia0_26.toInt ≤ 300) (ia0_27 : Int32) (hia0_27l : (-9) ≤ ia0_27.toInt) (hia0_27h : ia0_27.toInt ≤ 11) (ia0_28 : Int32) (ia0_30 : Int32) (hia0_30l : 0 ≤ ia0_30.toInt) (hia0_30h : ia0_30.toInt ≤ 60) (ia0_31 : Int32) (ia0_32 : Int32) (hia0_32l : 0 ≤ ia0_32.toInt) (hia0_32h : ia0_32.toInt ≤ 1) (ia0_36 : Int32) (hia0_36l : 0 ≤ ia0_36.toInt) (hia0_36h : ia0_36.toInt ≤ 12) (ia0_37 : Int32) (p1 : Int32) (hp1l : 0 ≤ p1.toInt) (hp1h : p1.toInt ≤ 11) (p2 : Int32) (hp2l : 0 ≤ p2.toInt) (hp2h : p2.toInt ≤ 11) : Met l yX12_isCued vsX12_isCued ({ frames := 2, cells := 0, slots := 0, locals := 47 }) (va_Pc [.ref ha0, .int p1, .int p2] (zRB dC dI cI cQ [(ha0_1, .inl (cI, 5, .inl fa0_1)), (ha0_2, .inl (cI, 5, .inl fa0_2)), (ha0_4, .inl (cI, 12, .inl fa0_4)), (ha0_5, .inl (cI, 12, .inl fa0_5)), (ha0_6, .inl (cI, 12, .inl fa0_6)), (ha0_8, .inl (cI, 60, .inl fa0_8)), (ha0, .inr (12, [.ref ha0_0, .ref ha0_1, .ref ha0_2, .ref ha0_3, .ref ha0_4, .ref ha0_5, .ref ha0_6, .ref ha0_7, .ref ha0_8, .int ia0_9, .int ia0_10, .int ia0_11, .int ia0_12, .int ia0_13, .int ia0_14, .int ia0_15, .ref ha0_16, .ref ha0_17, .ref ha0_18, .ref ha0_19, .int ia0_20, .int ia0_21, .int ia0_22, .ref ha0_23, .int ia0_24, .int ia0_25, .int ia0_26, .int ia0_27, .int ia0_28, .ref ha0_29, .int ia0_30, .int ia0_31, .int ia0_32, .ref ha0_33, .ref ha0_34, .ref ha0_35, .int ia0_36, .int ia0_37]))])) (vp_Si (fun r => 0 ≤ r.toInt ∧ r.toInt ≤ 1 ∧ (zYn (zIcR fa0_8 fa0_5 ia0_27 ia0_28 fa0_1 fa0_2 fa0_4 fa0_6 p2.toInt p1.toInt) r.toInt))) 0 0 (fun _ => False) := by
  refine Met.ofW (cc := cX12_isCued) (maxL := 5) (ret := (some .boolean)) (by decide) rfl ?_
  intro p e s m args below meth c s₁ B hml hv
  obtain ⟨rfl, hP, hZ⟩ := hv
  obtain ⟨hK, hAO, hN⟩ := id hZ
  have hx := B.exec
  have hb := B.bytes
  have hr := B.returns
  have hts := atoms_spec (ws := vsX12_isCued) B.pre
  have hown : s.vm.findClass RX12 = some m.cls := findClass_of_methodNamed B.named
  have hlocks := B.notSynchronized
  have hl := lv_entry ([.ref ha0, .int p1, .int p2]) (n := 5) (Nat.le_of_ble_eq_true rfl)
  rw [lg_entry_eq]
  generalize (lg_sl ([.ref ha0, .int p1, .int p2]) ++ List.replicate (5 - (lg_sl ([.ref ha0, .int p1, .int p2])).length) Slot.unset).toArray = ls at hl ⊢
  have hl : lv_has ls 5 [(0, .ref ha0), (1, .int p1), (2, .int p2)] := hl
  refine lv_iload_n hx hb dX12_isCued_0 rfl (lv_at hl 1 rfl) ?_
  refine lv_if_ne (tgt := 6) hx hb dX12_isCued_1 (by decide) (fun hc => ?_) (fun hc => ?_)
  · have q1 : p1.toInt ≠ 0 := z_ne rfl (by decide) hc
    refine lv_aload_n hx hb dX12_isCued_6 rfl (lv_at hl 0 rfl) ?_
    refine va_get (D := (dC, dI)) (ci := 12) (v := .ref ha0_4) (C := RX12) (T := TX12) (N := 38) hx hb hts in_X12_isCued_X12 hown hK hP 6 rfl rfl 4 (by decide) (hts (.fieldLink RX12 22 "EachOnHisCueModel" "whose" "[I") (by decide +kernel)) (fun _ h9 => h9) rfl dX12_isCued_7 ?_
    refine lv_iload_n hx hb dX12_isCued_10 rfl (lv_at hl 1 rfl) ?_
    refine va_iald hx hb hK hP 2 0 rfl rfl (z_in (by omega) (by omega)) dX12_isCued_11 ?_
    refine lv_topi (fun y2 ey2 => ?_)
    have gy2 : y2.toInt = (fa0_4 (p1 : Int32).toNatClampNeg).toInt := by rw [ey2]
    have hy2 : 0 ≤ y2.toInt ∧ y2.toInt ≤ 4 := by rw [ey2]; exact hBfa0_4 _
    obtain ⟨hy2, hy2_⟩ := hy2
    refine lv_istore_n (lv' := [(3, .int y2), (0, .ref ha0), (1, .int p1), (2, .int p2)]) hx hb dX12_isCued_12 rfl hl (by decide) rfl (fun ls hl => ?_)
    refine lv_aload_n hx hb dX12_isCued_13 rfl (lv_at hl 1 rfl) ?_
    refine va_get (D := (dC, dI)) (ci := 12) (v := .ref ha0_1) (C := RX12) (T := TX12) (N := 38) hx hb hts in_X12_isCued_X12 hown hK hP 6 rfl rfl 1 (by decide) (hts (.fieldLink RX12 13 "EachOnHisCueModel" "kind" "[I") (by decide +kernel)) (fun _ h9 => h9) rfl dX12_isCued_14 ?_
    refine lv_iload_n hx hb dX12_isCued_17 rfl (lv_at hl 0 rfl) ?_
    refine va_iald hx hb hK hP 0 0 rfl rfl (z_in (by omega) (by omega)) dX12_isCued_18 ?_
    refine lv_topi (fun y3 ey3 => ?_)
    have gy3 : y3.toInt = (fa0_1 (y2 : Int32).toNatClampNeg).toInt := by rw [ey3]
    refine lv_iconst (v := 3) hx hb dX12_isCued_19 (by decide) ?_
    refine lv_icmp_eq (tgt := 33) hx hb dX12_isCued_20 (by decide) (fun hc => ?_) (fun hc => ?_)
    · have q4 : y3.toInt = 3 := z_eq rfl (by decide) hc
      refine lv_iconst (v := 1) hx hb dX12_isCued_33 (by decide) ?_
      refine lv_goto (tgt := 38) hx hb dX12_isCued_34 (by decide) ?_
      refine lv_istore (lv' := [(4, .int 1), (3, .int y2), (0, .ref ha0), (1, .int p1), (2, .int p2)]) hx hb dX12_isCued_38 hl (by decide) rfl (fun ls hl => ?_)
      refine lv_aload_n hx hb dX12_isCued_40 rfl (lv_at hl 2 rfl) ?_
      refine lv_iload_n hx hb dX12_isCued_41 rfl (lv_at hl 4 rfl) ?_
      refine lv_iload_n hx hb dX12_isCued_42 rfl (lv_at hl 3 rfl) ?_
      refine lv_iload hx hb dX12_isCued_43 (lv_at hl 0 rfl) ?_
      refine lv_if_eq (tgt := 66) hx hb dX12_isCued_45 (by decide) (fun hc => ?_) (fun hc => ?_)
      · exact absurd hc (by decide)
      · skip
        refine lv_aload_n hx hb dX12_isCued_48 rfl (lv_at hl 2 rfl) ?_
        refine va_get (D := (dC, dI)) (ci := 12) (v := .ref ha0_6) (C := RX12) (T := TX12) (N := 38) hx hb hts in_X12_isCued_X12 hown hK hP 6 rfl rfl 6 (by decide) (hts (.fieldLink RX12 28 "EachOnHisCueModel" "cue" "[I") (by decide +kernel)) (fun _ h9 => h9) rfl dX12_isCued_49 ?_
        refine lv_iload_n hx hb dX12_isCued_52 rfl (lv_at hl 3 rfl) ?_
        refine va_iald hx hb hK hP 4 0 rfl rfl (z_in (by omega) (by omega)) dX12_isCued_53 ?_
        refine lv_topi (fun y5 ey5 => ?_)
        have gy5 : y5.toInt = (fa0_6 (p1 : Int32).toNatClampNeg).toInt := by rw [ey5]
        have hy5 : 0 ≤ y5.toInt ∧ y5.toInt ≤ 9 := by rw [ey5]; exact hBfa0_6 _
        obtain ⟨hy5, hy5_⟩ := hy5
        refine lv_aload_n hx hb dX12_isCued_54 rfl (lv_at hl 2 rfl) ?_
        refine va_get (D := (dC, dI)) (ci := 12) (v := .ref ha0_2) (C := RX12) (T := TX12) (N := 38) hx hb hts in_X12_isCued_X12 hown hK hP 6 rfl rfl 2 (by decide) (hts (.fieldLink RX12 16 "EachOnHisCueModel" "figure" "[I") (by decide +kernel)) (fun _ h9 => h9) rfl dX12_isCued_55 ?_
        refine lv_iload_n hx hb dX12_isCued_58 rfl (lv_at hl 1 rfl) ?_
        refine va_iald hx hb hK hP 1 0 rfl rfl (z_in (by omega) (by omega)) dX12_isCued_59 ?_
        refine lv_topi (fun y6 ey6 => ?_)
        have gy6 : y6.toInt = (fa0_2 (y2 : Int32).toNatClampNeg).toInt := by rw [ey6]
        refine z_rdi (va_runS (As := [.int y5, .int y6]) (rest := [.int p1, .int p2, .ref ha0]) ⟨hx, hb, hml, hown, hts⟩ (rX12_least l dC dI cI cQ y5 y6) (va_cwS 2 hts gv_X12_isCued_X12_least_175 rfl rfl rfl (by decide +kernel) ⟨Nat.le_of_ble_eq_true rfl, Nat.le_of_ble_eq_true rfl⟩) ⟨z_blindR, z_preR hZ hP [] rfl⟩ rfl rfl hl.1 rfl (lv_room (Nat.le_of_ble_eq_true rfl)) dX12_isCued_60 ⟨Nat.le_of_ble_eq_true rfl, Nat.le_of_ble_eq_true rfl⟩) (fun y7 hy7 => ?_)
        obtain ⟨hy7_0, hy7_1, hy7_2⟩ := hy7
        refine lv_goto (tgt := 72) hx hb dX12_isCued_63 (by decide) ?_
        refine z_rdi (va_runV (As := [.int p2, .int p1, .int y7]) (rest := []) ⟨hx, hb, hml, hown, hts⟩ (rX12_doesEnd l dC dI cI cQ ha0 ha0_5 ha0_8 ha0_0 ha0_1 ha0_2 ha0_3 ha0_4 ha0_6 ha0_7 ha0_16 ha0_17 ha0_18 ha0_19 ha0_23 ha0_29 ha0_33 ha0_34 ha0_35 fa0_5 hBfa0_5 fa0_8 ia0_9 hia0_9l hia0_9h ia0_10 hia0_10l hia0_10h ia0_11 ia0_12 ia0_13 ia0_14 hia0_14l hia0_14h ia0_15 ia0_20 hia0_20l hia0_20h ia0_21 hia0_21l hia0_21h ia0_22 hia0_22l hia0_22h ia0_24 hia0_24l hia0_24h ia0_25 hia0_25l hia0_25h ia0_26 hia0_26l hia0_26h ia0_27 hia0_27l hia0_27h ia0_28 ia0_30 hia0_30l hia0_30h ia0_31 ia0_32 hia0_32l hia0_32h ia0_36 hia0_36l hia0_36h ia0_37 p2 hp2l hp2h p1 (by first | decide | omega) (by first | decide | omega) y7) (cwV 3 hts gv_X12_isCued_X12_doesEnd_185 rfl rfl rfl (by decide +kernel) ⟨Nat.le_of_ble_eq_true rfl, Nat.le_of_ble_eq_true rfl⟩) ⟨z_blindR, va_recv hK hP (ci := 12) (q0 := 6) rfl rfl, z_preR hZ hP [3, 5, 6] rfl⟩ rfl rfl hl.1 rfl (lv_room (Nat.le_of_ble_eq_true rfl)) dX12_isCued_72 ⟨Nat.le_of_ble_eq_true rfl, Nat.le_of_ble_eq_true rfl⟩) (fun y8 hy8 => ?_)
        obtain ⟨hy8_0, hy8_1, hy8_2⟩ := hy8
        exact W.zret (v := y8) hx hb hr (z_nb (by omega) (by omega)) (fun t ht hW => ⟨y8, rfl, ⟨by first | decide | omega, by first | decide | omega, (by exact z_icA hy8_2 (by omega) ey2 ey3 (Or.inl ⟨by omega, _, _, ey5, ey6, hy7_2.1, hy7_2.2.1, hy7_2.2.2⟩))⟩, ht⟩) (fun _ h => absurd h List.not_mem_nil) dX12_isCued_75
    · have q9 : y3.toInt ≠ 3 := z_ne rfl (by decide) hc
      refine lv_aload_n hx hb dX12_isCued_23 rfl (lv_at hl 1 rfl) ?_
      refine va_get (D := (dC, dI)) (ci := 12) (v := .ref ha0_1) (C := RX12) (T := TX12) (N := 38) hx hb hts in_X12_isCued_X12 hown hK hP 6 rfl rfl 1 (by decide) (hts (.fieldLink RX12 13 "EachOnHisCueModel" "kind" "[I") (by decide +kernel)) (fun _ h9 => h9) rfl dX12_isCued_24 ?_
      refine lv_iload_n hx hb dX12_isCued_27 rfl (lv_at hl 0 rfl) ?_
      refine va_iald hx hb hK hP 0 0 rfl rfl (z_in (by omega) (by omega)) dX12_isCued_28 ?_
      refine lv_topi (fun y10 ey10 => ?_)
      obtain rfl : y3 = y10 := ey3.trans ey10.symm
      refine lv_iconst (v := 4) hx hb dX12_isCued_29 (by decide) ?_
      refine lv_icmp_ne (tgt := 37) hx hb dX12_isCued_30 (by decide) (fun hc => ?_) (fun hc => ?_)
      · have q11 : y3.toInt ≠ 4 := z_ne rfl (by decide) hc
        refine lv_iconst (v := 0) hx hb dX12_isCued_37 (by decide) ?_
        refine lv_istore (lv' := [(4, .int 0), (3, .int y2), (0, .ref ha0), (1, .int p1), (2, .int p2)]) hx hb dX12_isCued_38 hl (by decide) rfl (fun ls hl => ?_)
        refine lv_aload_n hx hb dX12_isCued_40 rfl (lv_at hl 2 rfl) ?_
        refine lv_iload_n hx hb dX12_isCued_41 rfl (lv_at hl 4 rfl) ?_
        refine lv_iload_n hx hb dX12_isCued_42 rfl (lv_at hl 3 rfl) ?_
        refine lv_iload hx hb dX12_isCued_43 (lv_at hl 0 rfl) ?_
        refine lv_if_eq (tgt := 66) hx hb dX12_isCued_45 (by decide) (fun hc => ?_) (fun hc => ?_)
        · skip
          refine lv_aload_n hx hb dX12_isCued_66 rfl (lv_at hl 2 rfl) ?_
          refine va_get (D := (dC, dI)) (ci := 12) (v := .ref ha0_6) (C := RX12) (T := TX12) (N := 38) hx hb hts in_X12_isCued_X12 hown hK hP 6 rfl rfl 6 (by decide) (hts (.fieldLink RX12 28 "EachOnHisCueModel" "cue" "[I") (by decide +kernel)) (fun _ h9 => h9) rfl dX12_isCued_67 ?_
          refine lv_iload_n hx hb dX12_isCued_70 rfl (lv_at hl 3 rfl) ?_
          refine va_iald hx hb hK hP 4 0 rfl rfl (z_in (by omega) (by omega)) dX12_isCued_71 ?_
          refine lv_topi (fun y12 ey12 => ?_)
          have gy12 : y12.toInt = (fa0_6 (p1 : Int32).toNatClampNeg).toInt := by rw [ey12]
          have hy12 : 0 ≤ y12.toInt ∧ y12.toInt ≤ 9 := by rw [ey12]; exact hBfa0_6 _
          obtain ⟨hy12, hy12_⟩ := hy12
          refine z_rdi (va_runV (As := [.int p2, .int p1, .int y12]) (rest := []) ⟨hx, hb, hml, hown, hts⟩ (rX12_doesEnd l dC dI cI cQ ha0 ha0_5 ha0_8 ha0_0 ha0_1 ha0_2 ha0_3 ha0_4 ha0_6 ha0_7 ha0_16 ha0_17 ha0_18 ha0_19 ha0_23 ha0_29 ha0_33 ha0_34 ha0_35 fa0_5 hBfa0_5 fa0_8 ia0_9 hia0_9l hia0_9h ia0_10 hia0_10l hia0_10h ia0_11 ia0_12 ia0_13 ia0_14 hia0_14l hia0_14h ia0_15 ia0_20 hia0_20l hia0_20h ia0_21 hia0_21l hia0_21h ia0_22 hia0_22l hia0_22h ia0_24 hia0_24l hia0_24h ia0_25 hia0_25l hia0_25h ia0_26 hia0_26l hia0_26h ia0_27 hia0_27l hia0_27h ia0_28 ia0_30 hia0_30l hia0_30h ia0_31 ia0_32 hia0_32l hia0_32h ia0_36 hia0_36l hia0_36h ia0_37 p2 hp2l hp2h p1 (by first | decide | omega) (by first | decide | omega) y12) (cwV 3 hts gv_X12_isCued_X12_doesEnd_185 rfl rfl rfl (by decide +kernel) ⟨Nat.le_of_ble_eq_true rfl, Nat.le_of_ble_eq_true rfl⟩) ⟨z_blindR, va_recv hK hP (ci := 12) (q0 := 6) rfl rfl, z_preR hZ hP [3, 5, 6] rfl⟩ rfl rfl hl.1 rfl (lv_room (Nat.le_of_ble_eq_true rfl)) dX12_isCued_72 ⟨Nat.le_of_ble_eq_true rfl, Nat.le_of_ble_eq_true rfl⟩) (fun y13 hy13 => ?_)
          obtain ⟨hy13_0, hy13_1, hy13_2⟩ := hy13
          exact W.zret (v := y13) hx hb hr (z_nb (by omega) (by omega)) (fun t ht hW => ⟨y13, rfl, ⟨by first | decide | omega, by first | decide | omega, (by exact z_icA hy13_2 (by omega) ey2 ey3 (Or.inr ⟨by omega, by omega, ey12⟩))⟩, ht⟩) (fun _ h => absurd h List.not_mem_nil) dX12_isCued_75
        · exact absurd hc (by decide)
      · have q14 : y3.toInt = 4 := z_eq rfl (by decide) hc
        refine lv_iconst (v := 1) hx hb dX12_isCued_33 (by decide) ?_
        refine lv_goto (tgt := 38) hx hb dX12_isCued_34 (by decide) ?_
        refine lv_istore (lv' := [(4, .int 1), (3, .int y2), (0, .ref ha0), (1, .int p1), (2, .int p2)]) hx hb dX12_isCued_38 hl (by decide) rfl (fun ls hl => ?_)
        refine lv_aload_n hx hb dX12_isCued_40 rfl (lv_at hl 2 rfl) ?_
        refine lv_iload_n hx hb dX12_isCued_41 rfl (lv_at hl 4 rfl) ?_
        refine lv_iload_n hx hb dX12_isCued_42 rfl (lv_at hl 3 rfl) ?_
        refine lv_iload hx hb dX12_isCued_43 (lv_at hl 0 rfl) ?_
        refine lv_if_eq (tgt := 66) hx hb dX12_isCued_45 (by decide) (fun hc => ?_) (fun hc => ?_)
        · exact absurd hc (by decide)
        · skip
          refine lv_aload_n hx hb dX12_isCued_48 rfl (lv_at hl 2 rfl) ?_
          refine va_get (D := (dC, dI)) (ci := 12) (v := .ref ha0_6) (C := RX12) (T := TX12) (N := 38) hx hb hts in_X12_isCued_X12 hown hK hP 6 rfl rfl 6 (by decide) (hts (.fieldLink RX12 28 "EachOnHisCueModel" "cue" "[I") (by decide +kernel)) (fun _ h9 => h9) rfl dX12_isCued_49 ?_
          refine lv_iload_n hx hb dX12_isCued_52 rfl (lv_at hl 3 rfl) ?_
          refine va_iald hx hb hK hP 4 0 rfl rfl (z_in (by omega) (by omega)) dX12_isCued_53 ?_
          refine lv_topi (fun y15 ey15 => ?_)
          have gy15 : y15.toInt = (fa0_6 (p1 : Int32).toNatClampNeg).toInt := by rw [ey15]
          have hy15 : 0 ≤ y15.toInt ∧ y15.toInt ≤ 9 := by rw [ey15]; exact hBfa0_6 _
          obtain ⟨hy15, hy15_⟩ := hy15
          refine lv_aload_n hx hb dX12_isCued_54 rfl (lv_at hl 2 rfl) ?_
          refine va_get (D := (dC, dI)) (ci := 12) (v := .ref ha0_2) (C := RX12) (T := TX12) (N := 38) hx hb hts in_X12_isCued_X12 hown hK hP 6 rfl rfl 2 (by decide) (hts (.fieldLink RX12 16 "EachOnHisCueModel" "figure" "[I") (by decide +kernel)) (fun _ h9 => h9) rfl dX12_isCued_55 ?_
          refine lv_iload_n hx hb dX12_isCued_58 rfl (lv_at hl 1 rfl) ?_
          refine va_iald hx hb hK hP 1 0 rfl rfl (z_in (by omega) (by omega)) dX12_isCued_59 ?_
          refine lv_topi (fun y16 ey16 => ?_)
          have gy16 : y16.toInt = (fa0_2 (y2 : Int32).toNatClampNeg).toInt := by rw [ey16]
          refine z_rdi (va_runS (As := [.int y15, .int y16]) (rest := [.int p1, .int p2, .ref ha0]) ⟨hx, hb, hml, hown, hts⟩ (rX12_least l dC dI cI cQ y15 y16) (va_cwS 2 hts gv_X12_isCued_X12_least_175 rfl rfl rfl (by decide +kernel) ⟨Nat.le_of_ble_eq_true rfl, Nat.le_of_ble_eq_true rfl⟩) ⟨z_blindR, z_preR hZ hP [] rfl⟩ rfl rfl hl.1 rfl (lv_room (Nat.le_of_ble_eq_true rfl)) dX12_isCued_60 ⟨Nat.le_of_ble_eq_true rfl, Nat.le_of_ble_eq_true rfl⟩) (fun y17 hy17 => ?_)
          obtain ⟨hy17_0, hy17_1, hy17_2⟩ := hy17
          refine lv_goto (tgt := 72) hx hb dX12_isCued_63 (by decide) ?_
          refine z_rdi (va_runV (As := [.int p2, .int p1, .int y17]) (rest := []) ⟨hx, hb, hml, hown, hts⟩ (rX12_doesEnd l dC dI cI cQ ha0 ha0_5 ha0_8 ha0_0 ha0_1 ha0_2 ha0_3 ha0_4 ha0_6 ha0_7 ha0_16 ha0_17 ha0_18 ha0_19 ha0_23 ha0_29 ha0_33 ha0_34 ha0_35 fa0_5 hBfa0_5 fa0_8 ia0_9 hia0_9l hia0_9h ia0_10 hia0_10l hia0_10h ia0_11 ia0_12 ia0_13 ia0_14 hia0_14l hia0_14h ia0_15 ia0_20 hia0_20l hia0_20h ia0_21 hia0_21l hia0_21h ia0_22 hia0_22l hia0_22h ia0_24 hia0_24l hia0_24h ia0_25 hia0_25l hia0_25h ia0_26 hia0_26l hia0_26h ia0_27 hia0_27l hia0_27h ia0_28 ia0_30 hia0_30l hia0_30h ia0_31 ia0_32 hia0_32l hia0_32h ia0_36 hia0_36l hia0_36h ia0_37 p2 hp2l hp2h p1 (by first | decide | omega) (by first | decide | omega) y17) (cwV 3 hts gv_X12_isCued_X12_doesEnd_185 rfl rfl rfl (by decide +kernel) ⟨Nat.le_of_ble_eq_true rfl, Nat.le_of_ble_eq_true rfl⟩) ⟨z_blindR, va_recv hK hP (ci := 12) (q0 := 6) rfl rfl, z_preR hZ hP [3, 5, 6] rfl⟩ rfl rfl hl.1 rfl (lv_room (Nat.le_of_ble_eq_true rfl)) dX12_isCued_72 ⟨Nat.le_of_ble_eq_true rfl, Nat.le_of_ble_eq_true rfl⟩) (fun y18 hy18 => ?_)
          obtain ⟨hy18_0, hy18_1, hy18_2⟩ := hy18
          exact W.zret (v := y18) hx hb hr (z_nb (by omega) (by omega)) (fun t ht hW => ⟨y18, rfl, ⟨by first | decide | omega, by first | decide | omega, (by exact z_icA hy18_2 (by omega) ey2 ey3 (Or.inl ⟨by omega, _, _, ey15, ey16, hy17_2.1, hy17_2.2.1, hy17_2.2.2⟩))⟩, ht⟩) (fun _ h => absurd h List.not_mem_nil) dX12_isCued_75
  · have q19 : p1.toInt = 0 := z_eq rfl (by decide) hc
    refine lv_iconst (v := 0) hx hb dX12_isCued_4 (by decide) ?_
    exact W.zret (v := 0) hx hb hr (rfl) (fun t ht hW => ⟨0, rfl, ⟨by first | decide | omega, by first | decide | omega, (by exact z_ic0 (by omega) (by decide))⟩, ht⟩) (fun _ h => absurd h List.not_mem_nil) dX12_isCued_5
