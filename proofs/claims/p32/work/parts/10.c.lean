set_option maxRecDepth 20000 in
theorem edX11_bitAt_0 : decode cX11_bitAt 0 = .ok (.iload_n 0, 1) ∧ decode cX11_bitAt 1 = .ok (.iload_n 1, 1) ∧ decode cX11_bitAt 2 = .ok (.ishr, 1) ∧ decode cX11_bitAt 3 = .ok (.iconst 1, 1) ∧ decode cX11_bitAt 4 = .ok (.iand, 1) ∧ decode cX11_bitAt 5 = .ok (.ireturn, 1) := by decide +kernel
theorem dX11_bitAt_0 : decode cX11_bitAt 0 = .ok (.iload_n 0, 1) := edX11_bitAt_0.1
theorem dX11_bitAt_1 : decode cX11_bitAt 1 = .ok (.iload_n 1, 1) := edX11_bitAt_0.2.1
theorem dX11_bitAt_2 : decode cX11_bitAt 2 = .ok (.ishr, 1) := edX11_bitAt_0.2.2.1
theorem dX11_bitAt_3 : decode cX11_bitAt 3 = .ok (.iconst 1, 1) := edX11_bitAt_0.2.2.2.1
theorem dX11_bitAt_4 : decode cX11_bitAt 4 = .ok (.iand, 1) := edX11_bitAt_0.2.2.2.2.1
theorem dX11_bitAt_5 : decode cX11_bitAt 5 = .ok (.ireturn, 1) := edX11_bitAt_0.2.2.2.2.2
noncomputable def voX11_bitAt : List Cond := []
noncomputable def vsX11_bitAt : List Cond := .code yX11_bitAt cX11_bitAt 2 (some .int) :: (voX11_bitAt)
theorem zgX11_bitAt : zGd vsX11_bitAt := z_gdC rfl ((z_gdO (by decide +kernel) : zGd voX11_bitAt))
set_option maxHeartbeats 4000000 in
set_option maxRecDepth 100000 in
theorem rX11_bitAt (l : Launch) (dC : Nat → ClassId) (dI : Nat → Nat → Nat) (cI cQ : ClassId) (p0 : Int32) (p1 : Int32) : Met l yX11_bitAt vsX11_bitAt ({ frames := 0, cells := 0, slots := 0, locals := 0 }) (va_Pc [.int p0, .int p1] (zRB dC dI cI cQ [])) (vp_Si (fun r => 0 ≤ r.toInt ∧ r.toInt ≤ 1 ∧ (0 ≤ p1.toInt → p1.toInt < 32 → ((r.toInt = 1 ∧ bt p0 p1.toInt.toNat = true) ∨ (r.toInt = 0 ∧ bt p0 p1.toInt.toNat = false))))) 0 0 (fun _ => False) := by
  refine Met.ofW (cc := cX11_bitAt) (maxL := 2) (ret := (some .int)) (by decide) rfl ?_
  intro p e s m args below meth c s₁ B hml hv
  obtain ⟨rfl, hP, hZ⟩ := hv
  obtain ⟨hK, hAO, hN⟩ := id hZ
  have hx := B.exec
  have hb := B.bytes
  have hr := B.returns
  have hts := atoms_spec (ws := vsX11_bitAt) B.pre
  have hown : s.vm.findClass RX11 = some m.cls := findClass_of_methodNamed B.named
  have hlocks := B.notSynchronized
  have hp0l := z_lo p0
  have hp0h := z_hi p0
  have hp1l := z_lo p1
  have hp1h := z_hi p1
  have hl := lv_entry ([.int p0, .int p1]) (n := 2) (Nat.le_of_ble_eq_true rfl)
  rw [lg_entry_eq]
  generalize (lg_sl ([.int p0, .int p1]) ++ List.replicate (2 - (lg_sl ([.int p0, .int p1])).length) Slot.unset).toArray = ls at hl ⊢
  have hl : lv_has ls 2 [(0, .int p0), (1, .int p1)] := hl
  refine lv_iload_n hx hb dX11_bitAt_0 rfl (lv_at hl 0 rfl) ?_
  refine lv_iload_n hx hb dX11_bitAt_1 rfl (lv_at hl 1 rfl) ?_
  refine lv_ishr hx hb dX11_bitAt_2 ?_
  refine lv_topi (fun y1 ey1 => ?_)
  refine lv_iconst (v := 1) hx hb dX11_bitAt_3 (by decide) ?_
  refine lv_iand hx hb dX11_bitAt_4 ?_
  refine lv_topi (fun y2 ey2 => ?_)
  have hy2 : 0 ≤ y2.toInt ∧ y2.toInt ≤ 1 := by rw [ey2]; exact z_and1 _
  obtain ⟨hy2, hy2_⟩ := hy2
  exact W.iret (v := y2) hx hb hr (fun t ht hW => ⟨y2, rfl, ⟨by first | decide | omega, by first | decide | omega, (by exact fun h0 h1 => z_bit1 ey1 ey2 h0 h1)⟩, ht⟩) (fun _ h => absurd h List.not_mem_nil) dX11_bitAt_5
set_option maxRecDepth 20000 in
theorem edX11_leastOf_0 : decode cX11_leastOf 0 = .ok (.iconst 0, 1) ∧ decode cX11_leastOf 1 = .ok (.istore_n 1, 1) ∧ decode cX11_leastOf 2 = .ok (.iload_n 1, 1) ∧ decode cX11_leastOf 3 = .ok (.bipush 12, 2) ∧ decode cX11_leastOf 5 = .ok (.if_icmp .ge 20, 3) ∧ decode cX11_leastOf 8 = .ok (.iload_n 0, 1) ∧ decode cX11_leastOf 9 = .ok (.iload_n 1, 1) ∧ decode cX11_leastOf 10 = .ok (.ishr, 1) ∧ decode cX11_leastOf 11 = .ok (.iconst 1, 1) ∧ decode cX11_leastOf 12 = .ok (.iand, 1) ∧ decode cX11_leastOf 13 = .ok (.iconst 1, 1) ∧ decode cX11_leastOf 14 = .ok (.if_icmp .ne 5, 3) := by decide +kernel
theorem dX11_leastOf_0 : decode cX11_leastOf 0 = .ok (.iconst 0, 1) := edX11_leastOf_0.1
theorem dX11_leastOf_1 : decode cX11_leastOf 1 = .ok (.istore_n 1, 1) := edX11_leastOf_0.2.1
theorem dX11_leastOf_2 : decode cX11_leastOf 2 = .ok (.iload_n 1, 1) := edX11_leastOf_0.2.2.1
theorem dX11_leastOf_3 : decode cX11_leastOf 3 = .ok (.bipush 12, 2) := edX11_leastOf_0.2.2.2.1
theorem dX11_leastOf_5 : decode cX11_leastOf 5 = .ok (.if_icmp .ge 20, 3) := edX11_leastOf_0.2.2.2.2.1
theorem dX11_leastOf_8 : decode cX11_leastOf 8 = .ok (.iload_n 0, 1) := edX11_leastOf_0.2.2.2.2.2.1
theorem dX11_leastOf_9 : decode cX11_leastOf 9 = .ok (.iload_n 1, 1) := edX11_leastOf_0.2.2.2.2.2.2.1
theorem dX11_leastOf_10 : decode cX11_leastOf 10 = .ok (.ishr, 1) := edX11_leastOf_0.2.2.2.2.2.2.2.1
theorem dX11_leastOf_11 : decode cX11_leastOf 11 = .ok (.iconst 1, 1) := edX11_leastOf_0.2.2.2.2.2.2.2.2.1
theorem dX11_leastOf_12 : decode cX11_leastOf 12 = .ok (.iand, 1) := edX11_leastOf_0.2.2.2.2.2.2.2.2.2.1
theorem dX11_leastOf_13 : decode cX11_leastOf 13 = .ok (.iconst 1, 1) := edX11_leastOf_0.2.2.2.2.2.2.2.2.2.2.1
theorem dX11_leastOf_14 : decode cX11_leastOf 14 = .ok (.if_icmp .ne 5, 3) := edX11_leastOf_0.2.2.2.2.2.2.2.2.2.2.2
set_option maxRecDepth 20000 in
theorem edX11_leastOf_17 : decode cX11_leastOf 17 = .ok (.iload_n 1, 1) ∧ decode cX11_leastOf 18 = .ok (.ireturn, 1) ∧ decode cX11_leastOf 19 = .ok (.iinc 1 1, 3) ∧ decode cX11_leastOf 22 = .ok (.goto (-20), 3) ∧ decode cX11_leastOf 25 = .ok (.bipush (-9), 2) ∧ decode cX11_leastOf 27 = .ok (.ireturn, 1) := by decide +kernel
theorem dX11_leastOf_17 : decode cX11_leastOf 17 = .ok (.iload_n 1, 1) := edX11_leastOf_17.1
theorem dX11_leastOf_18 : decode cX11_leastOf 18 = .ok (.ireturn, 1) := edX11_leastOf_17.2.1
theorem dX11_leastOf_19 : decode cX11_leastOf 19 = .ok (.iinc 1 1, 3) := edX11_leastOf_17.2.2.1
theorem dX11_leastOf_22 : decode cX11_leastOf 22 = .ok (.goto (-20), 3) := edX11_leastOf_17.2.2.2.1
theorem dX11_leastOf_25 : decode cX11_leastOf 25 = .ok (.bipush (-9), 2) := edX11_leastOf_17.2.2.2.2.1
theorem dX11_leastOf_27 : decode cX11_leastOf 27 = .ok (.ireturn, 1) := edX11_leastOf_17.2.2.2.2.2
noncomputable def voX11_leastOf : List Cond := []
noncomputable def vsX11_leastOf : List Cond := .code yX11_leastOf cX11_leastOf 2 (some .int) :: (voX11_leastOf)
theorem zgX11_leastOf : zGd vsX11_leastOf := z_gdC rfl ((z_gdO (by decide +kernel) : zGd voX11_leastOf))
set_option maxHeartbeats 4000000 in
set_option maxRecDepth 100000 in
theorem rX11_leastOf (l : Launch) (dC : Nat → ClassId) (dI : Nat → Nat → Nat) (cI cQ : ClassId) (p0 : Int32) : Met l yX11_leastOf vsX11_leastOf ({ frames := 0, cells := 0, slots := 0, locals := 0 }) (va_Pc [.int p0] (zRB dC dI cI cQ [])) (vp_Si (fun r => (-9) ≤ r.toInt ∧ r.toInt ≤ 11 ∧ (zLst p0 r.toInt))) 0 0 (fun _ => False) := by
  refine Met.ofW (cc := cX11_leastOf) (maxL := 2) (ret := (some .int)) (by decide) rfl ?_
  intro p e s m args below meth c s₁ B hml hv
  obtain ⟨rfl, hP, hZ⟩ := hv
  obtain ⟨hK, hAO, hN⟩ := id hZ
  have hx := B.exec
  have hb := B.bytes
  have hr := B.returns
  have hts := atoms_spec (ws := vsX11_leastOf) B.pre
  have hown : s.vm.findClass RX11 = some m.cls := findClass_of_methodNamed B.named
  have hlocks := B.notSynchronized
  have hp0l := z_lo p0
  have hp0h := z_hi p0
  have hl := lv_entry ([.int p0]) (n := 2) (Nat.le_of_ble_eq_true rfl)
  rw [lg_entry_eq]
  generalize (lg_sl ([.int p0]) ++ List.replicate (2 - (lg_sl ([.int p0])).length) Slot.unset).toArray = ls at hl ⊢
  have hl : lv_has ls 2 [(0, .int p0)] := hl
  refine lv_iconst (v := 0) hx hb dX11_leastOf_0 (by decide) ?_
  refine lv_istore_n (lv' := [(1, .int 0), (0, .int p0)]) hx hb dX11_leastOf_1 rfl hl (by decide) rfl (fun ls hl => ?_)
  have hL58 : ∀ (n : Nat) (v1 : Int32) (ls : Array Slot), 0 ≤ v1.toInt → v1.toInt ≤ 12 → (∀ j : Nat, (j : Int) < (v1 : Int32).toInt → bt p0 j = false) → (12 - v1.toInt).toNat < n → lv_has ls 2 [(1, .int v1), (0, .int p0)] → W p l e (headSpec vsX11_leastOf ({ frames := 0, cells := 0, slots := 0, locals := 0 })).room s m ([.int p0] : List Value).toArray below meth c s.heap [] 0 0 (MQ below (vp_Si (fun r => (-9) ≤ r.toInt ∧ r.toInt ≤ 11 ∧ (zLst p0 r.toInt))) ([.int p0] : List Value).toArray s 0 0 (fun _ => False)) (F0 m 2 ls []) := by
    intro n
    induction n with
    | zero =>
      intro v1 ls hi59_0 hi59_1 hi59_x0 hi59_m hl
      exact absurd hi59_m (Nat.not_lt_zero _)
    | succ n ih =>
      intro v1 ls hi59_0 hi59_1 hi59_x0 hi59_m hl
      have ih60 := ih
      refine lv_iload_n hx hb dX11_leastOf_2 rfl (lv_at hl 0 rfl) ?_
      refine lv_bipush (v := 12) hx hb dX11_leastOf_3 (by decide) ?_
      refine lv_icmp_ge (tgt := 25) hx hb dX11_leastOf_5 (by decide) (fun hc => ?_) (fun hc => ?_)
      · have q61 : 12 ≤ v1.toInt := z_le (by decide) rfl hc
        refine lv_bipush (v := (-9)) hx hb dX11_leastOf_25 (by decide) ?_
        exact W.iret (v := (-9)) hx hb hr (fun t ht hW => ⟨(-9), rfl, ⟨by first | decide | omega, by first | decide | omega, (by exact z_lsN (by assumption) (by omega) (by decide))⟩, ht⟩) (fun _ h => absurd h List.not_mem_nil) dX11_leastOf_27
      · have q62 : v1.toInt < 12 := z_nle (by decide) rfl hc
        refine lv_iload_n hx hb dX11_leastOf_8 rfl (lv_at hl 1 rfl) ?_
        refine lv_iload_n hx hb dX11_leastOf_9 rfl (lv_at hl 0 rfl) ?_
        refine lv_ishr hx hb dX11_leastOf_10 ?_
        refine lv_topi (fun y63 ey63 => ?_)
        refine lv_iconst (v := 1) hx hb dX11_leastOf_11 (by decide) ?_
        refine lv_iand hx hb dX11_leastOf_12 ?_
        refine lv_topi (fun y64 ey64 => ?_)
        have hy64 : 0 ≤ y64.toInt ∧ y64.toInt ≤ 1 := by rw [ey64]; exact z_and1 _
        obtain ⟨hy64, hy64_⟩ := hy64
        refine lv_iconst (v := 1) hx hb dX11_leastOf_13 (by decide) ?_
        refine lv_icmp_ne (tgt := 19) hx hb dX11_leastOf_14 (by decide) (fun hc => ?_) (fun hc => ?_)
        · have q65 : y64.toInt ≠ 1 := z_ne rfl (by decide) hc
          obtain ⟨y66, ey66⟩ : ∃ y : Int32, y = v1 + 1 := ⟨_, rfl⟩
          refine lv_iinc (v := y66) (lv' := [(1, .int y66), (0, .int p0)]) hx hb dX11_leastOf_19 hl (k := 0) rfl (by rw [ey66]; rfl) (by decide) rfl (fun ls hl => ?_)
          have hy66 : y66.toInt = v1.toInt + 1 := by rw [ey66]; exact z_add rfl (by decide) (by omega) (by omega)
          refine lv_goto (tgt := 2) hx hb dX11_leastOf_22 (by decide) ?_
          exact ih60 y66 ls (by first | decide | omega) (by first | decide | omega) (z_lsS (by assumption) ey63 ey64 (by omega) (by omega) (by omega) (by omega)) (by omega) (lv_sub hl [0, 1] rfl)
        · have q67 : y64.toInt = 1 := z_eq rfl (by decide) hc
          refine lv_iload_n hx hb dX11_leastOf_17 rfl (lv_at hl 0 rfl) ?_
          exact W.iret (v := v1) hx hb hr (fun t ht hW => ⟨v1, rfl, ⟨by first | decide | omega, by first | decide | omega, (by exact z_lsT (by assumption) ey63 ey64 (by omega) (by omega) (by omega))⟩, ht⟩) (fun _ h => absurd h List.not_mem_nil) dX11_leastOf_18
  exact hL58 ((12 - (0 : Int32).toInt).toNat + 1) 0 ls (by decide) (by decide) (fun j h0 => by have e0 : (0 : Int32).toInt = 0 := (by decide); omega) (by omega) hl
set_option maxRecDepth 20000 in
theorem edX11_greatestOf_0 : decode cX11_greatestOf 0 = .ok (.bipush 11, 2) ∧ decode cX11_greatestOf 2 = .ok (.istore_n 1, 1) ∧ decode cX11_greatestOf 3 = .ok (.iload_n 1, 1) ∧ decode cX11_greatestOf 4 = .ok (.ifCond .lt 20, 3) ∧ decode cX11_greatestOf 7 = .ok (.iload_n 0, 1) ∧ decode cX11_greatestOf 8 = .ok (.iload_n 1, 1) ∧ decode cX11_greatestOf 9 = .ok (.ishr, 1) ∧ decode cX11_greatestOf 10 = .ok (.iconst 1, 1) ∧ decode cX11_greatestOf 11 = .ok (.iand, 1) ∧ decode cX11_greatestOf 12 = .ok (.iconst 1, 1) ∧ decode cX11_greatestOf 13 = .ok (.if_icmp .ne 5, 3) ∧ decode cX11_greatestOf 16 = .ok (.iload_n 1, 1) := by decide +kernel
theorem dX11_greatestOf_0 : decode cX11_greatestOf 0 = .ok (.bipush 11, 2) := edX11_greatestOf_0.1
theorem dX11_greatestOf_2 : decode cX11_greatestOf 2 = .ok (.istore_n 1, 1) := edX11_greatestOf_0.2.1
theorem dX11_greatestOf_3 : decode cX11_greatestOf 3 = .ok (.iload_n 1, 1) := edX11_greatestOf_0.2.2.1
theorem dX11_greatestOf_4 : decode cX11_greatestOf 4 = .ok (.ifCond .lt 20, 3) := edX11_greatestOf_0.2.2.2.1
theorem dX11_greatestOf_7 : decode cX11_greatestOf 7 = .ok (.iload_n 0, 1) := edX11_greatestOf_0.2.2.2.2.1
theorem dX11_greatestOf_8 : decode cX11_greatestOf 8 = .ok (.iload_n 1, 1) := edX11_greatestOf_0.2.2.2.2.2.1
theorem dX11_greatestOf_9 : decode cX11_greatestOf 9 = .ok (.ishr, 1) := edX11_greatestOf_0.2.2.2.2.2.2.1
theorem dX11_greatestOf_10 : decode cX11_greatestOf 10 = .ok (.iconst 1, 1) := edX11_greatestOf_0.2.2.2.2.2.2.2.1
theorem dX11_greatestOf_11 : decode cX11_greatestOf 11 = .ok (.iand, 1) := edX11_greatestOf_0.2.2.2.2.2.2.2.2.1
theorem dX11_greatestOf_12 : decode cX11_greatestOf 12 = .ok (.iconst 1, 1) := edX11_greatestOf_0.2.2.2.2.2.2.2.2.2.1
theorem dX11_greatestOf_13 : decode cX11_greatestOf 13 = .ok (.if_icmp .ne 5, 3) := edX11_greatestOf_0.2.2.2.2.2.2.2.2.2.2.1
theorem dX11_greatestOf_16 : decode cX11_greatestOf 16 = .ok (.iload_n 1, 1) := edX11_greatestOf_0.2.2.2.2.2.2.2.2.2.2.2
set_option maxRecDepth 20000 in
theorem edX11_greatestOf_17 : decode cX11_greatestOf 17 = .ok (.ireturn, 1) ∧ decode cX11_greatestOf 18 = .ok (.iinc 1 (-1), 3) ∧ decode cX11_greatestOf 21 = .ok (.goto (-18), 3) ∧ decode cX11_greatestOf 24 = .ok (.bipush (-9), 2) ∧ decode cX11_greatestOf 26 = .ok (.ireturn, 1) := by decide +kernel
theorem dX11_greatestOf_17 : decode cX11_greatestOf 17 = .ok (.ireturn, 1) := edX11_greatestOf_17.1
theorem dX11_greatestOf_18 : decode cX11_greatestOf 18 = .ok (.iinc 1 (-1), 3) := edX11_greatestOf_17.2.1
theorem dX11_greatestOf_21 : decode cX11_greatestOf 21 = .ok (.goto (-18), 3) := edX11_greatestOf_17.2.2.1
theorem dX11_greatestOf_24 : decode cX11_greatestOf 24 = .ok (.bipush (-9), 2) := edX11_greatestOf_17.2.2.2.1
theorem dX11_greatestOf_26 : decode cX11_greatestOf 26 = .ok (.ireturn, 1) := edX11_greatestOf_17.2.2.2.2
noncomputable def voX11_greatestOf : List Cond := []
noncomputable def vsX11_greatestOf : List Cond := .code yX11_greatestOf cX11_greatestOf 2 (some .int) :: (voX11_greatestOf)
theorem zgX11_greatestOf : zGd vsX11_greatestOf := z_gdC rfl ((z_gdO (by decide +kernel) : zGd voX11_greatestOf))
set_option maxHeartbeats 4000000 in
set_option maxRecDepth 100000 in
theorem rX11_greatestOf (l : Launch) (dC : Nat → ClassId) (dI : Nat → Nat → Nat) (cI cQ : ClassId) (p0 : Int32) : Met l yX11_greatestOf vsX11_greatestOf ({ frames := 0, cells := 0, slots := 0, locals := 0 }) (va_Pc [.int p0] (zRB dC dI cI cQ [])) (vp_Si (fun r => (-9) ≤ r.toInt ∧ r.toInt ≤ 11 ∧ (zGst p0 r.toInt))) 0 0 (fun _ => False) := by
  refine Met.ofW (cc := cX11_greatestOf) (maxL := 2) (ret := (some .int)) (by decide) rfl ?_
  intro p e s m args below meth c s₁ B hml hv
  obtain ⟨rfl, hP, hZ⟩ := hv
  obtain ⟨hK, hAO, hN⟩ := id hZ
  have hx := B.exec
  have hb := B.bytes
  have hr := B.returns
  have hts := atoms_spec (ws := vsX11_greatestOf) B.pre
  have hown : s.vm.findClass RX11 = some m.cls := findClass_of_methodNamed B.named
  have hlocks := B.notSynchronized
  have hp0l := z_lo p0
  have hp0h := z_hi p0
  have hl := lv_entry ([.int p0]) (n := 2) (Nat.le_of_ble_eq_true rfl)
  rw [lg_entry_eq]
  generalize (lg_sl ([.int p0]) ++ List.replicate (2 - (lg_sl ([.int p0])).length) Slot.unset).toArray = ls at hl ⊢
  have hl : lv_has ls 2 [(0, .int p0)] := hl
  refine lv_bipush (v := 11) hx hb dX11_greatestOf_0 (by decide) ?_
  refine lv_istore_n (lv' := [(1, .int 11), (0, .int p0)]) hx hb dX11_greatestOf_2 rfl hl (by decide) rfl (fun ls hl => ?_)
  have hL65 : ∀ (n : Nat) (v1 : Int32) (ls : Array Slot), (-1) ≤ v1.toInt → v1.toInt ≤ 11 → (∀ j : Nat, (v1 : Int32).toInt < (j : Int) → j < 12 → bt p0 j = false) → (v1.toInt - (-1)).toNat < n → lv_has ls 2 [(1, .int v1), (0, .int p0)] → W p l e (headSpec vsX11_greatestOf ({ frames := 0, cells := 0, slots := 0, locals := 0 })).room s m ([.int p0] : List Value).toArray below meth c s.heap [] 0 0 (MQ below (vp_Si (fun r => (-9) ≤ r.toInt ∧ r.toInt ≤ 11 ∧ (zGst p0 r.toInt))) ([.int p0] : List Value).toArray s 0 0 (fun _ => False)) (F0 m 3 ls []) := by
    intro n
    induction n with
    | zero =>
      intro v1 ls hi66_0 hi66_1 hi66_x0 hi66_m hl
      exact absurd hi66_m (Nat.not_lt_zero _)
    | succ n ih =>
      intro v1 ls hi66_0 hi66_1 hi66_x0 hi66_m hl
      have ih67 := ih
      refine lv_iload_n hx hb dX11_greatestOf_3 rfl (lv_at hl 0 rfl) ?_
      refine lv_if_lt (tgt := 24) hx hb dX11_greatestOf_4 (by decide) (fun hc => ?_) (fun hc => ?_)
      · have q68 : v1.toInt < 0 := z_lt rfl (by decide) hc
        refine lv_bipush (v := (-9)) hx hb dX11_greatestOf_24 (by decide) ?_
        exact W.iret (v := (-9)) hx hb hr (fun t ht hW => ⟨(-9), rfl, ⟨by first | decide | omega, by first | decide | omega, (by exact z_gsN (by assumption) (by omega) (by decide))⟩, ht⟩) (fun _ h => absurd h List.not_mem_nil) dX11_greatestOf_26
      · have q69 : 0 ≤ v1.toInt := z_nlt rfl (by decide) hc
        refine lv_iload_n hx hb dX11_greatestOf_7 rfl (lv_at hl 1 rfl) ?_
        refine lv_iload_n hx hb dX11_greatestOf_8 rfl (lv_at hl 0 rfl) ?_
        refine lv_ishr hx hb dX11_greatestOf_9 ?_
        refine lv_topi (fun y70 ey70 => ?_)
        refine lv_iconst (v := 1) hx hb dX11_greatestOf_10 (by decide) ?_
        refine lv_iand hx hb dX11_greatestOf_11 ?_
        refine lv_topi (fun y71 ey71 => ?_)
        have hy71 : 0 ≤ y71.toInt ∧ y71.toInt ≤ 1 := by rw [ey71]; exact z_and1 _
        obtain ⟨hy71, hy71_⟩ := hy71
        refine lv_iconst (v := 1) hx hb dX11_greatestOf_12 (by decide) ?_
        refine lv_icmp_ne (tgt := 18) hx hb dX11_greatestOf_13 (by decide) (fun hc => ?_) (fun hc => ?_)
        · have q72 : y71.toInt ≠ 1 := z_ne rfl (by decide) hc
          obtain ⟨y73, ey73⟩ : ∃ y : Int32, y = v1 + (-1) := ⟨_, rfl⟩
          refine lv_iinc (v := y73) (lv' := [(1, .int y73), (0, .int p0)]) hx hb dX11_greatestOf_18 hl (k := 0) rfl (by rw [ey73]; rfl) (by decide) rfl (fun ls hl => ?_)
          have hy73 : y73.toInt = v1.toInt + (-1) := by rw [ey73]; exact z_add rfl (by decide) (by omega) (by omega)
          refine lv_goto (tgt := 3) hx hb dX11_greatestOf_21 (by decide) ?_
          exact ih67 y73 ls (by first | decide | omega) (by first | decide | omega) (z_gsS (by assumption) ey70 ey71 (by omega) (by omega) (by omega) (by omega)) (by omega) (lv_sub hl [0, 1] rfl)
        · have q74 : y71.toInt = 1 := z_eq rfl (by decide) hc
          refine lv_iload_n hx hb dX11_greatestOf_16 rfl (lv_at hl 0 rfl) ?_
          exact W.iret (v := v1) hx hb hr (fun t ht hW => ⟨v1, rfl, ⟨by first | decide | omega, by first | decide | omega, (by exact z_gsT (by assumption) ey70 ey71 (by omega) (by omega) (by omega))⟩, ht⟩) (fun _ h => absurd h List.not_mem_nil) dX11_greatestOf_17
  exact hL65 (((11 : Int32).toInt - (-1)).toNat + 1) 11 ls (by decide) (by decide) (fun j h0 h1 => by have e0 : (11 : Int32).toInt = 11 := (by decide); omega) (by omega) hl
set_option maxRecDepth 20000 in
theorem edX11_greatestDivisor_0 : decode cX11_greatestDivisor 0 = .ok (.iload_n 0, 1) ∧ decode cX11_greatestDivisor 1 = .ok (.iload_n 1, 1) ∧ decode cX11_greatestDivisor 2 = .ok (.invokestatic 244, 3) ∧ decode cX11_greatestDivisor 5 = .ok (.istore_n 2, 1) ∧ decode cX11_greatestDivisor 6 = .ok (.iload_n 2, 1) ∧ decode cX11_greatestDivisor 7 = .ok (.iconst 1, 1) ∧ decode cX11_greatestDivisor 8 = .ok (.if_icmp .le 23, 3) ∧ decode cX11_greatestDivisor 11 = .ok (.iload_n 0, 1) ∧ decode cX11_greatestDivisor 12 = .ok (.iload_n 2, 1) ∧ decode cX11_greatestDivisor 13 = .ok (.irem, 1) ∧ decode cX11_greatestDivisor 14 = .ok (.ifCond .ne 11, 3) ∧ decode cX11_greatestDivisor 17 = .ok (.iload_n 1, 1) := by decide +kernel
theorem dX11_greatestDivisor_0 : decode cX11_greatestDivisor 0 = .ok (.iload_n 0, 1) := edX11_greatestDivisor_0.1
theorem dX11_greatestDivisor_1 : decode cX11_greatestDivisor 1 = .ok (.iload_n 1, 1) := edX11_greatestDivisor_0.2.1
theorem dX11_greatestDivisor_2 : decode cX11_greatestDivisor 2 = .ok (.invokestatic 244, 3) := edX11_greatestDivisor_0.2.2.1
theorem dX11_greatestDivisor_5 : decode cX11_greatestDivisor 5 = .ok (.istore_n 2, 1) := edX11_greatestDivisor_0.2.2.2.1
theorem dX11_greatestDivisor_6 : decode cX11_greatestDivisor 6 = .ok (.iload_n 2, 1) := edX11_greatestDivisor_0.2.2.2.2.1
theorem dX11_greatestDivisor_7 : decode cX11_greatestDivisor 7 = .ok (.iconst 1, 1) := edX11_greatestDivisor_0.2.2.2.2.2.1
theorem dX11_greatestDivisor_8 : decode cX11_greatestDivisor 8 = .ok (.if_icmp .le 23, 3) := edX11_greatestDivisor_0.2.2.2.2.2.2.1
theorem dX11_greatestDivisor_11 : decode cX11_greatestDivisor 11 = .ok (.iload_n 0, 1) := edX11_greatestDivisor_0.2.2.2.2.2.2.2.1
theorem dX11_greatestDivisor_12 : decode cX11_greatestDivisor 12 = .ok (.iload_n 2, 1) := edX11_greatestDivisor_0.2.2.2.2.2.2.2.2.1
theorem dX11_greatestDivisor_13 : decode cX11_greatestDivisor 13 = .ok (.irem, 1) := edX11_greatestDivisor_0.2.2.2.2.2.2.2.2.2.1
theorem dX11_greatestDivisor_14 : decode cX11_greatestDivisor 14 = .ok (.ifCond .ne 11, 3) := edX11_greatestDivisor_0.2.2.2.2.2.2.2.2.2.2.1
theorem dX11_greatestDivisor_17 : decode cX11_greatestDivisor 17 = .ok (.iload_n 1, 1) := edX11_greatestDivisor_0.2.2.2.2.2.2.2.2.2.2.2
set_option maxRecDepth 20000 in
theorem edX11_greatestDivisor_18 : decode cX11_greatestDivisor 18 = .ok (.iload_n 2, 1) ∧ decode cX11_greatestDivisor 19 = .ok (.irem, 1) ∧ decode cX11_greatestDivisor 20 = .ok (.ifCond .ne 5, 3) ∧ decode cX11_greatestDivisor 23 = .ok (.iload_n 2, 1) ∧ decode cX11_greatestDivisor 24 = .ok (.ireturn, 1) ∧ decode cX11_greatestDivisor 25 = .ok (.iinc 2 (-1), 3) ∧ decode cX11_greatestDivisor 28 = .ok (.goto (-22), 3) ∧ decode cX11_greatestDivisor 31 = .ok (.iconst 1, 1) ∧ decode cX11_greatestDivisor 32 = .ok (.ireturn, 1) := by decide +kernel
theorem dX11_greatestDivisor_18 : decode cX11_greatestDivisor 18 = .ok (.iload_n 2, 1) := edX11_greatestDivisor_18.1
theorem dX11_greatestDivisor_19 : decode cX11_greatestDivisor 19 = .ok (.irem, 1) := edX11_greatestDivisor_18.2.1
theorem dX11_greatestDivisor_20 : decode cX11_greatestDivisor 20 = .ok (.ifCond .ne 5, 3) := edX11_greatestDivisor_18.2.2.1
theorem dX11_greatestDivisor_23 : decode cX11_greatestDivisor 23 = .ok (.iload_n 2, 1) := edX11_greatestDivisor_18.2.2.2.1
theorem dX11_greatestDivisor_24 : decode cX11_greatestDivisor 24 = .ok (.ireturn, 1) := edX11_greatestDivisor_18.2.2.2.2.1
theorem dX11_greatestDivisor_25 : decode cX11_greatestDivisor 25 = .ok (.iinc 2 (-1), 3) := edX11_greatestDivisor_18.2.2.2.2.2.1
theorem dX11_greatestDivisor_28 : decode cX11_greatestDivisor 28 = .ok (.goto (-22), 3) := edX11_greatestDivisor_18.2.2.2.2.2.2.1
theorem dX11_greatestDivisor_31 : decode cX11_greatestDivisor 31 = .ok (.iconst 1, 1) := edX11_greatestDivisor_18.2.2.2.2.2.2.2.1
theorem dX11_greatestDivisor_32 : decode cX11_greatestDivisor 32 = .ok (.ireturn, 1) := edX11_greatestDivisor_18.2.2.2.2.2.2.2.2
noncomputable def voX11_greatestDivisor : List Cond := [.methodLink RX11 244 Lib.Math.min.name, .static Lib.Math.min.name, .initialized "java/lang/Math", .code Lib.Math.min.name Lib.Math.min.code 2 (some .int)]
noncomputable def vsX11_greatestDivisor : List Cond := .code yX11_greatestDivisor cX11_greatestDivisor 3 (some .int) :: (voX11_greatestDivisor)
theorem zgX11_greatestDivisor : zGd vsX11_greatestDivisor := z_gdC rfl ((z_gdO (by decide +kernel) : zGd voX11_greatestDivisor))
set_option maxHeartbeats 4000000 in
set_option maxRecDepth 100000 in
theorem rX11_greatestDivisor (l : Launch) (dC : Nat → ClassId) (dI : Nat → Nat → Nat) (cI cQ : ClassId) (p0 : Int32) (p1 : Int32) : Met l yX11_greatestDivisor vsX11_greatestDivisor ({ frames := 1, cells := 0, slots := 0, locals := 21 }) (va_Pc [.int p0, .int p1] (zRB dC dI cI cQ [])) (vp_Si (fun r => 1 ≤ r.toInt ∧ r.toInt ≤ 2147483647)) 0 0 (fun _ => False) := by
  refine Met.ofW (cc := cX11_greatestDivisor) (maxL := 3) (ret := (some .int)) (by decide) rfl ?_
  intro p e s m args below meth c s₁ B hml hv
  obtain ⟨rfl, hP, hZ⟩ := hv
  obtain ⟨hK, hAO, hN⟩ := id hZ
  have hx := B.exec
  have hb := B.bytes
  have hr := B.returns
  have hts := atoms_spec (ws := vsX11_greatestDivisor) B.pre
  have hown : s.vm.findClass RX11 = some m.cls := findClass_of_methodNamed B.named
  have hlocks := B.notSynchronized
  have hp0l := z_lo p0
  have hp0h := z_hi p0
  have hp1l := z_lo p1
  have hp1h := z_hi p1
  have hl := lv_entry ([.int p0, .int p1]) (n := 3) (Nat.le_of_ble_eq_true rfl)
  rw [lg_entry_eq]
  generalize (lg_sl ([.int p0, .int p1]) ++ List.replicate (3 - (lg_sl ([.int p0, .int p1])).length) Slot.unset).toArray = ls at hl ⊢
  have hl : lv_has ls 3 [(0, .int p0), (1, .int p1)] := hl
  refine lv_iload_n hx hb dX11_greatestDivisor_0 rfl (lv_at hl 0 rfl) ?_
  refine lv_iload_n hx hb dX11_greatestDivisor_1 rfl (lv_at hl 1 rfl) ?_
  refine va_mmin hx hb (hml.trans hl.1.symm) hown (hts (.methodLink RX11 244 Lib.Math.min.name) (by decide +kernel)) (hts (.static Lib.Math.min.name) (by decide +kernel)) (hts (.initialized "java/lang/Math") (by decide +kernel)) (hts (.code Lib.Math.min.name Lib.Math.min.code 2 (some .int)) (by decide +kernel)) (Nat.le_of_ble_eq_true rfl) (Nat.le_of_ble_eq_true rfl) (Nat.le_of_ble_eq_true rfl) (Nat.le_of_ble_eq_true rfl) dX11_greatestDivisor_2 ?_
  refine lv_topi (fun y1 ey1 => ?_)
  obtain ⟨hy1_0, hy1_1, hy1_2⟩ : y1.toInt ≤ p0.toInt ∧ y1.toInt ≤ p1.toInt ∧ (y1.toInt = p0.toInt ∨ y1.toInt = p1.toInt) := by rw [ey1]; exact z_min rfl rfl
  refine lv_istore_n (lv' := [(2, .int y1), (0, .int p0), (1, .int p1)]) hx hb dX11_greatestDivisor_5 rfl hl (by decide) rfl (fun ls hl => ?_)
  have hL23 : ∀ (n : Nat) (v2 : Int32) (ls : Array Slot), (v2.toInt - 0).toNat < n → lv_has ls 3 [(2, .int v2), (0, .int p0), (1, .int p1)] → W p l e (headSpec vsX11_greatestDivisor ({ frames := 1, cells := 0, slots := 0, locals := 21 })).room s m ([.int p0, .int p1] : List Value).toArray below meth c s.heap [] 0 0 (MQ below (vp_Si (fun r => 1 ≤ r.toInt ∧ r.toInt ≤ 2147483647)) ([.int p0, .int p1] : List Value).toArray s 0 0 (fun _ => False)) (F0 m 6 ls []) := by
    intro n
    induction n with
    | zero =>
      intro v2 ls hi24_m hl
      exact absurd hi24_m (Nat.not_lt_zero _)
    | succ n ih =>
      intro v2 ls hi24_m hl
      have ih25 := ih
      refine lv_iload_n hx hb dX11_greatestDivisor_6 rfl (lv_at hl 0 rfl) ?_
      refine lv_iconst (v := 1) hx hb dX11_greatestDivisor_7 (by decide) ?_
      refine lv_icmp_le (tgt := 31) hx hb dX11_greatestDivisor_8 (by decide) (fun hc => ?_) (fun hc => ?_)
      · have q26 : v2.toInt ≤ 1 := z_le rfl (by decide) hc
        refine lv_iconst (v := 1) hx hb dX11_greatestDivisor_31 (by decide) ?_
        exact W.iret (v := 1) hx hb hr (fun t ht hW => ⟨1, rfl, ⟨by first | decide | omega, z_hi _⟩, ht⟩) (fun _ h => absurd h List.not_mem_nil) dX11_greatestDivisor_32
      · have q27 : 1 < v2.toInt := z_nle rfl (by decide) hc
        refine lv_iload_n hx hb dX11_greatestDivisor_11 rfl (lv_at hl 1 rfl) ?_
        refine lv_iload_n hx hb dX11_greatestDivisor_12 rfl (lv_at hl 0 rfl) ?_
        refine lv_irem hx hb dX11_greatestDivisor_13 (z_n0 (by omega)) ?_
        refine lv_topi (fun y28 ey28 => ?_)
        refine lv_if_ne (tgt := 25) hx hb dX11_greatestDivisor_14 (by decide) (fun hc => ?_) (fun hc => ?_)
        · have q29 : y28.toInt ≠ 0 := z_ne rfl (by decide) hc
          obtain ⟨y30, ey30⟩ : ∃ y : Int32, y = v2 + (-1) := ⟨_, rfl⟩
          refine lv_iinc (v := y30) (lv' := [(2, .int y30), (0, .int p0), (1, .int p1)]) hx hb dX11_greatestDivisor_25 hl (k := 0) rfl (by rw [ey30]; rfl) (by decide) rfl (fun ls hl => ?_)
          have := z_hi v2
          have hy30 : y30.toInt = v2.toInt + (-1) := by rw [ey30]; exact z_add rfl (by decide) (by omega) (by omega)
          refine lv_goto (tgt := 6) hx hb dX11_greatestDivisor_28 (by decide) ?_
          exact ih25 y30 ls (by omega) (lv_sub hl [0, 1, 2] rfl)
        · have q31 : y28.toInt = 0 := z_eq rfl (by decide) hc
          refine lv_iload_n hx hb dX11_greatestDivisor_17 rfl (lv_at hl 2 rfl) ?_
          refine lv_iload_n hx hb dX11_greatestDivisor_18 rfl (lv_at hl 0 rfl) ?_
          refine lv_irem hx hb dX11_greatestDivisor_19 (z_n0 (by omega)) ?_
          refine lv_topi (fun y32 ey32 => ?_)
          refine lv_if_ne (tgt := 25) hx hb dX11_greatestDivisor_20 (by decide) (fun hc => ?_) (fun hc => ?_)
          · have q33 : y32.toInt ≠ 0 := z_ne rfl (by decide) hc
            obtain ⟨y34, ey34⟩ : ∃ y : Int32, y = v2 + (-1) := ⟨_, rfl⟩
            refine lv_iinc (v := y34) (lv' := [(2, .int y34), (0, .int p0), (1, .int p1)]) hx hb dX11_greatestDivisor_25 hl (k := 0) rfl (by rw [ey34]; rfl) (by decide) rfl (fun ls hl => ?_)
            have := z_hi v2
            have hy34 : y34.toInt = v2.toInt + (-1) := by rw [ey34]; exact z_add rfl (by decide) (by omega) (by omega)
            refine lv_goto (tgt := 6) hx hb dX11_greatestDivisor_28 (by decide) ?_
            exact ih25 y34 ls (by omega) (lv_sub hl [0, 1, 2] rfl)
          · have q35 : y32.toInt = 0 := z_eq rfl (by decide) hc
            refine lv_iload_n hx hb dX11_greatestDivisor_23 rfl (lv_at hl 0 rfl) ?_
            exact W.iret (v := v2) hx hb hr (fun t ht hW => ⟨v2, rfl, ⟨by first | decide | omega, z_hi _⟩, ht⟩) (fun _ h => absurd h List.not_mem_nil) dX11_greatestDivisor_24
  exact hL23 ((y1.toInt - 0).toNat + 1) y1 ls (by omega) hl
set_option maxRecDepth 20000 in
theorem edX4_at_0 : decode cX4_at 0 = .ok (.iload_n 1, 1) ∧ decode cX4_at 1 = .ok (.ifCond .lt 20, 3) ∧ decode cX4_at 4 = .ok (.iload_n 1, 1) ∧ decode cX4_at 5 = .ok (.aload_n 0, 1) ∧ decode cX4_at 6 = .ok (.getfield 15, 3) ∧ decode cX4_at 9 = .ok (.if_icmp .ge 12, 3) ∧ decode cX4_at 12 = .ok (.aload_n 0, 1) ∧ decode cX4_at 13 = .ok (.getfield 9, 3) ∧ decode cX4_at 16 = .ok (.iload_n 1, 1) ∧ decode cX4_at 17 = .ok (.iaload, 1) ∧ decode cX4_at 18 = .ok (.goto 4, 3) ∧ decode cX4_at 21 = .ok (.iconst 0, 1) := by decide +kernel
theorem dX4_at_0 : decode cX4_at 0 = .ok (.iload_n 1, 1) := edX4_at_0.1
theorem dX4_at_1 : decode cX4_at 1 = .ok (.ifCond .lt 20, 3) := edX4_at_0.2.1
theorem dX4_at_4 : decode cX4_at 4 = .ok (.iload_n 1, 1) := edX4_at_0.2.2.1
theorem dX4_at_5 : decode cX4_at 5 = .ok (.aload_n 0, 1) := edX4_at_0.2.2.2.1
theorem dX4_at_6 : decode cX4_at 6 = .ok (.getfield 15, 3) := edX4_at_0.2.2.2.2.1
theorem dX4_at_9 : decode cX4_at 9 = .ok (.if_icmp .ge 12, 3) := edX4_at_0.2.2.2.2.2.1
theorem dX4_at_12 : decode cX4_at 12 = .ok (.aload_n 0, 1) := edX4_at_0.2.2.2.2.2.2.1
theorem dX4_at_13 : decode cX4_at 13 = .ok (.getfield 9, 3) := edX4_at_0.2.2.2.2.2.2.2.1
theorem dX4_at_16 : decode cX4_at 16 = .ok (.iload_n 1, 1) := edX4_at_0.2.2.2.2.2.2.2.2.1
theorem dX4_at_17 : decode cX4_at 17 = .ok (.iaload, 1) := edX4_at_0.2.2.2.2.2.2.2.2.2.1
theorem dX4_at_18 : decode cX4_at 18 = .ok (.goto 4, 3) := edX4_at_0.2.2.2.2.2.2.2.2.2.2.1
theorem dX4_at_21 : decode cX4_at 21 = .ok (.iconst 0, 1) := edX4_at_0.2.2.2.2.2.2.2.2.2.2.2
theorem dX4_at_22 : decode cX4_at 22 = .ok (.ireturn, 1) := by decide +kernel
noncomputable def voX4_at : List Cond := [.fieldLink RX4 15 "EachOnHisCue$Letters" "size" "I", .fieldLink RX4 9 "EachOnHisCue$Letters" "row" "[I"]
noncomputable def vsX4_at : List Cond := .code yX4_at cX4_at 2 (some .int) :: (voX4_at ++ (wsX40))
theorem zgX4 : zGd wsX40 := z_gdO (by decide +kernel)
theorem zgX4_at : zGd vsX4_at := z_gdC rfl (z_gdA (z_gdO (by decide +kernel) : zGd voX4_at) (zgX4))
theorem in_X4_at_X4 : ∀ w ∈ wsX40, w ∈ vsX4_at := fun _ h => List.mem_cons_of_mem _ (List.mem_append_right _ (h))
set_option maxHeartbeats 4000000 in
set_option maxRecDepth 100000 in
theorem rX4_at (l : Launch) (dC : Nat → ClassId) (dI : Nat → Nat → Nat) (cI cQ : ClassId) (ha0 ha0_0 : Nat) (fa0_0 : Nat → Int32) (hBfa0_0 : ∀ k, 0 ≤ (fa0_0 k).toInt ∧ (fa0_0 k).toInt ≤ 255) (ia0_1 : Int32) (hia0_1l : 0 ≤ ia0_1.toInt) (hia0_1h : ia0_1.toInt ≤ 80) (p1 : Int32) : Met l yX4_at vsX4_at ({ frames := 0, cells := 0, slots := 0, locals := 0 }) (va_Pc [.ref ha0, .int p1] (zRB dC dI cI cQ [(ha0_0, .inl (cI, 80, .inl fa0_0)), (ha0, .inr (4, [.ref ha0_0, .int ia0_1]))])) (vp_Si (fun r => 0 ≤ r.toInt ∧ r.toInt ≤ 255 ∧ (r.toInt = zAt fa0_0 ia0_1.toInt p1.toInt))) 0 0 (fun _ => False) := by
  refine Met.ofW (cc := cX4_at) (maxL := 2) (ret := (some .int)) (by decide) rfl ?_
  intro p e s m args below meth c s₁ B hml hv
  obtain ⟨rfl, hP, hZ⟩ := hv
  obtain ⟨hK, hAO, hN⟩ := id hZ
  have hx := B.exec
  have hb := B.bytes
  have hr := B.returns
  have hts := atoms_spec (ws := vsX4_at) B.pre
  have hown : s.vm.findClass RX4 = some m.cls := findClass_of_methodNamed B.named
  have hlocks := B.notSynchronized
  have hp1l := z_lo p1
  have hp1h := z_hi p1
  have hl := lv_entry ([.ref ha0, .int p1]) (n := 2) (Nat.le_of_ble_eq_true rfl)
  rw [lg_entry_eq]
  generalize (lg_sl ([.ref ha0, .int p1]) ++ List.replicate (2 - (lg_sl ([.ref ha0, .int p1])).length) Slot.unset).toArray = ls at hl ⊢
  have hl : lv_has ls 2 [(0, .ref ha0), (1, .int p1)] := hl
  refine lv_iload_n hx hb dX4_at_0 rfl (lv_at hl 1 rfl) ?_
  refine lv_if_lt (tgt := 21) hx hb dX4_at_1 (by decide) (fun hc => ?_) (fun hc => ?_)
  · have q1 : p1.toInt < 0 := z_lt rfl (by decide) hc
    refine lv_iconst (v := 0) hx hb dX4_at_21 (by decide) ?_
    exact W.iret (v := 0) hx hb hr (fun t ht hW => ⟨0, rfl, ⟨by first | decide | omega, by first | decide | omega, (by first | exact z_atE (by assumption) rfl (by omega) (by omega) | (rw [z_atO (by omega)]; decide))⟩, ht⟩) (fun _ h => absurd h List.not_mem_nil) dX4_at_22
  · have q2 : 0 ≤ p1.toInt := z_nlt rfl (by decide) hc
    refine lv_iload_n hx hb dX4_at_4 rfl (lv_at hl 1 rfl) ?_
    refine lv_aload_n hx hb dX4_at_5 rfl (lv_at hl 0 rfl) ?_
    refine va_get (D := (dC, dI)) (ci := 4) (v := .int ia0_1) (C := RX4) (T := TX4) (N := 2) hx hb hts in_X4_at_X4 hown hK hP 1 rfl rfl 1 (by decide) (hts (.fieldLink RX4 15 "EachOnHisCue$Letters" "size" "I") (by decide +kernel)) (fun _ h9 => h9) rfl dX4_at_6 ?_
    refine lv_icmp_ge (tgt := 21) hx hb dX4_at_9 (by decide) (fun hc => ?_) (fun hc => ?_)
    · have q3 : ia0_1.toInt ≤ p1.toInt := z_le rfl rfl hc
      refine lv_iconst (v := 0) hx hb dX4_at_21 (by decide) ?_
      exact W.iret (v := 0) hx hb hr (fun t ht hW => ⟨0, rfl, ⟨by first | decide | omega, by first | decide | omega, (by first | exact z_atE (by assumption) rfl (by omega) (by omega) | (rw [z_atO (by omega)]; decide))⟩, ht⟩) (fun _ h => absurd h List.not_mem_nil) dX4_at_22
    · have q4 : p1.toInt < ia0_1.toInt := z_nle rfl rfl hc
      refine lv_aload_n hx hb dX4_at_12 rfl (lv_at hl 0 rfl) ?_
      refine va_get (D := (dC, dI)) (ci := 4) (v := .ref ha0_0) (C := RX4) (T := TX4) (N := 2) hx hb hts in_X4_at_X4 hown hK hP 1 rfl rfl 0 (by decide) (hts (.fieldLink RX4 9 "EachOnHisCue$Letters" "row" "[I") (by decide +kernel)) (fun _ h9 => h9) rfl dX4_at_13 ?_
      refine lv_iload_n hx hb dX4_at_16 rfl (lv_at hl 1 rfl) ?_
      refine va_iald hx hb hK hP 0 0 rfl rfl (z_in (by omega) (by omega)) dX4_at_17 ?_
      refine lv_topi (fun y5 ey5 => ?_)
      have gy5 : y5.toInt = (fa0_0 (p1 : Int32).toNatClampNeg).toInt := by rw [ey5]
      have hy5 : 0 ≤ y5.toInt ∧ y5.toInt ≤ 255 := by rw [ey5]; exact hBfa0_0 _
      obtain ⟨hy5, hy5_⟩ := hy5
      refine lv_goto (tgt := 22) hx hb dX4_at_18 (by decide) ?_
      exact W.iret (v := y5) hx hb hr (fun t ht hW => ⟨y5, rfl, ⟨by first | decide | omega, by first | decide | omega, (by first | exact z_atE (by assumption) rfl (by omega) (by omega) | (rw [z_atO (by omega)]; decide))⟩, ht⟩) (fun _ h => absurd h List.not_mem_nil) dX4_at_22
set_option maxRecDepth 20000 in
theorem edX4_isDigit_0 : decode cX4_isDigit 0 = .ok (.aload_n 0, 1) ∧ decode cX4_isDigit 1 = .ok (.iload_n 1, 1) ∧ decode cX4_isDigit 2 = .ok (.invokevirtual 19, 3) ∧ decode cX4_isDigit 5 = .ok (.bipush 48, 2) ∧ decode cX4_isDigit 7 = .ok (.if_icmp .lt 17, 3) ∧ decode cX4_isDigit 10 = .ok (.aload_n 0, 1) ∧ decode cX4_isDigit 11 = .ok (.iload_n 1, 1) ∧ decode cX4_isDigit 12 = .ok (.invokevirtual 19, 3) ∧ decode cX4_isDigit 15 = .ok (.bipush 57, 2) ∧ decode cX4_isDigit 17 = .ok (.if_icmp .gt 7, 3) ∧ decode cX4_isDigit 20 = .ok (.iconst 1, 1) ∧ decode cX4_isDigit 21 = .ok (.goto 4, 3) := by decide +kernel
theorem dX4_isDigit_0 : decode cX4_isDigit 0 = .ok (.aload_n 0, 1) := edX4_isDigit_0.1
theorem dX4_isDigit_1 : decode cX4_isDigit 1 = .ok (.iload_n 1, 1) := edX4_isDigit_0.2.1
theorem dX4_isDigit_2 : decode cX4_isDigit 2 = .ok (.invokevirtual 19, 3) := edX4_isDigit_0.2.2.1
theorem dX4_isDigit_5 : decode cX4_isDigit 5 = .ok (.bipush 48, 2) := edX4_isDigit_0.2.2.2.1
theorem dX4_isDigit_7 : decode cX4_isDigit 7 = .ok (.if_icmp .lt 17, 3) := edX4_isDigit_0.2.2.2.2.1
theorem dX4_isDigit_10 : decode cX4_isDigit 10 = .ok (.aload_n 0, 1) := edX4_isDigit_0.2.2.2.2.2.1
theorem dX4_isDigit_11 : decode cX4_isDigit 11 = .ok (.iload_n 1, 1) := edX4_isDigit_0.2.2.2.2.2.2.1
theorem dX4_isDigit_12 : decode cX4_isDigit 12 = .ok (.invokevirtual 19, 3) := edX4_isDigit_0.2.2.2.2.2.2.2.1
theorem dX4_isDigit_15 : decode cX4_isDigit 15 = .ok (.bipush 57, 2) := edX4_isDigit_0.2.2.2.2.2.2.2.2.1
theorem dX4_isDigit_17 : decode cX4_isDigit 17 = .ok (.if_icmp .gt 7, 3) := edX4_isDigit_0.2.2.2.2.2.2.2.2.2.1
theorem dX4_isDigit_20 : decode cX4_isDigit 20 = .ok (.iconst 1, 1) := edX4_isDigit_0.2.2.2.2.2.2.2.2.2.2.1
theorem dX4_isDigit_21 : decode cX4_isDigit 21 = .ok (.goto 4, 3) := edX4_isDigit_0.2.2.2.2.2.2.2.2.2.2.2
set_option maxRecDepth 20000 in
theorem edX4_isDigit_24 : decode cX4_isDigit 24 = .ok (.iconst 0, 1) ∧ decode cX4_isDigit 25 = .ok (.ireturn, 1) := by decide +kernel
theorem dX4_isDigit_24 : decode cX4_isDigit 24 = .ok (.iconst 0, 1) := edX4_isDigit_24.1
theorem dX4_isDigit_25 : decode cX4_isDigit 25 = .ok (.ireturn, 1) := edX4_isDigit_24.2
noncomputable def voX4_isDigit : List Cond := [.methodLink RX4 19 yX4_at, .instanceMethod yX4_at, .selects RX4 yX4_at yX4_at, .initialized RX4]
noncomputable def vsX4_isDigit : List Cond := .code yX4_isDigit cX4_isDigit 2 (some .boolean) :: (voX4_isDigit ++ (vsX4_at))
theorem zgX4_isDigit : zGd vsX4_isDigit := z_gdC rfl (z_gdA (z_gdO (by decide +kernel) : zGd voX4_isDigit) (zgX4_at))
theorem gw_X4_isDigit_X4_at : GoodIn vsX4_isDigit vsX4_at := z_gdI (fun _ h => List.mem_cons_of_mem _ (List.mem_append_right _ (h))) zgX4_at
set_option maxRecDepth 20000 in
theorem gv_X4_isDigit_X4_at_19 : GoodIn vsX4_isDigit (wsV RX4 19 RX4 yX4_at vsX4_at) := goodIn_app (goodIn_of _ (by decide +kernel)) gw_X4_isDigit_X4_at
set_option maxHeartbeats 4000000 in
set_option maxRecDepth 100000 in
theorem rX4_isDigit (l : Launch) (dC : Nat → ClassId) (dI : Nat → Nat → Nat) (cI cQ : ClassId) (ha0 ha0_0 : Nat) (fa0_0 : Nat → Int32) (hBfa0_0 : ∀ k, 0 ≤ (fa0_0 k).toInt ∧ (fa0_0 k).toInt ≤ 255) (ia0_1 : Int32) (hia0_1l : 0 ≤ ia0_1.toInt) (hia0_1h : ia0_1.toInt ≤ 80) (p1 : Int32) : Met l yX4_isDigit vsX4_isDigit ({ frames := 1, cells := 0, slots := 0, locals := 21 }) (va_Pc [.ref ha0, .int p1] (zRB dC dI cI cQ [(ha0_0, .inl (cI, 80, .inl fa0_0)), (ha0, .inr (4, [.ref ha0_0, .int ia0_1]))])) (vp_Si (fun r => 0 ≤ r.toInt ∧ r.toInt ≤ 1 ∧ ((r.toInt = 1 ∧ 48 ≤ zAt fa0_0 ia0_1.toInt p1.toInt ∧ zAt fa0_0 ia0_1.toInt p1.toInt ≤ 57) ∨ (r.toInt = 0 ∧ (zAt fa0_0 ia0_1.toInt p1.toInt < 48 ∨ 57 < zAt fa0_0 ia0_1.toInt p1.toInt))))) 0 0 (fun _ => False) := by
  refine Met.ofW (cc := cX4_isDigit) (maxL := 2) (ret := (some .boolean)) (by decide) rfl ?_
  intro p e s m args below meth c s₁ B hml hv
  obtain ⟨rfl, hP, hZ⟩ := hv
  obtain ⟨hK, hAO, hN⟩ := id hZ
  have hx := B.exec
  have hb := B.bytes
  have hr := B.returns
  have hts := atoms_spec (ws := vsX4_isDigit) B.pre
  have hown : s.vm.findClass RX4 = some m.cls := findClass_of_methodNamed B.named
  have hlocks := B.notSynchronized
  have hp1l := z_lo p1
  have hp1h := z_hi p1
  have hl := lv_entry ([.ref ha0, .int p1]) (n := 2) (Nat.le_of_ble_eq_true rfl)
  rw [lg_entry_eq]
  generalize (lg_sl ([.ref ha0, .int p1]) ++ List.replicate (2 - (lg_sl ([.ref ha0, .int p1])).length) Slot.unset).toArray = ls at hl ⊢
  have hl : lv_has ls 2 [(0, .ref ha0), (1, .int p1)] := hl
  refine lv_aload_n hx hb dX4_isDigit_0 rfl (lv_at hl 0 rfl) ?_
  refine lv_iload_n hx hb dX4_isDigit_1 rfl (lv_at hl 1 rfl) ?_
  refine z_rdi (va_runV (As := [.int p1]) (rest := []) ⟨hx, hb, hml, hown, hts⟩ (rX4_at l dC dI cI cQ ha0 ha0_0 fa0_0 hBfa0_0 ia0_1 hia0_1l hia0_1h p1) (cwV 1 hts gv_X4_isDigit_X4_at_19 rfl rfl rfl (by decide +kernel) ⟨Nat.le_of_ble_eq_true rfl, Nat.le_of_ble_eq_true rfl⟩) ⟨z_blindR, va_recv hK hP (ci := 4) (q0 := 1) rfl rfl, z_preR hZ hP [0, 1] rfl⟩ rfl rfl hl.1 rfl (lv_room (Nat.le_of_ble_eq_true rfl)) dX4_isDigit_2 ⟨Nat.le_of_ble_eq_true rfl, Nat.le_of_ble_eq_true rfl⟩) (fun y1 hy1 => ?_)
  obtain ⟨hy1_0, hy1_1, hy1_2⟩ := hy1
  refine lv_bipush (v := 48) hx hb dX4_isDigit_5 (by decide) ?_
  refine lv_icmp_lt (tgt := 24) hx hb dX4_isDigit_7 (by decide) (fun hc => ?_) (fun hc => ?_)
  · have q2 : y1.toInt < 48 := z_lt rfl (by decide) hc
    refine lv_iconst (v := 0) hx hb dX4_isDigit_24 (by decide) ?_
    exact W.zret (v := 0) hx hb hr (rfl) (fun t ht hW => ⟨0, rfl, ⟨by first | decide | omega, by first | decide | omega, (by have e0 : (0 : Int32).toInt = 0 := (by decide); have e1 : (1 : Int32).toInt = 1 := (by decide); have e9 : (-9 : Int32).toInt = -9 := (by decide); omega)⟩, ht⟩) (fun _ h => absurd h List.not_mem_nil) dX4_isDigit_25
  · have q3 : 48 ≤ y1.toInt := z_nlt rfl (by decide) hc
    refine lv_aload_n hx hb dX4_isDigit_10 rfl (lv_at hl 0 rfl) ?_
    refine lv_iload_n hx hb dX4_isDigit_11 rfl (lv_at hl 1 rfl) ?_
    refine z_rdi (va_runV (As := [.int p1]) (rest := []) ⟨hx, hb, hml, hown, hts⟩ (rX4_at l dC dI cI cQ ha0 ha0_0 fa0_0 hBfa0_0 ia0_1 hia0_1l hia0_1h p1) (cwV 1 hts gv_X4_isDigit_X4_at_19 rfl rfl rfl (by decide +kernel) ⟨Nat.le_of_ble_eq_true rfl, Nat.le_of_ble_eq_true rfl⟩) ⟨z_blindR, va_recv hK hP (ci := 4) (q0 := 1) rfl rfl, z_preR hZ hP [0, 1] rfl⟩ rfl rfl hl.1 rfl (lv_room (Nat.le_of_ble_eq_true rfl)) dX4_isDigit_12 ⟨Nat.le_of_ble_eq_true rfl, Nat.le_of_ble_eq_true rfl⟩) (fun y4 hy4 => ?_)
    obtain ⟨hy4_0, hy4_1, hy4_2⟩ := hy4
    refine lv_bipush (v := 57) hx hb dX4_isDigit_15 (by decide) ?_
    refine lv_icmp_gt (tgt := 24) hx hb dX4_isDigit_17 (by decide) (fun hc => ?_) (fun hc => ?_)
    · have q5 : 57 < y4.toInt := z_lt (by decide) rfl hc
      refine lv_iconst (v := 0) hx hb dX4_isDigit_24 (by decide) ?_
      exact W.zret (v := 0) hx hb hr (rfl) (fun t ht hW => ⟨0, rfl, ⟨by first | decide | omega, by first | decide | omega, (by have e0 : (0 : Int32).toInt = 0 := (by decide); have e1 : (1 : Int32).toInt = 1 := (by decide); have e9 : (-9 : Int32).toInt = -9 := (by decide); omega)⟩, ht⟩) (fun _ h => absurd h List.not_mem_nil) dX4_isDigit_25
    · have q6 : y4.toInt ≤ 57 := z_nlt (by decide) rfl hc
      refine lv_iconst (v := 1) hx hb dX4_isDigit_20 (by decide) ?_
      refine lv_goto (tgt := 25) hx hb dX4_isDigit_21 (by decide) ?_
      exact W.zret (v := 1) hx hb hr (rfl) (fun t ht hW => ⟨1, rfl, ⟨by first | decide | omega, by first | decide | omega, (by have e0 : (0 : Int32).toInt = 0 := (by decide); have e1 : (1 : Int32).toInt = 1 := (by decide); have e9 : (-9 : Int32).toInt = -9 := (by decide); omega)⟩, ht⟩) (fun _ h => absurd h List.not_mem_nil) dX4_isDigit_25
set_option maxRecDepth 20000 in
theorem edX4_isWord_0 : decode cX4_isWord 0 = .ok (.aload_n 0, 1) ∧ decode cX4_isWord 1 = .ok (.iload_n 1, 1) ∧ decode cX4_isWord 2 = .ok (.invokevirtual 19, 3) ∧ decode cX4_isWord 5 = .ok (.bipush 97, 2) ∧ decode cX4_isWord 7 = .ok (.if_icmp .lt 17, 3) ∧ decode cX4_isWord 10 = .ok (.aload_n 0, 1) ∧ decode cX4_isWord 11 = .ok (.iload_n 1, 1) ∧ decode cX4_isWord 12 = .ok (.invokevirtual 19, 3) ∧ decode cX4_isWord 15 = .ok (.bipush 122, 2) ∧ decode cX4_isWord 17 = .ok (.if_icmp .gt 7, 3) ∧ decode cX4_isWord 20 = .ok (.iconst 1, 1) ∧ decode cX4_isWord 21 = .ok (.goto 4, 3) := by decide +kernel
theorem dX4_isWord_0 : decode cX4_isWord 0 = .ok (.aload_n 0, 1) := edX4_isWord_0.1
theorem dX4_isWord_1 : decode cX4_isWord 1 = .ok (.iload_n 1, 1) := edX4_isWord_0.2.1
theorem dX4_isWord_2 : decode cX4_isWord 2 = .ok (.invokevirtual 19, 3) := edX4_isWord_0.2.2.1
theorem dX4_isWord_5 : decode cX4_isWord 5 = .ok (.bipush 97, 2) := edX4_isWord_0.2.2.2.1
theorem dX4_isWord_7 : decode cX4_isWord 7 = .ok (.if_icmp .lt 17, 3) := edX4_isWord_0.2.2.2.2.1
theorem dX4_isWord_10 : decode cX4_isWord 10 = .ok (.aload_n 0, 1) := edX4_isWord_0.2.2.2.2.2.1
theorem dX4_isWord_11 : decode cX4_isWord 11 = .ok (.iload_n 1, 1) := edX4_isWord_0.2.2.2.2.2.2.1
theorem dX4_isWord_12 : decode cX4_isWord 12 = .ok (.invokevirtual 19, 3) := edX4_isWord_0.2.2.2.2.2.2.2.1
theorem dX4_isWord_15 : decode cX4_isWord 15 = .ok (.bipush 122, 2) := edX4_isWord_0.2.2.2.2.2.2.2.2.1
theorem dX4_isWord_17 : decode cX4_isWord 17 = .ok (.if_icmp .gt 7, 3) := edX4_isWord_0.2.2.2.2.2.2.2.2.2.1
theorem dX4_isWord_20 : decode cX4_isWord 20 = .ok (.iconst 1, 1) := edX4_isWord_0.2.2.2.2.2.2.2.2.2.2.1
theorem dX4_isWord_21 : decode cX4_isWord 21 = .ok (.goto 4, 3) := edX4_isWord_0.2.2.2.2.2.2.2.2.2.2.2
set_option maxRecDepth 20000 in
theorem edX4_isWord_24 : decode cX4_isWord 24 = .ok (.iconst 0, 1) ∧ decode cX4_isWord 25 = .ok (.ireturn, 1) := by decide +kernel
theorem dX4_isWord_24 : decode cX4_isWord 24 = .ok (.iconst 0, 1) := edX4_isWord_24.1
theorem dX4_isWord_25 : decode cX4_isWord 25 = .ok (.ireturn, 1) := edX4_isWord_24.2
noncomputable def voX4_isWord : List Cond := [.methodLink RX4 19 yX4_at, .instanceMethod yX4_at, .selects RX4 yX4_at yX4_at, .initialized RX4]
noncomputable def vsX4_isWord : List Cond := .code yX4_isWord cX4_isWord 2 (some .boolean) :: (voX4_isWord ++ (vsX4_at))
theorem zgX4_isWord : zGd vsX4_isWord := z_gdC rfl (z_gdA (z_gdO (by decide +kernel) : zGd voX4_isWord) (zgX4_at))
theorem gw_X4_isWord_X4_at : GoodIn vsX4_isWord vsX4_at := z_gdI (fun _ h => List.mem_cons_of_mem _ (List.mem_append_right _ (h))) zgX4_at
set_option maxRecDepth 20000 in
theorem gv_X4_isWord_X4_at_19 : GoodIn vsX4_isWord (wsV RX4 19 RX4 yX4_at vsX4_at) := goodIn_app (goodIn_of _ (by decide +kernel)) gw_X4_isWord_X4_at
set_option maxHeartbeats 4000000 in
set_option maxRecDepth 100000 in
theorem rX4_isWord (l : Launch) (dC : Nat → ClassId) (dI : Nat → Nat → Nat) (cI cQ : ClassId) (ha0 ha0_0 : Nat) (fa0_0 : Nat → Int32) (hBfa0_0 : ∀ k, 0 ≤ (fa0_0 k).toInt ∧ (fa0_0 k).toInt ≤ 255) (ia0_1 : Int32) (hia0_1l : 0 ≤ ia0_1.toInt) (hia0_1h : ia0_1.toInt ≤ 80) (p1 : Int32) : Met l yX4_isWord vsX4_isWord ({ frames := 1, cells := 0, slots := 0, locals := 21 }) (va_Pc [.ref ha0, .int p1] (zRB dC dI cI cQ [(ha0_0, .inl (cI, 80, .inl fa0_0)), (ha0, .inr (4, [.ref ha0_0, .int ia0_1]))])) (vp_Si (fun r => 0 ≤ r.toInt ∧ r.toInt ≤ 1 ∧ ((r.toInt = 1 ∧ 97 ≤ zAt fa0_0 ia0_1.toInt p1.toInt ∧ zAt fa0_0 ia0_1.toInt p1.toInt ≤ 122) ∨ (r.toInt = 0 ∧ (zAt fa0_0 ia0_1.toInt p1.toInt < 97 ∨ 122 < zAt fa0_0 ia0_1.toInt p1.toInt))))) 0 0 (fun _ => False) := by
  refine Met.ofW (cc := cX4_isWord) (maxL := 2) (ret := (some .boolean)) (by decide) rfl ?_
  intro p e s m args below meth c s₁ B hml hv
  obtain ⟨rfl, hP, hZ⟩ := hv
  obtain ⟨hK, hAO, hN⟩ := id hZ
  have hx := B.exec
  have hb := B.bytes
  have hr := B.returns
  have hts := atoms_spec (ws := vsX4_isWord) B.pre
  have hown : s.vm.findClass RX4 = some m.cls := findClass_of_methodNamed B.named
  have hlocks := B.notSynchronized
  have hp1l := z_lo p1
  have hp1h := z_hi p1
  have hl := lv_entry ([.ref ha0, .int p1]) (n := 2) (Nat.le_of_ble_eq_true rfl)
  rw [lg_entry_eq]
  generalize (lg_sl ([.ref ha0, .int p1]) ++ List.replicate (2 - (lg_sl ([.ref ha0, .int p1])).length) Slot.unset).toArray = ls at hl ⊢
  have hl : lv_has ls 2 [(0, .ref ha0), (1, .int p1)] := hl
  refine lv_aload_n hx hb dX4_isWord_0 rfl (lv_at hl 0 rfl) ?_
  refine lv_iload_n hx hb dX4_isWord_1 rfl (lv_at hl 1 rfl) ?_
  refine z_rdi (va_runV (As := [.int p1]) (rest := []) ⟨hx, hb, hml, hown, hts⟩ (rX4_at l dC dI cI cQ ha0 ha0_0 fa0_0 hBfa0_0 ia0_1 hia0_1l hia0_1h p1) (cwV 1 hts gv_X4_isWord_X4_at_19 rfl rfl rfl (by decide +kernel) ⟨Nat.le_of_ble_eq_true rfl, Nat.le_of_ble_eq_true rfl⟩) ⟨z_blindR, va_recv hK hP (ci := 4) (q0 := 1) rfl rfl, z_preR hZ hP [0, 1] rfl⟩ rfl rfl hl.1 rfl (lv_room (Nat.le_of_ble_eq_true rfl)) dX4_isWord_2 ⟨Nat.le_of_ble_eq_true rfl, Nat.le_of_ble_eq_true rfl⟩) (fun y1 hy1 => ?_)
  obtain ⟨hy1_0, hy1_1, hy1_2⟩ := hy1
  refine lv_bipush (v := 97) hx hb dX4_isWord_5 (by decide) ?_
  refine lv_icmp_lt (tgt := 24) hx hb dX4_isWord_7 (by decide) (fun hc => ?_) (fun hc => ?_)
  · have q2 : y1.toInt < 97 := z_lt rfl (by decide) hc
    refine lv_iconst (v := 0) hx hb dX4_isWord_24 (by decide) ?_
    exact W.zret (v := 0) hx hb hr (rfl) (fun t ht hW => ⟨0, rfl, ⟨by first | decide | omega, by first | decide | omega, (by have e0 : (0 : Int32).toInt = 0 := (by decide); have e1 : (1 : Int32).toInt = 1 := (by decide); have e9 : (-9 : Int32).toInt = -9 := (by decide); omega)⟩, ht⟩) (fun _ h => absurd h List.not_mem_nil) dX4_isWord_25
  · have q3 : 97 ≤ y1.toInt := z_nlt rfl (by decide) hc
    refine lv_aload_n hx hb dX4_isWord_10 rfl (lv_at hl 0 rfl) ?_
    refine lv_iload_n hx hb dX4_isWord_11 rfl (lv_at hl 1 rfl) ?_
    refine z_rdi (va_runV (As := [.int p1]) (rest := []) ⟨hx, hb, hml, hown, hts⟩ (rX4_at l dC dI cI cQ ha0 ha0_0 fa0_0 hBfa0_0 ia0_1 hia0_1l hia0_1h p1) (cwV 1 hts gv_X4_isWord_X4_at_19 rfl rfl rfl (by decide +kernel) ⟨Nat.le_of_ble_eq_true rfl, Nat.le_of_ble_eq_true rfl⟩) ⟨z_blindR, va_recv hK hP (ci := 4) (q0 := 1) rfl rfl, z_preR hZ hP [0, 1] rfl⟩ rfl rfl hl.1 rfl (lv_room (Nat.le_of_ble_eq_true rfl)) dX4_isWord_12 ⟨Nat.le_of_ble_eq_true rfl, Nat.le_of_ble_eq_true rfl⟩) (fun y4 hy4 => ?_)
    obtain ⟨hy4_0, hy4_1, hy4_2⟩ := hy4
    refine lv_bipush (v := 122) hx hb dX4_isWord_15 (by decide) ?_
    refine lv_icmp_gt (tgt := 24) hx hb dX4_isWord_17 (by decide) (fun hc => ?_) (fun hc => ?_)
    · have q5 : 122 < y4.toInt := z_lt (by decide) rfl hc
      refine lv_iconst (v := 0) hx hb dX4_isWord_24 (by decide) ?_
      exact W.zret (v := 0) hx hb hr (rfl) (fun t ht hW => ⟨0, rfl, ⟨by first | decide | omega, by first | decide | omega, (by have e0 : (0 : Int32).toInt = 0 := (by decide); have e1 : (1 : Int32).toInt = 1 := (by decide); have e9 : (-9 : Int32).toInt = -9 := (by decide); omega)⟩, ht⟩) (fun _ h => absurd h List.not_mem_nil) dX4_isWord_25
    · have q6 : y4.toInt ≤ 122 := z_nlt (by decide) rfl hc
      refine lv_iconst (v := 1) hx hb dX4_isWord_20 (by decide) ?_
      refine lv_goto (tgt := 25) hx hb dX4_isWord_21 (by decide) ?_
      exact W.zret (v := 1) hx hb hr (rfl) (fun t ht hW => ⟨1, rfl, ⟨by first | decide | omega, by first | decide | omega, (by have e0 : (0 : Int32).toInt = 0 := (by decide); have e1 : (1 : Int32).toInt = 1 := (by decide); have e9 : (-9 : Int32).toInt = -9 := (by decide); omega)⟩, ht⟩) (fun _ h => absurd h List.not_mem_nil) dX4_isWord_25
set_option maxRecDepth 20000 in
theorem edX4_digit_0 : decode cX4_digit 0 = .ok (.aload_n 0, 1) ∧ decode cX4_digit 1 = .ok (.iload_n 1, 1) ∧ decode cX4_digit 2 = .ok (.invokevirtual 19, 3) ∧ decode cX4_digit 5 = .ok (.bipush 48, 2) ∧ decode cX4_digit 7 = .ok (.isub, 1) ∧ decode cX4_digit 8 = .ok (.ireturn, 1) := by decide +kernel
theorem dX4_digit_0 : decode cX4_digit 0 = .ok (.aload_n 0, 1) := edX4_digit_0.1
theorem dX4_digit_1 : decode cX4_digit 1 = .ok (.iload_n 1, 1) := edX4_digit_0.2.1
theorem dX4_digit_2 : decode cX4_digit 2 = .ok (.invokevirtual 19, 3) := edX4_digit_0.2.2.1
theorem dX4_digit_5 : decode cX4_digit 5 = .ok (.bipush 48, 2) := edX4_digit_0.2.2.2.1
theorem dX4_digit_7 : decode cX4_digit 7 = .ok (.isub, 1) := edX4_digit_0.2.2.2.2.1
theorem dX4_digit_8 : decode cX4_digit 8 = .ok (.ireturn, 1) := edX4_digit_0.2.2.2.2.2
noncomputable def voX4_digit : List Cond := [.methodLink RX4 19 yX4_at, .instanceMethod yX4_at, .selects RX4 yX4_at yX4_at, .initialized RX4]
noncomputable def vsX4_digit : List Cond := .code yX4_digit cX4_digit 2 (some .int) :: (voX4_digit ++ (vsX4_at))
theorem zgX4_digit : zGd vsX4_digit := z_gdC rfl (z_gdA (z_gdO (by decide +kernel) : zGd voX4_digit) (zgX4_at))
theorem gw_X4_digit_X4_at : GoodIn vsX4_digit vsX4_at := z_gdI (fun _ h => List.mem_cons_of_mem _ (List.mem_append_right _ (h))) zgX4_at
set_option maxRecDepth 20000 in
theorem gv_X4_digit_X4_at_19 : GoodIn vsX4_digit (wsV RX4 19 RX4 yX4_at vsX4_at) := goodIn_app (goodIn_of _ (by decide +kernel)) gw_X4_digit_X4_at
set_option maxHeartbeats 4000000 in
set_option maxRecDepth 100000 in
theorem rX4_digit (l : Launch) (dC : Nat → ClassId) (dI : Nat → Nat → Nat) (cI cQ : ClassId) (ha0 ha0_0 : Nat) (fa0_0 : Nat → Int32) (hBfa0_0 : ∀ k, 0 ≤ (fa0_0 k).toInt ∧ (fa0_0 k).toInt ≤ 255) (ia0_1 : Int32) (hia0_1l : 0 ≤ ia0_1.toInt) (hia0_1h : ia0_1.toInt ≤ 80) (p1 : Int32) : Met l yX4_digit vsX4_digit ({ frames := 1, cells := 0, slots := 0, locals := 21 }) (va_Pc [.ref ha0, .int p1] (zRB dC dI cI cQ [(ha0_0, .inl (cI, 80, .inl fa0_0)), (ha0, .inr (4, [.ref ha0_0, .int ia0_1]))])) (vp_Si (fun r => (-48) ≤ r.toInt ∧ r.toInt ≤ 207 ∧ (r.toInt = zAt fa0_0 ia0_1.toInt p1.toInt - 48))) 0 0 (fun _ => False) := by
  refine Met.ofW (cc := cX4_digit) (maxL := 2) (ret := (some .int)) (by decide) rfl ?_
  intro p e s m args below meth c s₁ B hml hv
  obtain ⟨rfl, hP, hZ⟩ := hv
  obtain ⟨hK, hAO, hN⟩ := id hZ
  have hx := B.exec
  have hb := B.bytes
  have hr := B.returns
  have hts := atoms_spec (ws := vsX4_digit) B.pre
  have hown : s.vm.findClass RX4 = some m.cls := findClass_of_methodNamed B.named
  have hlocks := B.notSynchronized
  have hp1l := z_lo p1
  have hp1h := z_hi p1
  have hl := lv_entry ([.ref ha0, .int p1]) (n := 2) (Nat.le_of_ble_eq_true rfl)
  rw [lg_entry_eq]
  generalize (lg_sl ([.ref ha0, .int p1]) ++ List.replicate (2 - (lg_sl ([.ref ha0, .int p1])).length) Slot.unset).toArray = ls at hl ⊢
  have hl : lv_has ls 2 [(0, .ref ha0), (1, .int p1)] := hl
  refine lv_aload_n hx hb dX4_digit_0 rfl (lv_at hl 0 rfl) ?_
  refine lv_iload_n hx hb dX4_digit_1 rfl (lv_at hl 1 rfl) ?_
  refine z_rdi (va_runV (As := [.int p1]) (rest := []) ⟨hx, hb, hml, hown, hts⟩ (rX4_at l dC dI cI cQ ha0 ha0_0 fa0_0 hBfa0_0 ia0_1 hia0_1l hia0_1h p1) (cwV 1 hts gv_X4_digit_X4_at_19 rfl rfl rfl (by decide +kernel) ⟨Nat.le_of_ble_eq_true rfl, Nat.le_of_ble_eq_true rfl⟩) ⟨z_blindR, va_recv hK hP (ci := 4) (q0 := 1) rfl rfl, z_preR hZ hP [0, 1] rfl⟩ rfl rfl hl.1 rfl (lv_room (Nat.le_of_ble_eq_true rfl)) dX4_digit_2 ⟨Nat.le_of_ble_eq_true rfl, Nat.le_of_ble_eq_true rfl⟩) (fun y1 hy1 => ?_)
  obtain ⟨hy1_0, hy1_1, hy1_2⟩ := hy1
  refine lv_bipush (v := 48) hx hb dX4_digit_5 (by decide) ?_
  refine lv_isub hx hb dX4_digit_7 ?_
  refine lv_topi (fun y2 ey2 => ?_)
  have hy2 : y2.toInt = y1.toInt - 48 := by rw [ey2]; exact z_sub rfl (by decide) (by omega) (by omega)
  exact W.iret (v := y2) hx hb hr (fun t ht hW => ⟨y2, rfl, ⟨by first | decide | omega, by first | decide | omega, (by omega)⟩, ht⟩) (fun _ h => absurd h List.not_mem_nil) dX4_digit_8
set_option maxRecDepth 20000 in
theorem edX4_begins_0 : decode cX4_begins 0 = .ok (.iload_n 1, 1) ∧ decode cX4_begins 1 = .ok (.ifCond .eq 15, 3) ∧ decode cX4_begins 4 = .ok (.aload_n 0, 1) ∧ decode cX4_begins 5 = .ok (.iload_n 1, 1) ∧ decode cX4_begins 6 = .ok (.iconst 1, 1) ∧ decode cX4_begins 7 = .ok (.isub, 1) ∧ decode cX4_begins 8 = .ok (.invokevirtual 19, 3) ∧ decode cX4_begins 11 = .ok (.bipush 59, 2) ∧ decode cX4_begins 13 = .ok (.if_icmp .ne 7, 3) ∧ decode cX4_begins 16 = .ok (.iconst 1, 1) ∧ decode cX4_begins 17 = .ok (.goto 4, 3) ∧ decode cX4_begins 20 = .ok (.iconst 0, 1) := by decide +kernel
theorem dX4_begins_0 : decode cX4_begins 0 = .ok (.iload_n 1, 1) := edX4_begins_0.1
theorem dX4_begins_1 : decode cX4_begins 1 = .ok (.ifCond .eq 15, 3) := edX4_begins_0.2.1
theorem dX4_begins_4 : decode cX4_begins 4 = .ok (.aload_n 0, 1) := edX4_begins_0.2.2.1
theorem dX4_begins_5 : decode cX4_begins 5 = .ok (.iload_n 1, 1) := edX4_begins_0.2.2.2.1
theorem dX4_begins_6 : decode cX4_begins 6 = .ok (.iconst 1, 1) := edX4_begins_0.2.2.2.2.1
theorem dX4_begins_7 : decode cX4_begins 7 = .ok (.isub, 1) := edX4_begins_0.2.2.2.2.2.1
theorem dX4_begins_8 : decode cX4_begins 8 = .ok (.invokevirtual 19, 3) := edX4_begins_0.2.2.2.2.2.2.1
theorem dX4_begins_11 : decode cX4_begins 11 = .ok (.bipush 59, 2) := edX4_begins_0.2.2.2.2.2.2.2.1
theorem dX4_begins_13 : decode cX4_begins 13 = .ok (.if_icmp .ne 7, 3) := edX4_begins_0.2.2.2.2.2.2.2.2.1
theorem dX4_begins_16 : decode cX4_begins 16 = .ok (.iconst 1, 1) := edX4_begins_0.2.2.2.2.2.2.2.2.2.1
theorem dX4_begins_17 : decode cX4_begins 17 = .ok (.goto 4, 3) := edX4_begins_0.2.2.2.2.2.2.2.2.2.2.1
theorem dX4_begins_20 : decode cX4_begins 20 = .ok (.iconst 0, 1) := edX4_begins_0.2.2.2.2.2.2.2.2.2.2.2
theorem dX4_begins_21 : decode cX4_begins 21 = .ok (.ireturn, 1) := by decide +kernel
noncomputable def voX4_begins : List Cond := [.methodLink RX4 19 yX4_at, .instanceMethod yX4_at, .selects RX4 yX4_at yX4_at, .initialized RX4]
noncomputable def vsX4_begins : List Cond := .code yX4_begins cX4_begins 2 (some .boolean) :: (voX4_begins ++ (vsX4_at))
theorem zgX4_begins : zGd vsX4_begins := z_gdC rfl (z_gdA (z_gdO (by decide +kernel) : zGd voX4_begins) (zgX4_at))
theorem gw_X4_begins_X4_at : GoodIn vsX4_begins vsX4_at := z_gdI (fun _ h => List.mem_cons_of_mem _ (List.mem_append_right _ (h))) zgX4_at
set_option maxRecDepth 20000 in
theorem gv_X4_begins_X4_at_19 : GoodIn vsX4_begins (wsV RX4 19 RX4 yX4_at vsX4_at) := goodIn_app (goodIn_of _ (by decide +kernel)) gw_X4_begins_X4_at
set_option maxHeartbeats 4000000 in
set_option maxRecDepth 100000 in
theorem rX4_begins (l : Launch) (dC : Nat → ClassId) (dI : Nat → Nat → Nat) (cI cQ : ClassId) (ha0 ha0_0 : Nat) (fa0_0 : Nat → Int32) (hBfa0_0 : ∀ k, 0 ≤ (fa0_0 k).toInt ∧ (fa0_0 k).toInt ≤ 255) (ia0_1 : Int32) (hia0_1l : 0 ≤ ia0_1.toInt) (hia0_1h : ia0_1.toInt ≤ 80) (p1 : Int32) (hp1l : 0 ≤ p1.toInt) (hp1h : p1.toInt ≤ 80) : Met l yX4_begins vsX4_begins ({ frames := 1, cells := 0, slots := 0, locals := 21 }) (va_Pc [.ref ha0, .int p1] (zRB dC dI cI cQ [(ha0_0, .inl (cI, 80, .inl fa0_0)), (ha0, .inr (4, [.ref ha0_0, .int ia0_1]))])) (vp_Si (fun r => 0 ≤ r.toInt ∧ r.toInt ≤ 1 ∧ ((r.toInt = 1 ∧ zBg fa0_0 ia0_1.toInt p1.toInt) ∨ (r.toInt = 0 ∧ ¬ zBg fa0_0 ia0_1.toInt p1.toInt)))) 0 0 (fun _ => False) := by
  refine Met.ofW (cc := cX4_begins) (maxL := 2) (ret := (some .boolean)) (by decide) rfl ?_
  intro p e s m args below meth c s₁ B hml hv
  obtain ⟨rfl, hP, hZ⟩ := hv
  obtain ⟨hK, hAO, hN⟩ := id hZ
  have hx := B.exec
  have hb := B.bytes
  have hr := B.returns
  have hts := atoms_spec (ws := vsX4_begins) B.pre
  have hown : s.vm.findClass RX4 = some m.cls := findClass_of_methodNamed B.named
  have hlocks := B.notSynchronized
  have hl := lv_entry ([.ref ha0, .int p1]) (n := 2) (Nat.le_of_ble_eq_true rfl)
  rw [lg_entry_eq]
  generalize (lg_sl ([.ref ha0, .int p1]) ++ List.replicate (2 - (lg_sl ([.ref ha0, .int p1])).length) Slot.unset).toArray = ls at hl ⊢
  have hl : lv_has ls 2 [(0, .ref ha0), (1, .int p1)] := hl
  refine lv_iload_n hx hb dX4_begins_0 rfl (lv_at hl 1 rfl) ?_
  refine lv_if_eq (tgt := 16) hx hb dX4_begins_1 (by decide) (fun hc => ?_) (fun hc => ?_)
  · have q1 : p1.toInt = 0 := z_eq rfl (by decide) hc
    refine lv_iconst (v := 1) hx hb dX4_begins_16 (by decide) ?_
    refine lv_goto (tgt := 21) hx hb dX4_begins_17 (by decide) ?_
    exact W.zret (v := 1) hx hb hr (rfl) (fun t ht hW => ⟨1, rfl, ⟨by first | decide | omega, by first | decide | omega, (by exact Or.inl ⟨by decide, Or.inl (by omega)⟩)⟩, ht⟩) (fun _ h => absurd h List.not_mem_nil) dX4_begins_21
  · have q2 : p1.toInt ≠ 0 := z_ne rfl (by decide) hc
    refine lv_aload_n hx hb dX4_begins_4 rfl (lv_at hl 0 rfl) ?_
    refine lv_iload_n hx hb dX4_begins_5 rfl (lv_at hl 1 rfl) ?_
    refine lv_iconst (v := 1) hx hb dX4_begins_6 (by decide) ?_
    refine lv_isub hx hb dX4_begins_7 ?_
    refine lv_topi (fun y3 ey3 => ?_)
    have hy3 : y3.toInt = p1.toInt - 1 := by rw [ey3]; exact z_sub rfl (by decide) (by omega) (by omega)
    refine z_rdi (va_runV (As := [.int y3]) (rest := []) ⟨hx, hb, hml, hown, hts⟩ (rX4_at l dC dI cI cQ ha0 ha0_0 fa0_0 hBfa0_0 ia0_1 hia0_1l hia0_1h y3) (cwV 1 hts gv_X4_begins_X4_at_19 rfl rfl rfl (by decide +kernel) ⟨Nat.le_of_ble_eq_true rfl, Nat.le_of_ble_eq_true rfl⟩) ⟨z_blindR, va_recv hK hP (ci := 4) (q0 := 1) rfl rfl, z_preR hZ hP [0, 1] rfl⟩ rfl rfl hl.1 rfl (lv_room (Nat.le_of_ble_eq_true rfl)) dX4_begins_8 ⟨Nat.le_of_ble_eq_true rfl, Nat.le_of_ble_eq_true rfl⟩) (fun y4 hy4 => ?_)
    obtain ⟨hy4_0, hy4_1, hy4_2⟩ := hy4
    refine lv_bipush (v := 59) hx hb dX4_begins_11 (by decide) ?_
    refine lv_icmp_ne (tgt := 20) hx hb dX4_begins_13 (by decide) (fun hc => ?_) (fun hc => ?_)
    · have q5 : y4.toInt ≠ 59 := z_ne rfl (by decide) hc
      refine lv_iconst (v := 0) hx hb dX4_begins_20 (by decide) ?_
      exact W.zret (v := 0) hx hb hr (rfl) (fun t ht hW => ⟨0, rfl, ⟨by first | decide | omega, by first | decide | omega, (by first | exact Or.inl ⟨by decide, z_bg2 hy4_2 (by omega) (by omega)⟩ | exact Or.inr ⟨by decide, z_bg3 hy4_2 (by omega) (by omega) (by omega)⟩)⟩, ht⟩) (fun _ h => absurd h List.not_mem_nil) dX4_begins_21
    · have q6 : y4.toInt = 59 := z_eq rfl (by decide) hc
      refine lv_iconst (v := 1) hx hb dX4_begins_16 (by decide) ?_
      refine lv_goto (tgt := 21) hx hb dX4_begins_17 (by decide) ?_
      exact W.zret (v := 1) hx hb hr (rfl) (fun t ht hW => ⟨1, rfl, ⟨by first | decide | omega, by first | decide | omega, (by first | exact Or.inl ⟨by decide, z_bg2 hy4_2 (by omega) (by omega)⟩ | exact Or.inr ⟨by decide, z_bg3 hy4_2 (by omega) (by omega) (by omega)⟩)⟩, ht⟩) (fun _ h => absurd h List.not_mem_nil) dX4_begins_21
set_option maxRecDepth 20000 in
theorem edX4_wordsBehind_0 : decode cX4_wordsBehind 0 = .ok (.iconst 0, 1) ∧ decode cX4_wordsBehind 1 = .ok (.istore_n 2, 1) ∧ decode cX4_wordsBehind 2 = .ok (.iload_n 2, 1) ∧ decode cX4_wordsBehind 3 = .ok (.iconst 4, 1) ∧ decode cX4_wordsBehind 4 = .ok (.if_icmp .ge 19, 3) ∧ decode cX4_wordsBehind 7 = .ok (.aload_n 0, 1) ∧ decode cX4_wordsBehind 8 = .ok (.iload_n 1, 1) ∧ decode cX4_wordsBehind 9 = .ok (.iload_n 2, 1) ∧ decode cX4_wordsBehind 10 = .ok (.iadd, 1) ∧ decode cX4_wordsBehind 11 = .ok (.invokevirtual 39, 3) ∧ decode cX4_wordsBehind 14 = .ok (.ifCond .eq 9, 3) ∧ decode cX4_wordsBehind 17 = .ok (.iinc 2 1, 3) := by decide +kernel
theorem dX4_wordsBehind_0 : decode cX4_wordsBehind 0 = .ok (.iconst 0, 1) := edX4_wordsBehind_0.1
theorem dX4_wordsBehind_1 : decode cX4_wordsBehind 1 = .ok (.istore_n 2, 1) := edX4_wordsBehind_0.2.1
theorem dX4_wordsBehind_2 : decode cX4_wordsBehind 2 = .ok (.iload_n 2, 1) := edX4_wordsBehind_0.2.2.1
theorem dX4_wordsBehind_3 : decode cX4_wordsBehind 3 = .ok (.iconst 4, 1) := edX4_wordsBehind_0.2.2.2.1
theorem dX4_wordsBehind_4 : decode cX4_wordsBehind 4 = .ok (.if_icmp .ge 19, 3) := edX4_wordsBehind_0.2.2.2.2.1
theorem dX4_wordsBehind_7 : decode cX4_wordsBehind 7 = .ok (.aload_n 0, 1) := edX4_wordsBehind_0.2.2.2.2.2.1
theorem dX4_wordsBehind_8 : decode cX4_wordsBehind 8 = .ok (.iload_n 1, 1) := edX4_wordsBehind_0.2.2.2.2.2.2.1
theorem dX4_wordsBehind_9 : decode cX4_wordsBehind 9 = .ok (.iload_n 2, 1) := edX4_wordsBehind_0.2.2.2.2.2.2.2.1
theorem dX4_wordsBehind_10 : decode cX4_wordsBehind 10 = .ok (.iadd, 1) := edX4_wordsBehind_0.2.2.2.2.2.2.2.2.1
theorem dX4_wordsBehind_11 : decode cX4_wordsBehind 11 = .ok (.invokevirtual 39, 3) := edX4_wordsBehind_0.2.2.2.2.2.2.2.2.2.1
theorem dX4_wordsBehind_14 : decode cX4_wordsBehind 14 = .ok (.ifCond .eq 9, 3) := edX4_wordsBehind_0.2.2.2.2.2.2.2.2.2.2.1
theorem dX4_wordsBehind_17 : decode cX4_wordsBehind 17 = .ok (.iinc 2 1, 3) := edX4_wordsBehind_0.2.2.2.2.2.2.2.2.2.2.2
set_option maxRecDepth 20000 in
theorem edX4_wordsBehind_20 : decode cX4_wordsBehind 20 = .ok (.goto (-18), 3) ∧ decode cX4_wordsBehind 23 = .ok (.iload_n 2, 1) ∧ decode cX4_wordsBehind 24 = .ok (.ireturn, 1) := by decide +kernel
theorem dX4_wordsBehind_20 : decode cX4_wordsBehind 20 = .ok (.goto (-18), 3) := edX4_wordsBehind_20.1
theorem dX4_wordsBehind_23 : decode cX4_wordsBehind 23 = .ok (.iload_n 2, 1) := edX4_wordsBehind_20.2.1
theorem dX4_wordsBehind_24 : decode cX4_wordsBehind 24 = .ok (.ireturn, 1) := edX4_wordsBehind_20.2.2
noncomputable def voX4_wordsBehind : List Cond := [.methodLink RX4 39 yX4_isWord, .instanceMethod yX4_isWord, .selects RX4 yX4_isWord yX4_isWord, .initialized RX4]
noncomputable def vsX4_wordsBehind : List Cond := .code yX4_wordsBehind cX4_wordsBehind 3 (some .int) :: (voX4_wordsBehind ++ (vsX4_isWord))
theorem zgX4_wordsBehind : zGd vsX4_wordsBehind := z_gdC rfl (z_gdA (z_gdO (by decide +kernel) : zGd voX4_wordsBehind) (zgX4_isWord))
theorem gw_X4_wordsBehind_X4_isWord : GoodIn vsX4_wordsBehind vsX4_isWord := z_gdI (fun _ h => List.mem_cons_of_mem _ (List.mem_append_right _ (h))) zgX4_isWord
set_option maxRecDepth 20000 in
theorem gv_X4_wordsBehind_X4_isWord_39 : GoodIn vsX4_wordsBehind (wsV RX4 39 RX4 yX4_isWord vsX4_isWord) := goodIn_app (goodIn_of _ (by decide +kernel)) gw_X4_wordsBehind_X4_isWord
set_option maxHeartbeats 4000000 in
set_option maxRecDepth 100000 in
theorem rX4_wordsBehind (l : Launch) (dC : Nat → ClassId) (dI : Nat → Nat → Nat) (cI cQ : ClassId) (ha0 ha0_0 : Nat) (fa0_0 : Nat → Int32) (hBfa0_0 : ∀ k, 0 ≤ (fa0_0 k).toInt ∧ (fa0_0 k).toInt ≤ 255) (ia0_1 : Int32) (hia0_1l : 0 ≤ ia0_1.toInt) (hia0_1h : ia0_1.toInt ≤ 80) (p1 : Int32) (hp1l : 0 ≤ p1.toInt) (hp1h : p1.toInt ≤ 100) : Met l yX4_wordsBehind vsX4_wordsBehind ({ frames := 2, cells := 0, slots := 0, locals := 42 }) (va_Pc [.ref ha0, .int p1] (zRB dC dI cI cQ [(ha0_0, .inl (cI, 80, .inl fa0_0)), (ha0, .inr (4, [.ref ha0_0, .int ia0_1]))])) (vp_Si (fun r => 0 ≤ r.toInt ∧ r.toInt ≤ 4 ∧ (r.toInt = zWd fa0_0 ia0_1.toInt p1.toInt))) 0 0 (fun _ => False) := by
  refine Met.ofW (cc := cX4_wordsBehind) (maxL := 3) (ret := (some .int)) (by decide) rfl ?_
  intro p e s m args below meth c s₁ B hml hv
  obtain ⟨rfl, hP, hZ⟩ := hv
  obtain ⟨hK, hAO, hN⟩ := id hZ
  have hx := B.exec
  have hb := B.bytes
  have hr := B.returns
  have hts := atoms_spec (ws := vsX4_wordsBehind) B.pre
  have hown : s.vm.findClass RX4 = some m.cls := findClass_of_methodNamed B.named
  have hlocks := B.notSynchronized
  have hl := lv_entry ([.ref ha0, .int p1]) (n := 3) (Nat.le_of_ble_eq_true rfl)
  rw [lg_entry_eq]
  generalize (lg_sl ([.ref ha0, .int p1]) ++ List.replicate (3 - (lg_sl ([.ref ha0, .int p1])).length) Slot.unset).toArray = ls at hl ⊢
  have hl : lv_has ls 3 [(0, .ref ha0), (1, .int p1)] := hl
  refine lv_iconst (v := 0) hx hb dX4_wordsBehind_0 (by decide) ?_
  refine lv_istore_n (lv' := [(2, .int 0), (0, .ref ha0), (1, .int p1)]) hx hb dX4_wordsBehind_1 rfl hl (by decide) rfl (fun ls hl => ?_)
  have hL30 : ∀ (n : Nat) (v1 : Int32) (ls : Array Slot), 0 ≤ v1.toInt → v1.toInt ≤ 4 → (∀ j : Int, 0 ≤ j → j < (v1 : Int32).toInt → zWo fa0_0 ia0_1.toInt (p1.toInt + j)) → (4 - v1.toInt).toNat < n → lv_has ls 3 [(2, .int v1), (0, .ref ha0), (1, .int p1)] → W p l e (headSpec vsX4_wordsBehind ({ frames := 2, cells := 0, slots := 0, locals := 42 })).room s m ([.ref ha0, .int p1] : List Value).toArray below meth c s.heap [] 0 0 (MQ below (vp_Si (fun r => 0 ≤ r.toInt ∧ r.toInt ≤ 4 ∧ (r.toInt = zWd fa0_0 ia0_1.toInt p1.toInt))) ([.ref ha0, .int p1] : List Value).toArray s 0 0 (fun _ => False)) (F0 m 2 ls []) := by
    intro n
    induction n with
    | zero =>
      intro v1 ls hi31_0 hi31_1 hi31_x0 hi31_m hl
      exact absurd hi31_m (Nat.not_lt_zero _)
    | succ n ih =>
      intro v1 ls hi31_0 hi31_1 hi31_x0 hi31_m hl
      have ih32 := ih
      refine lv_iload_n hx hb dX4_wordsBehind_2 rfl (lv_at hl 0 rfl) ?_
      refine lv_iconst (v := 4) hx hb dX4_wordsBehind_3 (by decide) ?_
      refine lv_icmp_ge (tgt := 23) hx hb dX4_wordsBehind_4 (by decide) (fun hc => ?_) (fun hc => ?_)
      · have q33 : 4 ≤ v1.toInt := z_le (by decide) rfl hc
        refine lv_iload_n hx hb dX4_wordsBehind_23 rfl (lv_at hl 0 rfl) ?_
        exact W.iret (v := v1) hx hb hr (fun t ht hW => ⟨v1, rfl, ⟨by first | decide | omega, by first | decide | omega, (by exact z_wdR1 (by assumption) (by omega))⟩, ht⟩) (fun _ h => absurd h List.not_mem_nil) dX4_wordsBehind_24
      · have q34 : v1.toInt < 4 := z_nle (by decide) rfl hc
        refine lv_aload_n hx hb dX4_wordsBehind_7 rfl (lv_at hl 1 rfl) ?_
        refine lv_iload_n hx hb dX4_wordsBehind_8 rfl (lv_at hl 2 rfl) ?_
        refine lv_iload_n hx hb dX4_wordsBehind_9 rfl (lv_at hl 0 rfl) ?_
        refine lv_iadd hx hb dX4_wordsBehind_10 ?_
        refine lv_topi (fun y35 ey35 => ?_)
        have hy35 : y35.toInt = p1.toInt + v1.toInt := by rw [ey35]; exact z_add rfl rfl (by omega) (by omega)
        refine z_rdi (va_runV (As := [.int y35]) (rest := []) ⟨hx, hb, hml, hown, hts⟩ (rX4_isWord l dC dI cI cQ ha0 ha0_0 fa0_0 hBfa0_0 ia0_1 hia0_1l hia0_1h y35) (cwV 1 hts gv_X4_wordsBehind_X4_isWord_39 rfl rfl rfl (by decide +kernel) ⟨Nat.le_of_ble_eq_true rfl, Nat.le_of_ble_eq_true rfl⟩) ⟨z_blindR, va_recv hK hP (ci := 4) (q0 := 1) rfl rfl, z_preR hZ hP [0, 1] rfl⟩ rfl rfl hl.1 rfl (lv_room (Nat.le_of_ble_eq_true rfl)) dX4_wordsBehind_11 ⟨Nat.le_of_ble_eq_true rfl, Nat.le_of_ble_eq_true rfl⟩) (fun y36 hy36 => ?_)
        obtain ⟨hy36_0, hy36_1, hy36_2⟩ := hy36
        refine lv_if_eq (tgt := 23) hx hb dX4_wordsBehind_14 (by decide) (fun hc => ?_) (fun hc => ?_)
        · have q37 : y36.toInt = 0 := z_eq rfl (by decide) hc
          refine lv_iload_n hx hb dX4_wordsBehind_23 rfl (lv_at hl 0 rfl) ?_
          exact W.iret (v := v1) hx hb hr (fun t ht hW => ⟨v1, rfl, ⟨by first | decide | omega, by first | decide | omega, (by exact z_wdR2 (by assumption) hy36_2 (by omega) (by omega) (by omega) (by omega))⟩, ht⟩) (fun _ h => absurd h List.not_mem_nil) dX4_wordsBehind_24
        · have q38 : y36.toInt ≠ 0 := z_ne rfl (by decide) hc
          obtain ⟨y39, ey39⟩ : ∃ y : Int32, y = v1 + 1 := ⟨_, rfl⟩
          refine lv_iinc (v := y39) (lv' := [(2, .int y39), (0, .ref ha0), (1, .int p1)]) hx hb dX4_wordsBehind_17 hl (k := 0) rfl (by rw [ey39]; rfl) (by decide) rfl (fun ls hl => ?_)
          have hy39 : y39.toInt = v1.toInt + 1 := by rw [ey39]; exact z_add rfl (by decide) (by omega) (by omega)
          refine lv_goto (tgt := 2) hx hb dX4_wordsBehind_20 (by decide) ?_
          exact ih32 y39 ls (by first | decide | omega) (by first | decide | omega) (z_wdS (by assumption) hy36_2 (by omega) (by omega) (by omega)) (by omega) (lv_sub hl [0, 1, 2] rfl)
  exact hL30 ((4 - (0 : Int32).toInt).toNat + 1) 0 ls (by decide) (by decide) (fun j h0 h1 => by have e0 : (0 : Int32).toInt = 0 := (by decide); omega) (by omega) hl
set_option maxRecDepth 20000 in
theorem edX4_isPlayer_0 : decode cX4_isPlayer 0 = .ok (.iload_n 2, 1) ∧ decode cX4_isPlayer 1 = .ok (.iconst 5, 1) ∧ decode cX4_isPlayer 2 = .ok (.if_icmp .ge 29, 3) ∧ decode cX4_isPlayer 5 = .ok (.aload_n 0, 1) ∧ decode cX4_isPlayer 6 = .ok (.iload_n 1, 1) ∧ decode cX4_isPlayer 7 = .ok (.iconst 1, 1) ∧ decode cX4_isPlayer 8 = .ok (.iadd, 1) ∧ decode cX4_isPlayer 9 = .ok (.invokevirtual 61, 3) ∧ decode cX4_isPlayer 12 = .ok (.iconst 5, 1) ∧ decode cX4_isPlayer 13 = .ok (.if_icmp .gt 18, 3) ∧ decode cX4_isPlayer 16 = .ok (.aload_n 0, 1) ∧ decode cX4_isPlayer 17 = .ok (.iload_n 1, 1) := by decide +kernel
theorem dX4_isPlayer_0 : decode cX4_isPlayer 0 = .ok (.iload_n 2, 1) := edX4_isPlayer_0.1
theorem dX4_isPlayer_1 : decode cX4_isPlayer 1 = .ok (.iconst 5, 1) := edX4_isPlayer_0.2.1
theorem dX4_isPlayer_2 : decode cX4_isPlayer 2 = .ok (.if_icmp .ge 29, 3) := edX4_isPlayer_0.2.2.1
theorem dX4_isPlayer_5 : decode cX4_isPlayer 5 = .ok (.aload_n 0, 1) := edX4_isPlayer_0.2.2.2.1
theorem dX4_isPlayer_6 : decode cX4_isPlayer 6 = .ok (.iload_n 1, 1) := edX4_isPlayer_0.2.2.2.2.1
theorem dX4_isPlayer_7 : decode cX4_isPlayer 7 = .ok (.iconst 1, 1) := edX4_isPlayer_0.2.2.2.2.2.1
theorem dX4_isPlayer_8 : decode cX4_isPlayer 8 = .ok (.iadd, 1) := edX4_isPlayer_0.2.2.2.2.2.2.1
theorem dX4_isPlayer_9 : decode cX4_isPlayer 9 = .ok (.invokevirtual 61, 3) := edX4_isPlayer_0.2.2.2.2.2.2.2.1
theorem dX4_isPlayer_12 : decode cX4_isPlayer 12 = .ok (.iconst 5, 1) := edX4_isPlayer_0.2.2.2.2.2.2.2.2.1
theorem dX4_isPlayer_13 : decode cX4_isPlayer 13 = .ok (.if_icmp .gt 18, 3) := edX4_isPlayer_0.2.2.2.2.2.2.2.2.2.1
theorem dX4_isPlayer_16 : decode cX4_isPlayer 16 = .ok (.aload_n 0, 1) := edX4_isPlayer_0.2.2.2.2.2.2.2.2.2.2.1
theorem dX4_isPlayer_17 : decode cX4_isPlayer 17 = .ok (.iload_n 1, 1) := edX4_isPlayer_0.2.2.2.2.2.2.2.2.2.2.2
set_option maxRecDepth 20000 in
theorem edX4_isPlayer_18 : decode cX4_isPlayer 18 = .ok (.iconst 2, 1) ∧ decode cX4_isPlayer 19 = .ok (.iadd, 1) ∧ decode cX4_isPlayer 20 = .ok (.invokevirtual 61, 3) ∧ decode cX4_isPlayer 23 = .ok (.iconst 1, 1) ∧ decode cX4_isPlayer 24 = .ok (.if_icmp .lt 7, 3) ∧ decode cX4_isPlayer 27 = .ok (.iconst 1, 1) ∧ decode cX4_isPlayer 28 = .ok (.goto 4, 3) ∧ decode cX4_isPlayer 31 = .ok (.iconst 0, 1) ∧ decode cX4_isPlayer 32 = .ok (.ireturn, 1) := by decide +kernel
theorem dX4_isPlayer_18 : decode cX4_isPlayer 18 = .ok (.iconst 2, 1) := edX4_isPlayer_18.1
theorem dX4_isPlayer_19 : decode cX4_isPlayer 19 = .ok (.iadd, 1) := edX4_isPlayer_18.2.1
theorem dX4_isPlayer_20 : decode cX4_isPlayer 20 = .ok (.invokevirtual 61, 3) := edX4_isPlayer_18.2.2.1
theorem dX4_isPlayer_23 : decode cX4_isPlayer 23 = .ok (.iconst 1, 1) := edX4_isPlayer_18.2.2.2.1
theorem dX4_isPlayer_24 : decode cX4_isPlayer 24 = .ok (.if_icmp .lt 7, 3) := edX4_isPlayer_18.2.2.2.2.1
theorem dX4_isPlayer_27 : decode cX4_isPlayer 27 = .ok (.iconst 1, 1) := edX4_isPlayer_18.2.2.2.2.2.1
theorem dX4_isPlayer_28 : decode cX4_isPlayer 28 = .ok (.goto 4, 3) := edX4_isPlayer_18.2.2.2.2.2.2.1
theorem dX4_isPlayer_31 : decode cX4_isPlayer 31 = .ok (.iconst 0, 1) := edX4_isPlayer_18.2.2.2.2.2.2.2.1
theorem dX4_isPlayer_32 : decode cX4_isPlayer 32 = .ok (.ireturn, 1) := edX4_isPlayer_18.2.2.2.2.2.2.2.2
noncomputable def voX4_isPlayer : List Cond := [.methodLink RX4 61 yX4_digit, .instanceMethod yX4_digit, .selects RX4 yX4_digit yX4_digit, .initialized RX4]
noncomputable def vsX4_isPlayer : List Cond := .code yX4_isPlayer cX4_isPlayer 3 (some .boolean) :: (voX4_isPlayer ++ (vsX4_digit))
theorem zgX4_isPlayer : zGd vsX4_isPlayer := z_gdC rfl (z_gdA (z_gdO (by decide +kernel) : zGd voX4_isPlayer) (zgX4_digit))
theorem gw_X4_isPlayer_X4_digit : GoodIn vsX4_isPlayer vsX4_digit := z_gdI (fun _ h => List.mem_cons_of_mem _ (List.mem_append_right _ (h))) zgX4_digit
set_option maxRecDepth 20000 in
theorem gv_X4_isPlayer_X4_digit_61 : GoodIn vsX4_isPlayer (wsV RX4 61 RX4 yX4_digit vsX4_digit) := goodIn_app (goodIn_of _ (by decide +kernel)) gw_X4_isPlayer_X4_digit
set_option maxHeartbeats 4000000 in
set_option maxRecDepth 100000 in
theorem rX4_isPlayer (l : Launch) (dC : Nat → ClassId) (dI : Nat → Nat → Nat) (cI cQ : ClassId) (ha0 ha0_0 : Nat) (fa0_0 : Nat → Int32) (hBfa0_0 : ∀ k, 0 ≤ (fa0_0 k).toInt ∧ (fa0_0 k).toInt ≤ 255) (ia0_1 : Int32) (hia0_1l : 0 ≤ ia0_1.toInt) (hia0_1h : ia0_1.toInt ≤ 80) (p1 : Int32) (hp1l : 0 ≤ p1.toInt) (hp1h : p1.toInt ≤ 80) (p2 : Int32) : Met l yX4_isPlayer vsX4_isPlayer ({ frames := 2, cells := 0, slots := 0, locals := 42 }) (va_Pc [.ref ha0, .int p1, .int p2] (zRB dC dI cI cQ [(ha0_0, .inl (cI, 80, .inl fa0_0)), (ha0, .inr (4, [.ref ha0_0, .int ia0_1]))])) (vp_Si (fun r => 0 ≤ r.toInt ∧ r.toInt ≤ 1 ∧ ((r.toInt = 1 ∧ zFtP fa0_0 ia0_1.toInt p1.toInt p2.toInt) ∨ (r.toInt = 0 ∧ ¬ zFtP fa0_0 ia0_1.toInt p1.toInt p2.toInt)))) 0 0 (fun _ => False) := by
  refine Met.ofW (cc := cX4_isPlayer) (maxL := 3) (ret := (some .boolean)) (by decide) rfl ?_
  intro p e s m args below meth c s₁ B hml hv
  obtain ⟨rfl, hP, hZ⟩ := hv
  obtain ⟨hK, hAO, hN⟩ := id hZ
  have hx := B.exec
  have hb := B.bytes
  have hr := B.returns
  have hts := atoms_spec (ws := vsX4_isPlayer) B.pre
  have hown : s.vm.findClass RX4 = some m.cls := findClass_of_methodNamed B.named
  have hlocks := B.notSynchronized
  have hp2l := z_lo p2
  have hp2h := z_hi p2
  have hl := lv_entry ([.ref ha0, .int p1, .int p2]) (n := 3) (Nat.le_of_ble_eq_true rfl)
  rw [lg_entry_eq]
  generalize (lg_sl ([.ref ha0, .int p1, .int p2]) ++ List.replicate (3 - (lg_sl ([.ref ha0, .int p1, .int p2])).length) Slot.unset).toArray = ls at hl ⊢
  have hl : lv_has ls 3 [(0, .ref ha0), (1, .int p1), (2, .int p2)] := hl
  refine lv_iload_n hx hb dX4_isPlayer_0 rfl (lv_at hl 2 rfl) ?_
  refine lv_iconst (v := 5) hx hb dX4_isPlayer_1 (by decide) ?_
  refine lv_icmp_ge (tgt := 31) hx hb dX4_isPlayer_2 (by decide) (fun hc => ?_) (fun hc => ?_)
  · have q1 : 5 ≤ p2.toInt := z_le (by decide) rfl hc
    refine lv_iconst (v := 0) hx hb dX4_isPlayer_31 (by decide) ?_
    exact W.zret (v := 0) hx hb hr (rfl) (fun t ht hW => ⟨0, rfl, ⟨by first | decide | omega, by first | decide | omega, (by exact Or.inr ⟨by decide, fun f => by have f1 := f.1; have f2 := f.2.1; have f3 := f.2.2; omega⟩)⟩, ht⟩) (fun _ h => absurd h List.not_mem_nil) dX4_isPlayer_32
  · have q2 : p2.toInt < 5 := z_nle (by decide) rfl hc
    refine lv_aload_n hx hb dX4_isPlayer_5 rfl (lv_at hl 0 rfl) ?_
    refine lv_iload_n hx hb dX4_isPlayer_6 rfl (lv_at hl 1 rfl) ?_
    refine lv_iconst (v := 1) hx hb dX4_isPlayer_7 (by decide) ?_
    refine lv_iadd hx hb dX4_isPlayer_8 ?_
    refine lv_topi (fun y3 ey3 => ?_)
    have hy3 : y3.toInt = p1.toInt + 1 := by rw [ey3]; exact z_add rfl (by decide) (by omega) (by omega)
    refine z_rdi (va_runV (As := [.int y3]) (rest := []) ⟨hx, hb, hml, hown, hts⟩ (rX4_digit l dC dI cI cQ ha0 ha0_0 fa0_0 hBfa0_0 ia0_1 hia0_1l hia0_1h y3) (cwV 1 hts gv_X4_isPlayer_X4_digit_61 rfl rfl rfl (by decide +kernel) ⟨Nat.le_of_ble_eq_true rfl, Nat.le_of_ble_eq_true rfl⟩) ⟨z_blindR, va_recv hK hP (ci := 4) (q0 := 1) rfl rfl, z_preR hZ hP [0, 1] rfl⟩ rfl rfl hl.1 rfl (lv_room (Nat.le_of_ble_eq_true rfl)) dX4_isPlayer_9 ⟨Nat.le_of_ble_eq_true rfl, Nat.le_of_ble_eq_true rfl⟩) (fun y4 hy4 => ?_)
    obtain ⟨hy4_0, hy4_1, hy4_2⟩ := hy4
    refine lv_iconst (v := 5) hx hb dX4_isPlayer_12 (by decide) ?_
    refine lv_icmp_gt (tgt := 31) hx hb dX4_isPlayer_13 (by decide) (fun hc => ?_) (fun hc => ?_)
    · have q5 : 5 < y4.toInt := z_lt (by decide) rfl hc
      refine lv_iconst (v := 0) hx hb dX4_isPlayer_31 (by decide) ?_
      exact W.zret (v := 0) hx hb hr (rfl) (fun t ht hW => ⟨0, rfl, ⟨by first | decide | omega, by first | decide | omega, (by have q1 := z_rwA (k := p1.toInt + 1) hy4_2 (by omega); exact Or.inr ⟨by decide, fun f => by have f1 := f.1; have f2 := f.2.1; have f3 := f.2.2; omega⟩)⟩, ht⟩) (fun _ h => absurd h List.not_mem_nil) dX4_isPlayer_32
    · have q6 : y4.toInt ≤ 5 := z_nlt (by decide) rfl hc
      refine lv_aload_n hx hb dX4_isPlayer_16 rfl (lv_at hl 0 rfl) ?_
      refine lv_iload_n hx hb dX4_isPlayer_17 rfl (lv_at hl 1 rfl) ?_
      refine lv_iconst (v := 2) hx hb dX4_isPlayer_18 (by decide) ?_
      refine lv_iadd hx hb dX4_isPlayer_19 ?_
      refine lv_topi (fun y7 ey7 => ?_)
      have hy7 : y7.toInt = p1.toInt + 2 := by rw [ey7]; exact z_add rfl (by decide) (by omega) (by omega)
      refine z_rdi (va_runV (As := [.int y7]) (rest := []) ⟨hx, hb, hml, hown, hts⟩ (rX4_digit l dC dI cI cQ ha0 ha0_0 fa0_0 hBfa0_0 ia0_1 hia0_1l hia0_1h y7) (cwV 1 hts gv_X4_isPlayer_X4_digit_61 rfl rfl rfl (by decide +kernel) ⟨Nat.le_of_ble_eq_true rfl, Nat.le_of_ble_eq_true rfl⟩) ⟨z_blindR, va_recv hK hP (ci := 4) (q0 := 1) rfl rfl, z_preR hZ hP [0, 1] rfl⟩ rfl rfl hl.1 rfl (lv_room (Nat.le_of_ble_eq_true rfl)) dX4_isPlayer_20 ⟨Nat.le_of_ble_eq_true rfl, Nat.le_of_ble_eq_true rfl⟩) (fun y8 hy8 => ?_)
      obtain ⟨hy8_0, hy8_1, hy8_2⟩ := hy8
      refine lv_iconst (v := 1) hx hb dX4_isPlayer_23 (by decide) ?_
      refine lv_icmp_lt (tgt := 31) hx hb dX4_isPlayer_24 (by decide) (fun hc => ?_) (fun hc => ?_)
      · have q9 : y8.toInt < 1 := z_lt rfl (by decide) hc
        refine lv_iconst (v := 0) hx hb dX4_isPlayer_31 (by decide) ?_
        exact W.zret (v := 0) hx hb hr (rfl) (fun t ht hW => ⟨0, rfl, ⟨by first | decide | omega, by first | decide | omega, (by have q1 := z_rwA (k := p1.toInt + 1) hy4_2 (by omega); have q2 := z_rwA (k := p1.toInt + 2) hy8_2 (by omega); exact Or.inr ⟨by decide, fun f => by have f1 := f.1; have f2 := f.2.1; have f3 := f.2.2; omega⟩)⟩, ht⟩) (fun _ h => absurd h List.not_mem_nil) dX4_isPlayer_32
      · have q10 : 1 ≤ y8.toInt := z_nlt rfl (by decide) hc
        refine lv_iconst (v := 1) hx hb dX4_isPlayer_27 (by decide) ?_
        refine lv_goto (tgt := 32) hx hb dX4_isPlayer_28 (by decide) ?_
        exact W.zret (v := 1) hx hb hr (rfl) (fun t ht hW => ⟨1, rfl, ⟨by first | decide | omega, by first | decide | omega, (by have q1 := z_rwA (k := p1.toInt + 1) hy4_2 (by omega); have q2 := z_rwA (k := p1.toInt + 2) hy8_2 (by omega); exact Or.inl ⟨by decide, by omega, by omega, by omega⟩)⟩, ht⟩) (fun _ h => absurd h List.not_mem_nil) dX4_isPlayer_32
set_option maxRecDepth 20000 in
theorem edX4_isLine_0 : decode cX4_isLine 0 = .ok (.aload_n 0, 1) ∧ decode cX4_isLine 1 = .ok (.iload_n 1, 1) ∧ decode cX4_isLine 2 = .ok (.iconst 2, 1) ∧ decode cX4_isLine 3 = .ok (.iadd, 1) ∧ decode cX4_isLine 4 = .ok (.aload_n 0, 1) ∧ decode cX4_isLine 5 = .ok (.iload_n 1, 1) ∧ decode cX4_isLine 6 = .ok (.iconst 2, 1) ∧ decode cX4_isLine 7 = .ok (.iadd, 1) ∧ decode cX4_isLine 8 = .ok (.invokevirtual 64, 3) ∧ decode cX4_isLine 11 = .ok (.iadd, 1) ∧ decode cX4_isLine 12 = .ok (.invokevirtual 61, 3) ∧ decode cX4_isLine 15 = .ok (.istore 4, 2) := by decide +kernel
theorem dX4_isLine_0 : decode cX4_isLine 0 = .ok (.aload_n 0, 1) := edX4_isLine_0.1
theorem dX4_isLine_1 : decode cX4_isLine 1 = .ok (.iload_n 1, 1) := edX4_isLine_0.2.1
theorem dX4_isLine_2 : decode cX4_isLine 2 = .ok (.iconst 2, 1) := edX4_isLine_0.2.2.1
theorem dX4_isLine_3 : decode cX4_isLine 3 = .ok (.iadd, 1) := edX4_isLine_0.2.2.2.1
theorem dX4_isLine_4 : decode cX4_isLine 4 = .ok (.aload_n 0, 1) := edX4_isLine_0.2.2.2.2.1
theorem dX4_isLine_5 : decode cX4_isLine 5 = .ok (.iload_n 1, 1) := edX4_isLine_0.2.2.2.2.2.1
theorem dX4_isLine_6 : decode cX4_isLine 6 = .ok (.iconst 2, 1) := edX4_isLine_0.2.2.2.2.2.2.1
theorem dX4_isLine_7 : decode cX4_isLine 7 = .ok (.iadd, 1) := edX4_isLine_0.2.2.2.2.2.2.2.1
theorem dX4_isLine_8 : decode cX4_isLine 8 = .ok (.invokevirtual 64, 3) := edX4_isLine_0.2.2.2.2.2.2.2.2.1
theorem dX4_isLine_11 : decode cX4_isLine 11 = .ok (.iadd, 1) := edX4_isLine_0.2.2.2.2.2.2.2.2.2.1
theorem dX4_isLine_12 : decode cX4_isLine 12 = .ok (.invokevirtual 61, 3) := edX4_isLine_0.2.2.2.2.2.2.2.2.2.2.1
theorem dX4_isLine_15 : decode cX4_isLine 15 = .ok (.istore 4, 2) := edX4_isLine_0.2.2.2.2.2.2.2.2.2.2.2
set_option maxRecDepth 20000 in
theorem edX4_isLine_17 : decode cX4_isLine 17 = .ok (.iload_n 3, 1) ∧ decode cX4_isLine 18 = .ok (.bipush 12, 2) ∧ decode cX4_isLine 20 = .ok (.if_icmp .ge 30, 3) ∧ decode cX4_isLine 23 = .ok (.aload_n 0, 1) ∧ decode cX4_isLine 24 = .ok (.iload_n 1, 1) ∧ decode cX4_isLine 25 = .ok (.iconst 1, 1) ∧ decode cX4_isLine 26 = .ok (.iadd, 1) ∧ decode cX4_isLine 27 = .ok (.invokevirtual 61, 3) ∧ decode cX4_isLine 30 = .ok (.iload_n 2, 1) ∧ decode cX4_isLine 31 = .ok (.if_icmp .ge 19, 3) ∧ decode cX4_isLine 34 = .ok (.iload 4, 2) ∧ decode cX4_isLine 36 = .ok (.iconst 1, 1) := by decide +kernel
theorem dX4_isLine_17 : decode cX4_isLine 17 = .ok (.iload_n 3, 1) := edX4_isLine_17.1
theorem dX4_isLine_18 : decode cX4_isLine 18 = .ok (.bipush 12, 2) := edX4_isLine_17.2.1
theorem dX4_isLine_20 : decode cX4_isLine 20 = .ok (.if_icmp .ge 30, 3) := edX4_isLine_17.2.2.1
theorem dX4_isLine_23 : decode cX4_isLine 23 = .ok (.aload_n 0, 1) := edX4_isLine_17.2.2.2.1
theorem dX4_isLine_24 : decode cX4_isLine 24 = .ok (.iload_n 1, 1) := edX4_isLine_17.2.2.2.2.1
theorem dX4_isLine_25 : decode cX4_isLine 25 = .ok (.iconst 1, 1) := edX4_isLine_17.2.2.2.2.2.1
theorem dX4_isLine_26 : decode cX4_isLine 26 = .ok (.iadd, 1) := edX4_isLine_17.2.2.2.2.2.2.1
theorem dX4_isLine_27 : decode cX4_isLine 27 = .ok (.invokevirtual 61, 3) := edX4_isLine_17.2.2.2.2.2.2.2.1
theorem dX4_isLine_30 : decode cX4_isLine 30 = .ok (.iload_n 2, 1) := edX4_isLine_17.2.2.2.2.2.2.2.2.1
theorem dX4_isLine_31 : decode cX4_isLine 31 = .ok (.if_icmp .ge 19, 3) := edX4_isLine_17.2.2.2.2.2.2.2.2.2.1
theorem dX4_isLine_34 : decode cX4_isLine 34 = .ok (.iload 4, 2) := edX4_isLine_17.2.2.2.2.2.2.2.2.2.2.1
theorem dX4_isLine_36 : decode cX4_isLine 36 = .ok (.iconst 1, 1) := edX4_isLine_17.2.2.2.2.2.2.2.2.2.2.2
set_option maxRecDepth 20000 in
theorem edX4_isLine_37 : decode cX4_isLine 37 = .ok (.if_icmp .lt 13, 3) ∧ decode cX4_isLine 40 = .ok (.iload 4, 2) ∧ decode cX4_isLine 42 = .ok (.iconst 4, 1) ∧ decode cX4_isLine 43 = .ok (.if_icmp .gt 7, 3) ∧ decode cX4_isLine 46 = .ok (.iconst 1, 1) ∧ decode cX4_isLine 47 = .ok (.goto 4, 3) ∧ decode cX4_isLine 50 = .ok (.iconst 0, 1) ∧ decode cX4_isLine 51 = .ok (.ireturn, 1) := by decide +kernel
theorem dX4_isLine_37 : decode cX4_isLine 37 = .ok (.if_icmp .lt 13, 3) := edX4_isLine_37.1
theorem dX4_isLine_40 : decode cX4_isLine 40 = .ok (.iload 4, 2) := edX4_isLine_37.2.1
theorem dX4_isLine_42 : decode cX4_isLine 42 = .ok (.iconst 4, 1) := edX4_isLine_37.2.2.1
theorem dX4_isLine_43 : decode cX4_isLine 43 = .ok (.if_icmp .gt 7, 3) := edX4_isLine_37.2.2.2.1
theorem dX4_isLine_46 : decode cX4_isLine 46 = .ok (.iconst 1, 1) := edX4_isLine_37.2.2.2.2.1
theorem dX4_isLine_47 : decode cX4_isLine 47 = .ok (.goto 4, 3) := edX4_isLine_37.2.2.2.2.2.1
theorem dX4_isLine_50 : decode cX4_isLine 50 = .ok (.iconst 0, 1) := edX4_isLine_37.2.2.2.2.2.2.1
theorem dX4_isLine_51 : decode cX4_isLine 51 = .ok (.ireturn, 1) := edX4_isLine_37.2.2.2.2.2.2.2
noncomputable def voX4_isLine : List Cond := [.methodLink RX4 64 yX4_wordsBehind, .instanceMethod yX4_wordsBehind, .selects RX4 yX4_wordsBehind yX4_wordsBehind, .initialized RX4, .methodLink RX4 61 yX4_digit, .instanceMethod yX4_digit, .selects RX4 yX4_digit yX4_digit]
noncomputable def vsX4_isLine : List Cond := .code yX4_isLine cX4_isLine 5 (some .boolean) :: (voX4_isLine ++ (vsX4_wordsBehind ++ (vsX4_digit)))
theorem zgX4_isLine : zGd vsX4_isLine := z_gdC rfl (z_gdA (z_gdO (by decide +kernel) : zGd voX4_isLine) (z_gdA zgX4_wordsBehind (zgX4_digit)))
theorem gw_X4_isLine_X4_wordsBehind : GoodIn vsX4_isLine vsX4_wordsBehind := z_gdI (fun _ h => List.mem_cons_of_mem _ (List.mem_append_right _ (List.mem_append_left _ h))) zgX4_wordsBehind
set_option maxRecDepth 20000 in
theorem gv_X4_isLine_X4_wordsBehind_64 : GoodIn vsX4_isLine (wsV RX4 64 RX4 yX4_wordsBehind vsX4_wordsBehind) := goodIn_app (goodIn_of _ (by decide +kernel)) gw_X4_isLine_X4_wordsBehind
theorem gw_X4_isLine_X4_digit : GoodIn vsX4_isLine vsX4_digit := z_gdI (fun _ h => List.mem_cons_of_mem _ (List.mem_append_right _ (List.mem_append_right _ (h)))) zgX4_digit
set_option maxRecDepth 20000 in
theorem gv_X4_isLine_X4_digit_61 : GoodIn vsX4_isLine (wsV RX4 61 RX4 yX4_digit vsX4_digit) := goodIn_app (goodIn_of _ (by decide +kernel)) gw_X4_isLine_X4_digit
set_option maxHeartbeats 4000000 in
set_option maxRecDepth 100000 in
theorem rX4_isLine (l : Launch) (dC : Nat → ClassId) (dI : Nat → Nat → Nat) (cI cQ : ClassId) (ha0 ha0_0 : Nat) (fa0_0 : Nat → Int32) (hBfa0_0 : ∀ k, 0 ≤ (fa0_0 k).toInt ∧ (fa0_0 k).toInt ≤ 255) (ia0_1 : Int32) (hia0_1l : 0 ≤ ia0_1.toInt) (hia0_1h : ia0_1.toInt ≤ 80) (p1 : Int32) (hp1l : 0 ≤ p1.toInt) (hp1h : p1.toInt ≤ 80) (p2 : Int32) (p3 : Int32) : Met l yX4_isLine vsX4_isLine ({ frames := 3, cells := 0, slots := 0, locals := 64 }) (va_Pc [.ref ha0, .int p1, .int p2, .int p3] (zRB dC dI cI cQ [(ha0_0, .inl (cI, 80, .inl fa0_0)), (ha0, .inr (4, [.ref ha0_0, .int ia0_1]))])) (vp_Si (fun r => 0 ≤ r.toInt ∧ r.toInt ≤ 1 ∧ ((r.toInt = 1 ∧ zFtL fa0_0 ia0_1.toInt p1.toInt p2.toInt p3.toInt) ∨ (r.toInt = 0 ∧ ¬ zFtL fa0_0 ia0_1.toInt p1.toInt p2.toInt p3.toInt)))) 0 0 (fun _ => False) := by
  refine Met.ofW (cc := cX4_isLine) (maxL := 5) (ret := (some .boolean)) (by decide) rfl ?_
  intro p e s m args below meth c s₁ B hml hv
  obtain ⟨rfl, hP, hZ⟩ := hv
  obtain ⟨hK, hAO, hN⟩ := id hZ
  have hx := B.exec
  have hb := B.bytes
  have hr := B.returns
  have hts := atoms_spec (ws := vsX4_isLine) B.pre
  have hown : s.vm.findClass RX4 = some m.cls := findClass_of_methodNamed B.named
  have hlocks := B.notSynchronized
  have hp2l := z_lo p2
  have hp2h := z_hi p2
  have hp3l := z_lo p3
  have hp3h := z_hi p3
  have hl := lv_entry ([.ref ha0, .int p1, .int p2, .int p3]) (n := 5) (Nat.le_of_ble_eq_true rfl)
  rw [lg_entry_eq]
  generalize (lg_sl ([.ref ha0, .int p1, .int p2, .int p3]) ++ List.replicate (5 - (lg_sl ([.ref ha0, .int p1, .int p2, .int p3])).length) Slot.unset).toArray = ls at hl ⊢
  have hl : lv_has ls 5 [(0, .ref ha0), (1, .int p1), (2, .int p2), (3, .int p3)] := hl
  refine lv_aload_n hx hb dX4_isLine_0 rfl (lv_at hl 0 rfl) ?_
  refine lv_iload_n hx hb dX4_isLine_1 rfl (lv_at hl 1 rfl) ?_
  refine lv_iconst (v := 2) hx hb dX4_isLine_2 (by decide) ?_
  refine lv_iadd hx hb dX4_isLine_3 ?_
  refine lv_topi (fun y1 ey1 => ?_)
  have hy1 : y1.toInt = p1.toInt + 2 := by rw [ey1]; exact z_add rfl (by decide) (by omega) (by omega)
  refine lv_aload_n hx hb dX4_isLine_4 rfl (lv_at hl 0 rfl) ?_
  refine lv_iload_n hx hb dX4_isLine_5 rfl (lv_at hl 1 rfl) ?_
  refine lv_iconst (v := 2) hx hb dX4_isLine_6 (by decide) ?_
  refine lv_iadd hx hb dX4_isLine_7 ?_
  refine lv_topi (fun y2 ey2 => ?_)
  obtain rfl : y1 = y2 := ey1.trans ey2.symm
  refine z_rdi (va_runV (As := [.int y1]) (rest := [.int y1, .ref ha0]) ⟨hx, hb, hml, hown, hts⟩ (rX4_wordsBehind l dC dI cI cQ ha0 ha0_0 fa0_0 hBfa0_0 ia0_1 hia0_1l hia0_1h y1 (by first | decide | omega) (by first | decide | omega)) (cwV 1 hts gv_X4_isLine_X4_wordsBehind_64 rfl rfl rfl (by decide +kernel) ⟨Nat.le_of_ble_eq_true rfl, Nat.le_of_ble_eq_true rfl⟩) ⟨z_blindR, va_recv hK hP (ci := 4) (q0 := 1) rfl rfl, z_preR hZ hP [0, 1] rfl⟩ rfl rfl hl.1 rfl (lv_room (Nat.le_of_ble_eq_true rfl)) dX4_isLine_8 ⟨Nat.le_of_ble_eq_true rfl, Nat.le_of_ble_eq_true rfl⟩) (fun y3 hy3 => ?_)
  obtain ⟨hy3_0, hy3_1, hy3_2⟩ := hy3
  refine lv_iadd hx hb dX4_isLine_11 ?_
  refine lv_topi (fun y4 ey4 => ?_)
  have hy4 : y4.toInt = y1.toInt + y3.toInt := by rw [ey4]; exact z_add rfl rfl (by omega) (by omega)
  refine z_rdi (va_runV (As := [.int y4]) (rest := []) ⟨hx, hb, hml, hown, hts⟩ (rX4_digit l dC dI cI cQ ha0 ha0_0 fa0_0 hBfa0_0 ia0_1 hia0_1l hia0_1h y4) (cwV 1 hts gv_X4_isLine_X4_digit_61 rfl rfl rfl (by decide +kernel) ⟨Nat.le_of_ble_eq_true rfl, Nat.le_of_ble_eq_true rfl⟩) ⟨z_blindR, va_recv hK hP (ci := 4) (q0 := 1) rfl rfl, z_preR hZ hP [0, 1] rfl⟩ rfl rfl hl.1 rfl (lv_room (Nat.le_of_ble_eq_true rfl)) dX4_isLine_12 ⟨Nat.le_of_ble_eq_true rfl, Nat.le_of_ble_eq_true rfl⟩) (fun y5 hy5 => ?_)
  obtain ⟨hy5_0, hy5_1, hy5_2⟩ := hy5
  refine lv_istore (lv' := [(4, .int y5), (0, .ref ha0), (1, .int p1), (2, .int p2), (3, .int p3)]) hx hb dX4_isLine_15 hl (by decide) rfl (fun ls hl => ?_)
  refine lv_iload_n hx hb dX4_isLine_17 rfl (lv_at hl 4 rfl) ?_
  refine lv_bipush (v := 12) hx hb dX4_isLine_18 (by decide) ?_
  refine lv_icmp_ge (tgt := 50) hx hb dX4_isLine_20 (by decide) (fun hc => ?_) (fun hc => ?_)
  · have q6 : 12 ≤ p3.toInt := z_le (by decide) rfl hc
    refine lv_iconst (v := 0) hx hb dX4_isLine_50 (by decide) ?_
    exact W.zret (v := 0) hx hb hr (rfl) (fun t ht hW => ⟨0, rfl, ⟨by first | decide | omega, by first | decide | omega, (by have q1 := z_ilC (a := p1.toInt) hy3_2 (by omega) hy5_2 (by omega); exact Or.inr ⟨by decide, fun f => by have f1 := f.1; have f2 := f.2.1; have f3 := f.2.2.1; have f4 := f.2.2.2; omega⟩)⟩, ht⟩) (fun _ h => absurd h List.not_mem_nil) dX4_isLine_51
  · have q7 : p3.toInt < 12 := z_nle (by decide) rfl hc
    refine lv_aload_n hx hb dX4_isLine_23 rfl (lv_at hl 1 rfl) ?_
    refine lv_iload_n hx hb dX4_isLine_24 rfl (lv_at hl 2 rfl) ?_
    refine lv_iconst (v := 1) hx hb dX4_isLine_25 (by decide) ?_
    refine lv_iadd hx hb dX4_isLine_26 ?_
    refine lv_topi (fun y8 ey8 => ?_)
    have hy8 : y8.toInt = p1.toInt + 1 := by rw [ey8]; exact z_add rfl (by decide) (by omega) (by omega)
    refine z_rdi (va_runV (As := [.int y8]) (rest := []) ⟨hx, hb, hml, hown, hts⟩ (rX4_digit l dC dI cI cQ ha0 ha0_0 fa0_0 hBfa0_0 ia0_1 hia0_1l hia0_1h y8) (cwV 1 hts gv_X4_isLine_X4_digit_61 rfl rfl rfl (by decide +kernel) ⟨Nat.le_of_ble_eq_true rfl, Nat.le_of_ble_eq_true rfl⟩) ⟨z_blindR, va_recv hK hP (ci := 4) (q0 := 1) rfl rfl, z_preR hZ hP [0, 1] rfl⟩ rfl rfl hl.1 rfl (lv_room (Nat.le_of_ble_eq_true rfl)) dX4_isLine_27 ⟨Nat.le_of_ble_eq_true rfl, Nat.le_of_ble_eq_true rfl⟩) (fun y9 hy9 => ?_)
    obtain ⟨hy9_0, hy9_1, hy9_2⟩ := hy9
    refine lv_iload_n hx hb dX4_isLine_30 rfl (lv_at hl 3 rfl) ?_
    refine lv_icmp_ge (tgt := 50) hx hb dX4_isLine_31 (by decide) (fun hc => ?_) (fun hc => ?_)
    · have q10 : p2.toInt ≤ y9.toInt := z_le rfl rfl hc
      refine lv_iconst (v := 0) hx hb dX4_isLine_50 (by decide) ?_
      exact W.zret (v := 0) hx hb hr (rfl) (fun t ht hW => ⟨0, rfl, ⟨by first | decide | omega, by first | decide | omega, (by have q1 := z_ilC (a := p1.toInt) hy3_2 (by omega) hy5_2 (by omega); have q2 := z_rwA (k := p1.toInt + 1) hy9_2 (by omega); exact Or.inr ⟨by decide, fun f => by have f1 := f.1; have f2 := f.2.1; have f3 := f.2.2.1; have f4 := f.2.2.2; omega⟩)⟩, ht⟩) (fun _ h => absurd h List.not_mem_nil) dX4_isLine_51
    · have q11 : y9.toInt < p2.toInt := z_nle rfl rfl hc
      refine lv_iload hx hb dX4_isLine_34 (lv_at hl 0 rfl) ?_
      refine lv_iconst (v := 1) hx hb dX4_isLine_36 (by decide) ?_
      refine lv_icmp_lt (tgt := 50) hx hb dX4_isLine_37 (by decide) (fun hc => ?_) (fun hc => ?_)
      · have q12 : y5.toInt < 1 := z_lt rfl (by decide) hc
        refine lv_iconst (v := 0) hx hb dX4_isLine_50 (by decide) ?_
        exact W.zret (v := 0) hx hb hr (rfl) (fun t ht hW => ⟨0, rfl, ⟨by first | decide | omega, by first | decide | omega, (by have q1 := z_ilC (a := p1.toInt) hy3_2 (by omega) hy5_2 (by omega); have q2 := z_rwA (k := p1.toInt + 1) hy9_2 (by omega); exact Or.inr ⟨by decide, fun f => by have f1 := f.1; have f2 := f.2.1; have f3 := f.2.2.1; have f4 := f.2.2.2; omega⟩)⟩, ht⟩) (fun _ h => absurd h List.not_mem_nil) dX4_isLine_51
      · have q13 : 1 ≤ y5.toInt := z_nlt rfl (by decide) hc
        refine lv_iload hx hb dX4_isLine_40 (lv_at hl 0 rfl) ?_
        refine lv_iconst (v := 4) hx hb dX4_isLine_42 (by decide) ?_
        refine lv_icmp_gt (tgt := 50) hx hb dX4_isLine_43 (by decide) (fun hc => ?_) (fun hc => ?_)
        · have q14 : 4 < y5.toInt := z_lt (by decide) rfl hc
          refine lv_iconst (v := 0) hx hb dX4_isLine_50 (by decide) ?_
          exact W.zret (v := 0) hx hb hr (rfl) (fun t ht hW => ⟨0, rfl, ⟨by first | decide | omega, by first | decide | omega, (by have q1 := z_ilC (a := p1.toInt) hy3_2 (by omega) hy5_2 (by omega); have q2 := z_rwA (k := p1.toInt + 1) hy9_2 (by omega); exact Or.inr ⟨by decide, fun f => by have f1 := f.1; have f2 := f.2.1; have f3 := f.2.2.1; have f4 := f.2.2.2; omega⟩)⟩, ht⟩) (fun _ h => absurd h List.not_mem_nil) dX4_isLine_51
        · have q15 : y5.toInt ≤ 4 := z_nlt (by decide) rfl hc
          refine lv_iconst (v := 1) hx hb dX4_isLine_46 (by decide) ?_
          refine lv_goto (tgt := 51) hx hb dX4_isLine_47 (by decide) ?_
          exact W.zret (v := 1) hx hb hr (rfl) (fun t ht hW => ⟨1, rfl, ⟨by first | decide | omega, by first | decide | omega, (by have q1 := z_ilC (a := p1.toInt) hy3_2 (by omega) hy5_2 (by omega); have q2 := z_rwA (k := p1.toInt + 1) hy9_2 (by omega); exact Or.inl ⟨by decide, by omega, by omega, by omega, by omega⟩)⟩, ht⟩) (fun _ h => absurd h List.not_mem_nil) dX4_isLine_51
set_option maxRecDepth 20000 in
theorem edX4_stateBehind_0 : decode cX4_stateBehind 0 = .ok (.aload_n 0, 1) ∧ decode cX4_stateBehind 1 = .ok (.iload_n 2, 1) ∧ decode cX4_stateBehind 2 = .ok (.invokevirtual 19, 3) ∧ decode cX4_stateBehind 5 = .ok (.istore 4, 2) ∧ decode cX4_stateBehind 7 = .ok (.iload_n 1, 1) ∧ decode cX4_stateBehind 8 = .ok (.tableswitch 210 0 7 #[48, 73, 88, 103, 119, 134, 150, 184], 48) ∧ decode cX4_stateBehind 56 = .ok (.iload 4, 2) ∧ decode cX4_stateBehind 58 = .ok (.bipush 112, 2) ∧ decode cX4_stateBehind 60 = .ok (.if_icmp .ne 7, 3) ∧ decode cX4_stateBehind 63 = .ok (.iconst 1, 1) ∧ decode cX4_stateBehind 64 = .ok (.goto 16, 3) ∧ decode cX4_stateBehind 67 = .ok (.iload 4, 2) := by decide +kernel
theorem dX4_stateBehind_0 : decode cX4_stateBehind 0 = .ok (.aload_n 0, 1) := edX4_stateBehind_0.1
theorem dX4_stateBehind_1 : decode cX4_stateBehind 1 = .ok (.iload_n 2, 1) := edX4_stateBehind_0.2.1
theorem dX4_stateBehind_2 : decode cX4_stateBehind 2 = .ok (.invokevirtual 19, 3) := edX4_stateBehind_0.2.2.1
theorem dX4_stateBehind_5 : decode cX4_stateBehind 5 = .ok (.istore 4, 2) := edX4_stateBehind_0.2.2.2.1
theorem dX4_stateBehind_7 : decode cX4_stateBehind 7 = .ok (.iload_n 1, 1) := edX4_stateBehind_0.2.2.2.2.1
theorem dX4_stateBehind_8 : decode cX4_stateBehind 8 = .ok (.tableswitch 210 0 7 #[48, 73, 88, 103, 119, 134, 150, 184], 48) := edX4_stateBehind_0.2.2.2.2.2.1
theorem dX4_stateBehind_56 : decode cX4_stateBehind 56 = .ok (.iload 4, 2) := edX4_stateBehind_0.2.2.2.2.2.2.1
theorem dX4_stateBehind_58 : decode cX4_stateBehind 58 = .ok (.bipush 112, 2) := edX4_stateBehind_0.2.2.2.2.2.2.2.1
theorem dX4_stateBehind_60 : decode cX4_stateBehind 60 = .ok (.if_icmp .ne 7, 3) := edX4_stateBehind_0.2.2.2.2.2.2.2.2.1
theorem dX4_stateBehind_63 : decode cX4_stateBehind 63 = .ok (.iconst 1, 1) := edX4_stateBehind_0.2.2.2.2.2.2.2.2.2.1
theorem dX4_stateBehind_64 : decode cX4_stateBehind 64 = .ok (.goto 16, 3) := edX4_stateBehind_0.2.2.2.2.2.2.2.2.2.2.1
theorem dX4_stateBehind_67 : decode cX4_stateBehind 67 = .ok (.iload 4, 2) := edX4_stateBehind_0.2.2.2.2.2.2.2.2.2.2.2
set_option maxRecDepth 20000 in
theorem edX4_stateBehind_69 : decode cX4_stateBehind 69 = .ok (.bipush 108, 2) ∧ decode cX4_stateBehind 71 = .ok (.if_icmp .ne 7, 3) ∧ decode cX4_stateBehind 74 = .ok (.iconst 4, 1) ∧ decode cX4_stateBehind 75 = .ok (.goto 5, 3) ∧ decode cX4_stateBehind 78 = .ok (.bipush 9, 2) ∧ decode cX4_stateBehind 80 = .ok (.ireturn, 1) ∧ decode cX4_stateBehind 81 = .ok (.aload_n 0, 1) ∧ decode cX4_stateBehind 82 = .ok (.iload_n 2, 1) ∧ decode cX4_stateBehind 83 = .ok (.invokevirtual 35, 3) ∧ decode cX4_stateBehind 86 = .ok (.ifCond .eq 7, 3) ∧ decode cX4_stateBehind 89 = .ok (.iconst 2, 1) ∧ decode cX4_stateBehind 90 = .ok (.goto 5, 3) := by decide +kernel
theorem dX4_stateBehind_69 : decode cX4_stateBehind 69 = .ok (.bipush 108, 2) := edX4_stateBehind_69.1
theorem dX4_stateBehind_71 : decode cX4_stateBehind 71 = .ok (.if_icmp .ne 7, 3) := edX4_stateBehind_69.2.1
theorem dX4_stateBehind_74 : decode cX4_stateBehind 74 = .ok (.iconst 4, 1) := edX4_stateBehind_69.2.2.1
theorem dX4_stateBehind_75 : decode cX4_stateBehind 75 = .ok (.goto 5, 3) := edX4_stateBehind_69.2.2.2.1
theorem dX4_stateBehind_78 : decode cX4_stateBehind 78 = .ok (.bipush 9, 2) := edX4_stateBehind_69.2.2.2.2.1
theorem dX4_stateBehind_80 : decode cX4_stateBehind 80 = .ok (.ireturn, 1) := edX4_stateBehind_69.2.2.2.2.2.1
theorem dX4_stateBehind_81 : decode cX4_stateBehind 81 = .ok (.aload_n 0, 1) := edX4_stateBehind_69.2.2.2.2.2.2.1
theorem dX4_stateBehind_82 : decode cX4_stateBehind 82 = .ok (.iload_n 2, 1) := edX4_stateBehind_69.2.2.2.2.2.2.2.1
theorem dX4_stateBehind_83 : decode cX4_stateBehind 83 = .ok (.invokevirtual 35, 3) := edX4_stateBehind_69.2.2.2.2.2.2.2.2.1
theorem dX4_stateBehind_86 : decode cX4_stateBehind 86 = .ok (.ifCond .eq 7, 3) := edX4_stateBehind_69.2.2.2.2.2.2.2.2.2.1
theorem dX4_stateBehind_89 : decode cX4_stateBehind 89 = .ok (.iconst 2, 1) := edX4_stateBehind_69.2.2.2.2.2.2.2.2.2.2.1
theorem dX4_stateBehind_90 : decode cX4_stateBehind 90 = .ok (.goto 5, 3) := edX4_stateBehind_69.2.2.2.2.2.2.2.2.2.2.2
set_option maxRecDepth 20000 in
theorem edX4_stateBehind_93 : decode cX4_stateBehind 93 = .ok (.bipush 9, 2) ∧ decode cX4_stateBehind 95 = .ok (.ireturn, 1) ∧ decode cX4_stateBehind 96 = .ok (.aload_n 0, 1) ∧ decode cX4_stateBehind 97 = .ok (.iload_n 2, 1) ∧ decode cX4_stateBehind 98 = .ok (.invokevirtual 35, 3) ∧ decode cX4_stateBehind 101 = .ok (.ifCond .eq 7, 3) ∧ decode cX4_stateBehind 104 = .ok (.iconst 3, 1) ∧ decode cX4_stateBehind 105 = .ok (.goto 5, 3) ∧ decode cX4_stateBehind 108 = .ok (.bipush 9, 2) ∧ decode cX4_stateBehind 110 = .ok (.ireturn, 1) ∧ decode cX4_stateBehind 111 = .ok (.aload_n 0, 1) ∧ decode cX4_stateBehind 112 = .ok (.iload_n 2, 1) := by decide +kernel
theorem dX4_stateBehind_93 : decode cX4_stateBehind 93 = .ok (.bipush 9, 2) := edX4_stateBehind_93.1
theorem dX4_stateBehind_95 : decode cX4_stateBehind 95 = .ok (.ireturn, 1) := edX4_stateBehind_93.2.1
theorem dX4_stateBehind_96 : decode cX4_stateBehind 96 = .ok (.aload_n 0, 1) := edX4_stateBehind_93.2.2.1
theorem dX4_stateBehind_97 : decode cX4_stateBehind 97 = .ok (.iload_n 2, 1) := edX4_stateBehind_93.2.2.2.1
theorem dX4_stateBehind_98 : decode cX4_stateBehind 98 = .ok (.invokevirtual 35, 3) := edX4_stateBehind_93.2.2.2.2.1
theorem dX4_stateBehind_101 : decode cX4_stateBehind 101 = .ok (.ifCond .eq 7, 3) := edX4_stateBehind_93.2.2.2.2.2.1
theorem dX4_stateBehind_104 : decode cX4_stateBehind 104 = .ok (.iconst 3, 1) := edX4_stateBehind_93.2.2.2.2.2.2.1
theorem dX4_stateBehind_105 : decode cX4_stateBehind 105 = .ok (.goto 5, 3) := edX4_stateBehind_93.2.2.2.2.2.2.2.1
theorem dX4_stateBehind_108 : decode cX4_stateBehind 108 = .ok (.bipush 9, 2) := edX4_stateBehind_93.2.2.2.2.2.2.2.2.1
theorem dX4_stateBehind_110 : decode cX4_stateBehind 110 = .ok (.ireturn, 1) := edX4_stateBehind_93.2.2.2.2.2.2.2.2.2.1
theorem dX4_stateBehind_111 : decode cX4_stateBehind 111 = .ok (.aload_n 0, 1) := edX4_stateBehind_93.2.2.2.2.2.2.2.2.2.2.1
theorem dX4_stateBehind_112 : decode cX4_stateBehind 112 = .ok (.iload_n 2, 1) := edX4_stateBehind_93.2.2.2.2.2.2.2.2.2.2.2
set_option maxRecDepth 20000 in
theorem edX4_stateBehind_113 : decode cX4_stateBehind 113 = .ok (.invokevirtual 35, 3) ∧ decode cX4_stateBehind 116 = .ok (.ifCond .eq 8, 3) ∧ decode cX4_stateBehind 119 = .ok (.bipush 8, 2) ∧ decode cX4_stateBehind 121 = .ok (.goto 5, 3) ∧ decode cX4_stateBehind 124 = .ok (.bipush 9, 2) ∧ decode cX4_stateBehind 126 = .ok (.ireturn, 1) ∧ decode cX4_stateBehind 127 = .ok (.aload_n 0, 1) ∧ decode cX4_stateBehind 128 = .ok (.iload_n 2, 1) ∧ decode cX4_stateBehind 129 = .ok (.invokevirtual 35, 3) ∧ decode cX4_stateBehind 132 = .ok (.ifCond .eq 7, 3) ∧ decode cX4_stateBehind 135 = .ok (.iconst 5, 1) ∧ decode cX4_stateBehind 136 = .ok (.goto 5, 3) := by decide +kernel
theorem dX4_stateBehind_113 : decode cX4_stateBehind 113 = .ok (.invokevirtual 35, 3) := edX4_stateBehind_113.1
theorem dX4_stateBehind_116 : decode cX4_stateBehind 116 = .ok (.ifCond .eq 8, 3) := edX4_stateBehind_113.2.1
theorem dX4_stateBehind_119 : decode cX4_stateBehind 119 = .ok (.bipush 8, 2) := edX4_stateBehind_113.2.2.1
theorem dX4_stateBehind_121 : decode cX4_stateBehind 121 = .ok (.goto 5, 3) := edX4_stateBehind_113.2.2.2.1
theorem dX4_stateBehind_124 : decode cX4_stateBehind 124 = .ok (.bipush 9, 2) := edX4_stateBehind_113.2.2.2.2.1
theorem dX4_stateBehind_126 : decode cX4_stateBehind 126 = .ok (.ireturn, 1) := edX4_stateBehind_113.2.2.2.2.2.1
theorem dX4_stateBehind_127 : decode cX4_stateBehind 127 = .ok (.aload_n 0, 1) := edX4_stateBehind_113.2.2.2.2.2.2.1
theorem dX4_stateBehind_128 : decode cX4_stateBehind 128 = .ok (.iload_n 2, 1) := edX4_stateBehind_113.2.2.2.2.2.2.2.1
theorem dX4_stateBehind_129 : decode cX4_stateBehind 129 = .ok (.invokevirtual 35, 3) := edX4_stateBehind_113.2.2.2.2.2.2.2.2.1
theorem dX4_stateBehind_132 : decode cX4_stateBehind 132 = .ok (.ifCond .eq 7, 3) := edX4_stateBehind_113.2.2.2.2.2.2.2.2.2.1
theorem dX4_stateBehind_135 : decode cX4_stateBehind 135 = .ok (.iconst 5, 1) := edX4_stateBehind_113.2.2.2.2.2.2.2.2.2.2.1
theorem dX4_stateBehind_136 : decode cX4_stateBehind 136 = .ok (.goto 5, 3) := edX4_stateBehind_113.2.2.2.2.2.2.2.2.2.2.2
set_option maxRecDepth 20000 in
theorem edX4_stateBehind_139 : decode cX4_stateBehind 139 = .ok (.bipush 9, 2) ∧ decode cX4_stateBehind 141 = .ok (.ireturn, 1) ∧ decode cX4_stateBehind 142 = .ok (.aload_n 0, 1) ∧ decode cX4_stateBehind 143 = .ok (.iload_n 2, 1) ∧ decode cX4_stateBehind 144 = .ok (.invokevirtual 39, 3) ∧ decode cX4_stateBehind 147 = .ok (.ifCond .eq 8, 3) ∧ decode cX4_stateBehind 150 = .ok (.bipush 6, 2) ∧ decode cX4_stateBehind 152 = .ok (.goto 5, 3) ∧ decode cX4_stateBehind 155 = .ok (.bipush 9, 2) ∧ decode cX4_stateBehind 157 = .ok (.ireturn, 1) ∧ decode cX4_stateBehind 158 = .ok (.aload_n 0, 1) ∧ decode cX4_stateBehind 159 = .ok (.iload_n 2, 1) := by decide +kernel
theorem dX4_stateBehind_139 : decode cX4_stateBehind 139 = .ok (.bipush 9, 2) := edX4_stateBehind_139.1
theorem dX4_stateBehind_141 : decode cX4_stateBehind 141 = .ok (.ireturn, 1) := edX4_stateBehind_139.2.1
theorem dX4_stateBehind_142 : decode cX4_stateBehind 142 = .ok (.aload_n 0, 1) := edX4_stateBehind_139.2.2.1
theorem dX4_stateBehind_143 : decode cX4_stateBehind 143 = .ok (.iload_n 2, 1) := edX4_stateBehind_139.2.2.2.1
theorem dX4_stateBehind_144 : decode cX4_stateBehind 144 = .ok (.invokevirtual 39, 3) := edX4_stateBehind_139.2.2.2.2.1
theorem dX4_stateBehind_147 : decode cX4_stateBehind 147 = .ok (.ifCond .eq 8, 3) := edX4_stateBehind_139.2.2.2.2.2.1
theorem dX4_stateBehind_150 : decode cX4_stateBehind 150 = .ok (.bipush 6, 2) := edX4_stateBehind_139.2.2.2.2.2.2.1
theorem dX4_stateBehind_152 : decode cX4_stateBehind 152 = .ok (.goto 5, 3) := edX4_stateBehind_139.2.2.2.2.2.2.2.1
theorem dX4_stateBehind_155 : decode cX4_stateBehind 155 = .ok (.bipush 9, 2) := edX4_stateBehind_139.2.2.2.2.2.2.2.2.1
theorem dX4_stateBehind_157 : decode cX4_stateBehind 157 = .ok (.ireturn, 1) := edX4_stateBehind_139.2.2.2.2.2.2.2.2.2.1
theorem dX4_stateBehind_158 : decode cX4_stateBehind 158 = .ok (.aload_n 0, 1) := edX4_stateBehind_139.2.2.2.2.2.2.2.2.2.2.1
theorem dX4_stateBehind_159 : decode cX4_stateBehind 159 = .ok (.iload_n 2, 1) := edX4_stateBehind_139.2.2.2.2.2.2.2.2.2.2.2
set_option maxRecDepth 20000 in
theorem edX4_stateBehind_160 : decode cX4_stateBehind 160 = .ok (.invokevirtual 35, 3) ∧ decode cX4_stateBehind 163 = .ok (.ifCond .eq 8, 3) ∧ decode cX4_stateBehind 166 = .ok (.bipush 7, 2) ∧ decode cX4_stateBehind 168 = .ok (.goto 23, 3) ∧ decode cX4_stateBehind 171 = .ok (.aload_n 0, 1) ∧ decode cX4_stateBehind 172 = .ok (.iload_n 2, 1) ∧ decode cX4_stateBehind 173 = .ok (.invokevirtual 39, 3) ∧ decode cX4_stateBehind 176 = .ok (.ifCond .eq 13, 3) ∧ decode cX4_stateBehind 179 = .ok (.iload_n 3, 1) ∧ decode cX4_stateBehind 180 = .ok (.iconst 4, 1) ∧ decode cX4_stateBehind 181 = .ok (.if_icmp .ge 8, 3) ∧ decode cX4_stateBehind 184 = .ok (.bipush 6, 2) := by decide +kernel
theorem dX4_stateBehind_160 : decode cX4_stateBehind 160 = .ok (.invokevirtual 35, 3) := edX4_stateBehind_160.1
theorem dX4_stateBehind_163 : decode cX4_stateBehind 163 = .ok (.ifCond .eq 8, 3) := edX4_stateBehind_160.2.1
theorem dX4_stateBehind_166 : decode cX4_stateBehind 166 = .ok (.bipush 7, 2) := edX4_stateBehind_160.2.2.1
theorem dX4_stateBehind_168 : decode cX4_stateBehind 168 = .ok (.goto 23, 3) := edX4_stateBehind_160.2.2.2.1
theorem dX4_stateBehind_171 : decode cX4_stateBehind 171 = .ok (.aload_n 0, 1) := edX4_stateBehind_160.2.2.2.2.1
theorem dX4_stateBehind_172 : decode cX4_stateBehind 172 = .ok (.iload_n 2, 1) := edX4_stateBehind_160.2.2.2.2.2.1
theorem dX4_stateBehind_173 : decode cX4_stateBehind 173 = .ok (.invokevirtual 39, 3) := edX4_stateBehind_160.2.2.2.2.2.2.1
theorem dX4_stateBehind_176 : decode cX4_stateBehind 176 = .ok (.ifCond .eq 13, 3) := edX4_stateBehind_160.2.2.2.2.2.2.2.1
theorem dX4_stateBehind_179 : decode cX4_stateBehind 179 = .ok (.iload_n 3, 1) := edX4_stateBehind_160.2.2.2.2.2.2.2.2.1
theorem dX4_stateBehind_180 : decode cX4_stateBehind 180 = .ok (.iconst 4, 1) := edX4_stateBehind_160.2.2.2.2.2.2.2.2.2.1
theorem dX4_stateBehind_181 : decode cX4_stateBehind 181 = .ok (.if_icmp .ge 8, 3) := edX4_stateBehind_160.2.2.2.2.2.2.2.2.2.2.1
theorem dX4_stateBehind_184 : decode cX4_stateBehind 184 = .ok (.bipush 6, 2) := edX4_stateBehind_160.2.2.2.2.2.2.2.2.2.2.2
set_option maxRecDepth 20000 in
theorem edX4_stateBehind_186 : decode cX4_stateBehind 186 = .ok (.goto 5, 3) ∧ decode cX4_stateBehind 189 = .ok (.bipush 9, 2) ∧ decode cX4_stateBehind 191 = .ok (.ireturn, 1) ∧ decode cX4_stateBehind 192 = .ok (.iload 4, 2) ∧ decode cX4_stateBehind 194 = .ok (.bipush 33, 2) ∧ decode cX4_stateBehind 196 = .ok (.if_icmp .ne 8, 3) ∧ decode cX4_stateBehind 199 = .ok (.bipush 8, 2) ∧ decode cX4_stateBehind 201 = .ok (.goto 16, 3) ∧ decode cX4_stateBehind 204 = .ok (.iload 4, 2) ∧ decode cX4_stateBehind 206 = .ok (.bipush 59, 2) ∧ decode cX4_stateBehind 208 = .ok (.if_icmp .ne 7, 3) ∧ decode cX4_stateBehind 211 = .ok (.iconst 0, 1) := by decide +kernel
theorem dX4_stateBehind_186 : decode cX4_stateBehind 186 = .ok (.goto 5, 3) := edX4_stateBehind_186.1
theorem dX4_stateBehind_189 : decode cX4_stateBehind 189 = .ok (.bipush 9, 2) := edX4_stateBehind_186.2.1
theorem dX4_stateBehind_191 : decode cX4_stateBehind 191 = .ok (.ireturn, 1) := edX4_stateBehind_186.2.2.1
theorem dX4_stateBehind_192 : decode cX4_stateBehind 192 = .ok (.iload 4, 2) := edX4_stateBehind_186.2.2.2.1
theorem dX4_stateBehind_194 : decode cX4_stateBehind 194 = .ok (.bipush 33, 2) := edX4_stateBehind_186.2.2.2.2.1
theorem dX4_stateBehind_196 : decode cX4_stateBehind 196 = .ok (.if_icmp .ne 8, 3) := edX4_stateBehind_186.2.2.2.2.2.1
theorem dX4_stateBehind_199 : decode cX4_stateBehind 199 = .ok (.bipush 8, 2) := edX4_stateBehind_186.2.2.2.2.2.2.1
theorem dX4_stateBehind_201 : decode cX4_stateBehind 201 = .ok (.goto 16, 3) := edX4_stateBehind_186.2.2.2.2.2.2.2.1
theorem dX4_stateBehind_204 : decode cX4_stateBehind 204 = .ok (.iload 4, 2) := edX4_stateBehind_186.2.2.2.2.2.2.2.2.1
theorem dX4_stateBehind_206 : decode cX4_stateBehind 206 = .ok (.bipush 59, 2) := edX4_stateBehind_186.2.2.2.2.2.2.2.2.2.1
theorem dX4_stateBehind_208 : decode cX4_stateBehind 208 = .ok (.if_icmp .ne 7, 3) := edX4_stateBehind_186.2.2.2.2.2.2.2.2.2.2.1
theorem dX4_stateBehind_211 : decode cX4_stateBehind 211 = .ok (.iconst 0, 1) := edX4_stateBehind_186.2.2.2.2.2.2.2.2.2.2.2
set_option maxRecDepth 20000 in
theorem edX4_stateBehind_212 : decode cX4_stateBehind 212 = .ok (.goto 5, 3) ∧ decode cX4_stateBehind 215 = .ok (.bipush 9, 2) ∧ decode cX4_stateBehind 217 = .ok (.ireturn, 1) ∧ decode cX4_stateBehind 218 = .ok (.iload 4, 2) ∧ decode cX4_stateBehind 220 = .ok (.bipush 59, 2) ∧ decode cX4_stateBehind 222 = .ok (.if_icmp .ne 7, 3) ∧ decode cX4_stateBehind 225 = .ok (.iconst 0, 1) ∧ decode cX4_stateBehind 226 = .ok (.goto 5, 3) ∧ decode cX4_stateBehind 229 = .ok (.bipush 9, 2) ∧ decode cX4_stateBehind 231 = .ok (.ireturn, 1) := by decide +kernel
theorem dX4_stateBehind_212 : decode cX4_stateBehind 212 = .ok (.goto 5, 3) := edX4_stateBehind_212.1
theorem dX4_stateBehind_215 : decode cX4_stateBehind 215 = .ok (.bipush 9, 2) := edX4_stateBehind_212.2.1
theorem dX4_stateBehind_217 : decode cX4_stateBehind 217 = .ok (.ireturn, 1) := edX4_stateBehind_212.2.2.1
theorem dX4_stateBehind_218 : decode cX4_stateBehind 218 = .ok (.iload 4, 2) := edX4_stateBehind_212.2.2.2.1
theorem dX4_stateBehind_220 : decode cX4_stateBehind 220 = .ok (.bipush 59, 2) := edX4_stateBehind_212.2.2.2.2.1
theorem dX4_stateBehind_222 : decode cX4_stateBehind 222 = .ok (.if_icmp .ne 7, 3) := edX4_stateBehind_212.2.2.2.2.2.1
theorem dX4_stateBehind_225 : decode cX4_stateBehind 225 = .ok (.iconst 0, 1) := edX4_stateBehind_212.2.2.2.2.2.2.1
theorem dX4_stateBehind_226 : decode cX4_stateBehind 226 = .ok (.goto 5, 3) := edX4_stateBehind_212.2.2.2.2.2.2.2.1
theorem dX4_stateBehind_229 : decode cX4_stateBehind 229 = .ok (.bipush 9, 2) := edX4_stateBehind_212.2.2.2.2.2.2.2.2.1
theorem dX4_stateBehind_231 : decode cX4_stateBehind 231 = .ok (.ireturn, 1) := edX4_stateBehind_212.2.2.2.2.2.2.2.2.2
noncomputable def voX4_stateBehind : List Cond := [.methodLink RX4 19 yX4_at, .instanceMethod yX4_at, .selects RX4 yX4_at yX4_at, .initialized RX4, .methodLink RX4 35 yX4_isDigit, .instanceMethod yX4_isDigit, .selects RX4 yX4_isDigit yX4_isDigit, .methodLink RX4 39 yX4_isWord, .instanceMethod yX4_isWord, .selects RX4 yX4_isWord yX4_isWord]
noncomputable def vsX4_stateBehind : List Cond := .code yX4_stateBehind cX4_stateBehind 5 (some .int) :: (voX4_stateBehind ++ (vsX4_at ++ (vsX4_isDigit ++ (vsX4_isWord))))
theorem zgX4_stateBehind : zGd vsX4_stateBehind := z_gdC rfl (z_gdA (z_gdO (by decide +kernel) : zGd voX4_stateBehind) (z_gdA zgX4_at (z_gdA zgX4_isDigit (zgX4_isWord))))
theorem gw_X4_stateBehind_X4_at : GoodIn vsX4_stateBehind vsX4_at := z_gdI (fun _ h => List.mem_cons_of_mem _ (List.mem_append_right _ (List.mem_append_left _ h))) zgX4_at
set_option maxRecDepth 20000 in
theorem gv_X4_stateBehind_X4_at_19 : GoodIn vsX4_stateBehind (wsV RX4 19 RX4 yX4_at vsX4_at) := goodIn_app (goodIn_of _ (by decide +kernel)) gw_X4_stateBehind_X4_at
theorem gw_X4_stateBehind_X4_isDigit : GoodIn vsX4_stateBehind vsX4_isDigit := z_gdI (fun _ h => List.mem_cons_of_mem _ (List.mem_append_right _ (List.mem_append_right _ (List.mem_append_left _ h)))) zgX4_isDigit
set_option maxRecDepth 20000 in
theorem gv_X4_stateBehind_X4_isDigit_35 : GoodIn vsX4_stateBehind (wsV RX4 35 RX4 yX4_isDigit vsX4_isDigit) := goodIn_app (goodIn_of _ (by decide +kernel)) gw_X4_stateBehind_X4_isDigit
theorem gw_X4_stateBehind_X4_isWord : GoodIn vsX4_stateBehind vsX4_isWord := z_gdI (fun _ h => List.mem_cons_of_mem _ (List.mem_append_right _ (List.mem_append_right _ (List.mem_append_right _ (h))))) zgX4_isWord
set_option maxRecDepth 20000 in
theorem gv_X4_stateBehind_X4_isWord_39 : GoodIn vsX4_stateBehind (wsV RX4 39 RX4 yX4_isWord vsX4_isWord) := goodIn_app (goodIn_of _ (by decide +kernel)) gw_X4_stateBehind_X4_isWord
set_option maxHeartbeats 4000000 in
set_option maxRecDepth 100000 in
theorem rX4_stateBehind (l : Launch) (dC : Nat → ClassId) (dI : Nat → Nat → Nat) (cI cQ : ClassId) (ha0 ha0_0 : Nat) (fa0_0 : Nat → Int32) (hBfa0_0 : ∀ k, 0 ≤ (fa0_0 k).toInt ∧ (fa0_0 k).toInt ≤ 255) (ia0_1 : Int32) (hia0_1l : 0 ≤ ia0_1.toInt) (hia0_1h : ia0_1.toInt ≤ 80) (p1 : Int32) (p2 : Int32) (p3 : Int32) : Met l yX4_stateBehind vsX4_stateBehind ({ frames := 2, cells := 0, slots := 0, locals := 42 }) (va_Pc [.ref ha0, .int p1, .int p2, .int p3] (zRB dC dI cI cQ [(ha0_0, .inl (cI, 80, .inl fa0_0)), (ha0, .inr (4, [.ref ha0_0, .int ia0_1]))])) (vp_Si (fun r => 0 ≤ r.toInt ∧ r.toInt ≤ 9 ∧ (r.toInt = zNx (zAt fa0_0 ia0_1.toInt p2.toInt) p1.toInt p3.toInt))) 0 0 (fun _ => False) := by
  refine Met.ofW (cc := cX4_stateBehind) (maxL := 5) (ret := (some .int)) (by decide) rfl ?_
  intro p e s m args below meth c s₁ B hml hv
  obtain ⟨rfl, hP, hZ⟩ := hv
  obtain ⟨hK, hAO, hN⟩ := id hZ
  have hx := B.exec
  have hb := B.bytes
  have hr := B.returns
  have hts := atoms_spec (ws := vsX4_stateBehind) B.pre
  have hown : s.vm.findClass RX4 = some m.cls := findClass_of_methodNamed B.named
  have hlocks := B.notSynchronized
  have hp1l := z_lo p1
  have hp1h := z_hi p1
  have hp2l := z_lo p2
  have hp2h := z_hi p2
  have hp3l := z_lo p3
  have hp3h := z_hi p3
  have hl := lv_entry ([.ref ha0, .int p1, .int p2, .int p3]) (n := 5) (Nat.le_of_ble_eq_true rfl)
  rw [lg_entry_eq]
  generalize (lg_sl ([.ref ha0, .int p1, .int p2, .int p3]) ++ List.replicate (5 - (lg_sl ([.ref ha0, .int p1, .int p2, .int p3])).length) Slot.unset).toArray = ls at hl ⊢
  have hl : lv_has ls 5 [(0, .ref ha0), (1, .int p1), (2, .int p2), (3, .int p3)] := hl
  refine lv_aload_n hx hb dX4_stateBehind_0 rfl (lv_at hl 0 rfl) ?_
  refine lv_iload_n hx hb dX4_stateBehind_1 rfl (lv_at hl 2 rfl) ?_
  refine z_rdi (va_runV (As := [.int p2]) (rest := []) ⟨hx, hb, hml, hown, hts⟩ (rX4_at l dC dI cI cQ ha0 ha0_0 fa0_0 hBfa0_0 ia0_1 hia0_1l hia0_1h p2) (cwV 1 hts gv_X4_stateBehind_X4_at_19 rfl rfl rfl (by decide +kernel) ⟨Nat.le_of_ble_eq_true rfl, Nat.le_of_ble_eq_true rfl⟩) ⟨z_blindR, va_recv hK hP (ci := 4) (q0 := 1) rfl rfl, z_preR hZ hP [0, 1] rfl⟩ rfl rfl hl.1 rfl (lv_room (Nat.le_of_ble_eq_true rfl)) dX4_stateBehind_2 ⟨Nat.le_of_ble_eq_true rfl, Nat.le_of_ble_eq_true rfl⟩) (fun y1 hy1 => ?_)
  obtain ⟨hy1_0, hy1_1, hy1_2⟩ := hy1
  refine lv_istore (lv' := [(4, .int y1), (0, .ref ha0), (1, .int p1), (2, .int p2), (3, .int p3)]) hx hb dX4_stateBehind_5 hl (by decide) rfl (fun ls hl => ?_)
  refine lv_iload_n hx hb dX4_stateBehind_7 rfl (lv_at hl 2 rfl) ?_
  rcases (show p1.toInt < 0 ∨ 7 < p1.toInt ∨ p1.toInt = 0 ∨ p1.toInt = 1 ∨ p1.toInt = 2 ∨ p1.toInt = 3 ∨ p1.toInt = 4 ∨ p1.toInt = 5 ∨ p1.toInt = 6 ∨ p1.toInt = 7 by omega) with hs | hs | hs | hs | hs | hs | hs | hs | hs | hs
  · refine lv_tableOut (tgt := 218) hx hb dX4_stateBehind_8 (by omega) (by decide) ?_
    refine lv_iload hx hb dX4_stateBehind_218 (lv_at hl 0 rfl) ?_
    refine lv_bipush (v := 59) hx hb dX4_stateBehind_220 (by decide) ?_
    refine lv_icmp_ne (tgt := 229) hx hb dX4_stateBehind_222 (by decide) (fun hc => ?_) (fun hc => ?_)
    · have q2 : y1.toInt ≠ 59 := z_ne rfl (by decide) hc
      refine lv_bipush (v := 9) hx hb dX4_stateBehind_229 (by decide) ?_
      exact W.iret (v := 9) hx hb hr (fun t ht hW => ⟨9, rfl, ⟨by first | decide | omega, by first | decide | omega, (by exact Eq.trans (by decide) (Eq.symm (z_nxD9 (by omega) (by omega))))⟩, ht⟩) (fun _ h => absurd h List.not_mem_nil) dX4_stateBehind_231
    · have q3 : y1.toInt = 59 := z_eq rfl (by decide) hc
      refine lv_iconst (v := 0) hx hb dX4_stateBehind_225 (by decide) ?_
      refine lv_goto (tgt := 231) hx hb dX4_stateBehind_226 (by decide) ?_
      exact W.iret (v := 0) hx hb hr (fun t ht hW => ⟨0, rfl, ⟨by first | decide | omega, by first | decide | omega, (by exact Eq.trans (by decide) (Eq.symm (z_nxD0 (by omega) (by omega))))⟩, ht⟩) (fun _ h => absurd h List.not_mem_nil) dX4_stateBehind_231
  · refine lv_tableOut (tgt := 218) hx hb dX4_stateBehind_8 (by omega) (by decide) ?_
    refine lv_iload hx hb dX4_stateBehind_218 (lv_at hl 0 rfl) ?_
    refine lv_bipush (v := 59) hx hb dX4_stateBehind_220 (by decide) ?_
    refine lv_icmp_ne (tgt := 229) hx hb dX4_stateBehind_222 (by decide) (fun hc => ?_) (fun hc => ?_)
    · have q4 : y1.toInt ≠ 59 := z_ne rfl (by decide) hc
      refine lv_bipush (v := 9) hx hb dX4_stateBehind_229 (by decide) ?_
      exact W.iret (v := 9) hx hb hr (fun t ht hW => ⟨9, rfl, ⟨by first | decide | omega, by first | decide | omega, (by exact Eq.trans (by decide) (Eq.symm (z_nxD9 (by omega) (by omega))))⟩, ht⟩) (fun _ h => absurd h List.not_mem_nil) dX4_stateBehind_231
    · have q5 : y1.toInt = 59 := z_eq rfl (by decide) hc
      refine lv_iconst (v := 0) hx hb dX4_stateBehind_225 (by decide) ?_
      refine lv_goto (tgt := 231) hx hb dX4_stateBehind_226 (by decide) ?_
      exact W.iret (v := 0) hx hb hr (fun t ht hW => ⟨0, rfl, ⟨by first | decide | omega, by first | decide | omega, (by exact Eq.trans (by decide) (Eq.symm (z_nxD0 (by omega) (by omega))))⟩, ht⟩) (fun _ h => absurd h List.not_mem_nil) dX4_stateBehind_231
  · refine lv_tableIn (tgt := 56) hx hb dX4_stateBehind_8 (by omega) (by omega) (off := 48) (by rw [hs]; decide) (by decide) ?_
    refine lv_iload hx hb dX4_stateBehind_56 (lv_at hl 0 rfl) ?_
    refine lv_bipush (v := 112) hx hb dX4_stateBehind_58 (by decide) ?_
    refine lv_icmp_ne (tgt := 67) hx hb dX4_stateBehind_60 (by decide) (fun hc => ?_) (fun hc => ?_)
    · have q6 : y1.toInt ≠ 112 := z_ne rfl (by decide) hc
      refine lv_iload hx hb dX4_stateBehind_67 (lv_at hl 0 rfl) ?_
      refine lv_bipush (v := 108) hx hb dX4_stateBehind_69 (by decide) ?_
      refine lv_icmp_ne (tgt := 78) hx hb dX4_stateBehind_71 (by decide) (fun hc => ?_) (fun hc => ?_)
      · have q7 : y1.toInt ≠ 108 := z_ne rfl (by decide) hc
        refine lv_bipush (v := 9) hx hb dX4_stateBehind_78 (by decide) ?_
        exact W.iret (v := 9) hx hb hr (fun t ht hW => ⟨9, rfl, ⟨by first | decide | omega, by first | decide | omega, (by rw [hs]; exact Eq.trans (by decide) (Eq.symm (z_nx0x (by omega) (by omega))))⟩, ht⟩) (fun _ h => absurd h List.not_mem_nil) dX4_stateBehind_80
      · have q8 : y1.toInt = 108 := z_eq rfl (by decide) hc
        refine lv_iconst (v := 4) hx hb dX4_stateBehind_74 (by decide) ?_
        refine lv_goto (tgt := 80) hx hb dX4_stateBehind_75 (by decide) ?_
        exact W.iret (v := 4) hx hb hr (fun t ht hW => ⟨4, rfl, ⟨by first | decide | omega, by first | decide | omega, (by rw [hs]; exact Eq.trans (by decide) (Eq.symm (z_nx0l (by omega))))⟩, ht⟩) (fun _ h => absurd h List.not_mem_nil) dX4_stateBehind_80
    · have q9 : y1.toInt = 112 := z_eq rfl (by decide) hc
      refine lv_iconst (v := 1) hx hb dX4_stateBehind_63 (by decide) ?_
      refine lv_goto (tgt := 80) hx hb dX4_stateBehind_64 (by decide) ?_
      exact W.iret (v := 1) hx hb hr (fun t ht hW => ⟨1, rfl, ⟨by first | decide | omega, by first | decide | omega, (by rw [hs]; exact Eq.trans (by decide) (Eq.symm (z_nx0p (by omega))))⟩, ht⟩) (fun _ h => absurd h List.not_mem_nil) dX4_stateBehind_80
  · refine lv_tableIn (tgt := 81) hx hb dX4_stateBehind_8 (by omega) (by omega) (off := 73) (by rw [hs]; decide) (by decide) ?_
    refine lv_aload_n hx hb dX4_stateBehind_81 rfl (lv_at hl 1 rfl) ?_
    refine lv_iload_n hx hb dX4_stateBehind_82 rfl (lv_at hl 3 rfl) ?_
    refine z_rdi (va_runV (As := [.int p2]) (rest := []) ⟨hx, hb, hml, hown, hts⟩ (rX4_isDigit l dC dI cI cQ ha0 ha0_0 fa0_0 hBfa0_0 ia0_1 hia0_1l hia0_1h p2) (cwV 1 hts gv_X4_stateBehind_X4_isDigit_35 rfl rfl rfl (by decide +kernel) ⟨Nat.le_of_ble_eq_true rfl, Nat.le_of_ble_eq_true rfl⟩) ⟨z_blindR, va_recv hK hP (ci := 4) (q0 := 1) rfl rfl, z_preR hZ hP [0, 1] rfl⟩ rfl rfl hl.1 rfl (lv_room (Nat.le_of_ble_eq_true rfl)) dX4_stateBehind_83 ⟨Nat.le_of_ble_eq_true rfl, Nat.le_of_ble_eq_true rfl⟩) (fun y10 hy10 => ?_)
    obtain ⟨hy10_0, hy10_1, hy10_2⟩ := hy10
    refine lv_if_eq (tgt := 93) hx hb dX4_stateBehind_86 (by decide) (fun hc => ?_) (fun hc => ?_)
    · have q11 : y10.toInt = 0 := z_eq rfl (by decide) hc
      refine lv_bipush (v := 9) hx hb dX4_stateBehind_93 (by decide) ?_
      exact W.iret (v := 9) hx hb hr (fun t ht hW => ⟨9, rfl, ⟨by first | decide | omega, by first | decide | omega, (by rw [hs]; exact Eq.trans (by decide) (Eq.symm (z_nxB1 (by omega))))⟩, ht⟩) (fun _ h => absurd h List.not_mem_nil) dX4_stateBehind_95
    · have q12 : y10.toInt ≠ 0 := z_ne rfl (by decide) hc
      refine lv_iconst (v := 2) hx hb dX4_stateBehind_89 (by decide) ?_
      refine lv_goto (tgt := 95) hx hb dX4_stateBehind_90 (by decide) ?_
      exact W.iret (v := 2) hx hb hr (fun t ht hW => ⟨2, rfl, ⟨by first | decide | omega, by first | decide | omega, (by rw [hs]; exact Eq.trans (by decide) (Eq.symm (z_nx1 ⟨by omega, by omega⟩)))⟩, ht⟩) (fun _ h => absurd h List.not_mem_nil) dX4_stateBehind_95
  · refine lv_tableIn (tgt := 96) hx hb dX4_stateBehind_8 (by omega) (by omega) (off := 88) (by rw [hs]; decide) (by decide) ?_
    refine lv_aload_n hx hb dX4_stateBehind_96 rfl (lv_at hl 1 rfl) ?_
    refine lv_iload_n hx hb dX4_stateBehind_97 rfl (lv_at hl 3 rfl) ?_
    refine z_rdi (va_runV (As := [.int p2]) (rest := []) ⟨hx, hb, hml, hown, hts⟩ (rX4_isDigit l dC dI cI cQ ha0 ha0_0 fa0_0 hBfa0_0 ia0_1 hia0_1l hia0_1h p2) (cwV 1 hts gv_X4_stateBehind_X4_isDigit_35 rfl rfl rfl (by decide +kernel) ⟨Nat.le_of_ble_eq_true rfl, Nat.le_of_ble_eq_true rfl⟩) ⟨z_blindR, va_recv hK hP (ci := 4) (q0 := 1) rfl rfl, z_preR hZ hP [0, 1] rfl⟩ rfl rfl hl.1 rfl (lv_room (Nat.le_of_ble_eq_true rfl)) dX4_stateBehind_98 ⟨Nat.le_of_ble_eq_true rfl, Nat.le_of_ble_eq_true rfl⟩) (fun y13 hy13 => ?_)
    obtain ⟨hy13_0, hy13_1, hy13_2⟩ := hy13
    refine lv_if_eq (tgt := 108) hx hb dX4_stateBehind_101 (by decide) (fun hc => ?_) (fun hc => ?_)
    · have q14 : y13.toInt = 0 := z_eq rfl (by decide) hc
      refine lv_bipush (v := 9) hx hb dX4_stateBehind_108 (by decide) ?_
      exact W.iret (v := 9) hx hb hr (fun t ht hW => ⟨9, rfl, ⟨by first | decide | omega, by first | decide | omega, (by rw [hs]; exact Eq.trans (by decide) (Eq.symm (z_nxB2 (by omega))))⟩, ht⟩) (fun _ h => absurd h List.not_mem_nil) dX4_stateBehind_110
    · have q15 : y13.toInt ≠ 0 := z_ne rfl (by decide) hc
      refine lv_iconst (v := 3) hx hb dX4_stateBehind_104 (by decide) ?_
      refine lv_goto (tgt := 110) hx hb dX4_stateBehind_105 (by decide) ?_
      exact W.iret (v := 3) hx hb hr (fun t ht hW => ⟨3, rfl, ⟨by first | decide | omega, by first | decide | omega, (by rw [hs]; exact Eq.trans (by decide) (Eq.symm (z_nx2 ⟨by omega, by omega⟩)))⟩, ht⟩) (fun _ h => absurd h List.not_mem_nil) dX4_stateBehind_110
  · refine lv_tableIn (tgt := 111) hx hb dX4_stateBehind_8 (by omega) (by omega) (off := 103) (by rw [hs]; decide) (by decide) ?_
    refine lv_aload_n hx hb dX4_stateBehind_111 rfl (lv_at hl 1 rfl) ?_
    refine lv_iload_n hx hb dX4_stateBehind_112 rfl (lv_at hl 3 rfl) ?_
    refine z_rdi (va_runV (As := [.int p2]) (rest := []) ⟨hx, hb, hml, hown, hts⟩ (rX4_isDigit l dC dI cI cQ ha0 ha0_0 fa0_0 hBfa0_0 ia0_1 hia0_1l hia0_1h p2) (cwV 1 hts gv_X4_stateBehind_X4_isDigit_35 rfl rfl rfl (by decide +kernel) ⟨Nat.le_of_ble_eq_true rfl, Nat.le_of_ble_eq_true rfl⟩) ⟨z_blindR, va_recv hK hP (ci := 4) (q0 := 1) rfl rfl, z_preR hZ hP [0, 1] rfl⟩ rfl rfl hl.1 rfl (lv_room (Nat.le_of_ble_eq_true rfl)) dX4_stateBehind_113 ⟨Nat.le_of_ble_eq_true rfl, Nat.le_of_ble_eq_true rfl⟩) (fun y16 hy16 => ?_)
    obtain ⟨hy16_0, hy16_1, hy16_2⟩ := hy16
    refine lv_if_eq (tgt := 124) hx hb dX4_stateBehind_116 (by decide) (fun hc => ?_) (fun hc => ?_)
    · have q17 : y16.toInt = 0 := z_eq rfl (by decide) hc
      refine lv_bipush (v := 9) hx hb dX4_stateBehind_124 (by decide) ?_
      exact W.iret (v := 9) hx hb hr (fun t ht hW => ⟨9, rfl, ⟨by first | decide | omega, by first | decide | omega, (by rw [hs]; exact Eq.trans (by decide) (Eq.symm (z_nxB3 (by omega))))⟩, ht⟩) (fun _ h => absurd h List.not_mem_nil) dX4_stateBehind_126
    · have q18 : y16.toInt ≠ 0 := z_ne rfl (by decide) hc
      refine lv_bipush (v := 8) hx hb dX4_stateBehind_119 (by decide) ?_
      refine lv_goto (tgt := 126) hx hb dX4_stateBehind_121 (by decide) ?_
      exact W.iret (v := 8) hx hb hr (fun t ht hW => ⟨8, rfl, ⟨by first | decide | omega, by first | decide | omega, (by rw [hs]; exact Eq.trans (by decide) (Eq.symm (z_nx3 ⟨by omega, by omega⟩)))⟩, ht⟩) (fun _ h => absurd h List.not_mem_nil) dX4_stateBehind_126
  · refine lv_tableIn (tgt := 127) hx hb dX4_stateBehind_8 (by omega) (by omega) (off := 119) (by rw [hs]; decide) (by decide) ?_
    refine lv_aload_n hx hb dX4_stateBehind_127 rfl (lv_at hl 1 rfl) ?_
    refine lv_iload_n hx hb dX4_stateBehind_128 rfl (lv_at hl 3 rfl) ?_
    refine z_rdi (va_runV (As := [.int p2]) (rest := []) ⟨hx, hb, hml, hown, hts⟩ (rX4_isDigit l dC dI cI cQ ha0 ha0_0 fa0_0 hBfa0_0 ia0_1 hia0_1l hia0_1h p2) (cwV 1 hts gv_X4_stateBehind_X4_isDigit_35 rfl rfl rfl (by decide +kernel) ⟨Nat.le_of_ble_eq_true rfl, Nat.le_of_ble_eq_true rfl⟩) ⟨z_blindR, va_recv hK hP (ci := 4) (q0 := 1) rfl rfl, z_preR hZ hP [0, 1] rfl⟩ rfl rfl hl.1 rfl (lv_room (Nat.le_of_ble_eq_true rfl)) dX4_stateBehind_129 ⟨Nat.le_of_ble_eq_true rfl, Nat.le_of_ble_eq_true rfl⟩) (fun y19 hy19 => ?_)
    obtain ⟨hy19_0, hy19_1, hy19_2⟩ := hy19
    refine lv_if_eq (tgt := 139) hx hb dX4_stateBehind_132 (by decide) (fun hc => ?_) (fun hc => ?_)
    · have q20 : y19.toInt = 0 := z_eq rfl (by decide) hc
      refine lv_bipush (v := 9) hx hb dX4_stateBehind_139 (by decide) ?_
      exact W.iret (v := 9) hx hb hr (fun t ht hW => ⟨9, rfl, ⟨by first | decide | omega, by first | decide | omega, (by rw [hs]; exact Eq.trans (by decide) (Eq.symm (z_nxB4 (by omega))))⟩, ht⟩) (fun _ h => absurd h List.not_mem_nil) dX4_stateBehind_141
    · have q21 : y19.toInt ≠ 0 := z_ne rfl (by decide) hc
      refine lv_iconst (v := 5) hx hb dX4_stateBehind_135 (by decide) ?_
      refine lv_goto (tgt := 141) hx hb dX4_stateBehind_136 (by decide) ?_
      exact W.iret (v := 5) hx hb hr (fun t ht hW => ⟨5, rfl, ⟨by first | decide | omega, by first | decide | omega, (by rw [hs]; exact Eq.trans (by decide) (Eq.symm (z_nx4 ⟨by omega, by omega⟩)))⟩, ht⟩) (fun _ h => absurd h List.not_mem_nil) dX4_stateBehind_141
  · refine lv_tableIn (tgt := 142) hx hb dX4_stateBehind_8 (by omega) (by omega) (off := 134) (by rw [hs]; decide) (by decide) ?_
    refine lv_aload_n hx hb dX4_stateBehind_142 rfl (lv_at hl 1 rfl) ?_
    refine lv_iload_n hx hb dX4_stateBehind_143 rfl (lv_at hl 3 rfl) ?_
    refine z_rdi (va_runV (As := [.int p2]) (rest := []) ⟨hx, hb, hml, hown, hts⟩ (rX4_isWord l dC dI cI cQ ha0 ha0_0 fa0_0 hBfa0_0 ia0_1 hia0_1l hia0_1h p2) (cwV 1 hts gv_X4_stateBehind_X4_isWord_39 rfl rfl rfl (by decide +kernel) ⟨Nat.le_of_ble_eq_true rfl, Nat.le_of_ble_eq_true rfl⟩) ⟨z_blindR, va_recv hK hP (ci := 4) (q0 := 1) rfl rfl, z_preR hZ hP [0, 1] rfl⟩ rfl rfl hl.1 rfl (lv_room (Nat.le_of_ble_eq_true rfl)) dX4_stateBehind_144 ⟨Nat.le_of_ble_eq_true rfl, Nat.le_of_ble_eq_true rfl⟩) (fun y22 hy22 => ?_)
    obtain ⟨hy22_0, hy22_1, hy22_2⟩ := hy22
    refine lv_if_eq (tgt := 155) hx hb dX4_stateBehind_147 (by decide) (fun hc => ?_) (fun hc => ?_)
    · have q23 : y22.toInt = 0 := z_eq rfl (by decide) hc
      refine lv_bipush (v := 9) hx hb dX4_stateBehind_155 (by decide) ?_
      exact W.iret (v := 9) hx hb hr (fun t ht hW => ⟨9, rfl, ⟨by first | decide | omega, by first | decide | omega, (by rw [hs]; exact Eq.trans (by decide) (Eq.symm (z_nxB5 (by omega))))⟩, ht⟩) (fun _ h => absurd h List.not_mem_nil) dX4_stateBehind_157
    · have q24 : y22.toInt ≠ 0 := z_ne rfl (by decide) hc
      refine lv_bipush (v := 6) hx hb dX4_stateBehind_150 (by decide) ?_
      refine lv_goto (tgt := 157) hx hb dX4_stateBehind_152 (by decide) ?_
      exact W.iret (v := 6) hx hb hr (fun t ht hW => ⟨6, rfl, ⟨by first | decide | omega, by first | decide | omega, (by rw [hs]; exact Eq.trans (by decide) (Eq.symm (z_nx5 ⟨by omega, by omega⟩)))⟩, ht⟩) (fun _ h => absurd h List.not_mem_nil) dX4_stateBehind_157
  · refine lv_tableIn (tgt := 158) hx hb dX4_stateBehind_8 (by omega) (by omega) (off := 150) (by rw [hs]; decide) (by decide) ?_
    refine lv_aload_n hx hb dX4_stateBehind_158 rfl (lv_at hl 1 rfl) ?_
    refine lv_iload_n hx hb dX4_stateBehind_159 rfl (lv_at hl 3 rfl) ?_
    refine z_rdi (va_runV (As := [.int p2]) (rest := []) ⟨hx, hb, hml, hown, hts⟩ (rX4_isDigit l dC dI cI cQ ha0 ha0_0 fa0_0 hBfa0_0 ia0_1 hia0_1l hia0_1h p2) (cwV 1 hts gv_X4_stateBehind_X4_isDigit_35 rfl rfl rfl (by decide +kernel) ⟨Nat.le_of_ble_eq_true rfl, Nat.le_of_ble_eq_true rfl⟩) ⟨z_blindR, va_recv hK hP (ci := 4) (q0 := 1) rfl rfl, z_preR hZ hP [0, 1] rfl⟩ rfl rfl hl.1 rfl (lv_room (Nat.le_of_ble_eq_true rfl)) dX4_stateBehind_160 ⟨Nat.le_of_ble_eq_true rfl, Nat.le_of_ble_eq_true rfl⟩) (fun y25 hy25 => ?_)
    obtain ⟨hy25_0, hy25_1, hy25_2⟩ := hy25
    refine lv_if_eq (tgt := 171) hx hb dX4_stateBehind_163 (by decide) (fun hc => ?_) (fun hc => ?_)
    · have q26 : y25.toInt = 0 := z_eq rfl (by decide) hc
      refine lv_aload_n hx hb dX4_stateBehind_171 rfl (lv_at hl 1 rfl) ?_
      refine lv_iload_n hx hb dX4_stateBehind_172 rfl (lv_at hl 3 rfl) ?_
      refine z_rdi (va_runV (As := [.int p2]) (rest := []) ⟨hx, hb, hml, hown, hts⟩ (rX4_isWord l dC dI cI cQ ha0 ha0_0 fa0_0 hBfa0_0 ia0_1 hia0_1l hia0_1h p2) (cwV 1 hts gv_X4_stateBehind_X4_isWord_39 rfl rfl rfl (by decide +kernel) ⟨Nat.le_of_ble_eq_true rfl, Nat.le_of_ble_eq_true rfl⟩) ⟨z_blindR, va_recv hK hP (ci := 4) (q0 := 1) rfl rfl, z_preR hZ hP [0, 1] rfl⟩ rfl rfl hl.1 rfl (lv_room (Nat.le_of_ble_eq_true rfl)) dX4_stateBehind_173 ⟨Nat.le_of_ble_eq_true rfl, Nat.le_of_ble_eq_true rfl⟩) (fun y27 hy27 => ?_)
      obtain ⟨hy27_0, hy27_1, hy27_2⟩ := hy27
      refine lv_if_eq (tgt := 189) hx hb dX4_stateBehind_176 (by decide) (fun hc => ?_) (fun hc => ?_)
      · have q28 : y27.toInt = 0 := z_eq rfl (by decide) hc
        refine lv_bipush (v := 9) hx hb dX4_stateBehind_189 (by decide) ?_
        exact W.iret (v := 9) hx hb hr (fun t ht hW => ⟨9, rfl, ⟨by first | decide | omega, by first | decide | omega, (by rw [hs]; exact Eq.trans (by decide) (Eq.symm (z_nxB6 (by omega) (by omega))))⟩, ht⟩) (fun _ h => absurd h List.not_mem_nil) dX4_stateBehind_191
      · have q29 : y27.toInt ≠ 0 := z_ne rfl (by decide) hc
        refine lv_iload_n hx hb dX4_stateBehind_179 rfl (lv_at hl 4 rfl) ?_
        refine lv_iconst (v := 4) hx hb dX4_stateBehind_180 (by decide) ?_
        refine lv_icmp_ge (tgt := 189) hx hb dX4_stateBehind_181 (by decide) (fun hc => ?_) (fun hc => ?_)
        · have q30 : 4 ≤ p3.toInt := z_le (by decide) rfl hc
          refine lv_bipush (v := 9) hx hb dX4_stateBehind_189 (by decide) ?_
          exact W.iret (v := 9) hx hb hr (fun t ht hW => ⟨9, rfl, ⟨by first | decide | omega, by first | decide | omega, (by rw [hs]; exact Eq.trans (by decide) (Eq.symm (z_nxB6 (by omega) (by omega))))⟩, ht⟩) (fun _ h => absurd h List.not_mem_nil) dX4_stateBehind_191
        · have q31 : p3.toInt < 4 := z_nle (by decide) rfl hc
          refine lv_bipush (v := 6) hx hb dX4_stateBehind_184 (by decide) ?_
          refine lv_goto (tgt := 191) hx hb dX4_stateBehind_186 (by decide) ?_
          exact W.iret (v := 6) hx hb hr (fun t ht hW => ⟨6, rfl, ⟨by first | decide | omega, by first | decide | omega, (by rw [hs]; exact Eq.trans (by decide) (Eq.symm (z_nx6w ⟨by omega, by omega⟩ (by omega))))⟩, ht⟩) (fun _ h => absurd h List.not_mem_nil) dX4_stateBehind_191
    · have q32 : y25.toInt ≠ 0 := z_ne rfl (by decide) hc
      refine lv_bipush (v := 7) hx hb dX4_stateBehind_166 (by decide) ?_
      refine lv_goto (tgt := 191) hx hb dX4_stateBehind_168 (by decide) ?_
      exact W.iret (v := 7) hx hb hr (fun t ht hW => ⟨7, rfl, ⟨by first | decide | omega, by first | decide | omega, (by rw [hs]; exact Eq.trans (by decide) (Eq.symm (z_nx6d ⟨by omega, by omega⟩)))⟩, ht⟩) (fun _ h => absurd h List.not_mem_nil) dX4_stateBehind_191
  · refine lv_tableIn (tgt := 192) hx hb dX4_stateBehind_8 (by omega) (by omega) (off := 184) (by rw [hs]; decide) (by decide) ?_
    refine lv_iload hx hb dX4_stateBehind_192 (lv_at hl 0 rfl) ?_
    refine lv_bipush (v := 33) hx hb dX4_stateBehind_194 (by decide) ?_
    refine lv_icmp_ne (tgt := 204) hx hb dX4_stateBehind_196 (by decide) (fun hc => ?_) (fun hc => ?_)
    · have q33 : y1.toInt ≠ 33 := z_ne rfl (by decide) hc
      refine lv_iload hx hb dX4_stateBehind_204 (lv_at hl 0 rfl) ?_
      refine lv_bipush (v := 59) hx hb dX4_stateBehind_206 (by decide) ?_
      refine lv_icmp_ne (tgt := 215) hx hb dX4_stateBehind_208 (by decide) (fun hc => ?_) (fun hc => ?_)
      · have q34 : y1.toInt ≠ 59 := z_ne rfl (by decide) hc
        refine lv_bipush (v := 9) hx hb dX4_stateBehind_215 (by decide) ?_
        exact W.iret (v := 9) hx hb hr (fun t ht hW => ⟨9, rfl, ⟨by first | decide | omega, by first | decide | omega, (by rw [hs]; exact Eq.trans (by decide) (Eq.symm (z_nxB7 (by omega) (by omega))))⟩, ht⟩) (fun _ h => absurd h List.not_mem_nil) dX4_stateBehind_217
      · have q35 : y1.toInt = 59 := z_eq rfl (by decide) hc
        refine lv_iconst (v := 0) hx hb dX4_stateBehind_211 (by decide) ?_
        refine lv_goto (tgt := 217) hx hb dX4_stateBehind_212 (by decide) ?_
        exact W.iret (v := 0) hx hb hr (fun t ht hW => ⟨0, rfl, ⟨by first | decide | omega, by first | decide | omega, (by rw [hs]; exact Eq.trans (by decide) (Eq.symm (z_nx7b (by omega))))⟩, ht⟩) (fun _ h => absurd h List.not_mem_nil) dX4_stateBehind_217
    · have q36 : y1.toInt = 33 := z_eq rfl (by decide) hc
      refine lv_bipush (v := 8) hx hb dX4_stateBehind_199 (by decide) ?_
      refine lv_goto (tgt := 217) hx hb dX4_stateBehind_201 (by decide) ?_
      exact W.iret (v := 8) hx hb hr (fun t ht hW => ⟨8, rfl, ⟨by first | decide | omega, by first | decide | omega, (by rw [hs]; exact Eq.trans (by decide) (Eq.symm (z_nx7a (by omega))))⟩, ht⟩) (fun _ h => absurd h List.not_mem_nil) dX4_stateBehind_217
