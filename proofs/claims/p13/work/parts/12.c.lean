theorem dX5_stepFrom_0 : decode cX5_stepFrom 0 = .ok (.iconst 0, 1) := by decide +kernel
theorem dX5_stepFrom_1 : decode cX5_stepFrom 1 = .ok (.istore_n 2, 1) := by decide +kernel
theorem dX5_stepFrom_2 : decode cX5_stepFrom 2 = .ok (.iconst 0, 1) := by decide +kernel
theorem dX5_stepFrom_3 : decode cX5_stepFrom 3 = .ok (.istore_n 3, 1) := by decide +kernel
theorem dX5_stepFrom_4 : decode cX5_stepFrom 4 = .ok (.iload_n 3, 1) := by decide +kernel
theorem dX5_stepFrom_5 : decode cX5_stepFrom 5 = .ok (.aload_n 0, 1) := by decide +kernel
theorem dX5_stepFrom_6 : decode cX5_stepFrom 6 = .ok (.getfield 15, 3) := by decide +kernel
theorem dX5_stepFrom_9 : decode cX5_stepFrom 9 = .ok (.if_icmp .ge 27, 3) := by decide +kernel
theorem dX5_stepFrom_12 : decode cX5_stepFrom 12 = .ok (.iload_n 1, 1) := by decide +kernel
theorem dX5_stepFrom_13 : decode cX5_stepFrom 13 = .ok (.iload_n 3, 1) := by decide +kernel
theorem dX5_stepFrom_14 : decode cX5_stepFrom 14 = .ok (.invokestatic 40, 3) := by decide +kernel
theorem dX5_stepFrom_17 : decode cX5_stepFrom 17 = .ok (.iconst 1, 1) := by decide +kernel
theorem dX5_stepFrom_18 : decode cX5_stepFrom 18 = .ok (.if_icmp .ne 12, 3) := by decide +kernel
theorem dX5_stepFrom_21 : decode cX5_stepFrom 21 = .ok (.iload_n 2, 1) := by decide +kernel
theorem dX5_stepFrom_22 : decode cX5_stepFrom 22 = .ok (.aload_n 0, 1) := by decide +kernel
theorem dX5_stepFrom_23 : decode cX5_stepFrom 23 = .ok (.getfield 9, 3) := by decide +kernel
theorem dX5_stepFrom_26 : decode cX5_stepFrom 26 = .ok (.iload_n 3, 1) := by decide +kernel
theorem dX5_stepFrom_27 : decode cX5_stepFrom 27 = .ok (.iaload, 1) := by decide +kernel
theorem dX5_stepFrom_28 : decode cX5_stepFrom 28 = .ok (.ior, 1) := by decide +kernel
theorem dX5_stepFrom_29 : decode cX5_stepFrom 29 = .ok (.istore_n 2, 1) := by decide +kernel
theorem dX5_stepFrom_30 : decode cX5_stepFrom 30 = .ok (.iinc 3 1, 3) := by decide +kernel
theorem dX5_stepFrom_33 : decode cX5_stepFrom 33 = .ok (.goto (-29), 3) := by decide +kernel
theorem dX5_stepFrom_36 : decode cX5_stepFrom 36 = .ok (.iload_n 2, 1) := by decide +kernel
theorem dX5_stepFrom_37 : decode cX5_stepFrom 37 = .ok (.ireturn, 1) := by decide +kernel
noncomputable def voX5_stepFrom : List Cond := [.fieldLink RX5 15 "EachOnHisCue$Net" "lines" "I", .initialized RX11, .static yX11_bitAt, .fieldLink RX5 9 "EachOnHisCue$Net" "after" "[I"]
noncomputable def vsX5_stepFrom : List Cond := .code yX5_stepFrom cX5_stepFrom 4 (some .int) :: (voX5_stepFrom ++ (vsX11_bitAt ++ (wsX50)))
theorem zgX5 : zGd wsX50 := z_gdO (by decide +kernel)
theorem zgX5_stepFrom : zGd vsX5_stepFrom := z_gdC rfl (z_gdA (z_gdO (by decide +kernel) : zGd voX5_stepFrom) (z_gdA zgX11_bitAt (zgX5)))
theorem in_X5_stepFrom_X5 : ∀ w ∈ wsX50, w ∈ vsX5_stepFrom := fun _ h => List.mem_cons_of_mem _ (List.mem_append_right _ (List.mem_append_right _ (h)))
theorem gw_X5_stepFrom_X11_bitAt : GoodIn vsX5_stepFrom vsX11_bitAt := z_gdI (fun _ h => List.mem_cons_of_mem _ (List.mem_append_right _ (List.mem_append_left _ h))) zgX11_bitAt
set_option maxRecDepth 20000 in
theorem gv_X5_stepFrom_X11_bitAt_40 : GoodIn vsX5_stepFrom (vsX11_bitAt) := gw_X5_stepFrom_X11_bitAt
set_option maxHeartbeats 4000000 in
set_option maxRecDepth 100000 in
theorem rX5_stepFrom (l : Launch) (dC : Nat → ClassId) (dI : Nat → Nat → Nat) (cI cQ : ClassId) (ha0 ha0_0 : Nat) (fa0_0 : Nat → Int32) (ia0_1 : Int32) (hia0_1l : 0 ≤ ia0_1.toInt) (hia0_1h : ia0_1.toInt ≤ 12) (p1 : Int32) : Met l yX5_stepFrom vsX5_stepFrom ({ frames := 1, cells := 0, slots := 0, locals := 21 }) (va_Pc [.ref ha0, .int p1] (zRB dC dI cI cQ [(ha0_0, .inl (cI, 12, .inl fa0_0)), (ha0, .inr (5, [.ref ha0_0, .int ia0_1]))])) (vp_Si (fun r => (-2147483648) ≤ r.toInt ∧ r.toInt ≤ 2147483647)) 0 0 (fun _ => False) := by
  refine Met.ofW (cc := cX5_stepFrom) (maxL := 4) (ret := (some .int)) (by decide) rfl ?_
  intro p e s m args below meth c s₁ B hml hv
  obtain ⟨rfl, hP, hZ⟩ := hv
  obtain ⟨hK, hAO, hN⟩ := id hZ
  have hx := B.exec
  have hb := B.bytes
  have hr := B.returns
  have hts := atoms_spec (ws := vsX5_stepFrom) B.pre
  have hown : s.vm.findClass RX5 = some m.cls := findClass_of_methodNamed B.named
  have hlocks := B.notSynchronized
  have hp1l := z_lo p1
  have hp1h := z_hi p1
  have hl := lv_entry ([.ref ha0, .int p1]) (n := 4) (Nat.le_of_ble_eq_true rfl)
  rw [lg_entry_eq]
  generalize (lg_sl ([.ref ha0, .int p1]) ++ List.replicate (4 - (lg_sl ([.ref ha0, .int p1])).length) Slot.unset).toArray = ls at hl ⊢
  have hl : lv_has ls 4 [(0, .ref ha0), (1, .int p1)] := hl
  refine lv_iconst (v := 0) hx hb dX5_stepFrom_0 (by decide) ?_
  refine lv_istore_n (lv' := [(2, .int 0), (0, .ref ha0), (1, .int p1)]) hx hb dX5_stepFrom_1 rfl hl (by decide) rfl (fun ls hl => ?_)
  refine lv_iconst (v := 0) hx hb dX5_stepFrom_2 (by decide) ?_
  refine lv_istore_n (lv' := [(3, .int 0), (2, .int 0), (0, .ref ha0), (1, .int p1)]) hx hb dX5_stepFrom_3 rfl hl (by decide) rfl (fun ls hl => ?_)
  have hL75 : ∀ (n : Nat) (v1 : Int32) (v2 : Int32) (ls : Array Slot), 0 ≤ v1.toInt → v1.toInt ≤ 12 → (12 - v1.toInt).toNat < n → lv_has ls 4 [(3, .int v1), (2, .int v2), (0, .ref ha0), (1, .int p1)] → W p l e (headSpec vsX5_stepFrom ({ frames := 1, cells := 0, slots := 0, locals := 21 })).room s m ([.ref ha0, .int p1] : List Value).toArray below meth c s.heap [] 0 0 (MQ below (vp_Si (fun r => (-2147483648) ≤ r.toInt ∧ r.toInt ≤ 2147483647)) ([.ref ha0, .int p1] : List Value).toArray s 0 0 (fun _ => False)) (F0 m 4 ls []) := by
    intro n
    induction n with
    | zero =>
      intro v1 v2 ls hi76_0 hi76_1 hi76_m hl
      exact absurd hi76_m (Nat.not_lt_zero _)
    | succ n ih =>
      intro v1 v2 ls hi76_0 hi76_1 hi76_m hl
      have ih77 := ih
      refine lv_iload_n hx hb dX5_stepFrom_4 rfl (lv_at hl 0 rfl) ?_
      refine lv_aload_n hx hb dX5_stepFrom_5 rfl (lv_at hl 2 rfl) ?_
      refine va_get (D := (dC, dI)) (ci := 5) (v := .int ia0_1) (C := RX5) (T := TX5) (N := 2) hx hb hts in_X5_stepFrom_X5 hown hK hP 1 rfl rfl 1 (by decide) (hts (.fieldLink RX5 15 "EachOnHisCue$Net" "lines" "I") (by decide +kernel)) (fun _ h9 => h9) rfl dX5_stepFrom_6 ?_
      refine lv_icmp_ge (tgt := 36) hx hb dX5_stepFrom_9 (by decide) (fun hc => ?_) (fun hc => ?_)
      · have q78 : ia0_1.toInt ≤ v1.toInt := z_le rfl rfl hc
        refine lv_iload_n hx hb dX5_stepFrom_36 rfl (lv_at hl 1 rfl) ?_
        exact W.iret (v := v2) hx hb hr (fun t ht hW => ⟨v2, rfl, ⟨z_lo _, z_hi _⟩, ht⟩) (fun _ h => absurd h List.not_mem_nil) dX5_stepFrom_37
      · have q79 : v1.toInt < ia0_1.toInt := z_nle rfl rfl hc
        refine lv_iload_n hx hb dX5_stepFrom_12 rfl (lv_at hl 3 rfl) ?_
        refine lv_iload_n hx hb dX5_stepFrom_13 rfl (lv_at hl 0 rfl) ?_
        refine z_rdi (va_runSN (As := [.int p1, .int v1]) (rest := []) ⟨hx, hb, hml, hown, hts⟩ (rX11_bitAt l dC dI cI cQ p1 v1) ⟨va_cnB (host := "EachOnHisCue") 2 hts gv_X5_stepFrom_X11_bitAt_40 rfl rfl rfl (hN.2.2.2.2.2.2.2.2.2.1) (hts (.initialized RX11) (by decide +kernel)) (by decide +kernel) ⟨Nat.le_of_ble_eq_true rfl, Nat.le_of_ble_eq_true rfl⟩, hts (.static yX11_bitAt) (by decide +kernel), trivial⟩ ⟨z_blindR, z_preR hZ hP [] rfl⟩ rfl rfl hl.1 rfl (lv_room (Nat.le_of_ble_eq_true rfl)) dX5_stepFrom_14 ⟨Nat.le_of_ble_eq_true rfl, Nat.le_of_ble_eq_true rfl⟩) (fun y80 hy80 => ?_)
        obtain ⟨hy80_0, hy80_1, hy80_2⟩ := hy80
        refine lv_iconst (v := 1) hx hb dX5_stepFrom_17 (by decide) ?_
        refine lv_icmp_ne (tgt := 30) hx hb dX5_stepFrom_18 (by decide) (fun hc => ?_) (fun hc => ?_)
        · have q81 : y80.toInt ≠ 1 := z_ne rfl (by decide) hc
          obtain ⟨y82, ey82⟩ : ∃ y : Int32, y = v1 + 1 := ⟨_, rfl⟩
          refine lv_iinc (v := y82) (lv' := [(3, .int y82), (2, .int v2), (0, .ref ha0), (1, .int p1)]) hx hb dX5_stepFrom_30 hl (k := 0) rfl (by rw [ey82]; rfl) (by decide) rfl (fun ls hl => ?_)
          have hy82 : y82.toInt = v1.toInt + 1 := by rw [ey82]; exact z_add rfl (by decide) (by omega) (by omega)
          refine lv_goto (tgt := 4) hx hb dX5_stepFrom_33 (by decide) ?_
          exact ih77 y82 v2 ls (by first | decide | omega) (by first | decide | omega) (by omega) (lv_sub hl [0, 1, 2, 3] rfl)
        · have q83 : y80.toInt = 1 := z_eq rfl (by decide) hc
          refine lv_iload_n hx hb dX5_stepFrom_21 rfl (lv_at hl 1 rfl) ?_
          refine lv_aload_n hx hb dX5_stepFrom_22 rfl (lv_at hl 2 rfl) ?_
          refine va_get (D := (dC, dI)) (ci := 5) (v := .ref ha0_0) (C := RX5) (T := TX5) (N := 2) hx hb hts in_X5_stepFrom_X5 hown hK hP 1 rfl rfl 0 (by decide) (hts (.fieldLink RX5 9 "EachOnHisCue$Net" "after" "[I") (by decide +kernel)) (fun _ h9 => h9) rfl dX5_stepFrom_23 ?_
          refine lv_iload_n hx hb dX5_stepFrom_26 rfl (lv_at hl 0 rfl) ?_
          refine va_iald hx hb hK hP 0 0 rfl rfl (z_in (by omega) (by omega)) dX5_stepFrom_27 ?_
          refine lv_topi (fun y84 ey84 => ?_)
          have gy84 : y84.toInt = (fa0_0 (v1 : Int32).toNatClampNeg).toInt := by rw [ey84]
          refine lv_ior hx hb dX5_stepFrom_28 ?_
          refine lv_topi (fun y85 ey85 => ?_)
          refine lv_istore_n (lv' := [(2, .int y85), (3, .int v1), (0, .ref ha0), (1, .int p1)]) hx hb dX5_stepFrom_29 rfl hl (by decide) rfl (fun ls hl => ?_)
          obtain ⟨y86, ey86⟩ : ∃ y : Int32, y = v1 + 1 := ⟨_, rfl⟩
          refine lv_iinc (v := y86) (lv' := [(3, .int y86), (2, .int y85), (0, .ref ha0), (1, .int p1)]) hx hb dX5_stepFrom_30 hl (k := 1) rfl (by rw [ey86]; rfl) (by decide) rfl (fun ls hl => ?_)
          have hy86 : y86.toInt = v1.toInt + 1 := by rw [ey86]; exact z_add rfl (by decide) (by omega) (by omega)
          refine lv_goto (tgt := 4) hx hb dX5_stepFrom_33 (by decide) ?_
          exact ih77 y86 y85 ls (by first | decide | omega) (by first | decide | omega) (by omega) (lv_sub hl [0, 1, 2, 3] rfl)
  exact hL75 ((12 - (0 : Int32).toInt).toNat + 1) 0 0 ls (by decide) (by decide) (by omega) hl
theorem dX5_reachedFrom_0 : decode cX5_reachedFrom 0 = .ok (.iload_n 1, 1) := by decide +kernel
theorem dX5_reachedFrom_1 : decode cX5_reachedFrom 1 = .ok (.istore_n 2, 1) := by decide +kernel
theorem dX5_reachedFrom_2 : decode cX5_reachedFrom 2 = .ok (.iconst 0, 1) := by decide +kernel
theorem dX5_reachedFrom_3 : decode cX5_reachedFrom 3 = .ok (.istore_n 3, 1) := by decide +kernel
theorem dX5_reachedFrom_4 : decode cX5_reachedFrom 4 = .ok (.iload_n 3, 1) := by decide +kernel
theorem dX5_reachedFrom_5 : decode cX5_reachedFrom 5 = .ok (.aload_n 0, 1) := by decide +kernel
theorem dX5_reachedFrom_6 : decode cX5_reachedFrom 6 = .ok (.getfield 15, 3) := by decide +kernel
theorem dX5_reachedFrom_9 : decode cX5_reachedFrom 9 = .ok (.if_icmp .ge 17, 3) := by decide +kernel
theorem dX5_reachedFrom_12 : decode cX5_reachedFrom 12 = .ok (.iload_n 2, 1) := by decide +kernel
theorem dX5_reachedFrom_13 : decode cX5_reachedFrom 13 = .ok (.aload_n 0, 1) := by decide +kernel
theorem dX5_reachedFrom_14 : decode cX5_reachedFrom 14 = .ok (.iload_n 2, 1) := by decide +kernel
theorem dX5_reachedFrom_15 : decode cX5_reachedFrom 15 = .ok (.invokevirtual 44, 3) := by decide +kernel
theorem dX5_reachedFrom_18 : decode cX5_reachedFrom 18 = .ok (.ior, 1) := by decide +kernel
theorem dX5_reachedFrom_19 : decode cX5_reachedFrom 19 = .ok (.istore_n 2, 1) := by decide +kernel
theorem dX5_reachedFrom_20 : decode cX5_reachedFrom 20 = .ok (.iinc 3 1, 3) := by decide +kernel
theorem dX5_reachedFrom_23 : decode cX5_reachedFrom 23 = .ok (.goto (-19), 3) := by decide +kernel
theorem dX5_reachedFrom_26 : decode cX5_reachedFrom 26 = .ok (.iload_n 2, 1) := by decide +kernel
theorem dX5_reachedFrom_27 : decode cX5_reachedFrom 27 = .ok (.ireturn, 1) := by decide +kernel
noncomputable def voX5_reachedFrom : List Cond := [.fieldLink RX5 15 "EachOnHisCue$Net" "lines" "I", .methodLink RX5 44 yX5_stepFrom, .instanceMethod yX5_stepFrom, .selects RX5 yX5_stepFrom yX5_stepFrom, .initialized RX5]
noncomputable def vsX5_reachedFrom : List Cond := .code yX5_reachedFrom cX5_reachedFrom 4 (some .int) :: (voX5_reachedFrom ++ (vsX5_stepFrom ++ (wsX50)))
theorem zgX5_reachedFrom : zGd vsX5_reachedFrom := z_gdC rfl (z_gdA (z_gdO (by decide +kernel) : zGd voX5_reachedFrom) (z_gdA zgX5_stepFrom (zgX5)))
theorem in_X5_reachedFrom_X5 : ∀ w ∈ wsX50, w ∈ vsX5_reachedFrom := fun _ h => List.mem_cons_of_mem _ (List.mem_append_right _ (List.mem_append_right _ (h)))
theorem gw_X5_reachedFrom_X5_stepFrom : GoodIn vsX5_reachedFrom vsX5_stepFrom := z_gdI (fun _ h => List.mem_cons_of_mem _ (List.mem_append_right _ (List.mem_append_left _ h))) zgX5_stepFrom
set_option maxRecDepth 20000 in
theorem gv_X5_reachedFrom_X5_stepFrom_44 : GoodIn vsX5_reachedFrom (wsV RX5 44 RX5 yX5_stepFrom vsX5_stepFrom) := goodIn_app (goodIn_of _ (by decide +kernel)) gw_X5_reachedFrom_X5_stepFrom
set_option maxHeartbeats 4000000 in
set_option maxRecDepth 100000 in
theorem rX5_reachedFrom (l : Launch) (dC : Nat → ClassId) (dI : Nat → Nat → Nat) (cI cQ : ClassId) (ha0 ha0_0 : Nat) (fa0_0 : Nat → Int32) (ia0_1 : Int32) (hia0_1l : 0 ≤ ia0_1.toInt) (hia0_1h : ia0_1.toInt ≤ 12) (p1 : Int32) : Met l yX5_reachedFrom vsX5_reachedFrom ({ frames := 2, cells := 0, slots := 0, locals := 44 }) (va_Pc [.ref ha0, .int p1] (zRB dC dI cI cQ [(ha0_0, .inl (cI, 12, .inl fa0_0)), (ha0, .inr (5, [.ref ha0_0, .int ia0_1]))])) (vp_Si (fun r => (-2147483648) ≤ r.toInt ∧ r.toInt ≤ 2147483647)) 0 0 (fun _ => False) := by
  refine Met.ofW (cc := cX5_reachedFrom) (maxL := 4) (ret := (some .int)) (by decide) rfl ?_
  intro p e s m args below meth c s₁ B hml hv
  obtain ⟨rfl, hP, hZ⟩ := hv
  obtain ⟨hK, hAO, hN⟩ := id hZ
  have hx := B.exec
  have hb := B.bytes
  have hr := B.returns
  have hts := atoms_spec (ws := vsX5_reachedFrom) B.pre
  have hown : s.vm.findClass RX5 = some m.cls := findClass_of_methodNamed B.named
  have hlocks := B.notSynchronized
  have hp1l := z_lo p1
  have hp1h := z_hi p1
  have hl := lv_entry ([.ref ha0, .int p1]) (n := 4) (Nat.le_of_ble_eq_true rfl)
  rw [lg_entry_eq]
  generalize (lg_sl ([.ref ha0, .int p1]) ++ List.replicate (4 - (lg_sl ([.ref ha0, .int p1])).length) Slot.unset).toArray = ls at hl ⊢
  have hl : lv_has ls 4 [(0, .ref ha0), (1, .int p1)] := hl
  refine lv_iload_n hx hb dX5_reachedFrom_0 rfl (lv_at hl 1 rfl) ?_
  refine lv_istore_n (lv' := [(2, .int p1), (0, .ref ha0), (1, .int p1)]) hx hb dX5_reachedFrom_1 rfl hl (by decide) rfl (fun ls hl => ?_)
  refine lv_iconst (v := 0) hx hb dX5_reachedFrom_2 (by decide) ?_
  refine lv_istore_n (lv' := [(3, .int 0), (2, .int p1), (0, .ref ha0), (1, .int p1)]) hx hb dX5_reachedFrom_3 rfl hl (by decide) rfl (fun ls hl => ?_)
  have hL43 : ∀ (n : Nat) (v1 : Int32) (v2 : Int32) (ls : Array Slot), 0 ≤ v1.toInt → v1.toInt ≤ 12 → (12 - v1.toInt).toNat < n → lv_has ls 4 [(3, .int v1), (2, .int v2), (0, .ref ha0), (1, .int p1)] → W p l e (headSpec vsX5_reachedFrom ({ frames := 2, cells := 0, slots := 0, locals := 44 })).room s m ([.ref ha0, .int p1] : List Value).toArray below meth c s.heap [] 0 0 (MQ below (vp_Si (fun r => (-2147483648) ≤ r.toInt ∧ r.toInt ≤ 2147483647)) ([.ref ha0, .int p1] : List Value).toArray s 0 0 (fun _ => False)) (F0 m 4 ls []) := by
    intro n
    induction n with
    | zero =>
      intro v1 v2 ls hi44_0 hi44_1 hi44_m hl
      exact absurd hi44_m (Nat.not_lt_zero _)
    | succ n ih =>
      intro v1 v2 ls hi44_0 hi44_1 hi44_m hl
      have ih45 := ih
      refine lv_iload_n hx hb dX5_reachedFrom_4 rfl (lv_at hl 0 rfl) ?_
      refine lv_aload_n hx hb dX5_reachedFrom_5 rfl (lv_at hl 2 rfl) ?_
      refine va_get (D := (dC, dI)) (ci := 5) (v := .int ia0_1) (C := RX5) (T := TX5) (N := 2) hx hb hts in_X5_reachedFrom_X5 hown hK hP 1 rfl rfl 1 (by decide) (hts (.fieldLink RX5 15 "EachOnHisCue$Net" "lines" "I") (by decide +kernel)) (fun _ h9 => h9) rfl dX5_reachedFrom_6 ?_
      refine lv_icmp_ge (tgt := 26) hx hb dX5_reachedFrom_9 (by decide) (fun hc => ?_) (fun hc => ?_)
      · have q46 : ia0_1.toInt ≤ v1.toInt := z_le rfl rfl hc
        refine lv_iload_n hx hb dX5_reachedFrom_26 rfl (lv_at hl 1 rfl) ?_
        exact W.iret (v := v2) hx hb hr (fun t ht hW => ⟨v2, rfl, ⟨z_lo _, z_hi _⟩, ht⟩) (fun _ h => absurd h List.not_mem_nil) dX5_reachedFrom_27
      · have q47 : v1.toInt < ia0_1.toInt := z_nle rfl rfl hc
        refine lv_iload_n hx hb dX5_reachedFrom_12 rfl (lv_at hl 1 rfl) ?_
        refine lv_aload_n hx hb dX5_reachedFrom_13 rfl (lv_at hl 2 rfl) ?_
        refine lv_iload_n hx hb dX5_reachedFrom_14 rfl (lv_at hl 1 rfl) ?_
        refine z_rdi (va_runV (As := [.int v2]) (rest := [.int v2]) ⟨hx, hb, hml, hown, hts⟩ (rX5_stepFrom l dC dI cI cQ ha0 ha0_0 fa0_0 ia0_1 hia0_1l hia0_1h v2) (cwV 1 hts gv_X5_reachedFrom_X5_stepFrom_44 rfl rfl rfl (by decide +kernel) ⟨Nat.le_of_ble_eq_true rfl, Nat.le_of_ble_eq_true rfl⟩) ⟨z_blindR, va_recv hK hP (ci := 5) (q0 := 1) rfl rfl, z_preR hZ hP [0, 1] rfl⟩ rfl rfl hl.1 rfl (lv_room (Nat.le_of_ble_eq_true rfl)) dX5_reachedFrom_15 ⟨Nat.le_of_ble_eq_true rfl, Nat.le_of_ble_eq_true rfl⟩) (fun y48 hy48 => ?_)
        obtain ⟨hy48_0, hy48_1⟩ := hy48
        refine lv_ior hx hb dX5_reachedFrom_18 ?_
        refine lv_topi (fun y49 ey49 => ?_)
        refine lv_istore_n (lv' := [(2, .int y49), (3, .int v1), (0, .ref ha0), (1, .int p1)]) hx hb dX5_reachedFrom_19 rfl hl (by decide) rfl (fun ls hl => ?_)
        obtain ⟨y50, ey50⟩ : ∃ y : Int32, y = v1 + 1 := ⟨_, rfl⟩
        refine lv_iinc (v := y50) (lv' := [(3, .int y50), (2, .int y49), (0, .ref ha0), (1, .int p1)]) hx hb dX5_reachedFrom_20 hl (k := 1) rfl (by rw [ey50]; rfl) (by decide) rfl (fun ls hl => ?_)
        have hy50 : y50.toInt = v1.toInt + 1 := by rw [ey50]; exact z_add rfl (by decide) (by omega) (by omega)
        refine lv_goto (tgt := 4) hx hb dX5_reachedFrom_23 (by decide) ?_
        exact ih45 y50 y49 ls (by first | decide | omega) (by first | decide | omega) (by omega) (lv_sub hl [0, 1, 2, 3] rfl)
  exact hL43 ((12 - (0 : Int32).toInt).toNat + 1) 0 p1 ls (by decide) (by decide) (by omega) hl
theorem dX5_fewestSteps_0 : decode cX5_fewestSteps 0 = .ok (.iconst 1, 1) := by decide +kernel
theorem dX5_fewestSteps_1 : decode cX5_fewestSteps 1 = .ok (.istore_n 1, 1) := by decide +kernel
theorem dX5_fewestSteps_2 : decode cX5_fewestSteps 2 = .ok (.iconst 0, 1) := by decide +kernel
theorem dX5_fewestSteps_3 : decode cX5_fewestSteps 3 = .ok (.istore_n 2, 1) := by decide +kernel
theorem dX5_fewestSteps_4 : decode cX5_fewestSteps 4 = .ok (.iload_n 2, 1) := by decide +kernel
theorem dX5_fewestSteps_5 : decode cX5_fewestSteps 5 = .ok (.aload_n 0, 1) := by decide +kernel
theorem dX5_fewestSteps_6 : decode cX5_fewestSteps 6 = .ok (.getfield 15, 3) := by decide +kernel
theorem dX5_fewestSteps_9 : decode cX5_fewestSteps 9 = .ok (.if_icmp .ge 33, 3) := by decide +kernel
theorem dX5_fewestSteps_12 : decode cX5_fewestSteps 12 = .ok (.iload_n 1, 1) := by decide +kernel
theorem dX5_fewestSteps_13 : decode cX5_fewestSteps 13 = .ok (.aload_n 0, 1) := by decide +kernel
theorem dX5_fewestSteps_14 : decode cX5_fewestSteps 14 = .ok (.getfield 15, 3) := by decide +kernel
theorem dX5_fewestSteps_17 : decode cX5_fewestSteps 17 = .ok (.iconst 1, 1) := by decide +kernel
theorem dX5_fewestSteps_18 : decode cX5_fewestSteps 18 = .ok (.isub, 1) := by decide +kernel
theorem dX5_fewestSteps_19 : decode cX5_fewestSteps 19 = .ok (.invokestatic 40, 3) := by decide +kernel
theorem dX5_fewestSteps_22 : decode cX5_fewestSteps 22 = .ok (.iconst 1, 1) := by decide +kernel
theorem dX5_fewestSteps_23 : decode cX5_fewestSteps 23 = .ok (.if_icmp .ne 5, 3) := by decide +kernel
theorem dX5_fewestSteps_26 : decode cX5_fewestSteps 26 = .ok (.iload_n 2, 1) := by decide +kernel
theorem dX5_fewestSteps_27 : decode cX5_fewestSteps 27 = .ok (.ireturn, 1) := by decide +kernel
theorem dX5_fewestSteps_28 : decode cX5_fewestSteps 28 = .ok (.iload_n 1, 1) := by decide +kernel
theorem dX5_fewestSteps_29 : decode cX5_fewestSteps 29 = .ok (.aload_n 0, 1) := by decide +kernel
theorem dX5_fewestSteps_30 : decode cX5_fewestSteps 30 = .ok (.iload_n 1, 1) := by decide +kernel
theorem dX5_fewestSteps_31 : decode cX5_fewestSteps 31 = .ok (.invokevirtual 44, 3) := by decide +kernel
theorem dX5_fewestSteps_34 : decode cX5_fewestSteps 34 = .ok (.ior, 1) := by decide +kernel
theorem dX5_fewestSteps_35 : decode cX5_fewestSteps 35 = .ok (.istore_n 1, 1) := by decide +kernel
theorem dX5_fewestSteps_36 : decode cX5_fewestSteps 36 = .ok (.iinc 2 1, 3) := by decide +kernel
theorem dX5_fewestSteps_39 : decode cX5_fewestSteps 39 = .ok (.goto (-35), 3) := by decide +kernel
theorem dX5_fewestSteps_42 : decode cX5_fewestSteps 42 = .ok (.bipush (-9), 2) := by decide +kernel
theorem dX5_fewestSteps_44 : decode cX5_fewestSteps 44 = .ok (.ireturn, 1) := by decide +kernel
noncomputable def voX5_fewestSteps : List Cond := [.fieldLink RX5 15 "EachOnHisCue$Net" "lines" "I", .initialized RX11, .static yX11_bitAt, .methodLink RX5 44 yX5_stepFrom, .instanceMethod yX5_stepFrom, .selects RX5 yX5_stepFrom yX5_stepFrom, .initialized RX5]
noncomputable def vsX5_fewestSteps : List Cond := .code yX5_fewestSteps cX5_fewestSteps 3 (some .int) :: (voX5_fewestSteps ++ (vsX11_bitAt ++ (vsX5_stepFrom ++ (wsX50))))
theorem zgX5_fewestSteps : zGd vsX5_fewestSteps := z_gdC rfl (z_gdA (z_gdO (by decide +kernel) : zGd voX5_fewestSteps) (z_gdA zgX11_bitAt (z_gdA zgX5_stepFrom (zgX5))))
theorem in_X5_fewestSteps_X5 : ∀ w ∈ wsX50, w ∈ vsX5_fewestSteps := fun _ h => List.mem_cons_of_mem _ (List.mem_append_right _ (List.mem_append_right _ (List.mem_append_right _ (h))))
theorem gw_X5_fewestSteps_X11_bitAt : GoodIn vsX5_fewestSteps vsX11_bitAt := z_gdI (fun _ h => List.mem_cons_of_mem _ (List.mem_append_right _ (List.mem_append_left _ h))) zgX11_bitAt
set_option maxRecDepth 20000 in
theorem gv_X5_fewestSteps_X11_bitAt_40 : GoodIn vsX5_fewestSteps (vsX11_bitAt) := gw_X5_fewestSteps_X11_bitAt
theorem gw_X5_fewestSteps_X5_stepFrom : GoodIn vsX5_fewestSteps vsX5_stepFrom := z_gdI (fun _ h => List.mem_cons_of_mem _ (List.mem_append_right _ (List.mem_append_right _ (List.mem_append_left _ h)))) zgX5_stepFrom
set_option maxRecDepth 20000 in
theorem gv_X5_fewestSteps_X5_stepFrom_44 : GoodIn vsX5_fewestSteps (wsV RX5 44 RX5 yX5_stepFrom vsX5_stepFrom) := goodIn_app (goodIn_of _ (by decide +kernel)) gw_X5_fewestSteps_X5_stepFrom
set_option maxHeartbeats 4000000 in
set_option maxRecDepth 100000 in
theorem rX5_fewestSteps (l : Launch) (dC : Nat → ClassId) (dI : Nat → Nat → Nat) (cI cQ : ClassId) (ha0 ha0_0 : Nat) (fa0_0 : Nat → Int32) (ia0_1 : Int32) (hia0_1l : 0 ≤ ia0_1.toInt) (hia0_1h : ia0_1.toInt ≤ 12) : Met l yX5_fewestSteps vsX5_fewestSteps ({ frames := 2, cells := 0, slots := 0, locals := 44 }) (va_Pc [.ref ha0] (zRB dC dI cI cQ [(ha0_0, .inl (cI, 12, .inl fa0_0)), (ha0, .inr (5, [.ref ha0_0, .int ia0_1]))])) (vp_Si (fun r => (-9) ≤ r.toInt ∧ r.toInt ≤ 11)) 0 0 (fun _ => False) := by
  refine Met.ofW (cc := cX5_fewestSteps) (maxL := 3) (ret := (some .int)) (by decide) rfl ?_
  intro p e s m args below meth c s₁ B hml hv
  obtain ⟨rfl, hP, hZ⟩ := hv
  obtain ⟨hK, hAO, hN⟩ := id hZ
  have hx := B.exec
  have hb := B.bytes
  have hr := B.returns
  have hts := atoms_spec (ws := vsX5_fewestSteps) B.pre
  have hown : s.vm.findClass RX5 = some m.cls := findClass_of_methodNamed B.named
  have hlocks := B.notSynchronized
  have hl := lv_entry ([.ref ha0]) (n := 3) (Nat.le_of_ble_eq_true rfl)
  rw [lg_entry_eq]
  generalize (lg_sl ([.ref ha0]) ++ List.replicate (3 - (lg_sl ([.ref ha0])).length) Slot.unset).toArray = ls at hl ⊢
  have hl : lv_has ls 3 [(0, .ref ha0)] := hl
  refine lv_iconst (v := 1) hx hb dX5_fewestSteps_0 (by decide) ?_
  refine lv_istore_n (lv' := [(1, .int 1), (0, .ref ha0)]) hx hb dX5_fewestSteps_1 rfl hl (by decide) rfl (fun ls hl => ?_)
  refine lv_iconst (v := 0) hx hb dX5_fewestSteps_2 (by decide) ?_
  refine lv_istore_n (lv' := [(2, .int 0), (1, .int 1), (0, .ref ha0)]) hx hb dX5_fewestSteps_3 rfl hl (by decide) rfl (fun ls hl => ?_)
  have hL75 : ∀ (n : Nat) (v1 : Int32) (v2 : Int32) (ls : Array Slot), 0 ≤ v1.toInt → v1.toInt ≤ 12 → (12 - v1.toInt).toNat < n → lv_has ls 3 [(2, .int v1), (1, .int v2), (0, .ref ha0)] → W p l e (headSpec vsX5_fewestSteps ({ frames := 2, cells := 0, slots := 0, locals := 44 })).room s m ([.ref ha0] : List Value).toArray below meth c s.heap [] 0 0 (MQ below (vp_Si (fun r => (-9) ≤ r.toInt ∧ r.toInt ≤ 11)) ([.ref ha0] : List Value).toArray s 0 0 (fun _ => False)) (F0 m 4 ls []) := by
    intro n
    induction n with
    | zero =>
      intro v1 v2 ls hi76_0 hi76_1 hi76_m hl
      exact absurd hi76_m (Nat.not_lt_zero _)
    | succ n ih =>
      intro v1 v2 ls hi76_0 hi76_1 hi76_m hl
      have ih77 := ih
      refine lv_iload_n hx hb dX5_fewestSteps_4 rfl (lv_at hl 0 rfl) ?_
      refine lv_aload_n hx hb dX5_fewestSteps_5 rfl (lv_at hl 2 rfl) ?_
      refine va_get (D := (dC, dI)) (ci := 5) (v := .int ia0_1) (C := RX5) (T := TX5) (N := 2) hx hb hts in_X5_fewestSteps_X5 hown hK hP 1 rfl rfl 1 (by decide) (hts (.fieldLink RX5 15 "EachOnHisCue$Net" "lines" "I") (by decide +kernel)) (fun _ h9 => h9) rfl dX5_fewestSteps_6 ?_
      refine lv_icmp_ge (tgt := 42) hx hb dX5_fewestSteps_9 (by decide) (fun hc => ?_) (fun hc => ?_)
      · have q78 : ia0_1.toInt ≤ v1.toInt := z_le rfl rfl hc
        refine lv_bipush (v := (-9)) hx hb dX5_fewestSteps_42 (by decide) ?_
        exact W.iret (v := (-9)) hx hb hr (fun t ht hW => ⟨(-9), rfl, ⟨by first | decide | omega, by first | decide | omega⟩, ht⟩) (fun _ h => absurd h List.not_mem_nil) dX5_fewestSteps_44
      · have q79 : v1.toInt < ia0_1.toInt := z_nle rfl rfl hc
        refine lv_iload_n hx hb dX5_fewestSteps_12 rfl (lv_at hl 1 rfl) ?_
        refine lv_aload_n hx hb dX5_fewestSteps_13 rfl (lv_at hl 2 rfl) ?_
        refine va_get (D := (dC, dI)) (ci := 5) (v := .int ia0_1) (C := RX5) (T := TX5) (N := 2) hx hb hts in_X5_fewestSteps_X5 hown hK hP 1 rfl rfl 1 (by decide) (hts (.fieldLink RX5 15 "EachOnHisCue$Net" "lines" "I") (by decide +kernel)) (fun _ h9 => h9) rfl dX5_fewestSteps_14 ?_
        refine lv_iconst (v := 1) hx hb dX5_fewestSteps_17 (by decide) ?_
        refine lv_isub hx hb dX5_fewestSteps_18 ?_
        refine lv_topi (fun y80 ey80 => ?_)
        have hy80 : y80.toInt = ia0_1.toInt - 1 := by rw [ey80]; exact z_sub rfl (by decide) (by omega) (by omega)
        refine z_rdi (va_runSN (As := [.int v2, .int y80]) (rest := []) ⟨hx, hb, hml, hown, hts⟩ (rX11_bitAt l dC dI cI cQ v2 y80) ⟨va_cnB (host := "EachOnHisCue") 2 hts gv_X5_fewestSteps_X11_bitAt_40 rfl rfl rfl (hN.2.2.2.2.2.2.2.2.2.1) (hts (.initialized RX11) (by decide +kernel)) (by decide +kernel) ⟨Nat.le_of_ble_eq_true rfl, Nat.le_of_ble_eq_true rfl⟩, hts (.static yX11_bitAt) (by decide +kernel), trivial⟩ ⟨z_blindR, z_preR hZ hP [] rfl⟩ rfl rfl hl.1 rfl (lv_room (Nat.le_of_ble_eq_true rfl)) dX5_fewestSteps_19 ⟨Nat.le_of_ble_eq_true rfl, Nat.le_of_ble_eq_true rfl⟩) (fun y81 hy81 => ?_)
        obtain ⟨hy81_0, hy81_1, hy81_2⟩ := hy81
        refine lv_iconst (v := 1) hx hb dX5_fewestSteps_22 (by decide) ?_
        refine lv_icmp_ne (tgt := 28) hx hb dX5_fewestSteps_23 (by decide) (fun hc => ?_) (fun hc => ?_)
        · have q82 : y81.toInt ≠ 1 := z_ne rfl (by decide) hc
          refine lv_iload_n hx hb dX5_fewestSteps_28 rfl (lv_at hl 1 rfl) ?_
          refine lv_aload_n hx hb dX5_fewestSteps_29 rfl (lv_at hl 2 rfl) ?_
          refine lv_iload_n hx hb dX5_fewestSteps_30 rfl (lv_at hl 1 rfl) ?_
          refine z_rdi (va_runV (As := [.int v2]) (rest := [.int v2]) ⟨hx, hb, hml, hown, hts⟩ (rX5_stepFrom l dC dI cI cQ ha0 ha0_0 fa0_0 ia0_1 hia0_1l hia0_1h v2) (cwV 1 hts gv_X5_fewestSteps_X5_stepFrom_44 rfl rfl rfl (by decide +kernel) ⟨Nat.le_of_ble_eq_true rfl, Nat.le_of_ble_eq_true rfl⟩) ⟨z_blindR, va_recv hK hP (ci := 5) (q0 := 1) rfl rfl, z_preR hZ hP [0, 1] rfl⟩ rfl rfl hl.1 rfl (lv_room (Nat.le_of_ble_eq_true rfl)) dX5_fewestSteps_31 ⟨Nat.le_of_ble_eq_true rfl, Nat.le_of_ble_eq_true rfl⟩) (fun y83 hy83 => ?_)
          obtain ⟨hy83_0, hy83_1⟩ := hy83
          refine lv_ior hx hb dX5_fewestSteps_34 ?_
          refine lv_topi (fun y84 ey84 => ?_)
          refine lv_istore_n (lv' := [(1, .int y84), (2, .int v1), (0, .ref ha0)]) hx hb dX5_fewestSteps_35 rfl hl (by decide) rfl (fun ls hl => ?_)
          obtain ⟨y85, ey85⟩ : ∃ y : Int32, y = v1 + 1 := ⟨_, rfl⟩
          refine lv_iinc (v := y85) (lv' := [(2, .int y85), (1, .int y84), (0, .ref ha0)]) hx hb dX5_fewestSteps_36 hl (k := 1) rfl (by rw [ey85]; rfl) (by decide) rfl (fun ls hl => ?_)
          have hy85 : y85.toInt = v1.toInt + 1 := by rw [ey85]; exact z_add rfl (by decide) (by omega) (by omega)
          refine lv_goto (tgt := 4) hx hb dX5_fewestSteps_39 (by decide) ?_
          exact ih77 y85 y84 ls (by first | decide | omega) (by first | decide | omega) (by omega) (lv_sub hl [0, 1, 2] rfl)
        · have q86 : y81.toInt = 1 := z_eq rfl (by decide) hc
          refine lv_iload_n hx hb dX5_fewestSteps_26 rfl (lv_at hl 0 rfl) ?_
          exact W.iret (v := v1) hx hb hr (fun t ht hW => ⟨v1, rfl, ⟨by first | decide | omega, by first | decide | omega⟩, ht⟩) (fun _ h => absurd h List.not_mem_nil) dX5_fewestSteps_27
  exact hL75 ((12 - (0 : Int32).toInt).toNat + 1) 0 1 ls (by decide) (by decide) (by omega) hl
theorem dX5_hasRound_0 : decode cX5_hasRound 0 = .ok (.aload_n 0, 1) := by decide +kernel
theorem dX5_hasRound_1 : decode cX5_hasRound 1 = .ok (.iconst 1, 1) := by decide +kernel
theorem dX5_hasRound_2 : decode cX5_hasRound 2 = .ok (.invokevirtual 48, 3) := by decide +kernel
theorem dX5_hasRound_5 : decode cX5_hasRound 5 = .ok (.istore_n 1, 1) := by decide +kernel
theorem dX5_hasRound_6 : decode cX5_hasRound 6 = .ok (.iconst 0, 1) := by decide +kernel
theorem dX5_hasRound_7 : decode cX5_hasRound 7 = .ok (.istore_n 2, 1) := by decide +kernel
theorem dX5_hasRound_8 : decode cX5_hasRound 8 = .ok (.iload_n 2, 1) := by decide +kernel
theorem dX5_hasRound_9 : decode cX5_hasRound 9 = .ok (.aload_n 0, 1) := by decide +kernel
theorem dX5_hasRound_10 : decode cX5_hasRound 10 = .ok (.getfield 15, 3) := by decide +kernel
theorem dX5_hasRound_13 : decode cX5_hasRound 13 = .ok (.if_icmp .ge 38, 3) := by decide +kernel
theorem dX5_hasRound_16 : decode cX5_hasRound 16 = .ok (.iload_n 1, 1) := by decide +kernel
theorem dX5_hasRound_17 : decode cX5_hasRound 17 = .ok (.iload_n 2, 1) := by decide +kernel
theorem dX5_hasRound_18 : decode cX5_hasRound 18 = .ok (.invokestatic 40, 3) := by decide +kernel
theorem dX5_hasRound_21 : decode cX5_hasRound 21 = .ok (.iconst 1, 1) := by decide +kernel
theorem dX5_hasRound_22 : decode cX5_hasRound 22 = .ok (.if_icmp .ne 23, 3) := by decide +kernel
theorem dX5_hasRound_25 : decode cX5_hasRound 25 = .ok (.aload_n 0, 1) := by decide +kernel
theorem dX5_hasRound_26 : decode cX5_hasRound 26 = .ok (.aload_n 0, 1) := by decide +kernel
theorem dX5_hasRound_27 : decode cX5_hasRound 27 = .ok (.getfield 9, 3) := by decide +kernel
theorem dX5_hasRound_30 : decode cX5_hasRound 30 = .ok (.iload_n 2, 1) := by decide +kernel
theorem dX5_hasRound_31 : decode cX5_hasRound 31 = .ok (.iaload, 1) := by decide +kernel
theorem dX5_hasRound_32 : decode cX5_hasRound 32 = .ok (.invokevirtual 48, 3) := by decide +kernel
theorem dX5_hasRound_35 : decode cX5_hasRound 35 = .ok (.iload_n 2, 1) := by decide +kernel
theorem dX5_hasRound_36 : decode cX5_hasRound 36 = .ok (.invokestatic 40, 3) := by decide +kernel
theorem dX5_hasRound_39 : decode cX5_hasRound 39 = .ok (.iconst 1, 1) := by decide +kernel
theorem dX5_hasRound_40 : decode cX5_hasRound 40 = .ok (.if_icmp .ne 5, 3) := by decide +kernel
theorem dX5_hasRound_43 : decode cX5_hasRound 43 = .ok (.iconst 1, 1) := by decide +kernel
theorem dX5_hasRound_44 : decode cX5_hasRound 44 = .ok (.ireturn, 1) := by decide +kernel
theorem dX5_hasRound_45 : decode cX5_hasRound 45 = .ok (.iinc 2 1, 3) := by decide +kernel
theorem dX5_hasRound_48 : decode cX5_hasRound 48 = .ok (.goto (-40), 3) := by decide +kernel
theorem dX5_hasRound_51 : decode cX5_hasRound 51 = .ok (.iconst 0, 1) := by decide +kernel
theorem dX5_hasRound_52 : decode cX5_hasRound 52 = .ok (.ireturn, 1) := by decide +kernel
noncomputable def voX5_hasRound : List Cond := [.fieldLink RX5 15 "EachOnHisCue$Net" "lines" "I", .initialized RX11, .static yX11_bitAt, .fieldLink RX5 9 "EachOnHisCue$Net" "after" "[I", .methodLink RX5 48 yX5_reachedFrom, .instanceMethod yX5_reachedFrom, .selects RX5 yX5_reachedFrom yX5_reachedFrom, .initialized RX5]
noncomputable def vsX5_hasRound : List Cond := .code yX5_hasRound cX5_hasRound 3 (some .boolean) :: (voX5_hasRound ++ (vsX5_reachedFrom ++ (vsX11_bitAt ++ (wsX50))))
theorem zgX5_hasRound : zGd vsX5_hasRound := z_gdC rfl (z_gdA (z_gdO (by decide +kernel) : zGd voX5_hasRound) (z_gdA zgX5_reachedFrom (z_gdA zgX11_bitAt (zgX5))))
theorem in_X5_hasRound_X5 : ∀ w ∈ wsX50, w ∈ vsX5_hasRound := fun _ h => List.mem_cons_of_mem _ (List.mem_append_right _ (List.mem_append_right _ (List.mem_append_right _ (h))))
theorem gw_X5_hasRound_X5_reachedFrom : GoodIn vsX5_hasRound vsX5_reachedFrom := z_gdI (fun _ h => List.mem_cons_of_mem _ (List.mem_append_right _ (List.mem_append_left _ h))) zgX5_reachedFrom
set_option maxRecDepth 20000 in
theorem gv_X5_hasRound_X5_reachedFrom_48 : GoodIn vsX5_hasRound (wsV RX5 48 RX5 yX5_reachedFrom vsX5_reachedFrom) := goodIn_app (goodIn_of _ (by decide +kernel)) gw_X5_hasRound_X5_reachedFrom
theorem gw_X5_hasRound_X11_bitAt : GoodIn vsX5_hasRound vsX11_bitAt := z_gdI (fun _ h => List.mem_cons_of_mem _ (List.mem_append_right _ (List.mem_append_right _ (List.mem_append_left _ h)))) zgX11_bitAt
set_option maxRecDepth 20000 in
theorem gv_X5_hasRound_X11_bitAt_40 : GoodIn vsX5_hasRound (vsX11_bitAt) := gw_X5_hasRound_X11_bitAt
set_option maxHeartbeats 4000000 in
set_option maxRecDepth 100000 in
theorem rX5_hasRound (l : Launch) (dC : Nat → ClassId) (dI : Nat → Nat → Nat) (cI cQ : ClassId) (ha0 ha0_0 : Nat) (fa0_0 : Nat → Int32) (ia0_1 : Int32) (hia0_1l : 0 ≤ ia0_1.toInt) (hia0_1h : ia0_1.toInt ≤ 12) : Met l yX5_hasRound vsX5_hasRound ({ frames := 3, cells := 0, slots := 0, locals := 67 }) (va_Pc [.ref ha0] (zRB dC dI cI cQ [(ha0_0, .inl (cI, 12, .inl fa0_0)), (ha0, .inr (5, [.ref ha0_0, .int ia0_1]))])) (vp_Si (fun r => 0 ≤ r.toInt ∧ r.toInt ≤ 1)) 0 0 (fun _ => False) := by
  refine Met.ofW (cc := cX5_hasRound) (maxL := 3) (ret := (some .boolean)) (by decide) rfl ?_
  intro p e s m args below meth c s₁ B hml hv
  obtain ⟨rfl, hP, hZ⟩ := hv
  obtain ⟨hK, hAO, hN⟩ := id hZ
  have hx := B.exec
  have hb := B.bytes
  have hr := B.returns
  have hts := atoms_spec (ws := vsX5_hasRound) B.pre
  have hown : s.vm.findClass RX5 = some m.cls := findClass_of_methodNamed B.named
  have hlocks := B.notSynchronized
  have hl := lv_entry ([.ref ha0]) (n := 3) (Nat.le_of_ble_eq_true rfl)
  rw [lg_entry_eq]
  generalize (lg_sl ([.ref ha0]) ++ List.replicate (3 - (lg_sl ([.ref ha0])).length) Slot.unset).toArray = ls at hl ⊢
  have hl : lv_has ls 3 [(0, .ref ha0)] := hl
  refine lv_aload_n hx hb dX5_hasRound_0 rfl (lv_at hl 0 rfl) ?_
  refine lv_iconst (v := 1) hx hb dX5_hasRound_1 (by decide) ?_
  refine z_rdi (va_runV (As := [.int 1]) (rest := []) ⟨hx, hb, hml, hown, hts⟩ (rX5_reachedFrom l dC dI cI cQ ha0 ha0_0 fa0_0 ia0_1 hia0_1l hia0_1h 1) (cwV 1 hts gv_X5_hasRound_X5_reachedFrom_48 rfl rfl rfl (by decide +kernel) ⟨Nat.le_of_ble_eq_true rfl, Nat.le_of_ble_eq_true rfl⟩) ⟨z_blindR, va_recv hK hP (ci := 5) (q0 := 1) rfl rfl, z_preR hZ hP [0, 1] rfl⟩ rfl rfl hl.1 rfl (lv_room (Nat.le_of_ble_eq_true rfl)) dX5_hasRound_2 ⟨Nat.le_of_ble_eq_true rfl, Nat.le_of_ble_eq_true rfl⟩) (fun y1 hy1 => ?_)
  obtain ⟨hy1_0, hy1_1⟩ := hy1
  refine lv_istore_n (lv' := [(1, .int y1), (0, .ref ha0)]) hx hb dX5_hasRound_5 rfl hl (by decide) rfl (fun ls hl => ?_)
  refine lv_iconst (v := 0) hx hb dX5_hasRound_6 (by decide) ?_
  refine lv_istore_n (lv' := [(2, .int 0), (1, .int y1), (0, .ref ha0)]) hx hb dX5_hasRound_7 rfl hl (by decide) rfl (fun ls hl => ?_)
  have hL99 : ∀ (n : Nat) (v2 : Int32) (ls : Array Slot), 0 ≤ v2.toInt → v2.toInt ≤ 12 → (12 - v2.toInt).toNat < n → lv_has ls 3 [(2, .int v2), (1, .int y1), (0, .ref ha0)] → W p l e (headSpec vsX5_hasRound ({ frames := 3, cells := 0, slots := 0, locals := 67 })).room s m ([.ref ha0] : List Value).toArray below meth c s.heap [] 0 0 (MQ below (vp_Si (fun r => 0 ≤ r.toInt ∧ r.toInt ≤ 1)) ([.ref ha0] : List Value).toArray s 0 0 (fun _ => False)) (F0 m 8 ls []) := by
    intro n
    induction n with
    | zero =>
      intro v2 ls hi100_0 hi100_1 hi100_m hl
      exact absurd hi100_m (Nat.not_lt_zero _)
    | succ n ih =>
      intro v2 ls hi100_0 hi100_1 hi100_m hl
      have ih101 := ih
      refine lv_iload_n hx hb dX5_hasRound_8 rfl (lv_at hl 0 rfl) ?_
      refine lv_aload_n hx hb dX5_hasRound_9 rfl (lv_at hl 2 rfl) ?_
      refine va_get (D := (dC, dI)) (ci := 5) (v := .int ia0_1) (C := RX5) (T := TX5) (N := 2) hx hb hts in_X5_hasRound_X5 hown hK hP 1 rfl rfl 1 (by decide) (hts (.fieldLink RX5 15 "EachOnHisCue$Net" "lines" "I") (by decide +kernel)) (fun _ h9 => h9) rfl dX5_hasRound_10 ?_
      refine lv_icmp_ge (tgt := 51) hx hb dX5_hasRound_13 (by decide) (fun hc => ?_) (fun hc => ?_)
      · have q102 : ia0_1.toInt ≤ v2.toInt := z_le rfl rfl hc
        refine lv_iconst (v := 0) hx hb dX5_hasRound_51 (by decide) ?_
        exact W.zret (v := 0) hx hb hr (rfl) (fun t ht hW => ⟨0, rfl, ⟨by first | decide | omega, by first | decide | omega⟩, ht⟩) (fun _ h => absurd h List.not_mem_nil) dX5_hasRound_52
      · have q103 : v2.toInt < ia0_1.toInt := z_nle rfl rfl hc
        refine lv_iload_n hx hb dX5_hasRound_16 rfl (lv_at hl 1 rfl) ?_
        refine lv_iload_n hx hb dX5_hasRound_17 rfl (lv_at hl 0 rfl) ?_
        refine z_rdi (va_runSN (As := [.int y1, .int v2]) (rest := []) ⟨hx, hb, hml, hown, hts⟩ (rX11_bitAt l dC dI cI cQ y1 v2) ⟨va_cnB (host := "EachOnHisCue") 2 hts gv_X5_hasRound_X11_bitAt_40 rfl rfl rfl (hN.2.2.2.2.2.2.2.2.2.1) (hts (.initialized RX11) (by decide +kernel)) (by decide +kernel) ⟨Nat.le_of_ble_eq_true rfl, Nat.le_of_ble_eq_true rfl⟩, hts (.static yX11_bitAt) (by decide +kernel), trivial⟩ ⟨z_blindR, z_preR hZ hP [] rfl⟩ rfl rfl hl.1 rfl (lv_room (Nat.le_of_ble_eq_true rfl)) dX5_hasRound_18 ⟨Nat.le_of_ble_eq_true rfl, Nat.le_of_ble_eq_true rfl⟩) (fun y104 hy104 => ?_)
        obtain ⟨hy104_0, hy104_1, hy104_2⟩ := hy104
        refine lv_iconst (v := 1) hx hb dX5_hasRound_21 (by decide) ?_
        refine lv_icmp_ne (tgt := 45) hx hb dX5_hasRound_22 (by decide) (fun hc => ?_) (fun hc => ?_)
        · have q105 : y104.toInt ≠ 1 := z_ne rfl (by decide) hc
          obtain ⟨y106, ey106⟩ : ∃ y : Int32, y = v2 + 1 := ⟨_, rfl⟩
          refine lv_iinc (v := y106) (lv' := [(2, .int y106), (1, .int y1), (0, .ref ha0)]) hx hb dX5_hasRound_45 hl (k := 0) rfl (by rw [ey106]; rfl) (by decide) rfl (fun ls hl => ?_)
          have hy106 : y106.toInt = v2.toInt + 1 := by rw [ey106]; exact z_add rfl (by decide) (by omega) (by omega)
          refine lv_goto (tgt := 8) hx hb dX5_hasRound_48 (by decide) ?_
          exact ih101 y106 ls (by first | decide | omega) (by first | decide | omega) (by omega) (lv_sub hl [0, 1, 2] rfl)
        · have q107 : y104.toInt = 1 := z_eq rfl (by decide) hc
          refine lv_aload_n hx hb dX5_hasRound_25 rfl (lv_at hl 2 rfl) ?_
          refine lv_aload_n hx hb dX5_hasRound_26 rfl (lv_at hl 2 rfl) ?_
          refine va_get (D := (dC, dI)) (ci := 5) (v := .ref ha0_0) (C := RX5) (T := TX5) (N := 2) hx hb hts in_X5_hasRound_X5 hown hK hP 1 rfl rfl 0 (by decide) (hts (.fieldLink RX5 9 "EachOnHisCue$Net" "after" "[I") (by decide +kernel)) (fun _ h9 => h9) rfl dX5_hasRound_27 ?_
          refine lv_iload_n hx hb dX5_hasRound_30 rfl (lv_at hl 0 rfl) ?_
          refine va_iald hx hb hK hP 0 0 rfl rfl (z_in (by omega) (by omega)) dX5_hasRound_31 ?_
          refine lv_topi (fun y108 ey108 => ?_)
          have gy108 : y108.toInt = (fa0_0 (v2 : Int32).toNatClampNeg).toInt := by rw [ey108]
          refine z_rdi (va_runV (As := [.int y108]) (rest := []) ⟨hx, hb, hml, hown, hts⟩ (rX5_reachedFrom l dC dI cI cQ ha0 ha0_0 fa0_0 ia0_1 hia0_1l hia0_1h y108) (cwV 1 hts gv_X5_hasRound_X5_reachedFrom_48 rfl rfl rfl (by decide +kernel) ⟨Nat.le_of_ble_eq_true rfl, Nat.le_of_ble_eq_true rfl⟩) ⟨z_blindR, va_recv hK hP (ci := 5) (q0 := 1) rfl rfl, z_preR hZ hP [0, 1] rfl⟩ rfl rfl hl.1 rfl (lv_room (Nat.le_of_ble_eq_true rfl)) dX5_hasRound_32 ⟨Nat.le_of_ble_eq_true rfl, Nat.le_of_ble_eq_true rfl⟩) (fun y109 hy109 => ?_)
          obtain ⟨hy109_0, hy109_1⟩ := hy109
          refine lv_iload_n hx hb dX5_hasRound_35 rfl (lv_at hl 0 rfl) ?_
          refine z_rdi (va_runSN (As := [.int y109, .int v2]) (rest := []) ⟨hx, hb, hml, hown, hts⟩ (rX11_bitAt l dC dI cI cQ y109 v2) ⟨va_cnB (host := "EachOnHisCue") 2 hts gv_X5_hasRound_X11_bitAt_40 rfl rfl rfl (hN.2.2.2.2.2.2.2.2.2.1) (hts (.initialized RX11) (by decide +kernel)) (by decide +kernel) ⟨Nat.le_of_ble_eq_true rfl, Nat.le_of_ble_eq_true rfl⟩, hts (.static yX11_bitAt) (by decide +kernel), trivial⟩ ⟨z_blindR, z_preR hZ hP [] rfl⟩ rfl rfl hl.1 rfl (lv_room (Nat.le_of_ble_eq_true rfl)) dX5_hasRound_36 ⟨Nat.le_of_ble_eq_true rfl, Nat.le_of_ble_eq_true rfl⟩) (fun y110 hy110 => ?_)
          obtain ⟨hy110_0, hy110_1, hy110_2⟩ := hy110
          refine lv_iconst (v := 1) hx hb dX5_hasRound_39 (by decide) ?_
          refine lv_icmp_ne (tgt := 45) hx hb dX5_hasRound_40 (by decide) (fun hc => ?_) (fun hc => ?_)
          · have q111 : y110.toInt ≠ 1 := z_ne rfl (by decide) hc
            obtain ⟨y112, ey112⟩ : ∃ y : Int32, y = v2 + 1 := ⟨_, rfl⟩
            refine lv_iinc (v := y112) (lv' := [(2, .int y112), (1, .int y1), (0, .ref ha0)]) hx hb dX5_hasRound_45 hl (k := 0) rfl (by rw [ey112]; rfl) (by decide) rfl (fun ls hl => ?_)
            have hy112 : y112.toInt = v2.toInt + 1 := by rw [ey112]; exact z_add rfl (by decide) (by omega) (by omega)
            refine lv_goto (tgt := 8) hx hb dX5_hasRound_48 (by decide) ?_
            exact ih101 y112 ls (by first | decide | omega) (by first | decide | omega) (by omega) (lv_sub hl [0, 1, 2] rfl)
          · have q113 : y110.toInt = 1 := z_eq rfl (by decide) hc
            refine lv_iconst (v := 1) hx hb dX5_hasRound_43 (by decide) ?_
            exact W.zret (v := 1) hx hb hr (rfl) (fun t ht hW => ⟨1, rfl, ⟨by first | decide | omega, by first | decide | omega⟩, ht⟩) (fun _ h => absurd h List.not_mem_nil) dX5_hasRound_44
  exact hL99 ((12 - (0 : Int32).toInt).toNat + 1) 0 ls (by decide) (by decide) (by omega) hl
theorem dX5_isSure_0 : decode cX5_isSure 0 = .ok (.iconst 0, 1) := by decide +kernel
theorem dX5_isSure_1 : decode cX5_isSure 1 = .ok (.istore_n 1, 1) := by decide +kernel
theorem dX5_isSure_2 : decode cX5_isSure 2 = .ok (.iload_n 1, 1) := by decide +kernel
theorem dX5_isSure_3 : decode cX5_isSure 3 = .ok (.aload_n 0, 1) := by decide +kernel
theorem dX5_isSure_4 : decode cX5_isSure 4 = .ok (.getfield 15, 3) := by decide +kernel
theorem dX5_isSure_7 : decode cX5_isSure 7 = .ok (.if_icmp .ge 41, 3) := by decide +kernel
theorem dX5_isSure_10 : decode cX5_isSure 10 = .ok (.iload_n 1, 1) := by decide +kernel
theorem dX5_isSure_11 : decode cX5_isSure 11 = .ok (.aload_n 0, 1) := by decide +kernel
theorem dX5_isSure_12 : decode cX5_isSure 12 = .ok (.getfield 15, 3) := by decide +kernel
theorem dX5_isSure_15 : decode cX5_isSure 15 = .ok (.iconst 1, 1) := by decide +kernel
theorem dX5_isSure_16 : decode cX5_isSure 16 = .ok (.isub, 1) := by decide +kernel
theorem dX5_isSure_17 : decode cX5_isSure 17 = .ok (.if_icmp .ne 7, 3) := by decide +kernel
theorem dX5_isSure_20 : decode cX5_isSure 20 = .ok (.iconst 0, 1) := by decide +kernel
theorem dX5_isSure_21 : decode cX5_isSure 21 = .ok (.goto 8, 3) := by decide +kernel
theorem dX5_isSure_24 : decode cX5_isSure 24 = .ok (.iconst 1, 1) := by decide +kernel
theorem dX5_isSure_25 : decode cX5_isSure 25 = .ok (.iload_n 1, 1) := by decide +kernel
theorem dX5_isSure_26 : decode cX5_isSure 26 = .ok (.iconst 1, 1) := by decide +kernel
theorem dX5_isSure_27 : decode cX5_isSure 27 = .ok (.iadd, 1) := by decide +kernel
theorem dX5_isSure_28 : decode cX5_isSure 28 = .ok (.ishl, 1) := by decide +kernel
theorem dX5_isSure_29 : decode cX5_isSure 29 = .ok (.istore_n 2, 1) := by decide +kernel
theorem dX5_isSure_30 : decode cX5_isSure 30 = .ok (.aload_n 0, 1) := by decide +kernel
theorem dX5_isSure_31 : decode cX5_isSure 31 = .ok (.getfield 9, 3) := by decide +kernel
theorem dX5_isSure_34 : decode cX5_isSure 34 = .ok (.iload_n 1, 1) := by decide +kernel
theorem dX5_isSure_35 : decode cX5_isSure 35 = .ok (.iaload, 1) := by decide +kernel
theorem dX5_isSure_36 : decode cX5_isSure 36 = .ok (.iload_n 2, 1) := by decide +kernel
theorem dX5_isSure_37 : decode cX5_isSure 37 = .ok (.if_icmp .eq 5, 3) := by decide +kernel
theorem dX5_isSure_40 : decode cX5_isSure 40 = .ok (.iconst 0, 1) := by decide +kernel
theorem dX5_isSure_41 : decode cX5_isSure 41 = .ok (.ireturn, 1) := by decide +kernel
theorem dX5_isSure_42 : decode cX5_isSure 42 = .ok (.iinc 1 1, 3) := by decide +kernel
theorem dX5_isSure_45 : decode cX5_isSure 45 = .ok (.goto (-43), 3) := by decide +kernel
theorem dX5_isSure_48 : decode cX5_isSure 48 = .ok (.iconst 1, 1) := by decide +kernel
theorem dX5_isSure_49 : decode cX5_isSure 49 = .ok (.ireturn, 1) := by decide +kernel
noncomputable def voX5_isSure : List Cond := [.fieldLink RX5 15 "EachOnHisCue$Net" "lines" "I", .fieldLink RX5 9 "EachOnHisCue$Net" "after" "[I"]
noncomputable def vsX5_isSure : List Cond := .code yX5_isSure cX5_isSure 3 (some .boolean) :: (voX5_isSure ++ (wsX50))
theorem zgX5_isSure : zGd vsX5_isSure := z_gdC rfl (z_gdA (z_gdO (by decide +kernel) : zGd voX5_isSure) (zgX5))
theorem in_X5_isSure_X5 : ∀ w ∈ wsX50, w ∈ vsX5_isSure := fun _ h => List.mem_cons_of_mem _ (List.mem_append_right _ (h))
set_option maxHeartbeats 4000000 in
set_option maxRecDepth 100000 in
theorem rX5_isSure (l : Launch) (dC : Nat → ClassId) (dI : Nat → Nat → Nat) (cI cQ : ClassId) (ha0 ha0_0 : Nat) (fa0_0 : Nat → Int32) (ia0_1 : Int32) (hia0_1l : 0 ≤ ia0_1.toInt) (hia0_1h : ia0_1.toInt ≤ 12) : Met l yX5_isSure vsX5_isSure ({ frames := 0, cells := 0, slots := 0, locals := 0 }) (va_Pc [.ref ha0] (zRB dC dI cI cQ [(ha0_0, .inl (cI, 12, .inl fa0_0)), (ha0, .inr (5, [.ref ha0_0, .int ia0_1]))])) (vp_Si (fun r => 0 ≤ r.toInt ∧ r.toInt ≤ 1)) 0 0 (fun _ => False) := by
  refine Met.ofW (cc := cX5_isSure) (maxL := 3) (ret := (some .boolean)) (by decide) rfl ?_
  intro p e s m args below meth c s₁ B hml hv
  obtain ⟨rfl, hP, hZ⟩ := hv
  obtain ⟨hK, hAO, hN⟩ := id hZ
  have hx := B.exec
  have hb := B.bytes
  have hr := B.returns
  have hts := atoms_spec (ws := vsX5_isSure) B.pre
  have hown : s.vm.findClass RX5 = some m.cls := findClass_of_methodNamed B.named
  have hlocks := B.notSynchronized
  have hl := lv_entry ([.ref ha0]) (n := 3) (Nat.le_of_ble_eq_true rfl)
  rw [lg_entry_eq]
  generalize (lg_sl ([.ref ha0]) ++ List.replicate (3 - (lg_sl ([.ref ha0])).length) Slot.unset).toArray = ls at hl ⊢
  have hl : lv_has ls 3 [(0, .ref ha0)] := hl
  refine lv_iconst (v := 0) hx hb dX5_isSure_0 (by decide) ?_
  refine lv_istore_n (lv' := [(1, .int 0), (0, .ref ha0)]) hx hb dX5_isSure_1 rfl hl (by decide) rfl (fun ls hl => ?_)
  have hL122 : ∀ (n : Nat) (v1 : Int32) (ls : Array Slot), 0 ≤ v1.toInt → v1.toInt ≤ 12 → (12 - v1.toInt).toNat < n → lv_has ls 3 [(1, .int v1), (0, .ref ha0)] → W p l e (headSpec vsX5_isSure ({ frames := 0, cells := 0, slots := 0, locals := 0 })).room s m ([.ref ha0] : List Value).toArray below meth c s.heap [] 0 0 (MQ below (vp_Si (fun r => 0 ≤ r.toInt ∧ r.toInt ≤ 1)) ([.ref ha0] : List Value).toArray s 0 0 (fun _ => False)) (F0 m 2 ls []) := by
    intro n
    induction n with
    | zero =>
      intro v1 ls hi123_0 hi123_1 hi123_m hl
      exact absurd hi123_m (Nat.not_lt_zero _)
    | succ n ih =>
      intro v1 ls hi123_0 hi123_1 hi123_m hl
      have ih124 := ih
      refine lv_iload_n hx hb dX5_isSure_2 rfl (lv_at hl 0 rfl) ?_
      refine lv_aload_n hx hb dX5_isSure_3 rfl (lv_at hl 1 rfl) ?_
      refine va_get (D := (dC, dI)) (ci := 5) (v := .int ia0_1) (C := RX5) (T := TX5) (N := 2) hx hb hts in_X5_isSure_X5 hown hK hP 1 rfl rfl 1 (by decide) (hts (.fieldLink RX5 15 "EachOnHisCue$Net" "lines" "I") (by decide +kernel)) (fun _ h9 => h9) rfl dX5_isSure_4 ?_
      refine lv_icmp_ge (tgt := 48) hx hb dX5_isSure_7 (by decide) (fun hc => ?_) (fun hc => ?_)
      · have q125 : ia0_1.toInt ≤ v1.toInt := z_le rfl rfl hc
        refine lv_iconst (v := 1) hx hb dX5_isSure_48 (by decide) ?_
        exact W.zret (v := 1) hx hb hr (rfl) (fun t ht hW => ⟨1, rfl, ⟨by first | decide | omega, by first | decide | omega⟩, ht⟩) (fun _ h => absurd h List.not_mem_nil) dX5_isSure_49
      · have q126 : v1.toInt < ia0_1.toInt := z_nle rfl rfl hc
        refine lv_iload_n hx hb dX5_isSure_10 rfl (lv_at hl 0 rfl) ?_
        refine lv_aload_n hx hb dX5_isSure_11 rfl (lv_at hl 1 rfl) ?_
        refine va_get (D := (dC, dI)) (ci := 5) (v := .int ia0_1) (C := RX5) (T := TX5) (N := 2) hx hb hts in_X5_isSure_X5 hown hK hP 1 rfl rfl 1 (by decide) (hts (.fieldLink RX5 15 "EachOnHisCue$Net" "lines" "I") (by decide +kernel)) (fun _ h9 => h9) rfl dX5_isSure_12 ?_
        refine lv_iconst (v := 1) hx hb dX5_isSure_15 (by decide) ?_
        refine lv_isub hx hb dX5_isSure_16 ?_
        refine lv_topi (fun y127 ey127 => ?_)
        have hy127 : y127.toInt = ia0_1.toInt - 1 := by rw [ey127]; exact z_sub rfl (by decide) (by omega) (by omega)
        refine lv_icmp_ne (tgt := 24) hx hb dX5_isSure_17 (by decide) (fun hc => ?_) (fun hc => ?_)
        · have q128 : v1.toInt ≠ y127.toInt := z_ne rfl rfl hc
          refine lv_iconst (v := 1) hx hb dX5_isSure_24 (by decide) ?_
          refine lv_iload_n hx hb dX5_isSure_25 rfl (lv_at hl 0 rfl) ?_
          refine lv_iconst (v := 1) hx hb dX5_isSure_26 (by decide) ?_
          refine lv_iadd hx hb dX5_isSure_27 ?_
          refine lv_topi (fun y129 ey129 => ?_)
          have hy129 : y129.toInt = v1.toInt + 1 := by rw [ey129]; exact z_add rfl (by decide) (by omega) (by omega)
          refine lv_ishl hx hb dX5_isSure_28 ?_
          refine lv_topi (fun y130 ey130 => ?_)
          refine lv_istore_n (lv' := [(2, .int y130), (1, .int v1), (0, .ref ha0)]) hx hb dX5_isSure_29 rfl hl (by decide) rfl (fun ls hl => ?_)
          refine lv_aload_n hx hb dX5_isSure_30 rfl (lv_at hl 2 rfl) ?_
          refine va_get (D := (dC, dI)) (ci := 5) (v := .ref ha0_0) (C := RX5) (T := TX5) (N := 2) hx hb hts in_X5_isSure_X5 hown hK hP 1 rfl rfl 0 (by decide) (hts (.fieldLink RX5 9 "EachOnHisCue$Net" "after" "[I") (by decide +kernel)) (fun _ h9 => h9) rfl dX5_isSure_31 ?_
          refine lv_iload_n hx hb dX5_isSure_34 rfl (lv_at hl 1 rfl) ?_
          refine va_iald hx hb hK hP 0 0 rfl rfl (z_in (by omega) (by omega)) dX5_isSure_35 ?_
          refine lv_topi (fun y131 ey131 => ?_)
          have gy131 : y131.toInt = (fa0_0 (v1 : Int32).toNatClampNeg).toInt := by rw [ey131]
          refine lv_iload_n hx hb dX5_isSure_36 rfl (lv_at hl 0 rfl) ?_
          refine lv_icmp_eq (tgt := 42) hx hb dX5_isSure_37 (by decide) (fun hc => ?_) (fun hc => ?_)
          · have q132 : y131.toInt = y130.toInt := z_eq rfl rfl hc
            obtain ⟨y133, ey133⟩ : ∃ y : Int32, y = v1 + 1 := ⟨_, rfl⟩
            refine lv_iinc (v := y133) (lv' := [(1, .int y133), (2, .int y130), (0, .ref ha0)]) hx hb dX5_isSure_42 hl (k := 1) rfl (by rw [ey133]; rfl) (by decide) rfl (fun ls hl => ?_)
            have hy133 : y133.toInt = v1.toInt + 1 := by rw [ey133]; exact z_add rfl (by decide) (by omega) (by omega)
            refine lv_goto (tgt := 2) hx hb dX5_isSure_45 (by decide) ?_
            exact ih124 y133 ls (by first | decide | omega) (by first | decide | omega) (by omega) (lv_sub hl [0, 2] rfl)
          · have q134 : y131.toInt ≠ y130.toInt := z_ne rfl rfl hc
            refine lv_iconst (v := 0) hx hb dX5_isSure_40 (by decide) ?_
            exact W.zret (v := 0) hx hb hr (rfl) (fun t ht hW => ⟨0, rfl, ⟨by first | decide | omega, by first | decide | omega⟩, ht⟩) (fun _ h => absurd h List.not_mem_nil) dX5_isSure_41
        · have q135 : v1.toInt = y127.toInt := z_eq rfl rfl hc
          refine lv_iconst (v := 0) hx hb dX5_isSure_20 (by decide) ?_
          refine lv_goto (tgt := 29) hx hb dX5_isSure_21 (by decide) ?_
          refine lv_istore_n (lv' := [(2, .int 0), (1, .int v1), (0, .ref ha0)]) hx hb dX5_isSure_29 rfl hl (by decide) rfl (fun ls hl => ?_)
          refine lv_aload_n hx hb dX5_isSure_30 rfl (lv_at hl 2 rfl) ?_
          refine va_get (D := (dC, dI)) (ci := 5) (v := .ref ha0_0) (C := RX5) (T := TX5) (N := 2) hx hb hts in_X5_isSure_X5 hown hK hP 1 rfl rfl 0 (by decide) (hts (.fieldLink RX5 9 "EachOnHisCue$Net" "after" "[I") (by decide +kernel)) (fun _ h9 => h9) rfl dX5_isSure_31 ?_
          refine lv_iload_n hx hb dX5_isSure_34 rfl (lv_at hl 1 rfl) ?_
          refine va_iald hx hb hK hP 0 0 rfl rfl (z_in (by omega) (by omega)) dX5_isSure_35 ?_
          refine lv_topi (fun y136 ey136 => ?_)
          have gy136 : y136.toInt = (fa0_0 (v1 : Int32).toNatClampNeg).toInt := by rw [ey136]
          refine lv_iload_n hx hb dX5_isSure_36 rfl (lv_at hl 0 rfl) ?_
          refine lv_icmp_eq (tgt := 42) hx hb dX5_isSure_37 (by decide) (fun hc => ?_) (fun hc => ?_)
          · have q137 : y136.toInt = 0 := z_eq rfl (by decide) hc
            obtain ⟨y138, ey138⟩ : ∃ y : Int32, y = v1 + 1 := ⟨_, rfl⟩
            refine lv_iinc (v := y138) (lv' := [(1, .int y138), (2, .int 0), (0, .ref ha0)]) hx hb dX5_isSure_42 hl (k := 1) rfl (by rw [ey138]; rfl) (by decide) rfl (fun ls hl => ?_)
            have hy138 : y138.toInt = v1.toInt + 1 := by rw [ey138]; exact z_add rfl (by decide) (by omega) (by omega)
            refine lv_goto (tgt := 2) hx hb dX5_isSure_45 (by decide) ?_
            exact ih124 y138 ls (by first | decide | omega) (by first | decide | omega) (by omega) (lv_sub hl [0, 2] rfl)
          · have q139 : y136.toInt ≠ 0 := z_ne rfl (by decide) hc
            refine lv_iconst (v := 0) hx hb dX5_isSure_40 (by decide) ?_
            exact W.zret (v := 0) hx hb hr (rfl) (fun t ht hW => ⟨0, rfl, ⟨by first | decide | omega, by first | decide | omega⟩, ht⟩) (fun _ h => absurd h List.not_mem_nil) dX5_isSure_41
  exact hL122 ((12 - (0 : Int32).toInt).toNat + 1) 0 ls (by decide) (by decide) (by omega) hl
theorem dX5_freeBehind_0 : decode cX5_freeBehind 0 = .ok (.iload_n 1, 1) := by decide +kernel
theorem dX5_freeBehind_1 : decode cX5_freeBehind 1 = .ok (.ifCond .lt 24, 3) := by decide +kernel
theorem dX5_freeBehind_4 : decode cX5_freeBehind 4 = .ok (.iload_n 1, 1) := by decide +kernel
theorem dX5_freeBehind_5 : decode cX5_freeBehind 5 = .ok (.aload_n 0, 1) := by decide +kernel
theorem dX5_freeBehind_6 : decode cX5_freeBehind 6 = .ok (.getfield 15, 3) := by decide +kernel
theorem dX5_freeBehind_9 : decode cX5_freeBehind 9 = .ok (.if_icmp .ge 16, 3) := by decide +kernel
theorem dX5_freeBehind_12 : decode cX5_freeBehind 12 = .ok (.aload_n 0, 1) := by decide +kernel
theorem dX5_freeBehind_13 : decode cX5_freeBehind 13 = .ok (.getfield 9, 3) := by decide +kernel
theorem dX5_freeBehind_16 : decode cX5_freeBehind 16 = .ok (.iload_n 1, 1) := by decide +kernel
theorem dX5_freeBehind_17 : decode cX5_freeBehind 17 = .ok (.iaload, 1) := by decide +kernel
theorem dX5_freeBehind_18 : decode cX5_freeBehind 18 = .ok (.iload_n 2, 1) := by decide +kernel
theorem dX5_freeBehind_19 : decode cX5_freeBehind 19 = .ok (.iconst (-1), 1) := by decide +kernel
theorem dX5_freeBehind_20 : decode cX5_freeBehind 20 = .ok (.ixor, 1) := by decide +kernel
theorem dX5_freeBehind_21 : decode cX5_freeBehind 21 = .ok (.iand, 1) := by decide +kernel
theorem dX5_freeBehind_22 : decode cX5_freeBehind 22 = .ok (.goto 4, 3) := by decide +kernel
theorem dX5_freeBehind_25 : decode cX5_freeBehind 25 = .ok (.iconst 0, 1) := by decide +kernel
theorem dX5_freeBehind_26 : decode cX5_freeBehind 26 = .ok (.ireturn, 1) := by decide +kernel
noncomputable def voX5_freeBehind : List Cond := [.fieldLink RX5 15 "EachOnHisCue$Net" "lines" "I", .fieldLink RX5 9 "EachOnHisCue$Net" "after" "[I"]
noncomputable def vsX5_freeBehind : List Cond := .code yX5_freeBehind cX5_freeBehind 3 (some .int) :: (voX5_freeBehind ++ (wsX50))
theorem zgX5_freeBehind : zGd vsX5_freeBehind := z_gdC rfl (z_gdA (z_gdO (by decide +kernel) : zGd voX5_freeBehind) (zgX5))
theorem in_X5_freeBehind_X5 : ∀ w ∈ wsX50, w ∈ vsX5_freeBehind := fun _ h => List.mem_cons_of_mem _ (List.mem_append_right _ (h))
set_option maxHeartbeats 4000000 in
set_option maxRecDepth 100000 in
theorem rX5_freeBehind (l : Launch) (dC : Nat → ClassId) (dI : Nat → Nat → Nat) (cI cQ : ClassId) (ha0 ha0_0 : Nat) (fa0_0 : Nat → Int32) (ia0_1 : Int32) (hia0_1l : 0 ≤ ia0_1.toInt) (hia0_1h : ia0_1.toInt ≤ 12) (p1 : Int32) (p2 : Int32) : Met l yX5_freeBehind vsX5_freeBehind ({ frames := 0, cells := 0, slots := 0, locals := 0 }) (va_Pc [.ref ha0, .int p1, .int p2] (zRB dC dI cI cQ [(ha0_0, .inl (cI, 12, .inl fa0_0)), (ha0, .inr (5, [.ref ha0_0, .int ia0_1]))])) (vp_Si (fun r => (-2147483648) ≤ r.toInt ∧ r.toInt ≤ 2147483647)) 0 0 (fun _ => False) := by
  refine Met.ofW (cc := cX5_freeBehind) (maxL := 3) (ret := (some .int)) (by decide) rfl ?_
  intro p e s m args below meth c s₁ B hml hv
  obtain ⟨rfl, hP, hZ⟩ := hv
  obtain ⟨hK, hAO, hN⟩ := id hZ
  have hx := B.exec
  have hb := B.bytes
  have hr := B.returns
  have hts := atoms_spec (ws := vsX5_freeBehind) B.pre
  have hown : s.vm.findClass RX5 = some m.cls := findClass_of_methodNamed B.named
  have hlocks := B.notSynchronized
  have hp1l := z_lo p1
  have hp1h := z_hi p1
  have hp2l := z_lo p2
  have hp2h := z_hi p2
  have hl := lv_entry ([.ref ha0, .int p1, .int p2]) (n := 3) (Nat.le_of_ble_eq_true rfl)
  rw [lg_entry_eq]
  generalize (lg_sl ([.ref ha0, .int p1, .int p2]) ++ List.replicate (3 - (lg_sl ([.ref ha0, .int p1, .int p2])).length) Slot.unset).toArray = ls at hl ⊢
  have hl : lv_has ls 3 [(0, .ref ha0), (1, .int p1), (2, .int p2)] := hl
  refine lv_iload_n hx hb dX5_freeBehind_0 rfl (lv_at hl 1 rfl) ?_
  refine lv_if_lt (tgt := 25) hx hb dX5_freeBehind_1 (by decide) (fun hc => ?_) (fun hc => ?_)
  · have q1 : p1.toInt < 0 := z_lt rfl (by decide) hc
    refine lv_iconst (v := 0) hx hb dX5_freeBehind_25 (by decide) ?_
    exact W.iret (v := 0) hx hb hr (fun t ht hW => ⟨0, rfl, ⟨z_lo _, z_hi _⟩, ht⟩) (fun _ h => absurd h List.not_mem_nil) dX5_freeBehind_26
  · have q2 : 0 ≤ p1.toInt := z_nlt rfl (by decide) hc
    refine lv_iload_n hx hb dX5_freeBehind_4 rfl (lv_at hl 1 rfl) ?_
    refine lv_aload_n hx hb dX5_freeBehind_5 rfl (lv_at hl 0 rfl) ?_
    refine va_get (D := (dC, dI)) (ci := 5) (v := .int ia0_1) (C := RX5) (T := TX5) (N := 2) hx hb hts in_X5_freeBehind_X5 hown hK hP 1 rfl rfl 1 (by decide) (hts (.fieldLink RX5 15 "EachOnHisCue$Net" "lines" "I") (by decide +kernel)) (fun _ h9 => h9) rfl dX5_freeBehind_6 ?_
    refine lv_icmp_ge (tgt := 25) hx hb dX5_freeBehind_9 (by decide) (fun hc => ?_) (fun hc => ?_)
    · have q3 : ia0_1.toInt ≤ p1.toInt := z_le rfl rfl hc
      refine lv_iconst (v := 0) hx hb dX5_freeBehind_25 (by decide) ?_
      exact W.iret (v := 0) hx hb hr (fun t ht hW => ⟨0, rfl, ⟨z_lo _, z_hi _⟩, ht⟩) (fun _ h => absurd h List.not_mem_nil) dX5_freeBehind_26
    · have q4 : p1.toInt < ia0_1.toInt := z_nle rfl rfl hc
      refine lv_aload_n hx hb dX5_freeBehind_12 rfl (lv_at hl 0 rfl) ?_
      refine va_get (D := (dC, dI)) (ci := 5) (v := .ref ha0_0) (C := RX5) (T := TX5) (N := 2) hx hb hts in_X5_freeBehind_X5 hown hK hP 1 rfl rfl 0 (by decide) (hts (.fieldLink RX5 9 "EachOnHisCue$Net" "after" "[I") (by decide +kernel)) (fun _ h9 => h9) rfl dX5_freeBehind_13 ?_
      refine lv_iload_n hx hb dX5_freeBehind_16 rfl (lv_at hl 1 rfl) ?_
      refine va_iald hx hb hK hP 0 0 rfl rfl (z_in (by omega) (by omega)) dX5_freeBehind_17 ?_
      refine lv_topi (fun y5 ey5 => ?_)
      have gy5 : y5.toInt = (fa0_0 (p1 : Int32).toNatClampNeg).toInt := by rw [ey5]
      refine lv_iload_n hx hb dX5_freeBehind_18 rfl (lv_at hl 2 rfl) ?_
      refine lv_iconst (v := (-1)) hx hb dX5_freeBehind_19 (by decide) ?_
      refine lv_ixor hx hb dX5_freeBehind_20 ?_
      refine lv_topi (fun y6 ey6 => ?_)
      refine lv_iand hx hb dX5_freeBehind_21 ?_
      refine lv_topi (fun y7 ey7 => ?_)
      refine lv_goto (tgt := 26) hx hb dX5_freeBehind_22 (by decide) ?_
      exact W.iret (v := y7) hx hb hr (fun t ht hW => ⟨y7, rfl, ⟨z_lo _, z_hi _⟩, ht⟩) (fun _ h => absurd h List.not_mem_nil) dX5_freeBehind_26
theorem dX5_canFollow_0 : decode cX5_canFollow 0 = .ok (.iload_n 1, 1) := by decide +kernel
theorem dX5_canFollow_1 : decode cX5_canFollow 1 = .ok (.ifCond .lt 41, 3) := by decide +kernel
theorem dX5_canFollow_4 : decode cX5_canFollow 4 = .ok (.iload_n 1, 1) := by decide +kernel
theorem dX5_canFollow_5 : decode cX5_canFollow 5 = .ok (.aload_n 0, 1) := by decide +kernel
theorem dX5_canFollow_6 : decode cX5_canFollow 6 = .ok (.getfield 15, 3) := by decide +kernel
theorem dX5_canFollow_9 : decode cX5_canFollow 9 = .ok (.if_icmp .ge 33, 3) := by decide +kernel
theorem dX5_canFollow_12 : decode cX5_canFollow 12 = .ok (.iload_n 2, 1) := by decide +kernel
theorem dX5_canFollow_13 : decode cX5_canFollow 13 = .ok (.ifCond .lt 29, 3) := by decide +kernel
theorem dX5_canFollow_16 : decode cX5_canFollow 16 = .ok (.iload_n 2, 1) := by decide +kernel
theorem dX5_canFollow_17 : decode cX5_canFollow 17 = .ok (.aload_n 0, 1) := by decide +kernel
theorem dX5_canFollow_18 : decode cX5_canFollow 18 = .ok (.getfield 15, 3) := by decide +kernel
theorem dX5_canFollow_21 : decode cX5_canFollow 21 = .ok (.if_icmp .ge 21, 3) := by decide +kernel
theorem dX5_canFollow_24 : decode cX5_canFollow 24 = .ok (.aload_n 0, 1) := by decide +kernel
theorem dX5_canFollow_25 : decode cX5_canFollow 25 = .ok (.getfield 9, 3) := by decide +kernel
theorem dX5_canFollow_28 : decode cX5_canFollow 28 = .ok (.iload_n 1, 1) := by decide +kernel
theorem dX5_canFollow_29 : decode cX5_canFollow 29 = .ok (.iaload, 1) := by decide +kernel
theorem dX5_canFollow_30 : decode cX5_canFollow 30 = .ok (.iload_n 2, 1) := by decide +kernel
theorem dX5_canFollow_31 : decode cX5_canFollow 31 = .ok (.invokestatic 40, 3) := by decide +kernel
theorem dX5_canFollow_34 : decode cX5_canFollow 34 = .ok (.iconst 1, 1) := by decide +kernel
theorem dX5_canFollow_35 : decode cX5_canFollow 35 = .ok (.if_icmp .ne 7, 3) := by decide +kernel
theorem dX5_canFollow_38 : decode cX5_canFollow 38 = .ok (.iconst 1, 1) := by decide +kernel
theorem dX5_canFollow_39 : decode cX5_canFollow 39 = .ok (.goto 4, 3) := by decide +kernel
theorem dX5_canFollow_42 : decode cX5_canFollow 42 = .ok (.iconst 0, 1) := by decide +kernel
theorem dX5_canFollow_43 : decode cX5_canFollow 43 = .ok (.ireturn, 1) := by decide +kernel
noncomputable def voX5_canFollow : List Cond := [.fieldLink RX5 15 "EachOnHisCue$Net" "lines" "I", .fieldLink RX5 9 "EachOnHisCue$Net" "after" "[I", .initialized RX11, .static yX11_bitAt]
noncomputable def vsX5_canFollow : List Cond := .code yX5_canFollow cX5_canFollow 3 (some .boolean) :: (voX5_canFollow ++ (vsX11_bitAt ++ (wsX50)))
theorem zgX5_canFollow : zGd vsX5_canFollow := z_gdC rfl (z_gdA (z_gdO (by decide +kernel) : zGd voX5_canFollow) (z_gdA zgX11_bitAt (zgX5)))
theorem in_X5_canFollow_X5 : ∀ w ∈ wsX50, w ∈ vsX5_canFollow := fun _ h => List.mem_cons_of_mem _ (List.mem_append_right _ (List.mem_append_right _ (h)))
theorem gw_X5_canFollow_X11_bitAt : GoodIn vsX5_canFollow vsX11_bitAt := z_gdI (fun _ h => List.mem_cons_of_mem _ (List.mem_append_right _ (List.mem_append_left _ h))) zgX11_bitAt
set_option maxRecDepth 20000 in
theorem gv_X5_canFollow_X11_bitAt_40 : GoodIn vsX5_canFollow (vsX11_bitAt) := gw_X5_canFollow_X11_bitAt
set_option maxHeartbeats 4000000 in
set_option maxRecDepth 100000 in
theorem rX5_canFollow (l : Launch) (dC : Nat → ClassId) (dI : Nat → Nat → Nat) (cI cQ : ClassId) (ha0 ha0_0 : Nat) (fa0_0 : Nat → Int32) (ia0_1 : Int32) (hia0_1l : 0 ≤ ia0_1.toInt) (hia0_1h : ia0_1.toInt ≤ 12) (p1 : Int32) (p2 : Int32) : Met l yX5_canFollow vsX5_canFollow ({ frames := 1, cells := 0, slots := 0, locals := 21 }) (va_Pc [.ref ha0, .int p1, .int p2] (zRB dC dI cI cQ [(ha0_0, .inl (cI, 12, .inl fa0_0)), (ha0, .inr (5, [.ref ha0_0, .int ia0_1]))])) (vp_Si (fun r => 0 ≤ r.toInt ∧ r.toInt ≤ 1)) 0 0 (fun _ => False) := by
  refine Met.ofW (cc := cX5_canFollow) (maxL := 3) (ret := (some .boolean)) (by decide) rfl ?_
  intro p e s m args below meth c s₁ B hml hv
  obtain ⟨rfl, hP, hZ⟩ := hv
  obtain ⟨hK, hAO, hN⟩ := id hZ
  have hx := B.exec
  have hb := B.bytes
  have hr := B.returns
  have hts := atoms_spec (ws := vsX5_canFollow) B.pre
  have hown : s.vm.findClass RX5 = some m.cls := findClass_of_methodNamed B.named
  have hlocks := B.notSynchronized
  have hp1l := z_lo p1
  have hp1h := z_hi p1
  have hp2l := z_lo p2
  have hp2h := z_hi p2
  have hl := lv_entry ([.ref ha0, .int p1, .int p2]) (n := 3) (Nat.le_of_ble_eq_true rfl)
  rw [lg_entry_eq]
  generalize (lg_sl ([.ref ha0, .int p1, .int p2]) ++ List.replicate (3 - (lg_sl ([.ref ha0, .int p1, .int p2])).length) Slot.unset).toArray = ls at hl ⊢
  have hl : lv_has ls 3 [(0, .ref ha0), (1, .int p1), (2, .int p2)] := hl
  refine lv_iload_n hx hb dX5_canFollow_0 rfl (lv_at hl 1 rfl) ?_
  refine lv_if_lt (tgt := 42) hx hb dX5_canFollow_1 (by decide) (fun hc => ?_) (fun hc => ?_)
  · have q1 : p1.toInt < 0 := z_lt rfl (by decide) hc
    refine lv_iconst (v := 0) hx hb dX5_canFollow_42 (by decide) ?_
    exact W.zret (v := 0) hx hb hr (rfl) (fun t ht hW => ⟨0, rfl, ⟨by first | decide | omega, by first | decide | omega⟩, ht⟩) (fun _ h => absurd h List.not_mem_nil) dX5_canFollow_43
  · have q2 : 0 ≤ p1.toInt := z_nlt rfl (by decide) hc
    refine lv_iload_n hx hb dX5_canFollow_4 rfl (lv_at hl 1 rfl) ?_
    refine lv_aload_n hx hb dX5_canFollow_5 rfl (lv_at hl 0 rfl) ?_
    refine va_get (D := (dC, dI)) (ci := 5) (v := .int ia0_1) (C := RX5) (T := TX5) (N := 2) hx hb hts in_X5_canFollow_X5 hown hK hP 1 rfl rfl 1 (by decide) (hts (.fieldLink RX5 15 "EachOnHisCue$Net" "lines" "I") (by decide +kernel)) (fun _ h9 => h9) rfl dX5_canFollow_6 ?_
    refine lv_icmp_ge (tgt := 42) hx hb dX5_canFollow_9 (by decide) (fun hc => ?_) (fun hc => ?_)
    · have q3 : ia0_1.toInt ≤ p1.toInt := z_le rfl rfl hc
      refine lv_iconst (v := 0) hx hb dX5_canFollow_42 (by decide) ?_
      exact W.zret (v := 0) hx hb hr (rfl) (fun t ht hW => ⟨0, rfl, ⟨by first | decide | omega, by first | decide | omega⟩, ht⟩) (fun _ h => absurd h List.not_mem_nil) dX5_canFollow_43
    · have q4 : p1.toInt < ia0_1.toInt := z_nle rfl rfl hc
      refine lv_iload_n hx hb dX5_canFollow_12 rfl (lv_at hl 2 rfl) ?_
      refine lv_if_lt (tgt := 42) hx hb dX5_canFollow_13 (by decide) (fun hc => ?_) (fun hc => ?_)
      · have q5 : p2.toInt < 0 := z_lt rfl (by decide) hc
        refine lv_iconst (v := 0) hx hb dX5_canFollow_42 (by decide) ?_
        exact W.zret (v := 0) hx hb hr (rfl) (fun t ht hW => ⟨0, rfl, ⟨by first | decide | omega, by first | decide | omega⟩, ht⟩) (fun _ h => absurd h List.not_mem_nil) dX5_canFollow_43
      · have q6 : 0 ≤ p2.toInt := z_nlt rfl (by decide) hc
        refine lv_iload_n hx hb dX5_canFollow_16 rfl (lv_at hl 2 rfl) ?_
        refine lv_aload_n hx hb dX5_canFollow_17 rfl (lv_at hl 0 rfl) ?_
        refine va_get (D := (dC, dI)) (ci := 5) (v := .int ia0_1) (C := RX5) (T := TX5) (N := 2) hx hb hts in_X5_canFollow_X5 hown hK hP 1 rfl rfl 1 (by decide) (hts (.fieldLink RX5 15 "EachOnHisCue$Net" "lines" "I") (by decide +kernel)) (fun _ h9 => h9) rfl dX5_canFollow_18 ?_
        refine lv_icmp_ge (tgt := 42) hx hb dX5_canFollow_21 (by decide) (fun hc => ?_) (fun hc => ?_)
        · have q7 : ia0_1.toInt ≤ p2.toInt := z_le rfl rfl hc
          refine lv_iconst (v := 0) hx hb dX5_canFollow_42 (by decide) ?_
          exact W.zret (v := 0) hx hb hr (rfl) (fun t ht hW => ⟨0, rfl, ⟨by first | decide | omega, by first | decide | omega⟩, ht⟩) (fun _ h => absurd h List.not_mem_nil) dX5_canFollow_43
        · have q8 : p2.toInt < ia0_1.toInt := z_nle rfl rfl hc
          refine lv_aload_n hx hb dX5_canFollow_24 rfl (lv_at hl 0 rfl) ?_
          refine va_get (D := (dC, dI)) (ci := 5) (v := .ref ha0_0) (C := RX5) (T := TX5) (N := 2) hx hb hts in_X5_canFollow_X5 hown hK hP 1 rfl rfl 0 (by decide) (hts (.fieldLink RX5 9 "EachOnHisCue$Net" "after" "[I") (by decide +kernel)) (fun _ h9 => h9) rfl dX5_canFollow_25 ?_
          refine lv_iload_n hx hb dX5_canFollow_28 rfl (lv_at hl 1 rfl) ?_
          refine va_iald hx hb hK hP 0 0 rfl rfl (z_in (by omega) (by omega)) dX5_canFollow_29 ?_
          refine lv_topi (fun y9 ey9 => ?_)
          have gy9 : y9.toInt = (fa0_0 (p1 : Int32).toNatClampNeg).toInt := by rw [ey9]
          refine lv_iload_n hx hb dX5_canFollow_30 rfl (lv_at hl 2 rfl) ?_
          refine z_rdi (va_runSN (As := [.int y9, .int p2]) (rest := []) ⟨hx, hb, hml, hown, hts⟩ (rX11_bitAt l dC dI cI cQ y9 p2) ⟨va_cnB (host := "EachOnHisCue") 2 hts gv_X5_canFollow_X11_bitAt_40 rfl rfl rfl (hN.2.2.2.2.2.2.2.2.2.1) (hts (.initialized RX11) (by decide +kernel)) (by decide +kernel) ⟨Nat.le_of_ble_eq_true rfl, Nat.le_of_ble_eq_true rfl⟩, hts (.static yX11_bitAt) (by decide +kernel), trivial⟩ ⟨z_blindR, z_preR hZ hP [] rfl⟩ rfl rfl hl.1 rfl (lv_room (Nat.le_of_ble_eq_true rfl)) dX5_canFollow_31 ⟨Nat.le_of_ble_eq_true rfl, Nat.le_of_ble_eq_true rfl⟩) (fun y10 hy10 => ?_)
          obtain ⟨hy10_0, hy10_1, hy10_2⟩ := hy10
          refine lv_iconst (v := 1) hx hb dX5_canFollow_34 (by decide) ?_
          refine lv_icmp_ne (tgt := 42) hx hb dX5_canFollow_35 (by decide) (fun hc => ?_) (fun hc => ?_)
          · have q11 : y10.toInt ≠ 1 := z_ne rfl (by decide) hc
            refine lv_iconst (v := 0) hx hb dX5_canFollow_42 (by decide) ?_
            exact W.zret (v := 0) hx hb hr (rfl) (fun t ht hW => ⟨0, rfl, ⟨by first | decide | omega, by first | decide | omega⟩, ht⟩) (fun _ h => absurd h List.not_mem_nil) dX5_canFollow_43
          · have q12 : y10.toInt = 1 := z_eq rfl (by decide) hc
            refine lv_iconst (v := 1) hx hb dX5_canFollow_38 (by decide) ?_
            refine lv_goto (tgt := 43) hx hb dX5_canFollow_39 (by decide) ?_
            exact W.zret (v := 1) hx hb hr (rfl) (fun t ht hW => ⟨1, rfl, ⟨by first | decide | omega, by first | decide | omega⟩, ht⟩) (fun _ h => absurd h List.not_mem_nil) dX5_canFollow_43
theorem dX12_isIn_0 : decode cX12_isIn 0 = .ok (.iload_n 0, 1) := by decide +kernel
theorem dX12_isIn_1 : decode cX12_isIn 1 = .ok (.iload_n 1, 1) := by decide +kernel
theorem dX12_isIn_2 : decode cX12_isIn 2 = .ok (.if_icmp .lt 12, 3) := by decide +kernel
theorem dX12_isIn_5 : decode cX12_isIn 5 = .ok (.iload_n 0, 1) := by decide +kernel
theorem dX12_isIn_6 : decode cX12_isIn 6 = .ok (.iload_n 2, 1) := by decide +kernel
theorem dX12_isIn_7 : decode cX12_isIn 7 = .ok (.if_icmp .gt 7, 3) := by decide +kernel
theorem dX12_isIn_10 : decode cX12_isIn 10 = .ok (.iconst 1, 1) := by decide +kernel
theorem dX12_isIn_11 : decode cX12_isIn 11 = .ok (.goto 4, 3) := by decide +kernel
theorem dX12_isIn_14 : decode cX12_isIn 14 = .ok (.iconst 0, 1) := by decide +kernel
theorem dX12_isIn_15 : decode cX12_isIn 15 = .ok (.ireturn, 1) := by decide +kernel
noncomputable def voX12_isIn : List Cond := []
noncomputable def vsX12_isIn : List Cond := .code yX12_isIn cX12_isIn 3 (some .boolean) :: (voX12_isIn)
theorem zgX12_isIn : zGd vsX12_isIn := z_gdC rfl ((z_gdO (by decide +kernel) : zGd voX12_isIn))
set_option maxHeartbeats 4000000 in
set_option maxRecDepth 100000 in
theorem rX12_isIn (l : Launch) (dC : Nat → ClassId) (dI : Nat → Nat → Nat) (cI cQ : ClassId) (p0 : Int32) (p1 : Int32) (p2 : Int32) : Met l yX12_isIn vsX12_isIn ({ frames := 0, cells := 0, slots := 0, locals := 0 }) (va_Pc [.int p0, .int p1, .int p2] (zRB dC dI cI cQ [])) (vp_Si (fun r => 0 ≤ r.toInt ∧ r.toInt ≤ 1 ∧ ((r.toInt = 1 ∧ p1.toInt ≤ p0.toInt ∧ p0.toInt ≤ p2.toInt) ∨ (r.toInt = 0 ∧ (p0.toInt < p1.toInt ∨ p2.toInt < p0.toInt))))) 0 0 (fun _ => False) := by
  refine Met.ofW (cc := cX12_isIn) (maxL := 3) (ret := (some .boolean)) (by decide) rfl ?_
  intro p e s m args below meth c s₁ B hml hv
  obtain ⟨rfl, hP, hZ⟩ := hv
  obtain ⟨hK, hAO, hN⟩ := id hZ
  have hx := B.exec
  have hb := B.bytes
  have hr := B.returns
  have hts := atoms_spec (ws := vsX12_isIn) B.pre
  have hown : s.vm.findClass RX12 = some m.cls := findClass_of_methodNamed B.named
  have hlocks := B.notSynchronized
  have hp0l := z_lo p0
  have hp0h := z_hi p0
  have hp1l := z_lo p1
  have hp1h := z_hi p1
  have hp2l := z_lo p2
  have hp2h := z_hi p2
  have hl := lv_entry ([.int p0, .int p1, .int p2]) (n := 3) (Nat.le_of_ble_eq_true rfl)
  rw [lg_entry_eq]
  generalize (lg_sl ([.int p0, .int p1, .int p2]) ++ List.replicate (3 - (lg_sl ([.int p0, .int p1, .int p2])).length) Slot.unset).toArray = ls at hl ⊢
  have hl : lv_has ls 3 [(0, .int p0), (1, .int p1), (2, .int p2)] := hl
  refine lv_iload_n hx hb dX12_isIn_0 rfl (lv_at hl 0 rfl) ?_
  refine lv_iload_n hx hb dX12_isIn_1 rfl (lv_at hl 1 rfl) ?_
  refine lv_icmp_lt (tgt := 14) hx hb dX12_isIn_2 (by decide) (fun hc => ?_) (fun hc => ?_)
  · have q1 : p0.toInt < p1.toInt := z_lt rfl rfl hc
    refine lv_iconst (v := 0) hx hb dX12_isIn_14 (by decide) ?_
    exact W.zret (v := 0) hx hb hr (rfl) (fun t ht hW => ⟨0, rfl, ⟨by first | decide | omega, by first | decide | omega, (by have e0 : (0 : Int32).toInt = 0 := (by decide); have e1 : (1 : Int32).toInt = 1 := (by decide); have e9 : (-9 : Int32).toInt = -9 := (by decide); omega)⟩, ht⟩) (fun _ h => absurd h List.not_mem_nil) dX12_isIn_15
  · have q2 : p1.toInt ≤ p0.toInt := z_nlt rfl rfl hc
    refine lv_iload_n hx hb dX12_isIn_5 rfl (lv_at hl 0 rfl) ?_
    refine lv_iload_n hx hb dX12_isIn_6 rfl (lv_at hl 2 rfl) ?_
    refine lv_icmp_gt (tgt := 14) hx hb dX12_isIn_7 (by decide) (fun hc => ?_) (fun hc => ?_)
    · have q3 : p2.toInt < p0.toInt := z_lt rfl rfl hc
      refine lv_iconst (v := 0) hx hb dX12_isIn_14 (by decide) ?_
      exact W.zret (v := 0) hx hb hr (rfl) (fun t ht hW => ⟨0, rfl, ⟨by first | decide | omega, by first | decide | omega, (by have e0 : (0 : Int32).toInt = 0 := (by decide); have e1 : (1 : Int32).toInt = 1 := (by decide); have e9 : (-9 : Int32).toInt = -9 := (by decide); omega)⟩, ht⟩) (fun _ h => absurd h List.not_mem_nil) dX12_isIn_15
    · have q4 : p0.toInt ≤ p2.toInt := z_nlt rfl rfl hc
      refine lv_iconst (v := 1) hx hb dX12_isIn_10 (by decide) ?_
      refine lv_goto (tgt := 15) hx hb dX12_isIn_11 (by decide) ?_
      exact W.zret (v := 1) hx hb hr (rfl) (fun t ht hW => ⟨1, rfl, ⟨by first | decide | omega, by first | decide | omega, (by have e0 : (0 : Int32).toInt = 0 := (by decide); have e1 : (1 : Int32).toInt = 1 := (by decide); have e9 : (-9 : Int32).toInt = -9 := (by decide); omega)⟩, ht⟩) (fun _ h => absurd h List.not_mem_nil) dX12_isIn_15
theorem dX12_bound_0 : decode cX12_bound 0 = .ok (.iload_n 0, 1) := by decide +kernel
theorem dX12_bound_1 : decode cX12_bound 1 = .ok (.iload_n 1, 1) := by decide +kernel
theorem dX12_bound_2 : decode cX12_bound 2 = .ok (.if_icmp .ge 8, 3) := by decide +kernel
theorem dX12_bound_5 : decode cX12_bound 5 = .ok (.bipush (-4), 2) := by decide +kernel
theorem dX12_bound_7 : decode cX12_bound 7 = .ok (.goto 14, 3) := by decide +kernel
theorem dX12_bound_10 : decode cX12_bound 10 = .ok (.iload_n 0, 1) := by decide +kernel
theorem dX12_bound_11 : decode cX12_bound 11 = .ok (.iload_n 2, 1) := by decide +kernel
theorem dX12_bound_12 : decode cX12_bound 12 = .ok (.if_icmp .le 8, 3) := by decide +kernel
theorem dX12_bound_15 : decode cX12_bound 15 = .ok (.bipush (-6), 2) := by decide +kernel
theorem dX12_bound_17 : decode cX12_bound 17 = .ok (.goto 4, 3) := by decide +kernel
theorem dX12_bound_20 : decode cX12_bound 20 = .ok (.iconst 0, 1) := by decide +kernel
theorem dX12_bound_21 : decode cX12_bound 21 = .ok (.ireturn, 1) := by decide +kernel
noncomputable def voX12_bound : List Cond := []
noncomputable def vsX12_bound : List Cond := .code yX12_bound cX12_bound 3 (some .int) :: (voX12_bound)
theorem zgX12_bound : zGd vsX12_bound := z_gdC rfl ((z_gdO (by decide +kernel) : zGd voX12_bound))
set_option maxHeartbeats 4000000 in
set_option maxRecDepth 100000 in
theorem rX12_bound (l : Launch) (dC : Nat → ClassId) (dI : Nat → Nat → Nat) (cI cQ : ClassId) (p0 : Int32) (p1 : Int32) (p2 : Int32) : Met l yX12_bound vsX12_bound ({ frames := 0, cells := 0, slots := 0, locals := 0 }) (va_Pc [.int p0, .int p1, .int p2] (zRB dC dI cI cQ [])) (vp_Si (fun r => (-6) ≤ r.toInt ∧ r.toInt ≤ 0 ∧ ((r.toInt = -4 ∧ p0.toInt < p1.toInt) ∨ (r.toInt = -6 ∧ p1.toInt ≤ p0.toInt ∧ p2.toInt < p0.toInt) ∨ (r.toInt = 0 ∧ p1.toInt ≤ p0.toInt ∧ p0.toInt ≤ p2.toInt)))) 0 0 (fun _ => False) := by
  refine Met.ofW (cc := cX12_bound) (maxL := 3) (ret := (some .int)) (by decide) rfl ?_
  intro p e s m args below meth c s₁ B hml hv
  obtain ⟨rfl, hP, hZ⟩ := hv
  obtain ⟨hK, hAO, hN⟩ := id hZ
  have hx := B.exec
  have hb := B.bytes
  have hr := B.returns
  have hts := atoms_spec (ws := vsX12_bound) B.pre
  have hown : s.vm.findClass RX12 = some m.cls := findClass_of_methodNamed B.named
  have hlocks := B.notSynchronized
  have hlt0 : ((-9) : Int32).toInt = (-9) := by decide
  have hlt1 : ((-6) : Int32).toInt = (-6) := by decide
  have hlt2 : ((-4) : Int32).toInt = (-4) := by decide
  have hlt3 : ((-3) : Int32).toInt = (-3) := by decide
  have hlt4 : ((-2) : Int32).toInt = (-2) := by decide
  have hlt5 : ((-1) : Int32).toInt = (-1) := by decide
  have hlt6 : (0 : Int32).toInt = 0 := by decide
  have hlt7 : (1 : Int32).toInt = 1 := by decide
  have hp0l := z_lo p0
  have hp0h := z_hi p0
  have hp1l := z_lo p1
  have hp1h := z_hi p1
  have hp2l := z_lo p2
  have hp2h := z_hi p2
  have hl := lv_entry ([.int p0, .int p1, .int p2]) (n := 3) (Nat.le_of_ble_eq_true rfl)
  rw [lg_entry_eq]
  generalize (lg_sl ([.int p0, .int p1, .int p2]) ++ List.replicate (3 - (lg_sl ([.int p0, .int p1, .int p2])).length) Slot.unset).toArray = ls at hl ⊢
  have hl : lv_has ls 3 [(0, .int p0), (1, .int p1), (2, .int p2)] := hl
  refine lv_iload_n hx hb dX12_bound_0 rfl (lv_at hl 0 rfl) ?_
  refine lv_iload_n hx hb dX12_bound_1 rfl (lv_at hl 1 rfl) ?_
  refine lv_icmp_ge (tgt := 10) hx hb dX12_bound_2 (by decide) (fun hc => ?_) (fun hc => ?_)
  · have q1 : p1.toInt ≤ p0.toInt := z_le rfl rfl hc
    refine lv_iload_n hx hb dX12_bound_10 rfl (lv_at hl 0 rfl) ?_
    refine lv_iload_n hx hb dX12_bound_11 rfl (lv_at hl 2 rfl) ?_
    refine lv_icmp_le (tgt := 20) hx hb dX12_bound_12 (by decide) (fun hc => ?_) (fun hc => ?_)
    · have q2 : p0.toInt ≤ p2.toInt := z_le rfl rfl hc
      refine lv_iconst (v := 0) hx hb dX12_bound_20 (by decide) ?_
      exact W.iret (v := 0) hx hb hr (fun t ht hW => ⟨0, rfl, ⟨by first | decide | omega, by first | decide | omega, (by have e4 : (-4 : Int32).toInt = -4 := (by decide); have e6 : (-6 : Int32).toInt = -6 := (by decide); have e0 : (0 : Int32).toInt = 0 := (by decide); have e1 : (1 : Int32).toInt = 1 := (by decide); have e9 : (-9 : Int32).toInt = -9 := (by decide); omega)⟩, ht⟩) (fun _ h => absurd h List.not_mem_nil) dX12_bound_21
    · have q3 : p2.toInt < p0.toInt := z_nle rfl rfl hc
      refine lv_bipush (v := (-6)) hx hb dX12_bound_15 (by decide) ?_
      refine lv_goto (tgt := 21) hx hb dX12_bound_17 (by decide) ?_
      exact W.iret (v := (-6)) hx hb hr (fun t ht hW => ⟨(-6), rfl, ⟨by first | decide | omega, by first | decide | omega, (by have e4 : (-4 : Int32).toInt = -4 := (by decide); have e6 : (-6 : Int32).toInt = -6 := (by decide); have e0 : (0 : Int32).toInt = 0 := (by decide); have e1 : (1 : Int32).toInt = 1 := (by decide); have e9 : (-9 : Int32).toInt = -9 := (by decide); omega)⟩, ht⟩) (fun _ h => absurd h List.not_mem_nil) dX12_bound_21
  · have q4 : p0.toInt < p1.toInt := z_nle rfl rfl hc
    refine lv_bipush (v := (-4)) hx hb dX12_bound_5 (by decide) ?_
    refine lv_goto (tgt := 21) hx hb dX12_bound_7 (by decide) ?_
    exact W.iret (v := (-4)) hx hb hr (fun t ht hW => ⟨(-4), rfl, ⟨by first | decide | omega, by first | decide | omega, (by have e4 : (-4 : Int32).toInt = -4 := (by decide); have e6 : (-6 : Int32).toInt = -6 := (by decide); have e0 : (0 : Int32).toInt = 0 := (by decide); have e1 : (1 : Int32).toInt = 1 := (by decide); have e9 : (-9 : Int32).toInt = -9 := (by decide); omega)⟩, ht⟩) (fun _ h => absurd h List.not_mem_nil) dX12_bound_21
theorem dX12_least_0 : decode cX12_least 0 = .ok (.iload_n 0, 1) := by decide +kernel
theorem dX12_least_1 : decode cX12_least 1 = .ok (.iload_n 1, 1) := by decide +kernel
theorem dX12_least_2 : decode cX12_least 2 = .ok (.if_icmp .ge 7, 3) := by decide +kernel
theorem dX12_least_5 : decode cX12_least 5 = .ok (.iload_n 0, 1) := by decide +kernel
theorem dX12_least_6 : decode cX12_least 6 = .ok (.goto 4, 3) := by decide +kernel
theorem dX12_least_9 : decode cX12_least 9 = .ok (.iload_n 1, 1) := by decide +kernel
theorem dX12_least_10 : decode cX12_least 10 = .ok (.ireturn, 1) := by decide +kernel
noncomputable def voX12_least : List Cond := []
noncomputable def vsX12_least : List Cond := .code yX12_least cX12_least 2 (some .int) :: (voX12_least)
theorem zgX12_least : zGd vsX12_least := z_gdC rfl ((z_gdO (by decide +kernel) : zGd voX12_least))
set_option maxHeartbeats 4000000 in
set_option maxRecDepth 100000 in
theorem rX12_least (l : Launch) (dC : Nat → ClassId) (dI : Nat → Nat → Nat) (cI cQ : ClassId) (p0 : Int32) (p1 : Int32) : Met l yX12_least vsX12_least ({ frames := 0, cells := 0, slots := 0, locals := 0 }) (va_Pc [.int p0, .int p1] (zRB dC dI cI cQ [])) (vp_Si (fun r => (-2147483648) ≤ r.toInt ∧ r.toInt ≤ 2147483647 ∧ (r.toInt ≤ p0.toInt ∧ r.toInt ≤ p1.toInt ∧ (r.toInt = p0.toInt ∨ r.toInt = p1.toInt)))) 0 0 (fun _ => False) := by
  refine Met.ofW (cc := cX12_least) (maxL := 2) (ret := (some .int)) (by decide) rfl ?_
  intro p e s m args below meth c s₁ B hml hv
  obtain ⟨rfl, hP, hZ⟩ := hv
  obtain ⟨hK, hAO, hN⟩ := id hZ
  have hx := B.exec
  have hb := B.bytes
  have hr := B.returns
  have hts := atoms_spec (ws := vsX12_least) B.pre
  have hown : s.vm.findClass RX12 = some m.cls := findClass_of_methodNamed B.named
  have hlocks := B.notSynchronized
  have hp0l := z_lo p0
  have hp0h := z_hi p0
  have hp1l := z_lo p1
  have hp1h := z_hi p1
  have hl := lv_entry ([.int p0, .int p1]) (n := 2) (Nat.le_of_ble_eq_true rfl)
  rw [lg_entry_eq]
  generalize (lg_sl ([.int p0, .int p1]) ++ List.replicate (2 - (lg_sl ([.int p0, .int p1])).length) Slot.unset).toArray = ls at hl ⊢
  have hl : lv_has ls 2 [(0, .int p0), (1, .int p1)] := hl
  refine lv_iload_n hx hb dX12_least_0 rfl (lv_at hl 0 rfl) ?_
  refine lv_iload_n hx hb dX12_least_1 rfl (lv_at hl 1 rfl) ?_
  refine lv_icmp_ge (tgt := 9) hx hb dX12_least_2 (by decide) (fun hc => ?_) (fun hc => ?_)
  · have q1 : p1.toInt ≤ p0.toInt := z_le rfl rfl hc
    refine lv_iload_n hx hb dX12_least_9 rfl (lv_at hl 1 rfl) ?_
    exact W.iret (v := p1) hx hb hr (fun t ht hW => ⟨p1, rfl, ⟨z_lo _, z_hi _, by first | omega | (intro _; omega) | (intro h; exact absurd h (by decide)) | (refine ⟨?_, ?_⟩ <;> omega) | (split <;> omega)⟩, ht⟩) (fun _ h => absurd h List.not_mem_nil) dX12_least_10
  · have q2 : p0.toInt < p1.toInt := z_nle rfl rfl hc
    refine lv_iload_n hx hb dX12_least_5 rfl (lv_at hl 0 rfl) ?_
    refine lv_goto (tgt := 10) hx hb dX12_least_6 (by decide) ?_
    exact W.iret (v := p0) hx hb hr (fun t ht hW => ⟨p0, rfl, ⟨z_lo _, z_hi _, by first | omega | (intro _; omega) | (intro h; exact absurd h (by decide)) | (refine ⟨?_, ?_⟩ <;> omega) | (split <;> omega)⟩, ht⟩) (fun _ h => absurd h List.not_mem_nil) dX12_least_10
theorem dX12_isPlayer_0 : decode cX12_isPlayer 0 = .ok (.iload_n 1, 1) := by decide +kernel
theorem dX12_isPlayer_1 : decode cX12_isPlayer 1 = .ok (.ifCond .lt 15, 3) := by decide +kernel
theorem dX12_isPlayer_4 : decode cX12_isPlayer 4 = .ok (.iload_n 1, 1) := by decide +kernel
theorem dX12_isPlayer_5 : decode cX12_isPlayer 5 = .ok (.aload_n 0, 1) := by decide +kernel
theorem dX12_isPlayer_6 : decode cX12_isPlayer 6 = .ok (.getfield 76, 3) := by decide +kernel
theorem dX12_isPlayer_9 : decode cX12_isPlayer 9 = .ok (.if_icmp .ge 7, 3) := by decide +kernel
theorem dX12_isPlayer_12 : decode cX12_isPlayer 12 = .ok (.iconst 1, 1) := by decide +kernel
theorem dX12_isPlayer_13 : decode cX12_isPlayer 13 = .ok (.goto 4, 3) := by decide +kernel
theorem dX12_isPlayer_16 : decode cX12_isPlayer 16 = .ok (.iconst 0, 1) := by decide +kernel
theorem dX12_isPlayer_17 : decode cX12_isPlayer 17 = .ok (.ireturn, 1) := by decide +kernel
noncomputable def voX12_isPlayer : List Cond := [.fieldLink RX12 76 "EachOnHisCueModel" "players" "I"]
noncomputable def vsX12_isPlayer : List Cond := .code yX12_isPlayer cX12_isPlayer 2 (some .boolean) :: (voX12_isPlayer ++ (wsX120))
theorem zgX12 : zGd wsX120 := z_gdO (by decide +kernel)
theorem zgX12_isPlayer : zGd vsX12_isPlayer := z_gdC rfl (z_gdA (z_gdO (by decide +kernel) : zGd voX12_isPlayer) (zgX12))
theorem in_X12_isPlayer_X12 : ∀ w ∈ wsX120, w ∈ vsX12_isPlayer := fun _ h => List.mem_cons_of_mem _ (List.mem_append_right _ (h))
set_option maxHeartbeats 4000000 in
set_option maxRecDepth 100000 in
theorem rX12_isPlayer (l : Launch) (dC : Nat → ClassId) (dI : Nat → Nat → Nat) (cI cQ : ClassId) (ha0 ha0_0 ha0_1 ha0_2 ha0_3 ha0_4 ha0_5 ha0_6 ha0_7 ha0_8 ha0_16 ha0_17 ha0_18 ha0_19 ha0_23 ha0_29 ha0_33 ha0_34 ha0_35 : Nat) (ia0_9 : Int32) (hia0_9l : 0 ≤ ia0_9.toInt) (hia0_9h : ia0_9.toInt ≤ 5) (ia0_10 : Int32) (hia0_10l : 0 ≤ ia0_10.toInt) (hia0_10h : ia0_10.toInt ≤ 12) (ia0_11 : Int32) (ia0_12 : Int32) (ia0_13 : Int32) (ia0_14 : Int32) (hia0_14l : (-9) ≤ ia0_14.toInt) (hia0_14h : ia0_14.toInt ≤ 11) (ia0_15 : Int32) (ia0_20 : Int32) (hia0_20l : 0 ≤ ia0_20.toInt) (hia0_20h : ia0_20.toInt ≤ 80) (ia0_21 : Int32) (hia0_21l : 0 ≤ ia0_21.toInt) (hia0_21h : ia0_21.toInt ≤ 80) (ia0_22 : Int32) (hia0_22l : 0 ≤ ia0_22.toInt) (hia0_22h : ia0_22.toInt ≤ 40) (ia0_24 : Int32) (hia0_24l : 0 ≤ ia0_24.toInt) (hia0_24h : ia0_24.toInt ≤ 1) (ia0_25 : Int32) (hia0_25l : 0 ≤ ia0_25.toInt) (hia0_25h : ia0_25.toInt ≤ 1) (ia0_26 : Int32) (hia0_26l : 0 ≤ ia0_26.toInt) (hia0_26h : ia0_26.toInt ≤ 300) (ia0_27 : Int32) (hia0_27l : (-9) ≤ ia0_27.toInt) (hia0_27h : ia0_27.toInt ≤ 11) (ia0_28 : Int32) (ia0_30 : Int32) (hia0_30l : 0 ≤ ia0_30.toInt) (hia0_30h : ia0_30.toInt ≤ 60) (ia0_31 : Int32) (ia0_32 : Int32) (hia0_32l : 0 ≤ ia0_32.toInt) (hia0_32h : ia0_32.toInt ≤ 1) (ia0_36 : Int32) (hia0_36l : 0 ≤ ia0_36.toInt) (hia0_36h : ia0_36.toInt ≤ 12) (ia0_37 : Int32) (p1 : Int32) : Met l yX12_isPlayer vsX12_isPlayer ({ frames := 0, cells := 0, slots := 0, locals := 0 }) (va_Pc [.ref ha0, .int p1] (zRB dC dI cI cQ [(ha0, .inr (12, [.ref ha0_0, .ref ha0_1, .ref ha0_2, .ref ha0_3, .ref ha0_4, .ref ha0_5, .ref ha0_6, .ref ha0_7, .ref ha0_8, .int ia0_9, .int ia0_10, .int ia0_11, .int ia0_12, .int ia0_13, .int ia0_14, .int ia0_15, .ref ha0_16, .ref ha0_17, .ref ha0_18, .ref ha0_19, .int ia0_20, .int ia0_21, .int ia0_22, .ref ha0_23, .int ia0_24, .int ia0_25, .int ia0_26, .int ia0_27, .int ia0_28, .ref ha0_29, .int ia0_30, .int ia0_31, .int ia0_32, .ref ha0_33, .ref ha0_34, .ref ha0_35, .int ia0_36, .int ia0_37]))])) (vp_Si (fun r => 0 ≤ r.toInt ∧ r.toInt ≤ 1 ∧ ((r.toInt = 1 ∧ 0 ≤ p1.toInt ∧ p1.toInt < ia0_9.toInt) ∨ (r.toInt = 0 ∧ (p1.toInt < 0 ∨ ia0_9.toInt ≤ p1.toInt))))) 0 0 (fun _ => False) := by
  refine Met.ofW (cc := cX12_isPlayer) (maxL := 2) (ret := (some .boolean)) (by decide) rfl ?_
  intro p e s m args below meth c s₁ B hml hv
  obtain ⟨rfl, hP, hZ⟩ := hv
  obtain ⟨hK, hAO, hN⟩ := id hZ
  have hx := B.exec
  have hb := B.bytes
  have hr := B.returns
  have hts := atoms_spec (ws := vsX12_isPlayer) B.pre
  have hown : s.vm.findClass RX12 = some m.cls := findClass_of_methodNamed B.named
  have hlocks := B.notSynchronized
  have hp1l := z_lo p1
  have hp1h := z_hi p1
  have hl := lv_entry ([.ref ha0, .int p1]) (n := 2) (Nat.le_of_ble_eq_true rfl)
  rw [lg_entry_eq]
  generalize (lg_sl ([.ref ha0, .int p1]) ++ List.replicate (2 - (lg_sl ([.ref ha0, .int p1])).length) Slot.unset).toArray = ls at hl ⊢
  have hl : lv_has ls 2 [(0, .ref ha0), (1, .int p1)] := hl
  refine lv_iload_n hx hb dX12_isPlayer_0 rfl (lv_at hl 1 rfl) ?_
  refine lv_if_lt (tgt := 16) hx hb dX12_isPlayer_1 (by decide) (fun hc => ?_) (fun hc => ?_)
  · have q1 : p1.toInt < 0 := z_lt rfl (by decide) hc
    refine lv_iconst (v := 0) hx hb dX12_isPlayer_16 (by decide) ?_
    exact W.zret (v := 0) hx hb hr (rfl) (fun t ht hW => ⟨0, rfl, ⟨by first | decide | omega, by first | decide | omega, (by have e0 : (0 : Int32).toInt = 0 := (by decide); have e1 : (1 : Int32).toInt = 1 := (by decide); have e9 : (-9 : Int32).toInt = -9 := (by decide); omega)⟩, ht⟩) (fun _ h => absurd h List.not_mem_nil) dX12_isPlayer_17
  · have q2 : 0 ≤ p1.toInt := z_nlt rfl (by decide) hc
    refine lv_iload_n hx hb dX12_isPlayer_4 rfl (lv_at hl 1 rfl) ?_
    refine lv_aload_n hx hb dX12_isPlayer_5 rfl (lv_at hl 0 rfl) ?_
    refine va_get (D := (dC, dI)) (ci := 12) (v := .int ia0_9) (C := RX12) (T := TX12) (N := 38) hx hb hts in_X12_isPlayer_X12 hown hK hP 0 rfl rfl 9 (by decide) (hts (.fieldLink RX12 76 "EachOnHisCueModel" "players" "I") (by decide +kernel)) (fun _ h9 => h9) rfl dX12_isPlayer_6 ?_
    refine lv_icmp_ge (tgt := 16) hx hb dX12_isPlayer_9 (by decide) (fun hc => ?_) (fun hc => ?_)
    · have q3 : ia0_9.toInt ≤ p1.toInt := z_le rfl rfl hc
      refine lv_iconst (v := 0) hx hb dX12_isPlayer_16 (by decide) ?_
      exact W.zret (v := 0) hx hb hr (rfl) (fun t ht hW => ⟨0, rfl, ⟨by first | decide | omega, by first | decide | omega, (by have e0 : (0 : Int32).toInt = 0 := (by decide); have e1 : (1 : Int32).toInt = 1 := (by decide); have e9 : (-9 : Int32).toInt = -9 := (by decide); omega)⟩, ht⟩) (fun _ h => absurd h List.not_mem_nil) dX12_isPlayer_17
    · have q4 : p1.toInt < ia0_9.toInt := z_nle rfl rfl hc
      refine lv_iconst (v := 1) hx hb dX12_isPlayer_12 (by decide) ?_
      refine lv_goto (tgt := 17) hx hb dX12_isPlayer_13 (by decide) ?_
      exact W.zret (v := 1) hx hb hr (rfl) (fun t ht hW => ⟨1, rfl, ⟨by first | decide | omega, by first | decide | omega, (by have e0 : (0 : Int32).toInt = 0 := (by decide); have e1 : (1 : Int32).toInt = 1 := (by decide); have e9 : (-9 : Int32).toInt = -9 := (by decide); omega)⟩, ht⟩) (fun _ h => absurd h List.not_mem_nil) dX12_isPlayer_17
theorem dX12_isLine_0 : decode cX12_isLine 0 = .ok (.iload_n 1, 1) := by decide +kernel
theorem dX12_isLine_1 : decode cX12_isLine 1 = .ok (.ifCond .lt 15, 3) := by decide +kernel
theorem dX12_isLine_4 : decode cX12_isLine 4 = .ok (.iload_n 1, 1) := by decide +kernel
theorem dX12_isLine_5 : decode cX12_isLine 5 = .ok (.aload_n 0, 1) := by decide +kernel
theorem dX12_isLine_6 : decode cX12_isLine 6 = .ok (.getfield 79, 3) := by decide +kernel
theorem dX12_isLine_9 : decode cX12_isLine 9 = .ok (.if_icmp .ge 7, 3) := by decide +kernel
theorem dX12_isLine_12 : decode cX12_isLine 12 = .ok (.iconst 1, 1) := by decide +kernel
theorem dX12_isLine_13 : decode cX12_isLine 13 = .ok (.goto 4, 3) := by decide +kernel
theorem dX12_isLine_16 : decode cX12_isLine 16 = .ok (.iconst 0, 1) := by decide +kernel
theorem dX12_isLine_17 : decode cX12_isLine 17 = .ok (.ireturn, 1) := by decide +kernel
noncomputable def voX12_isLine : List Cond := [.fieldLink RX12 79 "EachOnHisCueModel" "lines" "I"]
noncomputable def vsX12_isLine : List Cond := .code yX12_isLine cX12_isLine 2 (some .boolean) :: (voX12_isLine ++ (wsX120))
theorem zgX12_isLine : zGd vsX12_isLine := z_gdC rfl (z_gdA (z_gdO (by decide +kernel) : zGd voX12_isLine) (zgX12))
theorem in_X12_isLine_X12 : ∀ w ∈ wsX120, w ∈ vsX12_isLine := fun _ h => List.mem_cons_of_mem _ (List.mem_append_right _ (h))
set_option maxHeartbeats 4000000 in
set_option maxRecDepth 100000 in
theorem rX12_isLine (l : Launch) (dC : Nat → ClassId) (dI : Nat → Nat → Nat) (cI cQ : ClassId) (ha0 ha0_0 ha0_1 ha0_2 ha0_3 ha0_4 ha0_5 ha0_6 ha0_7 ha0_8 ha0_16 ha0_17 ha0_18 ha0_19 ha0_23 ha0_29 ha0_33 ha0_34 ha0_35 : Nat) (ia0_9 : Int32) (hia0_9l : 0 ≤ ia0_9.toInt) (hia0_9h : ia0_9.toInt ≤ 5) (ia0_10 : Int32) (hia0_10l : 0 ≤ ia0_10.toInt) (hia0_10h : ia0_10.toInt ≤ 12) (ia0_11 : Int32) (ia0_12 : Int32) (ia0_13 : Int32) (ia0_14 : Int32) (hia0_14l : (-9) ≤ ia0_14.toInt) (hia0_14h : ia0_14.toInt ≤ 11) (ia0_15 : Int32) (ia0_20 : Int32) (hia0_20l : 0 ≤ ia0_20.toInt) (hia0_20h : ia0_20.toInt ≤ 80) (ia0_21 : Int32) (hia0_21l : 0 ≤ ia0_21.toInt) (hia0_21h : ia0_21.toInt ≤ 80) (ia0_22 : Int32) (hia0_22l : 0 ≤ ia0_22.toInt) (hia0_22h : ia0_22.toInt ≤ 40) (ia0_24 : Int32) (hia0_24l : 0 ≤ ia0_24.toInt) (hia0_24h : ia0_24.toInt ≤ 1) (ia0_25 : Int32) (hia0_25l : 0 ≤ ia0_25.toInt) (hia0_25h : ia0_25.toInt ≤ 1) (ia0_26 : Int32) (hia0_26l : 0 ≤ ia0_26.toInt) (hia0_26h : ia0_26.toInt ≤ 300) (ia0_27 : Int32) (hia0_27l : (-9) ≤ ia0_27.toInt) (hia0_27h : ia0_27.toInt ≤ 11) (ia0_28 : Int32) (ia0_30 : Int32) (hia0_30l : 0 ≤ ia0_30.toInt) (hia0_30h : ia0_30.toInt ≤ 60) (ia0_31 : Int32) (ia0_32 : Int32) (hia0_32l : 0 ≤ ia0_32.toInt) (hia0_32h : ia0_32.toInt ≤ 1) (ia0_36 : Int32) (hia0_36l : 0 ≤ ia0_36.toInt) (hia0_36h : ia0_36.toInt ≤ 12) (ia0_37 : Int32) (p1 : Int32) : Met l yX12_isLine vsX12_isLine ({ frames := 0, cells := 0, slots := 0, locals := 0 }) (va_Pc [.ref ha0, .int p1] (zRB dC dI cI cQ [(ha0, .inr (12, [.ref ha0_0, .ref ha0_1, .ref ha0_2, .ref ha0_3, .ref ha0_4, .ref ha0_5, .ref ha0_6, .ref ha0_7, .ref ha0_8, .int ia0_9, .int ia0_10, .int ia0_11, .int ia0_12, .int ia0_13, .int ia0_14, .int ia0_15, .ref ha0_16, .ref ha0_17, .ref ha0_18, .ref ha0_19, .int ia0_20, .int ia0_21, .int ia0_22, .ref ha0_23, .int ia0_24, .int ia0_25, .int ia0_26, .int ia0_27, .int ia0_28, .ref ha0_29, .int ia0_30, .int ia0_31, .int ia0_32, .ref ha0_33, .ref ha0_34, .ref ha0_35, .int ia0_36, .int ia0_37]))])) (vp_Si (fun r => 0 ≤ r.toInt ∧ r.toInt ≤ 1 ∧ ((r.toInt = 1 ∧ 0 ≤ p1.toInt ∧ p1.toInt < ia0_10.toInt) ∨ (r.toInt = 0 ∧ (p1.toInt < 0 ∨ ia0_10.toInt ≤ p1.toInt))))) 0 0 (fun _ => False) := by
  refine Met.ofW (cc := cX12_isLine) (maxL := 2) (ret := (some .boolean)) (by decide) rfl ?_
  intro p e s m args below meth c s₁ B hml hv
  obtain ⟨rfl, hP, hZ⟩ := hv
  obtain ⟨hK, hAO, hN⟩ := id hZ
  have hx := B.exec
  have hb := B.bytes
  have hr := B.returns
  have hts := atoms_spec (ws := vsX12_isLine) B.pre
  have hown : s.vm.findClass RX12 = some m.cls := findClass_of_methodNamed B.named
  have hlocks := B.notSynchronized
  have hp1l := z_lo p1
  have hp1h := z_hi p1
  have hl := lv_entry ([.ref ha0, .int p1]) (n := 2) (Nat.le_of_ble_eq_true rfl)
  rw [lg_entry_eq]
  generalize (lg_sl ([.ref ha0, .int p1]) ++ List.replicate (2 - (lg_sl ([.ref ha0, .int p1])).length) Slot.unset).toArray = ls at hl ⊢
  have hl : lv_has ls 2 [(0, .ref ha0), (1, .int p1)] := hl
  refine lv_iload_n hx hb dX12_isLine_0 rfl (lv_at hl 1 rfl) ?_
  refine lv_if_lt (tgt := 16) hx hb dX12_isLine_1 (by decide) (fun hc => ?_) (fun hc => ?_)
  · have q1 : p1.toInt < 0 := z_lt rfl (by decide) hc
    refine lv_iconst (v := 0) hx hb dX12_isLine_16 (by decide) ?_
    exact W.zret (v := 0) hx hb hr (rfl) (fun t ht hW => ⟨0, rfl, ⟨by first | decide | omega, by first | decide | omega, (by have e0 : (0 : Int32).toInt = 0 := (by decide); have e1 : (1 : Int32).toInt = 1 := (by decide); have e9 : (-9 : Int32).toInt = -9 := (by decide); omega)⟩, ht⟩) (fun _ h => absurd h List.not_mem_nil) dX12_isLine_17
  · have q2 : 0 ≤ p1.toInt := z_nlt rfl (by decide) hc
    refine lv_iload_n hx hb dX12_isLine_4 rfl (lv_at hl 1 rfl) ?_
    refine lv_aload_n hx hb dX12_isLine_5 rfl (lv_at hl 0 rfl) ?_
    refine va_get (D := (dC, dI)) (ci := 12) (v := .int ia0_10) (C := RX12) (T := TX12) (N := 38) hx hb hts in_X12_isLine_X12 hown hK hP 0 rfl rfl 10 (by decide) (hts (.fieldLink RX12 79 "EachOnHisCueModel" "lines" "I") (by decide +kernel)) (fun _ h9 => h9) rfl dX12_isLine_6 ?_
    refine lv_icmp_ge (tgt := 16) hx hb dX12_isLine_9 (by decide) (fun hc => ?_) (fun hc => ?_)
    · have q3 : ia0_10.toInt ≤ p1.toInt := z_le rfl rfl hc
      refine lv_iconst (v := 0) hx hb dX12_isLine_16 (by decide) ?_
      exact W.zret (v := 0) hx hb hr (rfl) (fun t ht hW => ⟨0, rfl, ⟨by first | decide | omega, by first | decide | omega, (by have e0 : (0 : Int32).toInt = 0 := (by decide); have e1 : (1 : Int32).toInt = 1 := (by decide); have e9 : (-9 : Int32).toInt = -9 := (by decide); omega)⟩, ht⟩) (fun _ h => absurd h List.not_mem_nil) dX12_isLine_17
    · have q4 : p1.toInt < ia0_10.toInt := z_nle rfl rfl hc
      refine lv_iconst (v := 1) hx hb dX12_isLine_12 (by decide) ?_
      refine lv_goto (tgt := 17) hx hb dX12_isLine_13 (by decide) ?_
      exact W.zret (v := 1) hx hb hr (rfl) (fun t ht hW => ⟨1, rfl, ⟨by first | decide | omega, by first | decide | omega, (by have e0 : (0 : Int32).toInt = 0 := (by decide); have e1 : (1 : Int32).toInt = 1 := (by decide); have e9 : (-9 : Int32).toInt = -9 := (by decide); omega)⟩, ht⟩) (fun _ h => absurd h List.not_mem_nil) dX12_isLine_17
theorem dX12_next_0 : decode cX12_next 0 = .ok (.aload_n 0, 1) := by decide +kernel
theorem dX12_next_1 : decode cX12_next 1 = .ok (.getfield 93, 3) := by decide +kernel
theorem dX12_next_4 : decode cX12_next 4 = .ok (.aload_n 0, 1) := by decide +kernel
theorem dX12_next_5 : decode cX12_next 5 = .ok (.getfield 86, 3) := by decide +kernel
theorem dX12_next_8 : decode cX12_next 8 = .ok (.if_icmp .ge 15, 3) := by decide +kernel
theorem dX12_next_11 : decode cX12_next 11 = .ok (.aload_n 0, 1) := by decide +kernel
theorem dX12_next_12 : decode cX12_next 12 = .ok (.getfield 44, 3) := by decide +kernel
theorem dX12_next_15 : decode cX12_next 15 = .ok (.aload_n 0, 1) := by decide +kernel
theorem dX12_next_16 : decode cX12_next 16 = .ok (.getfield 93, 3) := by decide +kernel
theorem dX12_next_19 : decode cX12_next 19 = .ok (.iaload, 1) := by decide +kernel
theorem dX12_next_20 : decode cX12_next 20 = .ok (.goto 4, 3) := by decide +kernel
theorem dX12_next_23 : decode cX12_next 23 = .ok (.iconst (-1), 1) := by decide +kernel
theorem dX12_next_24 : decode cX12_next 24 = .ok (.ireturn, 1) := by decide +kernel
noncomputable def voX12_next : List Cond := [.fieldLink RX12 93 "EachOnHisCueModel" "at" "I", .fieldLink RX12 86 "EachOnHisCueModel" "taped" "I", .fieldLink RX12 44 "EachOnHisCueModel" "tape" "[I"]
noncomputable def vsX12_next : List Cond := .code yX12_next cX12_next 1 (some .int) :: (voX12_next ++ (wsX120))
theorem zgX12_next : zGd vsX12_next := z_gdC rfl (z_gdA (z_gdO (by decide +kernel) : zGd voX12_next) (zgX12))
theorem in_X12_next_X12 : ∀ w ∈ wsX120, w ∈ vsX12_next := fun _ h => List.mem_cons_of_mem _ (List.mem_append_right _ (h))
set_option maxHeartbeats 4000000 in
set_option maxRecDepth 100000 in
theorem rX12_next (l : Launch) (dC : Nat → ClassId) (dI : Nat → Nat → Nat) (cI cQ : ClassId) (ha0 ha0_16 ha0_0 ha0_1 ha0_2 ha0_3 ha0_4 ha0_5 ha0_6 ha0_7 ha0_8 ha0_17 ha0_18 ha0_19 ha0_23 ha0_29 ha0_33 ha0_34 ha0_35 : Nat) (fa0_16 : Nat → Int32) (hBfa0_16 : ∀ k, 0 ≤ (fa0_16 k).toInt ∧ (fa0_16 k).toInt ≤ 255) (ia0_9 : Int32) (hia0_9l : 0 ≤ ia0_9.toInt) (hia0_9h : ia0_9.toInt ≤ 5) (ia0_10 : Int32) (hia0_10l : 0 ≤ ia0_10.toInt) (hia0_10h : ia0_10.toInt ≤ 12) (ia0_11 : Int32) (ia0_12 : Int32) (ia0_13 : Int32) (ia0_14 : Int32) (hia0_14l : (-9) ≤ ia0_14.toInt) (hia0_14h : ia0_14.toInt ≤ 11) (ia0_15 : Int32) (ia0_20 : Int32) (hia0_20l : 0 ≤ ia0_20.toInt) (hia0_20h : ia0_20.toInt ≤ 80) (ia0_21 : Int32) (hia0_21l : 0 ≤ ia0_21.toInt) (hia0_21h : ia0_21.toInt ≤ 80) (ia0_22 : Int32) (hia0_22l : 0 ≤ ia0_22.toInt) (hia0_22h : ia0_22.toInt ≤ 40) (ia0_24 : Int32) (hia0_24l : 0 ≤ ia0_24.toInt) (hia0_24h : ia0_24.toInt ≤ 1) (ia0_25 : Int32) (hia0_25l : 0 ≤ ia0_25.toInt) (hia0_25h : ia0_25.toInt ≤ 1) (ia0_26 : Int32) (hia0_26l : 0 ≤ ia0_26.toInt) (hia0_26h : ia0_26.toInt ≤ 300) (ia0_27 : Int32) (hia0_27l : (-9) ≤ ia0_27.toInt) (hia0_27h : ia0_27.toInt ≤ 11) (ia0_28 : Int32) (ia0_30 : Int32) (hia0_30l : 0 ≤ ia0_30.toInt) (hia0_30h : ia0_30.toInt ≤ 60) (ia0_31 : Int32) (ia0_32 : Int32) (hia0_32l : 0 ≤ ia0_32.toInt) (hia0_32h : ia0_32.toInt ≤ 1) (ia0_36 : Int32) (hia0_36l : 0 ≤ ia0_36.toInt) (hia0_36h : ia0_36.toInt ≤ 12) (ia0_37 : Int32) : Met l yX12_next vsX12_next ({ frames := 0, cells := 0, slots := 0, locals := 0 }) (va_Pc [.ref ha0] (zRB dC dI cI cQ [(ha0_16, .inl (cI, 80, .inl fa0_16)), (ha0, .inr (12, [.ref ha0_0, .ref ha0_1, .ref ha0_2, .ref ha0_3, .ref ha0_4, .ref ha0_5, .ref ha0_6, .ref ha0_7, .ref ha0_8, .int ia0_9, .int ia0_10, .int ia0_11, .int ia0_12, .int ia0_13, .int ia0_14, .int ia0_15, .ref ha0_16, .ref ha0_17, .ref ha0_18, .ref ha0_19, .int ia0_20, .int ia0_21, .int ia0_22, .ref ha0_23, .int ia0_24, .int ia0_25, .int ia0_26, .int ia0_27, .int ia0_28, .ref ha0_29, .int ia0_30, .int ia0_31, .int ia0_32, .ref ha0_33, .ref ha0_34, .ref ha0_35, .int ia0_36, .int ia0_37]))])) (vp_Si (fun r => (-1) ≤ r.toInt ∧ r.toInt ≤ 255 ∧ ((ia0_21.toInt < ia0_20.toInt ∧ r.toInt = zAt fa0_16 ia0_20.toInt ia0_21.toInt) ∨ (ia0_20.toInt ≤ ia0_21.toInt ∧ r.toInt = -1)))) 0 0 (fun _ => False) := by
  refine Met.ofW (cc := cX12_next) (maxL := 1) (ret := (some .int)) (by decide) rfl ?_
  intro p e s m args below meth c s₁ B hml hv
  obtain ⟨rfl, hP, hZ⟩ := hv
  obtain ⟨hK, hAO, hN⟩ := id hZ
  have hx := B.exec
  have hb := B.bytes
  have hr := B.returns
  have hts := atoms_spec (ws := vsX12_next) B.pre
  have hown : s.vm.findClass RX12 = some m.cls := findClass_of_methodNamed B.named
  have hlocks := B.notSynchronized
  have hl := lv_entry ([.ref ha0]) (n := 1) (Nat.le_of_ble_eq_true rfl)
  rw [lg_entry_eq]
  generalize (lg_sl ([.ref ha0]) ++ List.replicate (1 - (lg_sl ([.ref ha0])).length) Slot.unset).toArray = ls at hl ⊢
  have hl : lv_has ls 1 [(0, .ref ha0)] := hl
  refine lv_aload_n hx hb dX12_next_0 rfl (lv_at hl 0 rfl) ?_
  refine va_get (D := (dC, dI)) (ci := 12) (v := .int ia0_21) (C := RX12) (T := TX12) (N := 38) hx hb hts in_X12_next_X12 hown hK hP 1 rfl rfl 21 (by decide) (hts (.fieldLink RX12 93 "EachOnHisCueModel" "at" "I") (by decide +kernel)) (fun _ h9 => h9) rfl dX12_next_1 ?_
  refine lv_aload_n hx hb dX12_next_4 rfl (lv_at hl 0 rfl) ?_
  refine va_get (D := (dC, dI)) (ci := 12) (v := .int ia0_20) (C := RX12) (T := TX12) (N := 38) hx hb hts in_X12_next_X12 hown hK hP 1 rfl rfl 20 (by decide) (hts (.fieldLink RX12 86 "EachOnHisCueModel" "taped" "I") (by decide +kernel)) (fun _ h9 => h9) rfl dX12_next_5 ?_
  refine lv_icmp_ge (tgt := 23) hx hb dX12_next_8 (by decide) (fun hc => ?_) (fun hc => ?_)
  · have q1 : ia0_20.toInt ≤ ia0_21.toInt := z_le rfl rfl hc
    refine lv_iconst (v := (-1)) hx hb dX12_next_23 (by decide) ?_
    exact W.iret (v := (-1)) hx hb hr (fun t ht hW => ⟨(-1), rfl, ⟨by first | decide | omega, by first | decide | omega, (by first | exact Or.inl ⟨by omega, z_atE (by assumption) rfl (by omega) (by omega)⟩ | exact Or.inr ⟨by omega, by decide⟩)⟩, ht⟩) (fun _ h => absurd h List.not_mem_nil) dX12_next_24
  · have q2 : ia0_21.toInt < ia0_20.toInt := z_nle rfl rfl hc
    refine lv_aload_n hx hb dX12_next_11 rfl (lv_at hl 0 rfl) ?_
    refine va_get (D := (dC, dI)) (ci := 12) (v := .ref ha0_16) (C := RX12) (T := TX12) (N := 38) hx hb hts in_X12_next_X12 hown hK hP 1 rfl rfl 16 (by decide) (hts (.fieldLink RX12 44 "EachOnHisCueModel" "tape" "[I") (by decide +kernel)) (fun _ h9 => h9) rfl dX12_next_12 ?_
    refine lv_aload_n hx hb dX12_next_15 rfl (lv_at hl 0 rfl) ?_
    refine va_get (D := (dC, dI)) (ci := 12) (v := .int ia0_21) (C := RX12) (T := TX12) (N := 38) hx hb hts in_X12_next_X12 hown hK hP 1 rfl rfl 21 (by decide) (hts (.fieldLink RX12 93 "EachOnHisCueModel" "at" "I") (by decide +kernel)) (fun _ h9 => h9) rfl dX12_next_16 ?_
    refine va_iald hx hb hK hP 0 0 rfl rfl (z_in (by omega) (by omega)) dX12_next_19 ?_
    refine lv_topi (fun y3 ey3 => ?_)
    have gy3 : y3.toInt = (fa0_16 (ia0_21 : Int32).toNatClampNeg).toInt := by rw [ey3]
    have hy3 : 0 ≤ y3.toInt ∧ y3.toInt ≤ 255 := by rw [ey3]; exact hBfa0_16 _
    obtain ⟨hy3, hy3_⟩ := hy3
    refine lv_goto (tgt := 24) hx hb dX12_next_20 (by decide) ?_
    exact W.iret (v := y3) hx hb hr (fun t ht hW => ⟨y3, rfl, ⟨by first | decide | omega, by first | decide | omega, (by first | exact Or.inl ⟨by omega, z_atE (by assumption) rfl (by omega) (by omega)⟩ | exact Or.inr ⟨by omega, by decide⟩)⟩, ht⟩) (fun _ h => absurd h List.not_mem_nil) dX12_next_24
theorem dX12_hasteOf_0 : decode cX12_hasteOf 0 = .ok (.aload_n 0, 1) := by decide +kernel
theorem dX12_hasteOf_1 : decode cX12_hasteOf 1 = .ok (.getfield 13, 3) := by decide +kernel
theorem dX12_hasteOf_4 : decode cX12_hasteOf 4 = .ok (.iload_n 1, 1) := by decide +kernel
theorem dX12_hasteOf_5 : decode cX12_hasteOf 5 = .ok (.iaload, 1) := by decide +kernel
theorem dX12_hasteOf_6 : decode cX12_hasteOf 6 = .ok (.iconst 2, 1) := by decide +kernel
theorem dX12_hasteOf_7 : decode cX12_hasteOf 7 = .ok (.if_icmp .ne 16, 3) := by decide +kernel
theorem dX12_hasteOf_10 : decode cX12_hasteOf 10 = .ok (.iconst 2, 1) := by decide +kernel
theorem dX12_hasteOf_11 : decode cX12_hasteOf 11 = .ok (.aload_n 0, 1) := by decide +kernel
theorem dX12_hasteOf_12 : decode cX12_hasteOf 12 = .ok (.getfield 19, 3) := by decide +kernel
theorem dX12_hasteOf_15 : decode cX12_hasteOf 15 = .ok (.iload_n 1, 1) := by decide +kernel
theorem dX12_hasteOf_16 : decode cX12_hasteOf 16 = .ok (.iaload, 1) := by decide +kernel
theorem dX12_hasteOf_17 : decode cX12_hasteOf 17 = .ok (.imul, 1) := by decide +kernel
theorem dX12_hasteOf_18 : decode cX12_hasteOf 18 = .ok (.iconst 1, 1) := by decide +kernel
theorem dX12_hasteOf_19 : decode cX12_hasteOf 19 = .ok (.iadd, 1) := by decide +kernel
theorem dX12_hasteOf_20 : decode cX12_hasteOf 20 = .ok (.goto 9, 3) := by decide +kernel
theorem dX12_hasteOf_23 : decode cX12_hasteOf 23 = .ok (.aload_n 0, 1) := by decide +kernel
theorem dX12_hasteOf_24 : decode cX12_hasteOf 24 = .ok (.getfield 19, 3) := by decide +kernel
theorem dX12_hasteOf_27 : decode cX12_hasteOf 27 = .ok (.iload_n 1, 1) := by decide +kernel
theorem dX12_hasteOf_28 : decode cX12_hasteOf 28 = .ok (.iaload, 1) := by decide +kernel
theorem dX12_hasteOf_29 : decode cX12_hasteOf 29 = .ok (.ireturn, 1) := by decide +kernel
noncomputable def voX12_hasteOf : List Cond := [.fieldLink RX12 13 "EachOnHisCueModel" "kind" "[I", .fieldLink RX12 19 "EachOnHisCueModel" "speed" "[I"]
noncomputable def vsX12_hasteOf : List Cond := .code yX12_hasteOf cX12_hasteOf 2 (some .int) :: (voX12_hasteOf ++ (wsX120))
theorem zgX12_hasteOf : zGd vsX12_hasteOf := z_gdC rfl (z_gdA (z_gdO (by decide +kernel) : zGd voX12_hasteOf) (zgX12))
theorem in_X12_hasteOf_X12 : ∀ w ∈ wsX120, w ∈ vsX12_hasteOf := fun _ h => List.mem_cons_of_mem _ (List.mem_append_right _ (h))
set_option maxHeartbeats 4000000 in
set_option maxRecDepth 100000 in
theorem rX12_hasteOf (l : Launch) (dC : Nat → ClassId) (dI : Nat → Nat → Nat) (cI cQ : ClassId) (ha0 ha0_1 ha0_3 ha0_0 ha0_2 ha0_4 ha0_5 ha0_6 ha0_7 ha0_8 ha0_16 ha0_17 ha0_18 ha0_19 ha0_23 ha0_29 ha0_33 ha0_34 ha0_35 : Nat) (fa0_1 : Nat → Int32) (fa0_3 : Nat → Int32) (ia0_9 : Int32) (hia0_9l : 0 ≤ ia0_9.toInt) (hia0_9h : ia0_9.toInt ≤ 5) (ia0_10 : Int32) (hia0_10l : 0 ≤ ia0_10.toInt) (hia0_10h : ia0_10.toInt ≤ 12) (ia0_11 : Int32) (ia0_12 : Int32) (ia0_13 : Int32) (ia0_14 : Int32) (hia0_14l : (-9) ≤ ia0_14.toInt) (hia0_14h : ia0_14.toInt ≤ 11) (ia0_15 : Int32) (ia0_20 : Int32) (hia0_20l : 0 ≤ ia0_20.toInt) (hia0_20h : ia0_20.toInt ≤ 80) (ia0_21 : Int32) (hia0_21l : 0 ≤ ia0_21.toInt) (hia0_21h : ia0_21.toInt ≤ 80) (ia0_22 : Int32) (hia0_22l : 0 ≤ ia0_22.toInt) (hia0_22h : ia0_22.toInt ≤ 40) (ia0_24 : Int32) (hia0_24l : 0 ≤ ia0_24.toInt) (hia0_24h : ia0_24.toInt ≤ 1) (ia0_25 : Int32) (hia0_25l : 0 ≤ ia0_25.toInt) (hia0_25h : ia0_25.toInt ≤ 1) (ia0_26 : Int32) (hia0_26l : 0 ≤ ia0_26.toInt) (hia0_26h : ia0_26.toInt ≤ 300) (ia0_27 : Int32) (hia0_27l : (-9) ≤ ia0_27.toInt) (hia0_27h : ia0_27.toInt ≤ 11) (ia0_28 : Int32) (ia0_30 : Int32) (hia0_30l : 0 ≤ ia0_30.toInt) (hia0_30h : ia0_30.toInt ≤ 60) (ia0_31 : Int32) (ia0_32 : Int32) (hia0_32l : 0 ≤ ia0_32.toInt) (hia0_32h : ia0_32.toInt ≤ 1) (ia0_36 : Int32) (hia0_36l : 0 ≤ ia0_36.toInt) (hia0_36h : ia0_36.toInt ≤ 12) (ia0_37 : Int32) (p1 : Int32) (hp1l : 0 ≤ p1.toInt) (hp1h : p1.toInt ≤ 4) : Met l yX12_hasteOf vsX12_hasteOf ({ frames := 0, cells := 0, slots := 0, locals := 0 }) (va_Pc [.ref ha0, .int p1] (zRB dC dI cI cQ [(ha0_1, .inl (cI, 5, .inl fa0_1)), (ha0_3, .inl (cI, 5, .inl fa0_3)), (ha0, .inr (12, [.ref ha0_0, .ref ha0_1, .ref ha0_2, .ref ha0_3, .ref ha0_4, .ref ha0_5, .ref ha0_6, .ref ha0_7, .ref ha0_8, .int ia0_9, .int ia0_10, .int ia0_11, .int ia0_12, .int ia0_13, .int ia0_14, .int ia0_15, .ref ha0_16, .ref ha0_17, .ref ha0_18, .ref ha0_19, .int ia0_20, .int ia0_21, .int ia0_22, .ref ha0_23, .int ia0_24, .int ia0_25, .int ia0_26, .int ia0_27, .int ia0_28, .ref ha0_29, .int ia0_30, .int ia0_31, .int ia0_32, .ref ha0_33, .ref ha0_34, .ref ha0_35, .int ia0_36, .int ia0_37]))])) (vp_Si (fun r => (-2147483648) ≤ r.toInt ∧ r.toInt ≤ 2147483647 ∧ (r = zHs fa0_1 fa0_3 p1.toNatClampNeg))) 0 0 (fun _ => False) := by
  refine Met.ofW (cc := cX12_hasteOf) (maxL := 2) (ret := (some .int)) (by decide) rfl ?_
  intro p e s m args below meth c s₁ B hml hv
  obtain ⟨rfl, hP, hZ⟩ := hv
  obtain ⟨hK, hAO, hN⟩ := id hZ
  have hx := B.exec
  have hb := B.bytes
  have hr := B.returns
  have hts := atoms_spec (ws := vsX12_hasteOf) B.pre
  have hown : s.vm.findClass RX12 = some m.cls := findClass_of_methodNamed B.named
  have hlocks := B.notSynchronized
  have hl := lv_entry ([.ref ha0, .int p1]) (n := 2) (Nat.le_of_ble_eq_true rfl)
  rw [lg_entry_eq]
  generalize (lg_sl ([.ref ha0, .int p1]) ++ List.replicate (2 - (lg_sl ([.ref ha0, .int p1])).length) Slot.unset).toArray = ls at hl ⊢
  have hl : lv_has ls 2 [(0, .ref ha0), (1, .int p1)] := hl
  refine lv_aload_n hx hb dX12_hasteOf_0 rfl (lv_at hl 0 rfl) ?_
  refine va_get (D := (dC, dI)) (ci := 12) (v := .ref ha0_1) (C := RX12) (T := TX12) (N := 38) hx hb hts in_X12_hasteOf_X12 hown hK hP 2 rfl rfl 1 (by decide) (hts (.fieldLink RX12 13 "EachOnHisCueModel" "kind" "[I") (by decide +kernel)) (fun _ h9 => h9) rfl dX12_hasteOf_1 ?_
  refine lv_iload_n hx hb dX12_hasteOf_4 rfl (lv_at hl 1 rfl) ?_
  refine va_iald hx hb hK hP 0 0 rfl rfl (z_in (by omega) (by omega)) dX12_hasteOf_5 ?_
  refine lv_topi (fun y1 ey1 => ?_)
  have gy1 : y1.toInt = (fa0_1 (p1 : Int32).toNatClampNeg).toInt := by rw [ey1]
  refine lv_iconst (v := 2) hx hb dX12_hasteOf_6 (by decide) ?_
  refine lv_icmp_ne (tgt := 23) hx hb dX12_hasteOf_7 (by decide) (fun hc => ?_) (fun hc => ?_)
  · have q2 : y1.toInt ≠ 2 := z_ne rfl (by decide) hc
    refine lv_aload_n hx hb dX12_hasteOf_23 rfl (lv_at hl 0 rfl) ?_
    refine va_get (D := (dC, dI)) (ci := 12) (v := .ref ha0_3) (C := RX12) (T := TX12) (N := 38) hx hb hts in_X12_hasteOf_X12 hown hK hP 2 rfl rfl 3 (by decide) (hts (.fieldLink RX12 19 "EachOnHisCueModel" "speed" "[I") (by decide +kernel)) (fun _ h9 => h9) rfl dX12_hasteOf_24 ?_
    refine lv_iload_n hx hb dX12_hasteOf_27 rfl (lv_at hl 1 rfl) ?_
    refine va_iald hx hb hK hP 1 0 rfl rfl (z_in (by omega) (by omega)) dX12_hasteOf_28 ?_
    refine lv_topi (fun y3 ey3 => ?_)
    have gy3 : y3.toInt = (fa0_3 (p1 : Int32).toNatClampNeg).toInt := by rw [ey3]
    exact W.iret (v := y3) hx hb hr (fun t ht hW => ⟨y3, rfl, ⟨z_lo _, z_hi _, (by exact z_hsN (c := (y1 : Int32).toInt) (by rw [ey1]) (by omega) rfl ey3)⟩, ht⟩) (fun _ h => absurd h List.not_mem_nil) dX12_hasteOf_29
  · have q4 : y1.toInt = 2 := z_eq rfl (by decide) hc
    refine lv_iconst (v := 2) hx hb dX12_hasteOf_10 (by decide) ?_
    refine lv_aload_n hx hb dX12_hasteOf_11 rfl (lv_at hl 0 rfl) ?_
    refine va_get (D := (dC, dI)) (ci := 12) (v := .ref ha0_3) (C := RX12) (T := TX12) (N := 38) hx hb hts in_X12_hasteOf_X12 hown hK hP 2 rfl rfl 3 (by decide) (hts (.fieldLink RX12 19 "EachOnHisCueModel" "speed" "[I") (by decide +kernel)) (fun _ h9 => h9) rfl dX12_hasteOf_12 ?_
    refine lv_iload_n hx hb dX12_hasteOf_15 rfl (lv_at hl 1 rfl) ?_
    refine va_iald hx hb hK hP 1 0 rfl rfl (z_in (by omega) (by omega)) dX12_hasteOf_16 ?_
    refine lv_topi (fun y5 ey5 => ?_)
    have gy5 : y5.toInt = (fa0_3 (p1 : Int32).toNatClampNeg).toInt := by rw [ey5]
    refine lv_imul hx hb dX12_hasteOf_17 ?_
    refine lv_topi (fun y6 ey6 => ?_)
    refine lv_iconst (v := 1) hx hb dX12_hasteOf_18 (by decide) ?_
    refine lv_iadd hx hb dX12_hasteOf_19 ?_
    refine lv_topi (fun y7 ey7 => ?_)
    refine lv_goto (tgt := 29) hx hb dX12_hasteOf_20 (by decide) ?_
    exact W.iret (v := y7) hx hb hr (fun t ht hW => ⟨y7, rfl, ⟨z_lo _, z_hi _, (by exact z_hsQ (by rw [← ey1]; omega) (by rw [ey7, ey6]) ey5)⟩, ht⟩) (fun _ h => absurd h List.not_mem_nil) dX12_hasteOf_29
theorem dX12_linesOf_0 : decode cX12_linesOf 0 = .ok (.iconst 0, 1) := by decide +kernel
theorem dX12_linesOf_1 : decode cX12_linesOf 1 = .ok (.istore_n 2, 1) := by decide +kernel
theorem dX12_linesOf_2 : decode cX12_linesOf 2 = .ok (.iconst 0, 1) := by decide +kernel
theorem dX12_linesOf_3 : decode cX12_linesOf 3 = .ok (.istore_n 3, 1) := by decide +kernel
theorem dX12_linesOf_4 : decode cX12_linesOf 4 = .ok (.iload_n 3, 1) := by decide +kernel
theorem dX12_linesOf_5 : decode cX12_linesOf 5 = .ok (.aload_n 0, 1) := by decide +kernel
theorem dX12_linesOf_6 : decode cX12_linesOf 6 = .ok (.getfield 79, 3) := by decide +kernel
theorem dX12_linesOf_9 : decode cX12_linesOf 9 = .ok (.if_icmp .ge 29, 3) := by decide +kernel
theorem dX12_linesOf_12 : decode cX12_linesOf 12 = .ok (.iload_n 2, 1) := by decide +kernel
theorem dX12_linesOf_13 : decode cX12_linesOf 13 = .ok (.aload_n 0, 1) := by decide +kernel
theorem dX12_linesOf_14 : decode cX12_linesOf 14 = .ok (.getfield 22, 3) := by decide +kernel
theorem dX12_linesOf_17 : decode cX12_linesOf 17 = .ok (.iload_n 3, 1) := by decide +kernel
theorem dX12_linesOf_18 : decode cX12_linesOf 18 = .ok (.iaload, 1) := by decide +kernel
theorem dX12_linesOf_19 : decode cX12_linesOf 19 = .ok (.iload_n 1, 1) := by decide +kernel
theorem dX12_linesOf_20 : decode cX12_linesOf 20 = .ok (.if_icmp .ne 9, 3) := by decide +kernel
theorem dX12_linesOf_23 : decode cX12_linesOf 23 = .ok (.iconst 1, 1) := by decide +kernel
theorem dX12_linesOf_24 : decode cX12_linesOf 24 = .ok (.iload_n 3, 1) := by decide +kernel
theorem dX12_linesOf_25 : decode cX12_linesOf 25 = .ok (.ishl, 1) := by decide +kernel
theorem dX12_linesOf_26 : decode cX12_linesOf 26 = .ok (.goto 4, 3) := by decide +kernel
theorem dX12_linesOf_29 : decode cX12_linesOf 29 = .ok (.iconst 0, 1) := by decide +kernel
theorem dX12_linesOf_30 : decode cX12_linesOf 30 = .ok (.ior, 1) := by decide +kernel
theorem dX12_linesOf_31 : decode cX12_linesOf 31 = .ok (.istore_n 2, 1) := by decide +kernel
theorem dX12_linesOf_32 : decode cX12_linesOf 32 = .ok (.iinc 3 1, 3) := by decide +kernel
theorem dX12_linesOf_35 : decode cX12_linesOf 35 = .ok (.goto (-31), 3) := by decide +kernel
theorem dX12_linesOf_38 : decode cX12_linesOf 38 = .ok (.iload_n 2, 1) := by decide +kernel
theorem dX12_linesOf_39 : decode cX12_linesOf 39 = .ok (.ireturn, 1) := by decide +kernel
noncomputable def voX12_linesOf : List Cond := [.fieldLink RX12 79 "EachOnHisCueModel" "lines" "I", .fieldLink RX12 22 "EachOnHisCueModel" "whose" "[I"]
noncomputable def vsX12_linesOf : List Cond := .code yX12_linesOf cX12_linesOf 4 (some .int) :: (voX12_linesOf ++ (wsX120))
theorem zgX12_linesOf : zGd vsX12_linesOf := z_gdC rfl (z_gdA (z_gdO (by decide +kernel) : zGd voX12_linesOf) (zgX12))
theorem in_X12_linesOf_X12 : ∀ w ∈ wsX120, w ∈ vsX12_linesOf := fun _ h => List.mem_cons_of_mem _ (List.mem_append_right _ (h))
set_option maxHeartbeats 4000000 in
set_option maxRecDepth 100000 in
theorem rX12_linesOf (l : Launch) (dC : Nat → ClassId) (dI : Nat → Nat → Nat) (cI cQ : ClassId) (ha0 ha0_4 ha0_0 ha0_1 ha0_2 ha0_3 ha0_5 ha0_6 ha0_7 ha0_8 ha0_16 ha0_17 ha0_18 ha0_19 ha0_23 ha0_29 ha0_33 ha0_34 ha0_35 : Nat) (fa0_4 : Nat → Int32) (hBfa0_4 : ∀ k, 0 ≤ (fa0_4 k).toInt ∧ (fa0_4 k).toInt ≤ 4) (ia0_9 : Int32) (hia0_9l : 0 ≤ ia0_9.toInt) (hia0_9h : ia0_9.toInt ≤ 5) (ia0_10 : Int32) (hia0_10l : 0 ≤ ia0_10.toInt) (hia0_10h : ia0_10.toInt ≤ 12) (ia0_11 : Int32) (ia0_12 : Int32) (ia0_13 : Int32) (ia0_14 : Int32) (hia0_14l : (-9) ≤ ia0_14.toInt) (hia0_14h : ia0_14.toInt ≤ 11) (ia0_15 : Int32) (ia0_20 : Int32) (hia0_20l : 0 ≤ ia0_20.toInt) (hia0_20h : ia0_20.toInt ≤ 80) (ia0_21 : Int32) (hia0_21l : 0 ≤ ia0_21.toInt) (hia0_21h : ia0_21.toInt ≤ 80) (ia0_22 : Int32) (hia0_22l : 0 ≤ ia0_22.toInt) (hia0_22h : ia0_22.toInt ≤ 40) (ia0_24 : Int32) (hia0_24l : 0 ≤ ia0_24.toInt) (hia0_24h : ia0_24.toInt ≤ 1) (ia0_25 : Int32) (hia0_25l : 0 ≤ ia0_25.toInt) (hia0_25h : ia0_25.toInt ≤ 1) (ia0_26 : Int32) (hia0_26l : 0 ≤ ia0_26.toInt) (hia0_26h : ia0_26.toInt ≤ 300) (ia0_27 : Int32) (hia0_27l : (-9) ≤ ia0_27.toInt) (hia0_27h : ia0_27.toInt ≤ 11) (ia0_28 : Int32) (ia0_30 : Int32) (hia0_30l : 0 ≤ ia0_30.toInt) (hia0_30h : ia0_30.toInt ≤ 60) (ia0_31 : Int32) (ia0_32 : Int32) (hia0_32l : 0 ≤ ia0_32.toInt) (hia0_32h : ia0_32.toInt ≤ 1) (ia0_36 : Int32) (hia0_36l : 0 ≤ ia0_36.toInt) (hia0_36h : ia0_36.toInt ≤ 12) (ia0_37 : Int32) (p1 : Int32) : Met l yX12_linesOf vsX12_linesOf ({ frames := 0, cells := 0, slots := 0, locals := 0 }) (va_Pc [.ref ha0, .int p1] (zRB dC dI cI cQ [(ha0_4, .inl (cI, 12, .inl fa0_4)), (ha0, .inr (12, [.ref ha0_0, .ref ha0_1, .ref ha0_2, .ref ha0_3, .ref ha0_4, .ref ha0_5, .ref ha0_6, .ref ha0_7, .ref ha0_8, .int ia0_9, .int ia0_10, .int ia0_11, .int ia0_12, .int ia0_13, .int ia0_14, .int ia0_15, .ref ha0_16, .ref ha0_17, .ref ha0_18, .ref ha0_19, .int ia0_20, .int ia0_21, .int ia0_22, .ref ha0_23, .int ia0_24, .int ia0_25, .int ia0_26, .int ia0_27, .int ia0_28, .ref ha0_29, .int ia0_30, .int ia0_31, .int ia0_32, .ref ha0_33, .ref ha0_34, .ref ha0_35, .int ia0_36, .int ia0_37]))])) (vp_Si (fun r => (-2147483648) ≤ r.toInt ∧ r.toInt ≤ 2147483647 ∧ (zOwL ia0_10.toInt fa0_4 p1.toInt r))) 0 0 (fun _ => False) := by
  refine Met.ofW (cc := cX12_linesOf) (maxL := 4) (ret := (some .int)) (by decide) rfl ?_
  intro p e s m args below meth c s₁ B hml hv
  obtain ⟨rfl, hP, hZ⟩ := hv
  obtain ⟨hK, hAO, hN⟩ := id hZ
  have hx := B.exec
  have hb := B.bytes
  have hr := B.returns
  have hts := atoms_spec (ws := vsX12_linesOf) B.pre
  have hown : s.vm.findClass RX12 = some m.cls := findClass_of_methodNamed B.named
  have hlocks := B.notSynchronized
  have hp1l := z_lo p1
  have hp1h := z_hi p1
  have hl := lv_entry ([.ref ha0, .int p1]) (n := 4) (Nat.le_of_ble_eq_true rfl)
  rw [lg_entry_eq]
  generalize (lg_sl ([.ref ha0, .int p1]) ++ List.replicate (4 - (lg_sl ([.ref ha0, .int p1])).length) Slot.unset).toArray = ls at hl ⊢
  have hl : lv_has ls 4 [(0, .ref ha0), (1, .int p1)] := hl
  refine lv_iconst (v := 0) hx hb dX12_linesOf_0 (by decide) ?_
  refine lv_istore_n (lv' := [(2, .int 0), (0, .ref ha0), (1, .int p1)]) hx hb dX12_linesOf_1 rfl hl (by decide) rfl (fun ls hl => ?_)
  refine lv_iconst (v := 0) hx hb dX12_linesOf_2 (by decide) ?_
  refine lv_istore_n (lv' := [(3, .int 0), (2, .int 0), (0, .ref ha0), (1, .int p1)]) hx hb dX12_linesOf_3 rfl hl (by decide) rfl (fun ls hl => ?_)
  have hL83 : ∀ (n : Nat) (v1 : Int32) (v2 : Int32) (ls : Array Slot), 0 ≤ v1.toInt → v1.toInt ≤ 12 → (zOwL (v1 : Int32).toInt fa0_4 p1.toInt (v2 : Int32)) → ((v1 : Int32).toInt ≤ ia0_10.toInt) → (12 - v1.toInt).toNat < n → lv_has ls 4 [(3, .int v1), (2, .int v2), (0, .ref ha0), (1, .int p1)] → W p l e (headSpec vsX12_linesOf ({ frames := 0, cells := 0, slots := 0, locals := 0 })).room s m ([.ref ha0, .int p1] : List Value).toArray below meth c s.heap [] 0 0 (MQ below (vp_Si (fun r => (-2147483648) ≤ r.toInt ∧ r.toInt ≤ 2147483647 ∧ (zOwL ia0_10.toInt fa0_4 p1.toInt r))) ([.ref ha0, .int p1] : List Value).toArray s 0 0 (fun _ => False)) (F0 m 4 ls []) := by
    intro n
    induction n with
    | zero =>
      intro v1 v2 ls hi84_0 hi84_1 hi84_x0 hi84_x1 hi84_m hl
      exact absurd hi84_m (Nat.not_lt_zero _)
    | succ n ih =>
      intro v1 v2 ls hi84_0 hi84_1 hi84_x0 hi84_x1 hi84_m hl
      have ih85 := ih
      refine lv_iload_n hx hb dX12_linesOf_4 rfl (lv_at hl 0 rfl) ?_
      refine lv_aload_n hx hb dX12_linesOf_5 rfl (lv_at hl 2 rfl) ?_
      refine va_get (D := (dC, dI)) (ci := 12) (v := .int ia0_10) (C := RX12) (T := TX12) (N := 38) hx hb hts in_X12_linesOf_X12 hown hK hP 1 rfl rfl 10 (by decide) (hts (.fieldLink RX12 79 "EachOnHisCueModel" "lines" "I") (by decide +kernel)) (fun _ h9 => h9) rfl dX12_linesOf_6 ?_
      refine lv_icmp_ge (tgt := 38) hx hb dX12_linesOf_9 (by decide) (fun hc => ?_) (fun hc => ?_)
      · have q86 : ia0_10.toInt ≤ v1.toInt := z_le rfl rfl hc
        refine lv_iload_n hx hb dX12_linesOf_38 rfl (lv_at hl 1 rfl) ?_
        exact W.iret (v := v2) hx hb hr (fun t ht hW => ⟨v2, rfl, ⟨z_lo _, z_hi _, (by exact z_owE (by assumption) (by omega))⟩, ht⟩) (fun _ h => absurd h List.not_mem_nil) dX12_linesOf_39
      · have q87 : v1.toInt < ia0_10.toInt := z_nle rfl rfl hc
        refine lv_iload_n hx hb dX12_linesOf_12 rfl (lv_at hl 1 rfl) ?_
        refine lv_aload_n hx hb dX12_linesOf_13 rfl (lv_at hl 2 rfl) ?_
        refine va_get (D := (dC, dI)) (ci := 12) (v := .ref ha0_4) (C := RX12) (T := TX12) (N := 38) hx hb hts in_X12_linesOf_X12 hown hK hP 1 rfl rfl 4 (by decide) (hts (.fieldLink RX12 22 "EachOnHisCueModel" "whose" "[I") (by decide +kernel)) (fun _ h9 => h9) rfl dX12_linesOf_14 ?_
        refine lv_iload_n hx hb dX12_linesOf_17 rfl (lv_at hl 0 rfl) ?_
        refine va_iald hx hb hK hP 0 0 rfl rfl (z_in (by omega) (by omega)) dX12_linesOf_18 ?_
        refine lv_topi (fun y88 ey88 => ?_)
        have gy88 : y88.toInt = (fa0_4 (v1 : Int32).toNatClampNeg).toInt := by rw [ey88]
        have hy88 : 0 ≤ y88.toInt ∧ y88.toInt ≤ 4 := by rw [ey88]; exact hBfa0_4 _
        obtain ⟨hy88, hy88_⟩ := hy88
        refine lv_iload_n hx hb dX12_linesOf_19 rfl (lv_at hl 3 rfl) ?_
        refine lv_icmp_ne (tgt := 29) hx hb dX12_linesOf_20 (by decide) (fun hc => ?_) (fun hc => ?_)
        · have q89 : y88.toInt ≠ p1.toInt := z_ne rfl rfl hc
          refine lv_iconst (v := 0) hx hb dX12_linesOf_29 (by decide) ?_
          refine lv_ior hx hb dX12_linesOf_30 ?_
          refine lv_topi (fun y90 ey90 => ?_)
          refine lv_istore_n (lv' := [(2, .int y90), (3, .int v1), (0, .ref ha0), (1, .int p1)]) hx hb dX12_linesOf_31 rfl hl (by decide) rfl (fun ls hl => ?_)
          obtain ⟨y91, ey91⟩ : ∃ y : Int32, y = v1 + 1 := ⟨_, rfl⟩
          refine lv_iinc (v := y91) (lv' := [(3, .int y91), (2, .int y90), (0, .ref ha0), (1, .int p1)]) hx hb dX12_linesOf_32 hl (k := 1) rfl (by rw [ey91]; rfl) (by decide) rfl (fun ls hl => ?_)
          have hy91 : y91.toInt = v1.toInt + 1 := by rw [ey91]; exact z_add rfl (by decide) (by omega) (by omega)
          refine lv_goto (tgt := 4) hx hb dX12_linesOf_35 (by decide) ?_
          exact ih85 y91 y90 ls (by first | decide | omega) (by first | decide | omega) (z_owS (by assumption) (by omega) (by omega) (by omega) gy88 (Or.inr ⟨by omega, ey90⟩)) (by have e0 : (0 : Int32).toInt = 0 := (by decide); omega) (by omega) (lv_sub hl [0, 1, 2, 3] rfl)
        · have q92 : y88.toInt = p1.toInt := z_eq rfl rfl hc
          refine lv_iconst (v := 1) hx hb dX12_linesOf_23 (by decide) ?_
          refine lv_iload_n hx hb dX12_linesOf_24 rfl (lv_at hl 0 rfl) ?_
          refine lv_ishl hx hb dX12_linesOf_25 ?_
          refine lv_topi (fun y93 ey93 => ?_)
          refine lv_goto (tgt := 30) hx hb dX12_linesOf_26 (by decide) ?_
          refine lv_ior hx hb dX12_linesOf_30 ?_
          refine lv_topi (fun y94 ey94 => ?_)
          refine lv_istore_n (lv' := [(2, .int y94), (3, .int v1), (0, .ref ha0), (1, .int p1)]) hx hb dX12_linesOf_31 rfl hl (by decide) rfl (fun ls hl => ?_)
          obtain ⟨y95, ey95⟩ : ∃ y : Int32, y = v1 + 1 := ⟨_, rfl⟩
          refine lv_iinc (v := y95) (lv' := [(3, .int y95), (2, .int y94), (0, .ref ha0), (1, .int p1)]) hx hb dX12_linesOf_32 hl (k := 1) rfl (by rw [ey95]; rfl) (by decide) rfl (fun ls hl => ?_)
          have hy95 : y95.toInt = v1.toInt + 1 := by rw [ey95]; exact z_add rfl (by decide) (by omega) (by omega)
          refine lv_goto (tgt := 4) hx hb dX12_linesOf_35 (by decide) ?_
          exact ih85 y95 y94 ls (by first | decide | omega) (by first | decide | omega) (z_owS (by assumption) (by omega) (by omega) (by omega) gy88 (Or.inl ⟨by omega, _, ey93, ey94⟩)) (by have e0 : (0 : Int32).toInt = 0 := (by decide); omega) (by omega) (lv_sub hl [0, 1, 2, 3] rfl)
  exact hL83 ((12 - (0 : Int32).toInt).toNat + 1) 0 0 ls (by decide) (by decide) (z_ow0 (by decide)) (by have e0 : (0 : Int32).toInt = 0 := (by decide); omega) (by omega) hl
theorem dX12_saidWords_0 : decode cX12_saidWords 0 = .ok (.aload_n 0, 1) := by decide +kernel
theorem dX12_saidWords_1 : decode cX12_saidWords 1 = .ok (.getfield 25, 3) := by decide +kernel
theorem dX12_saidWords_4 : decode cX12_saidWords 4 = .ok (.iload_n 1, 1) := by decide +kernel
theorem dX12_saidWords_5 : decode cX12_saidWords 5 = .ok (.iaload, 1) := by decide +kernel
theorem dX12_saidWords_6 : decode cX12_saidWords 6 = .ok (.iload_n 1, 1) := by decide +kernel
theorem dX12_saidWords_7 : decode cX12_saidWords 7 = .ok (.aload_n 0, 1) := by decide +kernel
theorem dX12_saidWords_8 : decode cX12_saidWords 8 = .ok (.getfield 59, 3) := by decide +kernel
theorem dX12_saidWords_11 : decode cX12_saidWords 11 = .ok (.if_icmp .ne 7, 3) := by decide +kernel
theorem dX12_saidWords_14 : decode cX12_saidWords 14 = .ok (.iconst 1, 1) := by decide +kernel
theorem dX12_saidWords_15 : decode cX12_saidWords 15 = .ok (.goto 4, 3) := by decide +kernel
theorem dX12_saidWords_18 : decode cX12_saidWords 18 = .ok (.iconst 0, 1) := by decide +kernel
theorem dX12_saidWords_19 : decode cX12_saidWords 19 = .ok (.iadd, 1) := by decide +kernel
theorem dX12_saidWords_20 : decode cX12_saidWords 20 = .ok (.ireturn, 1) := by decide +kernel
noncomputable def voX12_saidWords : List Cond := [.fieldLink RX12 25 "EachOnHisCueModel" "many" "[I", .fieldLink RX12 59 "EachOnHisCueModel" "joked" "I"]
noncomputable def vsX12_saidWords : List Cond := .code yX12_saidWords cX12_saidWords 2 (some .int) :: (voX12_saidWords ++ (wsX120))
theorem zgX12_saidWords : zGd vsX12_saidWords := z_gdC rfl (z_gdA (z_gdO (by decide +kernel) : zGd voX12_saidWords) (zgX12))
theorem in_X12_saidWords_X12 : ∀ w ∈ wsX120, w ∈ vsX12_saidWords := fun _ h => List.mem_cons_of_mem _ (List.mem_append_right _ (h))
set_option maxHeartbeats 4000000 in
set_option maxRecDepth 100000 in
theorem rX12_saidWords (l : Launch) (dC : Nat → ClassId) (dI : Nat → Nat → Nat) (cI cQ : ClassId) (ha0 ha0_5 ha0_0 ha0_1 ha0_2 ha0_3 ha0_4 ha0_6 ha0_7 ha0_8 ha0_16 ha0_17 ha0_18 ha0_19 ha0_23 ha0_29 ha0_33 ha0_34 ha0_35 : Nat) (fa0_5 : Nat → Int32) (hBfa0_5 : ∀ k, 0 ≤ (fa0_5 k).toInt ∧ (fa0_5 k).toInt ≤ 4) (ia0_9 : Int32) (hia0_9l : 0 ≤ ia0_9.toInt) (hia0_9h : ia0_9.toInt ≤ 5) (ia0_10 : Int32) (hia0_10l : 0 ≤ ia0_10.toInt) (hia0_10h : ia0_10.toInt ≤ 12) (ia0_11 : Int32) (ia0_12 : Int32) (ia0_13 : Int32) (ia0_14 : Int32) (hia0_14l : (-9) ≤ ia0_14.toInt) (hia0_14h : ia0_14.toInt ≤ 11) (ia0_15 : Int32) (ia0_20 : Int32) (hia0_20l : 0 ≤ ia0_20.toInt) (hia0_20h : ia0_20.toInt ≤ 80) (ia0_21 : Int32) (hia0_21l : 0 ≤ ia0_21.toInt) (hia0_21h : ia0_21.toInt ≤ 80) (ia0_22 : Int32) (hia0_22l : 0 ≤ ia0_22.toInt) (hia0_22h : ia0_22.toInt ≤ 40) (ia0_24 : Int32) (hia0_24l : 0 ≤ ia0_24.toInt) (hia0_24h : ia0_24.toInt ≤ 1) (ia0_25 : Int32) (hia0_25l : 0 ≤ ia0_25.toInt) (hia0_25h : ia0_25.toInt ≤ 1) (ia0_26 : Int32) (hia0_26l : 0 ≤ ia0_26.toInt) (hia0_26h : ia0_26.toInt ≤ 300) (ia0_27 : Int32) (hia0_27l : (-9) ≤ ia0_27.toInt) (hia0_27h : ia0_27.toInt ≤ 11) (ia0_28 : Int32) (ia0_30 : Int32) (hia0_30l : 0 ≤ ia0_30.toInt) (hia0_30h : ia0_30.toInt ≤ 60) (ia0_31 : Int32) (ia0_32 : Int32) (hia0_32l : 0 ≤ ia0_32.toInt) (hia0_32h : ia0_32.toInt ≤ 1) (ia0_36 : Int32) (hia0_36l : 0 ≤ ia0_36.toInt) (hia0_36h : ia0_36.toInt ≤ 12) (ia0_37 : Int32) (p1 : Int32) (hp1l : 0 ≤ p1.toInt) (hp1h : p1.toInt ≤ 11) : Met l yX12_saidWords vsX12_saidWords ({ frames := 0, cells := 0, slots := 0, locals := 0 }) (va_Pc [.ref ha0, .int p1] (zRB dC dI cI cQ [(ha0_5, .inl (cI, 12, .inl fa0_5)), (ha0, .inr (12, [.ref ha0_0, .ref ha0_1, .ref ha0_2, .ref ha0_3, .ref ha0_4, .ref ha0_5, .ref ha0_6, .ref ha0_7, .ref ha0_8, .int ia0_9, .int ia0_10, .int ia0_11, .int ia0_12, .int ia0_13, .int ia0_14, .int ia0_15, .ref ha0_16, .ref ha0_17, .ref ha0_18, .ref ha0_19, .int ia0_20, .int ia0_21, .int ia0_22, .ref ha0_23, .int ia0_24, .int ia0_25, .int ia0_26, .int ia0_27, .int ia0_28, .ref ha0_29, .int ia0_30, .int ia0_31, .int ia0_32, .ref ha0_33, .ref ha0_34, .ref ha0_35, .int ia0_36, .int ia0_37]))])) (vp_Si (fun r => 0 ≤ r.toInt ∧ r.toInt ≤ 5 ∧ (r.toInt = (fa0_5 p1.toNatClampNeg).toInt + (if p1.toInt = ia0_27.toInt then 1 else 0)))) 0 0 (fun _ => False) := by
  refine Met.ofW (cc := cX12_saidWords) (maxL := 2) (ret := (some .int)) (by decide) rfl ?_
  intro p e s m args below meth c s₁ B hml hv
  obtain ⟨rfl, hP, hZ⟩ := hv
  obtain ⟨hK, hAO, hN⟩ := id hZ
  have hx := B.exec
  have hb := B.bytes
  have hr := B.returns
  have hts := atoms_spec (ws := vsX12_saidWords) B.pre
  have hown : s.vm.findClass RX12 = some m.cls := findClass_of_methodNamed B.named
  have hlocks := B.notSynchronized
  have hl := lv_entry ([.ref ha0, .int p1]) (n := 2) (Nat.le_of_ble_eq_true rfl)
  rw [lg_entry_eq]
  generalize (lg_sl ([.ref ha0, .int p1]) ++ List.replicate (2 - (lg_sl ([.ref ha0, .int p1])).length) Slot.unset).toArray = ls at hl ⊢
  have hl : lv_has ls 2 [(0, .ref ha0), (1, .int p1)] := hl
  refine lv_aload_n hx hb dX12_saidWords_0 rfl (lv_at hl 0 rfl) ?_
  refine va_get (D := (dC, dI)) (ci := 12) (v := .ref ha0_5) (C := RX12) (T := TX12) (N := 38) hx hb hts in_X12_saidWords_X12 hown hK hP 1 rfl rfl 5 (by decide) (hts (.fieldLink RX12 25 "EachOnHisCueModel" "many" "[I") (by decide +kernel)) (fun _ h9 => h9) rfl dX12_saidWords_1 ?_
  refine lv_iload_n hx hb dX12_saidWords_4 rfl (lv_at hl 1 rfl) ?_
  refine va_iald hx hb hK hP 0 0 rfl rfl (z_in (by omega) (by omega)) dX12_saidWords_5 ?_
  refine lv_topi (fun y1 ey1 => ?_)
  have gy1 : y1.toInt = (fa0_5 (p1 : Int32).toNatClampNeg).toInt := by rw [ey1]
  have hy1 : 0 ≤ y1.toInt ∧ y1.toInt ≤ 4 := by rw [ey1]; exact hBfa0_5 _
  obtain ⟨hy1, hy1_⟩ := hy1
  refine lv_iload_n hx hb dX12_saidWords_6 rfl (lv_at hl 1 rfl) ?_
  refine lv_aload_n hx hb dX12_saidWords_7 rfl (lv_at hl 0 rfl) ?_
  refine va_get (D := (dC, dI)) (ci := 12) (v := .int ia0_27) (C := RX12) (T := TX12) (N := 38) hx hb hts in_X12_saidWords_X12 hown hK hP 1 rfl rfl 27 (by decide) (hts (.fieldLink RX12 59 "EachOnHisCueModel" "joked" "I") (by decide +kernel)) (fun _ h9 => h9) rfl dX12_saidWords_8 ?_
  refine lv_icmp_ne (tgt := 18) hx hb dX12_saidWords_11 (by decide) (fun hc => ?_) (fun hc => ?_)
  · have q2 : p1.toInt ≠ ia0_27.toInt := z_ne rfl rfl hc
    refine lv_iconst (v := 0) hx hb dX12_saidWords_18 (by decide) ?_
    refine lv_iadd hx hb dX12_saidWords_19 ?_
    refine lv_topi (fun y3 ey3 => ?_)
    have hy3 : y3.toInt = y1.toInt + 0 := by rw [ey3]; exact z_add rfl (by decide) (by omega) (by omega)
    exact W.iret (v := y3) hx hb hr (fun t ht hW => ⟨y3, rfl, ⟨by first | decide | omega, by first | decide | omega, by first | omega | (intro _; omega) | (intro h; exact absurd h (by decide)) | (refine ⟨?_, ?_⟩ <;> omega) | (split <;> omega)⟩, ht⟩) (fun _ h => absurd h List.not_mem_nil) dX12_saidWords_20
  · have q4 : p1.toInt = ia0_27.toInt := z_eq rfl rfl hc
    refine lv_iconst (v := 1) hx hb dX12_saidWords_14 (by decide) ?_
    refine lv_goto (tgt := 19) hx hb dX12_saidWords_15 (by decide) ?_
    refine lv_iadd hx hb dX12_saidWords_19 ?_
    refine lv_topi (fun y5 ey5 => ?_)
    have hy5 : y5.toInt = y1.toInt + 1 := by rw [ey5]; exact z_add rfl (by decide) (by omega) (by omega)
    exact W.iret (v := y5) hx hb hr (fun t ht hW => ⟨y5, rfl, ⟨by first | decide | omega, by first | decide | omega, by first | omega | (intro _; omega) | (intro h; exact absurd h (by decide)) | (refine ⟨?_, ?_⟩ <;> omega) | (split <;> omega)⟩, ht⟩) (fun _ h => absurd h List.not_mem_nil) dX12_saidWords_20
