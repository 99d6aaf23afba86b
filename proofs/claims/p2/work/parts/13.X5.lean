theorem dX5_stepFrom_0 : decode cX5_stepFrom 0 = .ok (.iconst 0, 1) := by decide +kernel
theorem dX5_stepFrom_1 : decode cX5_stepFrom 1 = .ok (.istore_n 2, 1) := by decide +kernel
theorem dX5_stepFrom_2 : decode cX5_stepFrom 2 = .ok (.iconst 0, 1) := by decide +kernel
theorem dX5_stepFrom_3 : decode cX5_stepFrom 3 = .ok (.istore_n 3, 1) := by decide +kernel
theorem dX5_stepFrom_4 : decode cX5_stepFrom 4 = .ok (.iload_n 3, 1) := by decide +kernel
theorem dX5_stepFrom_5 : decode cX5_stepFrom 5 = .ok (.aload_n 0, 1) := by decide +kernel
theorem dX5_stepFrom_6 : decode cX5_stepFrom 6 = .ok (.getfield 15, 3) := by decide +kernel
theorem dX5_stepFrom_9 : decode cX5_stepFrom 9 = .ok (.if_icmp .ge 27, 3) := by decide +kernel
theorem dX5_stepFrom_12 : decode cX5_stepFrom 12 = .ok (.iload_n 1, 1) := by decide +kernel
theorem dX5_stepFrom_13 : decode cX5_stepFrom 13 = .ok (.iload_n 3, 1) := by decide +kernel
theorem dX5_stepFrom_14 : decode cX5_stepFrom 14 = .ok (.invokestatic 40, 3) := by decide +kernel
theorem dX5_stepFrom_17 : decode cX5_stepFrom 17 = .ok (.iconst 1, 1) := by decide +kernel
theorem dX5_stepFrom_18 : decode cX5_stepFrom 18 = .ok (.if_icmp .ne 12, 3) := by decide +kernel
theorem dX5_stepFrom_21 : decode cX5_stepFrom 21 = .ok (.iload_n 2, 1) := by decide +kernel
theorem dX5_stepFrom_22 : decode cX5_stepFrom 22 = .ok (.aload_n 0, 1) := by decide +kernel
theorem dX5_stepFrom_23 : decode cX5_stepFrom 23 = .ok (.getfield 9, 3) := by decide +kernel
theorem dX5_stepFrom_26 : decode cX5_stepFrom 26 = .ok (.iload_n 3, 1) := by decide +kernel
theorem dX5_stepFrom_27 : decode cX5_stepFrom 27 = .ok (.iaload, 1) := by decide +kernel
theorem dX5_stepFrom_28 : decode cX5_stepFrom 28 = .ok (.ior, 1) := by decide +kernel
theorem dX5_stepFrom_29 : decode cX5_stepFrom 29 = .ok (.istore_n 2, 1) := by decide +kernel
theorem dX5_stepFrom_30 : decode cX5_stepFrom 30 = .ok (.iinc 3 1, 3) := by decide +kernel
theorem dX5_stepFrom_33 : decode cX5_stepFrom 33 = .ok (.goto (-29), 3) := by decide +kernel
theorem dX5_stepFrom_36 : decode cX5_stepFrom 36 = .ok (.iload_n 2, 1) := by decide +kernel
theorem dX5_stepFrom_37 : decode cX5_stepFrom 37 = .ok (.ireturn, 1) := by decide +kernel
noncomputable def vsX5_stepFrom : List Cond := .code yX5_stepFrom cX5_stepFrom 4 (some .int) :: (([.fieldLink RX5 15 "EachOnHisCue$Net" "lines" "I", .initialized RX11, .static yX11_bitAt, .fieldLink RX5 9 "EachOnHisCue$Net" "after" "[I", .code yX11_bitAt cX11_bitAt 2 (some .int)] : List Cond) ++ wsX50)
theorem in_X5_stepFrom_X5 : ∀ w ∈ wsX50, w ∈ vsX5_stepFrom := fun _ h => List.mem_cons_of_mem _ (List.mem_append_right _ h)
set_option maxRecDepth 20000 in
theorem gw_X5_stepFrom_X11_bitAt : GoodIn vsX5_stepFrom vsX11_bitAt := goodIn_r _ [5] (by decide +kernel) (by decide +kernel)
set_option maxRecDepth 20000 in
theorem gv_X5_stepFrom_X11_bitAt_40 : GoodIn vsX5_stepFrom (vsX11_bitAt) := gw_X5_stepFrom_X11_bitAt
set_option maxHeartbeats 4000000 in
set_option maxRecDepth 100000 in
theorem rX5_stepFrom (l : Launch) (dC : Nat → ClassId) (dI : Nat → Nat → Nat) (cI cQ : ClassId) (ha0 ha0_0 : Nat) (fa0_0 : Nat → Int32) (ia0_1 : Int32) (hia0_1l : 0 ≤ ia0_1.toInt) (hia0_1h : ia0_1.toInt ≤ 12) (p1 : Int32) : Met l yX5_stepFrom vsX5_stepFrom ({ frames := 1, cells := 0, slots := 0, locals := 21 }) (va_Pc [.ref ha0, .int p1] (zRB dC dI cI cQ [(ha0_0, .inl (cI, 12, .inl fa0_0)), (ha0, .inr (5, [.ref ha0_0, .int ia0_1]))])) (vp_Si (fun r => (-2147483648) ≤ r.toInt ∧ r.toInt ≤ 2147483647)) 0 0 (fun _ => False) := by
  refine Met.ofW (cc := cX5_stepFrom) (maxL := 4) (ret := (some .int)) (by decide) rfl ?_
  intro p e s m args below meth c s₁ B hml hv
  obtain ⟨rfl, hP, hZ⟩ := hv
  obtain ⟨hK, hAO, hN⟩ := id hZ
  have hx := B.exec
  have hb := B.bytes
  have hr := B.returns
  have hts := atoms_spec (ws := vsX5_stepFrom) B.pre
  have hown : s.vm.findClass RX5 = some m.cls := findClass_of_methodNamed B.named
  have hlocks := B.notSynchronized
  have hp1l := z_lo p1
  have hp1h := z_hi p1
  have hl := lv_entry ([.ref ha0, .int p1]) (n := 4) (Nat.le_of_ble_eq_true rfl)
  rw [lg_entry_eq]
  generalize (lg_sl ([.ref ha0, .int p1]) ++ List.replicate (4 - (lg_sl ([.ref ha0, .int p1])).length) Slot.unset).toArray = ls at hl ⊢
  have hl : lv_has ls 4 [(0, .ref ha0), (1, .int p1)] := hl
  refine lv_iconst (v := 0) hx hb dX5_stepFrom_0 (by decide) ?_
  refine lv_istore_n (lv' := [(2, .int 0), (0, .ref ha0), (1, .int p1)]) hx hb dX5_stepFrom_1 rfl hl (by decide) rfl (fun ls hl => ?_)
  refine lv_iconst (v := 0) hx hb dX5_stepFrom_2 (by decide) ?_
  refine lv_istore_n (lv' := [(3, .int 0), (2, .int 0), (0, .ref ha0), (1, .int p1)]) hx hb dX5_stepFrom_3 rfl hl (by decide) rfl (fun ls hl => ?_)
  have hL57 : ∀ (n : Nat) (v1 : Int32) (v2 : Int32) (ls : Array Slot), 0 ≤ v1.toInt → v1.toInt ≤ 12 → (12 - v1.toInt).toNat < n → lv_has ls 4 [(3, .int v1), (2, .int v2), (0, .ref ha0), (1, .int p1)] → W p l e (headSpec vsX5_stepFrom ({ frames := 1, cells := 0, slots := 0, locals := 21 })).room s m ([.ref ha0, .int p1] : List Value).toArray below meth c s.heap [] 0 0 (MQ below (vp_Si (fun r => (-2147483648) ≤ r.toInt ∧ r.toInt ≤ 2147483647)) ([.ref ha0, .int p1] : List Value).toArray s 0 0 (fun _ => False)) (F0 m 4 ls []) := by
    intro n
    induction n with
    | zero =>
      intro v1 v2 ls hi58_0 hi58_1 hi58_m hl
      exact absurd hi58_m (Nat.not_lt_zero _)
    | succ n ih =>
      intro v1 v2 ls hi58_0 hi58_1 hi58_m hl
      have ih59 := ih
      refine lv_iload_n hx hb dX5_stepFrom_4 rfl (lv_at hl 0 rfl) ?_
      refine lv_aload_n hx hb dX5_stepFrom_5 rfl (lv_at hl 2 rfl) ?_
      refine va_get (D := (dC, dI)) (ci := 5) (v := .int ia0_1) (C := RX5) (T := TX5) (N := 2) hx hb hts in_X5_stepFrom_X5 hown hK hP 1 rfl rfl 1 (by decide) (hts (.fieldLink RX5 15 "EachOnHisCue$Net" "lines" "I") (by decide +kernel)) (fun _ h9 => h9) rfl dX5_stepFrom_6 ?_
      refine lv_icmp_ge (tgt := 36) hx hb dX5_stepFrom_9 (by decide) (fun hc => ?_) (fun hc => ?_)
      · have q60 : ia0_1.toInt ≤ v1.toInt := z_le rfl rfl hc
        refine lv_iload_n hx hb dX5_stepFrom_36 rfl (lv_at hl 1 rfl) ?_
        exact W.iret (v := v2) hx hb hr (fun t ht hW => ⟨v2, rfl, ⟨by first | omega | decide | exact z_lo _, by first | omega | decide | exact z_hi _⟩, ht⟩) (fun _ h => absurd h List.not_mem_nil) dX5_stepFrom_37
      · have q61 : v1.toInt < ia0_1.toInt := z_nle rfl rfl hc
        refine lv_iload_n hx hb dX5_stepFrom_12 rfl (lv_at hl 3 rfl) ?_
        refine lv_iload_n hx hb dX5_stepFrom_13 rfl (lv_at hl 0 rfl) ?_
        refine z_rdi (va_runSN (As := [.int p1, .int v1]) (rest := []) ⟨hx, hb, hml, hown, hts⟩ (rX11_bitAt l dC dI cI cQ p1 v1) ⟨va_cnB (host := "EachOnHisCue") 2 hts gv_X5_stepFrom_X11_bitAt_40 rfl rfl rfl (hN.2.2.2.2.2.2.2.2.2.1) (hts (.initialized RX11) (by decide +kernel)) (by decide +kernel) ⟨Nat.le_of_ble_eq_true rfl, Nat.le_of_ble_eq_true rfl⟩, hts (.static yX11_bitAt) (by decide +kernel), trivial⟩ ⟨z_blindR, z_preR hZ hP [] rfl⟩ rfl rfl hl.1 rfl (lv_room (Nat.le_of_ble_eq_true rfl)) dX5_stepFrom_14 ⟨Nat.le_of_ble_eq_true rfl, Nat.le_of_ble_eq_true rfl⟩) (fun y62 hy62 => ?_)
        obtain ⟨hy62_0, hy62_1⟩ := hy62
        refine lv_iconst (v := 1) hx hb dX5_stepFrom_17 (by decide) ?_
        refine lv_icmp_ne (tgt := 30) hx hb dX5_stepFrom_18 (by decide) (fun hc => ?_) (fun hc => ?_)
        · have q63 : y62.toInt ≠ 1 := z_ne rfl (by decide) hc
          obtain ⟨y64, ey64⟩ : ∃ y : Int32, y = v1 + 1 := ⟨_, rfl⟩
          refine lv_iinc (v := y64) (lv' := [(3, .int y64), (2, .int v2), (0, .ref ha0), (1, .int p1)]) hx hb dX5_stepFrom_30 hl (k := 0) rfl (by rw [ey64]; rfl) (by decide) rfl (fun ls hl => ?_)
          have hy64 : y64.toInt = v1.toInt + 1 := by rw [ey64]; exact z_add rfl (by decide) (by omega) (by omega)
          refine lv_goto (tgt := 4) hx hb dX5_stepFrom_33 (by decide) ?_
          exact ih59 y64 v2 ls (by first | omega | decide | exact z_lo _ | exact z_hi _) (by first | omega | decide | exact z_lo _ | exact z_hi _) (by omega) (lv_sub hl [0, 1, 2, 3] rfl)
        · have q65 : y62.toInt = 1 := z_eq rfl (by decide) hc
          refine lv_iload_n hx hb dX5_stepFrom_21 rfl (lv_at hl 1 rfl) ?_
          refine lv_aload_n hx hb dX5_stepFrom_22 rfl (lv_at hl 2 rfl) ?_
          refine va_get (D := (dC, dI)) (ci := 5) (v := .ref ha0_0) (C := RX5) (T := TX5) (N := 2) hx hb hts in_X5_stepFrom_X5 hown hK hP 1 rfl rfl 0 (by decide) (hts (.fieldLink RX5 9 "EachOnHisCue$Net" "after" "[I") (by decide +kernel)) (fun _ h9 => h9) rfl dX5_stepFrom_23 ?_
          refine lv_iload_n hx hb dX5_stepFrom_26 rfl (lv_at hl 0 rfl) ?_
          refine va_iald hx hb hK hP 0 0 rfl rfl (z_in (by omega) (by omega)) dX5_stepFrom_27 ?_
          refine lv_topi (fun y66 ey66 => ?_)
          have gy66 : y66.toInt = (fa0_0 (v1 : Int32).toNatClampNeg).toInt := by rw [ey66]
          refine lv_ior hx hb dX5_stepFrom_28 ?_
          refine lv_topi (fun y67 ey67 => ?_)
          refine lv_istore_n (lv' := [(2, .int y67), (3, .int v1), (0, .ref ha0), (1, .int p1)]) hx hb dX5_stepFrom_29 rfl hl (by decide) rfl (fun ls hl => ?_)
          obtain ⟨y68, ey68⟩ : ∃ y : Int32, y = v1 + 1 := ⟨_, rfl⟩
          refine lv_iinc (v := y68) (lv' := [(3, .int y68), (2, .int y67), (0, .ref ha0), (1, .int p1)]) hx hb dX5_stepFrom_30 hl (k := 1) rfl (by rw [ey68]; rfl) (by decide) rfl (fun ls hl => ?_)
          have hy68 : y68.toInt = v1.toInt + 1 := by rw [ey68]; exact z_add rfl (by decide) (by omega) (by omega)
          refine lv_goto (tgt := 4) hx hb dX5_stepFrom_33 (by decide) ?_
          exact ih59 y68 y67 ls (by first | omega | decide | exact z_lo _ | exact z_hi _) (by first | omega | decide | exact z_lo _ | exact z_hi _) (by omega) (lv_sub hl [0, 1, 2, 3] rfl)
  exact hL57 ((12 - (0 : Int32).toInt).toNat + 1) 0 0 ls (by first | omega | decide | exact z_lo _ | exact z_hi _) (by first | omega | decide | exact z_lo _ | exact z_hi _) (by omega) hl
theorem dX5_reachedFrom_0 : decode cX5_reachedFrom 0 = .ok (.iload_n 1, 1) := by decide +kernel
theorem dX5_reachedFrom_1 : decode cX5_reachedFrom 1 = .ok (.istore_n 2, 1) := by decide +kernel
theorem dX5_reachedFrom_2 : decode cX5_reachedFrom 2 = .ok (.iconst 0, 1) := by decide +kernel
theorem dX5_reachedFrom_3 : decode cX5_reachedFrom 3 = .ok (.istore_n 3, 1) := by decide +kernel
theorem dX5_reachedFrom_4 : decode cX5_reachedFrom 4 = .ok (.iload_n 3, 1) := by decide +kernel
theorem dX5_reachedFrom_5 : decode cX5_reachedFrom 5 = .ok (.aload_n 0, 1) := by decide +kernel
theorem dX5_reachedFrom_6 : decode cX5_reachedFrom 6 = .ok (.getfield 15, 3) := by decide +kernel
theorem dX5_reachedFrom_9 : decode cX5_reachedFrom 9 = .ok (.if_icmp .ge 17, 3) := by decide +kernel
theorem dX5_reachedFrom_12 : decode cX5_reachedFrom 12 = .ok (.iload_n 2, 1) := by decide +kernel
theorem dX5_reachedFrom_13 : decode cX5_reachedFrom 13 = .ok (.aload_n 0, 1) := by decide +kernel
theorem dX5_reachedFrom_14 : decode cX5_reachedFrom 14 = .ok (.iload_n 2, 1) := by decide +kernel
theorem dX5_reachedFrom_15 : decode cX5_reachedFrom 15 = .ok (.invokevirtual 44, 3) := by decide +kernel
theorem dX5_reachedFrom_18 : decode cX5_reachedFrom 18 = .ok (.ior, 1) := by decide +kernel
theorem dX5_reachedFrom_19 : decode cX5_reachedFrom 19 = .ok (.istore_n 2, 1) := by decide +kernel
theorem dX5_reachedFrom_20 : decode cX5_reachedFrom 20 = .ok (.iinc 3 1, 3) := by decide +kernel
theorem dX5_reachedFrom_23 : decode cX5_reachedFrom 23 = .ok (.goto (-19), 3) := by decide +kernel
theorem dX5_reachedFrom_26 : decode cX5_reachedFrom 26 = .ok (.iload_n 2, 1) := by decide +kernel
theorem dX5_reachedFrom_27 : decode cX5_reachedFrom 27 = .ok (.ireturn, 1) := by decide +kernel
noncomputable def vsX5_reachedFrom : List Cond := .code yX5_reachedFrom cX5_reachedFrom 4 (some .int) :: (([.fieldLink RX5 15 "EachOnHisCue$Net" "lines" "I", .methodLink RX5 44 yX5_stepFrom, .instanceMethod yX5_stepFrom, .selects RX5 yX5_stepFrom yX5_stepFrom, .initialized RX5, .code yX5_stepFrom cX5_stepFrom 4 (some .int), .initialized RX11, .static yX11_bitAt, .fieldLink RX5 9 "EachOnHisCue$Net" "after" "[I", .code yX11_bitAt cX11_bitAt 2 (some .int)] : List Cond) ++ wsX50)
theorem in_X5_reachedFrom_X5 : ∀ w ∈ wsX50, w ∈ vsX5_reachedFrom := fun _ h => List.mem_cons_of_mem _ (List.mem_append_right _ h)
set_option maxRecDepth 20000 in
theorem gw_X5_reachedFrom_X5_stepFrom : GoodIn vsX5_reachedFrom vsX5_stepFrom := goodIn_r _ [6, 1, 7, 8, 9, 10, 11, 12] (by decide +kernel) (by decide +kernel)
set_option maxRecDepth 20000 in
theorem gv_X5_reachedFrom_X5_stepFrom_44 : GoodIn vsX5_reachedFrom (wsV RX5 44 RX5 yX5_stepFrom vsX5_stepFrom) := goodIn_app (goodIn_of _ (by decide +kernel)) gw_X5_reachedFrom_X5_stepFrom
set_option maxHeartbeats 4000000 in
set_option maxRecDepth 100000 in
theorem rX5_reachedFrom (l : Launch) (dC : Nat → ClassId) (dI : Nat → Nat → Nat) (cI cQ : ClassId) (ha0 ha0_0 : Nat) (fa0_0 : Nat → Int32) (ia0_1 : Int32) (hia0_1l : 0 ≤ ia0_1.toInt) (hia0_1h : ia0_1.toInt ≤ 12) (p1 : Int32) : Met l yX5_reachedFrom vsX5_reachedFrom ({ frames := 2, cells := 0, slots := 0, locals := 44 }) (va_Pc [.ref ha0, .int p1] (zRB dC dI cI cQ [(ha0_0, .inl (cI, 12, .inl fa0_0)), (ha0, .inr (5, [.ref ha0_0, .int ia0_1]))])) (vp_Si (fun r => (-2147483648) ≤ r.toInt ∧ r.toInt ≤ 2147483647)) 0 0 (fun _ => False) := by
  refine Met.ofW (cc := cX5_reachedFrom) (maxL := 4) (ret := (some .int)) (by decide) rfl ?_
  intro p e s m args below meth c s₁ B hml hv
  obtain ⟨rfl, hP, hZ⟩ := hv
  obtain ⟨hK, hAO, hN⟩ := id hZ
  have hx := B.exec
  have hb := B.bytes
  have hr := B.returns
  have hts := atoms_spec (ws := vsX5_reachedFrom) B.pre
  have hown : s.vm.findClass RX5 = some m.cls := findClass_of_methodNamed B.named
  have hlocks := B.notSynchronized
  have hp1l := z_lo p1
  have hp1h := z_hi p1
  have hl := lv_entry ([.ref ha0, .int p1]) (n := 4) (Nat.le_of_ble_eq_true rfl)
  rw [lg_entry_eq]
  generalize (lg_sl ([.ref ha0, .int p1]) ++ List.replicate (4 - (lg_sl ([.ref ha0, .int p1])).length) Slot.unset).toArray = ls at hl ⊢
  have hl : lv_has ls 4 [(0, .ref ha0), (1, .int p1)] := hl
  refine lv_iload_n hx hb dX5_reachedFrom_0 rfl (lv_at hl 1 rfl) ?_
  refine lv_istore_n (lv' := [(2, .int p1), (0, .ref ha0), (1, .int p1)]) hx hb dX5_reachedFrom_1 rfl hl (by decide) rfl (fun ls hl => ?_)
  refine lv_iconst (v := 0) hx hb dX5_reachedFrom_2 (by decide) ?_
  refine lv_istore_n (lv' := [(3, .int 0), (2, .int p1), (0, .ref ha0), (1, .int p1)]) hx hb dX5_reachedFrom_3 rfl hl (by decide) rfl (fun ls hl => ?_)
  have hL33 : ∀ (n : Nat) (v1 : Int32) (v2 : Int32) (ls : Array Slot), 0 ≤ v1.toInt → v1.toInt ≤ 12 → (12 - v1.toInt).toNat < n → lv_has ls 4 [(3, .int v1), (2, .int v2), (0, .ref ha0), (1, .int p1)] → W p l e (headSpec vsX5_reachedFrom ({ frames := 2, cells := 0, slots := 0, locals := 44 })).room s m ([.ref ha0, .int p1] : List Value).toArray below meth c s.heap [] 0 0 (MQ below (vp_Si (fun r => (-2147483648) ≤ r.toInt ∧ r.toInt ≤ 2147483647)) ([.ref ha0, .int p1] : List Value).toArray s 0 0 (fun _ => False)) (F0 m 4 ls []) := by
    intro n
    induction n with
    | zero =>
      intro v1 v2 ls hi34_0 hi34_1 hi34_m hl
      exact absurd hi34_m (Nat.not_lt_zero _)
    | succ n ih =>
      intro v1 v2 ls hi34_0 hi34_1 hi34_m hl
      have ih35 := ih
      refine lv_iload_n hx hb dX5_reachedFrom_4 rfl (lv_at hl 0 rfl) ?_
      refine lv_aload_n hx hb dX5_reachedFrom_5 rfl (lv_at hl 2 rfl) ?_
      refine va_get (D := (dC, dI)) (ci := 5) (v := .int ia0_1) (C := RX5) (T := TX5) (N := 2) hx hb hts in_X5_reachedFrom_X5 hown hK hP 1 rfl rfl 1 (by decide) (hts (.fieldLink RX5 15 "EachOnHisCue$Net" "lines" "I") (by decide +kernel)) (fun _ h9 => h9) rfl dX5_reachedFrom_6 ?_
      refine lv_icmp_ge (tgt := 26) hx hb dX5_reachedFrom_9 (by decide) (fun hc => ?_) (fun hc => ?_)
      · have q36 : ia0_1.toInt ≤ v1.toInt := z_le rfl rfl hc
        refine lv_iload_n hx hb dX5_reachedFrom_26 rfl (lv_at hl 1 rfl) ?_
        exact W.iret (v := v2) hx hb hr (fun t ht hW => ⟨v2, rfl, ⟨by first | omega | decide | exact z_lo _, by first | omega | decide | exact z_hi _⟩, ht⟩) (fun _ h => absurd h List.not_mem_nil) dX5_reachedFrom_27
      · have q37 : v1.toInt < ia0_1.toInt := z_nle rfl rfl hc
        refine lv_iload_n hx hb dX5_reachedFrom_12 rfl (lv_at hl 1 rfl) ?_
        refine lv_aload_n hx hb dX5_reachedFrom_13 rfl (lv_at hl 2 rfl) ?_
        refine lv_iload_n hx hb dX5_reachedFrom_14 rfl (lv_at hl 1 rfl) ?_
        refine z_rdi (va_runV (As := [.int v2]) (rest := [.int v2]) ⟨hx, hb, hml, hown, hts⟩ (rX5_stepFrom l dC dI cI cQ ha0 ha0_0 fa0_0 ia0_1 (by first | omega | decide | exact z_lo _ | exact z_hi _) (by first | omega | decide | exact z_lo _ | exact z_hi _) v2) (cwV 1 hts gv_X5_reachedFrom_X5_stepFrom_44 rfl rfl rfl (by decide +kernel) ⟨Nat.le_of_ble_eq_true rfl, Nat.le_of_ble_eq_true rfl⟩) ⟨z_blindR, va_recv hK hP (ci := 5) (q0 := 1) rfl rfl, z_preR hZ hP [0, 1] rfl⟩ rfl rfl hl.1 rfl (lv_room (Nat.le_of_ble_eq_true rfl)) dX5_reachedFrom_15 ⟨Nat.le_of_ble_eq_true rfl, Nat.le_of_ble_eq_true rfl⟩) (fun y38 hy38 => ?_)
        obtain ⟨hy38_0, hy38_1⟩ := hy38
        refine lv_ior hx hb dX5_reachedFrom_18 ?_
        refine lv_topi (fun y39 ey39 => ?_)
        refine lv_istore_n (lv' := [(2, .int y39), (3, .int v1), (0, .ref ha0), (1, .int p1)]) hx hb dX5_reachedFrom_19 rfl hl (by decide) rfl (fun ls hl => ?_)
        obtain ⟨y40, ey40⟩ : ∃ y : Int32, y = v1 + 1 := ⟨_, rfl⟩
        refine lv_iinc (v := y40) (lv' := [(3, .int y40), (2, .int y39), (0, .ref ha0), (1, .int p1)]) hx hb dX5_reachedFrom_20 hl (k := 1) rfl (by rw [ey40]; rfl) (by decide) rfl (fun ls hl => ?_)
        have hy40 : y40.toInt = v1.toInt + 1 := by rw [ey40]; exact z_add rfl (by decide) (by omega) (by omega)
        refine lv_goto (tgt := 4) hx hb dX5_reachedFrom_23 (by decide) ?_
        exact ih35 y40 y39 ls (by first | omega | decide | exact z_lo _ | exact z_hi _) (by first | omega | decide | exact z_lo _ | exact z_hi _) (by omega) (lv_sub hl [0, 1, 2, 3] rfl)
  exact hL33 ((12 - (0 : Int32).toInt).toNat + 1) 0 p1 ls (by first | omega | decide | exact z_lo _ | exact z_hi _) (by first | omega | decide | exact z_lo _ | exact z_hi _) (by omega) hl
theorem dX5_fewestSteps_0 : decode cX5_fewestSteps 0 = .ok (.iconst 1, 1) := by decide +kernel
theorem dX5_fewestSteps_1 : decode cX5_fewestSteps 1 = .ok (.istore_n 1, 1) := by decide +kernel
theorem dX5_fewestSteps_2 : decode cX5_fewestSteps 2 = .ok (.iconst 0, 1) := by decide +kernel
theorem dX5_fewestSteps_3 : decode cX5_fewestSteps 3 = .ok (.istore_n 2, 1) := by decide +kernel
theorem dX5_fewestSteps_4 : decode cX5_fewestSteps 4 = .ok (.iload_n 2, 1) := by decide +kernel
theorem dX5_fewestSteps_5 : decode cX5_fewestSteps 5 = .ok (.aload_n 0, 1) := by decide +kernel
theorem dX5_fewestSteps_6 : decode cX5_fewestSteps 6 = .ok (.getfield 15, 3) := by decide +kernel
theorem dX5_fewestSteps_9 : decode cX5_fewestSteps 9 = .ok (.if_icmp .ge 33, 3) := by decide +kernel
theorem dX5_fewestSteps_12 : decode cX5_fewestSteps 12 = .ok (.iload_n 1, 1) := by decide +kernel
theorem dX5_fewestSteps_13 : decode cX5_fewestSteps 13 = .ok (.aload_n 0, 1) := by decide +kernel
theorem dX5_fewestSteps_14 : decode cX5_fewestSteps 14 = .ok (.getfield 15, 3) := by decide +kernel
theorem dX5_fewestSteps_17 : decode cX5_fewestSteps 17 = .ok (.iconst 1, 1) := by decide +kernel
theorem dX5_fewestSteps_18 : decode cX5_fewestSteps 18 = .ok (.isub, 1) := by decide +kernel
theorem dX5_fewestSteps_19 : decode cX5_fewestSteps 19 = .ok (.invokestatic 40, 3) := by decide +kernel
theorem dX5_fewestSteps_22 : decode cX5_fewestSteps 22 = .ok (.iconst 1, 1) := by decide +kernel
theorem dX5_fewestSteps_23 : decode cX5_fewestSteps 23 = .ok (.if_icmp .ne 5, 3) := by decide +kernel
theorem dX5_fewestSteps_26 : decode cX5_fewestSteps 26 = .ok (.iload_n 2, 1) := by decide +kernel
theorem dX5_fewestSteps_27 : decode cX5_fewestSteps 27 = .ok (.ireturn, 1) := by decide +kernel
theorem dX5_fewestSteps_28 : decode cX5_fewestSteps 28 = .ok (.iload_n 1, 1) := by decide +kernel
theorem dX5_fewestSteps_29 : decode cX5_fewestSteps 29 = .ok (.aload_n 0, 1) := by decide +kernel
theorem dX5_fewestSteps_30 : decode cX5_fewestSteps 30 = .ok (.iload_n 1, 1) := by decide +kernel
theorem dX5_fewestSteps_31 : decode cX5_fewestSteps 31 = .ok (.invokevirtual 44, 3) := by decide +kernel
theorem dX5_fewestSteps_34 : decode cX5_fewestSteps 34 = .ok (.ior, 1) := by decide +kernel
theorem dX5_fewestSteps_35 : decode cX5_fewestSteps 35 = .ok (.istore_n 1, 1) := by decide +kernel
theorem dX5_fewestSteps_36 : decode cX5_fewestSteps 36 = .ok (.iinc 2 1, 3) := by decide +kernel
theorem dX5_fewestSteps_39 : decode cX5_fewestSteps 39 = .ok (.goto (-35), 3) := by decide +kernel
theorem dX5_fewestSteps_42 : decode cX5_fewestSteps 42 = .ok (.bipush (-9), 2) := by decide +kernel
theorem dX5_fewestSteps_44 : decode cX5_fewestSteps 44 = .ok (.ireturn, 1) := by decide +kernel
noncomputable def vsX5_fewestSteps : List Cond := .code yX5_fewestSteps cX5_fewestSteps 3 (some .int) :: (([.fieldLink RX5 15 "EachOnHisCue$Net" "lines" "I", .initialized RX11, .static yX11_bitAt, .code yX11_bitAt cX11_bitAt 2 (some .int), .methodLink RX5 44 yX5_stepFrom, .instanceMethod yX5_stepFrom, .selects RX5 yX5_stepFrom yX5_stepFrom, .initialized RX5, .code yX5_stepFrom cX5_stepFrom 4 (some .int), .fieldLink RX5 9 "EachOnHisCue$Net" "after" "[I"] : List Cond) ++ wsX50)
theorem in_X5_fewestSteps_X5 : ∀ w ∈ wsX50, w ∈ vsX5_fewestSteps := fun _ h => List.mem_cons_of_mem _ (List.mem_append_right _ h)
set_option maxRecDepth 20000 in
theorem gw_X5_fewestSteps_X11_bitAt : GoodIn vsX5_fewestSteps vsX11_bitAt := goodIn_r _ [4] (by decide +kernel) (by decide +kernel)
set_option maxRecDepth 20000 in
theorem gv_X5_fewestSteps_X11_bitAt_40 : GoodIn vsX5_fewestSteps (vsX11_bitAt) := gw_X5_fewestSteps_X11_bitAt
set_option maxRecDepth 20000 in
theorem gw_X5_fewestSteps_X5_stepFrom : GoodIn vsX5_fewestSteps vsX5_stepFrom := goodIn_r _ [9, 1, 2, 3, 10, 4, 11, 12] (by decide +kernel) (by decide +kernel)
set_option maxRecDepth 20000 in
theorem gv_X5_fewestSteps_X5_stepFrom_44 : GoodIn vsX5_fewestSteps (wsV RX5 44 RX5 yX5_stepFrom vsX5_stepFrom) := goodIn_app (goodIn_of _ (by decide +kernel)) gw_X5_fewestSteps_X5_stepFrom
set_option maxHeartbeats 4000000 in
set_option maxRecDepth 100000 in
theorem rX5_fewestSteps (l : Launch) (dC : Nat → ClassId) (dI : Nat → Nat → Nat) (cI cQ : ClassId) (ha0 ha0_0 : Nat) (fa0_0 : Nat → Int32) (ia0_1 : Int32) (hia0_1l : 0 ≤ ia0_1.toInt) (hia0_1h : ia0_1.toInt ≤ 12) : Met l yX5_fewestSteps vsX5_fewestSteps ({ frames := 2, cells := 0, slots := 0, locals := 44 }) (va_Pc [.ref ha0] (zRB dC dI cI cQ [(ha0_0, .inl (cI, 12, .inl fa0_0)), (ha0, .inr (5, [.ref ha0_0, .int ia0_1]))])) (vp_Si (fun r => (-9) ≤ r.toInt ∧ r.toInt ≤ 11)) 0 0 (fun _ => False) := by
  refine Met.ofW (cc := cX5_fewestSteps) (maxL := 3) (ret := (some .int)) (by decide) rfl ?_
  intro p e s m args below meth c s₁ B hml hv
  obtain ⟨rfl, hP, hZ⟩ := hv
  obtain ⟨hK, hAO, hN⟩ := id hZ
  have hx := B.exec
  have hb := B.bytes
  have hr := B.returns
  have hts := atoms_spec (ws := vsX5_fewestSteps) B.pre
  have hown : s.vm.findClass RX5 = some m.cls := findClass_of_methodNamed B.named
  have hlocks := B.notSynchronized
  have hl := lv_entry ([.ref ha0]) (n := 3) (Nat.le_of_ble_eq_true rfl)
  rw [lg_entry_eq]
  generalize (lg_sl ([.ref ha0]) ++ List.replicate (3 - (lg_sl ([.ref ha0])).length) Slot.unset).toArray = ls at hl ⊢
  have hl : lv_has ls 3 [(0, .ref ha0)] := hl
  refine lv_iconst (v := 1) hx hb dX5_fewestSteps_0 (by decide) ?_
  refine lv_istore_n (lv' := [(1, .int 1), (0, .ref ha0)]) hx hb dX5_fewestSteps_1 rfl hl (by decide) rfl (fun ls hl => ?_)
  refine lv_iconst (v := 0) hx hb dX5_fewestSteps_2 (by decide) ?_
  refine lv_istore_n (lv' := [(2, .int 0), (1, .int 1), (0, .ref ha0)]) hx hb dX5_fewestSteps_3 rfl hl (by decide) rfl (fun ls hl => ?_)
  have hL57 : ∀ (n : Nat) (v1 : Int32) (v2 : Int32) (ls : Array Slot), 0 ≤ v1.toInt → v1.toInt ≤ 12 → (12 - v1.toInt).toNat < n → lv_has ls 3 [(2, .int v1), (1, .int v2), (0, .ref ha0)] → W p l e (headSpec vsX5_fewestSteps ({ frames := 2, cells := 0, slots := 0, locals := 44 })).room s m ([.ref ha0] : List Value).toArray below meth c s.heap [] 0 0 (MQ below (vp_Si (fun r => (-9) ≤ r.toInt ∧ r.toInt ≤ 11)) ([.ref ha0] : List Value).toArray s 0 0 (fun _ => False)) (F0 m 4 ls []) := by
    intro n
    induction n with
    | zero =>
      intro v1 v2 ls hi58_0 hi58_1 hi58_m hl
      exact absurd hi58_m (Nat.not_lt_zero _)
    | succ n ih =>
      intro v1 v2 ls hi58_0 hi58_1 hi58_m hl
      have ih59 := ih
      refine lv_iload_n hx hb dX5_fewestSteps_4 rfl (lv_at hl 0 rfl) ?_
      refine lv_aload_n hx hb dX5_fewestSteps_5 rfl (lv_at hl 2 rfl) ?_
      refine va_get (D := (dC, dI)) (ci := 5) (v := .int ia0_1) (C := RX5) (T := TX5) (N := 2) hx hb hts in_X5_fewestSteps_X5 hown hK hP 1 rfl rfl 1 (by decide) (hts (.fieldLink RX5 15 "EachOnHisCue$Net" "lines" "I") (by decide +kernel)) (fun _ h9 => h9) rfl dX5_fewestSteps_6 ?_
      refine lv_icmp_ge (tgt := 42) hx hb dX5_fewestSteps_9 (by decide) (fun hc => ?_) (fun hc => ?_)
      · have q60 : ia0_1.toInt ≤ v1.toInt := z_le rfl rfl hc
        refine lv_bipush (v := (-9)) hx hb dX5_fewestSteps_42 (by decide) ?_
        exact W.iret (v := (-9)) hx hb hr (fun t ht hW => ⟨(-9), rfl, ⟨by first | omega | decide | exact z_lo _, by first | omega | decide | exact z_hi _⟩, ht⟩) (fun _ h => absurd h List.not_mem_nil) dX5_fewestSteps_44
      · have q61 : v1.toInt < ia0_1.toInt := z_nle rfl rfl hc
        refine lv_iload_n hx hb dX5_fewestSteps_12 rfl (lv_at hl 1 rfl) ?_
        refine lv_aload_n hx hb dX5_fewestSteps_13 rfl (lv_at hl 2 rfl) ?_
        refine va_get (D := (dC, dI)) (ci := 5) (v := .int ia0_1) (C := RX5) (T := TX5) (N := 2) hx hb hts in_X5_fewestSteps_X5 hown hK hP 1 rfl rfl 1 (by decide) (hts (.fieldLink RX5 15 "EachOnHisCue$Net" "lines" "I") (by decide +kernel)) (fun _ h9 => h9) rfl dX5_fewestSteps_14 ?_
        refine lv_iconst (v := 1) hx hb dX5_fewestSteps_17 (by decide) ?_
        refine lv_isub hx hb dX5_fewestSteps_18 ?_
        refine lv_topi (fun y62 ey62 => ?_)
        have hy62 : y62.toInt = ia0_1.toInt - 1 := by rw [ey62]; exact z_sub rfl (by decide) (by omega) (by omega)
        refine z_rdi (va_runSN (As := [.int v2, .int y62]) (rest := []) ⟨hx, hb, hml, hown, hts⟩ (rX11_bitAt l dC dI cI cQ v2 y62) ⟨va_cnB (host := "EachOnHisCue") 2 hts gv_X5_fewestSteps_X11_bitAt_40 rfl rfl rfl (hN.2.2.2.2.2.2.2.2.2.1) (hts (.initialized RX11) (by decide +kernel)) (by decide +kernel) ⟨Nat.le_of_ble_eq_true rfl, Nat.le_of_ble_eq_true rfl⟩, hts (.static yX11_bitAt) (by decide +kernel), trivial⟩ ⟨z_blindR, z_preR hZ hP [] rfl⟩ rfl rfl hl.1 rfl (lv_room (Nat.le_of_ble_eq_true rfl)) dX5_fewestSteps_19 ⟨Nat.le_of_ble_eq_true rfl, Nat.le_of_ble_eq_true rfl⟩) (fun y63 hy63 => ?_)
        obtain ⟨hy63_0, hy63_1⟩ := hy63
        refine lv_iconst (v := 1) hx hb dX5_fewestSteps_22 (by decide) ?_
        refine lv_icmp_ne (tgt := 28) hx hb dX5_fewestSteps_23 (by decide) (fun hc => ?_) (fun hc => ?_)
        · have q64 : y63.toInt ≠ 1 := z_ne rfl (by decide) hc
          refine lv_iload_n hx hb dX5_fewestSteps_28 rfl (lv_at hl 1 rfl) ?_
          refine lv_aload_n hx hb dX5_fewestSteps_29 rfl (lv_at hl 2 rfl) ?_
          refine lv_iload_n hx hb dX5_fewestSteps_30 rfl (lv_at hl 1 rfl) ?_
          refine z_rdi (va_runV (As := [.int v2]) (rest := [.int v2]) ⟨hx, hb, hml, hown, hts⟩ (rX5_stepFrom l dC dI cI cQ ha0 ha0_0 fa0_0 ia0_1 (by first | omega | decide | exact z_lo _ | exact z_hi _) (by first | omega | decide | exact z_lo _ | exact z_hi _) v2) (cwV 1 hts gv_X5_fewestSteps_X5_stepFrom_44 rfl rfl rfl (by decide +kernel) ⟨Nat.le_of_ble_eq_true rfl, Nat.le_of_ble_eq_true rfl⟩) ⟨z_blindR, va_recv hK hP (ci := 5) (q0 := 1) rfl rfl, z_preR hZ hP [0, 1] rfl⟩ rfl rfl hl.1 rfl (lv_room (Nat.le_of_ble_eq_true rfl)) dX5_fewestSteps_31 ⟨Nat.le_of_ble_eq_true rfl, Nat.le_of_ble_eq_true rfl⟩) (fun y65 hy65 => ?_)
          obtain ⟨hy65_0, hy65_1⟩ := hy65
          refine lv_ior hx hb dX5_fewestSteps_34 ?_
          refine lv_topi (fun y66 ey66 => ?_)
          refine lv_istore_n (lv' := [(1, .int y66), (2, .int v1), (0, .ref ha0)]) hx hb dX5_fewestSteps_35 rfl hl (by decide) rfl (fun ls hl => ?_)
          obtain ⟨y67, ey67⟩ : ∃ y : Int32, y = v1 + 1 := ⟨_, rfl⟩
          refine lv_iinc (v := y67) (lv' := [(2, .int y67), (1, .int y66), (0, .ref ha0)]) hx hb dX5_fewestSteps_36 hl (k := 1) rfl (by rw [ey67]; rfl) (by decide) rfl (fun ls hl => ?_)
          have hy67 : y67.toInt = v1.toInt + 1 := by rw [ey67]; exact z_add rfl (by decide) (by omega) (by omega)
          refine lv_goto (tgt := 4) hx hb dX5_fewestSteps_39 (by decide) ?_
          exact ih59 y67 y66 ls (by first | omega | decide | exact z_lo _ | exact z_hi _) (by first | omega | decide | exact z_lo _ | exact z_hi _) (by omega) (lv_sub hl [0, 1, 2] rfl)
        · have q68 : y63.toInt = 1 := z_eq rfl (by decide) hc
          refine lv_iload_n hx hb dX5_fewestSteps_26 rfl (lv_at hl 0 rfl) ?_
          exact W.iret (v := v1) hx hb hr (fun t ht hW => ⟨v1, rfl, ⟨by first | omega | decide | exact z_lo _, by first | omega | decide | exact z_hi _⟩, ht⟩) (fun _ h => absurd h List.not_mem_nil) dX5_fewestSteps_27
  exact hL57 ((12 - (0 : Int32).toInt).toNat + 1) 0 1 ls (by first | omega | decide | exact z_lo _ | exact z_hi _) (by first | omega | decide | exact z_lo _ | exact z_hi _) (by omega) hl
theorem dX5_hasRound_0 : decode cX5_hasRound 0 = .ok (.aload_n 0, 1) := by decide +kernel
theorem dX5_hasRound_1 : decode cX5_hasRound 1 = .ok (.iconst 1, 1) := by decide +kernel
theorem dX5_hasRound_2 : decode cX5_hasRound 2 = .ok (.invokevirtual 48, 3) := by decide +kernel
theorem dX5_hasRound_5 : decode cX5_hasRound 5 = .ok (.istore_n 1, 1) := by decide +kernel
theorem dX5_hasRound_6 : decode cX5_hasRound 6 = .ok (.iconst 0, 1) := by decide +kernel
theorem dX5_hasRound_7 : decode cX5_hasRound 7 = .ok (.istore_n 2, 1) := by decide +kernel
theorem dX5_hasRound_8 : decode cX5_hasRound 8 = .ok (.iload_n 2, 1) := by decide +kernel
theorem dX5_hasRound_9 : decode cX5_hasRound 9 = .ok (.aload_n 0, 1) := by decide +kernel
theorem dX5_hasRound_10 : decode cX5_hasRound 10 = .ok (.getfield 15, 3) := by decide +kernel
theorem dX5_hasRound_13 : decode cX5_hasRound 13 = .ok (.if_icmp .ge 38, 3) := by decide +kernel
theorem dX5_hasRound_16 : decode cX5_hasRound 16 = .ok (.iload_n 1, 1) := by decide +kernel
theorem dX5_hasRound_17 : decode cX5_hasRound 17 = .ok (.iload_n 2, 1) := by decide +kernel
theorem dX5_hasRound_18 : decode cX5_hasRound 18 = .ok (.invokestatic 40, 3) := by decide +kernel
theorem dX5_hasRound_21 : decode cX5_hasRound 21 = .ok (.iconst 1, 1) := by decide +kernel
theorem dX5_hasRound_22 : decode cX5_hasRound 22 = .ok (.if_icmp .ne 23, 3) := by decide +kernel
theorem dX5_hasRound_25 : decode cX5_hasRound 25 = .ok (.aload_n 0, 1) := by decide +kernel
theorem dX5_hasRound_26 : decode cX5_hasRound 26 = .ok (.aload_n 0, 1) := by decide +kernel
theorem dX5_hasRound_27 : decode cX5_hasRound 27 = .ok (.getfield 9, 3) := by decide +kernel
theorem dX5_hasRound_30 : decode cX5_hasRound 30 = .ok (.iload_n 2, 1) := by decide +kernel
theorem dX5_hasRound_31 : decode cX5_hasRound 31 = .ok (.iaload, 1) := by decide +kernel
theorem dX5_hasRound_32 : decode cX5_hasRound 32 = .ok (.invokevirtual 48, 3) := by decide +kernel
theorem dX5_hasRound_35 : decode cX5_hasRound 35 = .ok (.iload_n 2, 1) := by decide +kernel
theorem dX5_hasRound_36 : decode cX5_hasRound 36 = .ok (.invokestatic 40, 3) := by decide +kernel
theorem dX5_hasRound_39 : decode cX5_hasRound 39 = .ok (.iconst 1, 1) := by decide +kernel
theorem dX5_hasRound_40 : decode cX5_hasRound 40 = .ok (.if_icmp .ne 5, 3) := by decide +kernel
theorem dX5_hasRound_43 : decode cX5_hasRound 43 = .ok (.iconst 1, 1) := by decide +kernel
theorem dX5_hasRound_44 : decode cX5_hasRound 44 = .ok (.ireturn, 1) := by decide +kernel
theorem dX5_hasRound_45 : decode cX5_hasRound 45 = .ok (.iinc 2 1, 3) := by decide +kernel
theorem dX5_hasRound_48 : decode cX5_hasRound 48 = .ok (.goto (-40), 3) := by decide +kernel
theorem dX5_hasRound_51 : decode cX5_hasRound 51 = .ok (.iconst 0, 1) := by decide +kernel
theorem dX5_hasRound_52 : decode cX5_hasRound 52 = .ok (.ireturn, 1) := by decide +kernel
noncomputable def vsX5_hasRound : List Cond := .code yX5_hasRound cX5_hasRound 3 (some .boolean) :: (([.fieldLink RX5 15 "EachOnHisCue$Net" "lines" "I", .initialized RX11, .static yX11_bitAt, .fieldLink RX5 9 "EachOnHisCue$Net" "after" "[I", .methodLink RX5 48 yX5_reachedFrom, .instanceMethod yX5_reachedFrom, .selects RX5 yX5_reachedFrom yX5_reachedFrom, .initialized RX5, .code yX5_reachedFrom cX5_reachedFrom 4 (some .int), .methodLink RX5 44 yX5_stepFrom, .instanceMethod yX5_stepFrom, .selects RX5 yX5_stepFrom yX5_stepFrom, .code yX5_stepFrom cX5_stepFrom 4 (some .int), .code yX11_bitAt cX11_bitAt 2 (some .int)] : List Cond) ++ wsX50)
theorem in_X5_hasRound_X5 : ∀ w ∈ wsX50, w ∈ vsX5_hasRound := fun _ h => List.mem_cons_of_mem _ (List.mem_append_right _ h)
set_option maxRecDepth 20000 in
theorem gw_X5_hasRound_X5_reachedFrom : GoodIn vsX5_hasRound vsX5_reachedFrom := goodIn_r _ [9, 1, 10, 11, 12, 8, 13, 2, 3, 4, 14, 15, 16] (by decide +kernel) (by decide +kernel)
set_option maxRecDepth 20000 in
theorem gv_X5_hasRound_X5_reachedFrom_48 : GoodIn vsX5_hasRound (wsV RX5 48 RX5 yX5_reachedFrom vsX5_reachedFrom) := goodIn_app (goodIn_of _ (by decide +kernel)) gw_X5_hasRound_X5_reachedFrom
set_option maxRecDepth 20000 in
theorem gw_X5_hasRound_X11_bitAt : GoodIn vsX5_hasRound vsX11_bitAt := goodIn_r _ [14] (by decide +kernel) (by decide +kernel)
set_option maxRecDepth 20000 in
theorem gv_X5_hasRound_X11_bitAt_40 : GoodIn vsX5_hasRound (vsX11_bitAt) := gw_X5_hasRound_X11_bitAt
set_option maxHeartbeats 4000000 in
set_option maxRecDepth 100000 in
theorem rX5_hasRound (l : Launch) (dC : Nat → ClassId) (dI : Nat → Nat → Nat) (cI cQ : ClassId) (ha0 ha0_0 : Nat) (fa0_0 : Nat → Int32) (ia0_1 : Int32) (hia0_1l : 0 ≤ ia0_1.toInt) (hia0_1h : ia0_1.toInt ≤ 12) : Met l yX5_hasRound vsX5_hasRound ({ frames := 3, cells := 0, slots := 0, locals := 67 }) (va_Pc [.ref ha0] (zRB dC dI cI cQ [(ha0_0, .inl (cI, 12, .inl fa0_0)), (ha0, .inr (5, [.ref ha0_0, .int ia0_1]))])) (vp_Si (fun r => 0 ≤ r.toInt ∧ r.toInt ≤ 1)) 0 0 (fun _ => False) := by
  refine Met.ofW (cc := cX5_hasRound) (maxL := 3) (ret := (some .boolean)) (by decide) rfl ?_
  intro p e s m args below meth c s₁ B hml hv
  obtain ⟨rfl, hP, hZ⟩ := hv
  obtain ⟨hK, hAO, hN⟩ := id hZ
  have hx := B.exec
  have hb := B.bytes
  have hr := B.returns
  have hts := atoms_spec (ws := vsX5_hasRound) B.pre
  have hown : s.vm.findClass RX5 = some m.cls := findClass_of_methodNamed B.named
  have hlocks := B.notSynchronized
  have hl := lv_entry ([.ref ha0]) (n := 3) (Nat.le_of_ble_eq_true rfl)
  rw [lg_entry_eq]
  generalize (lg_sl ([.ref ha0]) ++ List.replicate (3 - (lg_sl ([.ref ha0])).length) Slot.unset).toArray = ls at hl ⊢
  have hl : lv_has ls 3 [(0, .ref ha0)] := hl
  refine lv_aload_n hx hb dX5_hasRound_0 rfl (lv_at hl 0 rfl) ?_
  refine lv_iconst (v := 1) hx hb dX5_hasRound_1 (by decide) ?_
  refine z_rdi (va_runV (As := [.int 1]) (rest := []) ⟨hx, hb, hml, hown, hts⟩ (rX5_reachedFrom l dC dI cI cQ ha0 ha0_0 fa0_0 ia0_1 (by first | omega | decide | exact z_lo _ | exact z_hi _) (by first | omega | decide | exact z_lo _ | exact z_hi _) 1) (cwV 1 hts gv_X5_hasRound_X5_reachedFrom_48 rfl rfl rfl (by decide +kernel) ⟨Nat.le_of_ble_eq_true rfl, Nat.le_of_ble_eq_true rfl⟩) ⟨z_blindR, va_recv hK hP (ci := 5) (q0 := 1) rfl rfl, z_preR hZ hP [0, 1] rfl⟩ rfl rfl hl.1 rfl (lv_room (Nat.le_of_ble_eq_true rfl)) dX5_hasRound_2 ⟨Nat.le_of_ble_eq_true rfl, Nat.le_of_ble_eq_true rfl⟩) (fun y1 hy1 => ?_)
  obtain ⟨hy1_0, hy1_1⟩ := hy1
  refine lv_istore_n (lv' := [(1, .int y1), (0, .ref ha0)]) hx hb dX5_hasRound_5 rfl hl (by decide) rfl (fun ls hl => ?_)
  refine lv_iconst (v := 0) hx hb dX5_hasRound_6 (by decide) ?_
  refine lv_istore_n (lv' := [(2, .int 0), (1, .int y1), (0, .ref ha0)]) hx hb dX5_hasRound_7 rfl hl (by decide) rfl (fun ls hl => ?_)
  have hL75 : ∀ (n : Nat) (v2 : Int32) (ls : Array Slot), 0 ≤ v2.toInt → v2.toInt ≤ 12 → (12 - v2.toInt).toNat < n → lv_has ls 3 [(2, .int v2), (1, .int y1), (0, .ref ha0)] → W p l e (headSpec vsX5_hasRound ({ frames := 3, cells := 0, slots := 0, locals := 67 })).room s m ([.ref ha0] : List Value).toArray below meth c s.heap [] 0 0 (MQ below (vp_Si (fun r => 0 ≤ r.toInt ∧ r.toInt ≤ 1)) ([.ref ha0] : List Value).toArray s 0 0 (fun _ => False)) (F0 m 8 ls []) := by
    intro n
    induction n with
    | zero =>
      intro v2 ls hi76_0 hi76_1 hi76_m hl
      exact absurd hi76_m (Nat.not_lt_zero _)
    | succ n ih =>
      intro v2 ls hi76_0 hi76_1 hi76_m hl
      have ih77 := ih
      refine lv_iload_n hx hb dX5_hasRound_8 rfl (lv_at hl 0 rfl) ?_
      refine lv_aload_n hx hb dX5_hasRound_9 rfl (lv_at hl 2 rfl) ?_
      refine va_get (D := (dC, dI)) (ci := 5) (v := .int ia0_1) (C := RX5) (T := TX5) (N := 2) hx hb hts in_X5_hasRound_X5 hown hK hP 1 rfl rfl 1 (by decide) (hts (.fieldLink RX5 15 "EachOnHisCue$Net" "lines" "I") (by decide +kernel)) (fun _ h9 => h9) rfl dX5_hasRound_10 ?_
      refine lv_icmp_ge (tgt := 51) hx hb dX5_hasRound_13 (by decide) (fun hc => ?_) (fun hc => ?_)
      · have q78 : ia0_1.toInt ≤ v2.toInt := z_le rfl rfl hc
        refine lv_iconst (v := 0) hx hb dX5_hasRound_51 (by decide) ?_
        exact W.zret (v := 0) hx hb hr (rfl) (fun t ht hW => ⟨0, rfl, ⟨by first | omega | decide | exact z_lo _, by first | omega | decide | exact z_hi _⟩, ht⟩) (fun _ h => absurd h List.not_mem_nil) dX5_hasRound_52
      · have q79 : v2.toInt < ia0_1.toInt := z_nle rfl rfl hc
        refine lv_iload_n hx hb dX5_hasRound_16 rfl (lv_at hl 1 rfl) ?_
        refine lv_iload_n hx hb dX5_hasRound_17 rfl (lv_at hl 0 rfl) ?_
        refine z_rdi (va_runSN (As := [.int y1, .int v2]) (rest := []) ⟨hx, hb, hml, hown, hts⟩ (rX11_bitAt l dC dI cI cQ y1 v2) ⟨va_cnB (host := "EachOnHisCue") 2 hts gv_X5_hasRound_X11_bitAt_40 rfl rfl rfl (hN.2.2.2.2.2.2.2.2.2.1) (hts (.initialized RX11) (by decide +kernel)) (by decide +kernel) ⟨Nat.le_of_ble_eq_true rfl, Nat.le_of_ble_eq_true rfl⟩, hts (.static yX11_bitAt) (by decide +kernel), trivial⟩ ⟨z_blindR, z_preR hZ hP [] rfl⟩ rfl rfl hl.1 rfl (lv_room (Nat.le_of_ble_eq_true rfl)) dX5_hasRound_18 ⟨Nat.le_of_ble_eq_true rfl, Nat.le_of_ble_eq_true rfl⟩) (fun y80 hy80 => ?_)
        obtain ⟨hy80_0, hy80_1⟩ := hy80
        refine lv_iconst (v := 1) hx hb dX5_hasRound_21 (by decide) ?_
        refine lv_icmp_ne (tgt := 45) hx hb dX5_hasRound_22 (by decide) (fun hc => ?_) (fun hc => ?_)
        · have q81 : y80.toInt ≠ 1 := z_ne rfl (by decide) hc
          obtain ⟨y82, ey82⟩ : ∃ y : Int32, y = v2 + 1 := ⟨_, rfl⟩
          refine lv_iinc (v := y82) (lv' := [(2, .int y82), (1, .int y1), (0, .ref ha0)]) hx hb dX5_hasRound_45 hl (k := 0) rfl (by rw [ey82]; rfl) (by decide) rfl (fun ls hl => ?_)
          have hy82 : y82.toInt = v2.toInt + 1 := by rw [ey82]; exact z_add rfl (by decide) (by omega) (by omega)
          refine lv_goto (tgt := 8) hx hb dX5_hasRound_48 (by decide) ?_
          exact ih77 y82 ls (by first | omega | decide | exact z_lo _ | exact z_hi _) (by first | omega | decide | exact z_lo _ | exact z_hi _) (by omega) (lv_sub hl [0, 1, 2] rfl)
        · have q83 : y80.toInt = 1 := z_eq rfl (by decide) hc
          refine lv_aload_n hx hb dX5_hasRound_25 rfl (lv_at hl 2 rfl) ?_
          refine lv_aload_n hx hb dX5_hasRound_26 rfl (lv_at hl 2 rfl) ?_
          refine va_get (D := (dC, dI)) (ci := 5) (v := .ref ha0_0) (C := RX5) (T := TX5) (N := 2) hx hb hts in_X5_hasRound_X5 hown hK hP 1 rfl rfl 0 (by decide) (hts (.fieldLink RX5 9 "EachOnHisCue$Net" "after" "[I") (by decide +kernel)) (fun _ h9 => h9) rfl dX5_hasRound_27 ?_
          refine lv_iload_n hx hb dX5_hasRound_30 rfl (lv_at hl 0 rfl) ?_
          refine va_iald hx hb hK hP 0 0 rfl rfl (z_in (by omega) (by omega)) dX5_hasRound_31 ?_
          refine lv_topi (fun y84 ey84 => ?_)
          have gy84 : y84.toInt = (fa0_0 (v2 : Int32).toNatClampNeg).toInt := by rw [ey84]
          refine z_rdi (va_runV (As := [.int y84]) (rest := []) ⟨hx, hb, hml, hown, hts⟩ (rX5_reachedFrom l dC dI cI cQ ha0 ha0_0 fa0_0 ia0_1 (by first | omega | decide | exact z_lo _ | exact z_hi _) (by first | omega | decide | exact z_lo _ | exact z_hi _) y84) (cwV 1 hts gv_X5_hasRound_X5_reachedFrom_48 rfl rfl rfl (by decide +kernel) ⟨Nat.le_of_ble_eq_true rfl, Nat.le_of_ble_eq_true rfl⟩) ⟨z_blindR, va_recv hK hP (ci := 5) (q0 := 1) rfl rfl, z_preR hZ hP [0, 1] rfl⟩ rfl rfl hl.1 rfl (lv_room (Nat.le_of_ble_eq_true rfl)) dX5_hasRound_32 ⟨Nat.le_of_ble_eq_true rfl, Nat.le_of_ble_eq_true rfl⟩) (fun y85 hy85 => ?_)
          obtain ⟨hy85_0, hy85_1⟩ := hy85
          refine lv_iload_n hx hb dX5_hasRound_35 rfl (lv_at hl 0 rfl) ?_
          refine z_rdi (va_runSN (As := [.int y85, .int v2]) (rest := []) ⟨hx, hb, hml, hown, hts⟩ (rX11_bitAt l dC dI cI cQ y85 v2) ⟨va_cnB (host := "EachOnHisCue") 2 hts gv_X5_hasRound_X11_bitAt_40 rfl rfl rfl (hN.2.2.2.2.2.2.2.2.2.1) (hts (.initialized RX11) (by decide +kernel)) (by decide +kernel) ⟨Nat.le_of_ble_eq_true rfl, Nat.le_of_ble_eq_true rfl⟩, hts (.static yX11_bitAt) (by decide +kernel), trivial⟩ ⟨z_blindR, z_preR hZ hP [] rfl⟩ rfl rfl hl.1 rfl (lv_room (Nat.le_of_ble_eq_true rfl)) dX5_hasRound_36 ⟨Nat.le_of_ble_eq_true rfl, Nat.le_of_ble_eq_true rfl⟩) (fun y86 hy86 => ?_)
          obtain ⟨hy86_0, hy86_1⟩ := hy86
          refine lv_iconst (v := 1) hx hb dX5_hasRound_39 (by decide) ?_
          refine lv_icmp_ne (tgt := 45) hx hb dX5_hasRound_40 (by decide) (fun hc => ?_) (fun hc => ?_)
          · have q87 : y86.toInt ≠ 1 := z_ne rfl (by decide) hc
            obtain ⟨y88, ey88⟩ : ∃ y : Int32, y = v2 + 1 := ⟨_, rfl⟩
            refine lv_iinc (v := y88) (lv' := [(2, .int y88), (1, .int y1), (0, .ref ha0)]) hx hb dX5_hasRound_45 hl (k := 0) rfl (by rw [ey88]; rfl) (by decide) rfl (fun ls hl => ?_)
            have hy88 : y88.toInt = v2.toInt + 1 := by rw [ey88]; exact z_add rfl (by decide) (by omega) (by omega)
            refine lv_goto (tgt := 8) hx hb dX5_hasRound_48 (by decide) ?_
            exact ih77 y88 ls (by first | omega | decide | exact z_lo _ | exact z_hi _) (by first | omega | decide | exact z_lo _ | exact z_hi _) (by omega) (lv_sub hl [0, 1, 2] rfl)
          · have q89 : y86.toInt = 1 := z_eq rfl (by decide) hc
            refine lv_iconst (v := 1) hx hb dX5_hasRound_43 (by decide) ?_
            exact W.zret (v := 1) hx hb hr (rfl) (fun t ht hW => ⟨1, rfl, ⟨by first | omega | decide | exact z_lo _, by first | omega | decide | exact z_hi _⟩, ht⟩) (fun _ h => absurd h List.not_mem_nil) dX5_hasRound_44
  exact hL75 ((12 - (0 : Int32).toInt).toNat + 1) 0 ls (by first | omega | decide | exact z_lo _ | exact z_hi _) (by first | omega | decide | exact z_lo _ | exact z_hi _) (by omega) hl
theorem dX5_isSure_0 : decode cX5_isSure 0 = .ok (.iconst 0, 1) := by decide +kernel
theorem dX5_isSure_1 : decode cX5_isSure 1 = .ok (.istore_n 1, 1) := by decide +kernel
theorem dX5_isSure_2 : decode cX5_isSure 2 = .ok (.iload_n 1, 1) := by decide +kernel
theorem dX5_isSure_3 : decode cX5_isSure 3 = .ok (.aload_n 0, 1) := by decide +kernel
theorem dX5_isSure_4 : decode cX5_isSure 4 = .ok (.getfield 15, 3) := by decide +kernel
theorem dX5_isSure_7 : decode cX5_isSure 7 = .ok (.if_icmp .ge 41, 3) := by decide +kernel
theorem dX5_isSure_10 : decode cX5_isSure 10 = .ok (.iload_n 1, 1) := by decide +kernel
theorem dX5_isSure_11 : decode cX5_isSure 11 = .ok (.aload_n 0, 1) := by decide +kernel
theorem dX5_isSure_12 : decode cX5_isSure 12 = .ok (.getfield 15, 3) := by decide +kernel
theorem dX5_isSure_15 : decode cX5_isSure 15 = .ok (.iconst 1, 1) := by decide +kernel
theorem dX5_isSure_16 : decode cX5_isSure 16 = .ok (.isub, 1) := by decide +kernel
theorem dX5_isSure_17 : decode cX5_isSure 17 = .ok (.if_icmp .ne 7, 3) := by decide +kernel
theorem dX5_isSure_20 : decode cX5_isSure 20 = .ok (.iconst 0, 1) := by decide +kernel
theorem dX5_isSure_21 : decode cX5_isSure 21 = .ok (.goto 8, 3) := by decide +kernel
theorem dX5_isSure_24 : decode cX5_isSure 24 = .ok (.iconst 1, 1) := by decide +kernel
theorem dX5_isSure_25 : decode cX5_isSure 25 = .ok (.iload_n 1, 1) := by decide +kernel
theorem dX5_isSure_26 : decode cX5_isSure 26 = .ok (.iconst 1, 1) := by decide +kernel
theorem dX5_isSure_27 : decode cX5_isSure 27 = .ok (.iadd, 1) := by decide +kernel
theorem dX5_isSure_28 : decode cX5_isSure 28 = .ok (.ishl, 1) := by decide +kernel
theorem dX5_isSure_29 : decode cX5_isSure 29 = .ok (.istore_n 2, 1) := by decide +kernel
theorem dX5_isSure_30 : decode cX5_isSure 30 = .ok (.aload_n 0, 1) := by decide +kernel
theorem dX5_isSure_31 : decode cX5_isSure 31 = .ok (.getfield 9, 3) := by decide +kernel
theorem dX5_isSure_34 : decode cX5_isSure 34 = .ok (.iload_n 1, 1) := by decide +kernel
theorem dX5_isSure_35 : decode cX5_isSure 35 = .ok (.iaload, 1) := by decide +kernel
theorem dX5_isSure_36 : decode cX5_isSure 36 = .ok (.iload_n 2, 1) := by decide +kernel
theorem dX5_isSure_37 : decode cX5_isSure 37 = .ok (.if_icmp .eq 5, 3) := by decide +kernel
theorem dX5_isSure_40 : decode cX5_isSure 40 = .ok (.iconst 0, 1) := by decide +kernel
theorem dX5_isSure_41 : decode cX5_isSure 41 = .ok (.ireturn, 1) := by decide +kernel
theorem dX5_isSure_42 : decode cX5_isSure 42 = .ok (.iinc 1 1, 3) := by decide +kernel
theorem dX5_isSure_45 : decode cX5_isSure 45 = .ok (.goto (-43), 3) := by decide +kernel
theorem dX5_isSure_48 : decode cX5_isSure 48 = .ok (.iconst 1, 1) := by decide +kernel
theorem dX5_isSure_49 : decode cX5_isSure 49 = .ok (.ireturn, 1) := by decide +kernel
noncomputable def vsX5_isSure : List Cond := .code yX5_isSure cX5_isSure 3 (some .boolean) :: (([.fieldLink RX5 15 "EachOnHisCue$Net" "lines" "I", .fieldLink RX5 9 "EachOnHisCue$Net" "after" "[I"] : List Cond) ++ wsX50)
theorem in_X5_isSure_X5 : ∀ w ∈ wsX50, w ∈ vsX5_isSure := fun _ h => List.mem_cons_of_mem _ (List.mem_append_right _ h)
set_option maxHeartbeats 4000000 in
set_option maxRecDepth 100000 in
theorem rX5_isSure (l : Launch) (dC : Nat → ClassId) (dI : Nat → Nat → Nat) (cI cQ : ClassId) (ha0 ha0_0 : Nat) (fa0_0 : Nat → Int32) (ia0_1 : Int32) (hia0_1l : 0 ≤ ia0_1.toInt) (hia0_1h : ia0_1.toInt ≤ 12) : Met l yX5_isSure vsX5_isSure ({ frames := 0, cells := 0, slots := 0, locals := 0 }) (va_Pc [.ref ha0] (zRB dC dI cI cQ [(ha0_0, .inl (cI, 12, .inl fa0_0)), (ha0, .inr (5, [.ref ha0_0, .int ia0_1]))])) (vp_Si (fun r => 0 ≤ r.toInt ∧ r.toInt ≤ 1)) 0 0 (fun _ => False) := by
  refine Met.ofW (cc := cX5_isSure) (maxL := 3) (ret := (some .boolean)) (by decide) rfl ?_
  intro p e s m args below meth c s₁ B hml hv
  obtain ⟨rfl, hP, hZ⟩ := hv
  obtain ⟨hK, hAO, hN⟩ := id hZ
  have hx := B.exec
  have hb := B.bytes
  have hr := B.returns
  have hts := atoms_spec (ws := vsX5_isSure) B.pre
  have hown : s.vm.findClass RX5 = some m.cls := findClass_of_methodNamed B.named
  have hlocks := B.notSynchronized
  have hl := lv_entry ([.ref ha0]) (n := 3) (Nat.le_of_ble_eq_true rfl)
  rw [lg_entry_eq]
  generalize (lg_sl ([.ref ha0]) ++ List.replicate (3 - (lg_sl ([.ref ha0])).length) Slot.unset).toArray = ls at hl ⊢
  have hl : lv_has ls 3 [(0, .ref ha0)] := hl
  refine lv_iconst (v := 0) hx hb dX5_isSure_0 (by decide) ?_
  refine lv_istore_n (lv' := [(1, .int 0), (0, .ref ha0)]) hx hb dX5_isSure_1 rfl hl (by decide) rfl (fun ls hl => ?_)
  have hL92 : ∀ (n : Nat) (v1 : Int32) (ls : Array Slot), 0 ≤ v1.toInt → v1.toInt ≤ 12 → (12 - v1.toInt).toNat < n → lv_has ls 3 [(1, .int v1), (0, .ref ha0)] → W p l e (headSpec vsX5_isSure ({ frames := 0, cells := 0, slots := 0, locals := 0 })).room s m ([.ref ha0] : List Value).toArray below meth c s.heap [] 0 0 (MQ below (vp_Si (fun r => 0 ≤ r.toInt ∧ r.toInt ≤ 1)) ([.ref ha0] : List Value).toArray s 0 0 (fun _ => False)) (F0 m 2 ls []) := by
    intro n
    induction n with
    | zero =>
      intro v1 ls hi93_0 hi93_1 hi93_m hl
      exact absurd hi93_m (Nat.not_lt_zero _)
    | succ n ih =>
      intro v1 ls hi93_0 hi93_1 hi93_m hl
      have ih94 := ih
      refine lv_iload_n hx hb dX5_isSure_2 rfl (lv_at hl 0 rfl) ?_
      refine lv_aload_n hx hb dX5_isSure_3 rfl (lv_at hl 1 rfl) ?_
      refine va_get (D := (dC, dI)) (ci := 5) (v := .int ia0_1) (C := RX5) (T := TX5) (N := 2) hx hb hts in_X5_isSure_X5 hown hK hP 1 rfl rfl 1 (by decide) (hts (.fieldLink RX5 15 "EachOnHisCue$Net" "lines" "I") (by decide +kernel)) (fun _ h9 => h9) rfl dX5_isSure_4 ?_
      refine lv_icmp_ge (tgt := 48) hx hb dX5_isSure_7 (by decide) (fun hc => ?_) (fun hc => ?_)
      · have q95 : ia0_1.toInt ≤ v1.toInt := z_le rfl rfl hc
        refine lv_iconst (v := 1) hx hb dX5_isSure_48 (by decide) ?_
        exact W.zret (v := 1) hx hb hr (rfl) (fun t ht hW => ⟨1, rfl, ⟨by first | omega | decide | exact z_lo _, by first | omega | decide | exact z_hi _⟩, ht⟩) (fun _ h => absurd h List.not_mem_nil) dX5_isSure_49
      · have q96 : v1.toInt < ia0_1.toInt := z_nle rfl rfl hc
        refine lv_iload_n hx hb dX5_isSure_10 rfl (lv_at hl 0 rfl) ?_
        refine lv_aload_n hx hb dX5_isSure_11 rfl (lv_at hl 1 rfl) ?_
        refine va_get (D := (dC, dI)) (ci := 5) (v := .int ia0_1) (C := RX5) (T := TX5) (N := 2) hx hb hts in_X5_isSure_X5 hown hK hP 1 rfl rfl 1 (by decide) (hts (.fieldLink RX5 15 "EachOnHisCue$Net" "lines" "I") (by decide +kernel)) (fun _ h9 => h9) rfl dX5_isSure_12 ?_
        refine lv_iconst (v := 1) hx hb dX5_isSure_15 (by decide) ?_
        refine lv_isub hx hb dX5_isSure_16 ?_
        refine lv_topi (fun y97 ey97 => ?_)
        have hy97 : y97.toInt = ia0_1.toInt - 1 := by rw [ey97]; exact z_sub rfl (by decide) (by omega) (by omega)
        refine lv_icmp_ne (tgt := 24) hx hb dX5_isSure_17 (by decide) (fun hc => ?_) (fun hc => ?_)
        · have q98 : v1.toInt ≠ y97.toInt := z_ne rfl rfl hc
          refine lv_iconst (v := 1) hx hb dX5_isSure_24 (by decide) ?_
          refine lv_iload_n hx hb dX5_isSure_25 rfl (lv_at hl 0 rfl) ?_
          refine lv_iconst (v := 1) hx hb dX5_isSure_26 (by decide) ?_
          refine lv_iadd hx hb dX5_isSure_27 ?_
          refine lv_topi (fun y99 ey99 => ?_)
          have hy99 : y99.toInt = v1.toInt + 1 := by rw [ey99]; exact z_add rfl (by decide) (by omega) (by omega)
          refine lv_ishl hx hb dX5_isSure_28 ?_
          refine lv_topi (fun y100 ey100 => ?_)
          refine lv_istore_n (lv' := [(2, .int y100), (1, .int v1), (0, .ref ha0)]) hx hb dX5_isSure_29 rfl hl (by decide) rfl (fun ls hl => ?_)
          refine lv_aload_n hx hb dX5_isSure_30 rfl (lv_at hl 2 rfl) ?_
          refine va_get (D := (dC, dI)) (ci := 5) (v := .ref ha0_0) (C := RX5) (T := TX5) (N := 2) hx hb hts in_X5_isSure_X5 hown hK hP 1 rfl rfl 0 (by decide) (hts (.fieldLink RX5 9 "EachOnHisCue$Net" "after" "[I") (by decide +kernel)) (fun _ h9 => h9) rfl dX5_isSure_31 ?_
          refine lv_iload_n hx hb dX5_isSure_34 rfl (lv_at hl 1 rfl) ?_
          refine va_iald hx hb hK hP 0 0 rfl rfl (z_in (by omega) (by omega)) dX5_isSure_35 ?_
          refine lv_topi (fun y101 ey101 => ?_)
          have gy101 : y101.toInt = (fa0_0 (v1 : Int32).toNatClampNeg).toInt := by rw [ey101]
          refine lv_iload_n hx hb dX5_isSure_36 rfl (lv_at hl 0 rfl) ?_
          refine lv_icmp_eq (tgt := 42) hx hb dX5_isSure_37 (by decide) (fun hc => ?_) (fun hc => ?_)
          · have q102 : y101.toInt = y100.toInt := z_eq rfl rfl hc
            obtain ⟨y103, ey103⟩ : ∃ y : Int32, y = v1 + 1 := ⟨_, rfl⟩
            refine lv_iinc (v := y103) (lv' := [(1, .int y103), (2, .int y100), (0, .ref ha0)]) hx hb dX5_isSure_42 hl (k := 1) rfl (by rw [ey103]; rfl) (by decide) rfl (fun ls hl => ?_)
            have hy103 : y103.toInt = v1.toInt + 1 := by rw [ey103]; exact z_add rfl (by decide) (by omega) (by omega)
            refine lv_goto (tgt := 2) hx hb dX5_isSure_45 (by decide) ?_
            exact ih94 y103 ls (by first | omega | decide | exact z_lo _ | exact z_hi _) (by first | omega | decide | exact z_lo _ | exact z_hi _) (by omega) (lv_sub hl [0, 2] rfl)
          · have q104 : y101.toInt ≠ y100.toInt := z_ne rfl rfl hc
            refine lv_iconst (v := 0) hx hb dX5_isSure_40 (by decide) ?_
            exact W.zret (v := 0) hx hb hr (rfl) (fun t ht hW => ⟨0, rfl, ⟨by first | omega | decide | exact z_lo _, by first | omega | decide | exact z_hi _⟩, ht⟩) (fun _ h => absurd h List.not_mem_nil) dX5_isSure_41
        · have q105 : v1.toInt = y97.toInt := z_eq rfl rfl hc
          refine lv_iconst (v := 0) hx hb dX5_isSure_20 (by decide) ?_
          refine lv_goto (tgt := 29) hx hb dX5_isSure_21 (by decide) ?_
          refine lv_istore_n (lv' := [(2, .int 0), (1, .int v1), (0, .ref ha0)]) hx hb dX5_isSure_29 rfl hl (by decide) rfl (fun ls hl => ?_)
          refine lv_aload_n hx hb dX5_isSure_30 rfl (lv_at hl 2 rfl) ?_
          refine va_get (D := (dC, dI)) (ci := 5) (v := .ref ha0_0) (C := RX5) (T := TX5) (N := 2) hx hb hts in_X5_isSure_X5 hown hK hP 1 rfl rfl 0 (by decide) (hts (.fieldLink RX5 9 "EachOnHisCue$Net" "after" "[I") (by decide +kernel)) (fun _ h9 => h9) rfl dX5_isSure_31 ?_
          refine lv_iload_n hx hb dX5_isSure_34 rfl (lv_at hl 1 rfl) ?_
          refine va_iald hx hb hK hP 0 0 rfl rfl (z_in (by omega) (by omega)) dX5_isSure_35 ?_
          refine lv_topi (fun y106 ey106 => ?_)
          have gy106 : y106.toInt = (fa0_0 (v1 : Int32).toNatClampNeg).toInt := by rw [ey106]
          refine lv_iload_n hx hb dX5_isSure_36 rfl (lv_at hl 0 rfl) ?_
          refine lv_icmp_eq (tgt := 42) hx hb dX5_isSure_37 (by decide) (fun hc => ?_) (fun hc => ?_)
          · have q107 : y106.toInt = 0 := z_eq rfl (by decide) hc
            obtain ⟨y108, ey108⟩ : ∃ y : Int32, y = v1 + 1 := ⟨_, rfl⟩
            refine lv_iinc (v := y108) (lv' := [(1, .int y108), (2, .int 0), (0, .ref ha0)]) hx hb dX5_isSure_42 hl (k := 1) rfl (by rw [ey108]; rfl) (by decide) rfl (fun ls hl => ?_)
            have hy108 : y108.toInt = v1.toInt + 1 := by rw [ey108]; exact z_add rfl (by decide) (by omega) (by omega)
            refine lv_goto (tgt := 2) hx hb dX5_isSure_45 (by decide) ?_
            exact ih94 y108 ls (by first | omega | decide | exact z_lo _ | exact z_hi _) (by first | omega | decide | exact z_lo _ | exact z_hi _) (by omega) (lv_sub hl [0, 2] rfl)
          · have q109 : y106.toInt ≠ 0 := z_ne rfl (by decide) hc
            refine lv_iconst (v := 0) hx hb dX5_isSure_40 (by decide) ?_
            exact W.zret (v := 0) hx hb hr (rfl) (fun t ht hW => ⟨0, rfl, ⟨by first | omega | decide | exact z_lo _, by first | omega | decide | exact z_hi _⟩, ht⟩) (fun _ h => absurd h List.not_mem_nil) dX5_isSure_41
  exact hL92 ((12 - (0 : Int32).toInt).toNat + 1) 0 ls (by first | omega | decide | exact z_lo _ | exact z_hi _) (by first | omega | decide | exact z_lo _ | exact z_hi _) (by omega) hl
theorem dX5_freeBehind_0 : decode cX5_freeBehind 0 = .ok (.iload_n 1, 1) := by decide +kernel
theorem dX5_freeBehind_1 : decode cX5_freeBehind 1 = .ok (.ifCond .lt 24, 3) := by decide +kernel
theorem dX5_freeBehind_4 : decode cX5_freeBehind 4 = .ok (.iload_n 1, 1) := by decide +kernel
theorem dX5_freeBehind_5 : decode cX5_freeBehind 5 = .ok (.aload_n 0, 1) := by decide +kernel
theorem dX5_freeBehind_6 : decode cX5_freeBehind 6 = .ok (.getfield 15, 3) := by decide +kernel
theorem dX5_freeBehind_9 : decode cX5_freeBehind 9 = .ok (.if_icmp .ge 16, 3) := by decide +kernel
theorem dX5_freeBehind_12 : decode cX5_freeBehind 12 = .ok (.aload_n 0, 1) := by decide +kernel
theorem dX5_freeBehind_13 : decode cX5_freeBehind 13 = .ok (.getfield 9, 3) := by decide +kernel
theorem dX5_freeBehind_16 : decode cX5_freeBehind 16 = .ok (.iload_n 1, 1) := by decide +kernel
theorem dX5_freeBehind_17 : decode cX5_freeBehind 17 = .ok (.iaload, 1) := by decide +kernel
theorem dX5_freeBehind_18 : decode cX5_freeBehind 18 = .ok (.iload_n 2, 1) := by decide +kernel
theorem dX5_freeBehind_19 : decode cX5_freeBehind 19 = .ok (.iconst (-1), 1) := by decide +kernel
theorem dX5_freeBehind_20 : decode cX5_freeBehind 20 = .ok (.ixor, 1) := by decide +kernel
theorem dX5_freeBehind_21 : decode cX5_freeBehind 21 = .ok (.iand, 1) := by decide +kernel
theorem dX5_freeBehind_22 : decode cX5_freeBehind 22 = .ok (.goto 4, 3) := by decide +kernel
theorem dX5_freeBehind_25 : decode cX5_freeBehind 25 = .ok (.iconst 0, 1) := by decide +kernel
theorem dX5_freeBehind_26 : decode cX5_freeBehind 26 = .ok (.ireturn, 1) := by decide +kernel
noncomputable def vsX5_freeBehind : List Cond := .code yX5_freeBehind cX5_freeBehind 3 (some .int) :: (([.fieldLink RX5 15 "EachOnHisCue$Net" "lines" "I", .fieldLink RX5 9 "EachOnHisCue$Net" "after" "[I"] : List Cond) ++ wsX50)
theorem in_X5_freeBehind_X5 : ∀ w ∈ wsX50, w ∈ vsX5_freeBehind := fun _ h => List.mem_cons_of_mem _ (List.mem_append_right _ h)
set_option maxHeartbeats 4000000 in
set_option maxRecDepth 100000 in
theorem rX5_freeBehind (l : Launch) (dC : Nat → ClassId) (dI : Nat → Nat → Nat) (cI cQ : ClassId) (ha0 ha0_0 : Nat) (fa0_0 : Nat → Int32) (ia0_1 : Int32) (hia0_1l : 0 ≤ ia0_1.toInt) (hia0_1h : ia0_1.toInt ≤ 12) (p1 : Int32) (p2 : Int32) : Met l yX5_freeBehind vsX5_freeBehind ({ frames := 0, cells := 0, slots := 0, locals := 0 }) (va_Pc [.ref ha0, .int p1, .int p2] (zRB dC dI cI cQ [(ha0_0, .inl (cI, 12, .inl fa0_0)), (ha0, .inr (5, [.ref ha0_0, .int ia0_1]))])) (vp_Si (fun r => (-2147483648) ≤ r.toInt ∧ r.toInt ≤ 2147483647)) 0 0 (fun _ => False) := by
  refine Met.ofW (cc := cX5_freeBehind) (maxL := 3) (ret := (some .int)) (by decide) rfl ?_
  intro p e s m args below meth c s₁ B hml hv
  obtain ⟨rfl, hP, hZ⟩ := hv
  obtain ⟨hK, hAO, hN⟩ := id hZ
  have hx := B.exec
  have hb := B.bytes
  have hr := B.returns
  have hts := atoms_spec (ws := vsX5_freeBehind) B.pre
  have hown : s.vm.findClass RX5 = some m.cls := findClass_of_methodNamed B.named
  have hlocks := B.notSynchronized
  have hp1l := z_lo p1
  have hp1h := z_hi p1
  have hp2l := z_lo p2
  have hp2h := z_hi p2
  have hl := lv_entry ([.ref ha0, .int p1, .int p2]) (n := 3) (Nat.le_of_ble_eq_true rfl)
  rw [lg_entry_eq]
  generalize (lg_sl ([.ref ha0, .int p1, .int p2]) ++ List.replicate (3 - (lg_sl ([.ref ha0, .int p1, .int p2])).length) Slot.unset).toArray = ls at hl ⊢
  have hl : lv_has ls 3 [(0, .ref ha0), (1, .int p1), (2, .int p2)] := hl
  refine lv_iload_n hx hb dX5_freeBehind_0 rfl (lv_at hl 1 rfl) ?_
  refine lv_if_lt (tgt := 25) hx hb dX5_freeBehind_1 (by decide) (fun hc => ?_) (fun hc => ?_)
  · have q1 : p1.toInt < 0 := z_lt rfl (by decide) hc
    refine lv_iconst (v := 0) hx hb dX5_freeBehind_25 (by decide) ?_
    exact W.iret (v := 0) hx hb hr (fun t ht hW => ⟨0, rfl, ⟨by first | omega | decide | exact z_lo _, by first | omega | decide | exact z_hi _⟩, ht⟩) (fun _ h => absurd h List.not_mem_nil) dX5_freeBehind_26
  · have q2 : 0 ≤ p1.toInt := z_nlt rfl (by decide) hc
    refine lv_iload_n hx hb dX5_freeBehind_4 rfl (lv_at hl 1 rfl) ?_
    refine lv_aload_n hx hb dX5_freeBehind_5 rfl (lv_at hl 0 rfl) ?_
    refine va_get (D := (dC, dI)) (ci := 5) (v := .int ia0_1) (C := RX5) (T := TX5) (N := 2) hx hb hts in_X5_freeBehind_X5 hown hK hP 1 rfl rfl 1 (by decide) (hts (.fieldLink RX5 15 "EachOnHisCue$Net" "lines" "I") (by decide +kernel)) (fun _ h9 => h9) rfl dX5_freeBehind_6 ?_
    refine lv_icmp_ge (tgt := 25) hx hb dX5_freeBehind_9 (by decide) (fun hc => ?_) (fun hc => ?_)
    · have q3 : ia0_1.toInt ≤ p1.toInt := z_le rfl rfl hc
      refine lv_iconst (v := 0) hx hb dX5_freeBehind_25 (by decide) ?_
      exact W.iret (v := 0) hx hb hr (fun t ht hW => ⟨0, rfl, ⟨by first | omega | decide | exact z_lo _, by first | omega | decide | exact z_hi _⟩, ht⟩) (fun _ h => absurd h List.not_mem_nil) dX5_freeBehind_26
    · have q4 : p1.toInt < ia0_1.toInt := z_nle rfl rfl hc
      refine lv_aload_n hx hb dX5_freeBehind_12 rfl (lv_at hl 0 rfl) ?_
      refine va_get (D := (dC, dI)) (ci := 5) (v := .ref ha0_0) (C := RX5) (T := TX5) (N := 2) hx hb hts in_X5_freeBehind_X5 hown hK hP 1 rfl rfl 0 (by decide) (hts (.fieldLink RX5 9 "EachOnHisCue$Net" "after" "[I") (by decide +kernel)) (fun _ h9 => h9) rfl dX5_freeBehind_13 ?_
      refine lv_iload_n hx hb dX5_freeBehind_16 rfl (lv_at hl 1 rfl) ?_
      refine va_iald hx hb hK hP 0 0 rfl rfl (z_in (by omega) (by omega)) dX5_freeBehind_17 ?_
      refine lv_topi (fun y5 ey5 => ?_)
      have gy5 : y5.toInt = (fa0_0 (p1 : Int32).toNatClampNeg).toInt := by rw [ey5]
      refine lv_iload_n hx hb dX5_freeBehind_18 rfl (lv_at hl 2 rfl) ?_
      refine lv_iconst (v := (-1)) hx hb dX5_freeBehind_19 (by decide) ?_
      refine lv_ixor hx hb dX5_freeBehind_20 ?_
      refine lv_topi (fun y6 ey6 => ?_)
      refine lv_iand hx hb dX5_freeBehind_21 ?_
      refine lv_topi (fun y7 ey7 => ?_)
      refine lv_goto (tgt := 26) hx hb dX5_freeBehind_22 (by decide) ?_
      exact W.iret (v := y7) hx hb hr (fun t ht hW => ⟨y7, rfl, ⟨by first | omega | decide | exact z_lo _, by first | omega | decide | exact z_hi _⟩, ht⟩) (fun _ h => absurd h List.not_mem_nil) dX5_freeBehind_26
theorem dX5_canFollow_0 : decode cX5_canFollow 0 = .ok (.iload_n 1, 1) := by decide +kernel
theorem dX5_canFollow_1 : decode cX5_canFollow 1 = .ok (.ifCond .lt 41, 3) := by decide +kernel
theorem dX5_canFollow_4 : decode cX5_canFollow 4 = .ok (.iload_n 1, 1) := by decide +kernel
theorem dX5_canFollow_5 : decode cX5_canFollow 5 = .ok (.aload_n 0, 1) := by decide +kernel
theorem dX5_canFollow_6 : decode cX5_canFollow 6 = .ok (.getfield 15, 3) := by decide +kernel
theorem dX5_canFollow_9 : decode cX5_canFollow 9 = .ok (.if_icmp .ge 33, 3) := by decide +kernel
theorem dX5_canFollow_12 : decode cX5_canFollow 12 = .ok (.iload_n 2, 1) := by decide +kernel
theorem dX5_canFollow_13 : decode cX5_canFollow 13 = .ok (.ifCond .lt 29, 3) := by decide +kernel
theorem dX5_canFollow_16 : decode cX5_canFollow 16 = .ok (.iload_n 2, 1) := by decide +kernel
theorem dX5_canFollow_17 : decode cX5_canFollow 17 = .ok (.aload_n 0, 1) := by decide +kernel
theorem dX5_canFollow_18 : decode cX5_canFollow 18 = .ok (.getfield 15, 3) := by decide +kernel
theorem dX5_canFollow_21 : decode cX5_canFollow 21 = .ok (.if_icmp .ge 21, 3) := by decide +kernel
theorem dX5_canFollow_24 : decode cX5_canFollow 24 = .ok (.aload_n 0, 1) := by decide +kernel
theorem dX5_canFollow_25 : decode cX5_canFollow 25 = .ok (.getfield 9, 3) := by decide +kernel
theorem dX5_canFollow_28 : decode cX5_canFollow 28 = .ok (.iload_n 1, 1) := by decide +kernel
theorem dX5_canFollow_29 : decode cX5_canFollow 29 = .ok (.iaload, 1) := by decide +kernel
theorem dX5_canFollow_30 : decode cX5_canFollow 30 = .ok (.iload_n 2, 1) := by decide +kernel
theorem dX5_canFollow_31 : decode cX5_canFollow 31 = .ok (.invokestatic 40, 3) := by decide +kernel
theorem dX5_canFollow_34 : decode cX5_canFollow 34 = .ok (.iconst 1, 1) := by decide +kernel
theorem dX5_canFollow_35 : decode cX5_canFollow 35 = .ok (.if_icmp .ne 7, 3) := by decide +kernel
theorem dX5_canFollow_38 : decode cX5_canFollow 38 = .ok (.iconst 1, 1) := by decide +kernel
theorem dX5_canFollow_39 : decode cX5_canFollow 39 = .ok (.goto 4, 3) := by decide +kernel
theorem dX5_canFollow_42 : decode cX5_canFollow 42 = .ok (.iconst 0, 1) := by decide +kernel
theorem dX5_canFollow_43 : decode cX5_canFollow 43 = .ok (.ireturn, 1) := by decide +kernel
noncomputable def vsX5_canFollow : List Cond := .code yX5_canFollow cX5_canFollow 3 (some .boolean) :: (([.fieldLink RX5 15 "EachOnHisCue$Net" "lines" "I", .fieldLink RX5 9 "EachOnHisCue$Net" "after" "[I", .initialized RX11, .static yX11_bitAt, .code yX11_bitAt cX11_bitAt 2 (some .int)] : List Cond) ++ wsX50)
theorem in_X5_canFollow_X5 : ∀ w ∈ wsX50, w ∈ vsX5_canFollow := fun _ h => List.mem_cons_of_mem _ (List.mem_append_right _ h)
set_option maxRecDepth 20000 in
theorem gw_X5_canFollow_X11_bitAt : GoodIn vsX5_canFollow vsX11_bitAt := goodIn_r _ [5] (by decide +kernel) (by decide +kernel)
set_option maxRecDepth 20000 in
theorem gv_X5_canFollow_X11_bitAt_40 : GoodIn vsX5_canFollow (vsX11_bitAt) := gw_X5_canFollow_X11_bitAt
set_option maxHeartbeats 4000000 in
set_option maxRecDepth 100000 in
theorem rX5_canFollow (l : Launch) (dC : Nat → ClassId) (dI : Nat → Nat → Nat) (cI cQ : ClassId) (ha0 ha0_0 : Nat) (fa0_0 : Nat → Int32) (ia0_1 : Int32) (hia0_1l : 0 ≤ ia0_1.toInt) (hia0_1h : ia0_1.toInt ≤ 12) (p1 : Int32) (p2 : Int32) : Met l yX5_canFollow vsX5_canFollow ({ frames := 1, cells := 0, slots := 0, locals := 21 }) (va_Pc [.ref ha0, .int p1, .int p2] (zRB dC dI cI cQ [(ha0_0, .inl (cI, 12, .inl fa0_0)), (ha0, .inr (5, [.ref ha0_0, .int ia0_1]))])) (vp_Si (fun r => 0 ≤ r.toInt ∧ r.toInt ≤ 1)) 0 0 (fun _ => False) := by
  refine Met.ofW (cc := cX5_canFollow) (maxL := 3) (ret := (some .boolean)) (by decide) rfl ?_
  intro p e s m args below meth c s₁ B hml hv
  obtain ⟨rfl, hP, hZ⟩ := hv
  obtain ⟨hK, hAO, hN⟩ := id hZ
  have hx := B.exec
  have hb := B.bytes
  have hr := B.returns
  have hts := atoms_spec (ws := vsX5_canFollow) B.pre
  have hown : s.vm.findClass RX5 = some m.cls := findClass_of_methodNamed B.named
  have hlocks := B.notSynchronized
  have hp1l := z_lo p1
  have hp1h := z_hi p1
  have hp2l := z_lo p2
  have hp2h := z_hi p2
  have hl := lv_entry ([.ref ha0, .int p1, .int p2]) (n := 3) (Nat.le_of_ble_eq_true rfl)
  rw [lg_entry_eq]
  generalize (lg_sl ([.ref ha0, .int p1, .int p2]) ++ List.replicate (3 - (lg_sl ([.ref ha0, .int p1, .int p2])).length) Slot.unset).toArray = ls at hl ⊢
  have hl : lv_has ls 3 [(0, .ref ha0), (1, .int p1), (2, .int p2)] := hl
  refine lv_iload_n hx hb dX5_canFollow_0 rfl (lv_at hl 1 rfl) ?_
  refine lv_if_lt (tgt := 42) hx hb dX5_canFollow_1 (by decide) (fun hc => ?_) (fun hc => ?_)
  · have q1 : p1.toInt < 0 := z_lt rfl (by decide) hc
    refine lv_iconst (v := 0) hx hb dX5_canFollow_42 (by decide) ?_
    exact W.zret (v := 0) hx hb hr (rfl) (fun t ht hW => ⟨0, rfl, ⟨by first | omega | decide | exact z_lo _, by first | omega | decide | exact z_hi _⟩, ht⟩) (fun _ h => absurd h List.not_mem_nil) dX5_canFollow_43
  · have q2 : 0 ≤ p1.toInt := z_nlt rfl (by decide) hc
    refine lv_iload_n hx hb dX5_canFollow_4 rfl (lv_at hl 1 rfl) ?_
    refine lv_aload_n hx hb dX5_canFollow_5 rfl (lv_at hl 0 rfl) ?_
    refine va_get (D := (dC, dI)) (ci := 5) (v := .int ia0_1) (C := RX5) (T := TX5) (N := 2) hx hb hts in_X5_canFollow_X5 hown hK hP 1 rfl rfl 1 (by decide) (hts (.fieldLink RX5 15 "EachOnHisCue$Net" "lines" "I") (by decide +kernel)) (fun _ h9 => h9) rfl dX5_canFollow_6 ?_
    refine lv_icmp_ge (tgt := 42) hx hb dX5_canFollow_9 (by decide) (fun hc => ?_) (fun hc => ?_)
    · have q3 : ia0_1.toInt ≤ p1.toInt := z_le rfl rfl hc
      refine lv_iconst (v := 0) hx hb dX5_canFollow_42 (by decide) ?_
      exact W.zret (v := 0) hx hb hr (rfl) (fun t ht hW => ⟨0, rfl, ⟨by first | omega | decide | exact z_lo _, by first | omega | decide | exact z_hi _⟩, ht⟩) (fun _ h => absurd h List.not_mem_nil) dX5_canFollow_43
    · have q4 : p1.toInt < ia0_1.toInt := z_nle rfl rfl hc
      refine lv_iload_n hx hb dX5_canFollow_12 rfl (lv_at hl 2 rfl) ?_
      refine lv_if_lt (tgt := 42) hx hb dX5_canFollow_13 (by decide) (fun hc => ?_) (fun hc => ?_)
      · have q5 : p2.toInt < 0 := z_lt rfl (by decide) hc
        refine lv_iconst (v := 0) hx hb dX5_canFollow_42 (by decide) ?_
        exact W.zret (v := 0) hx hb hr (rfl) (fun t ht hW => ⟨0, rfl, ⟨by first | omega | decide | exact z_lo _, by first | omega | decide | exact z_hi _⟩, ht⟩) (fun _ h => absurd h List.not_mem_nil) dX5_canFollow_43
      · have q6 : 0 ≤ p2.toInt := z_nlt rfl (by decide) hc
        refine lv_iload_n hx hb dX5_canFollow_16 rfl (lv_at hl 2 rfl) ?_
        refine lv_aload_n hx hb dX5_canFollow_17 rfl (lv_at hl 0 rfl) ?_
        refine va_get (D := (dC, dI)) (ci := 5) (v := .int ia0_1) (C := RX5) (T := TX5) (N := 2) hx hb hts in_X5_canFollow_X5 hown hK hP 1 rfl rfl 1 (by decide) (hts (.fieldLink RX5 15 "EachOnHisCue$Net" "lines" "I") (by decide +kernel)) (fun _ h9 => h9) rfl dX5_canFollow_18 ?_
        refine lv_icmp_ge (tgt := 42) hx hb dX5_canFollow_21 (by decide) (fun hc => ?_) (fun hc => ?_)
        · have q7 : ia0_1.toInt ≤ p2.toInt := z_le rfl rfl hc
          refine lv_iconst (v := 0) hx hb dX5_canFollow_42 (by decide) ?_
          exact W.zret (v := 0) hx hb hr (rfl) (fun t ht hW => ⟨0, rfl, ⟨by first | omega | decide | exact z_lo _, by first | omega | decide | exact z_hi _⟩, ht⟩) (fun _ h => absurd h List.not_mem_nil) dX5_canFollow_43
        · have q8 : p2.toInt < ia0_1.toInt := z_nle rfl rfl hc
          refine lv_aload_n hx hb dX5_canFollow_24 rfl (lv_at hl 0 rfl) ?_
          refine va_get (D := (dC, dI)) (ci := 5) (v := .ref ha0_0) (C := RX5) (T := TX5) (N := 2) hx hb hts in_X5_canFollow_X5 hown hK hP 1 rfl rfl 0 (by decide) (hts (.fieldLink RX5 9 "EachOnHisCue$Net" "after" "[I") (by decide +kernel)) (fun _ h9 => h9) rfl dX5_canFollow_25 ?_
          refine lv_iload_n hx hb dX5_canFollow_28 rfl (lv_at hl 1 rfl) ?_
          refine va_iald hx hb hK hP 0 0 rfl rfl (z_in (by omega) (by omega)) dX5_canFollow_29 ?_
          refine lv_topi (fun y9 ey9 => ?_)
          have gy9 : y9.toInt = (fa0_0 (p1 : Int32).toNatClampNeg).toInt := by rw [ey9]
          refine lv_iload_n hx hb dX5_canFollow_30 rfl (lv_at hl 2 rfl) ?_
          refine z_rdi (va_runSN (As := [.int y9, .int p2]) (rest := []) ⟨hx, hb, hml, hown, hts⟩ (rX11_bitAt l dC dI cI cQ y9 p2) ⟨va_cnB (host := "EachOnHisCue") 2 hts gv_X5_canFollow_X11_bitAt_40 rfl rfl rfl (hN.2.2.2.2.2.2.2.2.2.1) (hts (.initialized RX11) (by decide +kernel)) (by decide +kernel) ⟨Nat.le_of_ble_eq_true rfl, Nat.le_of_ble_eq_true rfl⟩, hts (.static yX11_bitAt) (by decide +kernel), trivial⟩ ⟨z_blindR, z_preR hZ hP [] rfl⟩ rfl rfl hl.1 rfl (lv_room (Nat.le_of_ble_eq_true rfl)) dX5_canFollow_31 ⟨Nat.le_of_ble_eq_true rfl, Nat.le_of_ble_eq_true rfl⟩) (fun y10 hy10 => ?_)
          obtain ⟨hy10_0, hy10_1⟩ := hy10
          refine lv_iconst (v := 1) hx hb dX5_canFollow_34 (by decide) ?_
          refine lv_icmp_ne (tgt := 42) hx hb dX5_canFollow_35 (by decide) (fun hc => ?_) (fun hc => ?_)
          · have q11 : y10.toInt ≠ 1 := z_ne rfl (by decide) hc
            refine lv_iconst (v := 0) hx hb dX5_canFollow_42 (by decide) ?_
            exact W.zret (v := 0) hx hb hr (rfl) (fun t ht hW => ⟨0, rfl, ⟨by first | omega | decide | exact z_lo _, by first | omega | decide | exact z_hi _⟩, ht⟩) (fun _ h => absurd h List.not_mem_nil) dX5_canFollow_43
          · have q12 : y10.toInt = 1 := z_eq rfl (by decide) hc
            refine lv_iconst (v := 1) hx hb dX5_canFollow_38 (by decide) ?_
            refine lv_goto (tgt := 43) hx hb dX5_canFollow_39 (by decide) ?_
            exact W.zret (v := 1) hx hb hr (rfl) (fun t ht hW => ⟨1, rfl, ⟨by first | omega | decide | exact z_lo _, by first | omega | decide | exact z_hi _⟩, ht⟩) (fun _ h => absurd h List.not_mem_nil) dX5_canFollow_43
