set_option maxRecDepth 20000 in
theorem edX5_weave_0 : decode cX5_weave 0 = .ok (.aload_n 0, 1) ∧ decode cX5_weave 1 = .ok (.aload_n 1, 1) ∧ decode cX5_weave 2 = .ok (.getfield 19, 3) ∧ decode cX5_weave 5 = .ok (.putfield 15, 3) ∧ decode cX5_weave 8 = .ok (.iconst 0, 1) ∧ decode cX5_weave 9 = .ok (.istore_n 3, 1) ∧ decode cX5_weave 10 = .ok (.iload_n 3, 1) ∧ decode cX5_weave 11 = .ok (.aload_n 0, 1) ∧ decode cX5_weave 12 = .ok (.getfield 15, 3) ∧ decode cX5_weave 15 = .ok (.if_icmp .ge 32, 3) ∧ decode cX5_weave 18 = .ok (.aload_n 0, 1) ∧ decode cX5_weave 19 = .ok (.getfield 9, 3) := by decide +kernel
theorem dX5_weave_0 : decode cX5_weave 0 = .ok (.aload_n 0, 1) := edX5_weave_0.1
theorem dX5_weave_1 : decode cX5_weave 1 = .ok (.aload_n 1, 1) := edX5_weave_0.2.1
theorem dX5_weave_2 : decode cX5_weave 2 = .ok (.getfield 19, 3) := edX5_weave_0.2.2.1
theorem dX5_weave_5 : decode cX5_weave 5 = .ok (.putfield 15, 3) := edX5_weave_0.2.2.2.1
theorem dX5_weave_8 : decode cX5_weave 8 = .ok (.iconst 0, 1) := edX5_weave_0.2.2.2.2.1
theorem dX5_weave_9 : decode cX5_weave 9 = .ok (.istore_n 3, 1) := edX5_weave_0.2.2.2.2.2.1
theorem dX5_weave_10 : decode cX5_weave 10 = .ok (.iload_n 3, 1) := edX5_weave_0.2.2.2.2.2.2.1
theorem dX5_weave_11 : decode cX5_weave 11 = .ok (.aload_n 0, 1) := edX5_weave_0.2.2.2.2.2.2.2.1
theorem dX5_weave_12 : decode cX5_weave 12 = .ok (.getfield 15, 3) := edX5_weave_0.2.2.2.2.2.2.2.2.1
theorem dX5_weave_15 : decode cX5_weave 15 = .ok (.if_icmp .ge 32, 3) := edX5_weave_0.2.2.2.2.2.2.2.2.2.1
theorem dX5_weave_18 : decode cX5_weave 18 = .ok (.aload_n 0, 1) := edX5_weave_0.2.2.2.2.2.2.2.2.2.2.1
theorem dX5_weave_19 : decode cX5_weave 19 = .ok (.getfield 9, 3) := edX5_weave_0.2.2.2.2.2.2.2.2.2.2.2
set_option maxRecDepth 20000 in
theorem edX5_weave_22 : decode cX5_weave 22 = .ok (.iload_n 3, 1) ∧ decode cX5_weave 23 = .ok (.aload_n 1, 1) ∧ decode cX5_weave 24 = .ok (.aload_n 1, 1) ∧ decode cX5_weave 25 = .ok (.getfield 22, 3) ∧ decode cX5_weave 28 = .ok (.iload_n 3, 1) ∧ decode cX5_weave 29 = .ok (.iaload, 1) ∧ decode cX5_weave 30 = .ok (.aload_n 1, 1) ∧ decode cX5_weave 31 = .ok (.getfield 25, 3) ∧ decode cX5_weave 34 = .ok (.iload_n 3, 1) ∧ decode cX5_weave 35 = .ok (.iaload, 1) ∧ decode cX5_weave 36 = .ok (.iload_n 2, 1) ∧ decode cX5_weave 37 = .ok (.invokevirtual 28, 3) := by decide +kernel
theorem dX5_weave_22 : decode cX5_weave 22 = .ok (.iload_n 3, 1) := edX5_weave_22.1
theorem dX5_weave_23 : decode cX5_weave 23 = .ok (.aload_n 1, 1) := edX5_weave_22.2.1
theorem dX5_weave_24 : decode cX5_weave 24 = .ok (.aload_n 1, 1) := edX5_weave_22.2.2.1
theorem dX5_weave_25 : decode cX5_weave 25 = .ok (.getfield 22, 3) := edX5_weave_22.2.2.2.1
theorem dX5_weave_28 : decode cX5_weave 28 = .ok (.iload_n 3, 1) := edX5_weave_22.2.2.2.2.1
theorem dX5_weave_29 : decode cX5_weave 29 = .ok (.iaload, 1) := edX5_weave_22.2.2.2.2.2.1
theorem dX5_weave_30 : decode cX5_weave 30 = .ok (.aload_n 1, 1) := edX5_weave_22.2.2.2.2.2.2.1
theorem dX5_weave_31 : decode cX5_weave 31 = .ok (.getfield 25, 3) := edX5_weave_22.2.2.2.2.2.2.2.1
theorem dX5_weave_34 : decode cX5_weave 34 = .ok (.iload_n 3, 1) := edX5_weave_22.2.2.2.2.2.2.2.2.1
theorem dX5_weave_35 : decode cX5_weave 35 = .ok (.iaload, 1) := edX5_weave_22.2.2.2.2.2.2.2.2.2.1
theorem dX5_weave_36 : decode cX5_weave 36 = .ok (.iload_n 2, 1) := edX5_weave_22.2.2.2.2.2.2.2.2.2.2.1
theorem dX5_weave_37 : decode cX5_weave 37 = .ok (.invokevirtual 28, 3) := edX5_weave_22.2.2.2.2.2.2.2.2.2.2.2
set_option maxRecDepth 20000 in
theorem edX5_weave_40 : decode cX5_weave 40 = .ok (.iastore, 1) ∧ decode cX5_weave 41 = .ok (.iinc 3 1, 3) ∧ decode cX5_weave 44 = .ok (.goto (-34), 3) ∧ decode cX5_weave 47 = .ok (.return_, 1) := by decide +kernel
theorem dX5_weave_40 : decode cX5_weave 40 = .ok (.iastore, 1) := edX5_weave_40.1
theorem dX5_weave_41 : decode cX5_weave 41 = .ok (.iinc 3 1, 3) := edX5_weave_40.2.1
theorem dX5_weave_44 : decode cX5_weave 44 = .ok (.goto (-34), 3) := edX5_weave_40.2.2.1
theorem dX5_weave_47 : decode cX5_weave 47 = .ok (.return_, 1) := edX5_weave_40.2.2.2
noncomputable def voX5_weave : List Cond := [.fieldLink RX5 19 "EachOnHisCue$Play" "lines" "I", .fieldLink RX5 15 "EachOnHisCue$Net" "lines" "I", .fieldLink RX5 9 "EachOnHisCue$Net" "after" "[I", .fieldLink RX5 22 "EachOnHisCue$Play" "texts" "[I", .fieldLink RX5 25 "EachOnHisCue$Play" "sizes" "[I", .methodLink RX5 28 yX7_cuedBy, .instanceMethod yX7_cuedBy, .selects RX7 yX7_cuedBy yX7_cuedBy, .initialized RX7]
noncomputable def vsX5_weave : List Cond := .code yX5_weave cX5_weave 4 none :: (voX5_weave ++ (vsX7_cuedBy ++ (wsX50 ++ (wsX70))))
theorem zgX5_weave : zGd vsX5_weave := z_gdC rfl (z_gdA (z_gdO (by decide +kernel) : zGd voX5_weave) (z_gdA zgX7_cuedBy (z_gdA zgX5 (zgX7))))
theorem in_X5_weave_X5 : ∀ w ∈ wsX50, w ∈ vsX5_weave := fun _ h => List.mem_cons_of_mem _ (List.mem_append_right _ (List.mem_append_right _ (List.mem_append_left _ h)))
theorem in_X5_weave_X7 : ∀ w ∈ wsX70, w ∈ vsX5_weave := fun _ h => List.mem_cons_of_mem _ (List.mem_append_right _ (List.mem_append_right _ (List.mem_append_right _ (h))))
theorem gw_X5_weave_X7_cuedBy : GoodIn vsX5_weave vsX7_cuedBy := z_gdI (fun _ h => List.mem_cons_of_mem _ (List.mem_append_right _ (List.mem_append_left _ h))) zgX7_cuedBy
set_option maxRecDepth 20000 in
theorem gv_X5_weave_X7_cuedBy_28 : GoodIn vsX5_weave (wsV RX5 28 RX7 yX7_cuedBy vsX7_cuedBy) := goodIn_app (goodIn_of _ (by decide +kernel)) gw_X5_weave_X7_cuedBy
set_option maxHeartbeats 4000000 in
set_option maxRecDepth 100000 in
theorem wX5_weave (l : Launch) (dC : Nat → ClassId) (dI : Nat → Nat → Nat) (cI cQ : ClassId) (ha0 ha1 ha0_0 ha1_0 ha1_4 ha1_5 ha1_6 ha1_7 ha1_1 ha1_2 ha1_11 : Nat) (PL : Nat → Nat → Int32 → Prop) (fa0_0 : Nat → Int32) (ia0_1 : Int32) (hia0_1l : 0 ≤ ia0_1.toInt) (hia0_1h : ia0_1.toInt ≤ 12) (ga1_0 : Nat → ZQ) (hPLga1_0 : zHp PL ga1_0) (fa1_4 : Nat → Int32) (fa1_5 : Nat → Int32) (fa1_6 : Nat → Int32) (hBfa1_6 : ∀ k, 0 ≤ (fa1_6 k).toInt ∧ (fa1_6 k).toInt ≤ 4) (fa1_7 : Nat → Int32) (hBfa1_7 : ∀ k, (-48) ≤ (fa1_7 k).toInt ∧ (fa1_7 k).toInt ≤ 207) (ia1_3 : Int32) (hia1_3l : 0 ≤ ia1_3.toInt) (hia1_3h : ia1_3.toInt ≤ 5) (ia1_8 : Int32) (ia1_9 : Int32) (hia1_9l : 0 ≤ ia1_9.toInt) (hia1_9h : ia1_9.toInt ≤ 12) (ia1_10 : Int32) (p2 : Int32) (sz : Nat) : Met l yX5_weave vsX5_weave ({ frames := 4, cells := 0, slots := 0, locals := 91 }) (va_Pc [.ref ha0, .ref ha1, .int p2] (zBP dC dI cI cQ PL [(ha0_0, .inl (cI, 12, .inl fa0_0)), (ha0, .inr (5, [.ref ha0_0, .int ia0_1])), (ha1_0, .inl (cQ, 5, .inr (.inr (.inr (.inr (fun i => (ga1_0 i).1)))))), (ha1_4, .inl (cI, 12, .inl fa1_4)), (ha1_5, .inl (cI, 12, .inl fa1_5)), (ha1_6, .inl (cI, 12, .inl fa1_6)), (ha1_7, .inl (cI, 12, .inl fa1_7)), (ha1, .inr (7, [.ref ha1_0, .ref ha1_1, .ref ha1_2, .int ia1_3, .ref ha1_4, .ref ha1_5, .ref ha1_6, .ref ha1_7, .int ia1_8, .int ia1_9, .int ia1_10, .ref ha1_11]))] sz)) (zWv dC dI (va_A [(ha0_0, .inl (cI, 12, .inl fa0_0)), (ha0, .inr (5, [.ref ha0_0, .int ia0_1])), (ha1_0, .inl (cQ, 5, .inr (.inr (.inr (.inr (fun i => (ga1_0 i).1)))))), (ha1_4, .inl (cI, 12, .inl fa1_4)), (ha1_5, .inl (cI, 12, .inl fa1_5)), (ha1_6, .inl (cI, 12, .inl fa1_6)), (ha1_7, .inl (cI, 12, .inl fa1_7)), (ha1, .inr (7, [.ref ha1_0, .ref ha1_1, .ref ha1_2, .int ia1_3, .ref ha1_4, .ref ha1_5, .ref ha1_6, .ref ha1_7, .int ia1_8, .int ia1_9, .int ia1_10, .ref ha1_11]))] sz) (fun u => [(ha0_0, .inl (cI, 12, .inl (u.2 0))), (ha0, .inr (5, [.ref ha0_0, .int (u.1 0)])), (ha1_0, .inl (cQ, 5, .inr (.inr (.inr (.inr (fun i => (ga1_0 i).1)))))), (ha1_4, .inl (cI, 12, .inl fa1_4)), (ha1_5, .inl (cI, 12, .inl fa1_5)), (ha1_6, .inl (cI, 12, .inl fa1_6)), (ha1_7, .inl (cI, 12, .inl fa1_7)), (ha1, .inr (7, [.ref ha1_0, .ref ha1_1, .ref ha1_2, .int ia1_3, .ref ha1_4, .ref ha1_5, .ref ha1_6, .ref ha1_7, .int ia1_8, .int ia1_9, .int ia1_10, .ref ha1_11]))]) (fun u => (0 ≤ (u.1 0).toInt ∧ (u.1 0).toInt ≤ 12) ∧ (((u.1 0) = ia1_9 ∧ zWe ia1_3.toInt ia1_9.toInt ga1_0 fa1_5 fa1_6 fa1_4 fa1_7 p2 (u.2 0) ia1_9.toInt)))) 0 0 (va_A [(ha0_0, .inl (cI, 12, .inl fa0_0)), (ha0, .inr (5, [.ref ha0_0, .int ia0_1])), (ha1_0, .inl (cQ, 5, .inr (.inr (.inr (.inr (fun i => (ga1_0 i).1)))))), (ha1_4, .inl (cI, 12, .inl fa1_4)), (ha1_5, .inl (cI, 12, .inl fa1_5)), (ha1_6, .inl (cI, 12, .inl fa1_6)), (ha1_7, .inl (cI, 12, .inl fa1_7)), (ha1, .inr (7, [.ref ha1_0, .ref ha1_1, .ref ha1_2, .int ia1_3, .ref ha1_4, .ref ha1_5, .ref ha1_6, .ref ha1_7, .int ia1_8, .int ia1_9, .int ia1_10, .ref ha1_11]))] sz) := by
  refine Met.ofW (cc := cX5_weave) (maxL := 4) (ret := none) (by decide) rfl ?_
  intro p e s m args below meth c s₁ B hml hv
  obtain ⟨rfl, ⟨hsz, hP, hZ, hD0⟩, hPl0, hPlN⟩ := hv
  obtain ⟨hK, hAO, hN⟩ := id hZ
  have hx := B.exec
  have hb := B.bytes
  have hr := B.returns
  have hts := atoms_spec (ws := vsX5_weave) B.pre
  have hown : s.vm.findClass RX5 = some m.cls := findClass_of_methodNamed B.named
  have hlocks := B.notSynchronized
  subst hsz
  have hD := hD0.self (sz := s.heap.size)
  have hPlA := z_plA hPlN
  generalize hAe : va_A [(ha0_0, .inl (cI, 12, .inl fa0_0)), (ha0, .inr (5, [.ref ha0_0, .int ia0_1])), (ha1_0, .inl (cQ, 5, .inr (.inr (.inr (.inr (fun i => (ga1_0 i).1)))))), (ha1_4, .inl (cI, 12, .inl fa1_4)), (ha1_5, .inl (cI, 12, .inl fa1_5)), (ha1_6, .inl (cI, 12, .inl fa1_6)), (ha1_7, .inl (cI, 12, .inl fa1_7)), (ha1, .inr (7, [.ref ha1_0, .ref ha1_1, .ref ha1_2, .int ia1_3, .ref ha1_4, .ref ha1_5, .ref ha1_6, .ref ha1_7, .int ia1_8, .int ia1_9, .int ia1_10, .ref ha1_11]))] s.heap.size = A at hD hPlA ⊢
  have hA : ∀ q : Nat, s.heap.size ≤ q → A q := fun q h => by rw [← hAe]; exact Or.inr h
  have hS : va_S A s.heap s.heap [] := va_S.rf
  have hP : va_P (dC, dI) vwCl [(ha0_0, .inl (cI, 12, .inl fa0_0)), (ha0, .inr (5, [.ref ha0_0, .int ia0_1])), (ha1_0, .inl (cQ, 5, .inr (.inr (.inr (.inr (fun i => (ga1_0 i).1)))))), (ha1_4, .inl (cI, 12, .inl fa1_4)), (ha1_5, .inl (cI, 12, .inl fa1_5)), (ha1_6, .inl (cI, 12, .inl fa1_6)), (ha1_7, .inl (cI, 12, .inl fa1_7)), (ha1, .inr (7, [.ref ha1_0, .ref ha1_1, .ref ha1_2, .int ia1_3, .ref ha1_4, .ref ha1_5, .ref ha1_6, .ref ha1_7, .int ia1_8, .int ia1_9, .int ia1_10, .ref ha1_11]))] s.heap := hP
  have hp2l := z_lo p2
  have hp2h := z_hi p2
  have hl := lv_entry ([.ref ha0, .ref ha1, .int p2]) (n := 4) (Nat.le_of_ble_eq_true rfl)
  rw [lg_entry_eq]
  generalize (lg_sl ([.ref ha0, .ref ha1, .int p2]) ++ List.replicate (4 - (lg_sl ([.ref ha0, .ref ha1, .int p2])).length) Slot.unset).toArray = ls at hl ⊢
  have hl : lv_has ls 4 [(0, .ref ha0), (1, .ref ha1), (2, .int p2)] := hl
  refine lv_aload_n hx hb dX5_weave_0 rfl (lv_at hl 0 rfl) ?_
  refine lv_aload_n hx hb dX5_weave_1 rfl (lv_at hl 1 rfl) ?_
  refine va_get (D := (dC, dI)) (ci := 7) (v := .int ia1_9) (C := RX7) (T := TX7) (N := 12) hx hb hts in_X5_weave_X7 hown hK hP 7 rfl rfl 9 (by decide) (hts (.fieldLink RX5 19 "EachOnHisCue$Play" "lines" "I") (by decide +kernel)) (fun _ h9 => h9) rfl dX5_weave_2 ?_
  refine va_put (D := (dC, dI)) (ci := 5) (v := .int ia1_9) (ty := .int) (C := RX5) (T := TX5) (N := 2) hx hb hts in_X5_weave_X5 tyX5 tyX5_ok nmX5 hown hK hP hD hS 1 rfl rfl 1 (by decide) (hts (.fieldLink RX5 15 "EachOnHisCue$Net" "lines" "I") (by decide +kernel)) (fun _ h9 => h9) rfl (by decide +kernel) rfl rfl (Nat.le_of_ble_eq_true rfl) dX5_weave_5 (fun H locs hP hD hS => ?_)
  have hP : va_P (dC, dI) vwCl [(ha0_0, .inl (cI, 12, .inl fa0_0)), (ha0, .inr (5, [.ref ha0_0, .int ia1_9])), (ha1_0, .inl (cQ, 5, .inr (.inr (.inr (.inr (fun i => (ga1_0 i).1)))))), (ha1_4, .inl (cI, 12, .inl fa1_4)), (ha1_5, .inl (cI, 12, .inl fa1_5)), (ha1_6, .inl (cI, 12, .inl fa1_6)), (ha1_7, .inl (cI, 12, .inl fa1_7)), (ha1, .inr (7, [.ref ha1_0, .ref ha1_1, .ref ha1_2, .int ia1_3, .ref ha1_4, .ref ha1_5, .ref ha1_6, .ref ha1_7, .int ia1_8, .int ia1_9, .int ia1_10, .ref ha1_11]))] H := hP
  have hD : va_D A [(ha0_0, .inl (cI, 12, .inl fa0_0)), (ha0, .inr (5, [.ref ha0_0, .int ia1_9])), (ha1_0, .inl (cQ, 5, .inr (.inr (.inr (.inr (fun i => (ga1_0 i).1)))))), (ha1_4, .inl (cI, 12, .inl fa1_4)), (ha1_5, .inl (cI, 12, .inl fa1_5)), (ha1_6, .inl (cI, 12, .inl fa1_6)), (ha1_7, .inl (cI, 12, .inl fa1_7)), (ha1, .inr (7, [.ref ha1_0, .ref ha1_1, .ref ha1_2, .int ia1_3, .ref ha1_4, .ref ha1_5, .ref ha1_6, .ref ha1_7, .int ia1_8, .int ia1_9, .int ia1_10, .ref ha1_11]))] := hD
  refine lv_iconst (v := 0) hx hb dX5_weave_8 (by decide) ?_
  refine lv_istore_n (lv' := [(3, .int 0), (0, .ref ha0), (1, .ref ha1), (2, .int p2)]) hx hb dX5_weave_9 rfl hl (by decide) rfl (fun ls hl => ?_)
  have hL66 : ∀ (n : Nat) (v1 : Int32) (f9 : Nat → Int32) (H : Heap) (locs : List Loc) (ls : Array Slot), 0 ≤ v1.toInt → v1.toInt ≤ 12 → (zWe ia1_3.toInt ia1_9.toInt ga1_0 fa1_5 fa1_6 fa1_4 fa1_7 p2 f9 (v1 : Int32).toInt) → (12 - v1.toInt).toNat < n → lv_has ls 4 [(3, .int v1), (0, .ref ha0), (1, .ref ha1), (2, .int p2)] → va_P (dC, dI) vwCl [(ha0_0, .inl (cI, 12, .inl f9)), (ha0, .inr (5, [.ref ha0_0, .int ia1_9])), (ha1_0, .inl (cQ, 5, .inr (.inr (.inr (.inr (fun i => (ga1_0 i).1)))))), (ha1_4, .inl (cI, 12, .inl fa1_4)), (ha1_5, .inl (cI, 12, .inl fa1_5)), (ha1_6, .inl (cI, 12, .inl fa1_6)), (ha1_7, .inl (cI, 12, .inl fa1_7)), (ha1, .inr (7, [.ref ha1_0, .ref ha1_1, .ref ha1_2, .int ia1_3, .ref ha1_4, .ref ha1_5, .ref ha1_6, .ref ha1_7, .int ia1_8, .int ia1_9, .int ia1_10, .ref ha1_11]))] H → va_D A [(ha0_0, .inl (cI, 12, .inl f9)), (ha0, .inr (5, [.ref ha0_0, .int ia1_9])), (ha1_0, .inl (cQ, 5, .inr (.inr (.inr (.inr (fun i => (ga1_0 i).1)))))), (ha1_4, .inl (cI, 12, .inl fa1_4)), (ha1_5, .inl (cI, 12, .inl fa1_5)), (ha1_6, .inl (cI, 12, .inl fa1_6)), (ha1_7, .inl (cI, 12, .inl fa1_7)), (ha1, .inr (7, [.ref ha1_0, .ref ha1_1, .ref ha1_2, .int ia1_3, .ref ha1_4, .ref ha1_5, .ref ha1_6, .ref ha1_7, .int ia1_8, .int ia1_9, .int ia1_10, .ref ha1_11]))] → va_S A s.heap H locs → W p l e (headSpec vsX5_weave ({ frames := 4, cells := 0, slots := 0, locals := 91 })).room s m ([.ref ha0, .ref ha1, .int p2] : List Value).toArray below meth c H locs 0 0 (MQ below (zWv dC dI (A) (fun u => [(ha0_0, .inl (cI, 12, .inl (u.2 0))), (ha0, .inr (5, [.ref ha0_0, .int (u.1 0)])), (ha1_0, .inl (cQ, 5, .inr (.inr (.inr (.inr (fun i => (ga1_0 i).1)))))), (ha1_4, .inl (cI, 12, .inl fa1_4)), (ha1_5, .inl (cI, 12, .inl fa1_5)), (ha1_6, .inl (cI, 12, .inl fa1_6)), (ha1_7, .inl (cI, 12, .inl fa1_7)), (ha1, .inr (7, [.ref ha1_0, .ref ha1_1, .ref ha1_2, .int ia1_3, .ref ha1_4, .ref ha1_5, .ref ha1_6, .ref ha1_7, .int ia1_8, .int ia1_9, .int ia1_10, .ref ha1_11]))]) (fun u => (0 ≤ (u.1 0).toInt ∧ (u.1 0).toInt ≤ 12) ∧ (((u.1 0) = ia1_9 ∧ zWe ia1_3.toInt ia1_9.toInt ga1_0 fa1_5 fa1_6 fa1_4 fa1_7 p2 (u.2 0) ia1_9.toInt)))) ([.ref ha0, .ref ha1, .int p2] : List Value).toArray s 0 0 A) (F0 m 10 ls []) := by
    intro n
    induction n with
    | zero =>
      intro v1 f9 H locs ls hi67_0 hi67_1 hi67_x0 hi67_m hl hP hD hS
      exact absurd hi67_m (Nat.not_lt_zero _)
    | succ n ih =>
      intro v1 f9 H locs ls hi67_0 hi67_1 hi67_x0 hi67_m hl hP hD hS
      have ih68 := ih
      refine lv_iload_n hx hb dX5_weave_10 rfl (lv_at hl 0 rfl) ?_
      refine lv_aload_n hx hb dX5_weave_11 rfl (lv_at hl 1 rfl) ?_
      refine va_get (D := (dC, dI)) (ci := 5) (v := .int ia1_9) (C := RX5) (T := TX5) (N := 2) hx hb hts in_X5_weave_X5 hown hK hP 1 rfl rfl 1 (by decide) (hts (.fieldLink RX5 15 "EachOnHisCue$Net" "lines" "I") (by decide +kernel)) (fun _ h9 => h9) rfl dX5_weave_12 ?_
      refine lv_icmp_ge (tgt := 47) hx hb dX5_weave_15 (by decide) (fun hc => ?_) (fun hc => ?_)
      · have q69 : ia1_9.toInt ≤ v1.toInt := z_le rfl rfl hc
        have hP9 := hP.sub (ws' := [(ha0_0, .inl (cI, 12, .inl f9)), (ha0, .inr (5, [.ref ha0_0, .int ia1_9])), (ha1_0, .inl (cQ, 5, .inr (.inr (.inr (.inr (fun i => (ga1_0 i).1)))))), (ha1_4, .inl (cI, 12, .inl fa1_4)), (ha1_5, .inl (cI, 12, .inl fa1_5)), (ha1_6, .inl (cI, 12, .inl fa1_6)), (ha1_7, .inl (cI, 12, .inl fa1_7)), (ha1, .inr (7, [.ref ha1_0, .ref ha1_1, .ref ha1_2, .int ia1_3, .ref ha1_4, .ref ha1_5, .ref ha1_6, .ref ha1_7, .int ia1_8, .int ia1_9, .int ia1_10, .ref ha1_11]))]) [0, 1, 2, 3, 4, 5, 6, 7] rfl
        have hD9 := hD.sub (ws' := [(ha0_0, .inl (cI, 12, .inl f9)), (ha0, .inr (5, [.ref ha0_0, .int ia1_9])), (ha1_0, .inl (cQ, 5, .inr (.inr (.inr (.inr (fun i => (ga1_0 i).1)))))), (ha1_4, .inl (cI, 12, .inl fa1_4)), (ha1_5, .inl (cI, 12, .inl fa1_5)), (ha1_6, .inl (cI, 12, .inl fa1_6)), (ha1_7, .inl (cI, 12, .inl fa1_7)), (ha1, .inr (7, [.ref ha1_0, .ref ha1_1, .ref ha1_2, .int ia1_3, .ref ha1_4, .ref ha1_5, .ref ha1_6, .ref ha1_7, .int ia1_8, .int ia1_9, .int ia1_10, .ref ha1_11]))]) [0, 1, 2, 3, 4, 5, 6, 7] (by decide) rfl
        have hpo : ((ia1_9 : Int32) = ia1_9 ∧ zWe ia1_3.toInt ia1_9.toInt ga1_0 fa1_5 fa1_6 fa1_4 fa1_7 p2 f9 ia1_9.toInt) := by exact ⟨rfl, z_weE (by assumption) (by omega)⟩
        exact W.vret hx hb hr (fun t ht hW => ⟨⟨(fun k => [ia1_9].getD k 0, fun k => [f9].getD k (fun _ => 0)), rfl, (show (0 ≤ (ia1_9 : Int32).toInt ∧ (ia1_9 : Int32).toInt ≤ 12) ∧ (((ia1_9 : Int32) = ia1_9 ∧ zWe ia1_3.toInt ia1_9.toInt ga1_0 fa1_5 fa1_6 fa1_4 fa1_7 p2 f9 ia1_9.toInt)) from ⟨⟨hia1_9l, hia1_9h⟩, hpo⟩), by rw [ht]; exact hP9, hD9⟩, hS.F ht⟩) hS.2.2 dX5_weave_47
      · have q70 : v1.toInt < ia1_9.toInt := z_nle rfl rfl hc
        refine lv_aload_n hx hb dX5_weave_18 rfl (lv_at hl 1 rfl) ?_
        refine va_get (D := (dC, dI)) (ci := 5) (v := .ref ha0_0) (C := RX5) (T := TX5) (N := 2) hx hb hts in_X5_weave_X5 hown hK hP 1 rfl rfl 0 (by decide) (hts (.fieldLink RX5 9 "EachOnHisCue$Net" "after" "[I") (by decide +kernel)) (fun _ h9 => h9) rfl dX5_weave_19 ?_
        refine lv_iload_n hx hb dX5_weave_22 rfl (lv_at hl 0 rfl) ?_
        refine lv_aload_n hx hb dX5_weave_23 rfl (lv_at hl 2 rfl) ?_
        refine lv_aload_n hx hb dX5_weave_24 rfl (lv_at hl 2 rfl) ?_
        refine va_get (D := (dC, dI)) (ci := 7) (v := .ref ha1_5) (C := RX7) (T := TX7) (N := 12) hx hb hts in_X5_weave_X7 hown hK hP 7 rfl rfl 5 (by decide) (hts (.fieldLink RX5 22 "EachOnHisCue$Play" "texts" "[I") (by decide +kernel)) (fun _ h9 => h9) rfl dX5_weave_25 ?_
        refine lv_iload_n hx hb dX5_weave_28 rfl (lv_at hl 0 rfl) ?_
        refine va_iald hx hb hK hP 4 0 rfl rfl (z_in (by omega) (by omega)) dX5_weave_29 ?_
        refine lv_topi (fun y71 ey71 => ?_)
        have gy71 : y71.toInt = (fa1_5 (v1 : Int32).toNatClampNeg).toInt := by rw [ey71]
        refine lv_aload_n hx hb dX5_weave_30 rfl (lv_at hl 2 rfl) ?_
        refine va_get (D := (dC, dI)) (ci := 7) (v := .ref ha1_6) (C := RX7) (T := TX7) (N := 12) hx hb hts in_X5_weave_X7 hown hK hP 7 rfl rfl 6 (by decide) (hts (.fieldLink RX5 25 "EachOnHisCue$Play" "sizes" "[I") (by decide +kernel)) (fun _ h9 => h9) rfl dX5_weave_31 ?_
        refine lv_iload_n hx hb dX5_weave_34 rfl (lv_at hl 0 rfl) ?_
        refine va_iald hx hb hK hP 5 0 rfl rfl (z_in (by omega) (by omega)) dX5_weave_35 ?_
        refine lv_topi (fun y72 ey72 => ?_)
        have gy72 : y72.toInt = (fa1_6 (v1 : Int32).toNatClampNeg).toInt := by rw [ey72]
        have hy72 : 0 ≤ y72.toInt ∧ y72.toInt ≤ 4 := by rw [ey72]; exact hBfa1_6 _
        obtain ⟨hy72, hy72_⟩ := hy72
        refine lv_iload_n hx hb dX5_weave_36 rfl (lv_at hl 3 rfl) ?_
        have hPl := z_plS hPl0 hPlA hS
        refine z_rdi (va_runV (As := [.int y71, .int y72, .int p2]) (rest := [.int v1, .ref ha0_0]) ⟨hx, hb, hml, hown, hts⟩ (rX7_cuedBy l dC dI cI cQ ha1 ha1_0 ha1_4 ha1_5 ha1_6 ha1_7 ha1_1 ha1_2 ha1_11 PL ga1_0 hPLga1_0 fa1_4 fa1_5 fa1_6 hBfa1_6 fa1_7 hBfa1_7 ia1_3 hia1_3l hia1_3h ia1_8 ia1_9 hia1_9l hia1_9h ia1_10 y71 y72 p2) (cwV 3 hts gv_X5_weave_X7_cuedBy_28 rfl rfl rfl (by decide +kernel) ⟨Nat.le_of_ble_eq_true rfl, Nat.le_of_ble_eq_true rfl⟩) ⟨z_blindRP, va_recv hK hP (ci := 7) (q0 := 7) rfl rfl, z_preRP hZ hP hPl [2, 3, 4, 5, 6, 7] rfl⟩ rfl rfl hl.1 rfl (lv_room (Nat.le_of_ble_eq_true rfl)) dX5_weave_37 ⟨Nat.le_of_ble_eq_true rfl, Nat.le_of_ble_eq_true rfl⟩) (fun y73 hy73 => ?_)
        obtain ⟨hy73_0, hy73_1, hy73_2⟩ := hy73
        refine va_iast hx hb hK hP hD hS 0 0 rfl rfl (z_in (by omega) (by omega)) dX5_weave_40 (fun H locs hP hD hS => ?_)
        generalize ef74 : upd f9 (v1 : Int32).toNatClampNeg y73 = f74 at hP hD
        have hP : va_P (dC, dI) vwCl [(ha0_0, .inl (cI, 12, .inl f74)), (ha0, .inr (5, [.ref ha0_0, .int ia1_9])), (ha1_0, .inl (cQ, 5, .inr (.inr (.inr (.inr (fun i => (ga1_0 i).1)))))), (ha1_4, .inl (cI, 12, .inl fa1_4)), (ha1_5, .inl (cI, 12, .inl fa1_5)), (ha1_6, .inl (cI, 12, .inl fa1_6)), (ha1_7, .inl (cI, 12, .inl fa1_7)), (ha1, .inr (7, [.ref ha1_0, .ref ha1_1, .ref ha1_2, .int ia1_3, .ref ha1_4, .ref ha1_5, .ref ha1_6, .ref ha1_7, .int ia1_8, .int ia1_9, .int ia1_10, .ref ha1_11]))] H := hP
        have hD : va_D A [(ha0_0, .inl (cI, 12, .inl f74)), (ha0, .inr (5, [.ref ha0_0, .int ia1_9])), (ha1_0, .inl (cQ, 5, .inr (.inr (.inr (.inr (fun i => (ga1_0 i).1)))))), (ha1_4, .inl (cI, 12, .inl fa1_4)), (ha1_5, .inl (cI, 12, .inl fa1_5)), (ha1_6, .inl (cI, 12, .inl fa1_6)), (ha1_7, .inl (cI, 12, .inl fa1_7)), (ha1, .inr (7, [.ref ha1_0, .ref ha1_1, .ref ha1_2, .int ia1_3, .ref ha1_4, .ref ha1_5, .ref ha1_6, .ref ha1_7, .int ia1_8, .int ia1_9, .int ia1_10, .ref ha1_11]))] := hD
        obtain ⟨y75, ey75⟩ : ∃ y : Int32, y = v1 + 1 := ⟨_, rfl⟩
        refine lv_iinc (v := y75) (lv' := [(3, .int y75), (0, .ref ha0), (1, .ref ha1), (2, .int p2)]) hx hb dX5_weave_41 hl (k := 0) rfl (by rw [ey75]; rfl) (by decide) rfl (fun ls hl => ?_)
        have hy75 : y75.toInt = v1.toInt + 1 := by rw [ey75]; exact z_add rfl (by decide) (by omega) (by omega)
        refine lv_goto (tgt := 10) hx hb dX5_weave_44 (by decide) ?_
        exact ih68 y75 f74 _ _ ls (by first | decide | omega) (by first | decide | omega) (z_weS (by assumption) (by omega) (by omega) (by omega) gy71 gy72 hy73_2 (by assumption)) (by omega) (lv_sub hl [0, 1, 2, 3] rfl) hP hD hS
  exact hL66 ((12 - (0 : Int32).toInt).toNat + 1) 0 fa0_0 _ _ ls (by decide) (by decide) (z_we0 (by decide)) (by omega) hl hP hD hS
set_option maxRecDepth 20000 in
theorem edX5_weaveWithoutSick_0 : decode cX5_weaveWithoutSick 0 = .ok (.aload_n 0, 1) ∧ decode cX5_weaveWithoutSick 1 = .ok (.aload_n 1, 1) ∧ decode cX5_weaveWithoutSick 2 = .ok (.iconst 0, 1) ∧ decode cX5_weaveWithoutSick 3 = .ok (.invokevirtual 32, 3) ∧ decode cX5_weaveWithoutSick 6 = .ok (.aload_n 1, 1) ∧ decode cX5_weaveWithoutSick 7 = .ok (.invokevirtual 36, 3) ∧ decode cX5_weaveWithoutSick 10 = .ok (.iconst (-1), 1) ∧ decode cX5_weaveWithoutSick 11 = .ok (.ixor, 1) ∧ decode cX5_weaveWithoutSick 12 = .ok (.istore_n 2, 1) ∧ decode cX5_weaveWithoutSick 13 = .ok (.iconst 0, 1) ∧ decode cX5_weaveWithoutSick 14 = .ok (.istore_n 3, 1) ∧ decode cX5_weaveWithoutSick 15 = .ok (.iload_n 3, 1) := by decide +kernel
theorem dX5_weaveWithoutSick_0 : decode cX5_weaveWithoutSick 0 = .ok (.aload_n 0, 1) := edX5_weaveWithoutSick_0.1
theorem dX5_weaveWithoutSick_1 : decode cX5_weaveWithoutSick 1 = .ok (.aload_n 1, 1) := edX5_weaveWithoutSick_0.2.1
theorem dX5_weaveWithoutSick_2 : decode cX5_weaveWithoutSick 2 = .ok (.iconst 0, 1) := edX5_weaveWithoutSick_0.2.2.1
theorem dX5_weaveWithoutSick_3 : decode cX5_weaveWithoutSick 3 = .ok (.invokevirtual 32, 3) := edX5_weaveWithoutSick_0.2.2.2.1
theorem dX5_weaveWithoutSick_6 : decode cX5_weaveWithoutSick 6 = .ok (.aload_n 1, 1) := edX5_weaveWithoutSick_0.2.2.2.2.1
theorem dX5_weaveWithoutSick_7 : decode cX5_weaveWithoutSick 7 = .ok (.invokevirtual 36, 3) := edX5_weaveWithoutSick_0.2.2.2.2.2.1
theorem dX5_weaveWithoutSick_10 : decode cX5_weaveWithoutSick 10 = .ok (.iconst (-1), 1) := edX5_weaveWithoutSick_0.2.2.2.2.2.2.1
theorem dX5_weaveWithoutSick_11 : decode cX5_weaveWithoutSick 11 = .ok (.ixor, 1) := edX5_weaveWithoutSick_0.2.2.2.2.2.2.2.1
theorem dX5_weaveWithoutSick_12 : decode cX5_weaveWithoutSick 12 = .ok (.istore_n 2, 1) := edX5_weaveWithoutSick_0.2.2.2.2.2.2.2.2.1
theorem dX5_weaveWithoutSick_13 : decode cX5_weaveWithoutSick 13 = .ok (.iconst 0, 1) := edX5_weaveWithoutSick_0.2.2.2.2.2.2.2.2.2.1
theorem dX5_weaveWithoutSick_14 : decode cX5_weaveWithoutSick 14 = .ok (.istore_n 3, 1) := edX5_weaveWithoutSick_0.2.2.2.2.2.2.2.2.2.2.1
theorem dX5_weaveWithoutSick_15 : decode cX5_weaveWithoutSick 15 = .ok (.iload_n 3, 1) := edX5_weaveWithoutSick_0.2.2.2.2.2.2.2.2.2.2.2
set_option maxRecDepth 20000 in
theorem edX5_weaveWithoutSick_16 : decode cX5_weaveWithoutSick 16 = .ok (.aload_n 0, 1) ∧ decode cX5_weaveWithoutSick 17 = .ok (.getfield 15, 3) ∧ decode cX5_weaveWithoutSick 20 = .ok (.if_icmp .ge 19, 3) ∧ decode cX5_weaveWithoutSick 23 = .ok (.aload_n 0, 1) ∧ decode cX5_weaveWithoutSick 24 = .ok (.getfield 9, 3) ∧ decode cX5_weaveWithoutSick 27 = .ok (.iload_n 3, 1) ∧ decode cX5_weaveWithoutSick 28 = .ok (.dup2, 1) ∧ decode cX5_weaveWithoutSick 29 = .ok (.iaload, 1) ∧ decode cX5_weaveWithoutSick 30 = .ok (.iload_n 2, 1) ∧ decode cX5_weaveWithoutSick 31 = .ok (.iand, 1) ∧ decode cX5_weaveWithoutSick 32 = .ok (.iastore, 1) ∧ decode cX5_weaveWithoutSick 33 = .ok (.iinc 3 1, 3) := by decide +kernel
theorem dX5_weaveWithoutSick_16 : decode cX5_weaveWithoutSick 16 = .ok (.aload_n 0, 1) := edX5_weaveWithoutSick_16.1
theorem dX5_weaveWithoutSick_17 : decode cX5_weaveWithoutSick 17 = .ok (.getfield 15, 3) := edX5_weaveWithoutSick_16.2.1
theorem dX5_weaveWithoutSick_20 : decode cX5_weaveWithoutSick 20 = .ok (.if_icmp .ge 19, 3) := edX5_weaveWithoutSick_16.2.2.1
theorem dX5_weaveWithoutSick_23 : decode cX5_weaveWithoutSick 23 = .ok (.aload_n 0, 1) := edX5_weaveWithoutSick_16.2.2.2.1
theorem dX5_weaveWithoutSick_24 : decode cX5_weaveWithoutSick 24 = .ok (.getfield 9, 3) := edX5_weaveWithoutSick_16.2.2.2.2.1
theorem dX5_weaveWithoutSick_27 : decode cX5_weaveWithoutSick 27 = .ok (.iload_n 3, 1) := edX5_weaveWithoutSick_16.2.2.2.2.2.1
theorem dX5_weaveWithoutSick_28 : decode cX5_weaveWithoutSick 28 = .ok (.dup2, 1) := edX5_weaveWithoutSick_16.2.2.2.2.2.2.1
theorem dX5_weaveWithoutSick_29 : decode cX5_weaveWithoutSick 29 = .ok (.iaload, 1) := edX5_weaveWithoutSick_16.2.2.2.2.2.2.2.1
theorem dX5_weaveWithoutSick_30 : decode cX5_weaveWithoutSick 30 = .ok (.iload_n 2, 1) := edX5_weaveWithoutSick_16.2.2.2.2.2.2.2.2.1
theorem dX5_weaveWithoutSick_31 : decode cX5_weaveWithoutSick 31 = .ok (.iand, 1) := edX5_weaveWithoutSick_16.2.2.2.2.2.2.2.2.2.1
theorem dX5_weaveWithoutSick_32 : decode cX5_weaveWithoutSick 32 = .ok (.iastore, 1) := edX5_weaveWithoutSick_16.2.2.2.2.2.2.2.2.2.2.1
theorem dX5_weaveWithoutSick_33 : decode cX5_weaveWithoutSick 33 = .ok (.iinc 3 1, 3) := edX5_weaveWithoutSick_16.2.2.2.2.2.2.2.2.2.2.2
set_option maxRecDepth 20000 in
theorem edX5_weaveWithoutSick_36 : decode cX5_weaveWithoutSick 36 = .ok (.goto (-21), 3) ∧ decode cX5_weaveWithoutSick 39 = .ok (.return_, 1) := by decide +kernel
theorem dX5_weaveWithoutSick_36 : decode cX5_weaveWithoutSick 36 = .ok (.goto (-21), 3) := edX5_weaveWithoutSick_36.1
theorem dX5_weaveWithoutSick_39 : decode cX5_weaveWithoutSick 39 = .ok (.return_, 1) := edX5_weaveWithoutSick_36.2
noncomputable def voX5_weaveWithoutSick : List Cond := [.fieldLink RX5 15 "EachOnHisCue$Net" "lines" "I", .fieldLink RX5 9 "EachOnHisCue$Net" "after" "[I", .methodLink RX5 32 yX5_weave, .instanceMethod yX5_weave, .selects RX5 yX5_weave yX5_weave, .initialized RX5, .methodLink RX5 36 yX7_linesOfSick, .instanceMethod yX7_linesOfSick, .selects RX7 yX7_linesOfSick yX7_linesOfSick, .initialized RX7]
noncomputable def vsX5_weaveWithoutSick : List Cond := .code yX5_weaveWithoutSick cX5_weaveWithoutSick 4 none :: (voX5_weaveWithoutSick ++ (vsX5_weave ++ (vsX7_linesOfSick ++ (wsX50))))
theorem zgX5_weaveWithoutSick : zGd vsX5_weaveWithoutSick := z_gdC rfl (z_gdA (z_gdO (by decide +kernel) : zGd voX5_weaveWithoutSick) (z_gdA zgX5_weave (z_gdA zgX7_linesOfSick (zgX5))))
theorem in_X5_weaveWithoutSick_X5 : ∀ w ∈ wsX50, w ∈ vsX5_weaveWithoutSick := fun _ h => List.mem_cons_of_mem _ (List.mem_append_right _ (List.mem_append_right _ (List.mem_append_right _ (h))))
theorem gw_X5_weaveWithoutSick_X5_weave : GoodIn vsX5_weaveWithoutSick vsX5_weave := z_gdI (fun _ h => List.mem_cons_of_mem _ (List.mem_append_right _ (List.mem_append_left _ h))) zgX5_weave
set_option maxRecDepth 20000 in
theorem gv_X5_weaveWithoutSick_X5_weave_32 : GoodIn vsX5_weaveWithoutSick (wsV RX5 32 RX5 yX5_weave vsX5_weave) := goodIn_app (goodIn_of _ (by decide +kernel)) gw_X5_weaveWithoutSick_X5_weave
theorem gw_X5_weaveWithoutSick_X7_linesOfSick : GoodIn vsX5_weaveWithoutSick vsX7_linesOfSick := z_gdI (fun _ h => List.mem_cons_of_mem _ (List.mem_append_right _ (List.mem_append_right _ (List.mem_append_left _ h)))) zgX7_linesOfSick
set_option maxRecDepth 20000 in
theorem gv_X5_weaveWithoutSick_X7_linesOfSick_36 : GoodIn vsX5_weaveWithoutSick (wsV RX5 36 RX7 yX7_linesOfSick vsX7_linesOfSick) := goodIn_app (goodIn_of _ (by decide +kernel)) gw_X5_weaveWithoutSick_X7_linesOfSick
set_option maxHeartbeats 4000000 in
set_option maxRecDepth 100000 in
theorem wX5_weaveWithoutSick (l : Launch) (dC : Nat → ClassId) (dI : Nat → Nat → Nat) (cI cQ : ClassId) (ha0 ha1 ha0_0 ha1_0 ha1_2 ha1_4 ha1_5 ha1_6 ha1_7 ha1_1 ha1_11 : Nat) (PL : Nat → Nat → Int32 → Prop) (fa0_0 : Nat → Int32) (ia0_1 : Int32) (hia0_1l : 0 ≤ ia0_1.toInt) (hia0_1h : ia0_1.toInt ≤ 12) (ga1_0 : Nat → ZQ) (hPLga1_0 : zHp PL ga1_0) (fa1_2 : Nat → Int32) (fa1_4 : Nat → Int32) (fa1_5 : Nat → Int32) (fa1_6 : Nat → Int32) (hBfa1_6 : ∀ k, 0 ≤ (fa1_6 k).toInt ∧ (fa1_6 k).toInt ≤ 4) (fa1_7 : Nat → Int32) (hBfa1_7 : ∀ k, (-48) ≤ (fa1_7 k).toInt ∧ (fa1_7 k).toInt ≤ 207) (ia1_3 : Int32) (hia1_3l : 0 ≤ ia1_3.toInt) (hia1_3h : ia1_3.toInt ≤ 5) (ia1_8 : Int32) (ia1_9 : Int32) (hia1_9l : 0 ≤ ia1_9.toInt) (hia1_9h : ia1_9.toInt ≤ 12) (ia1_10 : Int32) (sz : Nat) : Met l yX5_weaveWithoutSick vsX5_weaveWithoutSick ({ frames := 5, cells := 0, slots := 0, locals := 114 }) (va_Pc [.ref ha0, .ref ha1] (zBP dC dI cI cQ PL [(ha0_0, .inl (cI, 12, .inl fa0_0)), (ha0, .inr (5, [.ref ha0_0, .int ia0_1])), (ha1_0, .inl (cQ, 5, .inr (.inr (.inr (.inr (fun i => (ga1_0 i).1)))))), (ha1_2, .inl (cI, 5, .inl fa1_2)), (ha1_4, .inl (cI, 12, .inl fa1_4)), (ha1_5, .inl (cI, 12, .inl fa1_5)), (ha1_6, .inl (cI, 12, .inl fa1_6)), (ha1_7, .inl (cI, 12, .inl fa1_7)), (ha1, .inr (7, [.ref ha1_0, .ref ha1_1, .ref ha1_2, .int ia1_3, .ref ha1_4, .ref ha1_5, .ref ha1_6, .ref ha1_7, .int ia1_8, .int ia1_9, .int ia1_10, .ref ha1_11]))] sz)) (zWv dC dI (va_A [(ha0_0, .inl (cI, 12, .inl fa0_0)), (ha0, .inr (5, [.ref ha0_0, .int ia0_1])), (ha1_0, .inl (cQ, 5, .inr (.inr (.inr (.inr (fun i => (ga1_0 i).1)))))), (ha1_2, .inl (cI, 5, .inl fa1_2)), (ha1_4, .inl (cI, 12, .inl fa1_4)), (ha1_5, .inl (cI, 12, .inl fa1_5)), (ha1_6, .inl (cI, 12, .inl fa1_6)), (ha1_7, .inl (cI, 12, .inl fa1_7)), (ha1, .inr (7, [.ref ha1_0, .ref ha1_1, .ref ha1_2, .int ia1_3, .ref ha1_4, .ref ha1_5, .ref ha1_6, .ref ha1_7, .int ia1_8, .int ia1_9, .int ia1_10, .ref ha1_11]))] sz) (fun u => [(ha0_0, .inl (cI, 12, .inl (u.2 0))), (ha0, .inr (5, [.ref ha0_0, .int (u.1 0)])), (ha1_0, .inl (cQ, 5, .inr (.inr (.inr (.inr (fun i => (ga1_0 i).1)))))), (ha1_2, .inl (cI, 5, .inl fa1_2)), (ha1_4, .inl (cI, 12, .inl fa1_4)), (ha1_5, .inl (cI, 12, .inl fa1_5)), (ha1_6, .inl (cI, 12, .inl fa1_6)), (ha1_7, .inl (cI, 12, .inl fa1_7)), (ha1, .inr (7, [.ref ha1_0, .ref ha1_1, .ref ha1_2, .int ia1_3, .ref ha1_4, .ref ha1_5, .ref ha1_6, .ref ha1_7, .int ia1_8, .int ia1_9, .int ia1_10, .ref ha1_11]))]) (fun u => (0 ≤ (u.1 0).toInt ∧ (u.1 0).toInt ≤ 12) ∧ (((u.1 0) = ia1_9 ∧ zWs ia1_3.toInt ia1_9.toInt ga1_0 fa1_5 fa1_6 fa1_4 fa1_7 fa1_2 (u.2 0) ia1_9.toInt)))) 0 0 (va_A [(ha0_0, .inl (cI, 12, .inl fa0_0)), (ha0, .inr (5, [.ref ha0_0, .int ia0_1])), (ha1_0, .inl (cQ, 5, .inr (.inr (.inr (.inr (fun i => (ga1_0 i).1)))))), (ha1_2, .inl (cI, 5, .inl fa1_2)), (ha1_4, .inl (cI, 12, .inl fa1_4)), (ha1_5, .inl (cI, 12, .inl fa1_5)), (ha1_6, .inl (cI, 12, .inl fa1_6)), (ha1_7, .inl (cI, 12, .inl fa1_7)), (ha1, .inr (7, [.ref ha1_0, .ref ha1_1, .ref ha1_2, .int ia1_3, .ref ha1_4, .ref ha1_5, .ref ha1_6, .ref ha1_7, .int ia1_8, .int ia1_9, .int ia1_10, .ref ha1_11]))] sz) := by
  refine Met.ofW (cc := cX5_weaveWithoutSick) (maxL := 4) (ret := none) (by decide) rfl ?_
  intro p e s m args below meth c s₁ B hml hv
  obtain ⟨rfl, ⟨hsz, hP, hZ, hD0⟩, hPl0, hPlN⟩ := hv
  obtain ⟨hK, hAO, hN⟩ := id hZ
  have hx := B.exec
  have hb := B.bytes
  have hr := B.returns
  have hts := atoms_spec (ws := vsX5_weaveWithoutSick) B.pre
  have hown : s.vm.findClass RX5 = some m.cls := findClass_of_methodNamed B.named
  have hlocks := B.notSynchronized
  subst hsz
  have hD := hD0.self (sz := s.heap.size)
  have hPlA := z_plA hPlN
  generalize hAe : va_A [(ha0_0, .inl (cI, 12, .inl fa0_0)), (ha0, .inr (5, [.ref ha0_0, .int ia0_1])), (ha1_0, .inl (cQ, 5, .inr (.inr (.inr (.inr (fun i => (ga1_0 i).1)))))), (ha1_2, .inl (cI, 5, .inl fa1_2)), (ha1_4, .inl (cI, 12, .inl fa1_4)), (ha1_5, .inl (cI, 12, .inl fa1_5)), (ha1_6, .inl (cI, 12, .inl fa1_6)), (ha1_7, .inl (cI, 12, .inl fa1_7)), (ha1, .inr (7, [.ref ha1_0, .ref ha1_1, .ref ha1_2, .int ia1_3, .ref ha1_4, .ref ha1_5, .ref ha1_6, .ref ha1_7, .int ia1_8, .int ia1_9, .int ia1_10, .ref ha1_11]))] s.heap.size = A at hD hPlA ⊢
  have hA : ∀ q : Nat, s.heap.size ≤ q → A q := fun q h => by rw [← hAe]; exact Or.inr h
  have hS : va_S A s.heap s.heap [] := va_S.rf
  have hP : va_P (dC, dI) vwCl [(ha0_0, .inl (cI, 12, .inl fa0_0)), (ha0, .inr (5, [.ref ha0_0, .int ia0_1])), (ha1_0, .inl (cQ, 5, .inr (.inr (.inr (.inr (fun i => (ga1_0 i).1)))))), (ha1_2, .inl (cI, 5, .inl fa1_2)), (ha1_4, .inl (cI, 12, .inl fa1_4)), (ha1_5, .inl (cI, 12, .inl fa1_5)), (ha1_6, .inl (cI, 12, .inl fa1_6)), (ha1_7, .inl (cI, 12, .inl fa1_7)), (ha1, .inr (7, [.ref ha1_0, .ref ha1_1, .ref ha1_2, .int ia1_3, .ref ha1_4, .ref ha1_5, .ref ha1_6, .ref ha1_7, .int ia1_8, .int ia1_9, .int ia1_10, .ref ha1_11]))] s.heap := hP
  have hl := lv_entry ([.ref ha0, .ref ha1]) (n := 4) (Nat.le_of_ble_eq_true rfl)
  rw [lg_entry_eq]
  generalize (lg_sl ([.ref ha0, .ref ha1]) ++ List.replicate (4 - (lg_sl ([.ref ha0, .ref ha1])).length) Slot.unset).toArray = ls at hl ⊢
  have hl : lv_has ls 4 [(0, .ref ha0), (1, .ref ha1)] := hl
  refine lv_aload_n hx hb dX5_weaveWithoutSick_0 rfl (lv_at hl 0 rfl) ?_
  refine lv_aload_n hx hb dX5_weaveWithoutSick_1 rfl (lv_at hl 1 rfl) ?_
  refine lv_iconst (v := 0) hx hb dX5_weaveWithoutSick_2 (by decide) ?_
  refine z_cwv (wc := [(ha0_0, .inl (cI, 12, .inl fa0_0)), (ha0, .inr (5, [.ref ha0_0, .int ia0_1])), (ha1_0, .inl (cQ, 5, .inr (.inr (.inr (.inr (fun i => (ga1_0 i).1)))))), (ha1_4, .inl (cI, 12, .inl fa1_4)), (ha1_5, .inl (cI, 12, .inl fa1_5)), (ha1_6, .inl (cI, 12, .inl fa1_6)), (ha1_7, .inl (cI, 12, .inl fa1_7)), (ha1, .inr (7, [.ref ha1_0, .ref ha1_1, .ref ha1_2, .int ia1_3, .ref ha1_4, .ref ha1_5, .ref ha1_6, .ref ha1_7, .int ia1_8, .int ia1_9, .int ia1_10, .ref ha1_11]))]) (wr := [(ha1_2, .inl (cI, 5, .inl fa1_2))]) (w1 := fun u2 => [(ha0_0, .inl (cI, 12, .inl (u2.2 0))), (ha0, .inr (5, [.ref ha0_0, .int (u2.1 0)])), (ha1_0, .inl (cQ, 5, .inr (.inr (.inr (.inr (fun i => (ga1_0 i).1)))))), (ha1_4, .inl (cI, 12, .inl fa1_4)), (ha1_5, .inl (cI, 12, .inl fa1_5)), (ha1_6, .inl (cI, 12, .inl fa1_6)), (ha1_7, .inl (cI, 12, .inl fa1_7)), (ha1, .inr (7, [.ref ha1_0, .ref ha1_1, .ref ha1_2, .int ia1_3, .ref ha1_4, .ref ha1_5, .ref ha1_6, .ref ha1_7, .int ia1_8, .int ia1_9, .int ia1_10, .ref ha1_11]))]) (va_runV (As := [.ref ha1, .int 0]) (rest := []) ⟨hx, hb, hml, hown, hts⟩ (wX5_weave l dC dI cI cQ ha0 ha1 ha0_0 ha1_0 ha1_4 ha1_5 ha1_6 ha1_7 ha1_1 ha1_2 ha1_11 PL fa0_0 ia0_1 hia0_1l hia0_1h ga1_0 hPLga1_0 fa1_4 fa1_5 fa1_6 hBfa1_6 fa1_7 hBfa1_7 ia1_3 hia1_3l hia1_3h ia1_8 ia1_9 hia1_9l hia1_9h ia1_10 0 s.heap.size) (cwV 2 hts gv_X5_weaveWithoutSick_X5_weave_32 rfl rfl rfl (by decide +kernel) ⟨Nat.le_of_ble_eq_true rfl, Nat.le_of_ble_eq_true rfl⟩) ⟨z_blindBP, va_recv hK hP (ci := 5) (q0 := 1) rfl rfl, z_preBP hZ hP hD hPl0 hPlA hS [0, 1, 2, 4, 5, 6, 7, 8] rfl (by decide +kernel)⟩ rfl rfl hl.1 rfl (lv_room (Nat.le_of_ble_eq_true rfl)) dX5_weaveWithoutSick_3 ⟨Nat.le_of_ble_eq_true rfl, Nat.le_of_ble_eq_true rfl⟩) hP hD hS hA [0, 1, 2, 4, 5, 6, 7, 8] [3] rfl rfl (by decide +kernel) (by decide +kernel) (fun u2 H locs hpo hP hD hS => ?_)
  generalize hgf3 : u2.2 0 = f3 at hP hD hpo
  generalize hgw4 : u2.1 0 = w4 at hP hD hpo
  have hP : va_P (dC, dI) vwCl [(ha1_2, .inl (cI, 5, .inl fa1_2)), (ha0_0, .inl (cI, 12, .inl f3)), (ha0, .inr (5, [.ref ha0_0, .int w4])), (ha1_0, .inl (cQ, 5, .inr (.inr (.inr (.inr (fun i => (ga1_0 i).1)))))), (ha1_4, .inl (cI, 12, .inl fa1_4)), (ha1_5, .inl (cI, 12, .inl fa1_5)), (ha1_6, .inl (cI, 12, .inl fa1_6)), (ha1_7, .inl (cI, 12, .inl fa1_7)), (ha1, .inr (7, [.ref ha1_0, .ref ha1_1, .ref ha1_2, .int ia1_3, .ref ha1_4, .ref ha1_5, .ref ha1_6, .ref ha1_7, .int ia1_8, .int ia1_9, .int ia1_10, .ref ha1_11]))] H := hP
  have hD : va_D A [(ha1_2, .inl (cI, 5, .inl fa1_2)), (ha0_0, .inl (cI, 12, .inl f3)), (ha0, .inr (5, [.ref ha0_0, .int w4])), (ha1_0, .inl (cQ, 5, .inr (.inr (.inr (.inr (fun i => (ga1_0 i).1)))))), (ha1_4, .inl (cI, 12, .inl fa1_4)), (ha1_5, .inl (cI, 12, .inl fa1_5)), (ha1_6, .inl (cI, 12, .inl fa1_6)), (ha1_7, .inl (cI, 12, .inl fa1_7)), (ha1, .inr (7, [.ref ha1_0, .ref ha1_1, .ref ha1_2, .int ia1_3, .ref ha1_4, .ref ha1_5, .ref ha1_6, .ref ha1_7, .int ia1_8, .int ia1_9, .int ia1_10, .ref ha1_11]))] := hD
  obtain ⟨hw4p, hy1po⟩ := hpo
  obtain ⟨hw4l, hw4h⟩ := hw4p
  obtain ⟨hwl, hwe⟩ := hy1po
  have hwl2 : (w4 : Int32).toInt = ia1_9.toInt := by rw [hwl]
  refine lv_aload_n hx hb dX5_weaveWithoutSick_6 rfl (lv_at hl 1 rfl) ?_
  have hPl := z_plS hPl0 hPlA hS
  refine z_rdi (va_runV (As := []) (rest := []) ⟨hx, hb, hml, hown, hts⟩ (rX7_linesOfSick l dC dI cI cQ ha1 ha1_0 ha1_2 ha1_1 ha1_4 ha1_5 ha1_6 ha1_7 ha1_11 PL ga1_0 hPLga1_0 fa1_2 ia1_3 hia1_3l hia1_3h ia1_8 ia1_9 hia1_9l hia1_9h ia1_10) (cwV 0 hts gv_X5_weaveWithoutSick_X7_linesOfSick_36 rfl rfl rfl (by decide +kernel) ⟨Nat.le_of_ble_eq_true rfl, Nat.le_of_ble_eq_true rfl⟩) ⟨z_blindRP, va_recv hK hP (ci := 7) (q0 := 8) rfl rfl, z_preRP hZ hP hPl [3, 0, 8] rfl⟩ rfl rfl hl.1 rfl (lv_room (Nat.le_of_ble_eq_true rfl)) dX5_weaveWithoutSick_7 ⟨Nat.le_of_ble_eq_true rfl, Nat.le_of_ble_eq_true rfl⟩) (fun y5 hy5 => ?_)
  obtain ⟨hy5_0, hy5_1, hy5_2⟩ := hy5
  refine lv_iconst (v := (-1)) hx hb dX5_weaveWithoutSick_10 (by decide) ?_
  refine lv_ixor hx hb dX5_weaveWithoutSick_11 ?_
  refine lv_topi (fun y6 ey6 => ?_)
  refine lv_istore_n (lv' := [(2, .int y6), (0, .ref ha0), (1, .ref ha1)]) hx hb dX5_weaveWithoutSick_12 rfl hl (by decide) rfl (fun ls hl => ?_)
  refine lv_iconst (v := 0) hx hb dX5_weaveWithoutSick_13 (by decide) ?_
  refine lv_istore_n (lv' := [(3, .int 0), (2, .int y6), (0, .ref ha0), (1, .ref ha1)]) hx hb dX5_weaveWithoutSick_14 rfl hl (by decide) rfl (fun ls hl => ?_)
  have hL63 : ∀ (n : Nat) (v7 : Int32) (f14 : Nat → Int32) (H : Heap) (locs : List Loc) (ls : Array Slot), 0 ≤ v7.toInt → v7.toInt ≤ 12 → (zWsI ia1_3.toInt ia1_9.toInt ga1_0 fa1_5 fa1_6 fa1_4 fa1_7 fa1_2 f14 (v7 : Int32).toInt) → (12 - v7.toInt).toNat < n → lv_has ls 4 [(3, .int v7), (2, .int y6), (0, .ref ha0), (1, .ref ha1)] → va_P (dC, dI) vwCl [(ha1_2, .inl (cI, 5, .inl fa1_2)), (ha0_0, .inl (cI, 12, .inl f14)), (ha0, .inr (5, [.ref ha0_0, .int w4])), (ha1_0, .inl (cQ, 5, .inr (.inr (.inr (.inr (fun i => (ga1_0 i).1)))))), (ha1_4, .inl (cI, 12, .inl fa1_4)), (ha1_5, .inl (cI, 12, .inl fa1_5)), (ha1_6, .inl (cI, 12, .inl fa1_6)), (ha1_7, .inl (cI, 12, .inl fa1_7)), (ha1, .inr (7, [.ref ha1_0, .ref ha1_1, .ref ha1_2, .int ia1_3, .ref ha1_4, .ref ha1_5, .ref ha1_6, .ref ha1_7, .int ia1_8, .int ia1_9, .int ia1_10, .ref ha1_11]))] H → va_D A [(ha1_2, .inl (cI, 5, .inl fa1_2)), (ha0_0, .inl (cI, 12, .inl f14)), (ha0, .inr (5, [.ref ha0_0, .int w4])), (ha1_0, .inl (cQ, 5, .inr (.inr (.inr (.inr (fun i => (ga1_0 i).1)))))), (ha1_4, .inl (cI, 12, .inl fa1_4)), (ha1_5, .inl (cI, 12, .inl fa1_5)), (ha1_6, .inl (cI, 12, .inl fa1_6)), (ha1_7, .inl (cI, 12, .inl fa1_7)), (ha1, .inr (7, [.ref ha1_0, .ref ha1_1, .ref ha1_2, .int ia1_3, .ref ha1_4, .ref ha1_5, .ref ha1_6, .ref ha1_7, .int ia1_8, .int ia1_9, .int ia1_10, .ref ha1_11]))] → va_S A s.heap H locs → W p l e (headSpec vsX5_weaveWithoutSick ({ frames := 5, cells := 0, slots := 0, locals := 114 })).room s m ([.ref ha0, .ref ha1] : List Value).toArray below meth c H locs 0 0 (MQ below (zWv dC dI (A) (fun u => [(ha0_0, .inl (cI, 12, .inl (u.2 0))), (ha0, .inr (5, [.ref ha0_0, .int (u.1 0)])), (ha1_0, .inl (cQ, 5, .inr (.inr (.inr (.inr (fun i => (ga1_0 i).1)))))), (ha1_2, .inl (cI, 5, .inl fa1_2)), (ha1_4, .inl (cI, 12, .inl fa1_4)), (ha1_5, .inl (cI, 12, .inl fa1_5)), (ha1_6, .inl (cI, 12, .inl fa1_6)), (ha1_7, .inl (cI, 12, .inl fa1_7)), (ha1, .inr (7, [.ref ha1_0, .ref ha1_1, .ref ha1_2, .int ia1_3, .ref ha1_4, .ref ha1_5, .ref ha1_6, .ref ha1_7, .int ia1_8, .int ia1_9, .int ia1_10, .ref ha1_11]))]) (fun u => (0 ≤ (u.1 0).toInt ∧ (u.1 0).toInt ≤ 12) ∧ (((u.1 0) = ia1_9 ∧ zWs ia1_3.toInt ia1_9.toInt ga1_0 fa1_5 fa1_6 fa1_4 fa1_7 fa1_2 (u.2 0) ia1_9.toInt)))) ([.ref ha0, .ref ha1] : List Value).toArray s 0 0 A) (F0 m 15 ls []) := by
    intro n
    induction n with
    | zero =>
      intro v7 f14 H locs ls hi64_0 hi64_1 hi64_x0 hi64_m hl hP hD hS
      exact absurd hi64_m (Nat.not_lt_zero _)
    | succ n ih =>
      intro v7 f14 H locs ls hi64_0 hi64_1 hi64_x0 hi64_m hl hP hD hS
      have ih65 := ih
      refine lv_iload_n hx hb dX5_weaveWithoutSick_15 rfl (lv_at hl 0 rfl) ?_
      refine lv_aload_n hx hb dX5_weaveWithoutSick_16 rfl (lv_at hl 2 rfl) ?_
      refine va_get (D := (dC, dI)) (ci := 5) (v := .int w4) (C := RX5) (T := TX5) (N := 2) hx hb hts in_X5_weaveWithoutSick_X5 hown hK hP 2 rfl rfl 1 (by decide) (hts (.fieldLink RX5 15 "EachOnHisCue$Net" "lines" "I") (by decide +kernel)) (fun _ h9 => h9) rfl dX5_weaveWithoutSick_17 ?_
      refine lv_icmp_ge (tgt := 39) hx hb dX5_weaveWithoutSick_20 (by decide) (fun hc => ?_) (fun hc => ?_)
      · have q66 : w4.toInt ≤ v7.toInt := z_le rfl rfl hc
        have hP9 := hP.sub (ws' := [(ha0_0, .inl (cI, 12, .inl f14)), (ha0, .inr (5, [.ref ha0_0, .int w4])), (ha1_0, .inl (cQ, 5, .inr (.inr (.inr (.inr (fun i => (ga1_0 i).1)))))), (ha1_2, .inl (cI, 5, .inl fa1_2)), (ha1_4, .inl (cI, 12, .inl fa1_4)), (ha1_5, .inl (cI, 12, .inl fa1_5)), (ha1_6, .inl (cI, 12, .inl fa1_6)), (ha1_7, .inl (cI, 12, .inl fa1_7)), (ha1, .inr (7, [.ref ha1_0, .ref ha1_1, .ref ha1_2, .int ia1_3, .ref ha1_4, .ref ha1_5, .ref ha1_6, .ref ha1_7, .int ia1_8, .int ia1_9, .int ia1_10, .ref ha1_11]))]) [1, 2, 3, 0, 4, 5, 6, 7, 8] rfl
        have hD9 := hD.sub (ws' := [(ha0_0, .inl (cI, 12, .inl f14)), (ha0, .inr (5, [.ref ha0_0, .int w4])), (ha1_0, .inl (cQ, 5, .inr (.inr (.inr (.inr (fun i => (ga1_0 i).1)))))), (ha1_2, .inl (cI, 5, .inl fa1_2)), (ha1_4, .inl (cI, 12, .inl fa1_4)), (ha1_5, .inl (cI, 12, .inl fa1_5)), (ha1_6, .inl (cI, 12, .inl fa1_6)), (ha1_7, .inl (cI, 12, .inl fa1_7)), (ha1, .inr (7, [.ref ha1_0, .ref ha1_1, .ref ha1_2, .int ia1_3, .ref ha1_4, .ref ha1_5, .ref ha1_6, .ref ha1_7, .int ia1_8, .int ia1_9, .int ia1_10, .ref ha1_11]))]) [1, 2, 3, 0, 4, 5, 6, 7, 8] (by decide) rfl
        have hpo : ((w4 : Int32) = ia1_9 ∧ zWs ia1_3.toInt ia1_9.toInt ga1_0 fa1_5 fa1_6 fa1_4 fa1_7 fa1_2 f14 ia1_9.toInt) := by exact ⟨hwl, z_wsE (by assumption) (by omega)⟩
        exact W.vret hx hb hr (fun t ht hW => ⟨⟨(fun k => [w4].getD k 0, fun k => [f14].getD k (fun _ => 0)), rfl, (show (0 ≤ (w4 : Int32).toInt ∧ (w4 : Int32).toInt ≤ 12) ∧ (((w4 : Int32) = ia1_9 ∧ zWs ia1_3.toInt ia1_9.toInt ga1_0 fa1_5 fa1_6 fa1_4 fa1_7 fa1_2 f14 ia1_9.toInt)) from ⟨⟨hw4l, hw4h⟩, hpo⟩), by rw [ht]; exact hP9, hD9⟩, hS.F ht⟩) hS.2.2 dX5_weaveWithoutSick_39
      · have q67 : v7.toInt < w4.toInt := z_nle rfl rfl hc
        refine lv_aload_n hx hb dX5_weaveWithoutSick_23 rfl (lv_at hl 2 rfl) ?_
        refine va_get (D := (dC, dI)) (ci := 5) (v := .ref ha0_0) (C := RX5) (T := TX5) (N := 2) hx hb hts in_X5_weaveWithoutSick_X5 hown hK hP 2 rfl rfl 0 (by decide) (hts (.fieldLink RX5 9 "EachOnHisCue$Net" "after" "[I") (by decide +kernel)) (fun _ h9 => h9) rfl dX5_weaveWithoutSick_24 ?_
        refine lv_iload_n hx hb dX5_weaveWithoutSick_27 rfl (lv_at hl 0 rfl) ?_
        refine lv_dup2_11 hx hb dX5_weaveWithoutSick_28 rfl rfl ?_
        refine va_iald hx hb hK hP 1 0 rfl rfl (z_in (by omega) (by omega)) dX5_weaveWithoutSick_29 ?_
        refine lv_topi (fun y68 ey68 => ?_)
        have gy68 : y68.toInt = (f14 (v7 : Int32).toNatClampNeg).toInt := by rw [ey68]
        refine lv_iload_n hx hb dX5_weaveWithoutSick_30 rfl (lv_at hl 1 rfl) ?_
        refine lv_iand hx hb dX5_weaveWithoutSick_31 ?_
        refine lv_topi (fun y69 ey69 => ?_)
        refine va_iast hx hb hK hP hD hS 1 0 rfl rfl (z_in (by omega) (by omega)) dX5_weaveWithoutSick_32 (fun H locs hP hD hS => ?_)
        generalize ef70 : upd f14 (v7 : Int32).toNatClampNeg y69 = f70 at hP hD
        have hP : va_P (dC, dI) vwCl [(ha1_2, .inl (cI, 5, .inl fa1_2)), (ha0_0, .inl (cI, 12, .inl f70)), (ha0, .inr (5, [.ref ha0_0, .int w4])), (ha1_0, .inl (cQ, 5, .inr (.inr (.inr (.inr (fun i => (ga1_0 i).1)))))), (ha1_4, .inl (cI, 12, .inl fa1_4)), (ha1_5, .inl (cI, 12, .inl fa1_5)), (ha1_6, .inl (cI, 12, .inl fa1_6)), (ha1_7, .inl (cI, 12, .inl fa1_7)), (ha1, .inr (7, [.ref ha1_0, .ref ha1_1, .ref ha1_2, .int ia1_3, .ref ha1_4, .ref ha1_5, .ref ha1_6, .ref ha1_7, .int ia1_8, .int ia1_9, .int ia1_10, .ref ha1_11]))] H := hP
        have hD : va_D A [(ha1_2, .inl (cI, 5, .inl fa1_2)), (ha0_0, .inl (cI, 12, .inl f70)), (ha0, .inr (5, [.ref ha0_0, .int w4])), (ha1_0, .inl (cQ, 5, .inr (.inr (.inr (.inr (fun i => (ga1_0 i).1)))))), (ha1_4, .inl (cI, 12, .inl fa1_4)), (ha1_5, .inl (cI, 12, .inl fa1_5)), (ha1_6, .inl (cI, 12, .inl fa1_6)), (ha1_7, .inl (cI, 12, .inl fa1_7)), (ha1, .inr (7, [.ref ha1_0, .ref ha1_1, .ref ha1_2, .int ia1_3, .ref ha1_4, .ref ha1_5, .ref ha1_6, .ref ha1_7, .int ia1_8, .int ia1_9, .int ia1_10, .ref ha1_11]))] := hD
        obtain ⟨y71, ey71⟩ : ∃ y : Int32, y = v7 + 1 := ⟨_, rfl⟩
        refine lv_iinc (v := y71) (lv' := [(3, .int y71), (2, .int y6), (0, .ref ha0), (1, .ref ha1)]) hx hb dX5_weaveWithoutSick_33 hl (k := 0) rfl (by rw [ey71]; rfl) (by decide) rfl (fun ls hl => ?_)
        have hy71 : y71.toInt = v7.toInt + 1 := by rw [ey71]; exact z_add rfl (by decide) (by omega) (by omega)
        refine lv_goto (tgt := 15) hx hb dX5_weaveWithoutSick_36 (by decide) ?_
        exact ih65 y71 f70 _ _ ls (by first | decide | omega) (by first | decide | omega) (z_wsIS (by assumption) hy5_2 ey6 (by omega) (by omega) (by omega) ey68 ey69 (by assumption)) (by omega) (lv_sub hl [0, 1, 2, 3] rfl) hP hD hS
  exact hL63 ((12 - (0 : Int32).toInt).toNat + 1) 0 f3 _ _ ls (by decide) (by decide) (z_wsI0 hwe (by decide) (by decide)) (by omega) hl hP hD hS
set_option maxRecDepth 20000 in
theorem edX5_putIn_0 : decode cX5_putIn 0 = .ok (.iload_n 2, 1) ∧ decode cX5_putIn 1 = .ok (.ifCond .lt 44, 3) ∧ decode cX5_putIn 4 = .ok (.iload_n 2, 1) ∧ decode cX5_putIn 5 = .ok (.aload_n 0, 1) ∧ decode cX5_putIn 6 = .ok (.getfield 15, 3) ∧ decode cX5_putIn 9 = .ok (.if_icmp .ge 36, 3) ∧ decode cX5_putIn 12 = .ok (.aload_n 1, 1) ∧ decode cX5_putIn 13 = .ok (.getfield 22, 3) ∧ decode cX5_putIn 16 = .ok (.iload_n 2, 1) ∧ decode cX5_putIn 17 = .ok (.iaload, 1) ∧ decode cX5_putIn 18 = .ok (.iconst 5, 1) ∧ decode cX5_putIn 19 = .ok (.ishl, 1) := by decide +kernel
theorem dX5_putIn_0 : decode cX5_putIn 0 = .ok (.iload_n 2, 1) := edX5_putIn_0.1
theorem dX5_putIn_1 : decode cX5_putIn 1 = .ok (.ifCond .lt 44, 3) := edX5_putIn_0.2.1
theorem dX5_putIn_4 : decode cX5_putIn 4 = .ok (.iload_n 2, 1) := edX5_putIn_0.2.2.1
theorem dX5_putIn_5 : decode cX5_putIn 5 = .ok (.aload_n 0, 1) := edX5_putIn_0.2.2.2.1
theorem dX5_putIn_6 : decode cX5_putIn 6 = .ok (.getfield 15, 3) := edX5_putIn_0.2.2.2.2.1
theorem dX5_putIn_9 : decode cX5_putIn 9 = .ok (.if_icmp .ge 36, 3) := edX5_putIn_0.2.2.2.2.2.1
theorem dX5_putIn_12 : decode cX5_putIn 12 = .ok (.aload_n 1, 1) := edX5_putIn_0.2.2.2.2.2.2.1
theorem dX5_putIn_13 : decode cX5_putIn 13 = .ok (.getfield 22, 3) := edX5_putIn_0.2.2.2.2.2.2.2.1
theorem dX5_putIn_16 : decode cX5_putIn 16 = .ok (.iload_n 2, 1) := edX5_putIn_0.2.2.2.2.2.2.2.2.1
theorem dX5_putIn_17 : decode cX5_putIn 17 = .ok (.iaload, 1) := edX5_putIn_0.2.2.2.2.2.2.2.2.2.1
theorem dX5_putIn_18 : decode cX5_putIn 18 = .ok (.iconst 5, 1) := edX5_putIn_0.2.2.2.2.2.2.2.2.2.2.1
theorem dX5_putIn_19 : decode cX5_putIn 19 = .ok (.ishl, 1) := edX5_putIn_0.2.2.2.2.2.2.2.2.2.2.2
set_option maxRecDepth 20000 in
theorem edX5_putIn_20 : decode cX5_putIn 20 = .ok (.iload_n 3, 1) ∧ decode cX5_putIn 21 = .ok (.ior, 1) ∧ decode cX5_putIn 22 = .ok (.istore 4, 2) ∧ decode cX5_putIn 24 = .ok (.aload_n 0, 1) ∧ decode cX5_putIn 25 = .ok (.getfield 9, 3) ∧ decode cX5_putIn 28 = .ok (.iload_n 2, 1) ∧ decode cX5_putIn 29 = .ok (.aload_n 1, 1) ∧ decode cX5_putIn 30 = .ok (.iload 4, 2) ∧ decode cX5_putIn 32 = .ok (.aload_n 1, 1) ∧ decode cX5_putIn 33 = .ok (.getfield 25, 3) ∧ decode cX5_putIn 36 = .ok (.iload_n 2, 1) ∧ decode cX5_putIn 37 = .ok (.iaload, 1) := by decide +kernel
theorem dX5_putIn_20 : decode cX5_putIn 20 = .ok (.iload_n 3, 1) := edX5_putIn_20.1
theorem dX5_putIn_21 : decode cX5_putIn 21 = .ok (.ior, 1) := edX5_putIn_20.2.1
theorem dX5_putIn_22 : decode cX5_putIn 22 = .ok (.istore 4, 2) := edX5_putIn_20.2.2.1
theorem dX5_putIn_24 : decode cX5_putIn 24 = .ok (.aload_n 0, 1) := edX5_putIn_20.2.2.2.1
theorem dX5_putIn_25 : decode cX5_putIn 25 = .ok (.getfield 9, 3) := edX5_putIn_20.2.2.2.2.1
theorem dX5_putIn_28 : decode cX5_putIn 28 = .ok (.iload_n 2, 1) := edX5_putIn_20.2.2.2.2.2.1
theorem dX5_putIn_29 : decode cX5_putIn 29 = .ok (.aload_n 1, 1) := edX5_putIn_20.2.2.2.2.2.2.1
theorem dX5_putIn_30 : decode cX5_putIn 30 = .ok (.iload 4, 2) := edX5_putIn_20.2.2.2.2.2.2.2.1
theorem dX5_putIn_32 : decode cX5_putIn 32 = .ok (.aload_n 1, 1) := edX5_putIn_20.2.2.2.2.2.2.2.2.1
theorem dX5_putIn_33 : decode cX5_putIn 33 = .ok (.getfield 25, 3) := edX5_putIn_20.2.2.2.2.2.2.2.2.2.1
theorem dX5_putIn_36 : decode cX5_putIn 36 = .ok (.iload_n 2, 1) := edX5_putIn_20.2.2.2.2.2.2.2.2.2.2.1
theorem dX5_putIn_37 : decode cX5_putIn 37 = .ok (.iaload, 1) := edX5_putIn_20.2.2.2.2.2.2.2.2.2.2.2
set_option maxRecDepth 20000 in
theorem edX5_putIn_38 : decode cX5_putIn 38 = .ok (.iconst 1, 1) ∧ decode cX5_putIn 39 = .ok (.iadd, 1) ∧ decode cX5_putIn 40 = .ok (.iconst 0, 1) ∧ decode cX5_putIn 41 = .ok (.invokevirtual 28, 3) ∧ decode cX5_putIn 44 = .ok (.iastore, 1) ∧ decode cX5_putIn 45 = .ok (.return_, 1) := by decide +kernel
theorem dX5_putIn_38 : decode cX5_putIn 38 = .ok (.iconst 1, 1) := edX5_putIn_38.1
theorem dX5_putIn_39 : decode cX5_putIn 39 = .ok (.iadd, 1) := edX5_putIn_38.2.1
theorem dX5_putIn_40 : decode cX5_putIn 40 = .ok (.iconst 0, 1) := edX5_putIn_38.2.2.1
theorem dX5_putIn_41 : decode cX5_putIn 41 = .ok (.invokevirtual 28, 3) := edX5_putIn_38.2.2.2.1
theorem dX5_putIn_44 : decode cX5_putIn 44 = .ok (.iastore, 1) := edX5_putIn_38.2.2.2.2.1
theorem dX5_putIn_45 : decode cX5_putIn 45 = .ok (.return_, 1) := edX5_putIn_38.2.2.2.2.2
noncomputable def voX5_putIn : List Cond := [.fieldLink RX5 15 "EachOnHisCue$Net" "lines" "I", .fieldLink RX5 22 "EachOnHisCue$Play" "texts" "[I", .fieldLink RX5 9 "EachOnHisCue$Net" "after" "[I", .fieldLink RX5 25 "EachOnHisCue$Play" "sizes" "[I", .methodLink RX5 28 yX7_cuedBy, .instanceMethod yX7_cuedBy, .selects RX7 yX7_cuedBy yX7_cuedBy, .initialized RX7]
noncomputable def vsX5_putIn : List Cond := .code yX5_putIn cX5_putIn 5 none :: (voX5_putIn ++ (vsX7_cuedBy ++ (wsX50 ++ (wsX70))))
theorem zgX5_putIn : zGd vsX5_putIn := z_gdC rfl (z_gdA (z_gdO (by decide +kernel) : zGd voX5_putIn) (z_gdA zgX7_cuedBy (z_gdA zgX5 (zgX7))))
theorem in_X5_putIn_X5 : ∀ w ∈ wsX50, w ∈ vsX5_putIn := fun _ h => List.mem_cons_of_mem _ (List.mem_append_right _ (List.mem_append_right _ (List.mem_append_left _ h)))
theorem in_X5_putIn_X7 : ∀ w ∈ wsX70, w ∈ vsX5_putIn := fun _ h => List.mem_cons_of_mem _ (List.mem_append_right _ (List.mem_append_right _ (List.mem_append_right _ (h))))
theorem gw_X5_putIn_X7_cuedBy : GoodIn vsX5_putIn vsX7_cuedBy := z_gdI (fun _ h => List.mem_cons_of_mem _ (List.mem_append_right _ (List.mem_append_left _ h))) zgX7_cuedBy
set_option maxRecDepth 20000 in
theorem gv_X5_putIn_X7_cuedBy_28 : GoodIn vsX5_putIn (wsV RX5 28 RX7 yX7_cuedBy vsX7_cuedBy) := goodIn_app (goodIn_of _ (by decide +kernel)) gw_X5_putIn_X7_cuedBy
set_option maxHeartbeats 4000000 in
set_option maxRecDepth 100000 in
theorem wX5_putIn (l : Launch) (dC : Nat → ClassId) (dI : Nat → Nat → Nat) (cI cQ : ClassId) (ha0 ha1 ha0_0 ha1_0 ha1_4 ha1_5 ha1_6 ha1_7 ha1_1 ha1_2 ha1_11 : Nat) (PL : Nat → Nat → Int32 → Prop) (fa0_0 : Nat → Int32) (ia0_1 : Int32) (hia0_1l : 0 ≤ ia0_1.toInt) (hia0_1h : ia0_1.toInt ≤ 12) (ga1_0 : Nat → ZQ) (hPLga1_0 : zHp PL ga1_0) (fa1_4 : Nat → Int32) (fa1_5 : Nat → Int32) (fa1_6 : Nat → Int32) (hBfa1_6 : ∀ k, 0 ≤ (fa1_6 k).toInt ∧ (fa1_6 k).toInt ≤ 4) (fa1_7 : Nat → Int32) (hBfa1_7 : ∀ k, (-48) ≤ (fa1_7 k).toInt ∧ (fa1_7 k).toInt ≤ 207) (ia1_3 : Int32) (hia1_3l : 0 ≤ ia1_3.toInt) (hia1_3h : ia1_3.toInt ≤ 5) (ia1_8 : Int32) (ia1_9 : Int32) (hia1_9l : 0 ≤ ia1_9.toInt) (hia1_9h : ia1_9.toInt ≤ 12) (ia1_10 : Int32) (p2 : Int32) (p3 : Int32) (sz : Nat) : Met l yX5_putIn vsX5_putIn ({ frames := 4, cells := 0, slots := 0, locals := 91 }) (va_Pc [.ref ha0, .ref ha1, .int p2, .int p3] (zBP dC dI cI cQ PL [(ha0_0, .inl (cI, 12, .inl fa0_0)), (ha0, .inr (5, [.ref ha0_0, .int ia0_1])), (ha1_0, .inl (cQ, 5, .inr (.inr (.inr (.inr (fun i => (ga1_0 i).1)))))), (ha1_4, .inl (cI, 12, .inl fa1_4)), (ha1_5, .inl (cI, 12, .inl fa1_5)), (ha1_6, .inl (cI, 12, .inl fa1_6)), (ha1_7, .inl (cI, 12, .inl fa1_7)), (ha1, .inr (7, [.ref ha1_0, .ref ha1_1, .ref ha1_2, .int ia1_3, .ref ha1_4, .ref ha1_5, .ref ha1_6, .ref ha1_7, .int ia1_8, .int ia1_9, .int ia1_10, .ref ha1_11]))] sz)) (zWv dC dI (va_A [(ha0_0, .inl (cI, 12, .inl fa0_0)), (ha0, .inr (5, [.ref ha0_0, .int ia0_1])), (ha1_0, .inl (cQ, 5, .inr (.inr (.inr (.inr (fun i => (ga1_0 i).1)))))), (ha1_4, .inl (cI, 12, .inl fa1_4)), (ha1_5, .inl (cI, 12, .inl fa1_5)), (ha1_6, .inl (cI, 12, .inl fa1_6)), (ha1_7, .inl (cI, 12, .inl fa1_7)), (ha1, .inr (7, [.ref ha1_0, .ref ha1_1, .ref ha1_2, .int ia1_3, .ref ha1_4, .ref ha1_5, .ref ha1_6, .ref ha1_7, .int ia1_8, .int ia1_9, .int ia1_10, .ref ha1_11]))] sz) (fun u => [(ha0_0, .inl (cI, 12, .inl (u.2 0))), (ha0, .inr (5, [.ref ha0_0, .int ia0_1])), (ha1_0, .inl (cQ, 5, .inr (.inr (.inr (.inr (fun i => (ga1_0 i).1)))))), (ha1_4, .inl (cI, 12, .inl fa1_4)), (ha1_5, .inl (cI, 12, .inl fa1_5)), (ha1_6, .inl (cI, 12, .inl fa1_6)), (ha1_7, .inl (cI, 12, .inl fa1_7)), (ha1, .inr (7, [.ref ha1_0, .ref ha1_1, .ref ha1_2, .int ia1_3, .ref ha1_4, .ref ha1_5, .ref ha1_6, .ref ha1_7, .int ia1_8, .int ia1_9, .int ia1_10, .ref ha1_11]))]) (fun u => True)) 0 0 (va_A [(ha0_0, .inl (cI, 12, .inl fa0_0)), (ha0, .inr (5, [.ref ha0_0, .int ia0_1])), (ha1_0, .inl (cQ, 5, .inr (.inr (.inr (.inr (fun i => (ga1_0 i).1)))))), (ha1_4, .inl (cI, 12, .inl fa1_4)), (ha1_5, .inl (cI, 12, .inl fa1_5)), (ha1_6, .inl (cI, 12, .inl fa1_6)), (ha1_7, .inl (cI, 12, .inl fa1_7)), (ha1, .inr (7, [.ref ha1_0, .ref ha1_1, .ref ha1_2, .int ia1_3, .ref ha1_4, .ref ha1_5, .ref ha1_6, .ref ha1_7, .int ia1_8, .int ia1_9, .int ia1_10, .ref ha1_11]))] sz) := by
  refine Met.ofW (cc := cX5_putIn) (maxL := 5) (ret := none) (by decide) rfl ?_
  intro p e s m args below meth c s₁ B hml hv
  obtain ⟨rfl, ⟨hsz, hP, hZ, hD0⟩, hPl0, hPlN⟩ := hv
  obtain ⟨hK, hAO, hN⟩ := id hZ
  have hx := B.exec
  have hb := B.bytes
  have hr := B.returns
  have hts := atoms_spec (ws := vsX5_putIn) B.pre
  have hown : s.vm.findClass RX5 = some m.cls := findClass_of_methodNamed B.named
  have hlocks := B.notSynchronized
  subst hsz
  have hD := hD0.self (sz := s.heap.size)
  have hPlA := z_plA hPlN
  generalize hAe : va_A [(ha0_0, .inl (cI, 12, .inl fa0_0)), (ha0, .inr (5, [.ref ha0_0, .int ia0_1])), (ha1_0, .inl (cQ, 5, .inr (.inr (.inr (.inr (fun i => (ga1_0 i).1)))))), (ha1_4, .inl (cI, 12, .inl fa1_4)), (ha1_5, .inl (cI, 12, .inl fa1_5)), (ha1_6, .inl (cI, 12, .inl fa1_6)), (ha1_7, .inl (cI, 12, .inl fa1_7)), (ha1, .inr (7, [.ref ha1_0, .ref ha1_1, .ref ha1_2, .int ia1_3, .ref ha1_4, .ref ha1_5, .ref ha1_6, .ref ha1_7, .int ia1_8, .int ia1_9, .int ia1_10, .ref ha1_11]))] s.heap.size = A at hD hPlA ⊢
  have hA : ∀ q : Nat, s.heap.size ≤ q → A q := fun q h => by rw [← hAe]; exact Or.inr h
  have hS : va_S A s.heap s.heap [] := va_S.rf
  have hP : va_P (dC, dI) vwCl [(ha0_0, .inl (cI, 12, .inl fa0_0)), (ha0, .inr (5, [.ref ha0_0, .int ia0_1])), (ha1_0, .inl (cQ, 5, .inr (.inr (.inr (.inr (fun i => (ga1_0 i).1)))))), (ha1_4, .inl (cI, 12, .inl fa1_4)), (ha1_5, .inl (cI, 12, .inl fa1_5)), (ha1_6, .inl (cI, 12, .inl fa1_6)), (ha1_7, .inl (cI, 12, .inl fa1_7)), (ha1, .inr (7, [.ref ha1_0, .ref ha1_1, .ref ha1_2, .int ia1_3, .ref ha1_4, .ref ha1_5, .ref ha1_6, .ref ha1_7, .int ia1_8, .int ia1_9, .int ia1_10, .ref ha1_11]))] s.heap := hP
  have hp2l := z_lo p2
  have hp2h := z_hi p2
  have hp3l := z_lo p3
  have hp3h := z_hi p3
  have hl := lv_entry ([.ref ha0, .ref ha1, .int p2, .int p3]) (n := 5) (Nat.le_of_ble_eq_true rfl)
  rw [lg_entry_eq]
  generalize (lg_sl ([.ref ha0, .ref ha1, .int p2, .int p3]) ++ List.replicate (5 - (lg_sl ([.ref ha0, .ref ha1, .int p2, .int p3])).length) Slot.unset).toArray = ls at hl ⊢
  have hl : lv_has ls 5 [(0, .ref ha0), (1, .ref ha1), (2, .int p2), (3, .int p3)] := hl
  refine lv_iload_n hx hb dX5_putIn_0 rfl (lv_at hl 2 rfl) ?_
  refine lv_if_lt (tgt := 45) hx hb dX5_putIn_1 (by decide) (fun hc => ?_) (fun hc => ?_)
  · have q1 : p2.toInt < 0 := z_lt rfl (by decide) hc
    have hP9 := hP.sub (ws' := [(ha0_0, .inl (cI, 12, .inl fa0_0)), (ha0, .inr (5, [.ref ha0_0, .int ia0_1])), (ha1_0, .inl (cQ, 5, .inr (.inr (.inr (.inr (fun i => (ga1_0 i).1)))))), (ha1_4, .inl (cI, 12, .inl fa1_4)), (ha1_5, .inl (cI, 12, .inl fa1_5)), (ha1_6, .inl (cI, 12, .inl fa1_6)), (ha1_7, .inl (cI, 12, .inl fa1_7)), (ha1, .inr (7, [.ref ha1_0, .ref ha1_1, .ref ha1_2, .int ia1_3, .ref ha1_4, .ref ha1_5, .ref ha1_6, .ref ha1_7, .int ia1_8, .int ia1_9, .int ia1_10, .ref ha1_11]))]) [0, 1, 2, 3, 4, 5, 6, 7] rfl
    have hD9 := hD.sub (ws' := [(ha0_0, .inl (cI, 12, .inl fa0_0)), (ha0, .inr (5, [.ref ha0_0, .int ia0_1])), (ha1_0, .inl (cQ, 5, .inr (.inr (.inr (.inr (fun i => (ga1_0 i).1)))))), (ha1_4, .inl (cI, 12, .inl fa1_4)), (ha1_5, .inl (cI, 12, .inl fa1_5)), (ha1_6, .inl (cI, 12, .inl fa1_6)), (ha1_7, .inl (cI, 12, .inl fa1_7)), (ha1, .inr (7, [.ref ha1_0, .ref ha1_1, .ref ha1_2, .int ia1_3, .ref ha1_4, .ref ha1_5, .ref ha1_6, .ref ha1_7, .int ia1_8, .int ia1_9, .int ia1_10, .ref ha1_11]))]) [0, 1, 2, 3, 4, 5, 6, 7] (by decide) rfl
    exact W.vret hx hb hr (fun t ht hW => ⟨⟨(fun k => [].getD k 0, fun k => [fa0_0].getD k (fun _ => 0)), rfl, (show True from trivial), by rw [ht]; exact hP9, hD9⟩, hS.F ht⟩) hS.2.2 dX5_putIn_45
  · have q2 : 0 ≤ p2.toInt := z_nlt rfl (by decide) hc
    refine lv_iload_n hx hb dX5_putIn_4 rfl (lv_at hl 2 rfl) ?_
    refine lv_aload_n hx hb dX5_putIn_5 rfl (lv_at hl 0 rfl) ?_
    refine va_get (D := (dC, dI)) (ci := 5) (v := .int ia0_1) (C := RX5) (T := TX5) (N := 2) hx hb hts in_X5_putIn_X5 hown hK hP 1 rfl rfl 1 (by decide) (hts (.fieldLink RX5 15 "EachOnHisCue$Net" "lines" "I") (by decide +kernel)) (fun _ h9 => h9) rfl dX5_putIn_6 ?_
    refine lv_icmp_ge (tgt := 45) hx hb dX5_putIn_9 (by decide) (fun hc => ?_) (fun hc => ?_)
    · have q3 : ia0_1.toInt ≤ p2.toInt := z_le rfl rfl hc
      have hP9 := hP.sub (ws' := [(ha0_0, .inl (cI, 12, .inl fa0_0)), (ha0, .inr (5, [.ref ha0_0, .int ia0_1])), (ha1_0, .inl (cQ, 5, .inr (.inr (.inr (.inr (fun i => (ga1_0 i).1)))))), (ha1_4, .inl (cI, 12, .inl fa1_4)), (ha1_5, .inl (cI, 12, .inl fa1_5)), (ha1_6, .inl (cI, 12, .inl fa1_6)), (ha1_7, .inl (cI, 12, .inl fa1_7)), (ha1, .inr (7, [.ref ha1_0, .ref ha1_1, .ref ha1_2, .int ia1_3, .ref ha1_4, .ref ha1_5, .ref ha1_6, .ref ha1_7, .int ia1_8, .int ia1_9, .int ia1_10, .ref ha1_11]))]) [0, 1, 2, 3, 4, 5, 6, 7] rfl
      have hD9 := hD.sub (ws' := [(ha0_0, .inl (cI, 12, .inl fa0_0)), (ha0, .inr (5, [.ref ha0_0, .int ia0_1])), (ha1_0, .inl (cQ, 5, .inr (.inr (.inr (.inr (fun i => (ga1_0 i).1)))))), (ha1_4, .inl (cI, 12, .inl fa1_4)), (ha1_5, .inl (cI, 12, .inl fa1_5)), (ha1_6, .inl (cI, 12, .inl fa1_6)), (ha1_7, .inl (cI, 12, .inl fa1_7)), (ha1, .inr (7, [.ref ha1_0, .ref ha1_1, .ref ha1_2, .int ia1_3, .ref ha1_4, .ref ha1_5, .ref ha1_6, .ref ha1_7, .int ia1_8, .int ia1_9, .int ia1_10, .ref ha1_11]))]) [0, 1, 2, 3, 4, 5, 6, 7] (by decide) rfl
      exact W.vret hx hb hr (fun t ht hW => ⟨⟨(fun k => [].getD k 0, fun k => [fa0_0].getD k (fun _ => 0)), rfl, (show True from trivial), by rw [ht]; exact hP9, hD9⟩, hS.F ht⟩) hS.2.2 dX5_putIn_45
    · have q4 : p2.toInt < ia0_1.toInt := z_nle rfl rfl hc
      refine lv_aload_n hx hb dX5_putIn_12 rfl (lv_at hl 1 rfl) ?_
      refine va_get (D := (dC, dI)) (ci := 7) (v := .ref ha1_5) (C := RX7) (T := TX7) (N := 12) hx hb hts in_X5_putIn_X7 hown hK hP 7 rfl rfl 5 (by decide) (hts (.fieldLink RX5 22 "EachOnHisCue$Play" "texts" "[I") (by decide +kernel)) (fun _ h9 => h9) rfl dX5_putIn_13 ?_
      refine lv_iload_n hx hb dX5_putIn_16 rfl (lv_at hl 2 rfl) ?_
      refine va_iald hx hb hK hP 4 0 rfl rfl (z_in (by omega) (by omega)) dX5_putIn_17 ?_
      refine lv_topi (fun y5 ey5 => ?_)
      have gy5 : y5.toInt = (fa1_5 (p2 : Int32).toNatClampNeg).toInt := by rw [ey5]
      refine lv_iconst (v := 5) hx hb dX5_putIn_18 (by decide) ?_
      refine lv_ishl hx hb dX5_putIn_19 ?_
      refine lv_topi (fun y6 ey6 => ?_)
      refine lv_iload_n hx hb dX5_putIn_20 rfl (lv_at hl 3 rfl) ?_
      refine lv_ior hx hb dX5_putIn_21 ?_
      refine lv_topi (fun y7 ey7 => ?_)
      refine lv_istore (lv' := [(4, .int y7), (0, .ref ha0), (1, .ref ha1), (2, .int p2), (3, .int p3)]) hx hb dX5_putIn_22 hl (by decide) rfl (fun ls hl => ?_)
      refine lv_aload_n hx hb dX5_putIn_24 rfl (lv_at hl 1 rfl) ?_
      refine va_get (D := (dC, dI)) (ci := 5) (v := .ref ha0_0) (C := RX5) (T := TX5) (N := 2) hx hb hts in_X5_putIn_X5 hown hK hP 1 rfl rfl 0 (by decide) (hts (.fieldLink RX5 9 "EachOnHisCue$Net" "after" "[I") (by decide +kernel)) (fun _ h9 => h9) rfl dX5_putIn_25 ?_
      refine lv_iload_n hx hb dX5_putIn_28 rfl (lv_at hl 3 rfl) ?_
      refine lv_aload_n hx hb dX5_putIn_29 rfl (lv_at hl 2 rfl) ?_
      refine lv_iload hx hb dX5_putIn_30 (lv_at hl 0 rfl) ?_
      refine lv_aload_n hx hb dX5_putIn_32 rfl (lv_at hl 2 rfl) ?_
      refine va_get (D := (dC, dI)) (ci := 7) (v := .ref ha1_6) (C := RX7) (T := TX7) (N := 12) hx hb hts in_X5_putIn_X7 hown hK hP 7 rfl rfl 6 (by decide) (hts (.fieldLink RX5 25 "EachOnHisCue$Play" "sizes" "[I") (by decide +kernel)) (fun _ h9 => h9) rfl dX5_putIn_33 ?_
      refine lv_iload_n hx hb dX5_putIn_36 rfl (lv_at hl 3 rfl) ?_
      refine va_iald hx hb hK hP 5 0 rfl rfl (z_in (by omega) (by omega)) dX5_putIn_37 ?_
      refine lv_topi (fun y8 ey8 => ?_)
      have gy8 : y8.toInt = (fa1_6 (p2 : Int32).toNatClampNeg).toInt := by rw [ey8]
      have hy8 : 0 ≤ y8.toInt ∧ y8.toInt ≤ 4 := by rw [ey8]; exact hBfa1_6 _
      obtain ⟨hy8, hy8_⟩ := hy8
      refine lv_iconst (v := 1) hx hb dX5_putIn_38 (by decide) ?_
      refine lv_iadd hx hb dX5_putIn_39 ?_
      refine lv_topi (fun y9 ey9 => ?_)
      have hy9 : y9.toInt = y8.toInt + 1 := by rw [ey9]; exact z_add rfl (by decide) (by omega) (by omega)
      refine lv_iconst (v := 0) hx hb dX5_putIn_40 (by decide) ?_
      have hPl := z_plS hPl0 hPlA hS
      refine z_rdi (va_runV (As := [.int y7, .int y9, .int 0]) (rest := [.int p2, .ref ha0_0]) ⟨hx, hb, hml, hown, hts⟩ (rX7_cuedBy l dC dI cI cQ ha1 ha1_0 ha1_4 ha1_5 ha1_6 ha1_7 ha1_1 ha1_2 ha1_11 PL ga1_0 hPLga1_0 fa1_4 fa1_5 fa1_6 hBfa1_6 fa1_7 hBfa1_7 ia1_3 hia1_3l hia1_3h ia1_8 ia1_9 hia1_9l hia1_9h ia1_10 y7 y9 0) (cwV 3 hts gv_X5_putIn_X7_cuedBy_28 rfl rfl rfl (by decide +kernel) ⟨Nat.le_of_ble_eq_true rfl, Nat.le_of_ble_eq_true rfl⟩) ⟨z_blindRP, va_recv hK hP (ci := 7) (q0 := 7) rfl rfl, z_preRP hZ hP hPl [2, 3, 4, 5, 6, 7] rfl⟩ rfl rfl hl.1 rfl (lv_room (Nat.le_of_ble_eq_true rfl)) dX5_putIn_41 ⟨Nat.le_of_ble_eq_true rfl, Nat.le_of_ble_eq_true rfl⟩) (fun y10 hy10 => ?_)
      obtain ⟨hy10_0, hy10_1, hy10_2⟩ := hy10
      try simp only [show (0 : Int32).toInt = 0 from by decide] at hy10_2
      refine va_iast hx hb hK hP hD hS 0 0 rfl rfl (z_in (by omega) (by omega)) dX5_putIn_44 (fun H locs hP hD hS => ?_)
      generalize ef11 : upd fa0_0 (p2 : Int32).toNatClampNeg y10 = f11 at hP hD
      have hP : va_P (dC, dI) vwCl [(ha0_0, .inl (cI, 12, .inl f11)), (ha0, .inr (5, [.ref ha0_0, .int ia0_1])), (ha1_0, .inl (cQ, 5, .inr (.inr (.inr (.inr (fun i => (ga1_0 i).1)))))), (ha1_4, .inl (cI, 12, .inl fa1_4)), (ha1_5, .inl (cI, 12, .inl fa1_5)), (ha1_6, .inl (cI, 12, .inl fa1_6)), (ha1_7, .inl (cI, 12, .inl fa1_7)), (ha1, .inr (7, [.ref ha1_0, .ref ha1_1, .ref ha1_2, .int ia1_3, .ref ha1_4, .ref ha1_5, .ref ha1_6, .ref ha1_7, .int ia1_8, .int ia1_9, .int ia1_10, .ref ha1_11]))] H := hP
      have hD : va_D A [(ha0_0, .inl (cI, 12, .inl f11)), (ha0, .inr (5, [.ref ha0_0, .int ia0_1])), (ha1_0, .inl (cQ, 5, .inr (.inr (.inr (.inr (fun i => (ga1_0 i).1)))))), (ha1_4, .inl (cI, 12, .inl fa1_4)), (ha1_5, .inl (cI, 12, .inl fa1_5)), (ha1_6, .inl (cI, 12, .inl fa1_6)), (ha1_7, .inl (cI, 12, .inl fa1_7)), (ha1, .inr (7, [.ref ha1_0, .ref ha1_1, .ref ha1_2, .int ia1_3, .ref ha1_4, .ref ha1_5, .ref ha1_6, .ref ha1_7, .int ia1_8, .int ia1_9, .int ia1_10, .ref ha1_11]))] := hD
      have hP9 := hP.sub (ws' := [(ha0_0, .inl (cI, 12, .inl f11)), (ha0, .inr (5, [.ref ha0_0, .int ia0_1])), (ha1_0, .inl (cQ, 5, .inr (.inr (.inr (.inr (fun i => (ga1_0 i).1)))))), (ha1_4, .inl (cI, 12, .inl fa1_4)), (ha1_5, .inl (cI, 12, .inl fa1_5)), (ha1_6, .inl (cI, 12, .inl fa1_6)), (ha1_7, .inl (cI, 12, .inl fa1_7)), (ha1, .inr (7, [.ref ha1_0, .ref ha1_1, .ref ha1_2, .int ia1_3, .ref ha1_4, .ref ha1_5, .ref ha1_6, .ref ha1_7, .int ia1_8, .int ia1_9, .int ia1_10, .ref ha1_11]))]) [0, 1, 2, 3, 4, 5, 6, 7] rfl
      have hD9 := hD.sub (ws' := [(ha0_0, .inl (cI, 12, .inl f11)), (ha0, .inr (5, [.ref ha0_0, .int ia0_1])), (ha1_0, .inl (cQ, 5, .inr (.inr (.inr (.inr (fun i => (ga1_0 i).1)))))), (ha1_4, .inl (cI, 12, .inl fa1_4)), (ha1_5, .inl (cI, 12, .inl fa1_5)), (ha1_6, .inl (cI, 12, .inl fa1_6)), (ha1_7, .inl (cI, 12, .inl fa1_7)), (ha1, .inr (7, [.ref ha1_0, .ref ha1_1, .ref ha1_2, .int ia1_3, .ref ha1_4, .ref ha1_5, .ref ha1_6, .ref ha1_7, .int ia1_8, .int ia1_9, .int ia1_10, .ref ha1_11]))]) [0, 1, 2, 3, 4, 5, 6, 7] (by decide) rfl
      exact W.vret hx hb hr (fun t ht hW => ⟨⟨(fun k => [].getD k 0, fun k => [f11].getD k (fun _ => 0)), rfl, (show True from trivial), by rw [ht]; exact hP9, hD9⟩, hS.F ht⟩) hS.2.2 dX5_putIn_45
set_option maxRecDepth 20000 in
theorem edX7_speak_0 : decode cX7_speak 0 = .ok (.aload_n 0, 1) ∧ decode cX7_speak 1 = .ok (.iload_n 2, 1) ∧ decode cX7_speak 2 = .ok (.invokevirtual 71, 3) ∧ decode cX7_speak 5 = .ok (.ifCond .eq 23, 3) ∧ decode cX7_speak 8 = .ok (.aload_n 1, 1) ∧ decode cX7_speak 9 = .ok (.iload_n 2, 1) ∧ decode cX7_speak 10 = .ok (.aload_n 0, 1) ∧ decode cX7_speak 11 = .ok (.getfield 40, 3) ∧ decode cX7_speak 14 = .ok (.iload_n 2, 1) ∧ decode cX7_speak 15 = .ok (.invokestatic 83, 3) ∧ decode cX7_speak 18 = .ok (.aload_n 0, 1) ∧ decode cX7_speak 19 = .ok (.getfield 28, 3) := by decide +kernel
theorem dX7_speak_0 : decode cX7_speak 0 = .ok (.aload_n 0, 1) := edX7_speak_0.1
theorem dX7_speak_1 : decode cX7_speak 1 = .ok (.iload_n 2, 1) := edX7_speak_0.2.1
theorem dX7_speak_2 : decode cX7_speak 2 = .ok (.invokevirtual 71, 3) := edX7_speak_0.2.2.1
theorem dX7_speak_5 : decode cX7_speak 5 = .ok (.ifCond .eq 23, 3) := edX7_speak_0.2.2.2.1
theorem dX7_speak_8 : decode cX7_speak 8 = .ok (.aload_n 1, 1) := edX7_speak_0.2.2.2.2.1
theorem dX7_speak_9 : decode cX7_speak 9 = .ok (.iload_n 2, 1) := edX7_speak_0.2.2.2.2.2.1
theorem dX7_speak_10 : decode cX7_speak 10 = .ok (.aload_n 0, 1) := edX7_speak_0.2.2.2.2.2.2.1
theorem dX7_speak_11 : decode cX7_speak 11 = .ok (.getfield 40, 3) := edX7_speak_0.2.2.2.2.2.2.2.1
theorem dX7_speak_14 : decode cX7_speak 14 = .ok (.iload_n 2, 1) := edX7_speak_0.2.2.2.2.2.2.2.2.1
theorem dX7_speak_15 : decode cX7_speak 15 = .ok (.invokestatic 83, 3) := edX7_speak_0.2.2.2.2.2.2.2.2.2.1
theorem dX7_speak_18 : decode cX7_speak 18 = .ok (.aload_n 0, 1) := edX7_speak_0.2.2.2.2.2.2.2.2.2.2.1
theorem dX7_speak_19 : decode cX7_speak 19 = .ok (.getfield 28, 3) := edX7_speak_0.2.2.2.2.2.2.2.2.2.2.2
set_option maxRecDepth 20000 in
theorem edX7_speak_22 : decode cX7_speak 22 = .ok (.iload_n 2, 1) ∧ decode cX7_speak 23 = .ok (.iaload, 1) ∧ decode cX7_speak 24 = .ok (.ishl, 1) ∧ decode cX7_speak 25 = .ok (.invokevirtual 87, 3) ∧ decode cX7_speak 28 = .ok (.return_, 1) := by decide +kernel
theorem dX7_speak_22 : decode cX7_speak 22 = .ok (.iload_n 2, 1) := edX7_speak_22.1
theorem dX7_speak_23 : decode cX7_speak 23 = .ok (.iaload, 1) := edX7_speak_22.2.1
theorem dX7_speak_24 : decode cX7_speak 24 = .ok (.ishl, 1) := edX7_speak_22.2.2.1
theorem dX7_speak_25 : decode cX7_speak 25 = .ok (.invokevirtual 87, 3) := edX7_speak_22.2.2.2.1
theorem dX7_speak_28 : decode cX7_speak 28 = .ok (.return_, 1) := edX7_speak_22.2.2.2.2
noncomputable def voX7_speak : List Cond := [.fieldLink RX7 40 "EachOnHisCue$Play" "killing" "I", .initialized RX11, .static yX11_bitAt, .fieldLink RX7 28 "EachOnHisCue$Play" "owners" "[I", .methodLink RX7 71 yX7_hasLine, .instanceMethod yX7_hasLine, .selects RX7 yX7_hasLine yX7_hasLine, .initialized RX7, .methodLink RX7 87 yX9_add, .instanceMethod yX9_add, .selects RX9 yX9_add yX9_add, .initialized RX9]
noncomputable def vsX7_speak : List Cond := .code yX7_speak cX7_speak 3 none :: (voX7_speak ++ (vsX7_hasLine ++ (vsX11_bitAt ++ (vsX9_add ++ (wsX70)))))
theorem zgX7_speak : zGd vsX7_speak := z_gdC rfl (z_gdA (z_gdO (by decide +kernel) : zGd voX7_speak) (z_gdA zgX7_hasLine (z_gdA zgX11_bitAt (z_gdA zgX9_add (zgX7)))))
theorem in_X7_speak_X7 : ∀ w ∈ wsX70, w ∈ vsX7_speak := fun _ h => List.mem_cons_of_mem _ (List.mem_append_right _ (List.mem_append_right _ (List.mem_append_right _ (List.mem_append_right _ (h)))))
theorem gw_X7_speak_X7_hasLine : GoodIn vsX7_speak vsX7_hasLine := z_gdI (fun _ h => List.mem_cons_of_mem _ (List.mem_append_right _ (List.mem_append_left _ h))) zgX7_hasLine
set_option maxRecDepth 20000 in
theorem gv_X7_speak_X7_hasLine_71 : GoodIn vsX7_speak (wsV RX7 71 RX7 yX7_hasLine vsX7_hasLine) := goodIn_app (goodIn_of _ (by decide +kernel)) gw_X7_speak_X7_hasLine
theorem gw_X7_speak_X11_bitAt : GoodIn vsX7_speak vsX11_bitAt := z_gdI (fun _ h => List.mem_cons_of_mem _ (List.mem_append_right _ (List.mem_append_right _ (List.mem_append_left _ h)))) zgX11_bitAt
set_option maxRecDepth 20000 in
theorem gv_X7_speak_X11_bitAt_83 : GoodIn vsX7_speak (vsX11_bitAt) := gw_X7_speak_X11_bitAt
theorem gw_X7_speak_X9_add : GoodIn vsX7_speak vsX9_add := z_gdI (fun _ h => List.mem_cons_of_mem _ (List.mem_append_right _ (List.mem_append_right _ (List.mem_append_right _ (List.mem_append_left _ h))))) zgX9_add
set_option maxRecDepth 20000 in
theorem gv_X7_speak_X9_add_87 : GoodIn vsX7_speak (wsV RX7 87 RX9 yX9_add vsX9_add) := goodIn_app (goodIn_of _ (by decide +kernel)) gw_X7_speak_X9_add
set_option maxHeartbeats 4000000 in
set_option maxRecDepth 100000 in
theorem wX7_speak (l : Launch) (dC : Nat → ClassId) (dI : Nat → Nat → Nat) (cI cQ : ClassId) (ha0 ha1 ha0_4 ha0_0 ha0_1 ha0_2 ha0_5 ha0_6 ha0_7 ha0_11 : Nat) (fa0_4 : Nat → Int32) (ia0_3 : Int32) (hia0_3l : 0 ≤ ia0_3.toInt) (hia0_3h : ia0_3.toInt ≤ 5) (ia0_8 : Int32) (ia0_9 : Int32) (hia0_9l : 0 ≤ ia0_9.toInt) (hia0_9h : ia0_9.toInt ≤ 12) (ia0_10 : Int32) (ia1_0 : Int32) (ia1_1 : Int32) (ia1_2 : Int32) (ia1_3 : Int32) (ia1_4 : Int32) (p2 : Int32) (sz : Nat) : Met l yX7_speak vsX7_speak ({ frames := 1, cells := 0, slots := 0, locals := 22 }) (va_Pc [.ref ha0, .ref ha1, .int p2] (zB dC dI cI cQ [(ha0_4, .inl (cI, 12, .inl fa0_4)), (ha0, .inr (7, [.ref ha0_0, .ref ha0_1, .ref ha0_2, .int ia0_3, .ref ha0_4, .ref ha0_5, .ref ha0_6, .ref ha0_7, .int ia0_8, .int ia0_9, .int ia0_10, .ref ha0_11])), (ha1, .inr (9, [.int ia1_0, .int ia1_1, .int ia1_2, .int ia1_3, .int ia1_4]))] sz)) (zWv dC dI (va_A [(ha0_4, .inl (cI, 12, .inl fa0_4)), (ha0, .inr (7, [.ref ha0_0, .ref ha0_1, .ref ha0_2, .int ia0_3, .ref ha0_4, .ref ha0_5, .ref ha0_6, .ref ha0_7, .int ia0_8, .int ia0_9, .int ia0_10, .ref ha0_11])), (ha1, .inr (9, [.int ia1_0, .int ia1_1, .int ia1_2, .int ia1_3, .int ia1_4]))] sz) (fun u => [(ha0_4, .inl (cI, 12, .inl fa0_4)), (ha0, .inr (7, [.ref ha0_0, .ref ha0_1, .ref ha0_2, .int ia0_3, .ref ha0_4, .ref ha0_5, .ref ha0_6, .ref ha0_7, .int ia0_8, .int ia0_9, .int ia0_10, .ref ha0_11])), (ha1, .inr (9, [.int (u.1 0), .int (u.1 1), .int (u.1 2), .int (u.1 3), .int (u.1 4)]))]) (fun u => ((-2147483648) ≤ (u.1 0).toInt ∧ (u.1 0).toInt ≤ 2147483647) ∧ ((-2147483648) ≤ (u.1 1).toInt ∧ (u.1 1).toInt ≤ 2147483647) ∧ ((-2147483648) ≤ (u.1 2).toInt ∧ (u.1 2).toInt ≤ 2147483647) ∧ ((-2147483648) ≤ (u.1 3).toInt ∧ (u.1 3).toInt ≤ 2147483647) ∧ ((-2147483648) ≤ (u.1 4).toInt ∧ (u.1 4).toInt ≤ 2147483647) ∧ (((0 ≤ p2.toInt → p2.toInt < ia0_9.toInt → 0 ≤ (fa0_4 p2.toNatClampNeg).toInt → (fa0_4 p2.toNatClampNeg).toInt < 5 → zSpk (bt ia0_8 p2.toInt.toNat = true) (fa0_4 p2.toNatClampNeg) ia1_0 ia1_1 ia1_3 p2 (u.1 0) (u.1 1) (u.1 2) (u.1 3)) ∧ (0 ≤ p2.toInt → p2.toInt < ia0_9.toInt → zLq ia1_3 ia1_2 p2 ia1_4 (u.1 4)))))) 0 0 (va_A [(ha0_4, .inl (cI, 12, .inl fa0_4)), (ha0, .inr (7, [.ref ha0_0, .ref ha0_1, .ref ha0_2, .int ia0_3, .ref ha0_4, .ref ha0_5, .ref ha0_6, .ref ha0_7, .int ia0_8, .int ia0_9, .int ia0_10, .ref ha0_11])), (ha1, .inr (9, [.int ia1_0, .int ia1_1, .int ia1_2, .int ia1_3, .int ia1_4]))] sz) := by
  refine Met.ofW (cc := cX7_speak) (maxL := 3) (ret := none) (by decide) rfl ?_
  intro p e s m args below meth c s₁ B hml hv
  obtain ⟨rfl, hsz, hP, hZ, hD0⟩ := hv
  obtain ⟨hK, hAO, hN⟩ := id hZ
  have hx := B.exec
  have hb := B.bytes
  have hr := B.returns
  have hts := atoms_spec (ws := vsX7_speak) B.pre
  have hown : s.vm.findClass RX7 = some m.cls := findClass_of_methodNamed B.named
  have hlocks := B.notSynchronized
  subst hsz
  have hD := hD0.self (sz := s.heap.size)
  generalize hAe : va_A [(ha0_4, .inl (cI, 12, .inl fa0_4)), (ha0, .inr (7, [.ref ha0_0, .ref ha0_1, .ref ha0_2, .int ia0_3, .ref ha0_4, .ref ha0_5, .ref ha0_6, .ref ha0_7, .int ia0_8, .int ia0_9, .int ia0_10, .ref ha0_11])), (ha1, .inr (9, [.int ia1_0, .int ia1_1, .int ia1_2, .int ia1_3, .int ia1_4]))] s.heap.size = A at hD ⊢
  have hA : ∀ q : Nat, s.heap.size ≤ q → A q := fun q h => by rw [← hAe]; exact Or.inr h
  have hS : va_S A s.heap s.heap [] := va_S.rf
  have hP : va_P (dC, dI) vwCl [(ha0_4, .inl (cI, 12, .inl fa0_4)), (ha0, .inr (7, [.ref ha0_0, .ref ha0_1, .ref ha0_2, .int ia0_3, .ref ha0_4, .ref ha0_5, .ref ha0_6, .ref ha0_7, .int ia0_8, .int ia0_9, .int ia0_10, .ref ha0_11])), (ha1, .inr (9, [.int ia1_0, .int ia1_1, .int ia1_2, .int ia1_3, .int ia1_4]))] s.heap := hP
  have hp2l := z_lo p2
  have hp2h := z_hi p2
  have hl := lv_entry ([.ref ha0, .ref ha1, .int p2]) (n := 3) (Nat.le_of_ble_eq_true rfl)
  rw [lg_entry_eq]
  generalize (lg_sl ([.ref ha0, .ref ha1, .int p2]) ++ List.replicate (3 - (lg_sl ([.ref ha0, .ref ha1, .int p2])).length) Slot.unset).toArray = ls at hl ⊢
  have hl : lv_has ls 3 [(0, .ref ha0), (1, .ref ha1), (2, .int p2)] := hl
  refine lv_aload_n hx hb dX7_speak_0 rfl (lv_at hl 0 rfl) ?_
  refine lv_iload_n hx hb dX7_speak_1 rfl (lv_at hl 2 rfl) ?_
  refine z_rdi (va_runV (As := [.int p2]) (rest := []) ⟨hx, hb, hml, hown, hts⟩ (rX7_hasLine l dC dI cI cQ ha0 ha0_0 ha0_1 ha0_2 ha0_4 ha0_5 ha0_6 ha0_7 ha0_11 ia0_3 hia0_3l hia0_3h ia0_8 ia0_9 hia0_9l hia0_9h ia0_10 p2) (cwV 1 hts gv_X7_speak_X7_hasLine_71 rfl rfl rfl (by decide +kernel) ⟨Nat.le_of_ble_eq_true rfl, Nat.le_of_ble_eq_true rfl⟩) ⟨z_blindR, va_recv hK hP (ci := 7) (q0 := 1) rfl rfl, z_preR hZ hP [1] rfl⟩ rfl rfl hl.1 rfl (lv_room (Nat.le_of_ble_eq_true rfl)) dX7_speak_2 ⟨Nat.le_of_ble_eq_true rfl, Nat.le_of_ble_eq_true rfl⟩) (fun y1 hy1 => ?_)
  obtain ⟨hy1_0, hy1_1, hy1_2⟩ := hy1
  refine lv_if_eq (tgt := 28) hx hb dX7_speak_5 (by decide) (fun hc => ?_) (fun hc => ?_)
  · have q2 : y1.toInt = 0 := z_eq rfl (by decide) hc
    have hP9 := hP.sub (ws' := [(ha0_4, .inl (cI, 12, .inl fa0_4)), (ha0, .inr (7, [.ref ha0_0, .ref ha0_1, .ref ha0_2, .int ia0_3, .ref ha0_4, .ref ha0_5, .ref ha0_6, .ref ha0_7, .int ia0_8, .int ia0_9, .int ia0_10, .ref ha0_11])), (ha1, .inr (9, [.int ia1_0, .int ia1_1, .int ia1_2, .int ia1_3, .int ia1_4]))]) [0, 1, 2] rfl
    have hD9 := hD.sub (ws' := [(ha0_4, .inl (cI, 12, .inl fa0_4)), (ha0, .inr (7, [.ref ha0_0, .ref ha0_1, .ref ha0_2, .int ia0_3, .ref ha0_4, .ref ha0_5, .ref ha0_6, .ref ha0_7, .int ia0_8, .int ia0_9, .int ia0_10, .ref ha0_11])), (ha1, .inr (9, [.int ia1_0, .int ia1_1, .int ia1_2, .int ia1_3, .int ia1_4]))]) [0, 1, 2] (by decide) rfl
    have hpo : ((0 ≤ p2.toInt → p2.toInt < ia0_9.toInt → 0 ≤ (fa0_4 p2.toNatClampNeg).toInt → (fa0_4 p2.toNatClampNeg).toInt < 5 → zSpk (bt ia0_8 p2.toInt.toNat = true) (fa0_4 p2.toNatClampNeg) ia1_0 ia1_1 ia1_3 p2 (ia1_0 : Int32) (ia1_1 : Int32) (ia1_2 : Int32) (ia1_3 : Int32)) ∧ (0 ≤ p2.toInt → p2.toInt < ia0_9.toInt → zLq ia1_3 ia1_2 p2 ia1_4 (ia1_4 : Int32))) := by exact ⟨fun h1 h2 => by exfalso; omega, fun h1 h2 => by exfalso; omega⟩
    exact W.vret hx hb hr (fun t ht hW => ⟨⟨(fun k => [ia1_0, ia1_1, ia1_2, ia1_3, ia1_4].getD k 0, fun k => [].getD k (fun _ => 0)), rfl, (show ((-2147483648) ≤ (ia1_0 : Int32).toInt ∧ (ia1_0 : Int32).toInt ≤ 2147483647) ∧ ((-2147483648) ≤ (ia1_1 : Int32).toInt ∧ (ia1_1 : Int32).toInt ≤ 2147483647) ∧ ((-2147483648) ≤ (ia1_2 : Int32).toInt ∧ (ia1_2 : Int32).toInt ≤ 2147483647) ∧ ((-2147483648) ≤ (ia1_3 : Int32).toInt ∧ (ia1_3 : Int32).toInt ≤ 2147483647) ∧ ((-2147483648) ≤ (ia1_4 : Int32).toInt ∧ (ia1_4 : Int32).toInt ≤ 2147483647) ∧ (((0 ≤ p2.toInt → p2.toInt < ia0_9.toInt → 0 ≤ (fa0_4 p2.toNatClampNeg).toInt → (fa0_4 p2.toNatClampNeg).toInt < 5 → zSpk (bt ia0_8 p2.toInt.toNat = true) (fa0_4 p2.toNatClampNeg) ia1_0 ia1_1 ia1_3 p2 (ia1_0 : Int32) (ia1_1 : Int32) (ia1_2 : Int32) (ia1_3 : Int32)) ∧ (0 ≤ p2.toInt → p2.toInt < ia0_9.toInt → zLq ia1_3 ia1_2 p2 ia1_4 (ia1_4 : Int32)))) from ⟨⟨(z_lo _), (z_hi _)⟩, ⟨(z_lo _), (z_hi _)⟩, ⟨(z_lo _), (z_hi _)⟩, ⟨(z_lo _), (z_hi _)⟩, ⟨(z_lo _), (z_hi _)⟩, hpo⟩), by rw [ht]; exact hP9, hD9⟩, hS.F ht⟩) hS.2.2 dX7_speak_28
  · have q3 : y1.toInt ≠ 0 := z_ne rfl (by decide) hc
    refine lv_aload_n hx hb dX7_speak_8 rfl (lv_at hl 1 rfl) ?_
    refine lv_iload_n hx hb dX7_speak_9 rfl (lv_at hl 2 rfl) ?_
    refine lv_aload_n hx hb dX7_speak_10 rfl (lv_at hl 0 rfl) ?_
    refine va_get (D := (dC, dI)) (ci := 7) (v := .int ia0_8) (C := RX7) (T := TX7) (N := 12) hx hb hts in_X7_speak_X7 hown hK hP 1 rfl rfl 8 (by decide) (hts (.fieldLink RX7 40 "EachOnHisCue$Play" "killing" "I") (by decide +kernel)) (fun _ h9 => h9) rfl dX7_speak_11 ?_
    refine lv_iload_n hx hb dX7_speak_14 rfl (lv_at hl 2 rfl) ?_
    refine z_rdi (va_runSN (As := [.int ia0_8, .int p2]) (rest := [.int p2, .ref ha1]) ⟨hx, hb, hml, hown, hts⟩ (rX11_bitAt l dC dI cI cQ ia0_8 p2) ⟨va_cnB (host := "EachOnHisCue") 2 hts gv_X7_speak_X11_bitAt_83 rfl rfl rfl (hN.2.2.2.2.2.2.2.2.2.2.2.2.2.2.2.1) (hts (.initialized RX11) (by decide +kernel)) (by decide +kernel) ⟨Nat.le_of_ble_eq_true rfl, Nat.le_of_ble_eq_true rfl⟩, hts (.static yX11_bitAt) (by decide +kernel), trivial⟩ ⟨z_blindR, z_preR hZ hP [] rfl⟩ rfl rfl hl.1 rfl (lv_room (Nat.le_of_ble_eq_true rfl)) dX7_speak_15 ⟨Nat.le_of_ble_eq_true rfl, Nat.le_of_ble_eq_true rfl⟩) (fun y4 hy4 => ?_)
    obtain ⟨hy4_0, hy4_1, hy4_2⟩ := hy4
    refine lv_aload_n hx hb dX7_speak_18 rfl (lv_at hl 0 rfl) ?_
    refine va_get (D := (dC, dI)) (ci := 7) (v := .ref ha0_4) (C := RX7) (T := TX7) (N := 12) hx hb hts in_X7_speak_X7 hown hK hP 1 rfl rfl 4 (by decide) (hts (.fieldLink RX7 28 "EachOnHisCue$Play" "owners" "[I") (by decide +kernel)) (fun _ h9 => h9) rfl dX7_speak_19 ?_
    refine lv_iload_n hx hb dX7_speak_22 rfl (lv_at hl 2 rfl) ?_
    refine va_iald hx hb hK hP 0 0 rfl rfl (z_in (by omega) (by omega)) dX7_speak_23 ?_
    refine lv_topi (fun y5 ey5 => ?_)
    have gy5 : y5.toInt = (fa0_4 (p2 : Int32).toNatClampNeg).toInt := by rw [ey5]
    refine lv_ishl hx hb dX7_speak_24 ?_
    refine lv_topi (fun y6 ey6 => ?_)
    refine z_cwv (wc := [(ha1, .inr (9, [.int ia1_0, .int ia1_1, .int ia1_2, .int ia1_3, .int ia1_4]))]) (wr := [(ha0_4, .inl (cI, 12, .inl fa0_4)), (ha0, .inr (7, [.ref ha0_0, .ref ha0_1, .ref ha0_2, .int ia0_3, .ref ha0_4, .ref ha0_5, .ref ha0_6, .ref ha0_7, .int ia0_8, .int ia0_9, .int ia0_10, .ref ha0_11]))]) (w1 := fun u8 => [(ha1, .inr (9, [.int (u8.1 0), .int (u8.1 1), .int (u8.1 2), .int (u8.1 3), .int (u8.1 4)]))]) (va_runV (As := [.int p2, .int y6]) (rest := []) ⟨hx, hb, hml, hown, hts⟩ (wX9_add l dC dI cI cQ ha1 ia1_0 ia1_1 ia1_2 ia1_3 ia1_4 p2 y6 s.heap.size) (cwV 2 hts gv_X7_speak_X9_add_87 rfl rfl rfl (by decide +kernel) ⟨Nat.le_of_ble_eq_true rfl, Nat.le_of_ble_eq_true rfl⟩) ⟨z_blind, va_recv hK hP (ci := 9) (q0 := 2) rfl rfl, z_pre hZ hP hD [2] rfl (by decide +kernel)⟩ rfl rfl hl.1 rfl (lv_room (Nat.le_of_ble_eq_true rfl)) dX7_speak_25 ⟨Nat.le_of_ble_eq_true rfl, Nat.le_of_ble_eq_true rfl⟩) hP hD hS hA [2] [0, 1] rfl rfl (by decide +kernel) (by decide +kernel) (fun u8 H locs hpo hP hD hS => ?_)
    generalize hgw9 : u8.1 0 = w9 at hP hD hpo
    generalize hgw10 : u8.1 1 = w10 at hP hD hpo
    generalize hgw11 : u8.1 2 = w11 at hP hD hpo
    generalize hgw12 : u8.1 3 = w12 at hP hD hpo
    generalize hgw13 : u8.1 4 = w13 at hP hD hpo
    have hP : va_P (dC, dI) vwCl [(ha0_4, .inl (cI, 12, .inl fa0_4)), (ha0, .inr (7, [.ref ha0_0, .ref ha0_1, .ref ha0_2, .int ia0_3, .ref ha0_4, .ref ha0_5, .ref ha0_6, .ref ha0_7, .int ia0_8, .int ia0_9, .int ia0_10, .ref ha0_11])), (ha1, .inr (9, [.int w9, .int w10, .int w11, .int w12, .int w13]))] H := hP
    have hD : va_D A [(ha0_4, .inl (cI, 12, .inl fa0_4)), (ha0, .inr (7, [.ref ha0_0, .ref ha0_1, .ref ha0_2, .int ia0_3, .ref ha0_4, .ref ha0_5, .ref ha0_6, .ref ha0_7, .int ia0_8, .int ia0_9, .int ia0_10, .ref ha0_11])), (ha1, .inr (9, [.int w9, .int w10, .int w11, .int w12, .int w13]))] := hD
    obtain ⟨hw9p, hw10p, hw11p, hw12p, hw13p, hy7po⟩ := hpo
    obtain ⟨hw9l, hw9h⟩ := hw9p
    obtain ⟨hw10l, hw10h⟩ := hw10p
    obtain ⟨hw11l, hw11h⟩ := hw11p
    obtain ⟨hw12l, hw12h⟩ := hw12p
    obtain ⟨hw13l, hw13h⟩ := hw13p
    have hP9 := hP.sub (ws' := [(ha0_4, .inl (cI, 12, .inl fa0_4)), (ha0, .inr (7, [.ref ha0_0, .ref ha0_1, .ref ha0_2, .int ia0_3, .ref ha0_4, .ref ha0_5, .ref ha0_6, .ref ha0_7, .int ia0_8, .int ia0_9, .int ia0_10, .ref ha0_11])), (ha1, .inr (9, [.int w9, .int w10, .int w11, .int w12, .int w13]))]) [0, 1, 2] rfl
    have hD9 := hD.sub (ws' := [(ha0_4, .inl (cI, 12, .inl fa0_4)), (ha0, .inr (7, [.ref ha0_0, .ref ha0_1, .ref ha0_2, .int ia0_3, .ref ha0_4, .ref ha0_5, .ref ha0_6, .ref ha0_7, .int ia0_8, .int ia0_9, .int ia0_10, .ref ha0_11])), (ha1, .inr (9, [.int w9, .int w10, .int w11, .int w12, .int w13]))]) [0, 1, 2] (by decide) rfl
    have hpo : ((0 ≤ p2.toInt → p2.toInt < ia0_9.toInt → 0 ≤ (fa0_4 p2.toNatClampNeg).toInt → (fa0_4 p2.toNatClampNeg).toInt < 5 → zSpk (bt ia0_8 p2.toInt.toNat = true) (fa0_4 p2.toNatClampNeg) ia1_0 ia1_1 ia1_3 p2 (w9 : Int32) (w10 : Int32) (w11 : Int32) (w12 : Int32)) ∧ (0 ≤ p2.toInt → p2.toInt < ia0_9.toInt → zLq ia1_3 ia1_2 p2 ia1_4 (w13 : Int32))) := by exact ⟨fun h1 h2 h3 h4 => by rw [← ey5] at h3 h4 ⊢; exact z_spkC (hy4_2 (by omega) (by omega)) ey6 h3 (by omega) hy7po.1, fun h1 h2 => hy7po.2⟩
    exact W.vret hx hb hr (fun t ht hW => ⟨⟨(fun k => [w9, w10, w11, w12, w13].getD k 0, fun k => [].getD k (fun _ => 0)), rfl, (show ((-2147483648) ≤ (w9 : Int32).toInt ∧ (w9 : Int32).toInt ≤ 2147483647) ∧ ((-2147483648) ≤ (w10 : Int32).toInt ∧ (w10 : Int32).toInt ≤ 2147483647) ∧ ((-2147483648) ≤ (w11 : Int32).toInt ∧ (w11 : Int32).toInt ≤ 2147483647) ∧ ((-2147483648) ≤ (w12 : Int32).toInt ∧ (w12 : Int32).toInt ≤ 2147483647) ∧ ((-2147483648) ≤ (w13 : Int32).toInt ∧ (w13 : Int32).toInt ≤ 2147483647) ∧ (((0 ≤ p2.toInt → p2.toInt < ia0_9.toInt → 0 ≤ (fa0_4 p2.toNatClampNeg).toInt → (fa0_4 p2.toNatClampNeg).toInt < 5 → zSpk (bt ia0_8 p2.toInt.toNat = true) (fa0_4 p2.toNatClampNeg) ia1_0 ia1_1 ia1_3 p2 (w9 : Int32) (w10 : Int32) (w11 : Int32) (w12 : Int32)) ∧ (0 ≤ p2.toInt → p2.toInt < ia0_9.toInt → zLq ia1_3 ia1_2 p2 ia1_4 (w13 : Int32)))) from ⟨⟨hw9l, hw9h⟩, ⟨hw10l, hw10h⟩, ⟨hw11l, hw11h⟩, ⟨hw12l, hw12h⟩, ⟨hw13l, hw13h⟩, hpo⟩), by rw [ht]; exact hP9, hD9⟩, hS.F ht⟩) hS.2.2 dX7_speak_28
set_option maxRecDepth 20000 in
theorem edX2_go_0 : decode cX2_go 0 = .ok (.aload_n 0, 1) ∧ decode cX2_go 1 = .ok (.getfield 21, 3) ∧ decode cX2_go 4 = .ok (.invokevirtual 70, 3) ∧ decode cX2_go 7 = .ok (.iconst 0, 1) ∧ decode cX2_go 8 = .ok (.istore 4, 2) ∧ decode cX2_go 10 = .ok (.iload 4, 2) ∧ decode cX2_go 12 = .ok (.iload_n 3, 1) ∧ decode cX2_go 13 = .ok (.if_icmp .ge 46, 3) ∧ decode cX2_go 16 = .ok (.aload_n 0, 1) ∧ decode cX2_go 17 = .ok (.aload_n 1, 1) ∧ decode cX2_go 18 = .ok (.aload_n 0, 1) ∧ decode cX2_go 19 = .ok (.getfield 21, 3) := by decide +kernel
theorem dX2_go_0 : decode cX2_go 0 = .ok (.aload_n 0, 1) := edX2_go_0.1
theorem dX2_go_1 : decode cX2_go 1 = .ok (.getfield 21, 3) := edX2_go_0.2.1
theorem dX2_go_4 : decode cX2_go 4 = .ok (.invokevirtual 70, 3) := edX2_go_0.2.2.1
theorem dX2_go_7 : decode cX2_go 7 = .ok (.iconst 0, 1) := edX2_go_0.2.2.2.1
theorem dX2_go_8 : decode cX2_go 8 = .ok (.istore 4, 2) := edX2_go_0.2.2.2.2.1
theorem dX2_go_10 : decode cX2_go 10 = .ok (.iload 4, 2) := edX2_go_0.2.2.2.2.2.1
theorem dX2_go_12 : decode cX2_go 12 = .ok (.iload_n 3, 1) := edX2_go_0.2.2.2.2.2.2.1
theorem dX2_go_13 : decode cX2_go 13 = .ok (.if_icmp .ge 46, 3) := edX2_go_0.2.2.2.2.2.2.2.1
theorem dX2_go_16 : decode cX2_go 16 = .ok (.aload_n 0, 1) := edX2_go_0.2.2.2.2.2.2.2.2.1
theorem dX2_go_17 : decode cX2_go 17 = .ok (.aload_n 1, 1) := edX2_go_0.2.2.2.2.2.2.2.2.2.1
theorem dX2_go_18 : decode cX2_go 18 = .ok (.aload_n 0, 1) := edX2_go_0.2.2.2.2.2.2.2.2.2.2.1
theorem dX2_go_19 : decode cX2_go 19 = .ok (.getfield 21, 3) := edX2_go_0.2.2.2.2.2.2.2.2.2.2.2
set_option maxRecDepth 20000 in
theorem edX2_go_22 : decode cX2_go 22 = .ok (.iload_n 2, 1) ∧ decode cX2_go 23 = .ok (.invokevirtual 73, 3) ∧ decode cX2_go 26 = .ok (.istore 5, 2) ∧ decode cX2_go 28 = .ok (.iload 5, 2) ∧ decode cX2_go 30 = .ok (.bipush (-9), 2) ∧ decode cX2_go 32 = .ok (.if_icmp .ne 11, 3) ∧ decode cX2_go 35 = .ok (.aload_n 0, 1) ∧ decode cX2_go 36 = .ok (.getfield 21, 3) ∧ decode cX2_go 39 = .ok (.getfield 56, 3) ∧ decode cX2_go 42 = .ok (.ireturn, 1) ∧ decode cX2_go 43 = .ok (.aload_n 1, 1) ∧ decode cX2_go 44 = .ok (.aload_n 0, 1) := by decide +kernel
theorem dX2_go_22 : decode cX2_go 22 = .ok (.iload_n 2, 1) := edX2_go_22.1
theorem dX2_go_23 : decode cX2_go 23 = .ok (.invokevirtual 73, 3) := edX2_go_22.2.1
theorem dX2_go_26 : decode cX2_go 26 = .ok (.istore 5, 2) := edX2_go_22.2.2.1
theorem dX2_go_28 : decode cX2_go 28 = .ok (.iload 5, 2) := edX2_go_22.2.2.2.1
theorem dX2_go_30 : decode cX2_go 30 = .ok (.bipush (-9), 2) := edX2_go_22.2.2.2.2.1
theorem dX2_go_32 : decode cX2_go 32 = .ok (.if_icmp .ne 11, 3) := edX2_go_22.2.2.2.2.2.1
theorem dX2_go_35 : decode cX2_go 35 = .ok (.aload_n 0, 1) := edX2_go_22.2.2.2.2.2.2.1
theorem dX2_go_36 : decode cX2_go 36 = .ok (.getfield 21, 3) := edX2_go_22.2.2.2.2.2.2.2.1
theorem dX2_go_39 : decode cX2_go 39 = .ok (.getfield 56, 3) := edX2_go_22.2.2.2.2.2.2.2.2.1
theorem dX2_go_42 : decode cX2_go 42 = .ok (.ireturn, 1) := edX2_go_22.2.2.2.2.2.2.2.2.2.1
theorem dX2_go_43 : decode cX2_go 43 = .ok (.aload_n 1, 1) := edX2_go_22.2.2.2.2.2.2.2.2.2.2.1
theorem dX2_go_44 : decode cX2_go 44 = .ok (.aload_n 0, 1) := edX2_go_22.2.2.2.2.2.2.2.2.2.2.2
set_option maxRecDepth 20000 in
theorem edX2_go_45 : decode cX2_go 45 = .ok (.getfield 21, 3) ∧ decode cX2_go 48 = .ok (.iload 5, 2) ∧ decode cX2_go 50 = .ok (.invokevirtual 76, 3) ∧ decode cX2_go 53 = .ok (.iinc 4 1, 3) ∧ decode cX2_go 56 = .ok (.goto (-46), 3) ∧ decode cX2_go 59 = .ok (.aload_n 0, 1) ∧ decode cX2_go 60 = .ok (.getfield 21, 3) ∧ decode cX2_go 63 = .ok (.getfield 56, 3) ∧ decode cX2_go 66 = .ok (.ireturn, 1) := by decide +kernel
theorem dX2_go_45 : decode cX2_go 45 = .ok (.getfield 21, 3) := edX2_go_45.1
theorem dX2_go_48 : decode cX2_go 48 = .ok (.iload 5, 2) := edX2_go_45.2.1
theorem dX2_go_50 : decode cX2_go 50 = .ok (.invokevirtual 76, 3) := edX2_go_45.2.2.1
theorem dX2_go_53 : decode cX2_go 53 = .ok (.iinc 4 1, 3) := edX2_go_45.2.2.2.1
theorem dX2_go_56 : decode cX2_go 56 = .ok (.goto (-46), 3) := edX2_go_45.2.2.2.2.1
theorem dX2_go_59 : decode cX2_go 59 = .ok (.aload_n 0, 1) := edX2_go_45.2.2.2.2.2.1
theorem dX2_go_60 : decode cX2_go 60 = .ok (.getfield 21, 3) := edX2_go_45.2.2.2.2.2.2.1
theorem dX2_go_63 : decode cX2_go 63 = .ok (.getfield 56, 3) := edX2_go_45.2.2.2.2.2.2.2.1
theorem dX2_go_66 : decode cX2_go 66 = .ok (.ireturn, 1) := edX2_go_45.2.2.2.2.2.2.2.2
noncomputable def voX2_go : List Cond := [.fieldLink RX2 21 "EachOnHisCue$Evening" "saying" "LEachOnHisCue$Saying;", .fieldLink RX2 56 "EachOnHisCue$Saying" "times" "I", .methodLink RX2 70 yX9_forget, .instanceMethod yX9_forget, .selects RX9 yX9_forget yX9_forget, .initialized RX9, .methodLink RX2 73 yX2_nextLine, .instanceMethod yX2_nextLine, .selects RX2 yX2_nextLine yX2_nextLine, .initialized RX2, .methodLink RX2 76 yX7_speak, .instanceMethod yX7_speak, .selects RX7 yX7_speak yX7_speak, .initialized RX7]
noncomputable def vsX2_go : List Cond := .code yX2_go cX2_go 6 (some .int) :: (voX2_go ++ (vsX9_forget ++ (vsX2_nextLine ++ (vsX7_speak ++ (wsX20 ++ (wsX90))))))
theorem zgX2_go : zGd vsX2_go := z_gdC rfl (z_gdA (z_gdO (by decide +kernel) : zGd voX2_go) (z_gdA zgX9_forget (z_gdA zgX2_nextLine (z_gdA zgX7_speak (z_gdA zgX2 (zgX9))))))
theorem in_X2_go_X2 : ∀ w ∈ wsX20, w ∈ vsX2_go := fun _ h => List.mem_cons_of_mem _ (List.mem_append_right _ (List.mem_append_right _ (List.mem_append_right _ (List.mem_append_right _ (List.mem_append_left _ h)))))
theorem in_X2_go_X9 : ∀ w ∈ wsX90, w ∈ vsX2_go := fun _ h => List.mem_cons_of_mem _ (List.mem_append_right _ (List.mem_append_right _ (List.mem_append_right _ (List.mem_append_right _ (List.mem_append_right _ (h))))))
theorem gw_X2_go_X9_forget : GoodIn vsX2_go vsX9_forget := z_gdI (fun _ h => List.mem_cons_of_mem _ (List.mem_append_right _ (List.mem_append_left _ h))) zgX9_forget
set_option maxRecDepth 20000 in
theorem gv_X2_go_X9_forget_70 : GoodIn vsX2_go (wsV RX2 70 RX9 yX9_forget vsX9_forget) := goodIn_app (goodIn_of _ (by decide +kernel)) gw_X2_go_X9_forget
theorem gw_X2_go_X2_nextLine : GoodIn vsX2_go vsX2_nextLine := z_gdI (fun _ h => List.mem_cons_of_mem _ (List.mem_append_right _ (List.mem_append_right _ (List.mem_append_left _ h)))) zgX2_nextLine
set_option maxRecDepth 20000 in
theorem gv_X2_go_X2_nextLine_73 : GoodIn vsX2_go (wsV RX2 73 RX2 yX2_nextLine vsX2_nextLine) := goodIn_app (goodIn_of _ (by decide +kernel)) gw_X2_go_X2_nextLine
theorem gw_X2_go_X7_speak : GoodIn vsX2_go vsX7_speak := z_gdI (fun _ h => List.mem_cons_of_mem _ (List.mem_append_right _ (List.mem_append_right _ (List.mem_append_right _ (List.mem_append_left _ h))))) zgX7_speak
set_option maxRecDepth 20000 in
theorem gv_X2_go_X7_speak_76 : GoodIn vsX2_go (wsV RX2 76 RX7 yX7_speak vsX7_speak) := goodIn_app (goodIn_of _ (by decide +kernel)) gw_X2_go_X7_speak
set_option maxHeartbeats 4000000 in
set_option maxRecDepth 100000 in
theorem wX2_go (l : Launch) (dC : Nat → ClassId) (dI : Nat → Nat → Nat) (cI cQ : ClassId) (ha0 ha1 ha0_0_0 ha0_0 ha0_1 ha1_0 ha1_1 ha1_2 ha1_4 ha1_5 ha1_6 ha1_7 ha1_11 : Nat) (PL : Nat → Nat → Int32 → Prop) (fa0_0_0 : Nat → Int32) (ia0_0_1 : Int32) (hia0_0_1l : 0 ≤ ia0_0_1.toInt) (hia0_0_1h : ia0_0_1.toInt ≤ 12) (ia0_1_0 : Int32) (ia0_1_1 : Int32) (ia0_1_2 : Int32) (ia0_1_3 : Int32) (ia0_1_4 : Int32) (ia0_2 : Int32) (ga1_0 : Nat → ZQ) (hPLga1_0 : zHp PL ga1_0) (fa1_1 : Nat → Int32) (fa1_2 : Nat → Int32) (fa1_4 : Nat → Int32) (ia1_3 : Int32) (hia1_3l : 0 ≤ ia1_3.toInt) (hia1_3h : ia1_3.toInt ≤ 5) (ia1_8 : Int32) (ia1_9 : Int32) (hia1_9l : 0 ≤ ia1_9.toInt) (hia1_9h : ia1_9.toInt ≤ 12) (ia1_10 : Int32) (p2 : Int32) (p3 : Int32) (hp3l : (-2147483648) ≤ p3.toInt) (hp3h : p3.toInt ≤ 60) (sz : Nat) : Met l yX2_go vsX2_go ({ frames := 5, cells := 0, slots := 0, locals := 119 }) (va_Pc [.ref ha0, .ref ha1, .int p2, .int p3] (zBP dC dI cI cQ PL [(ha0_0_0, .inl (cI, 12, .inl fa0_0_0)), (ha0_0, .inr (5, [.ref ha0_0_0, .int ia0_0_1])), (ha0_1, .inr (9, [.int ia0_1_0, .int ia0_1_1, .int ia0_1_2, .int ia0_1_3, .int ia0_1_4])), (ha0, .inr (2, [.ref ha0_0, .ref ha0_1, .int ia0_2])), (ha1_0, .inl (cQ, 5, .inr (.inr (.inr (.inr (fun i => (ga1_0 i).1)))))), (ha1_1, .inl (cI, 5, .inl fa1_1)), (ha1_2, .inl (cI, 5, .inl fa1_2)), (ha1_4, .inl (cI, 12, .inl fa1_4)), (ha1, .inr (7, [.ref ha1_0, .ref ha1_1, .ref ha1_2, .int ia1_3, .ref ha1_4, .ref ha1_5, .ref ha1_6, .ref ha1_7, .int ia1_8, .int ia1_9, .int ia1_10, .ref ha1_11]))] sz)) (zWi dC dI (va_A [(ha0_0_0, .inl (cI, 12, .inl fa0_0_0)), (ha0_0, .inr (5, [.ref ha0_0_0, .int ia0_0_1])), (ha0_1, .inr (9, [.int ia0_1_0, .int ia0_1_1, .int ia0_1_2, .int ia0_1_3, .int ia0_1_4])), (ha0, .inr (2, [.ref ha0_0, .ref ha0_1, .int ia0_2])), (ha1_0, .inl (cQ, 5, .inr (.inr (.inr (.inr (fun i => (ga1_0 i).1)))))), (ha1_1, .inl (cI, 5, .inl fa1_1)), (ha1_2, .inl (cI, 5, .inl fa1_2)), (ha1_4, .inl (cI, 12, .inl fa1_4)), (ha1, .inr (7, [.ref ha1_0, .ref ha1_1, .ref ha1_2, .int ia1_3, .ref ha1_4, .ref ha1_5, .ref ha1_6, .ref ha1_7, .int ia1_8, .int ia1_9, .int ia1_10, .ref ha1_11]))] sz) (fun u => [(ha0_0_0, .inl (cI, 12, .inl fa0_0_0)), (ha0_0, .inr (5, [.ref ha0_0_0, .int ia0_0_1])), (ha0_1, .inr (9, [.int (u.1 0), .int (u.1 1), .int (u.1 2), .int (u.1 3), .int (u.1 4)])), (ha0, .inr (2, [.ref ha0_0, .ref ha0_1, .int ia0_2])), (ha1_0, .inl (cQ, 5, .inr (.inr (.inr (.inr (fun i => (ga1_0 i).1)))))), (ha1_1, .inl (cI, 5, .inl fa1_1)), (ha1_2, .inl (cI, 5, .inl fa1_2)), (ha1_4, .inl (cI, 12, .inl fa1_4)), (ha1, .inr (7, [.ref ha1_0, .ref ha1_1, .ref ha1_2, .int ia1_3, .ref ha1_4, .ref ha1_5, .ref ha1_6, .ref ha1_7, .int ia1_8, .int ia1_9, .int ia1_10, .ref ha1_11]))]) (fun r u => ((-2147483648) ≤ (u.1 0).toInt ∧ (u.1 0).toInt ≤ 2147483647) ∧ ((-2147483648) ≤ (u.1 1).toInt ∧ (u.1 1).toInt ≤ 2147483647) ∧ ((-2147483648) ≤ (u.1 2).toInt ∧ (u.1 2).toInt ≤ 2147483647) ∧ ((-2147483648) ≤ (u.1 3).toInt ∧ (u.1 3).toInt ≤ 2147483647) ∧ ((-2147483648) ≤ (u.1 4).toInt ∧ (u.1 4).toInt ≤ 2147483647) ∧ ((-2147483648) ≤ r.toInt ∧ r.toInt ≤ 2147483647) ∧ ((zGoC ia1_3.toInt ia1_9.toInt ga1_0 fa1_1 fa1_2 fa0_0_0 fa1_4 ia1_8 p2 p3.toInt (u.1 0) (u.1 1) (u.1 2) r ∧ zGoLC ia1_3.toInt ia1_9.toInt ga1_0 fa1_1 fa1_2 fa0_0_0 fa1_4 ia1_8 p2 r (u.1 4) ∧ (u.1 3) = r)))) 0 0 (va_A [(ha0_0_0, .inl (cI, 12, .inl fa0_0_0)), (ha0_0, .inr (5, [.ref ha0_0_0, .int ia0_0_1])), (ha0_1, .inr (9, [.int ia0_1_0, .int ia0_1_1, .int ia0_1_2, .int ia0_1_3, .int ia0_1_4])), (ha0, .inr (2, [.ref ha0_0, .ref ha0_1, .int ia0_2])), (ha1_0, .inl (cQ, 5, .inr (.inr (.inr (.inr (fun i => (ga1_0 i).1)))))), (ha1_1, .inl (cI, 5, .inl fa1_1)), (ha1_2, .inl (cI, 5, .inl fa1_2)), (ha1_4, .inl (cI, 12, .inl fa1_4)), (ha1, .inr (7, [.ref ha1_0, .ref ha1_1, .ref ha1_2, .int ia1_3, .ref ha1_4, .ref ha1_5, .ref ha1_6, .ref ha1_7, .int ia1_8, .int ia1_9, .int ia1_10, .ref ha1_11]))] sz) := by
  refine Met.ofW (cc := cX2_go) (maxL := 6) (ret := (some .int)) (by decide) rfl ?_
  intro p e s m args below meth c s₁ B hml hv
  obtain ⟨rfl, ⟨hsz, hP, hZ, hD0⟩, hPl0, hPlN⟩ := hv
  obtain ⟨hK, hAO, hN⟩ := id hZ
  have hx := B.exec
  have hb := B.bytes
  have hr := B.returns
  have hts := atoms_spec (ws := vsX2_go) B.pre
  have hown : s.vm.findClass RX2 = some m.cls := findClass_of_methodNamed B.named
  have hlocks := B.notSynchronized
  subst hsz
  have hD := hD0.self (sz := s.heap.size)
  have hPlA := z_plA hPlN
  generalize hAe : va_A [(ha0_0_0, .inl (cI, 12, .inl fa0_0_0)), (ha0_0, .inr (5, [.ref ha0_0_0, .int ia0_0_1])), (ha0_1, .inr (9, [.int ia0_1_0, .int ia0_1_1, .int ia0_1_2, .int ia0_1_3, .int ia0_1_4])), (ha0, .inr (2, [.ref ha0_0, .ref ha0_1, .int ia0_2])), (ha1_0, .inl (cQ, 5, .inr (.inr (.inr (.inr (fun i => (ga1_0 i).1)))))), (ha1_1, .inl (cI, 5, .inl fa1_1)), (ha1_2, .inl (cI, 5, .inl fa1_2)), (ha1_4, .inl (cI, 12, .inl fa1_4)), (ha1, .inr (7, [.ref ha1_0, .ref ha1_1, .ref ha1_2, .int ia1_3, .ref ha1_4, .ref ha1_5, .ref ha1_6, .ref ha1_7, .int ia1_8, .int ia1_9, .int ia1_10, .ref ha1_11]))] s.heap.size = A at hD hPlA ⊢
  have hA : ∀ q : Nat, s.heap.size ≤ q → A q := fun q h => by rw [← hAe]; exact Or.inr h
  have hS : va_S A s.heap s.heap [] := va_S.rf
  have hP : va_P (dC, dI) vwCl [(ha0_0_0, .inl (cI, 12, .inl fa0_0_0)), (ha0_0, .inr (5, [.ref ha0_0_0, .int ia0_0_1])), (ha0_1, .inr (9, [.int ia0_1_0, .int ia0_1_1, .int ia0_1_2, .int ia0_1_3, .int ia0_1_4])), (ha0, .inr (2, [.ref ha0_0, .ref ha0_1, .int ia0_2])), (ha1_0, .inl (cQ, 5, .inr (.inr (.inr (.inr (fun i => (ga1_0 i).1)))))), (ha1_1, .inl (cI, 5, .inl fa1_1)), (ha1_2, .inl (cI, 5, .inl fa1_2)), (ha1_4, .inl (cI, 12, .inl fa1_4)), (ha1, .inr (7, [.ref ha1_0, .ref ha1_1, .ref ha1_2, .int ia1_3, .ref ha1_4, .ref ha1_5, .ref ha1_6, .ref ha1_7, .int ia1_8, .int ia1_9, .int ia1_10, .ref ha1_11]))] s.heap := hP
  have hp2l := z_lo p2
  have hp2h := z_hi p2
  have hl := lv_entry ([.ref ha0, .ref ha1, .int p2, .int p3]) (n := 6) (Nat.le_of_ble_eq_true rfl)
  rw [lg_entry_eq]
  generalize (lg_sl ([.ref ha0, .ref ha1, .int p2, .int p3]) ++ List.replicate (6 - (lg_sl ([.ref ha0, .ref ha1, .int p2, .int p3])).length) Slot.unset).toArray = ls at hl ⊢
  have hl : lv_has ls 6 [(0, .ref ha0), (1, .ref ha1), (2, .int p2), (3, .int p3)] := hl
  refine lv_aload_n hx hb dX2_go_0 rfl (lv_at hl 0 rfl) ?_
  refine va_get (D := (dC, dI)) (ci := 2) (v := .ref ha0_1) (C := RX2) (T := TX2) (N := 3) hx hb hts in_X2_go_X2 hown hK hP 3 rfl rfl 1 (by decide) (hts (.fieldLink RX2 21 "EachOnHisCue$Evening" "saying" "LEachOnHisCue$Saying;") (by decide +kernel)) (fun _ h9 => h9) rfl dX2_go_1 ?_
  refine z_cwv (wc := [(ha0_1, .inr (9, [.int ia0_1_0, .int ia0_1_1, .int ia0_1_2, .int ia0_1_3, .int ia0_1_4]))]) (wr := [(ha0_0_0, .inl (cI, 12, .inl fa0_0_0)), (ha0_0, .inr (5, [.ref ha0_0_0, .int ia0_0_1])), (ha0, .inr (2, [.ref ha0_0, .ref ha0_1, .int ia0_2])), (ha1_0, .inl (cQ, 5, .inr (.inr (.inr (.inr (fun i => (ga1_0 i).1)))))), (ha1_1, .inl (cI, 5, .inl fa1_1)), (ha1_2, .inl (cI, 5, .inl fa1_2)), (ha1_4, .inl (cI, 12, .inl fa1_4)), (ha1, .inr (7, [.ref ha1_0, .ref ha1_1, .ref ha1_2, .int ia1_3, .ref ha1_4, .ref ha1_5, .ref ha1_6, .ref ha1_7, .int ia1_8, .int ia1_9, .int ia1_10, .ref ha1_11]))]) (w1 := fun u2 => [(ha0_1, .inr (9, [.int 0, .int 0, .int (-9), .int 0, .int 0]))]) (va_runV (As := []) (rest := []) ⟨hx, hb, hml, hown, hts⟩ (wX9_forget l dC dI cI cQ ha0_1 ia0_1_0 ia0_1_1 ia0_1_2 ia0_1_3 ia0_1_4 s.heap.size) (cwV 0 hts gv_X2_go_X9_forget_70 rfl rfl rfl (by decide +kernel) ⟨Nat.le_of_ble_eq_true rfl, Nat.le_of_ble_eq_true rfl⟩) ⟨z_blind, va_recv hK hP (ci := 9) (q0 := 2) rfl rfl, z_pre hZ hP hD [2] rfl (by decide +kernel)⟩ rfl rfl hl.1 rfl (lv_room (Nat.le_of_ble_eq_true rfl)) dX2_go_4 ⟨Nat.le_of_ble_eq_true rfl, Nat.le_of_ble_eq_true rfl⟩) hP hD hS hA [2] [0, 1, 3, 4, 5, 6, 7, 8] rfl rfl (by decide +kernel) (by decide +kernel) (fun u2 H locs hpo hP hD hS => ?_)
  have hP : va_P (dC, dI) vwCl [(ha0_0_0, .inl (cI, 12, .inl fa0_0_0)), (ha0_0, .inr (5, [.ref ha0_0_0, .int ia0_0_1])), (ha0, .inr (2, [.ref ha0_0, .ref ha0_1, .int ia0_2])), (ha1_0, .inl (cQ, 5, .inr (.inr (.inr (.inr (fun i => (ga1_0 i).1)))))), (ha1_1, .inl (cI, 5, .inl fa1_1)), (ha1_2, .inl (cI, 5, .inl fa1_2)), (ha1_4, .inl (cI, 12, .inl fa1_4)), (ha1, .inr (7, [.ref ha1_0, .ref ha1_1, .ref ha1_2, .int ia1_3, .ref ha1_4, .ref ha1_5, .ref ha1_6, .ref ha1_7, .int ia1_8, .int ia1_9, .int ia1_10, .ref ha1_11])), (ha0_1, .inr (9, [.int 0, .int 0, .int (-9), .int 0, .int 0]))] H := hP
  have hD : va_D A [(ha0_0_0, .inl (cI, 12, .inl fa0_0_0)), (ha0_0, .inr (5, [.ref ha0_0_0, .int ia0_0_1])), (ha0, .inr (2, [.ref ha0_0, .ref ha0_1, .int ia0_2])), (ha1_0, .inl (cQ, 5, .inr (.inr (.inr (.inr (fun i => (ga1_0 i).1)))))), (ha1_1, .inl (cI, 5, .inl fa1_1)), (ha1_2, .inl (cI, 5, .inl fa1_2)), (ha1_4, .inl (cI, 12, .inl fa1_4)), (ha1, .inr (7, [.ref ha1_0, .ref ha1_1, .ref ha1_2, .int ia1_3, .ref ha1_4, .ref ha1_5, .ref ha1_6, .ref ha1_7, .int ia1_8, .int ia1_9, .int ia1_10, .ref ha1_11])), (ha0_1, .inr (9, [.int 0, .int 0, .int (-9), .int 0, .int 0]))] := hD
  have hy1po := hpo
  refine lv_iconst (v := 0) hx hb dX2_go_7 (by decide) ?_
  refine lv_istore (lv' := [(4, .int 0), (0, .ref ha0), (1, .ref ha1), (2, .int p2), (3, .int p3)]) hx hb dX2_go_8 hl (by decide) rfl (fun ls hl => ?_)
  have hL178 : ∀ (n : Nat) (v3 : Int32) (v17 : Int32) (v18 : Int32) (v19 : Int32) (v20 : Int32) (v21 : Int32) (H : Heap) (locs : List Loc) (ls : Array Slot), 0 ≤ v3.toInt → v3.toInt ≤ 60 → (zGoI ia1_3.toInt ia1_9.toInt ga1_0 fa1_1 fa1_2 fa0_0_0 fa1_4 ia1_8 p2 (v3 : Int32).toInt (v17 : Int32) (v18 : Int32) (v19 : Int32) (v20 : Int32)) → ((v3 : Int32).toInt ≤ p3.toInt ∨ (v3 : Int32).toInt = 0) → (zGoL ia1_3.toInt ia1_9.toInt ga1_0 fa1_1 fa1_2 fa0_0_0 fa1_4 ia1_8 p2 (v3 : Int32).toInt (v21 : Int32)) → (60 - v3.toInt).toNat < n → lv_has ls 6 [(4, .int v3), (0, .ref ha0), (1, .ref ha1), (2, .int p2), (3, .int p3)] → va_P (dC, dI) vwCl [(ha0_0_0, .inl (cI, 12, .inl fa0_0_0)), (ha0_0, .inr (5, [.ref ha0_0_0, .int ia0_0_1])), (ha0, .inr (2, [.ref ha0_0, .ref ha0_1, .int ia0_2])), (ha1_0, .inl (cQ, 5, .inr (.inr (.inr (.inr (fun i => (ga1_0 i).1)))))), (ha1_1, .inl (cI, 5, .inl fa1_1)), (ha1_2, .inl (cI, 5, .inl fa1_2)), (ha1_4, .inl (cI, 12, .inl fa1_4)), (ha1, .inr (7, [.ref ha1_0, .ref ha1_1, .ref ha1_2, .int ia1_3, .ref ha1_4, .ref ha1_5, .ref ha1_6, .ref ha1_7, .int ia1_8, .int ia1_9, .int ia1_10, .ref ha1_11])), (ha0_1, .inr (9, [.int v17, .int v18, .int v19, .int v20, .int v21]))] H → va_D A [(ha0_0_0, .inl (cI, 12, .inl fa0_0_0)), (ha0_0, .inr (5, [.ref ha0_0_0, .int ia0_0_1])), (ha0, .inr (2, [.ref ha0_0, .ref ha0_1, .int ia0_2])), (ha1_0, .inl (cQ, 5, .inr (.inr (.inr (.inr (fun i => (ga1_0 i).1)))))), (ha1_1, .inl (cI, 5, .inl fa1_1)), (ha1_2, .inl (cI, 5, .inl fa1_2)), (ha1_4, .inl (cI, 12, .inl fa1_4)), (ha1, .inr (7, [.ref ha1_0, .ref ha1_1, .ref ha1_2, .int ia1_3, .ref ha1_4, .ref ha1_5, .ref ha1_6, .ref ha1_7, .int ia1_8, .int ia1_9, .int ia1_10, .ref ha1_11])), (ha0_1, .inr (9, [.int v17, .int v18, .int v19, .int v20, .int v21]))] → va_S A s.heap H locs → W p l e (headSpec vsX2_go ({ frames := 5, cells := 0, slots := 0, locals := 119 })).room s m ([.ref ha0, .ref ha1, .int p2, .int p3] : List Value).toArray below meth c H locs 0 0 (MQ below (zWi dC dI (A) (fun u => [(ha0_0_0, .inl (cI, 12, .inl fa0_0_0)), (ha0_0, .inr (5, [.ref ha0_0_0, .int ia0_0_1])), (ha0_1, .inr (9, [.int (u.1 0), .int (u.1 1), .int (u.1 2), .int (u.1 3), .int (u.1 4)])), (ha0, .inr (2, [.ref ha0_0, .ref ha0_1, .int ia0_2])), (ha1_0, .inl (cQ, 5, .inr (.inr (.inr (.inr (fun i => (ga1_0 i).1)))))), (ha1_1, .inl (cI, 5, .inl fa1_1)), (ha1_2, .inl (cI, 5, .inl fa1_2)), (ha1_4, .inl (cI, 12, .inl fa1_4)), (ha1, .inr (7, [.ref ha1_0, .ref ha1_1, .ref ha1_2, .int ia1_3, .ref ha1_4, .ref ha1_5, .ref ha1_6, .ref ha1_7, .int ia1_8, .int ia1_9, .int ia1_10, .ref ha1_11]))]) (fun r u => ((-2147483648) ≤ (u.1 0).toInt ∧ (u.1 0).toInt ≤ 2147483647) ∧ ((-2147483648) ≤ (u.1 1).toInt ∧ (u.1 1).toInt ≤ 2147483647) ∧ ((-2147483648) ≤ (u.1 2).toInt ∧ (u.1 2).toInt ≤ 2147483647) ∧ ((-2147483648) ≤ (u.1 3).toInt ∧ (u.1 3).toInt ≤ 2147483647) ∧ ((-2147483648) ≤ (u.1 4).toInt ∧ (u.1 4).toInt ≤ 2147483647) ∧ ((-2147483648) ≤ r.toInt ∧ r.toInt ≤ 2147483647) ∧ ((zGoC ia1_3.toInt ia1_9.toInt ga1_0 fa1_1 fa1_2 fa0_0_0 fa1_4 ia1_8 p2 p3.toInt (u.1 0) (u.1 1) (u.1 2) r ∧ zGoLC ia1_3.toInt ia1_9.toInt ga1_0 fa1_1 fa1_2 fa0_0_0 fa1_4 ia1_8 p2 r (u.1 4) ∧ (u.1 3) = r)))) ([.ref ha0, .ref ha1, .int p2, .int p3] : List Value).toArray s 0 0 A) (F0 m 10 ls []) := by
    intro n
    induction n with
    | zero =>
      intro v3 v17 v18 v19 v20 v21 H locs ls hi179_0 hi179_1 hi179_x0 hi179_x1 hi179_x2 hi179_m hl hP hD hS
      exact absurd hi179_m (Nat.not_lt_zero _)
    | succ n ih =>
      intro v3 v17 v18 v19 v20 v21 H locs ls hi179_0 hi179_1 hi179_x0 hi179_x1 hi179_x2 hi179_m hl hP hD hS
      have ih180 := ih
      refine lv_iload hx hb dX2_go_10 (lv_at hl 0 rfl) ?_
      refine lv_iload_n hx hb dX2_go_12 rfl (lv_at hl 4 rfl) ?_
      refine lv_icmp_ge (tgt := 59) hx hb dX2_go_13 (by decide) (fun hc => ?_) (fun hc => ?_)
      · have q181 : p3.toInt ≤ v3.toInt := z_le rfl rfl hc
        refine lv_aload_n hx hb dX2_go_59 rfl (lv_at hl 1 rfl) ?_
        refine va_get (D := (dC, dI)) (ci := 2) (v := .ref ha0_1) (C := RX2) (T := TX2) (N := 3) hx hb hts in_X2_go_X2 hown hK hP 2 rfl rfl 1 (by decide) (hts (.fieldLink RX2 21 "EachOnHisCue$Evening" "saying" "LEachOnHisCue$Saying;") (by decide +kernel)) (fun _ h9 => h9) rfl dX2_go_60 ?_
        refine va_get (D := (dC, dI)) (ci := 9) (v := .int v20) (C := RX9) (T := TX9) (N := 5) hx hb hts in_X2_go_X9 hown hK hP 8 rfl rfl 3 (by decide) (hts (.fieldLink RX2 56 "EachOnHisCue$Saying" "times" "I") (by decide +kernel)) (fun _ h9 => h9) rfl dX2_go_63 ?_
        have hP9 := hP.sub (ws' := [(ha0_0_0, .inl (cI, 12, .inl fa0_0_0)), (ha0_0, .inr (5, [.ref ha0_0_0, .int ia0_0_1])), (ha0_1, .inr (9, [.int v17, .int v18, .int v19, .int v20, .int v21])), (ha0, .inr (2, [.ref ha0_0, .ref ha0_1, .int ia0_2])), (ha1_0, .inl (cQ, 5, .inr (.inr (.inr (.inr (fun i => (ga1_0 i).1)))))), (ha1_1, .inl (cI, 5, .inl fa1_1)), (ha1_2, .inl (cI, 5, .inl fa1_2)), (ha1_4, .inl (cI, 12, .inl fa1_4)), (ha1, .inr (7, [.ref ha1_0, .ref ha1_1, .ref ha1_2, .int ia1_3, .ref ha1_4, .ref ha1_5, .ref ha1_6, .ref ha1_7, .int ia1_8, .int ia1_9, .int ia1_10, .ref ha1_11]))]) [0, 1, 8, 2, 3, 4, 5, 6, 7] rfl
        have hD9 := hD.sub (ws' := [(ha0_0_0, .inl (cI, 12, .inl fa0_0_0)), (ha0_0, .inr (5, [.ref ha0_0_0, .int ia0_0_1])), (ha0_1, .inr (9, [.int v17, .int v18, .int v19, .int v20, .int v21])), (ha0, .inr (2, [.ref ha0_0, .ref ha0_1, .int ia0_2])), (ha1_0, .inl (cQ, 5, .inr (.inr (.inr (.inr (fun i => (ga1_0 i).1)))))), (ha1_1, .inl (cI, 5, .inl fa1_1)), (ha1_2, .inl (cI, 5, .inl fa1_2)), (ha1_4, .inl (cI, 12, .inl fa1_4)), (ha1, .inr (7, [.ref ha1_0, .ref ha1_1, .ref ha1_2, .int ia1_3, .ref ha1_4, .ref ha1_5, .ref ha1_6, .ref ha1_7, .int ia1_8, .int ia1_9, .int ia1_10, .ref ha1_11]))]) [0, 1, 8, 2, 3, 4, 5, 6, 7] (by decide) rfl
        have hpo : (zGoC ia1_3.toInt ia1_9.toInt ga1_0 fa1_1 fa1_2 fa0_0_0 fa1_4 ia1_8 p2 p3.toInt (v17 : Int32) (v18 : Int32) (v19 : Int32) (v20 : Int32) ∧ zGoLC ia1_3.toInt ia1_9.toInt ga1_0 fa1_1 fa1_2 fa0_0_0 fa1_4 ia1_8 p2 (v20 : Int32) (v21 : Int32) ∧ (v20 : Int32) = (v20 : Int32)) := by exact ⟨z_goE (by assumption) (by omega) (by omega) (by omega), z_goLE (by assumption) (by assumption), rfl⟩
        exact W.iret (v := v20) hx hb hr (fun t ht hW => ⟨⟨v20, (fun k => [v17, v18, v19, v20, v21].getD k 0, fun k => [].getD k (fun _ => 0)), rfl, (show ((-2147483648) ≤ (v17 : Int32).toInt ∧ (v17 : Int32).toInt ≤ 2147483647) ∧ ((-2147483648) ≤ (v18 : Int32).toInt ∧ (v18 : Int32).toInt ≤ 2147483647) ∧ ((-2147483648) ≤ (v19 : Int32).toInt ∧ (v19 : Int32).toInt ≤ 2147483647) ∧ ((-2147483648) ≤ (v20 : Int32).toInt ∧ (v20 : Int32).toInt ≤ 2147483647) ∧ ((-2147483648) ≤ (v21 : Int32).toInt ∧ (v21 : Int32).toInt ≤ 2147483647) ∧ ((-2147483648) ≤ (v20 : Int32).toInt ∧ (v20 : Int32).toInt ≤ 2147483647) ∧ ((zGoC ia1_3.toInt ia1_9.toInt ga1_0 fa1_1 fa1_2 fa0_0_0 fa1_4 ia1_8 p2 p3.toInt (v17 : Int32) (v18 : Int32) (v19 : Int32) (v20 : Int32) ∧ zGoLC ia1_3.toInt ia1_9.toInt ga1_0 fa1_1 fa1_2 fa0_0_0 fa1_4 ia1_8 p2 (v20 : Int32) (v21 : Int32) ∧ (v20 : Int32) = (v20 : Int32))) from ⟨⟨(z_lo v17), (z_hi v17)⟩, ⟨(z_lo v18), (z_hi v18)⟩, ⟨(z_lo v19), (z_hi v19)⟩, ⟨(z_lo v20), (z_hi v20)⟩, ⟨(z_lo v21), (z_hi v21)⟩, ⟨z_lo _, z_hi _⟩, hpo⟩), by rw [ht]; exact hP9, hD9⟩, hS.F ht⟩) hS.2.2 dX2_go_66
      · have q182 : v3.toInt < p3.toInt := z_nle rfl rfl hc
        refine lv_aload_n hx hb dX2_go_16 rfl (lv_at hl 1 rfl) ?_
        refine lv_aload_n hx hb dX2_go_17 rfl (lv_at hl 2 rfl) ?_
        refine lv_aload_n hx hb dX2_go_18 rfl (lv_at hl 1 rfl) ?_
        refine va_get (D := (dC, dI)) (ci := 2) (v := .ref ha0_1) (C := RX2) (T := TX2) (N := 3) hx hb hts in_X2_go_X2 hown hK hP 2 rfl rfl 1 (by decide) (hts (.fieldLink RX2 21 "EachOnHisCue$Evening" "saying" "LEachOnHisCue$Saying;") (by decide +kernel)) (fun _ h9 => h9) rfl dX2_go_19 ?_
        refine lv_iload_n hx hb dX2_go_22 rfl (lv_at hl 3 rfl) ?_
        have hPl := z_plS hPl0 hPlA hS
        refine z_rdi (va_runV (As := [.ref ha1, .ref ha0_1, .int p2]) (rest := []) ⟨hx, hb, hml, hown, hts⟩ (rX2_nextLine l dC dI cI cQ ha0 ha1 ha0_1 ha0_0_0 ha0_0 ha1_0 ha1_1 ha1_2 ha0_1 ha1_4 ha1_5 ha1_6 ha1_7 ha1_11 PL fa0_0_0 ia0_0_1 hia0_0_1l hia0_0_1h ia0_2 ga1_0 hPLga1_0 fa1_1 fa1_2 ia1_3 hia1_3l hia1_3h ia1_8 ia1_9 hia1_9l hia1_9h ia1_10 v17 v18 v19 v20 v21 p2) (cwV 3 hts gv_X2_go_X2_nextLine_73 rfl rfl rfl (by decide +kernel) ⟨Nat.le_of_ble_eq_true rfl, Nat.le_of_ble_eq_true rfl⟩) ⟨z_blindRP, va_recv hK hP (ci := 2) (q0 := 2) rfl rfl, z_preRP hZ hP hPl [0, 1, 2, 3, 4, 5, 7, 8] rfl⟩ rfl rfl hl.1 rfl (lv_room (Nat.le_of_ble_eq_true rfl)) dX2_go_23 ⟨Nat.le_of_ble_eq_true rfl, Nat.le_of_ble_eq_true rfl⟩) (fun y183 hy183 => ?_)
        obtain ⟨hy183_0, hy183_1, hy183_2⟩ := hy183
        refine lv_istore (lv' := [(5, .int y183), (4, .int v3), (0, .ref ha0), (1, .ref ha1), (2, .int p2), (3, .int p3)]) hx hb dX2_go_26 hl (by decide) rfl (fun ls hl => ?_)
        refine lv_iload hx hb dX2_go_28 (lv_at hl 0 rfl) ?_
        refine lv_bipush (v := (-9)) hx hb dX2_go_30 (by decide) ?_
        refine lv_icmp_ne (tgt := 43) hx hb dX2_go_32 (by decide) (fun hc => ?_) (fun hc => ?_)
        · have q184 : y183.toInt ≠ (-9) := z_ne rfl (by decide) hc
          refine lv_aload_n hx hb dX2_go_43 rfl (lv_at hl 3 rfl) ?_
          refine lv_aload_n hx hb dX2_go_44 rfl (lv_at hl 2 rfl) ?_
          refine va_get (D := (dC, dI)) (ci := 2) (v := .ref ha0_1) (C := RX2) (T := TX2) (N := 3) hx hb hts in_X2_go_X2 hown hK hP 2 rfl rfl 1 (by decide) (hts (.fieldLink RX2 21 "EachOnHisCue$Evening" "saying" "LEachOnHisCue$Saying;") (by decide +kernel)) (fun _ h9 => h9) rfl dX2_go_45 ?_
          refine lv_iload hx hb dX2_go_48 (lv_at hl 0 rfl) ?_
          refine z_cwv (wc := [(ha1_4, .inl (cI, 12, .inl fa1_4)), (ha1, .inr (7, [.ref ha1_0, .ref ha1_1, .ref ha1_2, .int ia1_3, .ref ha1_4, .ref ha1_5, .ref ha1_6, .ref ha1_7, .int ia1_8, .int ia1_9, .int ia1_10, .ref ha1_11])), (ha0_1, .inr (9, [.int v17, .int v18, .int v19, .int v20, .int v21]))]) (wr := [(ha0_0_0, .inl (cI, 12, .inl fa0_0_0)), (ha0_0, .inr (5, [.ref ha0_0_0, .int ia0_0_1])), (ha0, .inr (2, [.ref ha0_0, .ref ha0_1, .int ia0_2])), (ha1_0, .inl (cQ, 5, .inr (.inr (.inr (.inr (fun i => (ga1_0 i).1)))))), (ha1_1, .inl (cI, 5, .inl fa1_1)), (ha1_2, .inl (cI, 5, .inl fa1_2))]) (w1 := fun u186 => [(ha1_4, .inl (cI, 12, .inl fa1_4)), (ha1, .inr (7, [.ref ha1_0, .ref ha1_1, .ref ha1_2, .int ia1_3, .ref ha1_4, .ref ha1_5, .ref ha1_6, .ref ha1_7, .int ia1_8, .int ia1_9, .int ia1_10, .ref ha1_11])), (ha0_1, .inr (9, [.int (u186.1 0), .int (u186.1 1), .int (u186.1 2), .int (u186.1 3), .int (u186.1 4)]))]) (va_runV (As := [.ref ha0_1, .int y183]) (rest := []) ⟨hx, hb, hml, hown, hts⟩ (wX7_speak l dC dI cI cQ ha1 ha0_1 ha1_4 ha1_0 ha1_1 ha1_2 ha1_5 ha1_6 ha1_7 ha1_11 fa1_4 ia1_3 hia1_3l hia1_3h ia1_8 ia1_9 hia1_9l hia1_9h ia1_10 v17 v18 v19 v20 v21 y183 H.size) (cwV 2 hts gv_X2_go_X7_speak_76 rfl rfl rfl (by decide +kernel) ⟨Nat.le_of_ble_eq_true rfl, Nat.le_of_ble_eq_true rfl⟩) ⟨z_blind, va_recv hK hP (ci := 7) (q0 := 7) rfl rfl, z_pre hZ hP hD [6, 7, 8] rfl (by decide +kernel)⟩ rfl rfl hl.1 rfl (lv_room (Nat.le_of_ble_eq_true rfl)) dX2_go_50 ⟨Nat.le_of_ble_eq_true rfl, Nat.le_of_ble_eq_true rfl⟩) hP hD hS hA [6, 7, 8] [0, 1, 2, 3, 4, 5] rfl rfl (by decide +kernel) (by decide +kernel) (fun u186 H locs hpo hP hD hS => ?_)
          generalize hgw187 : u186.1 0 = w187 at hP hD hpo
          generalize hgw188 : u186.1 1 = w188 at hP hD hpo
          generalize hgw189 : u186.1 2 = w189 at hP hD hpo
          generalize hgw190 : u186.1 3 = w190 at hP hD hpo
          generalize hgw191 : u186.1 4 = w191 at hP hD hpo
          have hP : va_P (dC, dI) vwCl [(ha0_0_0, .inl (cI, 12, .inl fa0_0_0)), (ha0_0, .inr (5, [.ref ha0_0_0, .int ia0_0_1])), (ha0, .inr (2, [.ref ha0_0, .ref ha0_1, .int ia0_2])), (ha1_0, .inl (cQ, 5, .inr (.inr (.inr (.inr (fun i => (ga1_0 i).1)))))), (ha1_1, .inl (cI, 5, .inl fa1_1)), (ha1_2, .inl (cI, 5, .inl fa1_2)), (ha1_4, .inl (cI, 12, .inl fa1_4)), (ha1, .inr (7, [.ref ha1_0, .ref ha1_1, .ref ha1_2, .int ia1_3, .ref ha1_4, .ref ha1_5, .ref ha1_6, .ref ha1_7, .int ia1_8, .int ia1_9, .int ia1_10, .ref ha1_11])), (ha0_1, .inr (9, [.int w187, .int w188, .int w189, .int w190, .int w191]))] H := hP
          have hD : va_D A [(ha0_0_0, .inl (cI, 12, .inl fa0_0_0)), (ha0_0, .inr (5, [.ref ha0_0_0, .int ia0_0_1])), (ha0, .inr (2, [.ref ha0_0, .ref ha0_1, .int ia0_2])), (ha1_0, .inl (cQ, 5, .inr (.inr (.inr (.inr (fun i => (ga1_0 i).1)))))), (ha1_1, .inl (cI, 5, .inl fa1_1)), (ha1_2, .inl (cI, 5, .inl fa1_2)), (ha1_4, .inl (cI, 12, .inl fa1_4)), (ha1, .inr (7, [.ref ha1_0, .ref ha1_1, .ref ha1_2, .int ia1_3, .ref ha1_4, .ref ha1_5, .ref ha1_6, .ref ha1_7, .int ia1_8, .int ia1_9, .int ia1_10, .ref ha1_11])), (ha0_1, .inr (9, [.int w187, .int w188, .int w189, .int w190, .int w191]))] := hD
          obtain ⟨hw187p, hw188p, hw189p, hw190p, hw191p, hy185po⟩ := hpo
          obtain ⟨hw187l, hw187h⟩ := hw187p
          obtain ⟨hw188l, hw188h⟩ := hw188p
          obtain ⟨hw189l, hw189h⟩ := hw189p
          obtain ⟨hw190l, hw190h⟩ := hw190p
          obtain ⟨hw191l, hw191h⟩ := hw191p
          obtain ⟨y192, ey192⟩ : ∃ y : Int32, y = v3 + 1 := ⟨_, rfl⟩
          refine lv_iinc (v := y192) (lv' := [(4, .int y192), (5, .int y183), (0, .ref ha0), (1, .ref ha1), (2, .int p2), (3, .int p3)]) hx hb dX2_go_53 hl (k := 1) rfl (by rw [ey192]; rfl) (by decide) rfl (fun ls hl => ?_)
          have hy192 : y192.toInt = v3.toInt + 1 := by rw [ey192]; exact z_add rfl (by decide) (by omega) (by omega)
          refine lv_goto (tgt := 10) hx hb dX2_go_56 (by decide) ?_
          exact ih180 y192 w187 w188 w189 w190 w191 _ _ ls (by first | decide | omega) (by first | decide | omega) (z_goS (by assumption) (by omega) (by omega) (by omega) hy183_2 (by omega) hy185po.1) (by have e0 : (0 : Int32).toInt = 0 := (by decide); omega) (z_goLS (by assumption) (by assumption) (by omega) (by omega) (by omega) hy183_2 (by omega) hy185po.2) (by omega) (lv_sub hl [0, 2, 3, 4, 5] rfl) hP hD hS
        · have q193 : y183.toInt = (-9) := z_eq rfl (by decide) hc
          refine lv_aload_n hx hb dX2_go_35 rfl (lv_at hl 2 rfl) ?_
          refine va_get (D := (dC, dI)) (ci := 2) (v := .ref ha0_1) (C := RX2) (T := TX2) (N := 3) hx hb hts in_X2_go_X2 hown hK hP 2 rfl rfl 1 (by decide) (hts (.fieldLink RX2 21 "EachOnHisCue$Evening" "saying" "LEachOnHisCue$Saying;") (by decide +kernel)) (fun _ h9 => h9) rfl dX2_go_36 ?_
          refine va_get (D := (dC, dI)) (ci := 9) (v := .int v20) (C := RX9) (T := TX9) (N := 5) hx hb hts in_X2_go_X9 hown hK hP 8 rfl rfl 3 (by decide) (hts (.fieldLink RX2 56 "EachOnHisCue$Saying" "times" "I") (by decide +kernel)) (fun _ h9 => h9) rfl dX2_go_39 ?_
          have hP9 := hP.sub (ws' := [(ha0_0_0, .inl (cI, 12, .inl fa0_0_0)), (ha0_0, .inr (5, [.ref ha0_0_0, .int ia0_0_1])), (ha0_1, .inr (9, [.int v17, .int v18, .int v19, .int v20, .int v21])), (ha0, .inr (2, [.ref ha0_0, .ref ha0_1, .int ia0_2])), (ha1_0, .inl (cQ, 5, .inr (.inr (.inr (.inr (fun i => (ga1_0 i).1)))))), (ha1_1, .inl (cI, 5, .inl fa1_1)), (ha1_2, .inl (cI, 5, .inl fa1_2)), (ha1_4, .inl (cI, 12, .inl fa1_4)), (ha1, .inr (7, [.ref ha1_0, .ref ha1_1, .ref ha1_2, .int ia1_3, .ref ha1_4, .ref ha1_5, .ref ha1_6, .ref ha1_7, .int ia1_8, .int ia1_9, .int ia1_10, .ref ha1_11]))]) [0, 1, 8, 2, 3, 4, 5, 6, 7] rfl
          have hD9 := hD.sub (ws' := [(ha0_0_0, .inl (cI, 12, .inl fa0_0_0)), (ha0_0, .inr (5, [.ref ha0_0_0, .int ia0_0_1])), (ha0_1, .inr (9, [.int v17, .int v18, .int v19, .int v20, .int v21])), (ha0, .inr (2, [.ref ha0_0, .ref ha0_1, .int ia0_2])), (ha1_0, .inl (cQ, 5, .inr (.inr (.inr (.inr (fun i => (ga1_0 i).1)))))), (ha1_1, .inl (cI, 5, .inl fa1_1)), (ha1_2, .inl (cI, 5, .inl fa1_2)), (ha1_4, .inl (cI, 12, .inl fa1_4)), (ha1, .inr (7, [.ref ha1_0, .ref ha1_1, .ref ha1_2, .int ia1_3, .ref ha1_4, .ref ha1_5, .ref ha1_6, .ref ha1_7, .int ia1_8, .int ia1_9, .int ia1_10, .ref ha1_11]))]) [0, 1, 8, 2, 3, 4, 5, 6, 7] (by decide) rfl
          have hpo : (zGoC ia1_3.toInt ia1_9.toInt ga1_0 fa1_1 fa1_2 fa0_0_0 fa1_4 ia1_8 p2 p3.toInt (v17 : Int32) (v18 : Int32) (v19 : Int32) (v20 : Int32) ∧ zGoLC ia1_3.toInt ia1_9.toInt ga1_0 fa1_1 fa1_2 fa0_0_0 fa1_4 ia1_8 p2 (v20 : Int32) (v21 : Int32) ∧ (v20 : Int32) = (v20 : Int32)) := by exact ⟨z_goX (by assumption) (by omega) (by omega) hy183_2 (by omega), z_goLE (by assumption) (by assumption), rfl⟩
          exact W.iret (v := v20) hx hb hr (fun t ht hW => ⟨⟨v20, (fun k => [v17, v18, v19, v20, v21].getD k 0, fun k => [].getD k (fun _ => 0)), rfl, (show ((-2147483648) ≤ (v17 : Int32).toInt ∧ (v17 : Int32).toInt ≤ 2147483647) ∧ ((-2147483648) ≤ (v18 : Int32).toInt ∧ (v18 : Int32).toInt ≤ 2147483647) ∧ ((-2147483648) ≤ (v19 : Int32).toInt ∧ (v19 : Int32).toInt ≤ 2147483647) ∧ ((-2147483648) ≤ (v20 : Int32).toInt ∧ (v20 : Int32).toInt ≤ 2147483647) ∧ ((-2147483648) ≤ (v21 : Int32).toInt ∧ (v21 : Int32).toInt ≤ 2147483647) ∧ ((-2147483648) ≤ (v20 : Int32).toInt ∧ (v20 : Int32).toInt ≤ 2147483647) ∧ ((zGoC ia1_3.toInt ia1_9.toInt ga1_0 fa1_1 fa1_2 fa0_0_0 fa1_4 ia1_8 p2 p3.toInt (v17 : Int32) (v18 : Int32) (v19 : Int32) (v20 : Int32) ∧ zGoLC ia1_3.toInt ia1_9.toInt ga1_0 fa1_1 fa1_2 fa0_0_0 fa1_4 ia1_8 p2 (v20 : Int32) (v21 : Int32) ∧ (v20 : Int32) = (v20 : Int32))) from ⟨⟨(z_lo v17), (z_hi v17)⟩, ⟨(z_lo v18), (z_hi v18)⟩, ⟨(z_lo v19), (z_hi v19)⟩, ⟨(z_lo v20), (z_hi v20)⟩, ⟨(z_lo v21), (z_hi v21)⟩, ⟨z_lo _, z_hi _⟩, hpo⟩), by rw [ht]; exact hP9, hD9⟩, hS.F ht⟩) hS.2.2 dX2_go_42
  exact hL178 ((60 - (0 : Int32).toInt).toNat + 1) 0 0 0 (-9) 0 0 _ _ ls (by decide) (by decide) (z_goI0 (by decide)) (by have e0 : (0 : Int32).toInt = 0 := (by decide); omega) (z_goL0 (by decide)) (by omega) hl hP hD hS
set_option maxRecDepth 20000 in
theorem edX2_timesToPrompt_0 : decode cX2_timesToPrompt 0 = .ok (.iconst 0, 1) ∧ decode cX2_timesToPrompt 1 = .ok (.istore_n 2, 1) ∧ decode cX2_timesToPrompt 2 = .ok (.aload_n 0, 1) ∧ decode cX2_timesToPrompt 3 = .ok (.getfield 21, 3) ∧ decode cX2_timesToPrompt 6 = .ok (.invokevirtual 70, 3) ∧ decode cX2_timesToPrompt 9 = .ok (.iconst 0, 1) ∧ decode cX2_timesToPrompt 10 = .ok (.istore_n 3, 1) ∧ decode cX2_timesToPrompt 11 = .ok (.iload_n 3, 1) ∧ decode cX2_timesToPrompt 12 = .ok (.aload_n 1, 1) ∧ decode cX2_timesToPrompt 13 = .ok (.getfield 80, 3) ∧ decode cX2_timesToPrompt 16 = .ok (.iconst 1, 1) ∧ decode cX2_timesToPrompt 17 = .ok (.isub, 1) := by decide +kernel
theorem dX2_timesToPrompt_0 : decode cX2_timesToPrompt 0 = .ok (.iconst 0, 1) := edX2_timesToPrompt_0.1
theorem dX2_timesToPrompt_1 : decode cX2_timesToPrompt 1 = .ok (.istore_n 2, 1) := edX2_timesToPrompt_0.2.1
theorem dX2_timesToPrompt_2 : decode cX2_timesToPrompt 2 = .ok (.aload_n 0, 1) := edX2_timesToPrompt_0.2.2.1
theorem dX2_timesToPrompt_3 : decode cX2_timesToPrompt 3 = .ok (.getfield 21, 3) := edX2_timesToPrompt_0.2.2.2.1
theorem dX2_timesToPrompt_6 : decode cX2_timesToPrompt 6 = .ok (.invokevirtual 70, 3) := edX2_timesToPrompt_0.2.2.2.2.1
theorem dX2_timesToPrompt_9 : decode cX2_timesToPrompt 9 = .ok (.iconst 0, 1) := edX2_timesToPrompt_0.2.2.2.2.2.1
theorem dX2_timesToPrompt_10 : decode cX2_timesToPrompt 10 = .ok (.istore_n 3, 1) := edX2_timesToPrompt_0.2.2.2.2.2.2.1
theorem dX2_timesToPrompt_11 : decode cX2_timesToPrompt 11 = .ok (.iload_n 3, 1) := edX2_timesToPrompt_0.2.2.2.2.2.2.2.1
theorem dX2_timesToPrompt_12 : decode cX2_timesToPrompt 12 = .ok (.aload_n 1, 1) := edX2_timesToPrompt_0.2.2.2.2.2.2.2.2.1
theorem dX2_timesToPrompt_13 : decode cX2_timesToPrompt 13 = .ok (.getfield 80, 3) := edX2_timesToPrompt_0.2.2.2.2.2.2.2.2.2.1
theorem dX2_timesToPrompt_16 : decode cX2_timesToPrompt 16 = .ok (.iconst 1, 1) := edX2_timesToPrompt_0.2.2.2.2.2.2.2.2.2.2.1
theorem dX2_timesToPrompt_17 : decode cX2_timesToPrompt 17 = .ok (.isub, 1) := edX2_timesToPrompt_0.2.2.2.2.2.2.2.2.2.2.2
set_option maxRecDepth 20000 in
theorem edX2_timesToPrompt_18 : decode cX2_timesToPrompt 18 = .ok (.if_icmp .ge 38, 3) ∧ decode cX2_timesToPrompt 21 = .ok (.aload_n 1, 1) ∧ decode cX2_timesToPrompt 22 = .ok (.aload_n 0, 1) ∧ decode cX2_timesToPrompt 23 = .ok (.getfield 21, 3) ∧ decode cX2_timesToPrompt 26 = .ok (.iload_n 3, 1) ∧ decode cX2_timesToPrompt 27 = .ok (.invokevirtual 76, 3) ∧ decode cX2_timesToPrompt 30 = .ok (.aload_n 0, 1) ∧ decode cX2_timesToPrompt 31 = .ok (.aload_n 1, 1) ∧ decode cX2_timesToPrompt 32 = .ok (.aload_n 0, 1) ∧ decode cX2_timesToPrompt 33 = .ok (.getfield 21, 3) ∧ decode cX2_timesToPrompt 36 = .ok (.bipush (-9), 2) ∧ decode cX2_timesToPrompt 38 = .ok (.invokevirtual 73, 3) := by decide +kernel
theorem dX2_timesToPrompt_18 : decode cX2_timesToPrompt 18 = .ok (.if_icmp .ge 38, 3) := edX2_timesToPrompt_18.1
theorem dX2_timesToPrompt_21 : decode cX2_timesToPrompt 21 = .ok (.aload_n 1, 1) := edX2_timesToPrompt_18.2.1
theorem dX2_timesToPrompt_22 : decode cX2_timesToPrompt 22 = .ok (.aload_n 0, 1) := edX2_timesToPrompt_18.2.2.1
theorem dX2_timesToPrompt_23 : decode cX2_timesToPrompt 23 = .ok (.getfield 21, 3) := edX2_timesToPrompt_18.2.2.2.1
theorem dX2_timesToPrompt_26 : decode cX2_timesToPrompt 26 = .ok (.iload_n 3, 1) := edX2_timesToPrompt_18.2.2.2.2.1
theorem dX2_timesToPrompt_27 : decode cX2_timesToPrompt 27 = .ok (.invokevirtual 76, 3) := edX2_timesToPrompt_18.2.2.2.2.2.1
theorem dX2_timesToPrompt_30 : decode cX2_timesToPrompt 30 = .ok (.aload_n 0, 1) := edX2_timesToPrompt_18.2.2.2.2.2.2.1
theorem dX2_timesToPrompt_31 : decode cX2_timesToPrompt 31 = .ok (.aload_n 1, 1) := edX2_timesToPrompt_18.2.2.2.2.2.2.2.1
theorem dX2_timesToPrompt_32 : decode cX2_timesToPrompt 32 = .ok (.aload_n 0, 1) := edX2_timesToPrompt_18.2.2.2.2.2.2.2.2.1
theorem dX2_timesToPrompt_33 : decode cX2_timesToPrompt 33 = .ok (.getfield 21, 3) := edX2_timesToPrompt_18.2.2.2.2.2.2.2.2.2.1
theorem dX2_timesToPrompt_36 : decode cX2_timesToPrompt 36 = .ok (.bipush (-9), 2) := edX2_timesToPrompt_18.2.2.2.2.2.2.2.2.2.2.1
theorem dX2_timesToPrompt_38 : decode cX2_timesToPrompt 38 = .ok (.invokevirtual 73, 3) := edX2_timesToPrompt_18.2.2.2.2.2.2.2.2.2.2.2
set_option maxRecDepth 20000 in
theorem edX2_timesToPrompt_41 : decode cX2_timesToPrompt 41 = .ok (.iload_n 3, 1) ∧ decode cX2_timesToPrompt 42 = .ok (.iconst 1, 1) ∧ decode cX2_timesToPrompt 43 = .ok (.iadd, 1) ∧ decode cX2_timesToPrompt 44 = .ok (.if_icmp .eq 6, 3) ∧ decode cX2_timesToPrompt 47 = .ok (.iinc 2 1, 3) ∧ decode cX2_timesToPrompt 50 = .ok (.iinc 3 1, 3) ∧ decode cX2_timesToPrompt 53 = .ok (.goto (-42), 3) ∧ decode cX2_timesToPrompt 56 = .ok (.iload_n 2, 1) ∧ decode cX2_timesToPrompt 57 = .ok (.ireturn, 1) := by decide +kernel
theorem dX2_timesToPrompt_41 : decode cX2_timesToPrompt 41 = .ok (.iload_n 3, 1) := edX2_timesToPrompt_41.1
theorem dX2_timesToPrompt_42 : decode cX2_timesToPrompt 42 = .ok (.iconst 1, 1) := edX2_timesToPrompt_41.2.1
theorem dX2_timesToPrompt_43 : decode cX2_timesToPrompt 43 = .ok (.iadd, 1) := edX2_timesToPrompt_41.2.2.1
theorem dX2_timesToPrompt_44 : decode cX2_timesToPrompt 44 = .ok (.if_icmp .eq 6, 3) := edX2_timesToPrompt_41.2.2.2.1
theorem dX2_timesToPrompt_47 : decode cX2_timesToPrompt 47 = .ok (.iinc 2 1, 3) := edX2_timesToPrompt_41.2.2.2.2.1
theorem dX2_timesToPrompt_50 : decode cX2_timesToPrompt 50 = .ok (.iinc 3 1, 3) := edX2_timesToPrompt_41.2.2.2.2.2.1
theorem dX2_timesToPrompt_53 : decode cX2_timesToPrompt 53 = .ok (.goto (-42), 3) := edX2_timesToPrompt_41.2.2.2.2.2.2.1
theorem dX2_timesToPrompt_56 : decode cX2_timesToPrompt 56 = .ok (.iload_n 2, 1) := edX2_timesToPrompt_41.2.2.2.2.2.2.2.1
theorem dX2_timesToPrompt_57 : decode cX2_timesToPrompt 57 = .ok (.ireturn, 1) := edX2_timesToPrompt_41.2.2.2.2.2.2.2.2
noncomputable def voX2_timesToPrompt : List Cond := [.fieldLink RX2 21 "EachOnHisCue$Evening" "saying" "LEachOnHisCue$Saying;", .fieldLink RX2 80 "EachOnHisCue$Play" "lines" "I", .methodLink RX2 70 yX9_forget, .instanceMethod yX9_forget, .selects RX9 yX9_forget yX9_forget, .initialized RX9, .methodLink RX2 76 yX7_speak, .instanceMethod yX7_speak, .selects RX7 yX7_speak yX7_speak, .initialized RX7, .methodLink RX2 73 yX2_nextLine, .instanceMethod yX2_nextLine, .selects RX2 yX2_nextLine yX2_nextLine, .initialized RX2]
noncomputable def vsX2_timesToPrompt : List Cond := .code yX2_timesToPrompt cX2_timesToPrompt 4 (some .int) :: (voX2_timesToPrompt ++ (vsX9_forget ++ (vsX7_speak ++ (vsX2_nextLine ++ (wsX20 ++ (wsX70))))))
theorem zgX2_timesToPrompt : zGd vsX2_timesToPrompt := z_gdC rfl (z_gdA (z_gdO (by decide +kernel) : zGd voX2_timesToPrompt) (z_gdA zgX9_forget (z_gdA zgX7_speak (z_gdA zgX2_nextLine (z_gdA zgX2 (zgX7))))))
theorem in_X2_timesToPrompt_X2 : ∀ w ∈ wsX20, w ∈ vsX2_timesToPrompt := fun _ h => List.mem_cons_of_mem _ (List.mem_append_right _ (List.mem_append_right _ (List.mem_append_right _ (List.mem_append_right _ (List.mem_append_left _ h)))))
theorem in_X2_timesToPrompt_X7 : ∀ w ∈ wsX70, w ∈ vsX2_timesToPrompt := fun _ h => List.mem_cons_of_mem _ (List.mem_append_right _ (List.mem_append_right _ (List.mem_append_right _ (List.mem_append_right _ (List.mem_append_right _ (h))))))
theorem gw_X2_timesToPrompt_X9_forget : GoodIn vsX2_timesToPrompt vsX9_forget := z_gdI (fun _ h => List.mem_cons_of_mem _ (List.mem_append_right _ (List.mem_append_left _ h))) zgX9_forget
set_option maxRecDepth 20000 in
theorem gv_X2_timesToPrompt_X9_forget_70 : GoodIn vsX2_timesToPrompt (wsV RX2 70 RX9 yX9_forget vsX9_forget) := goodIn_app (goodIn_of _ (by decide +kernel)) gw_X2_timesToPrompt_X9_forget
theorem gw_X2_timesToPrompt_X7_speak : GoodIn vsX2_timesToPrompt vsX7_speak := z_gdI (fun _ h => List.mem_cons_of_mem _ (List.mem_append_right _ (List.mem_append_right _ (List.mem_append_left _ h)))) zgX7_speak
set_option maxRecDepth 20000 in
theorem gv_X2_timesToPrompt_X7_speak_76 : GoodIn vsX2_timesToPrompt (wsV RX2 76 RX7 yX7_speak vsX7_speak) := goodIn_app (goodIn_of _ (by decide +kernel)) gw_X2_timesToPrompt_X7_speak
theorem gw_X2_timesToPrompt_X2_nextLine : GoodIn vsX2_timesToPrompt vsX2_nextLine := z_gdI (fun _ h => List.mem_cons_of_mem _ (List.mem_append_right _ (List.mem_append_right _ (List.mem_append_right _ (List.mem_append_left _ h))))) zgX2_nextLine
set_option maxRecDepth 20000 in
theorem gv_X2_timesToPrompt_X2_nextLine_73 : GoodIn vsX2_timesToPrompt (wsV RX2 73 RX2 yX2_nextLine vsX2_nextLine) := goodIn_app (goodIn_of _ (by decide +kernel)) gw_X2_timesToPrompt_X2_nextLine
set_option maxHeartbeats 4000000 in
set_option maxRecDepth 100000 in
theorem wX2_timesToPrompt (l : Launch) (dC : Nat → ClassId) (dI : Nat → Nat → Nat) (cI cQ : ClassId) (ha0 ha1 ha0_0_0 ha0_0 ha0_1 ha1_0 ha1_1 ha1_2 ha1_4 ha1_5 ha1_6 ha1_7 ha1_11 : Nat) (PL : Nat → Nat → Int32 → Prop) (fa0_0_0 : Nat → Int32) (ia0_0_1 : Int32) (hia0_0_1l : 0 ≤ ia0_0_1.toInt) (hia0_0_1h : ia0_0_1.toInt ≤ 12) (ia0_1_0 : Int32) (ia0_1_1 : Int32) (ia0_1_2 : Int32) (ia0_1_3 : Int32) (ia0_1_4 : Int32) (ia0_2 : Int32) (ga1_0 : Nat → ZQ) (hPLga1_0 : zHp PL ga1_0) (fa1_1 : Nat → Int32) (fa1_2 : Nat → Int32) (fa1_4 : Nat → Int32) (ia1_3 : Int32) (hia1_3l : 0 ≤ ia1_3.toInt) (hia1_3h : ia1_3.toInt ≤ 5) (ia1_8 : Int32) (ia1_9 : Int32) (hia1_9l : 0 ≤ ia1_9.toInt) (hia1_9h : ia1_9.toInt ≤ 12) (ia1_10 : Int32) (sz : Nat) : Met l yX2_timesToPrompt vsX2_timesToPrompt ({ frames := 5, cells := 0, slots := 0, locals := 119 }) (va_Pc [.ref ha0, .ref ha1] (zBP dC dI cI cQ PL [(ha0_0_0, .inl (cI, 12, .inl fa0_0_0)), (ha0_0, .inr (5, [.ref ha0_0_0, .int ia0_0_1])), (ha0_1, .inr (9, [.int ia0_1_0, .int ia0_1_1, .int ia0_1_2, .int ia0_1_3, .int ia0_1_4])), (ha0, .inr (2, [.ref ha0_0, .ref ha0_1, .int ia0_2])), (ha1_0, .inl (cQ, 5, .inr (.inr (.inr (.inr (fun i => (ga1_0 i).1)))))), (ha1_1, .inl (cI, 5, .inl fa1_1)), (ha1_2, .inl (cI, 5, .inl fa1_2)), (ha1_4, .inl (cI, 12, .inl fa1_4)), (ha1, .inr (7, [.ref ha1_0, .ref ha1_1, .ref ha1_2, .int ia1_3, .ref ha1_4, .ref ha1_5, .ref ha1_6, .ref ha1_7, .int ia1_8, .int ia1_9, .int ia1_10, .ref ha1_11]))] sz)) (zWi dC dI (va_A [(ha0_0_0, .inl (cI, 12, .inl fa0_0_0)), (ha0_0, .inr (5, [.ref ha0_0_0, .int ia0_0_1])), (ha0_1, .inr (9, [.int ia0_1_0, .int ia0_1_1, .int ia0_1_2, .int ia0_1_3, .int ia0_1_4])), (ha0, .inr (2, [.ref ha0_0, .ref ha0_1, .int ia0_2])), (ha1_0, .inl (cQ, 5, .inr (.inr (.inr (.inr (fun i => (ga1_0 i).1)))))), (ha1_1, .inl (cI, 5, .inl fa1_1)), (ha1_2, .inl (cI, 5, .inl fa1_2)), (ha1_4, .inl (cI, 12, .inl fa1_4)), (ha1, .inr (7, [.ref ha1_0, .ref ha1_1, .ref ha1_2, .int ia1_3, .ref ha1_4, .ref ha1_5, .ref ha1_6, .ref ha1_7, .int ia1_8, .int ia1_9, .int ia1_10, .ref ha1_11]))] sz) (fun u => [(ha0_0_0, .inl (cI, 12, .inl fa0_0_0)), (ha0_0, .inr (5, [.ref ha0_0_0, .int ia0_0_1])), (ha0_1, .inr (9, [.int (u.1 0), .int (u.1 1), .int (u.1 2), .int (u.1 3), .int (u.1 4)])), (ha0, .inr (2, [.ref ha0_0, .ref ha0_1, .int ia0_2])), (ha1_0, .inl (cQ, 5, .inr (.inr (.inr (.inr (fun i => (ga1_0 i).1)))))), (ha1_1, .inl (cI, 5, .inl fa1_1)), (ha1_2, .inl (cI, 5, .inl fa1_2)), (ha1_4, .inl (cI, 12, .inl fa1_4)), (ha1, .inr (7, [.ref ha1_0, .ref ha1_1, .ref ha1_2, .int ia1_3, .ref ha1_4, .ref ha1_5, .ref ha1_6, .ref ha1_7, .int ia1_8, .int ia1_9, .int ia1_10, .ref ha1_11]))]) (fun r u => ((-2147483648) ≤ (u.1 0).toInt ∧ (u.1 0).toInt ≤ 2147483647) ∧ ((-2147483648) ≤ (u.1 1).toInt ∧ (u.1 1).toInt ≤ 2147483647) ∧ ((-2147483648) ≤ (u.1 2).toInt ∧ (u.1 2).toInt ≤ 2147483647) ∧ ((-2147483648) ≤ (u.1 3).toInt ∧ (u.1 3).toInt ≤ 2147483647) ∧ ((-2147483648) ≤ (u.1 4).toInt ∧ (u.1 4).toInt ≤ 2147483647) ∧ ((-2147483648) ≤ r.toInt ∧ r.toInt ≤ 2147483647) ∧ True)) 0 0 (va_A [(ha0_0_0, .inl (cI, 12, .inl fa0_0_0)), (ha0_0, .inr (5, [.ref ha0_0_0, .int ia0_0_1])), (ha0_1, .inr (9, [.int ia0_1_0, .int ia0_1_1, .int ia0_1_2, .int ia0_1_3, .int ia0_1_4])), (ha0, .inr (2, [.ref ha0_0, .ref ha0_1, .int ia0_2])), (ha1_0, .inl (cQ, 5, .inr (.inr (.inr (.inr (fun i => (ga1_0 i).1)))))), (ha1_1, .inl (cI, 5, .inl fa1_1)), (ha1_2, .inl (cI, 5, .inl fa1_2)), (ha1_4, .inl (cI, 12, .inl fa1_4)), (ha1, .inr (7, [.ref ha1_0, .ref ha1_1, .ref ha1_2, .int ia1_3, .ref ha1_4, .ref ha1_5, .ref ha1_6, .ref ha1_7, .int ia1_8, .int ia1_9, .int ia1_10, .ref ha1_11]))] sz) := by
  refine Met.ofW (cc := cX2_timesToPrompt) (maxL := 4) (ret := (some .int)) (by decide) rfl ?_
  intro p e s m args below meth c s₁ B hml hv
  obtain ⟨rfl, ⟨hsz, hP, hZ, hD0⟩, hPl0, hPlN⟩ := hv
  obtain ⟨hK, hAO, hN⟩ := id hZ
  have hx := B.exec
  have hb := B.bytes
  have hr := B.returns
  have hts := atoms_spec (ws := vsX2_timesToPrompt) B.pre
  have hown : s.vm.findClass RX2 = some m.cls := findClass_of_methodNamed B.named
  have hlocks := B.notSynchronized
  subst hsz
  have hD := hD0.self (sz := s.heap.size)
  have hPlA := z_plA hPlN
  generalize hAe : va_A [(ha0_0_0, .inl (cI, 12, .inl fa0_0_0)), (ha0_0, .inr (5, [.ref ha0_0_0, .int ia0_0_1])), (ha0_1, .inr (9, [.int ia0_1_0, .int ia0_1_1, .int ia0_1_2, .int ia0_1_3, .int ia0_1_4])), (ha0, .inr (2, [.ref ha0_0, .ref ha0_1, .int ia0_2])), (ha1_0, .inl (cQ, 5, .inr (.inr (.inr (.inr (fun i => (ga1_0 i).1)))))), (ha1_1, .inl (cI, 5, .inl fa1_1)), (ha1_2, .inl (cI, 5, .inl fa1_2)), (ha1_4, .inl (cI, 12, .inl fa1_4)), (ha1, .inr (7, [.ref ha1_0, .ref ha1_1, .ref ha1_2, .int ia1_3, .ref ha1_4, .ref ha1_5, .ref ha1_6, .ref ha1_7, .int ia1_8, .int ia1_9, .int ia1_10, .ref ha1_11]))] s.heap.size = A at hD hPlA ⊢
  have hA : ∀ q : Nat, s.heap.size ≤ q → A q := fun q h => by rw [← hAe]; exact Or.inr h
  have hS : va_S A s.heap s.heap [] := va_S.rf
  have hP : va_P (dC, dI) vwCl [(ha0_0_0, .inl (cI, 12, .inl fa0_0_0)), (ha0_0, .inr (5, [.ref ha0_0_0, .int ia0_0_1])), (ha0_1, .inr (9, [.int ia0_1_0, .int ia0_1_1, .int ia0_1_2, .int ia0_1_3, .int ia0_1_4])), (ha0, .inr (2, [.ref ha0_0, .ref ha0_1, .int ia0_2])), (ha1_0, .inl (cQ, 5, .inr (.inr (.inr (.inr (fun i => (ga1_0 i).1)))))), (ha1_1, .inl (cI, 5, .inl fa1_1)), (ha1_2, .inl (cI, 5, .inl fa1_2)), (ha1_4, .inl (cI, 12, .inl fa1_4)), (ha1, .inr (7, [.ref ha1_0, .ref ha1_1, .ref ha1_2, .int ia1_3, .ref ha1_4, .ref ha1_5, .ref ha1_6, .ref ha1_7, .int ia1_8, .int ia1_9, .int ia1_10, .ref ha1_11]))] s.heap := hP
  have hl := lv_entry ([.ref ha0, .ref ha1]) (n := 4) (Nat.le_of_ble_eq_true rfl)
  rw [lg_entry_eq]
  generalize (lg_sl ([.ref ha0, .ref ha1]) ++ List.replicate (4 - (lg_sl ([.ref ha0, .ref ha1])).length) Slot.unset).toArray = ls at hl ⊢
  have hl : lv_has ls 4 [(0, .ref ha0), (1, .ref ha1)] := hl
  refine lv_iconst (v := 0) hx hb dX2_timesToPrompt_0 (by decide) ?_
  refine lv_istore_n (lv' := [(2, .int 0), (0, .ref ha0), (1, .ref ha1)]) hx hb dX2_timesToPrompt_1 rfl hl (by decide) rfl (fun ls hl => ?_)
  refine lv_aload_n hx hb dX2_timesToPrompt_2 rfl (lv_at hl 1 rfl) ?_
  refine va_get (D := (dC, dI)) (ci := 2) (v := .ref ha0_1) (C := RX2) (T := TX2) (N := 3) hx hb hts in_X2_timesToPrompt_X2 hown hK hP 3 rfl rfl 1 (by decide) (hts (.fieldLink RX2 21 "EachOnHisCue$Evening" "saying" "LEachOnHisCue$Saying;") (by decide +kernel)) (fun _ h9 => h9) rfl dX2_timesToPrompt_3 ?_
  refine z_cwv (wc := [(ha0_1, .inr (9, [.int ia0_1_0, .int ia0_1_1, .int ia0_1_2, .int ia0_1_3, .int ia0_1_4]))]) (wr := [(ha0_0_0, .inl (cI, 12, .inl fa0_0_0)), (ha0_0, .inr (5, [.ref ha0_0_0, .int ia0_0_1])), (ha0, .inr (2, [.ref ha0_0, .ref ha0_1, .int ia0_2])), (ha1_0, .inl (cQ, 5, .inr (.inr (.inr (.inr (fun i => (ga1_0 i).1)))))), (ha1_1, .inl (cI, 5, .inl fa1_1)), (ha1_2, .inl (cI, 5, .inl fa1_2)), (ha1_4, .inl (cI, 12, .inl fa1_4)), (ha1, .inr (7, [.ref ha1_0, .ref ha1_1, .ref ha1_2, .int ia1_3, .ref ha1_4, .ref ha1_5, .ref ha1_6, .ref ha1_7, .int ia1_8, .int ia1_9, .int ia1_10, .ref ha1_11]))]) (w1 := fun u2 => [(ha0_1, .inr (9, [.int 0, .int 0, .int (-9), .int 0, .int 0]))]) (va_runV (As := []) (rest := []) ⟨hx, hb, hml, hown, hts⟩ (wX9_forget l dC dI cI cQ ha0_1 ia0_1_0 ia0_1_1 ia0_1_2 ia0_1_3 ia0_1_4 s.heap.size) (cwV 0 hts gv_X2_timesToPrompt_X9_forget_70 rfl rfl rfl (by decide +kernel) ⟨Nat.le_of_ble_eq_true rfl, Nat.le_of_ble_eq_true rfl⟩) ⟨z_blind, va_recv hK hP (ci := 9) (q0 := 2) rfl rfl, z_pre hZ hP hD [2] rfl (by decide +kernel)⟩ rfl rfl hl.1 rfl (lv_room (Nat.le_of_ble_eq_true rfl)) dX2_timesToPrompt_6 ⟨Nat.le_of_ble_eq_true rfl, Nat.le_of_ble_eq_true rfl⟩) hP hD hS hA [2] [0, 1, 3, 4, 5, 6, 7, 8] rfl rfl (by decide +kernel) (by decide +kernel) (fun u2 H locs hpo hP hD hS => ?_)
  have hP : va_P (dC, dI) vwCl [(ha0_0_0, .inl (cI, 12, .inl fa0_0_0)), (ha0_0, .inr (5, [.ref ha0_0_0, .int ia0_0_1])), (ha0, .inr (2, [.ref ha0_0, .ref ha0_1, .int ia0_2])), (ha1_0, .inl (cQ, 5, .inr (.inr (.inr (.inr (fun i => (ga1_0 i).1)))))), (ha1_1, .inl (cI, 5, .inl fa1_1)), (ha1_2, .inl (cI, 5, .inl fa1_2)), (ha1_4, .inl (cI, 12, .inl fa1_4)), (ha1, .inr (7, [.ref ha1_0, .ref ha1_1, .ref ha1_2, .int ia1_3, .ref ha1_4, .ref ha1_5, .ref ha1_6, .ref ha1_7, .int ia1_8, .int ia1_9, .int ia1_10, .ref ha1_11])), (ha0_1, .inr (9, [.int 0, .int 0, .int (-9), .int 0, .int 0]))] H := hP
  have hD : va_D A [(ha0_0_0, .inl (cI, 12, .inl fa0_0_0)), (ha0_0, .inr (5, [.ref ha0_0_0, .int ia0_0_1])), (ha0, .inr (2, [.ref ha0_0, .ref ha0_1, .int ia0_2])), (ha1_0, .inl (cQ, 5, .inr (.inr (.inr (.inr (fun i => (ga1_0 i).1)))))), (ha1_1, .inl (cI, 5, .inl fa1_1)), (ha1_2, .inl (cI, 5, .inl fa1_2)), (ha1_4, .inl (cI, 12, .inl fa1_4)), (ha1, .inr (7, [.ref ha1_0, .ref ha1_1, .ref ha1_2, .int ia1_3, .ref ha1_4, .ref ha1_5, .ref ha1_6, .ref ha1_7, .int ia1_8, .int ia1_9, .int ia1_10, .ref ha1_11])), (ha0_1, .inr (9, [.int 0, .int 0, .int (-9), .int 0, .int 0]))] := hD
  have hy1po := hpo
  refine lv_iconst (v := 0) hx hb dX2_timesToPrompt_9 (by decide) ?_
  refine lv_istore_n (lv' := [(3, .int 0), (2, .int 0), (0, .ref ha0), (1, .ref ha1)]) hx hb dX2_timesToPrompt_10 rfl hl (by decide) rfl (fun ls hl => ?_)
  have hL350 : ∀ (n : Nat) (v3 : Int32) (v4 : Int32) (v22 : Int32) (v23 : Int32) (v24 : Int32) (v25 : Int32) (v26 : Int32) (H : Heap) (locs : List Loc) (ls : Array Slot), 0 ≤ v3.toInt → v3.toInt ≤ 11 → (11 - v3.toInt).toNat < n → lv_has ls 4 [(3, .int v3), (2, .int v4), (0, .ref ha0), (1, .ref ha1)] → va_P (dC, dI) vwCl [(ha0_0_0, .inl (cI, 12, .inl fa0_0_0)), (ha0_0, .inr (5, [.ref ha0_0_0, .int ia0_0_1])), (ha0, .inr (2, [.ref ha0_0, .ref ha0_1, .int ia0_2])), (ha1_0, .inl (cQ, 5, .inr (.inr (.inr (.inr (fun i => (ga1_0 i).1)))))), (ha1_1, .inl (cI, 5, .inl fa1_1)), (ha1_2, .inl (cI, 5, .inl fa1_2)), (ha1_4, .inl (cI, 12, .inl fa1_4)), (ha1, .inr (7, [.ref ha1_0, .ref ha1_1, .ref ha1_2, .int ia1_3, .ref ha1_4, .ref ha1_5, .ref ha1_6, .ref ha1_7, .int ia1_8, .int ia1_9, .int ia1_10, .ref ha1_11])), (ha0_1, .inr (9, [.int v22, .int v23, .int v24, .int v25, .int v26]))] H → va_D A [(ha0_0_0, .inl (cI, 12, .inl fa0_0_0)), (ha0_0, .inr (5, [.ref ha0_0_0, .int ia0_0_1])), (ha0, .inr (2, [.ref ha0_0, .ref ha0_1, .int ia0_2])), (ha1_0, .inl (cQ, 5, .inr (.inr (.inr (.inr (fun i => (ga1_0 i).1)))))), (ha1_1, .inl (cI, 5, .inl fa1_1)), (ha1_2, .inl (cI, 5, .inl fa1_2)), (ha1_4, .inl (cI, 12, .inl fa1_4)), (ha1, .inr (7, [.ref ha1_0, .ref ha1_1, .ref ha1_2, .int ia1_3, .ref ha1_4, .ref ha1_5, .ref ha1_6, .ref ha1_7, .int ia1_8, .int ia1_9, .int ia1_10, .ref ha1_11])), (ha0_1, .inr (9, [.int v22, .int v23, .int v24, .int v25, .int v26]))] → va_S A s.heap H locs → W p l e (headSpec vsX2_timesToPrompt ({ frames := 5, cells := 0, slots := 0, locals := 119 })).room s m ([.ref ha0, .ref ha1] : List Value).toArray below meth c H locs 0 0 (MQ below (zWi dC dI (A) (fun u => [(ha0_0_0, .inl (cI, 12, .inl fa0_0_0)), (ha0_0, .inr (5, [.ref ha0_0_0, .int ia0_0_1])), (ha0_1, .inr (9, [.int (u.1 0), .int (u.1 1), .int (u.1 2), .int (u.1 3), .int (u.1 4)])), (ha0, .inr (2, [.ref ha0_0, .ref ha0_1, .int ia0_2])), (ha1_0, .inl (cQ, 5, .inr (.inr (.inr (.inr (fun i => (ga1_0 i).1)))))), (ha1_1, .inl (cI, 5, .inl fa1_1)), (ha1_2, .inl (cI, 5, .inl fa1_2)), (ha1_4, .inl (cI, 12, .inl fa1_4)), (ha1, .inr (7, [.ref ha1_0, .ref ha1_1, .ref ha1_2, .int ia1_3, .ref ha1_4, .ref ha1_5, .ref ha1_6, .ref ha1_7, .int ia1_8, .int ia1_9, .int ia1_10, .ref ha1_11]))]) (fun r u => ((-2147483648) ≤ (u.1 0).toInt ∧ (u.1 0).toInt ≤ 2147483647) ∧ ((-2147483648) ≤ (u.1 1).toInt ∧ (u.1 1).toInt ≤ 2147483647) ∧ ((-2147483648) ≤ (u.1 2).toInt ∧ (u.1 2).toInt ≤ 2147483647) ∧ ((-2147483648) ≤ (u.1 3).toInt ∧ (u.1 3).toInt ≤ 2147483647) ∧ ((-2147483648) ≤ (u.1 4).toInt ∧ (u.1 4).toInt ≤ 2147483647) ∧ ((-2147483648) ≤ r.toInt ∧ r.toInt ≤ 2147483647) ∧ True)) ([.ref ha0, .ref ha1] : List Value).toArray s 0 0 A) (F0 m 11 ls []) := by
    intro n
    induction n with
    | zero =>
      intro v3 v4 v22 v23 v24 v25 v26 H locs ls hi351_0 hi351_1 hi351_m hl hP hD hS
      exact absurd hi351_m (Nat.not_lt_zero _)
    | succ n ih =>
      intro v3 v4 v22 v23 v24 v25 v26 H locs ls hi351_0 hi351_1 hi351_m hl hP hD hS
      have ih352 := ih
      refine lv_iload_n hx hb dX2_timesToPrompt_11 rfl (lv_at hl 0 rfl) ?_
      refine lv_aload_n hx hb dX2_timesToPrompt_12 rfl (lv_at hl 3 rfl) ?_
      refine va_get (D := (dC, dI)) (ci := 7) (v := .int ia1_9) (C := RX7) (T := TX7) (N := 12) hx hb hts in_X2_timesToPrompt_X7 hown hK hP 7 rfl rfl 9 (by decide) (hts (.fieldLink RX2 80 "EachOnHisCue$Play" "lines" "I") (by decide +kernel)) (fun _ h9 => h9) rfl dX2_timesToPrompt_13 ?_
      refine lv_iconst (v := 1) hx hb dX2_timesToPrompt_16 (by decide) ?_
      refine lv_isub hx hb dX2_timesToPrompt_17 ?_
      refine lv_topi (fun y353 ey353 => ?_)
      have hy353 : y353.toInt = ia1_9.toInt - 1 := by rw [ey353]; exact z_sub rfl (by decide) (by omega) (by omega)
      refine lv_icmp_ge (tgt := 56) hx hb dX2_timesToPrompt_18 (by decide) (fun hc => ?_) (fun hc => ?_)
      · have q354 : y353.toInt ≤ v3.toInt := z_le rfl rfl hc
        refine lv_iload_n hx hb dX2_timesToPrompt_56 rfl (lv_at hl 1 rfl) ?_
        have hP9 := hP.sub (ws' := [(ha0_0_0, .inl (cI, 12, .inl fa0_0_0)), (ha0_0, .inr (5, [.ref ha0_0_0, .int ia0_0_1])), (ha0_1, .inr (9, [.int v22, .int v23, .int v24, .int v25, .int v26])), (ha0, .inr (2, [.ref ha0_0, .ref ha0_1, .int ia0_2])), (ha1_0, .inl (cQ, 5, .inr (.inr (.inr (.inr (fun i => (ga1_0 i).1)))))), (ha1_1, .inl (cI, 5, .inl fa1_1)), (ha1_2, .inl (cI, 5, .inl fa1_2)), (ha1_4, .inl (cI, 12, .inl fa1_4)), (ha1, .inr (7, [.ref ha1_0, .ref ha1_1, .ref ha1_2, .int ia1_3, .ref ha1_4, .ref ha1_5, .ref ha1_6, .ref ha1_7, .int ia1_8, .int ia1_9, .int ia1_10, .ref ha1_11]))]) [0, 1, 8, 2, 3, 4, 5, 6, 7] rfl
        have hD9 := hD.sub (ws' := [(ha0_0_0, .inl (cI, 12, .inl fa0_0_0)), (ha0_0, .inr (5, [.ref ha0_0_0, .int ia0_0_1])), (ha0_1, .inr (9, [.int v22, .int v23, .int v24, .int v25, .int v26])), (ha0, .inr (2, [.ref ha0_0, .ref ha0_1, .int ia0_2])), (ha1_0, .inl (cQ, 5, .inr (.inr (.inr (.inr (fun i => (ga1_0 i).1)))))), (ha1_1, .inl (cI, 5, .inl fa1_1)), (ha1_2, .inl (cI, 5, .inl fa1_2)), (ha1_4, .inl (cI, 12, .inl fa1_4)), (ha1, .inr (7, [.ref ha1_0, .ref ha1_1, .ref ha1_2, .int ia1_3, .ref ha1_4, .ref ha1_5, .ref ha1_6, .ref ha1_7, .int ia1_8, .int ia1_9, .int ia1_10, .ref ha1_11]))]) [0, 1, 8, 2, 3, 4, 5, 6, 7] (by decide) rfl
        exact W.iret (v := v4) hx hb hr (fun t ht hW => ⟨⟨v4, (fun k => [v22, v23, v24, v25, v26].getD k 0, fun k => [].getD k (fun _ => 0)), rfl, (show ((-2147483648) ≤ (v22 : Int32).toInt ∧ (v22 : Int32).toInt ≤ 2147483647) ∧ ((-2147483648) ≤ (v23 : Int32).toInt ∧ (v23 : Int32).toInt ≤ 2147483647) ∧ ((-2147483648) ≤ (v24 : Int32).toInt ∧ (v24 : Int32).toInt ≤ 2147483647) ∧ ((-2147483648) ≤ (v25 : Int32).toInt ∧ (v25 : Int32).toInt ≤ 2147483647) ∧ ((-2147483648) ≤ (v26 : Int32).toInt ∧ (v26 : Int32).toInt ≤ 2147483647) ∧ ((-2147483648) ≤ (v4 : Int32).toInt ∧ (v4 : Int32).toInt ≤ 2147483647) ∧ (True) from ⟨⟨(z_lo v22), (z_hi v22)⟩, ⟨(z_lo v23), (z_hi v23)⟩, ⟨(z_lo v24), (z_hi v24)⟩, ⟨(z_lo v25), (z_hi v25)⟩, ⟨(z_lo v26), (z_hi v26)⟩, ⟨z_lo _, z_hi _⟩, trivial⟩), by rw [ht]; exact hP9, hD9⟩, hS.F ht⟩) hS.2.2 dX2_timesToPrompt_57
      · have q355 : v3.toInt < y353.toInt := z_nle rfl rfl hc
        refine lv_aload_n hx hb dX2_timesToPrompt_21 rfl (lv_at hl 3 rfl) ?_
        refine lv_aload_n hx hb dX2_timesToPrompt_22 rfl (lv_at hl 2 rfl) ?_
        refine va_get (D := (dC, dI)) (ci := 2) (v := .ref ha0_1) (C := RX2) (T := TX2) (N := 3) hx hb hts in_X2_timesToPrompt_X2 hown hK hP 2 rfl rfl 1 (by decide) (hts (.fieldLink RX2 21 "EachOnHisCue$Evening" "saying" "LEachOnHisCue$Saying;") (by decide +kernel)) (fun _ h9 => h9) rfl dX2_timesToPrompt_23 ?_
        refine lv_iload_n hx hb dX2_timesToPrompt_26 rfl (lv_at hl 0 rfl) ?_
        refine z_cwv (wc := [(ha1_4, .inl (cI, 12, .inl fa1_4)), (ha1, .inr (7, [.ref ha1_0, .ref ha1_1, .ref ha1_2, .int ia1_3, .ref ha1_4, .ref ha1_5, .ref ha1_6, .ref ha1_7, .int ia1_8, .int ia1_9, .int ia1_10, .ref ha1_11])), (ha0_1, .inr (9, [.int v22, .int v23, .int v24, .int v25, .int v26]))]) (wr := [(ha0_0_0, .inl (cI, 12, .inl fa0_0_0)), (ha0_0, .inr (5, [.ref ha0_0_0, .int ia0_0_1])), (ha0, .inr (2, [.ref ha0_0, .ref ha0_1, .int ia0_2])), (ha1_0, .inl (cQ, 5, .inr (.inr (.inr (.inr (fun i => (ga1_0 i).1)))))), (ha1_1, .inl (cI, 5, .inl fa1_1)), (ha1_2, .inl (cI, 5, .inl fa1_2))]) (w1 := fun u357 => [(ha1_4, .inl (cI, 12, .inl fa1_4)), (ha1, .inr (7, [.ref ha1_0, .ref ha1_1, .ref ha1_2, .int ia1_3, .ref ha1_4, .ref ha1_5, .ref ha1_6, .ref ha1_7, .int ia1_8, .int ia1_9, .int ia1_10, .ref ha1_11])), (ha0_1, .inr (9, [.int (u357.1 0), .int (u357.1 1), .int (u357.1 2), .int (u357.1 3), .int (u357.1 4)]))]) (va_runV (As := [.ref ha0_1, .int v3]) (rest := []) ⟨hx, hb, hml, hown, hts⟩ (wX7_speak l dC dI cI cQ ha1 ha0_1 ha1_4 ha1_0 ha1_1 ha1_2 ha1_5 ha1_6 ha1_7 ha1_11 fa1_4 ia1_3 hia1_3l hia1_3h ia1_8 ia1_9 hia1_9l hia1_9h ia1_10 v22 v23 v24 v25 v26 v3 H.size) (cwV 2 hts gv_X2_timesToPrompt_X7_speak_76 rfl rfl rfl (by decide +kernel) ⟨Nat.le_of_ble_eq_true rfl, Nat.le_of_ble_eq_true rfl⟩) ⟨z_blind, va_recv hK hP (ci := 7) (q0 := 7) rfl rfl, z_pre hZ hP hD [6, 7, 8] rfl (by decide +kernel)⟩ rfl rfl hl.1 rfl (lv_room (Nat.le_of_ble_eq_true rfl)) dX2_timesToPrompt_27 ⟨Nat.le_of_ble_eq_true rfl, Nat.le_of_ble_eq_true rfl⟩) hP hD hS hA [6, 7, 8] [0, 1, 2, 3, 4, 5] rfl rfl (by decide +kernel) (by decide +kernel) (fun u357 H locs hpo hP hD hS => ?_)
        generalize hgw358 : u357.1 0 = w358 at hP hD hpo
        generalize hgw359 : u357.1 1 = w359 at hP hD hpo
        generalize hgw360 : u357.1 2 = w360 at hP hD hpo
        generalize hgw361 : u357.1 3 = w361 at hP hD hpo
        generalize hgw362 : u357.1 4 = w362 at hP hD hpo
        have hP : va_P (dC, dI) vwCl [(ha0_0_0, .inl (cI, 12, .inl fa0_0_0)), (ha0_0, .inr (5, [.ref ha0_0_0, .int ia0_0_1])), (ha0, .inr (2, [.ref ha0_0, .ref ha0_1, .int ia0_2])), (ha1_0, .inl (cQ, 5, .inr (.inr (.inr (.inr (fun i => (ga1_0 i).1)))))), (ha1_1, .inl (cI, 5, .inl fa1_1)), (ha1_2, .inl (cI, 5, .inl fa1_2)), (ha1_4, .inl (cI, 12, .inl fa1_4)), (ha1, .inr (7, [.ref ha1_0, .ref ha1_1, .ref ha1_2, .int ia1_3, .ref ha1_4, .ref ha1_5, .ref ha1_6, .ref ha1_7, .int ia1_8, .int ia1_9, .int ia1_10, .ref ha1_11])), (ha0_1, .inr (9, [.int w358, .int w359, .int w360, .int w361, .int w362]))] H := hP
        have hD : va_D A [(ha0_0_0, .inl (cI, 12, .inl fa0_0_0)), (ha0_0, .inr (5, [.ref ha0_0_0, .int ia0_0_1])), (ha0, .inr (2, [.ref ha0_0, .ref ha0_1, .int ia0_2])), (ha1_0, .inl (cQ, 5, .inr (.inr (.inr (.inr (fun i => (ga1_0 i).1)))))), (ha1_1, .inl (cI, 5, .inl fa1_1)), (ha1_2, .inl (cI, 5, .inl fa1_2)), (ha1_4, .inl (cI, 12, .inl fa1_4)), (ha1, .inr (7, [.ref ha1_0, .ref ha1_1, .ref ha1_2, .int ia1_3, .ref ha1_4, .ref ha1_5, .ref ha1_6, .ref ha1_7, .int ia1_8, .int ia1_9, .int ia1_10, .ref ha1_11])), (ha0_1, .inr (9, [.int w358, .int w359, .int w360, .int w361, .int w362]))] := hD
        obtain ⟨hw358p, hw359p, hw360p, hw361p, hw362p, hy356po⟩ := hpo
        obtain ⟨hw358l, hw358h⟩ := hw358p
        obtain ⟨hw359l, hw359h⟩ := hw359p
        obtain ⟨hw360l, hw360h⟩ := hw360p
        obtain ⟨hw361l, hw361h⟩ := hw361p
        obtain ⟨hw362l, hw362h⟩ := hw362p
        refine lv_aload_n hx hb dX2_timesToPrompt_30 rfl (lv_at hl 2 rfl) ?_
        refine lv_aload_n hx hb dX2_timesToPrompt_31 rfl (lv_at hl 3 rfl) ?_
        refine lv_aload_n hx hb dX2_timesToPrompt_32 rfl (lv_at hl 2 rfl) ?_
        refine va_get (D := (dC, dI)) (ci := 2) (v := .ref ha0_1) (C := RX2) (T := TX2) (N := 3) hx hb hts in_X2_timesToPrompt_X2 hown hK hP 2 rfl rfl 1 (by decide) (hts (.fieldLink RX2 21 "EachOnHisCue$Evening" "saying" "LEachOnHisCue$Saying;") (by decide +kernel)) (fun _ h9 => h9) rfl dX2_timesToPrompt_33 ?_
        refine lv_bipush (v := (-9)) hx hb dX2_timesToPrompt_36 (by decide) ?_
        have hPl := z_plS hPl0 hPlA hS
        refine z_rdi (va_runV (As := [.ref ha1, .ref ha0_1, .int (-9)]) (rest := []) ⟨hx, hb, hml, hown, hts⟩ (rX2_nextLine l dC dI cI cQ ha0 ha1 ha0_1 ha0_0_0 ha0_0 ha1_0 ha1_1 ha1_2 ha0_1 ha1_4 ha1_5 ha1_6 ha1_7 ha1_11 PL fa0_0_0 ia0_0_1 hia0_0_1l hia0_0_1h ia0_2 ga1_0 hPLga1_0 fa1_1 fa1_2 ia1_3 hia1_3l hia1_3h ia1_8 ia1_9 hia1_9l hia1_9h ia1_10 w358 w359 w360 w361 w362 (-9)) (cwV 3 hts gv_X2_timesToPrompt_X2_nextLine_73 rfl rfl rfl (by decide +kernel) ⟨Nat.le_of_ble_eq_true rfl, Nat.le_of_ble_eq_true rfl⟩) ⟨z_blindRP, va_recv hK hP (ci := 2) (q0 := 2) rfl rfl, z_preRP hZ hP hPl [0, 1, 2, 3, 4, 5, 7, 8] rfl⟩ rfl rfl hl.1 rfl (lv_room (Nat.le_of_ble_eq_true rfl)) dX2_timesToPrompt_38 ⟨Nat.le_of_ble_eq_true rfl, Nat.le_of_ble_eq_true rfl⟩) (fun y363 hy363 => ?_)
        obtain ⟨hy363_0, hy363_1, hy363_2⟩ := hy363
        try simp only [show (-9 : Int32).toInt = -9 from by decide] at hy363_2
        refine lv_iload_n hx hb dX2_timesToPrompt_41 rfl (lv_at hl 0 rfl) ?_
        refine lv_iconst (v := 1) hx hb dX2_timesToPrompt_42 (by decide) ?_
        refine lv_iadd hx hb dX2_timesToPrompt_43 ?_
        refine lv_topi (fun y364 ey364 => ?_)
        have hy364 : y364.toInt = v3.toInt + 1 := by rw [ey364]; exact z_add rfl (by decide) (by omega) (by omega)
        refine lv_icmp_eq (tgt := 50) hx hb dX2_timesToPrompt_44 (by decide) (fun hc => ?_) (fun hc => ?_)
        · have q365 : y363.toInt = y364.toInt := z_eq rfl rfl hc
          obtain ⟨y366, ey366⟩ : ∃ y : Int32, y = v3 + 1 := ⟨_, rfl⟩
          refine lv_iinc (v := y366) (lv' := [(3, .int y366), (2, .int v4), (0, .ref ha0), (1, .ref ha1)]) hx hb dX2_timesToPrompt_50 hl (k := 0) rfl (by rw [ey366]; rfl) (by decide) rfl (fun ls hl => ?_)
          have hy366 : y366.toInt = v3.toInt + 1 := by rw [ey366]; exact z_add rfl (by decide) (by omega) (by omega)
          refine lv_goto (tgt := 11) hx hb dX2_timesToPrompt_53 (by decide) ?_
          exact ih352 y366 v4 w358 w359 w360 w361 w362 _ _ ls (by first | decide | omega) (by first | decide | omega) (by omega) (lv_sub hl [0, 1, 2, 3] rfl) hP hD hS
        · have q367 : y363.toInt ≠ y364.toInt := z_ne rfl rfl hc
          obtain ⟨y368, ey368⟩ : ∃ y : Int32, y = v4 + 1 := ⟨_, rfl⟩
          refine lv_iinc (v := y368) (lv' := [(2, .int y368), (3, .int v3), (0, .ref ha0), (1, .ref ha1)]) hx hb dX2_timesToPrompt_47 hl (k := 1) rfl (by rw [ey368]; rfl) (by decide) rfl (fun ls hl => ?_)
          obtain ⟨y369, ey369⟩ : ∃ y : Int32, y = v3 + 1 := ⟨_, rfl⟩
          refine lv_iinc (v := y369) (lv' := [(3, .int y369), (2, .int y368), (0, .ref ha0), (1, .ref ha1)]) hx hb dX2_timesToPrompt_50 hl (k := 1) rfl (by rw [ey369]; rfl) (by decide) rfl (fun ls hl => ?_)
          have hy369 : y369.toInt = v3.toInt + 1 := by rw [ey369]; exact z_add rfl (by decide) (by omega) (by omega)
          refine lv_goto (tgt := 11) hx hb dX2_timesToPrompt_53 (by decide) ?_
          exact ih352 y369 y368 w358 w359 w360 w361 w362 _ _ ls (by first | decide | omega) (by first | decide | omega) (by omega) (lv_sub hl [0, 1, 2, 3] rfl) hP hD hS
  exact hL350 ((11 - (0 : Int32).toInt).toNat + 1) 0 0 0 0 (-9) 0 0 _ _ ls (by decide) (by decide) (by omega) hl hP hD hS
