theorem dX4_add_0 : decode cX4_add 0 = .ok (.aload_n 0, 1) := by decide +kernel
theorem dX4_add_1 : decode cX4_add 1 = .ok (.getfield 15, 3) := by decide +kernel
theorem dX4_add_4 : decode cX4_add 4 = .ok (.bipush 80, 2) := by decide +kernel
theorem dX4_add_6 : decode cX4_add 6 = .ok (.if_icmp .ge 23, 3) := by decide +kernel
theorem dX4_add_9 : decode cX4_add 9 = .ok (.aload_n 0, 1) := by decide +kernel
theorem dX4_add_10 : decode cX4_add 10 = .ok (.getfield 9, 3) := by decide +kernel
theorem dX4_add_13 : decode cX4_add 13 = .ok (.aload_n 0, 1) := by decide +kernel
theorem dX4_add_14 : decode cX4_add 14 = .ok (.getfield 15, 3) := by decide +kernel
theorem dX4_add_17 : decode cX4_add 17 = .ok (.iload_n 1, 1) := by decide +kernel
theorem dX4_add_18 : decode cX4_add 18 = .ok (.iastore, 1) := by decide +kernel
theorem dX4_add_19 : decode cX4_add 19 = .ok (.aload_n 0, 1) := by decide +kernel
theorem dX4_add_20 : decode cX4_add 20 = .ok (.dup, 1) := by decide +kernel
theorem dX4_add_21 : decode cX4_add 21 = .ok (.getfield 15, 3) := by decide +kernel
theorem dX4_add_24 : decode cX4_add 24 = .ok (.iconst 1, 1) := by decide +kernel
theorem dX4_add_25 : decode cX4_add 25 = .ok (.iadd, 1) := by decide +kernel
theorem dX4_add_26 : decode cX4_add 26 = .ok (.putfield 15, 3) := by decide +kernel
theorem dX4_add_29 : decode cX4_add 29 = .ok (.return_, 1) := by decide +kernel
noncomputable def vsX4_add : List Cond := .code yX4_add cX4_add 2 none :: (([.fieldLink RX4 15 "EachOnHisCue$Letters" "size" "I", .fieldLink RX4 9 "EachOnHisCue$Letters" "row" "[I"] : List Cond) ++ wsX40)
theorem in_X4_add_X4 : ∀ w ∈ wsX40, w ∈ vsX4_add := fun _ h => List.mem_cons_of_mem _ (List.mem_append_right _ h)
set_option maxHeartbeats 4000000 in
set_option maxRecDepth 100000 in
theorem wX4_add (l : Launch) (dC : Nat → ClassId) (dI : Nat → Nat → Nat) (cI cQ : ClassId) (ha0 ha0_0 : Nat) (fa0_0 : Nat → Int32) (hBfa0_0 : ∀ k, 0 ≤ (fa0_0 k).toInt ∧ (fa0_0 k).toInt ≤ 255) (ia0_1 : Int32) (hia0_1l : 0 ≤ ia0_1.toInt) (hia0_1h : ia0_1.toInt ≤ 80) (p1 : Int32) (hp1l : 0 ≤ p1.toInt) (hp1h : p1.toInt ≤ 255) (sz : Nat) : Met l yX4_add vsX4_add ({ frames := 0, cells := 0, slots := 0, locals := 0 }) (va_Pc [.ref ha0, .int p1] (zB dC dI cI cQ [(ha0_0, .inl (cI, 80, .inl fa0_0)), (ha0, .inr (4, [.ref ha0_0, .int ia0_1]))] sz)) (zWv dC dI (va_A [(ha0_0, .inl (cI, 80, .inl fa0_0)), (ha0, .inr (4, [.ref ha0_0, .int ia0_1]))] sz) (fun u => [(ha0_0, .inl (cI, 80, .inl (u.2 0))), (ha0, .inr (4, [.ref ha0_0, .int (u.1 0)]))]) (fun u => (∀ k, 0 ≤ ((u.2 0) k).toInt ∧ ((u.2 0) k).toInt ≤ 255) ∧ (1 ≤ (u.1 0).toInt ∧ (u.1 0).toInt ≤ 80) ∧ True)) 0 0 (va_A [(ha0_0, .inl (cI, 80, .inl fa0_0)), (ha0, .inr (4, [.ref ha0_0, .int ia0_1]))] sz) := by
  refine Met.ofW (cc := cX4_add) (maxL := 2) (ret := none) (by decide) rfl ?_
  intro p e s m args below meth c s₁ B hml hv
  obtain ⟨rfl, hsz, hP, hZ, hD0⟩ := hv
  obtain ⟨hK, hAO, hN⟩ := id hZ
  have hx := B.exec
  have hb := B.bytes
  have hr := B.returns
  have hts := atoms_spec (ws := vsX4_add) B.pre
  have hown : s.vm.findClass RX4 = some m.cls := findClass_of_methodNamed B.named
  have hlocks := B.notSynchronized
  subst hsz
  have hD := hD0.self (sz := s.heap.size)
  generalize hAe : va_A [(ha0_0, .inl (cI, 80, .inl fa0_0)), (ha0, .inr (4, [.ref ha0_0, .int ia0_1]))] s.heap.size = A at hD ⊢
  have hA : ∀ q : Nat, s.heap.size ≤ q → A q := fun q h => by rw [← hAe]; exact Or.inr h
  have hS : va_S A s.heap s.heap [] := va_S.rf
  have hP : va_P (dC, dI) vwCl [(ha0_0, .inl (cI, 80, .inl fa0_0)), (ha0, .inr (4, [.ref ha0_0, .int ia0_1]))] s.heap := hP
  have hl := lv_entry ([.ref ha0, .int p1]) (n := 2) (Nat.le_of_ble_eq_true rfl)
  rw [lg_entry_eq]
  generalize (lg_sl ([.ref ha0, .int p1]) ++ List.replicate (2 - (lg_sl ([.ref ha0, .int p1])).length) Slot.unset).toArray = ls at hl ⊢
  have hl : lv_has ls 2 [(0, .ref ha0), (1, .int p1)] := hl
  refine lv_aload_n hx hb dX4_add_0 rfl (lv_at hl 0 rfl) ?_
  refine va_get (D := (dC, dI)) (ci := 4) (v := .int ia0_1) (C := RX4) (T := TX4) (N := 2) hx hb hts in_X4_add_X4 hown hK hP 1 rfl rfl 1 (by decide) (hts (.fieldLink RX4 15 "EachOnHisCue$Letters" "size" "I") (by decide +kernel)) (fun _ h9 => h9) rfl dX4_add_1 ?_
  refine lv_bipush (v := 80) hx hb dX4_add_4 (by decide) ?_
  refine lv_icmp_ge (tgt := 29) hx hb dX4_add_6 (by decide) (fun hc => ?_) (fun hc => ?_)
  · have q1 : 80 ≤ ia0_1.toInt := z_le (by decide) rfl hc
    have hP9 := hP.sub (ws' := [(ha0_0, .inl (cI, 80, .inl fa0_0)), (ha0, .inr (4, [.ref ha0_0, .int ia0_1]))]) [0, 1] rfl
    have hD9 := hD.sub (ws' := [(ha0_0, .inl (cI, 80, .inl fa0_0)), (ha0, .inr (4, [.ref ha0_0, .int ia0_1]))]) [0, 1] (by decide) rfl
    exact W.vret hx hb hr (fun t ht hW => ⟨⟨(fun k => [ia0_1].getD k 0, fun k => [fa0_0].getD k (fun _ => 0)), rfl, (show (∀ k, 0 ≤ (fa0_0 k).toInt ∧ (fa0_0 k).toInt ≤ 255) ∧ (1 ≤ (ia0_1 : Int32).toInt ∧ (ia0_1 : Int32).toInt ≤ 80) ∧ (True) from ⟨hBfa0_0, ⟨by first | omega | decide | exact z_lo _, by first | omega | decide | exact z_hi _⟩, trivial⟩), by rw [ht]; exact hP9, hD9⟩, hS.F ht⟩) hS.2.2 dX4_add_29
  · have q2 : ia0_1.toInt < 80 := z_nle (by decide) rfl hc
    refine lv_aload_n hx hb dX4_add_9 rfl (lv_at hl 0 rfl) ?_
    refine va_get (D := (dC, dI)) (ci := 4) (v := .ref ha0_0) (C := RX4) (T := TX4) (N := 2) hx hb hts in_X4_add_X4 hown hK hP 1 rfl rfl 0 (by decide) (hts (.fieldLink RX4 9 "EachOnHisCue$Letters" "row" "[I") (by decide +kernel)) (fun _ h9 => h9) rfl dX4_add_10 ?_
    refine lv_aload_n hx hb dX4_add_13 rfl (lv_at hl 0 rfl) ?_
    refine va_get (D := (dC, dI)) (ci := 4) (v := .int ia0_1) (C := RX4) (T := TX4) (N := 2) hx hb hts in_X4_add_X4 hown hK hP 1 rfl rfl 1 (by decide) (hts (.fieldLink RX4 15 "EachOnHisCue$Letters" "size" "I") (by decide +kernel)) (fun _ h9 => h9) rfl dX4_add_14 ?_
    refine lv_iload_n hx hb dX4_add_17 rfl (lv_at hl 1 rfl) ?_
    refine va_iast hx hb hK hP hD hS 0 0 rfl rfl (z_in (by omega) (by omega)) dX4_add_18 (fun H locs hP hD hS => ?_)
    generalize ef3 : upd fa0_0 (ia0_1 : Int32).toNatClampNeg p1 = f3 at hP hD
    have hBf3 : ∀ k, 0 ≤ (f3 k).toInt ∧ (f3 k).toInt ≤ 255 := by rw [← ef3]; exact z_updB hBfa0_0 (by first | omega | decide) (by first | omega | decide)
    have hP : va_P (dC, dI) vwCl [(ha0_0, .inl (cI, 80, .inl f3)), (ha0, .inr (4, [.ref ha0_0, .int ia0_1]))] H := hP
    have hD : va_D A [(ha0_0, .inl (cI, 80, .inl f3)), (ha0, .inr (4, [.ref ha0_0, .int ia0_1]))] := hD
    refine lv_aload_n hx hb dX4_add_19 rfl (lv_at hl 0 rfl) ?_
    refine lv_dup hx hb dX4_add_20 rfl ?_
    refine va_get (D := (dC, dI)) (ci := 4) (v := .int ia0_1) (C := RX4) (T := TX4) (N := 2) hx hb hts in_X4_add_X4 hown hK hP 1 rfl rfl 1 (by decide) (hts (.fieldLink RX4 15 "EachOnHisCue$Letters" "size" "I") (by decide +kernel)) (fun _ h9 => h9) rfl dX4_add_21 ?_
    refine lv_iconst (v := 1) hx hb dX4_add_24 (by decide) ?_
    refine lv_iadd hx hb dX4_add_25 ?_
    refine lv_topi (fun y4 ey4 => ?_)
    have hy4 : y4.toInt = ia0_1.toInt + 1 := by rw [ey4]; exact z_add rfl (by decide) (by omega) (by omega)
    refine va_put (D := (dC, dI)) (ci := 4) (v := .int y4) (ty := .int) (C := RX4) (T := TX4) (N := 2) hx hb hts in_X4_add_X4 tyX4 tyX4_ok nmX4 hown hK hP hD hS 1 rfl rfl 1 (by decide) (hts (.fieldLink RX4 15 "EachOnHisCue$Letters" "size" "I") (by decide +kernel)) (fun _ h9 => h9) rfl (by decide +kernel) rfl rfl (Nat.le_of_ble_eq_true rfl) dX4_add_26 (fun H locs hP hD hS => ?_)
    have hP : va_P (dC, dI) vwCl [(ha0_0, .inl (cI, 80, .inl f3)), (ha0, .inr (4, [.ref ha0_0, .int y4]))] H := hP
    have hD : va_D A [(ha0_0, .inl (cI, 80, .inl f3)), (ha0, .inr (4, [.ref ha0_0, .int y4]))] := hD
    have hP9 := hP.sub (ws' := [(ha0_0, .inl (cI, 80, .inl f3)), (ha0, .inr (4, [.ref ha0_0, .int y4]))]) [0, 1] rfl
    have hD9 := hD.sub (ws' := [(ha0_0, .inl (cI, 80, .inl f3)), (ha0, .inr (4, [.ref ha0_0, .int y4]))]) [0, 1] (by decide) rfl
    exact W.vret hx hb hr (fun t ht hW => ⟨⟨(fun k => [y4].getD k 0, fun k => [f3].getD k (fun _ => 0)), rfl, (show (∀ k, 0 ≤ (f3 k).toInt ∧ (f3 k).toInt ≤ 255) ∧ (1 ≤ (y4 : Int32).toInt ∧ (y4 : Int32).toInt ≤ 80) ∧ (True) from ⟨hBf3, ⟨by first | omega | decide | exact z_lo _, by first | omega | decide | exact z_hi _⟩, trivial⟩), by rw [ht]; exact hP9, hD9⟩, hS.F ht⟩) hS.2.2 dX4_add_29
