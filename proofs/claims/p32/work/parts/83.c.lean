set_option maxHeartbeats 4000000 in
set_option maxRecDepth 100000 in
theorem wX6_init_X8 (l : Launch) (dC : Nat → ClassId) (dI : Nat → Nat → Nat) (cI cQ : ClassId) (ha0 : Nat) (ia0_0 : Int32) (p1 : Int32) (sz : Nat) : Met l yX6_init vsX6_init ({ frames := 1, cells := 0, slots := 0, locals := 12 }) (va_Pc [.ref ha0, .int p1] (zB dC dI cI cQ [(ha0, .inr (8, [.int ia0_0]))] sz)) (zWv dC dI (va_A [(ha0, .inr (8, [.int ia0_0]))] sz) (fun u => [(ha0, .inr (8, [.int (u.1 0)]))]) (fun u => ((-2147483648) ≤ (u.1 0).toInt ∧ (u.1 0).toInt ≤ 2147483647) ∧ (((u.1 0) = p1)))) 0 0 (va_A [(ha0, .inr (8, [.int ia0_0]))] sz) := by
  refine Met.ofW (cc := cX6_init) (maxL := 2) (ret := none) (by decide) rfl ?_
  intro p e s m args below meth c s₁ B hml hv
  obtain ⟨rfl, hsz, hP, hZ, hD0⟩ := hv
  obtain ⟨hK, hAO, hN⟩ := id hZ
  have hx := B.exec
  have hb := B.bytes
  have hr := B.returns
  have hts := atoms_spec (ws := vsX6_init) B.pre
  have hown : s.vm.findClass RX6 = some m.cls := findClass_of_methodNamed B.named
  have hlocks := B.notSynchronized
  subst hsz
  have hD := hD0.self (sz := s.heap.size)
  generalize hAe : va_A [(ha0, .inr (8, [.int ia0_0]))] s.heap.size = A at hD ⊢
  have hA : ∀ q : Nat, s.heap.size ≤ q → A q := fun q h => by rw [← hAe]; exact Or.inr h
  have hS : va_S A s.heap s.heap [] := va_S.rf
  have hP : va_P (dC, dI) vwCl [(ha0, .inr (8, [.int ia0_0]))] s.heap := hP
  have hin : meth.name = "<init>" := (name_of_methodNamed B.named B.method).1
  have hp1l := z_lo p1
  have hp1h := z_hi p1
  have hl := lv_entry ([.ref ha0, .int p1]) (n := 2) (Nat.le_of_ble_eq_true rfl)
  rw [lg_entry_eq]
  generalize (lg_sl ([.ref ha0, .int p1]) ++ List.replicate (2 - (lg_sl ([.ref ha0, .int p1])).length) Slot.unset).toArray = ls at hl ⊢
  have hl : lv_has ls 2 [(0, .ref ha0), (1, .int p1)] := hl
  refine lv_aload_n hx hb dX6_init_0 rfl (lv_at hl 0 rfl) ?_
  refine W.objInit hx hb hown (hts (.methodLink RX6 3 objectInit) (by decide +kernel)) (hts (.instanceMethod objectInit) (by decide +kernel)) (hts _ (List.mem_of_getElem? (i := 4) rfl)) rfl (by rw [hml]; exact hl.1) rfl dX6_init_1 (Nat.le_of_ble_eq_true rfl) (Nat.le_of_ble_eq_true rfl) ?_
  refine W.eq (g2 := F0 m 4 ls []) rfl ?_
  refine lv_aload_n hx hb dX6_init_4 rfl (lv_at hl 0 rfl) ?_
  refine lv_iload_n hx hb dX6_init_5 rfl (lv_at hl 1 rfl) ?_
  refine va_putF (D := (dC, dI)) (ci := 8) (v := .int p1) (ty := .int) (C := RX8) (T := TX8) (N := 1) hx hb hts in_X6_init_X8 tyX8 tyX8_ok nmX8 hown hK hP hD hS 0 rfl rfl 0 (by decide) (hts (.fieldLink RX6 9 "EachOnHisCue$Next" "figure" "I") (by decide +kernel)) (fun _ h9 => h9) rfl hin rfl (by decide +kernel) rfl rfl (Nat.le_of_ble_eq_true rfl) dX6_init_6 (fun H locs hP hD hS => ?_)
  have hP : va_P (dC, dI) vwCl [(ha0, .inr (8, [.int p1]))] H := hP
  have hD : va_D A [(ha0, .inr (8, [.int p1]))] := hD
  have hP9 := hP.sub (ws' := [(ha0, .inr (8, [.int p1]))]) [0] rfl
  have hD9 := hD.sub (ws' := [(ha0, .inr (8, [.int p1]))]) [0] (by decide) rfl
  have hpo : ((p1 : Int32) = p1) := by rfl
  exact W.vret hx hb hr (fun t ht hW => ⟨⟨(fun k => [p1].getD k 0, fun k => [].getD k (fun _ => 0)), rfl, (show ((-2147483648) ≤ (p1 : Int32).toInt ∧ (p1 : Int32).toInt ≤ 2147483647) ∧ (((p1 : Int32) = p1)) from ⟨⟨hp1l, hp1h⟩, hpo⟩), by rw [ht]; exact hP9, hD9⟩, hS.F ht⟩) hS.2.2 dX6_init_9
set_option maxRecDepth 20000 in
theorem edX8_init_0 : decode cX8_init 0 = .ok (.aload_n 0, 1) ∧ decode cX8_init 1 = .ok (.iload_n 1, 1) ∧ decode cX8_init 2 = .ok (.invokespecial 1, 3) ∧ decode cX8_init 5 = .ok (.return_, 1) := by decide +kernel
theorem dX8_init_0 : decode cX8_init 0 = .ok (.aload_n 0, 1) := edX8_init_0.1
theorem dX8_init_1 : decode cX8_init 1 = .ok (.iload_n 1, 1) := edX8_init_0.2.1
theorem dX8_init_2 : decode cX8_init 2 = .ok (.invokespecial 1, 3) := edX8_init_0.2.2.1
theorem dX8_init_5 : decode cX8_init 5 = .ok (.return_, 1) := edX8_init_0.2.2.2
noncomputable def voX8_init : List Cond := [.initialized RX6, .methodLink RX8 1 yX6_init, .instanceMethod yX6_init]
noncomputable def vsX8_init : List Cond := .code yX8_init cX8_init 2 none :: (voX8_init ++ (vsX6_init))
theorem zgX8_init : zGd vsX8_init := z_gdC rfl (z_gdA (z_gdO (by decide +kernel) : zGd voX8_init) (zgX6_init))
theorem gw_X8_init_X6_init : GoodIn vsX8_init vsX6_init := z_gdI (fun _ h => List.mem_cons_of_mem _ (List.mem_append_right _ (h))) zgX6_init
set_option maxRecDepth 20000 in
theorem gv_X8_init_X6_init_1 : GoodIn vsX8_init (vsX6_init) := gw_X8_init_X6_init
set_option maxHeartbeats 4000000 in
set_option maxRecDepth 100000 in
theorem wX8_init (l : Launch) (dC : Nat → ClassId) (dI : Nat → Nat → Nat) (cI cQ : ClassId) (ha0 : Nat) (ia0_0 : Int32) (p1 : Int32) (sz : Nat) : Met l yX8_init vsX8_init ({ frames := 2, cells := 0, slots := 0, locals := 33 }) (va_Pc [.ref ha0, .int p1] (zB dC dI cI cQ [(ha0, .inr (8, [.int ia0_0]))] sz)) (zWv dC dI (va_A [(ha0, .inr (8, [.int ia0_0]))] sz) (fun u => [(ha0, .inr (8, [.int (u.1 0)]))]) (fun u => ((-2147483648) ≤ (u.1 0).toInt ∧ (u.1 0).toInt ≤ 2147483647) ∧ (((u.1 0) = p1)))) 0 0 (va_A [(ha0, .inr (8, [.int ia0_0]))] sz) := by
  refine Met.ofW (cc := cX8_init) (maxL := 2) (ret := none) (by decide) rfl ?_
  intro p e s m args below meth c s₁ B hml hv
  obtain ⟨rfl, hsz, hP, hZ, hD0⟩ := hv
  obtain ⟨hK, hAO, hN⟩ := id hZ
  have hx := B.exec
  have hb := B.bytes
  have hr := B.returns
  have hts := atoms_spec (ws := vsX8_init) B.pre
  have hown : s.vm.findClass RX8 = some m.cls := findClass_of_methodNamed B.named
  have hlocks := B.notSynchronized
  subst hsz
  have hD := hD0.self (sz := s.heap.size)
  generalize hAe : va_A [(ha0, .inr (8, [.int ia0_0]))] s.heap.size = A at hD ⊢
  have hA : ∀ q : Nat, s.heap.size ≤ q → A q := fun q h => by rw [← hAe]; exact Or.inr h
  have hS : va_S A s.heap s.heap [] := va_S.rf
  have hP : va_P (dC, dI) vwCl [(ha0, .inr (8, [.int ia0_0]))] s.heap := hP
  have hin : meth.name = "<init>" := (name_of_methodNamed B.named B.method).1
  have hp1l := z_lo p1
  have hp1h := z_hi p1
  have hl := lv_entry ([.ref ha0, .int p1]) (n := 2) (Nat.le_of_ble_eq_true rfl)
  rw [lg_entry_eq]
  generalize (lg_sl ([.ref ha0, .int p1]) ++ List.replicate (2 - (lg_sl ([.ref ha0, .int p1])).length) Slot.unset).toArray = ls at hl ⊢
  have hl : lv_has ls 2 [(0, .ref ha0), (1, .int p1)] := hl
  refine lv_aload_n hx hb dX8_init_0 rfl (lv_at hl 0 rfl) ?_
  refine lv_iload_n hx hb dX8_init_1 rfl (lv_at hl 1 rfl) ?_
  refine z_cwv (wc := [(ha0, .inr (8, [.int ia0_0]))]) (wr := []) (w1 := fun u2 => [(ha0, .inr (8, [.int (u2.1 0)]))]) (va_runI (As := [.int p1]) (rest := []) ⟨hx, hb, hml, hown, hts⟩ (wX6_init_X8 l dC dI cI cQ ha0 ia0_0 p1 s.heap.size) (cwI 1 hts gv_X8_init_X6_init_1 rfl rfl rfl (hts (.initialized RX6) (by decide +kernel)) (hts (.methodLink RX8 1 yX6_init) (by decide +kernel)) (hts (.instanceMethod yX6_init) (by decide +kernel)) rfl (by decide +kernel) ⟨Nat.le_of_ble_eq_true rfl, Nat.le_of_ble_eq_true rfl⟩) ⟨z_blind, z_pre hZ hP hD [0] rfl (by decide +kernel)⟩ rfl rfl hl.1 rfl (lv_room (Nat.le_of_ble_eq_true rfl)) dX8_init_2 ⟨Nat.le_of_ble_eq_true rfl, Nat.le_of_ble_eq_true rfl⟩) hP hD hS hA [0] [] rfl rfl (by decide +kernel) (by decide +kernel) (fun u2 H locs hpo hP hD hS => ?_)
  generalize hgw3 : u2.1 0 = w3 at hP hD hpo
  have hP : va_P (dC, dI) vwCl [(ha0, .inr (8, [.int w3]))] H := hP
  have hD : va_D A [(ha0, .inr (8, [.int w3]))] := hD
  obtain ⟨hw3p, hy1po⟩ := hpo
  obtain ⟨hw3l, hw3h⟩ := hw3p
  have hP9 := hP.sub (ws' := [(ha0, .inr (8, [.int w3]))]) [0] rfl
  have hD9 := hD.sub (ws' := [(ha0, .inr (8, [.int w3]))]) [0] (by decide) rfl
  have hpo : ((w3 : Int32) = p1) := by exact hy1po
  exact W.vret hx hb hr (fun t ht hW => ⟨⟨(fun k => [w3].getD k 0, fun k => [].getD k (fun _ => 0)), rfl, (show ((-2147483648) ≤ (w3 : Int32).toInt ∧ (w3 : Int32).toInt ≤ 2147483647) ∧ (((w3 : Int32) = p1)) from ⟨⟨hw3l, hw3h⟩, hpo⟩), by rw [ht]; exact hP9, hD9⟩, hS.F ht⟩) hS.2.2 dX8_init_5
set_option maxHeartbeats 4000000 in
set_option maxRecDepth 100000 in
theorem wX6_init_X1 (l : Launch) (dC : Nat → ClassId) (dI : Nat → Nat → Nat) (cI cQ : ClassId) (ha0 : Nat) (ia0_0 : Int32) (p1 : Int32) (sz : Nat) : Met l yX6_init vsX6_init ({ frames := 1, cells := 0, slots := 0, locals := 12 }) (va_Pc [.ref ha0, .int p1] (zB dC dI cI cQ [(ha0, .inr (1, [.int ia0_0]))] sz)) (zWv dC dI (va_A [(ha0, .inr (1, [.int ia0_0]))] sz) (fun u => [(ha0, .inr (1, [.int (u.1 0)]))]) (fun u => ((-2147483648) ≤ (u.1 0).toInt ∧ (u.1 0).toInt ≤ 2147483647) ∧ (((u.1 0) = p1)))) 0 0 (va_A [(ha0, .inr (1, [.int ia0_0]))] sz) := by
  refine Met.ofW (cc := cX6_init) (maxL := 2) (ret := none) (by decide) rfl ?_
  intro p e s m args below meth c s₁ B hml hv
  obtain ⟨rfl, hsz, hP, hZ, hD0⟩ := hv
  obtain ⟨hK, hAO, hN⟩ := id hZ
  have hx := B.exec
  have hb := B.bytes
  have hr := B.returns
  have hts := atoms_spec (ws := vsX6_init) B.pre
  have hown : s.vm.findClass RX6 = some m.cls := findClass_of_methodNamed B.named
  have hlocks := B.notSynchronized
  subst hsz
  have hD := hD0.self (sz := s.heap.size)
  generalize hAe : va_A [(ha0, .inr (1, [.int ia0_0]))] s.heap.size = A at hD ⊢
  have hA : ∀ q : Nat, s.heap.size ≤ q → A q := fun q h => by rw [← hAe]; exact Or.inr h
  have hS : va_S A s.heap s.heap [] := va_S.rf
  have hP : va_P (dC, dI) vwCl [(ha0, .inr (1, [.int ia0_0]))] s.heap := hP
  have hin : meth.name = "<init>" := (name_of_methodNamed B.named B.method).1
  have hp1l := z_lo p1
  have hp1h := z_hi p1
  have hl := lv_entry ([.ref ha0, .int p1]) (n := 2) (Nat.le_of_ble_eq_true rfl)
  rw [lg_entry_eq]
  generalize (lg_sl ([.ref ha0, .int p1]) ++ List.replicate (2 - (lg_sl ([.ref ha0, .int p1])).length) Slot.unset).toArray = ls at hl ⊢
  have hl : lv_has ls 2 [(0, .ref ha0), (1, .int p1)] := hl
  refine lv_aload_n hx hb dX6_init_0 rfl (lv_at hl 0 rfl) ?_
  refine W.objInit hx hb hown (hts (.methodLink RX6 3 objectInit) (by decide +kernel)) (hts (.instanceMethod objectInit) (by decide +kernel)) (hts _ (List.mem_of_getElem? (i := 4) rfl)) rfl (by rw [hml]; exact hl.1) rfl dX6_init_1 (Nat.le_of_ble_eq_true rfl) (Nat.le_of_ble_eq_true rfl) ?_
  refine W.eq (g2 := F0 m 4 ls []) rfl ?_
  refine lv_aload_n hx hb dX6_init_4 rfl (lv_at hl 0 rfl) ?_
  refine lv_iload_n hx hb dX6_init_5 rfl (lv_at hl 1 rfl) ?_
  refine va_putF (D := (dC, dI)) (ci := 1) (v := .int p1) (ty := .int) (C := RX1) (T := TX1) (N := 1) hx hb hts in_X6_init_X1 tyX1 tyX1_ok nmX1 hown hK hP hD hS 0 rfl rfl 0 (by decide) (hts (.fieldLink RX6 9 "EachOnHisCue$Next" "figure" "I") (by decide +kernel)) (fun _ h9 => h9) rfl hin rfl (by decide +kernel) rfl rfl (Nat.le_of_ble_eq_true rfl) dX6_init_6 (fun H locs hP hD hS => ?_)
  have hP : va_P (dC, dI) vwCl [(ha0, .inr (1, [.int p1]))] H := hP
  have hD : va_D A [(ha0, .inr (1, [.int p1]))] := hD
  have hP9 := hP.sub (ws' := [(ha0, .inr (1, [.int p1]))]) [0] rfl
  have hD9 := hD.sub (ws' := [(ha0, .inr (1, [.int p1]))]) [0] (by decide) rfl
  have hpo : ((p1 : Int32) = p1) := by rfl
  exact W.vret hx hb hr (fun t ht hW => ⟨⟨(fun k => [p1].getD k 0, fun k => [].getD k (fun _ => 0)), rfl, (show ((-2147483648) ≤ (p1 : Int32).toInt ∧ (p1 : Int32).toInt ≤ 2147483647) ∧ (((p1 : Int32) = p1)) from ⟨⟨hp1l, hp1h⟩, hpo⟩), by rw [ht]; exact hP9, hD9⟩, hS.F ht⟩) hS.2.2 dX6_init_9
set_option maxRecDepth 20000 in
theorem edX1_init_0 : decode cX1_init 0 = .ok (.aload_n 0, 1) ∧ decode cX1_init 1 = .ok (.iload_n 1, 1) ∧ decode cX1_init 2 = .ok (.invokespecial 1, 3) ∧ decode cX1_init 5 = .ok (.return_, 1) := by decide +kernel
theorem dX1_init_0 : decode cX1_init 0 = .ok (.aload_n 0, 1) := edX1_init_0.1
theorem dX1_init_1 : decode cX1_init 1 = .ok (.iload_n 1, 1) := edX1_init_0.2.1
theorem dX1_init_2 : decode cX1_init 2 = .ok (.invokespecial 1, 3) := edX1_init_0.2.2.1
theorem dX1_init_5 : decode cX1_init 5 = .ok (.return_, 1) := edX1_init_0.2.2.2
noncomputable def voX1_init : List Cond := [.initialized RX6, .methodLink RX1 1 yX6_init, .instanceMethod yX6_init]
noncomputable def vsX1_init : List Cond := .code yX1_init cX1_init 2 none :: (voX1_init ++ (vsX6_init))
theorem zgX1_init : zGd vsX1_init := z_gdC rfl (z_gdA (z_gdO (by decide +kernel) : zGd voX1_init) (zgX6_init))
theorem gw_X1_init_X6_init : GoodIn vsX1_init vsX6_init := z_gdI (fun _ h => List.mem_cons_of_mem _ (List.mem_append_right _ (h))) zgX6_init
set_option maxRecDepth 20000 in
theorem gv_X1_init_X6_init_1 : GoodIn vsX1_init (vsX6_init) := gw_X1_init_X6_init
set_option maxHeartbeats 4000000 in
set_option maxRecDepth 100000 in
theorem wX1_init (l : Launch) (dC : Nat → ClassId) (dI : Nat → Nat → Nat) (cI cQ : ClassId) (ha0 : Nat) (ia0_0 : Int32) (p1 : Int32) (sz : Nat) : Met l yX1_init vsX1_init ({ frames := 2, cells := 0, slots := 0, locals := 33 }) (va_Pc [.ref ha0, .int p1] (zB dC dI cI cQ [(ha0, .inr (1, [.int ia0_0]))] sz)) (zWv dC dI (va_A [(ha0, .inr (1, [.int ia0_0]))] sz) (fun u => [(ha0, .inr (1, [.int (u.1 0)]))]) (fun u => ((-2147483648) ≤ (u.1 0).toInt ∧ (u.1 0).toInt ≤ 2147483647) ∧ (((u.1 0) = p1)))) 0 0 (va_A [(ha0, .inr (1, [.int ia0_0]))] sz) := by
  refine Met.ofW (cc := cX1_init) (maxL := 2) (ret := none) (by decide) rfl ?_
  intro p e s m args below meth c s₁ B hml hv
  obtain ⟨rfl, hsz, hP, hZ, hD0⟩ := hv
  obtain ⟨hK, hAO, hN⟩ := id hZ
  have hx := B.exec
  have hb := B.bytes
  have hr := B.returns
  have hts := atoms_spec (ws := vsX1_init) B.pre
  have hown : s.vm.findClass RX1 = some m.cls := findClass_of_methodNamed B.named
  have hlocks := B.notSynchronized
  subst hsz
  have hD := hD0.self (sz := s.heap.size)
  generalize hAe : va_A [(ha0, .inr (1, [.int ia0_0]))] s.heap.size = A at hD ⊢
  have hA : ∀ q : Nat, s.heap.size ≤ q → A q := fun q h => by rw [← hAe]; exact Or.inr h
  have hS : va_S A s.heap s.heap [] := va_S.rf
  have hP : va_P (dC, dI) vwCl [(ha0, .inr (1, [.int ia0_0]))] s.heap := hP
  have hin : meth.name = "<init>" := (name_of_methodNamed B.named B.method).1
  have hp1l := z_lo p1
  have hp1h := z_hi p1
  have hl := lv_entry ([.ref ha0, .int p1]) (n := 2) (Nat.le_of_ble_eq_true rfl)
  rw [lg_entry_eq]
  generalize (lg_sl ([.ref ha0, .int p1]) ++ List.replicate (2 - (lg_sl ([.ref ha0, .int p1])).length) Slot.unset).toArray = ls at hl ⊢
  have hl : lv_has ls 2 [(0, .ref ha0), (1, .int p1)] := hl
  refine lv_aload_n hx hb dX1_init_0 rfl (lv_at hl 0 rfl) ?_
  refine lv_iload_n hx hb dX1_init_1 rfl (lv_at hl 1 rfl) ?_
  refine z_cwv (wc := [(ha0, .inr (1, [.int ia0_0]))]) (wr := []) (w1 := fun u2 => [(ha0, .inr (1, [.int (u2.1 0)]))]) (va_runI (As := [.int p1]) (rest := []) ⟨hx, hb, hml, hown, hts⟩ (wX6_init_X1 l dC dI cI cQ ha0 ia0_0 p1 s.heap.size) (cwI 1 hts gv_X1_init_X6_init_1 rfl rfl rfl (hts (.initialized RX6) (by decide +kernel)) (hts (.methodLink RX1 1 yX6_init) (by decide +kernel)) (hts (.instanceMethod yX6_init) (by decide +kernel)) rfl (by decide +kernel) ⟨Nat.le_of_ble_eq_true rfl, Nat.le_of_ble_eq_true rfl⟩) ⟨z_blind, z_pre hZ hP hD [0] rfl (by decide +kernel)⟩ rfl rfl hl.1 rfl (lv_room (Nat.le_of_ble_eq_true rfl)) dX1_init_2 ⟨Nat.le_of_ble_eq_true rfl, Nat.le_of_ble_eq_true rfl⟩) hP hD hS hA [0] [] rfl rfl (by decide +kernel) (by decide +kernel) (fun u2 H locs hpo hP hD hS => ?_)
  generalize hgw3 : u2.1 0 = w3 at hP hD hpo
  have hP : va_P (dC, dI) vwCl [(ha0, .inr (1, [.int w3]))] H := hP
  have hD : va_D A [(ha0, .inr (1, [.int w3]))] := hD
  obtain ⟨hw3p, hy1po⟩ := hpo
  obtain ⟨hw3l, hw3h⟩ := hw3p
  have hP9 := hP.sub (ws' := [(ha0, .inr (1, [.int w3]))]) [0] rfl
  have hD9 := hD.sub (ws' := [(ha0, .inr (1, [.int w3]))]) [0] (by decide) rfl
  have hpo : ((w3 : Int32) = p1) := by exact hy1po
  exact W.vret hx hb hr (fun t ht hW => ⟨⟨(fun k => [w3].getD k 0, fun k => [].getD k (fun _ => 0)), rfl, (show ((-2147483648) ≤ (w3 : Int32).toInt ∧ (w3 : Int32).toInt ≤ 2147483647) ∧ (((w3 : Int32) = p1)) from ⟨⟨hw3l, hw3h⟩, hpo⟩), by rw [ht]; exact hP9, hD9⟩, hS.F ht⟩) hS.2.2 dX1_init_5
set_option maxHeartbeats 4000000 in
set_option maxRecDepth 100000 in
theorem wX6_init_X10 (l : Launch) (dC : Nat → ClassId) (dI : Nat → Nat → Nat) (cI cQ : ClassId) (ha0 : Nat) (ia0_0 : Int32) (p1 : Int32) (sz : Nat) : Met l yX6_init vsX6_init ({ frames := 1, cells := 0, slots := 0, locals := 12 }) (va_Pc [.ref ha0, .int p1] (zB dC dI cI cQ [(ha0, .inr (10, [.int ia0_0]))] sz)) (zWv dC dI (va_A [(ha0, .inr (10, [.int ia0_0]))] sz) (fun u => [(ha0, .inr (10, [.int (u.1 0)]))]) (fun u => ((-2147483648) ≤ (u.1 0).toInt ∧ (u.1 0).toInt ≤ 2147483647) ∧ (((u.1 0) = p1)))) 0 0 (va_A [(ha0, .inr (10, [.int ia0_0]))] sz) := by
  refine Met.ofW (cc := cX6_init) (maxL := 2) (ret := none) (by decide) rfl ?_
  intro p e s m args below meth c s₁ B hml hv
  obtain ⟨rfl, hsz, hP, hZ, hD0⟩ := hv
  obtain ⟨hK, hAO, hN⟩ := id hZ
  have hx := B.exec
  have hb := B.bytes
  have hr := B.returns
  have hts := atoms_spec (ws := vsX6_init) B.pre
  have hown : s.vm.findClass RX6 = some m.cls := findClass_of_methodNamed B.named
  have hlocks := B.notSynchronized
  subst hsz
  have hD := hD0.self (sz := s.heap.size)
  generalize hAe : va_A [(ha0, .inr (10, [.int ia0_0]))] s.heap.size = A at hD ⊢
  have hA : ∀ q : Nat, s.heap.size ≤ q → A q := fun q h => by rw [← hAe]; exact Or.inr h
  have hS : va_S A s.heap s.heap [] := va_S.rf
  have hP : va_P (dC, dI) vwCl [(ha0, .inr (10, [.int ia0_0]))] s.heap := hP
  have hin : meth.name = "<init>" := (name_of_methodNamed B.named B.method).1
  have hp1l := z_lo p1
  have hp1h := z_hi p1
  have hl := lv_entry ([.ref ha0, .int p1]) (n := 2) (Nat.le_of_ble_eq_true rfl)
  rw [lg_entry_eq]
  generalize (lg_sl ([.ref ha0, .int p1]) ++ List.replicate (2 - (lg_sl ([.ref ha0, .int p1])).length) Slot.unset).toArray = ls at hl ⊢
  have hl : lv_has ls 2 [(0, .ref ha0), (1, .int p1)] := hl
  refine lv_aload_n hx hb dX6_init_0 rfl (lv_at hl 0 rfl) ?_
  refine W.objInit hx hb hown (hts (.methodLink RX6 3 objectInit) (by decide +kernel)) (hts (.instanceMethod objectInit) (by decide +kernel)) (hts _ (List.mem_of_getElem? (i := 4) rfl)) rfl (by rw [hml]; exact hl.1) rfl dX6_init_1 (Nat.le_of_ble_eq_true rfl) (Nat.le_of_ble_eq_true rfl) ?_
  refine W.eq (g2 := F0 m 4 ls []) rfl ?_
  refine lv_aload_n hx hb dX6_init_4 rfl (lv_at hl 0 rfl) ?_
  refine lv_iload_n hx hb dX6_init_5 rfl (lv_at hl 1 rfl) ?_
  refine va_putF (D := (dC, dI)) (ci := 10) (v := .int p1) (ty := .int) (C := RX10) (T := TX10) (N := 1) hx hb hts in_X6_init_X10 tyX10 tyX10_ok nmX10 hown hK hP hD hS 0 rfl rfl 0 (by decide) (hts (.fieldLink RX6 9 "EachOnHisCue$Next" "figure" "I") (by decide +kernel)) (fun _ h9 => h9) rfl hin rfl (by decide +kernel) rfl rfl (Nat.le_of_ble_eq_true rfl) dX6_init_6 (fun H locs hP hD hS => ?_)
  have hP : va_P (dC, dI) vwCl [(ha0, .inr (10, [.int p1]))] H := hP
  have hD : va_D A [(ha0, .inr (10, [.int p1]))] := hD
  have hP9 := hP.sub (ws' := [(ha0, .inr (10, [.int p1]))]) [0] rfl
  have hD9 := hD.sub (ws' := [(ha0, .inr (10, [.int p1]))]) [0] (by decide) rfl
  have hpo : ((p1 : Int32) = p1) := by rfl
  exact W.vret hx hb hr (fun t ht hW => ⟨⟨(fun k => [p1].getD k 0, fun k => [].getD k (fun _ => 0)), rfl, (show ((-2147483648) ≤ (p1 : Int32).toInt ∧ (p1 : Int32).toInt ≤ 2147483647) ∧ (((p1 : Int32) = p1)) from ⟨⟨hp1l, hp1h⟩, hpo⟩), by rw [ht]; exact hP9, hD9⟩, hS.F ht⟩) hS.2.2 dX6_init_9
set_option maxHeartbeats 4000000 in
set_option maxRecDepth 100000 in
theorem wX1_init_X10 (l : Launch) (dC : Nat → ClassId) (dI : Nat → Nat → Nat) (cI cQ : ClassId) (ha0 : Nat) (ia0_0 : Int32) (p1 : Int32) (sz : Nat) : Met l yX1_init vsX1_init ({ frames := 2, cells := 0, slots := 0, locals := 33 }) (va_Pc [.ref ha0, .int p1] (zB dC dI cI cQ [(ha0, .inr (10, [.int ia0_0]))] sz)) (zWv dC dI (va_A [(ha0, .inr (10, [.int ia0_0]))] sz) (fun u => [(ha0, .inr (10, [.int (u.1 0)]))]) (fun u => ((-2147483648) ≤ (u.1 0).toInt ∧ (u.1 0).toInt ≤ 2147483647) ∧ (((u.1 0) = p1)))) 0 0 (va_A [(ha0, .inr (10, [.int ia0_0]))] sz) := by
  refine Met.ofW (cc := cX1_init) (maxL := 2) (ret := none) (by decide) rfl ?_
  intro p e s m args below meth c s₁ B hml hv
  obtain ⟨rfl, hsz, hP, hZ, hD0⟩ := hv
  obtain ⟨hK, hAO, hN⟩ := id hZ
  have hx := B.exec
  have hb := B.bytes
  have hr := B.returns
  have hts := atoms_spec (ws := vsX1_init) B.pre
  have hown : s.vm.findClass RX1 = some m.cls := findClass_of_methodNamed B.named
  have hlocks := B.notSynchronized
  subst hsz
  have hD := hD0.self (sz := s.heap.size)
  generalize hAe : va_A [(ha0, .inr (10, [.int ia0_0]))] s.heap.size = A at hD ⊢
  have hA : ∀ q : Nat, s.heap.size ≤ q → A q := fun q h => by rw [← hAe]; exact Or.inr h
  have hS : va_S A s.heap s.heap [] := va_S.rf
  have hP : va_P (dC, dI) vwCl [(ha0, .inr (10, [.int ia0_0]))] s.heap := hP
  have hin : meth.name = "<init>" := (name_of_methodNamed B.named B.method).1
  have hp1l := z_lo p1
  have hp1h := z_hi p1
  have hl := lv_entry ([.ref ha0, .int p1]) (n := 2) (Nat.le_of_ble_eq_true rfl)
  rw [lg_entry_eq]
  generalize (lg_sl ([.ref ha0, .int p1]) ++ List.replicate (2 - (lg_sl ([.ref ha0, .int p1])).length) Slot.unset).toArray = ls at hl ⊢
  have hl : lv_has ls 2 [(0, .ref ha0), (1, .int p1)] := hl
  refine lv_aload_n hx hb dX1_init_0 rfl (lv_at hl 0 rfl) ?_
  refine lv_iload_n hx hb dX1_init_1 rfl (lv_at hl 1 rfl) ?_
  refine z_cwv (wc := [(ha0, .inr (10, [.int ia0_0]))]) (wr := []) (w1 := fun u2 => [(ha0, .inr (10, [.int (u2.1 0)]))]) (va_runI (As := [.int p1]) (rest := []) ⟨hx, hb, hml, hown, hts⟩ (wX6_init_X10 l dC dI cI cQ ha0 ia0_0 p1 s.heap.size) (cwI 1 hts gv_X1_init_X6_init_1 rfl rfl rfl (hts (.initialized RX6) (by decide +kernel)) (hts (.methodLink RX1 1 yX6_init) (by decide +kernel)) (hts (.instanceMethod yX6_init) (by decide +kernel)) rfl (by decide +kernel) ⟨Nat.le_of_ble_eq_true rfl, Nat.le_of_ble_eq_true rfl⟩) ⟨z_blind, z_pre hZ hP hD [0] rfl (by decide +kernel)⟩ rfl rfl hl.1 rfl (lv_room (Nat.le_of_ble_eq_true rfl)) dX1_init_2 ⟨Nat.le_of_ble_eq_true rfl, Nat.le_of_ble_eq_true rfl⟩) hP hD hS hA [0] [] rfl rfl (by decide +kernel) (by decide +kernel) (fun u2 H locs hpo hP hD hS => ?_)
  generalize hgw3 : u2.1 0 = w3 at hP hD hpo
  have hP : va_P (dC, dI) vwCl [(ha0, .inr (10, [.int w3]))] H := hP
  have hD : va_D A [(ha0, .inr (10, [.int w3]))] := hD
  obtain ⟨hw3p, hy1po⟩ := hpo
  obtain ⟨hw3l, hw3h⟩ := hw3p
  have hP9 := hP.sub (ws' := [(ha0, .inr (10, [.int w3]))]) [0] rfl
  have hD9 := hD.sub (ws' := [(ha0, .inr (10, [.int w3]))]) [0] (by decide) rfl
  have hpo : ((w3 : Int32) = p1) := by exact hy1po
  exact W.vret hx hb hr (fun t ht hW => ⟨⟨(fun k => [w3].getD k 0, fun k => [].getD k (fun _ => 0)), rfl, (show ((-2147483648) ≤ (w3 : Int32).toInt ∧ (w3 : Int32).toInt ≤ 2147483647) ∧ (((w3 : Int32) = p1)) from ⟨⟨hw3l, hw3h⟩, hpo⟩), by rw [ht]; exact hP9, hD9⟩, hS.F ht⟩) hS.2.2 dX1_init_5
set_option maxRecDepth 20000 in
theorem edX10_init_0 : decode cX10_init 0 = .ok (.aload_n 0, 1) ∧ decode cX10_init 1 = .ok (.iload_n 1, 1) ∧ decode cX10_init 2 = .ok (.invokespecial 3, 3) ∧ decode cX10_init 5 = .ok (.return_, 1) := by decide +kernel
theorem dX10_init_0 : decode cX10_init 0 = .ok (.aload_n 0, 1) := edX10_init_0.1
theorem dX10_init_1 : decode cX10_init 1 = .ok (.iload_n 1, 1) := edX10_init_0.2.1
theorem dX10_init_2 : decode cX10_init 2 = .ok (.invokespecial 3, 3) := edX10_init_0.2.2.1
theorem dX10_init_5 : decode cX10_init 5 = .ok (.return_, 1) := edX10_init_0.2.2.2
noncomputable def voX10_init : List Cond := [.initialized RX1, .methodLink RX10 3 yX1_init, .instanceMethod yX1_init]
noncomputable def vsX10_init : List Cond := .code yX10_init cX10_init 2 none :: (voX10_init ++ (vsX1_init))
theorem zgX10_init : zGd vsX10_init := z_gdC rfl (z_gdA (z_gdO (by decide +kernel) : zGd voX10_init) (zgX1_init))
theorem gw_X10_init_X1_init : GoodIn vsX10_init vsX1_init := z_gdI (fun _ h => List.mem_cons_of_mem _ (List.mem_append_right _ (h))) zgX1_init
set_option maxRecDepth 20000 in
theorem gv_X10_init_X1_init_3 : GoodIn vsX10_init (vsX1_init) := gw_X10_init_X1_init
set_option maxHeartbeats 4000000 in
set_option maxRecDepth 100000 in
theorem wX10_init (l : Launch) (dC : Nat → ClassId) (dI : Nat → Nat → Nat) (cI cQ : ClassId) (ha0 : Nat) (ia0_0 : Int32) (p1 : Int32) (sz : Nat) : Met l yX10_init vsX10_init ({ frames := 3, cells := 0, slots := 0, locals := 54 }) (va_Pc [.ref ha0, .int p1] (zB dC dI cI cQ [(ha0, .inr (10, [.int ia0_0]))] sz)) (zWv dC dI (va_A [(ha0, .inr (10, [.int ia0_0]))] sz) (fun u => [(ha0, .inr (10, [.int (u.1 0)]))]) (fun u => ((-2147483648) ≤ (u.1 0).toInt ∧ (u.1 0).toInt ≤ 2147483647) ∧ (((u.1 0) = p1)))) 0 0 (va_A [(ha0, .inr (10, [.int ia0_0]))] sz) := by
  refine Met.ofW (cc := cX10_init) (maxL := 2) (ret := none) (by decide) rfl ?_
  intro p e s m args below meth c s₁ B hml hv
  obtain ⟨rfl, hsz, hP, hZ, hD0⟩ := hv
  obtain ⟨hK, hAO, hN⟩ := id hZ
  have hx := B.exec
  have hb := B.bytes
  have hr := B.returns
  have hts := atoms_spec (ws := vsX10_init) B.pre
  have hown : s.vm.findClass RX10 = some m.cls := findClass_of_methodNamed B.named
  have hlocks := B.notSynchronized
  subst hsz
  have hD := hD0.self (sz := s.heap.size)
  generalize hAe : va_A [(ha0, .inr (10, [.int ia0_0]))] s.heap.size = A at hD ⊢
  have hA : ∀ q : Nat, s.heap.size ≤ q → A q := fun q h => by rw [← hAe]; exact Or.inr h
  have hS : va_S A s.heap s.heap [] := va_S.rf
  have hP : va_P (dC, dI) vwCl [(ha0, .inr (10, [.int ia0_0]))] s.heap := hP
  have hin : meth.name = "<init>" := (name_of_methodNamed B.named B.method).1
  have hp1l := z_lo p1
  have hp1h := z_hi p1
  have hl := lv_entry ([.ref ha0, .int p1]) (n := 2) (Nat.le_of_ble_eq_true rfl)
  rw [lg_entry_eq]
  generalize (lg_sl ([.ref ha0, .int p1]) ++ List.replicate (2 - (lg_sl ([.ref ha0, .int p1])).length) Slot.unset).toArray = ls at hl ⊢
  have hl : lv_has ls 2 [(0, .ref ha0), (1, .int p1)] := hl
  refine lv_aload_n hx hb dX10_init_0 rfl (lv_at hl 0 rfl) ?_
  refine lv_iload_n hx hb dX10_init_1 rfl (lv_at hl 1 rfl) ?_
  refine z_cwv (wc := [(ha0, .inr (10, [.int ia0_0]))]) (wr := []) (w1 := fun u2 => [(ha0, .inr (10, [.int (u2.1 0)]))]) (va_runI (As := [.int p1]) (rest := []) ⟨hx, hb, hml, hown, hts⟩ (wX1_init_X10 l dC dI cI cQ ha0 ia0_0 p1 s.heap.size) (cwI 1 hts gv_X10_init_X1_init_3 rfl rfl rfl (hts (.initialized RX1) (by decide +kernel)) (hts (.methodLink RX10 3 yX1_init) (by decide +kernel)) (hts (.instanceMethod yX1_init) (by decide +kernel)) rfl (by decide +kernel) ⟨Nat.le_of_ble_eq_true rfl, Nat.le_of_ble_eq_true rfl⟩) ⟨z_blind, z_pre hZ hP hD [0] rfl (by decide +kernel)⟩ rfl rfl hl.1 rfl (lv_room (Nat.le_of_ble_eq_true rfl)) dX10_init_2 ⟨Nat.le_of_ble_eq_true rfl, Nat.le_of_ble_eq_true rfl⟩) hP hD hS hA [0] [] rfl rfl (by decide +kernel) (by decide +kernel) (fun u2 H locs hpo hP hD hS => ?_)
  generalize hgw3 : u2.1 0 = w3 at hP hD hpo
  have hP : va_P (dC, dI) vwCl [(ha0, .inr (10, [.int w3]))] H := hP
  have hD : va_D A [(ha0, .inr (10, [.int w3]))] := hD
  obtain ⟨hw3p, hy1po⟩ := hpo
  obtain ⟨hw3l, hw3h⟩ := hw3p
  have hP9 := hP.sub (ws' := [(ha0, .inr (10, [.int w3]))]) [0] rfl
  have hD9 := hD.sub (ws' := [(ha0, .inr (10, [.int w3]))]) [0] (by decide) rfl
  have hpo : ((w3 : Int32) = p1) := by exact hy1po
  exact W.vret hx hb hr (fun t ht hW => ⟨⟨(fun k => [w3].getD k 0, fun k => [].getD k (fun _ => 0)), rfl, (show ((-2147483648) ≤ (w3 : Int32).toInt ∧ (w3 : Int32).toInt ≤ 2147483647) ∧ (((w3 : Int32) = p1)) from ⟨⟨hw3l, hw3h⟩, hpo⟩), by rw [ht]; exact hP9, hD9⟩, hS.F ht⟩) hS.2.2 dX10_init_5
set_option maxHeartbeats 4000000 in
set_option maxRecDepth 100000 in
theorem wX6_init_X3 (l : Launch) (dC : Nat → ClassId) (dI : Nat → Nat → Nat) (cI cQ : ClassId) (ha0 : Nat) (ia0_0 : Int32) (p1 : Int32) (sz : Nat) : Met l yX6_init vsX6_init ({ frames := 1, cells := 0, slots := 0, locals := 12 }) (va_Pc [.ref ha0, .int p1] (zB dC dI cI cQ [(ha0, .inr (3, [.int ia0_0]))] sz)) (zWv dC dI (va_A [(ha0, .inr (3, [.int ia0_0]))] sz) (fun u => [(ha0, .inr (3, [.int (u.1 0)]))]) (fun u => ((-2147483648) ≤ (u.1 0).toInt ∧ (u.1 0).toInt ≤ 2147483647) ∧ (((u.1 0) = p1)))) 0 0 (va_A [(ha0, .inr (3, [.int ia0_0]))] sz) := by
  refine Met.ofW (cc := cX6_init) (maxL := 2) (ret := none) (by decide) rfl ?_
  intro p e s m args below meth c s₁ B hml hv
  obtain ⟨rfl, hsz, hP, hZ, hD0⟩ := hv
  obtain ⟨hK, hAO, hN⟩ := id hZ
  have hx := B.exec
  have hb := B.bytes
  have hr := B.returns
  have hts := atoms_spec (ws := vsX6_init) B.pre
  have hown : s.vm.findClass RX6 = some m.cls := findClass_of_methodNamed B.named
  have hlocks := B.notSynchronized
  subst hsz
  have hD := hD0.self (sz := s.heap.size)
  generalize hAe : va_A [(ha0, .inr (3, [.int ia0_0]))] s.heap.size = A at hD ⊢
  have hA : ∀ q : Nat, s.heap.size ≤ q → A q := fun q h => by rw [← hAe]; exact Or.inr h
  have hS : va_S A s.heap s.heap [] := va_S.rf
  have hP : va_P (dC, dI) vwCl [(ha0, .inr (3, [.int ia0_0]))] s.heap := hP
  have hin : meth.name = "<init>" := (name_of_methodNamed B.named B.method).1
  have hp1l := z_lo p1
  have hp1h := z_hi p1
  have hl := lv_entry ([.ref ha0, .int p1]) (n := 2) (Nat.le_of_ble_eq_true rfl)
  rw [lg_entry_eq]
  generalize (lg_sl ([.ref ha0, .int p1]) ++ List.replicate (2 - (lg_sl ([.ref ha0, .int p1])).length) Slot.unset).toArray = ls at hl ⊢
  have hl : lv_has ls 2 [(0, .ref ha0), (1, .int p1)] := hl
  refine lv_aload_n hx hb dX6_init_0 rfl (lv_at hl 0 rfl) ?_
  refine W.objInit hx hb hown (hts (.methodLink RX6 3 objectInit) (by decide +kernel)) (hts (.instanceMethod objectInit) (by decide +kernel)) (hts _ (List.mem_of_getElem? (i := 4) rfl)) rfl (by rw [hml]; exact hl.1) rfl dX6_init_1 (Nat.le_of_ble_eq_true rfl) (Nat.le_of_ble_eq_true rfl) ?_
  refine W.eq (g2 := F0 m 4 ls []) rfl ?_
  refine lv_aload_n hx hb dX6_init_4 rfl (lv_at hl 0 rfl) ?_
  refine lv_iload_n hx hb dX6_init_5 rfl (lv_at hl 1 rfl) ?_
  refine va_putF (D := (dC, dI)) (ci := 3) (v := .int p1) (ty := .int) (C := RX3) (T := TX3) (N := 1) hx hb hts in_X6_init_X3 tyX3 tyX3_ok nmX3 hown hK hP hD hS 0 rfl rfl 0 (by decide) (hts (.fieldLink RX6 9 "EachOnHisCue$Next" "figure" "I") (by decide +kernel)) (fun _ h9 => h9) rfl hin rfl (by decide +kernel) rfl rfl (Nat.le_of_ble_eq_true rfl) dX6_init_6 (fun H locs hP hD hS => ?_)
  have hP : va_P (dC, dI) vwCl [(ha0, .inr (3, [.int p1]))] H := hP
  have hD : va_D A [(ha0, .inr (3, [.int p1]))] := hD
  have hP9 := hP.sub (ws' := [(ha0, .inr (3, [.int p1]))]) [0] rfl
  have hD9 := hD.sub (ws' := [(ha0, .inr (3, [.int p1]))]) [0] (by decide) rfl
  have hpo : ((p1 : Int32) = p1) := by rfl
  exact W.vret hx hb hr (fun t ht hW => ⟨⟨(fun k => [p1].getD k 0, fun k => [].getD k (fun _ => 0)), rfl, (show ((-2147483648) ≤ (p1 : Int32).toInt ∧ (p1 : Int32).toInt ≤ 2147483647) ∧ (((p1 : Int32) = p1)) from ⟨⟨hp1l, hp1h⟩, hpo⟩), by rw [ht]; exact hP9, hD9⟩, hS.F ht⟩) hS.2.2 dX6_init_9
set_option maxHeartbeats 4000000 in
set_option maxRecDepth 100000 in
theorem wX0_init_X3 (l : Launch) (dC : Nat → ClassId) (dI : Nat → Nat → Nat) (cI cQ : ClassId) (ha0 : Nat) (ia0_0 : Int32) (p1 : Int32) (sz : Nat) : Met l yX0_init vsX0_init ({ frames := 2, cells := 0, slots := 0, locals := 33 }) (va_Pc [.ref ha0, .int p1] (zB dC dI cI cQ [(ha0, .inr (3, [.int ia0_0]))] sz)) (zWv dC dI (va_A [(ha0, .inr (3, [.int ia0_0]))] sz) (fun u => [(ha0, .inr (3, [.int (u.1 0)]))]) (fun u => ((-2147483648) ≤ (u.1 0).toInt ∧ (u.1 0).toInt ≤ 2147483647) ∧ (((u.1 0) = p1)))) 0 0 (va_A [(ha0, .inr (3, [.int ia0_0]))] sz) := by
  refine Met.ofW (cc := cX0_init) (maxL := 2) (ret := none) (by decide) rfl ?_
  intro p e s m args below meth c s₁ B hml hv
  obtain ⟨rfl, hsz, hP, hZ, hD0⟩ := hv
  obtain ⟨hK, hAO, hN⟩ := id hZ
  have hx := B.exec
  have hb := B.bytes
  have hr := B.returns
  have hts := atoms_spec (ws := vsX0_init) B.pre
  have hown : s.vm.findClass RX0 = some m.cls := findClass_of_methodNamed B.named
  have hlocks := B.notSynchronized
  subst hsz
  have hD := hD0.self (sz := s.heap.size)
  generalize hAe : va_A [(ha0, .inr (3, [.int ia0_0]))] s.heap.size = A at hD ⊢
  have hA : ∀ q : Nat, s.heap.size ≤ q → A q := fun q h => by rw [← hAe]; exact Or.inr h
  have hS : va_S A s.heap s.heap [] := va_S.rf
  have hP : va_P (dC, dI) vwCl [(ha0, .inr (3, [.int ia0_0]))] s.heap := hP
  have hin : meth.name = "<init>" := (name_of_methodNamed B.named B.method).1
  have hp1l := z_lo p1
  have hp1h := z_hi p1
  have hl := lv_entry ([.ref ha0, .int p1]) (n := 2) (Nat.le_of_ble_eq_true rfl)
  rw [lg_entry_eq]
  generalize (lg_sl ([.ref ha0, .int p1]) ++ List.replicate (2 - (lg_sl ([.ref ha0, .int p1])).length) Slot.unset).toArray = ls at hl ⊢
  have hl : lv_has ls 2 [(0, .ref ha0), (1, .int p1)] := hl
  refine lv_aload_n hx hb dX0_init_0 rfl (lv_at hl 0 rfl) ?_
  refine lv_iload_n hx hb dX0_init_1 rfl (lv_at hl 1 rfl) ?_
  refine z_cwv (wc := [(ha0, .inr (3, [.int ia0_0]))]) (wr := []) (w1 := fun u2 => [(ha0, .inr (3, [.int (u2.1 0)]))]) (va_runI (As := [.int p1]) (rest := []) ⟨hx, hb, hml, hown, hts⟩ (wX6_init_X3 l dC dI cI cQ ha0 ia0_0 p1 s.heap.size) (cwI 1 hts gv_X0_init_X6_init_1 rfl rfl rfl (hts (.initialized RX6) (by decide +kernel)) (hts (.methodLink RX0 1 yX6_init) (by decide +kernel)) (hts (.instanceMethod yX6_init) (by decide +kernel)) rfl (by decide +kernel) ⟨Nat.le_of_ble_eq_true rfl, Nat.le_of_ble_eq_true rfl⟩) ⟨z_blind, z_pre hZ hP hD [0] rfl (by decide +kernel)⟩ rfl rfl hl.1 rfl (lv_room (Nat.le_of_ble_eq_true rfl)) dX0_init_2 ⟨Nat.le_of_ble_eq_true rfl, Nat.le_of_ble_eq_true rfl⟩) hP hD hS hA [0] [] rfl rfl (by decide +kernel) (by decide +kernel) (fun u2 H locs hpo hP hD hS => ?_)
  generalize hgw3 : u2.1 0 = w3 at hP hD hpo
  have hP : va_P (dC, dI) vwCl [(ha0, .inr (3, [.int w3]))] H := hP
  have hD : va_D A [(ha0, .inr (3, [.int w3]))] := hD
  obtain ⟨hw3p, hy1po⟩ := hpo
  obtain ⟨hw3l, hw3h⟩ := hw3p
  have hP9 := hP.sub (ws' := [(ha0, .inr (3, [.int w3]))]) [0] rfl
  have hD9 := hD.sub (ws' := [(ha0, .inr (3, [.int w3]))]) [0] (by decide) rfl
  have hpo : ((w3 : Int32) = p1) := by exact hy1po
  exact W.vret hx hb hr (fun t ht hW => ⟨⟨(fun k => [w3].getD k 0, fun k => [].getD k (fun _ => 0)), rfl, (show ((-2147483648) ≤ (w3 : Int32).toInt ∧ (w3 : Int32).toInt ≤ 2147483647) ∧ (((w3 : Int32) = p1)) from ⟨⟨hw3l, hw3h⟩, hpo⟩), by rw [ht]; exact hP9, hD9⟩, hS.F ht⟩) hS.2.2 dX0_init_5
set_option maxRecDepth 20000 in
theorem edX3_init_0 : decode cX3_init 0 = .ok (.aload_n 0, 1) ∧ decode cX3_init 1 = .ok (.iload_n 1, 1) ∧ decode cX3_init 2 = .ok (.invokespecial 1, 3) ∧ decode cX3_init 5 = .ok (.return_, 1) := by decide +kernel
theorem dX3_init_0 : decode cX3_init 0 = .ok (.aload_n 0, 1) := edX3_init_0.1
theorem dX3_init_1 : decode cX3_init 1 = .ok (.iload_n 1, 1) := edX3_init_0.2.1
theorem dX3_init_2 : decode cX3_init 2 = .ok (.invokespecial 1, 3) := edX3_init_0.2.2.1
theorem dX3_init_5 : decode cX3_init 5 = .ok (.return_, 1) := edX3_init_0.2.2.2
noncomputable def voX3_init : List Cond := [.initialized RX0, .methodLink RX3 1 yX0_init, .instanceMethod yX0_init]
noncomputable def vsX3_init : List Cond := .code yX3_init cX3_init 2 none :: (voX3_init ++ (vsX0_init))
theorem zgX3_init : zGd vsX3_init := z_gdC rfl (z_gdA (z_gdO (by decide +kernel) : zGd voX3_init) (zgX0_init))
theorem gw_X3_init_X0_init : GoodIn vsX3_init vsX0_init := z_gdI (fun _ h => List.mem_cons_of_mem _ (List.mem_append_right _ (h))) zgX0_init
set_option maxRecDepth 20000 in
theorem gv_X3_init_X0_init_1 : GoodIn vsX3_init (vsX0_init) := gw_X3_init_X0_init
set_option maxHeartbeats 4000000 in
set_option maxRecDepth 100000 in
theorem wX3_init (l : Launch) (dC : Nat → ClassId) (dI : Nat → Nat → Nat) (cI cQ : ClassId) (ha0 : Nat) (ia0_0 : Int32) (p1 : Int32) (sz : Nat) : Met l yX3_init vsX3_init ({ frames := 3, cells := 0, slots := 0, locals := 54 }) (va_Pc [.ref ha0, .int p1] (zB dC dI cI cQ [(ha0, .inr (3, [.int ia0_0]))] sz)) (zWv dC dI (va_A [(ha0, .inr (3, [.int ia0_0]))] sz) (fun u => [(ha0, .inr (3, [.int (u.1 0)]))]) (fun u => ((-2147483648) ≤ (u.1 0).toInt ∧ (u.1 0).toInt ≤ 2147483647) ∧ (((u.1 0) = p1)))) 0 0 (va_A [(ha0, .inr (3, [.int ia0_0]))] sz) := by
  refine Met.ofW (cc := cX3_init) (maxL := 2) (ret := none) (by decide) rfl ?_
  intro p e s m args below meth c s₁ B hml hv
  obtain ⟨rfl, hsz, hP, hZ, hD0⟩ := hv
  obtain ⟨hK, hAO, hN⟩ := id hZ
  have hx := B.exec
  have hb := B.bytes
  have hr := B.returns
  have hts := atoms_spec (ws := vsX3_init) B.pre
  have hown : s.vm.findClass RX3 = some m.cls := findClass_of_methodNamed B.named
  have hlocks := B.notSynchronized
  subst hsz
  have hD := hD0.self (sz := s.heap.size)
  generalize hAe : va_A [(ha0, .inr (3, [.int ia0_0]))] s.heap.size = A at hD ⊢
  have hA : ∀ q : Nat, s.heap.size ≤ q → A q := fun q h => by rw [← hAe]; exact Or.inr h
  have hS : va_S A s.heap s.heap [] := va_S.rf
  have hP : va_P (dC, dI) vwCl [(ha0, .inr (3, [.int ia0_0]))] s.heap := hP
  have hin : meth.name = "<init>" := (name_of_methodNamed B.named B.method).1
  have hp1l := z_lo p1
  have hp1h := z_hi p1
  have hl := lv_entry ([.ref ha0, .int p1]) (n := 2) (Nat.le_of_ble_eq_true rfl)
  rw [lg_entry_eq]
  generalize (lg_sl ([.ref ha0, .int p1]) ++ List.replicate (2 - (lg_sl ([.ref ha0, .int p1])).length) Slot.unset).toArray = ls at hl ⊢
  have hl : lv_has ls 2 [(0, .ref ha0), (1, .int p1)] := hl
  refine lv_aload_n hx hb dX3_init_0 rfl (lv_at hl 0 rfl) ?_
  refine lv_iload_n hx hb dX3_init_1 rfl (lv_at hl 1 rfl) ?_
  refine z_cwv (wc := [(ha0, .inr (3, [.int ia0_0]))]) (wr := []) (w1 := fun u2 => [(ha0, .inr (3, [.int (u2.1 0)]))]) (va_runI (As := [.int p1]) (rest := []) ⟨hx, hb, hml, hown, hts⟩ (wX0_init_X3 l dC dI cI cQ ha0 ia0_0 p1 s.heap.size) (cwI 1 hts gv_X3_init_X0_init_1 rfl rfl rfl (hts (.initialized RX0) (by decide +kernel)) (hts (.methodLink RX3 1 yX0_init) (by decide +kernel)) (hts (.instanceMethod yX0_init) (by decide +kernel)) rfl (by decide +kernel) ⟨Nat.le_of_ble_eq_true rfl, Nat.le_of_ble_eq_true rfl⟩) ⟨z_blind, z_pre hZ hP hD [0] rfl (by decide +kernel)⟩ rfl rfl hl.1 rfl (lv_room (Nat.le_of_ble_eq_true rfl)) dX3_init_2 ⟨Nat.le_of_ble_eq_true rfl, Nat.le_of_ble_eq_true rfl⟩) hP hD hS hA [0] [] rfl rfl (by decide +kernel) (by decide +kernel) (fun u2 H locs hpo hP hD hS => ?_)
  generalize hgw3 : u2.1 0 = w3 at hP hD hpo
  have hP : va_P (dC, dI) vwCl [(ha0, .inr (3, [.int w3]))] H := hP
  have hD : va_D A [(ha0, .inr (3, [.int w3]))] := hD
  obtain ⟨hw3p, hy1po⟩ := hpo
  obtain ⟨hw3l, hw3h⟩ := hw3p
  have hP9 := hP.sub (ws' := [(ha0, .inr (3, [.int w3]))]) [0] rfl
  have hD9 := hD.sub (ws' := [(ha0, .inr (3, [.int w3]))]) [0] (by decide) rfl
  have hpo : ((w3 : Int32) = p1) := by exact hy1po
  exact W.vret hx hb hr (fun t ht hW => ⟨⟨(fun k => [w3].getD k 0, fun k => [].getD k (fun _ => 0)), rfl, (show ((-2147483648) ≤ (w3 : Int32).toInt ∧ (w3 : Int32).toInt ≤ 2147483647) ∧ (((w3 : Int32) = p1)) from ⟨⟨hw3l, hw3h⟩, hpo⟩), by rw [ht]; exact hP9, hD9⟩, hS.F ht⟩) hS.2.2 dX3_init_5
set_option maxRecDepth 20000 in
theorem edX11_playerOf_0 : decode cX11_playerOf 0 = .ok (.iload_n 0, 1) ∧ decode cX11_playerOf 1 = .ok (.tableswitch 80 1 5 #[35, 44, 53, 62, 71], 35) ∧ decode cX11_playerOf 36 = .ok (.new 247, 3) ∧ decode cX11_playerOf 39 = .ok (.dup, 1) ∧ decode cX11_playerOf 40 = .ok (.iload_n 1, 1) ∧ decode cX11_playerOf 41 = .ok (.invokespecial 249, 3) ∧ decode cX11_playerOf 44 = .ok (.areturn, 1) ∧ decode cX11_playerOf 45 = .ok (.new 251, 3) ∧ decode cX11_playerOf 48 = .ok (.dup, 1) ∧ decode cX11_playerOf 49 = .ok (.iload_n 1, 1) ∧ decode cX11_playerOf 50 = .ok (.invokespecial 253, 3) ∧ decode cX11_playerOf 53 = .ok (.areturn, 1) := by decide +kernel
theorem dX11_playerOf_0 : decode cX11_playerOf 0 = .ok (.iload_n 0, 1) := edX11_playerOf_0.1
theorem dX11_playerOf_1 : decode cX11_playerOf 1 = .ok (.tableswitch 80 1 5 #[35, 44, 53, 62, 71], 35) := edX11_playerOf_0.2.1
theorem dX11_playerOf_36 : decode cX11_playerOf 36 = .ok (.new 247, 3) := edX11_playerOf_0.2.2.1
theorem dX11_playerOf_39 : decode cX11_playerOf 39 = .ok (.dup, 1) := edX11_playerOf_0.2.2.2.1
theorem dX11_playerOf_40 : decode cX11_playerOf 40 = .ok (.iload_n 1, 1) := edX11_playerOf_0.2.2.2.2.1
theorem dX11_playerOf_41 : decode cX11_playerOf 41 = .ok (.invokespecial 249, 3) := edX11_playerOf_0.2.2.2.2.2.1
theorem dX11_playerOf_44 : decode cX11_playerOf 44 = .ok (.areturn, 1) := edX11_playerOf_0.2.2.2.2.2.2.1
theorem dX11_playerOf_45 : decode cX11_playerOf 45 = .ok (.new 251, 3) := edX11_playerOf_0.2.2.2.2.2.2.2.1
theorem dX11_playerOf_48 : decode cX11_playerOf 48 = .ok (.dup, 1) := edX11_playerOf_0.2.2.2.2.2.2.2.2.1
theorem dX11_playerOf_49 : decode cX11_playerOf 49 = .ok (.iload_n 1, 1) := edX11_playerOf_0.2.2.2.2.2.2.2.2.2.1
theorem dX11_playerOf_50 : decode cX11_playerOf 50 = .ok (.invokespecial 253, 3) := edX11_playerOf_0.2.2.2.2.2.2.2.2.2.2.1
theorem dX11_playerOf_53 : decode cX11_playerOf 53 = .ok (.areturn, 1) := edX11_playerOf_0.2.2.2.2.2.2.2.2.2.2.2
set_option maxRecDepth 20000 in
theorem edX11_playerOf_54 : decode cX11_playerOf 54 = .ok (.new 254, 3) ∧ decode cX11_playerOf 57 = .ok (.dup, 1) ∧ decode cX11_playerOf 58 = .ok (.iload_n 1, 1) ∧ decode cX11_playerOf 59 = .ok (.invokespecial 256, 3) ∧ decode cX11_playerOf 62 = .ok (.areturn, 1) ∧ decode cX11_playerOf 63 = .ok (.new 257, 3) ∧ decode cX11_playerOf 66 = .ok (.dup, 1) ∧ decode cX11_playerOf 67 = .ok (.iload_n 1, 1) ∧ decode cX11_playerOf 68 = .ok (.invokespecial 259, 3) ∧ decode cX11_playerOf 71 = .ok (.areturn, 1) ∧ decode cX11_playerOf 72 = .ok (.new 260, 3) ∧ decode cX11_playerOf 75 = .ok (.dup, 1) := by decide +kernel
theorem dX11_playerOf_54 : decode cX11_playerOf 54 = .ok (.new 254, 3) := edX11_playerOf_54.1
theorem dX11_playerOf_57 : decode cX11_playerOf 57 = .ok (.dup, 1) := edX11_playerOf_54.2.1
theorem dX11_playerOf_58 : decode cX11_playerOf 58 = .ok (.iload_n 1, 1) := edX11_playerOf_54.2.2.1
theorem dX11_playerOf_59 : decode cX11_playerOf 59 = .ok (.invokespecial 256, 3) := edX11_playerOf_54.2.2.2.1
theorem dX11_playerOf_62 : decode cX11_playerOf 62 = .ok (.areturn, 1) := edX11_playerOf_54.2.2.2.2.1
theorem dX11_playerOf_63 : decode cX11_playerOf 63 = .ok (.new 257, 3) := edX11_playerOf_54.2.2.2.2.2.1
theorem dX11_playerOf_66 : decode cX11_playerOf 66 = .ok (.dup, 1) := edX11_playerOf_54.2.2.2.2.2.2.1
theorem dX11_playerOf_67 : decode cX11_playerOf 67 = .ok (.iload_n 1, 1) := edX11_playerOf_54.2.2.2.2.2.2.2.1
theorem dX11_playerOf_68 : decode cX11_playerOf 68 = .ok (.invokespecial 259, 3) := edX11_playerOf_54.2.2.2.2.2.2.2.2.1
theorem dX11_playerOf_71 : decode cX11_playerOf 71 = .ok (.areturn, 1) := edX11_playerOf_54.2.2.2.2.2.2.2.2.2.1
theorem dX11_playerOf_72 : decode cX11_playerOf 72 = .ok (.new 260, 3) := edX11_playerOf_54.2.2.2.2.2.2.2.2.2.2.1
theorem dX11_playerOf_75 : decode cX11_playerOf 75 = .ok (.dup, 1) := edX11_playerOf_54.2.2.2.2.2.2.2.2.2.2.2
set_option maxRecDepth 20000 in
theorem edX11_playerOf_76 : decode cX11_playerOf 76 = .ok (.iload_n 1, 1) ∧ decode cX11_playerOf 77 = .ok (.invokespecial 262, 3) ∧ decode cX11_playerOf 80 = .ok (.areturn, 1) ∧ decode cX11_playerOf 81 = .ok (.new 263, 3) ∧ decode cX11_playerOf 84 = .ok (.dup, 1) ∧ decode cX11_playerOf 85 = .ok (.iload_n 1, 1) ∧ decode cX11_playerOf 86 = .ok (.invokespecial 265, 3) ∧ decode cX11_playerOf 89 = .ok (.areturn, 1) := by decide +kernel
theorem dX11_playerOf_76 : decode cX11_playerOf 76 = .ok (.iload_n 1, 1) := edX11_playerOf_76.1
theorem dX11_playerOf_77 : decode cX11_playerOf 77 = .ok (.invokespecial 262, 3) := edX11_playerOf_76.2.1
theorem dX11_playerOf_80 : decode cX11_playerOf 80 = .ok (.areturn, 1) := edX11_playerOf_76.2.2.1
theorem dX11_playerOf_81 : decode cX11_playerOf 81 = .ok (.new 263, 3) := edX11_playerOf_76.2.2.2.1
theorem dX11_playerOf_84 : decode cX11_playerOf 84 = .ok (.dup, 1) := edX11_playerOf_76.2.2.2.2.1
theorem dX11_playerOf_85 : decode cX11_playerOf 85 = .ok (.iload_n 1, 1) := edX11_playerOf_76.2.2.2.2.2.1
theorem dX11_playerOf_86 : decode cX11_playerOf 86 = .ok (.invokespecial 265, 3) := edX11_playerOf_76.2.2.2.2.2.2.1
theorem dX11_playerOf_89 : decode cX11_playerOf 89 = .ok (.areturn, 1) := edX11_playerOf_76.2.2.2.2.2.2.2
noncomputable def voX11_playerOf : List Cond := [.classLink RX11 263 RX6, .instantiable RX6 1, .initialized RX6, .methodLink RX11 265 yX6_init, .instanceMethod yX6_init, .classLink RX11 247 RX0, .instantiable RX0 1, .initialized RX0, .methodLink RX11 249 yX0_init, .instanceMethod yX0_init, .classLink RX11 251 RX8, .instantiable RX8 1, .initialized RX8, .methodLink RX11 253 yX8_init, .instanceMethod yX8_init, .classLink RX11 254 RX1, .instantiable RX1 1, .initialized RX1, .methodLink RX11 256 yX1_init, .instanceMethod yX1_init, .classLink RX11 257 RX10, .instantiable RX10 1, .initialized RX10, .methodLink RX11 259 yX10_init, .instanceMethod yX10_init, .classLink RX11 260 RX3, .instantiable RX3 1, .initialized RX3, .methodLink RX11 262 yX3_init, .instanceMethod yX3_init]
noncomputable def vsX11_playerOf : List Cond := .code yX11_playerOf cX11_playerOf 2 (some (.object "EachOnHisCue$Next")) :: (voX11_playerOf ++ (vsX6_init ++ (vsX0_init ++ (vsX8_init ++ (vsX1_init ++ (vsX10_init ++ (vsX3_init ++ (wsX00 ++ (wsX10 ++ (wsX30 ++ (wsX60 ++ (wsX80 ++ (wsX100)))))))))))))
theorem zgX11_playerOf : zGd vsX11_playerOf := z_gdC rfl (z_gdA (z_gdO (by decide +kernel) : zGd voX11_playerOf) (z_gdA zgX6_init (z_gdA zgX0_init (z_gdA zgX8_init (z_gdA zgX1_init (z_gdA zgX10_init (z_gdA zgX3_init (z_gdA zgX0 (z_gdA zgX1 (z_gdA zgX3 (z_gdA zgX6 (z_gdA zgX8 (zgX10)))))))))))))
theorem in_X11_playerOf_X0 : ∀ w ∈ wsX00, w ∈ vsX11_playerOf := fun _ h => List.mem_cons_of_mem _ (List.mem_append_right _ (List.mem_append_right _ (List.mem_append_right _ (List.mem_append_right _ (List.mem_append_right _ (List.mem_append_right _ (List.mem_append_right _ (List.mem_append_left _ h))))))))
theorem in_X11_playerOf_X1 : ∀ w ∈ wsX10, w ∈ vsX11_playerOf := fun _ h => List.mem_cons_of_mem _ (List.mem_append_right _ (List.mem_append_right _ (List.mem_append_right _ (List.mem_append_right _ (List.mem_append_right _ (List.mem_append_right _ (List.mem_append_right _ (List.mem_append_right _ (List.mem_append_left _ h)))))))))
theorem in_X11_playerOf_X3 : ∀ w ∈ wsX30, w ∈ vsX11_playerOf := fun _ h => List.mem_cons_of_mem _ (List.mem_append_right _ (List.mem_append_right _ (List.mem_append_right _ (List.mem_append_right _ (List.mem_append_right _ (List.mem_append_right _ (List.mem_append_right _ (List.mem_append_right _ (List.mem_append_right _ (List.mem_append_left _ h))))))))))
theorem in_X11_playerOf_X6 : ∀ w ∈ wsX60, w ∈ vsX11_playerOf := fun _ h => List.mem_cons_of_mem _ (List.mem_append_right _ (List.mem_append_right _ (List.mem_append_right _ (List.mem_append_right _ (List.mem_append_right _ (List.mem_append_right _ (List.mem_append_right _ (List.mem_append_right _ (List.mem_append_right _ (List.mem_append_right _ (List.mem_append_left _ h)))))))))))
theorem in_X11_playerOf_X8 : ∀ w ∈ wsX80, w ∈ vsX11_playerOf := fun _ h => List.mem_cons_of_mem _ (List.mem_append_right _ (List.mem_append_right _ (List.mem_append_right _ (List.mem_append_right _ (List.mem_append_right _ (List.mem_append_right _ (List.mem_append_right _ (List.mem_append_right _ (List.mem_append_right _ (List.mem_append_right _ (List.mem_append_right _ (List.mem_append_left _ h))))))))))))
theorem in_X11_playerOf_X10 : ∀ w ∈ wsX100, w ∈ vsX11_playerOf := fun _ h => List.mem_cons_of_mem _ (List.mem_append_right _ (List.mem_append_right _ (List.mem_append_right _ (List.mem_append_right _ (List.mem_append_right _ (List.mem_append_right _ (List.mem_append_right _ (List.mem_append_right _ (List.mem_append_right _ (List.mem_append_right _ (List.mem_append_right _ (List.mem_append_right _ (h)))))))))))))
theorem gw_X11_playerOf_X6_init : GoodIn vsX11_playerOf vsX6_init := z_gdI (fun _ h => List.mem_cons_of_mem _ (List.mem_append_right _ (List.mem_append_left _ h))) zgX6_init
set_option maxRecDepth 20000 in
theorem gv_X11_playerOf_X6_init_265 : GoodIn vsX11_playerOf (vsX6_init) := gw_X11_playerOf_X6_init
theorem gw_X11_playerOf_X0_init : GoodIn vsX11_playerOf vsX0_init := z_gdI (fun _ h => List.mem_cons_of_mem _ (List.mem_append_right _ (List.mem_append_right _ (List.mem_append_left _ h)))) zgX0_init
set_option maxRecDepth 20000 in
theorem gv_X11_playerOf_X0_init_249 : GoodIn vsX11_playerOf (vsX0_init) := gw_X11_playerOf_X0_init
theorem gw_X11_playerOf_X8_init : GoodIn vsX11_playerOf vsX8_init := z_gdI (fun _ h => List.mem_cons_of_mem _ (List.mem_append_right _ (List.mem_append_right _ (List.mem_append_right _ (List.mem_append_left _ h))))) zgX8_init
set_option maxRecDepth 20000 in
theorem gv_X11_playerOf_X8_init_253 : GoodIn vsX11_playerOf (vsX8_init) := gw_X11_playerOf_X8_init
theorem gw_X11_playerOf_X1_init : GoodIn vsX11_playerOf vsX1_init := z_gdI (fun _ h => List.mem_cons_of_mem _ (List.mem_append_right _ (List.mem_append_right _ (List.mem_append_right _ (List.mem_append_right _ (List.mem_append_left _ h)))))) zgX1_init
set_option maxRecDepth 20000 in
theorem gv_X11_playerOf_X1_init_256 : GoodIn vsX11_playerOf (vsX1_init) := gw_X11_playerOf_X1_init
theorem gw_X11_playerOf_X10_init : GoodIn vsX11_playerOf vsX10_init := z_gdI (fun _ h => List.mem_cons_of_mem _ (List.mem_append_right _ (List.mem_append_right _ (List.mem_append_right _ (List.mem_append_right _ (List.mem_append_right _ (List.mem_append_left _ h))))))) zgX10_init
set_option maxRecDepth 20000 in
theorem gv_X11_playerOf_X10_init_259 : GoodIn vsX11_playerOf (vsX10_init) := gw_X11_playerOf_X10_init
theorem gw_X11_playerOf_X3_init : GoodIn vsX11_playerOf vsX3_init := z_gdI (fun _ h => List.mem_cons_of_mem _ (List.mem_append_right _ (List.mem_append_right _ (List.mem_append_right _ (List.mem_append_right _ (List.mem_append_right _ (List.mem_append_right _ (List.mem_append_left _ h)))))))) zgX3_init
set_option maxRecDepth 20000 in
theorem gv_X11_playerOf_X3_init_262 : GoodIn vsX11_playerOf (vsX3_init) := gw_X11_playerOf_X3_init
set_option maxHeartbeats 4000000 in
set_option maxRecDepth 100000 in
theorem wX11_playerOf (l : Launch) (dC : Nat → ClassId) (dI : Nat → Nat → Nat) (cI cQ : ClassId) (p0 : Int32) (p1 : Int32) (sz : Nat) : Met l yX11_playerOf vsX11_playerOf ({ frames := 4, cells := 1, slots := 1, locals := 75 }) (va_Pc [.int p0, .int p1] (zB dC dI cI cQ [] sz)) (va_Qr (S := Nat × Int32) (fun u => (u.1 = 0 ∨ u.1 = 1 ∨ u.1 = 3 ∨ u.1 = 6 ∨ u.1 = 8 ∨ u.1 = 10) ∧ u.1 = zCi p0.toInt ∧ u.2 = p1) (fun u ra t => va_P (dC, dI) vwCl [(ra, .inr (u.1, [.int u.2]))] t.heap ∧ va_D (va_A [] sz) [(ra, .inr (u.1, [.int u.2]))]) (va_A [] sz)) 1 1 (va_A [] sz) := by
  refine Met.ofW (cc := cX11_playerOf) (maxL := 2) (ret := (some (.object "EachOnHisCue$Next"))) (by decide) rfl ?_
  intro p e s m args below meth c s₁ B hml hv
  obtain ⟨rfl, hsz, hP, hZ, hD0⟩ := hv
  obtain ⟨hK, hAO, hN⟩ := id hZ
  have hx := B.exec
  have hb := B.bytes
  have hr := B.returns
  have hts := atoms_spec (ws := vsX11_playerOf) B.pre
  have hown : s.vm.findClass RX11 = some m.cls := findClass_of_methodNamed B.named
  have hlocks := B.notSynchronized
  subst hsz
  have hD := hD0.self (sz := s.heap.size)
  generalize hAe : va_A [] s.heap.size = A at hD ⊢
  have hA : ∀ q : Nat, s.heap.size ≤ q → A q := fun q h => by rw [← hAe]; exact Or.inr h
  have hS : va_S A s.heap s.heap [] := va_S.rf
  have hP : va_P (dC, dI) vwCl [] s.heap := hP
  have hp0l := z_lo p0
  have hp0h := z_hi p0
  have hp1l := z_lo p1
  have hp1h := z_hi p1
  have hl := lv_entry ([.int p0, .int p1]) (n := 2) (Nat.le_of_ble_eq_true rfl)
  rw [lg_entry_eq]
  generalize (lg_sl ([.int p0, .int p1]) ++ List.replicate (2 - (lg_sl ([.int p0, .int p1])).length) Slot.unset).toArray = ls at hl ⊢
  have hl : lv_has ls 2 [(0, .int p0), (1, .int p1)] := hl
  refine lv_iload_n hx hb dX11_playerOf_0 rfl (lv_at hl 0 rfl) ?_
  rcases (show p0.toInt < 1 ∨ 5 < p0.toInt ∨ p0.toInt = 1 ∨ p0.toInt = 2 ∨ p0.toInt = 3 ∨ p0.toInt = 4 ∨ p0.toInt = 5 by omega) with hs | hs | hs | hs | hs | hs | hs
  · refine lv_tableOut (tgt := 81) hx hb dX11_playerOf_1 (by omega) (by decide) ?_
    refine va_new (ci := 6) (fs := [.int 0]) (C := RX6) (T := TX6) (N := 1) hx hb hts in_X11_playerOf_X6 tyX6 tyX6_ok hown (hts (.classLink RX11 263 RX6) (by decide +kernel)) (hts (.instantiable RX6 1) (by decide +kernel)) (hts (.initialized RX6) (by decide +kernel)) hK hP hD hS hA rfl (fun j hj => by rcases (show j = 0 by omega) with rfl; rfl) (Nat.le_of_ble_eq_true rfl) (Nat.le_of_ble_eq_true rfl) dX11_playerOf_81 (fun q1 H hP hD hS => ?_)
    have hP : va_P (dC, dI) vwCl [(q1, .inr (6, [.int 0]))] H := hP
    have hD : va_D A [(q1, .inr (6, [.int 0]))] := hD
    refine W.widen (k := 1) (n := 1) (Nat.le_of_ble_eq_true rfl) (Nat.le_of_ble_eq_true rfl) ?_
    refine lv_dup hx hb dX11_playerOf_84 rfl ?_
    refine lv_iload_n hx hb dX11_playerOf_85 rfl (lv_at hl 1 rfl) ?_
    refine z_cwv (wc := [(q1, .inr (6, [.int 0]))]) (wr := []) (w1 := fun u3 => [(q1, .inr (6, [.int (u3.1 0)]))]) (va_runI (As := [.int p1]) (rest := [.ref q1]) ⟨hx, hb, hml, hown, hts⟩ (wX6_init l dC dI cI cQ q1 0 p1 H.size) (cwI 1 hts gv_X11_playerOf_X6_init_265 rfl rfl rfl (hts (.initialized RX6) (by decide +kernel)) (hts (.methodLink RX11 265 yX6_init) (by decide +kernel)) (hts (.instanceMethod yX6_init) (by decide +kernel)) rfl (by decide +kernel) ⟨Nat.le_of_ble_eq_true rfl, Nat.le_of_ble_eq_true rfl⟩) ⟨z_blind, z_pre hZ hP hD [0] rfl (by decide +kernel)⟩ rfl rfl hl.1 rfl (lv_room (Nat.le_of_ble_eq_true rfl)) dX11_playerOf_86 ⟨Nat.le_of_ble_eq_true rfl, Nat.le_of_ble_eq_true rfl⟩) hP hD hS hA [0] [] rfl rfl (by decide +kernel) (by decide +kernel) (fun u3 H locs hpo hP hD hS => ?_)
    generalize hgw4 : u3.1 0 = w4 at hP hD hpo
    have hP : va_P (dC, dI) vwCl [(q1, .inr (6, [.int w4]))] H := hP
    have hD : va_D A [(q1, .inr (6, [.int w4]))] := hD
    obtain ⟨hw4p, hy2po⟩ := hpo
    obtain ⟨hw4l, hw4h⟩ := hw4p
    exact W.aret (v := .ref q1) hx hb hr (Or.inl ⟨_, rfl⟩) (Or.inr ⟨_, rfl⟩) (fun t ht hW => ⟨⟨(6, w4), q1, rfl, ⟨(show ((6 : Nat) = 0 ∨ (6 : Nat) = 1 ∨ (6 : Nat) = 3 ∨ (6 : Nat) = 6 ∨ (6 : Nat) = 8 ∨ (6 : Nat) = 10) from by decide), z_ci6 (by omega), hy2po⟩, by rw [ht]; exact hP, hD⟩, hS.F ht⟩) hS.2.2 dX11_playerOf_89
  · refine lv_tableOut (tgt := 81) hx hb dX11_playerOf_1 (by omega) (by decide) ?_
    refine va_new (ci := 6) (fs := [.int 0]) (C := RX6) (T := TX6) (N := 1) hx hb hts in_X11_playerOf_X6 tyX6 tyX6_ok hown (hts (.classLink RX11 263 RX6) (by decide +kernel)) (hts (.instantiable RX6 1) (by decide +kernel)) (hts (.initialized RX6) (by decide +kernel)) hK hP hD hS hA rfl (fun j hj => by rcases (show j = 0 by omega) with rfl; rfl) (Nat.le_of_ble_eq_true rfl) (Nat.le_of_ble_eq_true rfl) dX11_playerOf_81 (fun q5 H hP hD hS => ?_)
    have hP : va_P (dC, dI) vwCl [(q5, .inr (6, [.int 0]))] H := hP
    have hD : va_D A [(q5, .inr (6, [.int 0]))] := hD
    refine W.widen (k := 1) (n := 1) (Nat.le_of_ble_eq_true rfl) (Nat.le_of_ble_eq_true rfl) ?_
    refine lv_dup hx hb dX11_playerOf_84 rfl ?_
    refine lv_iload_n hx hb dX11_playerOf_85 rfl (lv_at hl 1 rfl) ?_
    refine z_cwv (wc := [(q5, .inr (6, [.int 0]))]) (wr := []) (w1 := fun u7 => [(q5, .inr (6, [.int (u7.1 0)]))]) (va_runI (As := [.int p1]) (rest := [.ref q5]) ⟨hx, hb, hml, hown, hts⟩ (wX6_init l dC dI cI cQ q5 0 p1 H.size) (cwI 1 hts gv_X11_playerOf_X6_init_265 rfl rfl rfl (hts (.initialized RX6) (by decide +kernel)) (hts (.methodLink RX11 265 yX6_init) (by decide +kernel)) (hts (.instanceMethod yX6_init) (by decide +kernel)) rfl (by decide +kernel) ⟨Nat.le_of_ble_eq_true rfl, Nat.le_of_ble_eq_true rfl⟩) ⟨z_blind, z_pre hZ hP hD [0] rfl (by decide +kernel)⟩ rfl rfl hl.1 rfl (lv_room (Nat.le_of_ble_eq_true rfl)) dX11_playerOf_86 ⟨Nat.le_of_ble_eq_true rfl, Nat.le_of_ble_eq_true rfl⟩) hP hD hS hA [0] [] rfl rfl (by decide +kernel) (by decide +kernel) (fun u7 H locs hpo hP hD hS => ?_)
    generalize hgw8 : u7.1 0 = w8 at hP hD hpo
    have hP : va_P (dC, dI) vwCl [(q5, .inr (6, [.int w8]))] H := hP
    have hD : va_D A [(q5, .inr (6, [.int w8]))] := hD
    obtain ⟨hw8p, hy6po⟩ := hpo
    obtain ⟨hw8l, hw8h⟩ := hw8p
    exact W.aret (v := .ref q5) hx hb hr (Or.inl ⟨_, rfl⟩) (Or.inr ⟨_, rfl⟩) (fun t ht hW => ⟨⟨(6, w8), q5, rfl, ⟨(show ((6 : Nat) = 0 ∨ (6 : Nat) = 1 ∨ (6 : Nat) = 3 ∨ (6 : Nat) = 6 ∨ (6 : Nat) = 8 ∨ (6 : Nat) = 10) from by decide), z_ci6 (by omega), hy6po⟩, by rw [ht]; exact hP, hD⟩, hS.F ht⟩) hS.2.2 dX11_playerOf_89
  · refine lv_tableIn (tgt := 36) hx hb dX11_playerOf_1 (by omega) (by omega) (off := 35) (by rw [hs]; decide) (by decide) ?_
    refine va_new (ci := 0) (fs := [.int 0]) (C := RX0) (T := TX0) (N := 1) hx hb hts in_X11_playerOf_X0 tyX0 tyX0_ok hown (hts (.classLink RX11 247 RX0) (by decide +kernel)) (hts (.instantiable RX0 1) (by decide +kernel)) (hts (.initialized RX0) (by decide +kernel)) hK hP hD hS hA rfl (fun j hj => by rcases (show j = 0 by omega) with rfl; rfl) (Nat.le_of_ble_eq_true rfl) (Nat.le_of_ble_eq_true rfl) dX11_playerOf_36 (fun q9 H hP hD hS => ?_)
    have hP : va_P (dC, dI) vwCl [(q9, .inr (0, [.int 0]))] H := hP
    have hD : va_D A [(q9, .inr (0, [.int 0]))] := hD
    refine W.widen (k := 1) (n := 1) (Nat.le_of_ble_eq_true rfl) (Nat.le_of_ble_eq_true rfl) ?_
    refine lv_dup hx hb dX11_playerOf_39 rfl ?_
    refine lv_iload_n hx hb dX11_playerOf_40 rfl (lv_at hl 1 rfl) ?_
    refine z_cwv (wc := [(q9, .inr (0, [.int 0]))]) (wr := []) (w1 := fun u11 => [(q9, .inr (0, [.int (u11.1 0)]))]) (va_runI (As := [.int p1]) (rest := [.ref q9]) ⟨hx, hb, hml, hown, hts⟩ (wX0_init l dC dI cI cQ q9 0 p1 H.size) (cwI 1 hts gv_X11_playerOf_X0_init_249 rfl rfl rfl (hts (.initialized RX0) (by decide +kernel)) (hts (.methodLink RX11 249 yX0_init) (by decide +kernel)) (hts (.instanceMethod yX0_init) (by decide +kernel)) rfl (by decide +kernel) ⟨Nat.le_of_ble_eq_true rfl, Nat.le_of_ble_eq_true rfl⟩) ⟨z_blind, z_pre hZ hP hD [0] rfl (by decide +kernel)⟩ rfl rfl hl.1 rfl (lv_room (Nat.le_of_ble_eq_true rfl)) dX11_playerOf_41 ⟨Nat.le_of_ble_eq_true rfl, Nat.le_of_ble_eq_true rfl⟩) hP hD hS hA [0] [] rfl rfl (by decide +kernel) (by decide +kernel) (fun u11 H locs hpo hP hD hS => ?_)
    generalize hgw12 : u11.1 0 = w12 at hP hD hpo
    have hP : va_P (dC, dI) vwCl [(q9, .inr (0, [.int w12]))] H := hP
    have hD : va_D A [(q9, .inr (0, [.int w12]))] := hD
    obtain ⟨hw12p, hy10po⟩ := hpo
    obtain ⟨hw12l, hw12h⟩ := hw12p
    exact W.aret (v := .ref q9) hx hb hr (Or.inl ⟨_, rfl⟩) (Or.inr ⟨_, rfl⟩) (fun t ht hW => ⟨⟨(0, w12), q9, rfl, ⟨(show ((0 : Nat) = 0 ∨ (0 : Nat) = 1 ∨ (0 : Nat) = 3 ∨ (0 : Nat) = 6 ∨ (0 : Nat) = 8 ∨ (0 : Nat) = 10) from by decide), z_ci0 (by omega), hy10po⟩, by rw [ht]; exact hP, hD⟩, hS.F ht⟩) hS.2.2 dX11_playerOf_44
  · refine lv_tableIn (tgt := 45) hx hb dX11_playerOf_1 (by omega) (by omega) (off := 44) (by rw [hs]; decide) (by decide) ?_
    refine va_new (ci := 8) (fs := [.int 0]) (C := RX8) (T := TX8) (N := 1) hx hb hts in_X11_playerOf_X8 tyX8 tyX8_ok hown (hts (.classLink RX11 251 RX8) (by decide +kernel)) (hts (.instantiable RX8 1) (by decide +kernel)) (hts (.initialized RX8) (by decide +kernel)) hK hP hD hS hA rfl (fun j hj => by rcases (show j = 0 by omega) with rfl; rfl) (Nat.le_of_ble_eq_true rfl) (Nat.le_of_ble_eq_true rfl) dX11_playerOf_45 (fun q13 H hP hD hS => ?_)
    have hP : va_P (dC, dI) vwCl [(q13, .inr (8, [.int 0]))] H := hP
    have hD : va_D A [(q13, .inr (8, [.int 0]))] := hD
    refine W.widen (k := 1) (n := 1) (Nat.le_of_ble_eq_true rfl) (Nat.le_of_ble_eq_true rfl) ?_
    refine lv_dup hx hb dX11_playerOf_48 rfl ?_
    refine lv_iload_n hx hb dX11_playerOf_49 rfl (lv_at hl 1 rfl) ?_
    refine z_cwv (wc := [(q13, .inr (8, [.int 0]))]) (wr := []) (w1 := fun u15 => [(q13, .inr (8, [.int (u15.1 0)]))]) (va_runI (As := [.int p1]) (rest := [.ref q13]) ⟨hx, hb, hml, hown, hts⟩ (wX8_init l dC dI cI cQ q13 0 p1 H.size) (cwI 1 hts gv_X11_playerOf_X8_init_253 rfl rfl rfl (hts (.initialized RX8) (by decide +kernel)) (hts (.methodLink RX11 253 yX8_init) (by decide +kernel)) (hts (.instanceMethod yX8_init) (by decide +kernel)) rfl (by decide +kernel) ⟨Nat.le_of_ble_eq_true rfl, Nat.le_of_ble_eq_true rfl⟩) ⟨z_blind, z_pre hZ hP hD [0] rfl (by decide +kernel)⟩ rfl rfl hl.1 rfl (lv_room (Nat.le_of_ble_eq_true rfl)) dX11_playerOf_50 ⟨Nat.le_of_ble_eq_true rfl, Nat.le_of_ble_eq_true rfl⟩) hP hD hS hA [0] [] rfl rfl (by decide +kernel) (by decide +kernel) (fun u15 H locs hpo hP hD hS => ?_)
    generalize hgw16 : u15.1 0 = w16 at hP hD hpo
    have hP : va_P (dC, dI) vwCl [(q13, .inr (8, [.int w16]))] H := hP
    have hD : va_D A [(q13, .inr (8, [.int w16]))] := hD
    obtain ⟨hw16p, hy14po⟩ := hpo
    obtain ⟨hw16l, hw16h⟩ := hw16p
    exact W.aret (v := .ref q13) hx hb hr (Or.inl ⟨_, rfl⟩) (Or.inr ⟨_, rfl⟩) (fun t ht hW => ⟨⟨(8, w16), q13, rfl, ⟨(show ((8 : Nat) = 0 ∨ (8 : Nat) = 1 ∨ (8 : Nat) = 3 ∨ (8 : Nat) = 6 ∨ (8 : Nat) = 8 ∨ (8 : Nat) = 10) from by decide), z_ci8 (by omega), hy14po⟩, by rw [ht]; exact hP, hD⟩, hS.F ht⟩) hS.2.2 dX11_playerOf_53
  · refine lv_tableIn (tgt := 54) hx hb dX11_playerOf_1 (by omega) (by omega) (off := 53) (by rw [hs]; decide) (by decide) ?_
    refine va_new (ci := 1) (fs := [.int 0]) (C := RX1) (T := TX1) (N := 1) hx hb hts in_X11_playerOf_X1 tyX1 tyX1_ok hown (hts (.classLink RX11 254 RX1) (by decide +kernel)) (hts (.instantiable RX1 1) (by decide +kernel)) (hts (.initialized RX1) (by decide +kernel)) hK hP hD hS hA rfl (fun j hj => by rcases (show j = 0 by omega) with rfl; rfl) (Nat.le_of_ble_eq_true rfl) (Nat.le_of_ble_eq_true rfl) dX11_playerOf_54 (fun q17 H hP hD hS => ?_)
    have hP : va_P (dC, dI) vwCl [(q17, .inr (1, [.int 0]))] H := hP
    have hD : va_D A [(q17, .inr (1, [.int 0]))] := hD
    refine W.widen (k := 1) (n := 1) (Nat.le_of_ble_eq_true rfl) (Nat.le_of_ble_eq_true rfl) ?_
    refine lv_dup hx hb dX11_playerOf_57 rfl ?_
    refine lv_iload_n hx hb dX11_playerOf_58 rfl (lv_at hl 1 rfl) ?_
    refine z_cwv (wc := [(q17, .inr (1, [.int 0]))]) (wr := []) (w1 := fun u19 => [(q17, .inr (1, [.int (u19.1 0)]))]) (va_runI (As := [.int p1]) (rest := [.ref q17]) ⟨hx, hb, hml, hown, hts⟩ (wX1_init l dC dI cI cQ q17 0 p1 H.size) (cwI 1 hts gv_X11_playerOf_X1_init_256 rfl rfl rfl (hts (.initialized RX1) (by decide +kernel)) (hts (.methodLink RX11 256 yX1_init) (by decide +kernel)) (hts (.instanceMethod yX1_init) (by decide +kernel)) rfl (by decide +kernel) ⟨Nat.le_of_ble_eq_true rfl, Nat.le_of_ble_eq_true rfl⟩) ⟨z_blind, z_pre hZ hP hD [0] rfl (by decide +kernel)⟩ rfl rfl hl.1 rfl (lv_room (Nat.le_of_ble_eq_true rfl)) dX11_playerOf_59 ⟨Nat.le_of_ble_eq_true rfl, Nat.le_of_ble_eq_true rfl⟩) hP hD hS hA [0] [] rfl rfl (by decide +kernel) (by decide +kernel) (fun u19 H locs hpo hP hD hS => ?_)
    generalize hgw20 : u19.1 0 = w20 at hP hD hpo
    have hP : va_P (dC, dI) vwCl [(q17, .inr (1, [.int w20]))] H := hP
    have hD : va_D A [(q17, .inr (1, [.int w20]))] := hD
    obtain ⟨hw20p, hy18po⟩ := hpo
    obtain ⟨hw20l, hw20h⟩ := hw20p
    exact W.aret (v := .ref q17) hx hb hr (Or.inl ⟨_, rfl⟩) (Or.inr ⟨_, rfl⟩) (fun t ht hW => ⟨⟨(1, w20), q17, rfl, ⟨(show ((1 : Nat) = 0 ∨ (1 : Nat) = 1 ∨ (1 : Nat) = 3 ∨ (1 : Nat) = 6 ∨ (1 : Nat) = 8 ∨ (1 : Nat) = 10) from by decide), z_ci1 (by omega), hy18po⟩, by rw [ht]; exact hP, hD⟩, hS.F ht⟩) hS.2.2 dX11_playerOf_62
  · refine lv_tableIn (tgt := 63) hx hb dX11_playerOf_1 (by omega) (by omega) (off := 62) (by rw [hs]; decide) (by decide) ?_
    refine va_new (ci := 10) (fs := [.int 0]) (C := RX10) (T := TX10) (N := 1) hx hb hts in_X11_playerOf_X10 tyX10 tyX10_ok hown (hts (.classLink RX11 257 RX10) (by decide +kernel)) (hts (.instantiable RX10 1) (by decide +kernel)) (hts (.initialized RX10) (by decide +kernel)) hK hP hD hS hA rfl (fun j hj => by rcases (show j = 0 by omega) with rfl; rfl) (Nat.le_of_ble_eq_true rfl) (Nat.le_of_ble_eq_true rfl) dX11_playerOf_63 (fun q21 H hP hD hS => ?_)
    have hP : va_P (dC, dI) vwCl [(q21, .inr (10, [.int 0]))] H := hP
    have hD : va_D A [(q21, .inr (10, [.int 0]))] := hD
    refine W.widen (k := 1) (n := 1) (Nat.le_of_ble_eq_true rfl) (Nat.le_of_ble_eq_true rfl) ?_
    refine lv_dup hx hb dX11_playerOf_66 rfl ?_
    refine lv_iload_n hx hb dX11_playerOf_67 rfl (lv_at hl 1 rfl) ?_
    refine z_cwv (wc := [(q21, .inr (10, [.int 0]))]) (wr := []) (w1 := fun u23 => [(q21, .inr (10, [.int (u23.1 0)]))]) (va_runI (As := [.int p1]) (rest := [.ref q21]) ⟨hx, hb, hml, hown, hts⟩ (wX10_init l dC dI cI cQ q21 0 p1 H.size) (cwI 1 hts gv_X11_playerOf_X10_init_259 rfl rfl rfl (hts (.initialized RX10) (by decide +kernel)) (hts (.methodLink RX11 259 yX10_init) (by decide +kernel)) (hts (.instanceMethod yX10_init) (by decide +kernel)) rfl (by decide +kernel) ⟨Nat.le_of_ble_eq_true rfl, Nat.le_of_ble_eq_true rfl⟩) ⟨z_blind, z_pre hZ hP hD [0] rfl (by decide +kernel)⟩ rfl rfl hl.1 rfl (lv_room (Nat.le_of_ble_eq_true rfl)) dX11_playerOf_68 ⟨Nat.le_of_ble_eq_true rfl, Nat.le_of_ble_eq_true rfl⟩) hP hD hS hA [0] [] rfl rfl (by decide +kernel) (by decide +kernel) (fun u23 H locs hpo hP hD hS => ?_)
    generalize hgw24 : u23.1 0 = w24 at hP hD hpo
    have hP : va_P (dC, dI) vwCl [(q21, .inr (10, [.int w24]))] H := hP
    have hD : va_D A [(q21, .inr (10, [.int w24]))] := hD
    obtain ⟨hw24p, hy22po⟩ := hpo
    obtain ⟨hw24l, hw24h⟩ := hw24p
    exact W.aret (v := .ref q21) hx hb hr (Or.inl ⟨_, rfl⟩) (Or.inr ⟨_, rfl⟩) (fun t ht hW => ⟨⟨(10, w24), q21, rfl, ⟨(show ((10 : Nat) = 0 ∨ (10 : Nat) = 1 ∨ (10 : Nat) = 3 ∨ (10 : Nat) = 6 ∨ (10 : Nat) = 8 ∨ (10 : Nat) = 10) from by decide), z_ci10 (by omega), hy22po⟩, by rw [ht]; exact hP, hD⟩, hS.F ht⟩) hS.2.2 dX11_playerOf_71
  · refine lv_tableIn (tgt := 72) hx hb dX11_playerOf_1 (by omega) (by omega) (off := 71) (by rw [hs]; decide) (by decide) ?_
    refine va_new (ci := 3) (fs := [.int 0]) (C := RX3) (T := TX3) (N := 1) hx hb hts in_X11_playerOf_X3 tyX3 tyX3_ok hown (hts (.classLink RX11 260 RX3) (by decide +kernel)) (hts (.instantiable RX3 1) (by decide +kernel)) (hts (.initialized RX3) (by decide +kernel)) hK hP hD hS hA rfl (fun j hj => by rcases (show j = 0 by omega) with rfl; rfl) (Nat.le_of_ble_eq_true rfl) (Nat.le_of_ble_eq_true rfl) dX11_playerOf_72 (fun q25 H hP hD hS => ?_)
    have hP : va_P (dC, dI) vwCl [(q25, .inr (3, [.int 0]))] H := hP
    have hD : va_D A [(q25, .inr (3, [.int 0]))] := hD
    refine W.widen (k := 1) (n := 1) (Nat.le_of_ble_eq_true rfl) (Nat.le_of_ble_eq_true rfl) ?_
    refine lv_dup hx hb dX11_playerOf_75 rfl ?_
    refine lv_iload_n hx hb dX11_playerOf_76 rfl (lv_at hl 1 rfl) ?_
    refine z_cwv (wc := [(q25, .inr (3, [.int 0]))]) (wr := []) (w1 := fun u27 => [(q25, .inr (3, [.int (u27.1 0)]))]) (va_runI (As := [.int p1]) (rest := [.ref q25]) ⟨hx, hb, hml, hown, hts⟩ (wX3_init l dC dI cI cQ q25 0 p1 H.size) (cwI 1 hts gv_X11_playerOf_X3_init_262 rfl rfl rfl (hts (.initialized RX3) (by decide +kernel)) (hts (.methodLink RX11 262 yX3_init) (by decide +kernel)) (hts (.instanceMethod yX3_init) (by decide +kernel)) rfl (by decide +kernel) ⟨Nat.le_of_ble_eq_true rfl, Nat.le_of_ble_eq_true rfl⟩) ⟨z_blind, z_pre hZ hP hD [0] rfl (by decide +kernel)⟩ rfl rfl hl.1 rfl (lv_room (Nat.le_of_ble_eq_true rfl)) dX11_playerOf_77 ⟨Nat.le_of_ble_eq_true rfl, Nat.le_of_ble_eq_true rfl⟩) hP hD hS hA [0] [] rfl rfl (by decide +kernel) (by decide +kernel) (fun u27 H locs hpo hP hD hS => ?_)
    generalize hgw28 : u27.1 0 = w28 at hP hD hpo
    have hP : va_P (dC, dI) vwCl [(q25, .inr (3, [.int w28]))] H := hP
    have hD : va_D A [(q25, .inr (3, [.int w28]))] := hD
    obtain ⟨hw28p, hy26po⟩ := hpo
    obtain ⟨hw28l, hw28h⟩ := hw28p
    exact W.aret (v := .ref q25) hx hb hr (Or.inl ⟨_, rfl⟩) (Or.inr ⟨_, rfl⟩) (fun t ht hW => ⟨⟨(3, w28), q25, rfl, ⟨(show ((3 : Nat) = 0 ∨ (3 : Nat) = 1 ∨ (3 : Nat) = 3 ∨ (3 : Nat) = 6 ∨ (3 : Nat) = 8 ∨ (3 : Nat) = 10) from by decide), z_ci3 (by omega), hy26po⟩, by rw [ht]; exact hP, hD⟩, hS.F ht⟩) hS.2.2 dX11_playerOf_80
set_option maxRecDepth 20000 in
theorem edX4_bringAll_0 : decode cX4_bringAll 0 = .ok (.iconst 0, 1) ∧ decode cX4_bringAll 1 = .ok (.istore_n 2, 1) ∧ decode cX4_bringAll 2 = .ok (.iconst 0, 1) ∧ decode cX4_bringAll 3 = .ok (.istore_n 3, 1) ∧ decode cX4_bringAll 4 = .ok (.iload_n 3, 1) ∧ decode cX4_bringAll 5 = .ok (.aload_n 0, 1) ∧ decode cX4_bringAll 6 = .ok (.getfield 15, 3) ∧ decode cX4_bringAll 9 = .ok (.if_icmp .ge 70, 3) ∧ decode cX4_bringAll 12 = .ok (.aload_n 0, 1) ∧ decode cX4_bringAll 13 = .ok (.iload_n 3, 1) ∧ decode cX4_bringAll 14 = .ok (.invokevirtual 50, 3) ∧ decode cX4_bringAll 17 = .ok (.ifCond .ne 6, 3) := by decide +kernel
theorem dX4_bringAll_0 : decode cX4_bringAll 0 = .ok (.iconst 0, 1) := edX4_bringAll_0.1
theorem dX4_bringAll_1 : decode cX4_bringAll 1 = .ok (.istore_n 2, 1) := edX4_bringAll_0.2.1
theorem dX4_bringAll_2 : decode cX4_bringAll 2 = .ok (.iconst 0, 1) := edX4_bringAll_0.2.2.1
theorem dX4_bringAll_3 : decode cX4_bringAll 3 = .ok (.istore_n 3, 1) := edX4_bringAll_0.2.2.2.1
theorem dX4_bringAll_4 : decode cX4_bringAll 4 = .ok (.iload_n 3, 1) := edX4_bringAll_0.2.2.2.2.1
theorem dX4_bringAll_5 : decode cX4_bringAll 5 = .ok (.aload_n 0, 1) := edX4_bringAll_0.2.2.2.2.2.1
theorem dX4_bringAll_6 : decode cX4_bringAll 6 = .ok (.getfield 15, 3) := edX4_bringAll_0.2.2.2.2.2.2.1
theorem dX4_bringAll_9 : decode cX4_bringAll 9 = .ok (.if_icmp .ge 70, 3) := edX4_bringAll_0.2.2.2.2.2.2.2.1
theorem dX4_bringAll_12 : decode cX4_bringAll 12 = .ok (.aload_n 0, 1) := edX4_bringAll_0.2.2.2.2.2.2.2.2.1
theorem dX4_bringAll_13 : decode cX4_bringAll 13 = .ok (.iload_n 3, 1) := edX4_bringAll_0.2.2.2.2.2.2.2.2.2.1
theorem dX4_bringAll_14 : decode cX4_bringAll 14 = .ok (.invokevirtual 50, 3) := edX4_bringAll_0.2.2.2.2.2.2.2.2.2.2.1
theorem dX4_bringAll_17 : decode cX4_bringAll 17 = .ok (.ifCond .ne 6, 3) := edX4_bringAll_0.2.2.2.2.2.2.2.2.2.2.2
set_option maxRecDepth 20000 in
theorem edX4_bringAll_20 : decode cX4_bringAll 20 = .ok (.goto 53, 3) ∧ decode cX4_bringAll 23 = .ok (.aload_n 0, 1) ∧ decode cX4_bringAll 24 = .ok (.iload_n 3, 1) ∧ decode cX4_bringAll 25 = .ok (.invokevirtual 19, 3) ∧ decode cX4_bringAll 28 = .ok (.bipush 112, 2) ∧ decode cX4_bringAll 30 = .ok (.if_icmp .ne 34, 3) ∧ decode cX4_bringAll 33 = .ok (.aload_n 1, 1) ∧ decode cX4_bringAll 34 = .ok (.aload_n 0, 1) ∧ decode cX4_bringAll 35 = .ok (.iload_n 3, 1) ∧ decode cX4_bringAll 36 = .ok (.iconst 1, 1) ∧ decode cX4_bringAll 37 = .ok (.iadd, 1) ∧ decode cX4_bringAll 38 = .ok (.invokevirtual 61, 3) := by decide +kernel
theorem dX4_bringAll_20 : decode cX4_bringAll 20 = .ok (.goto 53, 3) := edX4_bringAll_20.1
theorem dX4_bringAll_23 : decode cX4_bringAll 23 = .ok (.aload_n 0, 1) := edX4_bringAll_20.2.1
theorem dX4_bringAll_24 : decode cX4_bringAll 24 = .ok (.iload_n 3, 1) := edX4_bringAll_20.2.2.1
theorem dX4_bringAll_25 : decode cX4_bringAll 25 = .ok (.invokevirtual 19, 3) := edX4_bringAll_20.2.2.2.1
theorem dX4_bringAll_28 : decode cX4_bringAll 28 = .ok (.bipush 112, 2) := edX4_bringAll_20.2.2.2.2.1
theorem dX4_bringAll_30 : decode cX4_bringAll 30 = .ok (.if_icmp .ne 34, 3) := edX4_bringAll_20.2.2.2.2.2.1
theorem dX4_bringAll_33 : decode cX4_bringAll 33 = .ok (.aload_n 1, 1) := edX4_bringAll_20.2.2.2.2.2.2.1
theorem dX4_bringAll_34 : decode cX4_bringAll 34 = .ok (.aload_n 0, 1) := edX4_bringAll_20.2.2.2.2.2.2.2.1
theorem dX4_bringAll_35 : decode cX4_bringAll 35 = .ok (.iload_n 3, 1) := edX4_bringAll_20.2.2.2.2.2.2.2.2.1
theorem dX4_bringAll_36 : decode cX4_bringAll 36 = .ok (.iconst 1, 1) := edX4_bringAll_20.2.2.2.2.2.2.2.2.2.1
theorem dX4_bringAll_37 : decode cX4_bringAll 37 = .ok (.iadd, 1) := edX4_bringAll_20.2.2.2.2.2.2.2.2.2.2.1
theorem dX4_bringAll_38 : decode cX4_bringAll 38 = .ok (.invokevirtual 61, 3) := edX4_bringAll_20.2.2.2.2.2.2.2.2.2.2.2
set_option maxRecDepth 20000 in
theorem edX4_bringAll_41 : decode cX4_bringAll 41 = .ok (.aload_n 0, 1) ∧ decode cX4_bringAll 42 = .ok (.iload_n 3, 1) ∧ decode cX4_bringAll 43 = .ok (.iconst 2, 1) ∧ decode cX4_bringAll 44 = .ok (.iadd, 1) ∧ decode cX4_bringAll 45 = .ok (.invokevirtual 61, 3) ∧ decode cX4_bringAll 48 = .ok (.invokestatic 67, 3) ∧ decode cX4_bringAll 51 = .ok (.aload_n 0, 1) ∧ decode cX4_bringAll 52 = .ok (.iload_n 3, 1) ∧ decode cX4_bringAll 53 = .ok (.iconst 3, 1) ∧ decode cX4_bringAll 54 = .ok (.iadd, 1) ∧ decode cX4_bringAll 55 = .ok (.invokevirtual 61, 3) ∧ decode cX4_bringAll 58 = .ok (.invokevirtual 71, 3) := by decide +kernel
theorem dX4_bringAll_41 : decode cX4_bringAll 41 = .ok (.aload_n 0, 1) := edX4_bringAll_41.1
theorem dX4_bringAll_42 : decode cX4_bringAll 42 = .ok (.iload_n 3, 1) := edX4_bringAll_41.2.1
theorem dX4_bringAll_43 : decode cX4_bringAll 43 = .ok (.iconst 2, 1) := edX4_bringAll_41.2.2.1
theorem dX4_bringAll_44 : decode cX4_bringAll 44 = .ok (.iadd, 1) := edX4_bringAll_41.2.2.2.1
theorem dX4_bringAll_45 : decode cX4_bringAll 45 = .ok (.invokevirtual 61, 3) := edX4_bringAll_41.2.2.2.2.1
theorem dX4_bringAll_48 : decode cX4_bringAll 48 = .ok (.invokestatic 67, 3) := edX4_bringAll_41.2.2.2.2.2.1
theorem dX4_bringAll_51 : decode cX4_bringAll 51 = .ok (.aload_n 0, 1) := edX4_bringAll_41.2.2.2.2.2.2.1
theorem dX4_bringAll_52 : decode cX4_bringAll 52 = .ok (.iload_n 3, 1) := edX4_bringAll_41.2.2.2.2.2.2.2.1
theorem dX4_bringAll_53 : decode cX4_bringAll 53 = .ok (.iconst 3, 1) := edX4_bringAll_41.2.2.2.2.2.2.2.2.1
theorem dX4_bringAll_54 : decode cX4_bringAll 54 = .ok (.iadd, 1) := edX4_bringAll_41.2.2.2.2.2.2.2.2.2.1
theorem dX4_bringAll_55 : decode cX4_bringAll 55 = .ok (.invokevirtual 61, 3) := edX4_bringAll_41.2.2.2.2.2.2.2.2.2.2.1
theorem dX4_bringAll_58 : decode cX4_bringAll 58 = .ok (.invokevirtual 71, 3) := edX4_bringAll_41.2.2.2.2.2.2.2.2.2.2.2
set_option maxRecDepth 20000 in
theorem edX4_bringAll_61 : decode cX4_bringAll 61 = .ok (.goto 9, 3) ∧ decode cX4_bringAll 64 = .ok (.aload_n 0, 1) ∧ decode cX4_bringAll 65 = .ok (.aload_n 1, 1) ∧ decode cX4_bringAll 66 = .ok (.iload_n 3, 1) ∧ decode cX4_bringAll 67 = .ok (.invokevirtual 75, 3) ∧ decode cX4_bringAll 70 = .ok (.iinc 2 1, 3) ∧ decode cX4_bringAll 73 = .ok (.iinc 3 1, 3) ∧ decode cX4_bringAll 76 = .ok (.goto (-72), 3) ∧ decode cX4_bringAll 79 = .ok (.iload_n 2, 1) ∧ decode cX4_bringAll 80 = .ok (.ireturn, 1) := by decide +kernel
theorem dX4_bringAll_61 : decode cX4_bringAll 61 = .ok (.goto 9, 3) := edX4_bringAll_61.1
theorem dX4_bringAll_64 : decode cX4_bringAll 64 = .ok (.aload_n 0, 1) := edX4_bringAll_61.2.1
theorem dX4_bringAll_65 : decode cX4_bringAll 65 = .ok (.aload_n 1, 1) := edX4_bringAll_61.2.2.1
theorem dX4_bringAll_66 : decode cX4_bringAll 66 = .ok (.iload_n 3, 1) := edX4_bringAll_61.2.2.2.1
theorem dX4_bringAll_67 : decode cX4_bringAll 67 = .ok (.invokevirtual 75, 3) := edX4_bringAll_61.2.2.2.2.1
theorem dX4_bringAll_70 : decode cX4_bringAll 70 = .ok (.iinc 2 1, 3) := edX4_bringAll_61.2.2.2.2.2.1
theorem dX4_bringAll_73 : decode cX4_bringAll 73 = .ok (.iinc 3 1, 3) := edX4_bringAll_61.2.2.2.2.2.2.1
theorem dX4_bringAll_76 : decode cX4_bringAll 76 = .ok (.goto (-72), 3) := edX4_bringAll_61.2.2.2.2.2.2.2.1
theorem dX4_bringAll_79 : decode cX4_bringAll 79 = .ok (.iload_n 2, 1) := edX4_bringAll_61.2.2.2.2.2.2.2.2.1
theorem dX4_bringAll_80 : decode cX4_bringAll 80 = .ok (.ireturn, 1) := edX4_bringAll_61.2.2.2.2.2.2.2.2.2
noncomputable def voX4_bringAll : List Cond := [.fieldLink RX4 15 "EachOnHisCue$Letters" "size" "I", .initialized RX11, .static yX11_playerOf, .methodLink RX4 50 yX4_begins, .instanceMethod yX4_begins, .selects RX4 yX4_begins yX4_begins, .initialized RX4, .methodLink RX4 19 yX4_at, .instanceMethod yX4_at, .selects RX4 yX4_at yX4_at, .methodLink RX4 75 yX4_bringLine, .instanceMethod yX4_bringLine, .selects RX4 yX4_bringLine yX4_bringLine, .methodLink RX4 61 yX4_digit, .instanceMethod yX4_digit, .selects RX4 yX4_digit yX4_digit, .methodLink RX4 71 yX7_addPlayer, .instanceMethod yX7_addPlayer, .selects RX7 yX7_addPlayer yX7_addPlayer, .initialized RX7]
noncomputable def vsX4_bringAll : List Cond := .code yX4_bringAll cX4_bringAll 4 (some .int) :: (voX4_bringAll ++ (vsX4_begins ++ (vsX4_at ++ (vsX4_bringLine ++ (vsX4_digit ++ (vsX11_playerOf ++ (vsX7_addPlayer ++ (wsX40))))))))
theorem zgX4_bringAll : zGd vsX4_bringAll := z_gdC rfl (z_gdA (z_gdO (by decide +kernel) : zGd voX4_bringAll) (z_gdA zgX4_begins (z_gdA zgX4_at (z_gdA zgX4_bringLine (z_gdA zgX4_digit (z_gdA zgX11_playerOf (z_gdA zgX7_addPlayer (zgX4))))))))
theorem in_X4_bringAll_X4 : ∀ w ∈ wsX40, w ∈ vsX4_bringAll := fun _ h => List.mem_cons_of_mem _ (List.mem_append_right _ (List.mem_append_right _ (List.mem_append_right _ (List.mem_append_right _ (List.mem_append_right _ (List.mem_append_right _ (List.mem_append_right _ (h))))))))
theorem gw_X4_bringAll_X4_begins : GoodIn vsX4_bringAll vsX4_begins := z_gdI (fun _ h => List.mem_cons_of_mem _ (List.mem_append_right _ (List.mem_append_left _ h))) zgX4_begins
set_option maxRecDepth 20000 in
theorem gv_X4_bringAll_X4_begins_50 : GoodIn vsX4_bringAll (wsV RX4 50 RX4 yX4_begins vsX4_begins) := goodIn_app (goodIn_of _ (by decide +kernel)) gw_X4_bringAll_X4_begins
theorem gw_X4_bringAll_X4_at : GoodIn vsX4_bringAll vsX4_at := z_gdI (fun _ h => List.mem_cons_of_mem _ (List.mem_append_right _ (List.mem_append_right _ (List.mem_append_left _ h)))) zgX4_at
set_option maxRecDepth 20000 in
theorem gv_X4_bringAll_X4_at_19 : GoodIn vsX4_bringAll (wsV RX4 19 RX4 yX4_at vsX4_at) := goodIn_app (goodIn_of _ (by decide +kernel)) gw_X4_bringAll_X4_at
theorem gw_X4_bringAll_X4_bringLine : GoodIn vsX4_bringAll vsX4_bringLine := z_gdI (fun _ h => List.mem_cons_of_mem _ (List.mem_append_right _ (List.mem_append_right _ (List.mem_append_right _ (List.mem_append_left _ h))))) zgX4_bringLine
set_option maxRecDepth 20000 in
theorem gv_X4_bringAll_X4_bringLine_75 : GoodIn vsX4_bringAll (wsV RX4 75 RX4 yX4_bringLine vsX4_bringLine) := goodIn_app (goodIn_of _ (by decide +kernel)) gw_X4_bringAll_X4_bringLine
theorem gw_X4_bringAll_X4_digit : GoodIn vsX4_bringAll vsX4_digit := z_gdI (fun _ h => List.mem_cons_of_mem _ (List.mem_append_right _ (List.mem_append_right _ (List.mem_append_right _ (List.mem_append_right _ (List.mem_append_left _ h)))))) zgX4_digit
set_option maxRecDepth 20000 in
theorem gv_X4_bringAll_X4_digit_61 : GoodIn vsX4_bringAll (wsV RX4 61 RX4 yX4_digit vsX4_digit) := goodIn_app (goodIn_of _ (by decide +kernel)) gw_X4_bringAll_X4_digit
theorem gw_X4_bringAll_X11_playerOf : GoodIn vsX4_bringAll vsX11_playerOf := z_gdI (fun _ h => List.mem_cons_of_mem _ (List.mem_append_right _ (List.mem_append_right _ (List.mem_append_right _ (List.mem_append_right _ (List.mem_append_right _ (List.mem_append_left _ h))))))) zgX11_playerOf
set_option maxRecDepth 20000 in
theorem gv_X4_bringAll_X11_playerOf_67 : GoodIn vsX4_bringAll (vsX11_playerOf) := gw_X4_bringAll_X11_playerOf
theorem gw_X4_bringAll_X7_addPlayer : GoodIn vsX4_bringAll vsX7_addPlayer := z_gdI (fun _ h => List.mem_cons_of_mem _ (List.mem_append_right _ (List.mem_append_right _ (List.mem_append_right _ (List.mem_append_right _ (List.mem_append_right _ (List.mem_append_right _ (List.mem_append_left _ h)))))))) zgX7_addPlayer
set_option maxRecDepth 20000 in
theorem gv_X4_bringAll_X7_addPlayer_71 : GoodIn vsX4_bringAll (wsV RX4 71 RX7 yX7_addPlayer vsX7_addPlayer) := goodIn_app (goodIn_of _ (by decide +kernel)) gw_X4_bringAll_X7_addPlayer
set_option maxHeartbeats 4000000 in
set_option maxRecDepth 100000 in
theorem wX4_bringAll (l : Launch) (dC : Nat → ClassId) (dI : Nat → Nat → Nat) (cI cQ : ClassId) (ha0 ha1 ha0_0 ha1_0 ha1_1 ha1_2 ha1_4 ha1_5 ha1_6 ha1_7 ha1_11 : Nat) (pw : va_W) (hpwpw : zPw pw) (fa0_0 : Nat → Int32) (hBfa0_0 : ∀ k, 0 ≤ (fa0_0 k).toInt ∧ (fa0_0 k).toInt ≤ 255) (ia0_1 : Int32) (hia0_1l : 0 ≤ ia0_1.toInt) (hia0_1h : ia0_1.toInt ≤ 80) (ga1_0 : Nat → ZQ) (hPLga1_0_pw : zHp (zPLs pw) ga1_0) (fa1_1 : Nat → Int32) (fa1_2 : Nat → Int32) (fa1_4 : Nat → Int32) (fa1_5 : Nat → Int32) (fa1_6 : Nat → Int32) (hBfa1_6 : ∀ k, 0 ≤ (fa1_6 k).toInt ∧ (fa1_6 k).toInt ≤ 4) (fa1_7 : Nat → Int32) (hBfa1_7 : ∀ k, (-48) ≤ (fa1_7 k).toInt ∧ (fa1_7 k).toInt ≤ 207) (ia1_3 : Int32) (hia1_3l : 0 ≤ ia1_3.toInt) (hia1_3h : ia1_3.toInt ≤ 5) (ia1_8 : Int32) (ia1_9 : Int32) (hia1_9l : 0 ≤ ia1_9.toInt) (hia1_9h : ia1_9.toInt ≤ 12) (ia1_10 : Int32) (sz : Nat) : Met l yX4_bringAll vsX4_bringAll ({ frames := 5, cells := 80, slots := 80, locals := 96 }) (va_Pc [.ref ha0, .ref ha1] (zB dC dI cI cQ ([(ha0_0, .inl (cI, 80, .inl fa0_0)), (ha0, .inr (4, [.ref ha0_0, .int ia0_1])), (ha1_0, .inl (cQ, 5, .inr (.inr (.inr (.inr (fun i => (ga1_0 i).1)))))), (ha1_1, .inl (cI, 5, .inl fa1_1)), (ha1_2, .inl (cI, 5, .inl fa1_2)), (ha1_4, .inl (cI, 12, .inl fa1_4)), (ha1_5, .inl (cI, 12, .inl fa1_5)), (ha1_6, .inl (cI, 12, .inl fa1_6)), (ha1_7, .inl (cI, 12, .inl fa1_7)), (ha1, .inr (7, [.ref ha1_0, .ref ha1_1, .ref ha1_2, .int ia1_3, .ref ha1_4, .ref ha1_5, .ref ha1_6, .ref ha1_7, .int ia1_8, .int ia1_9, .int ia1_10, .ref ha1_11]))] ++ pw) sz)) (zWiG (S := (ZU × (Nat → Nat → ZQ)) × va_W) dC dI (va_A ([(ha0_0, .inl (cI, 80, .inl fa0_0)), (ha0, .inr (4, [.ref ha0_0, .int ia0_1])), (ha1_0, .inl (cQ, 5, .inr (.inr (.inr (.inr (fun i => (ga1_0 i).1)))))), (ha1_1, .inl (cI, 5, .inl fa1_1)), (ha1_2, .inl (cI, 5, .inl fa1_2)), (ha1_4, .inl (cI, 12, .inl fa1_4)), (ha1_5, .inl (cI, 12, .inl fa1_5)), (ha1_6, .inl (cI, 12, .inl fa1_6)), (ha1_7, .inl (cI, 12, .inl fa1_7)), (ha1, .inr (7, [.ref ha1_0, .ref ha1_1, .ref ha1_2, .int ia1_3, .ref ha1_4, .ref ha1_5, .ref ha1_6, .ref ha1_7, .int ia1_8, .int ia1_9, .int ia1_10, .ref ha1_11]))] ++ pw) sz) (fun u => [(ha0_0, .inl (cI, 80, .inl fa0_0)), (ha0, .inr (4, [.ref ha0_0, .int ia0_1])), (ha1_0, .inl (cQ, 5, .inr (.inr (.inr (.inr (fun i => ((u.1.2 0) i).1)))))), (ha1_1, .inl (cI, 5, .inl (u.1.1.2 0))), (ha1_2, .inl (cI, 5, .inl (u.1.1.2 1))), (ha1_4, .inl (cI, 12, .inl (u.1.1.2 2))), (ha1_5, .inl (cI, 12, .inl (u.1.1.2 3))), (ha1_6, .inl (cI, 12, .inl (u.1.1.2 4))), (ha1_7, .inl (cI, 12, .inl (u.1.1.2 5))), (ha1, .inr (7, [.ref ha1_0, .ref ha1_1, .ref ha1_2, .int (u.1.1.1 0), .ref ha1_4, .ref ha1_5, .ref ha1_6, .ref ha1_7, .int (u.1.1.1 1), .int (u.1.1.1 2), .int ia1_10, .ref ha1_11]))] ++ u.2) (fun r u => (∀ k, 0 ≤ ((u.1.1.2 4) k).toInt ∧ ((u.1.1.2 4) k).toInt ≤ 4) ∧ (∀ k, (-48) ≤ ((u.1.1.2 5) k).toInt ∧ ((u.1.1.2 5) k).toInt ≤ 207) ∧ (0 ≤ (u.1.1.1 0).toInt ∧ (u.1.1.1 0).toInt ≤ 5) ∧ ((-2147483648) ≤ (u.1.1.1 1).toInt ∧ (u.1.1.1 1).toInt ≤ 2147483647) ∧ (0 ≤ (u.1.1.1 2).toInt ∧ (u.1.1.1 2).toInt ≤ 12) ∧ zPw u.2 ∧ (zMo pw u.2) ∧ (zHp (zPLs u.2) (u.1.2 0)) ∧ (0 ≤ r.toInt ∧ r.toInt ≤ 80) ∧ (((zFwK fa0_0 ia0_1.toInt 0 0 0 = -9 → zCkK fa0_0 ia0_1.toInt 0 ia1_3.toInt ia1_9.toInt = -9 → ∀ S : ZS, zRep ia1_3 ia1_9 fa1_1 fa1_7 S → zRep (u.1.1.1 0) (u.1.1.1 2) (u.1.1.2 0) (u.1.1.2 5) (zBrK fa0_0 ia0_1.toInt 0 S) ∧ (zBrK fa0_0 ia0_1.toInt 0 S).1.2.2 = S.1.2.2 + r.toInt) ∧ (zFwK fa0_0 ia0_1.toInt 0 0 0 = -9 → zCkK fa0_0 ia0_1.toInt 0 ia1_3.toInt ia1_9.toInt = -9 → ∀ S : ZS, zRe ia1_3 ia1_9 ia1_8 fa1_1 fa1_7 fa1_2 fa1_4 fa1_5 fa1_6 S → zRe (u.1.1.1 0) (u.1.1.1 2) (u.1.1.1 1) (u.1.1.2 0) (u.1.1.2 5) (u.1.1.2 1) (u.1.1.2 2) (u.1.1.2 3) (u.1.1.2 4) (zBrK fa0_0 ia0_1.toInt 0 S)) ∧ (zFwK fa0_0 ia0_1.toInt 0 0 0 = -9 → zCkK fa0_0 ia0_1.toInt 0 ia1_3.toInt ia1_9.toInt = -9 → ∀ S : ZS, S.1.1 = ia1_3.toInt → S.1.2.1 = ia1_9.toInt → zKn ia1_3.toInt ga1_0 (S.2 0) (S.2 1) → zKn (u.1.1.1 0).toInt (u.1.2 0) ((zBrK fa0_0 ia0_1.toInt 0 S).2 0) ((zBrK fa0_0 ia0_1.toInt 0 S).2 1)))))) 80 80 (va_A ([(ha0_0, .inl (cI, 80, .inl fa0_0)), (ha0, .inr (4, [.ref ha0_0, .int ia0_1])), (ha1_0, .inl (cQ, 5, .inr (.inr (.inr (.inr (fun i => (ga1_0 i).1)))))), (ha1_1, .inl (cI, 5, .inl fa1_1)), (ha1_2, .inl (cI, 5, .inl fa1_2)), (ha1_4, .inl (cI, 12, .inl fa1_4)), (ha1_5, .inl (cI, 12, .inl fa1_5)), (ha1_6, .inl (cI, 12, .inl fa1_6)), (ha1_7, .inl (cI, 12, .inl fa1_7)), (ha1, .inr (7, [.ref ha1_0, .ref ha1_1, .ref ha1_2, .int ia1_3, .ref ha1_4, .ref ha1_5, .ref ha1_6, .ref ha1_7, .int ia1_8, .int ia1_9, .int ia1_10, .ref ha1_11]))] ++ pw) sz) := by
  refine Met.ofW (cc := cX4_bringAll) (maxL := 4) (ret := (some .int)) (by decide) rfl ?_
  intro p e s m args below meth c s₁ B hml hv
  obtain ⟨rfl, hsz, hP, hZ, hD0⟩ := hv
  obtain ⟨hK, hAO, hN⟩ := id hZ
  have hx := B.exec
  have hb := B.bytes
  have hr := B.returns
  have hts := atoms_spec (ws := vsX4_bringAll) B.pre
  have hown : s.vm.findClass RX4 = some m.cls := findClass_of_methodNamed B.named
  have hlocks := B.notSynchronized
  subst hsz
  have hD := hD0.self (sz := s.heap.size)
  generalize hAe : va_A ([(ha0_0, .inl (cI, 80, .inl fa0_0)), (ha0, .inr (4, [.ref ha0_0, .int ia0_1])), (ha1_0, .inl (cQ, 5, .inr (.inr (.inr (.inr (fun i => (ga1_0 i).1)))))), (ha1_1, .inl (cI, 5, .inl fa1_1)), (ha1_2, .inl (cI, 5, .inl fa1_2)), (ha1_4, .inl (cI, 12, .inl fa1_4)), (ha1_5, .inl (cI, 12, .inl fa1_5)), (ha1_6, .inl (cI, 12, .inl fa1_6)), (ha1_7, .inl (cI, 12, .inl fa1_7)), (ha1, .inr (7, [.ref ha1_0, .ref ha1_1, .ref ha1_2, .int ia1_3, .ref ha1_4, .ref ha1_5, .ref ha1_6, .ref ha1_7, .int ia1_8, .int ia1_9, .int ia1_10, .ref ha1_11]))] ++ pw) s.heap.size = A at hD ⊢
  have hA : ∀ q : Nat, s.heap.size ≤ q → A q := fun q h => by rw [← hAe]; exact Or.inr h
  have hS : va_S A s.heap s.heap [] := va_S.rf
  have hP : va_P (dC, dI) vwCl ([(ha0_0, .inl (cI, 80, .inl fa0_0)), (ha0, .inr (4, [.ref ha0_0, .int ia0_1])), (ha1_0, .inl (cQ, 5, .inr (.inr (.inr (.inr (fun i => (ga1_0 i).1)))))), (ha1_1, .inl (cI, 5, .inl fa1_1)), (ha1_2, .inl (cI, 5, .inl fa1_2)), (ha1_4, .inl (cI, 12, .inl fa1_4)), (ha1_5, .inl (cI, 12, .inl fa1_5)), (ha1_6, .inl (cI, 12, .inl fa1_6)), (ha1_7, .inl (cI, 12, .inl fa1_7)), (ha1, .inr (7, [.ref ha1_0, .ref ha1_1, .ref ha1_2, .int ia1_3, .ref ha1_4, .ref ha1_5, .ref ha1_6, .ref ha1_7, .int ia1_8, .int ia1_9, .int ia1_10, .ref ha1_11]))] ++ pw) s.heap := hP
  have hP : va_P (dC, dI) vwCl ((ha0_0, .inl (cI, 80, .inl fa0_0)) :: (ha0, .inr (4, [.ref ha0_0, .int ia0_1])) :: (ha1_0, .inl (cQ, 5, .inr (.inr (.inr (.inr (fun i => (ga1_0 i).1)))))) :: (ha1_1, .inl (cI, 5, .inl fa1_1)) :: (ha1_2, .inl (cI, 5, .inl fa1_2)) :: (ha1_4, .inl (cI, 12, .inl fa1_4)) :: (ha1_5, .inl (cI, 12, .inl fa1_5)) :: (ha1_6, .inl (cI, 12, .inl fa1_6)) :: (ha1_7, .inl (cI, 12, .inl fa1_7)) :: (ha1, .inr (7, [.ref ha1_0, .ref ha1_1, .ref ha1_2, .int ia1_3, .ref ha1_4, .ref ha1_5, .ref ha1_6, .ref ha1_7, .int ia1_8, .int ia1_9, .int ia1_10, .ref ha1_11])) :: pw) s.heap := hP
  have hD : va_D A ((ha0_0, .inl (cI, 80, .inl fa0_0)) :: (ha0, .inr (4, [.ref ha0_0, .int ia0_1])) :: (ha1_0, .inl (cQ, 5, .inr (.inr (.inr (.inr (fun i => (ga1_0 i).1)))))) :: (ha1_1, .inl (cI, 5, .inl fa1_1)) :: (ha1_2, .inl (cI, 5, .inl fa1_2)) :: (ha1_4, .inl (cI, 12, .inl fa1_4)) :: (ha1_5, .inl (cI, 12, .inl fa1_5)) :: (ha1_6, .inl (cI, 12, .inl fa1_6)) :: (ha1_7, .inl (cI, 12, .inl fa1_7)) :: (ha1, .inr (7, [.ref ha1_0, .ref ha1_1, .ref ha1_2, .int ia1_3, .ref ha1_4, .ref ha1_5, .ref ha1_6, .ref ha1_7, .int ia1_8, .int ia1_9, .int ia1_10, .ref ha1_11])) :: pw) := hD
  have hmopw : zMo pw pw := z_pmR
  have hl := lv_entry ([.ref ha0, .ref ha1]) (n := 4) (Nat.le_of_ble_eq_true rfl)
  rw [lg_entry_eq]
  generalize (lg_sl ([.ref ha0, .ref ha1]) ++ List.replicate (4 - (lg_sl ([.ref ha0, .ref ha1])).length) Slot.unset).toArray = ls at hl ⊢
  have hl : lv_has ls 4 [(0, .ref ha0), (1, .ref ha1)] := hl
  refine lv_iconst (v := 0) hx hb dX4_bringAll_0 (by decide) ?_
  refine lv_istore_n (lv' := [(2, .int 0), (0, .ref ha0), (1, .ref ha1)]) hx hb dX4_bringAll_1 rfl hl (by decide) rfl (fun ls hl => ?_)
  refine lv_iconst (v := 0) hx hb dX4_bringAll_2 (by decide) ?_
  refine lv_istore_n (lv' := [(3, .int 0), (2, .int 0), (0, .ref ha0), (1, .ref ha1)]) hx hb dX4_bringAll_3 rfl hl (by decide) rfl (fun ls hl => ?_)
  have hL545 : ∀ (n : Nat) (v1 : Int32) (v2 : Int32) (v46 : Int32) (v47 : Int32) (v50 : Int32) (f41 : Nat → Int32) (f42 : Nat → Int32) (f43 : Nat → Int32) (f44 : Nat → Int32) (f45 : Nat → Int32) (g48 : Nat → ZQ) (f49 : Nat → Int32) (pw4 : va_W) (H : Heap) (locs : List Loc) (ls : Array Slot), 0 ≤ v1.toInt → v1.toInt ≤ 80 → 0 ≤ v2.toInt → v2.toInt ≤ 80 → 0 ≤ v47.toInt → v47.toInt ≤ 12 → 0 ≤ v50.toInt → v50.toInt ≤ 5 → (∀ k, 0 ≤ (f44 k).toInt ∧ (f44 k).toInt ≤ 4) → (∀ k, (-48) ≤ (f45 k).toInt ∧ (f45 k).toInt ≤ 207) → zPw pw4 → (zMo pw pw4) → (zHp (zPLs pw4) g48) → (zBrI fa0_0 ia0_1.toInt ia1_3 ia1_9 fa1_1 fa1_7 v1 v2 v50 v47 f49 f45) → ((v2 : Int32).toInt ≤ (v1 : Int32).toInt) → (zBrJ fa0_0 ia0_1.toInt ia1_3 ia1_9 ia1_8 fa1_1 fa1_7 fa1_2 fa1_4 fa1_5 fa1_6 v1 v2 v50 v47 v46 f49 f45 f41 f42 f43 f44) → (zBrG fa0_0 ia0_1.toInt ia1_3 ia1_9 ga1_0 v1 v50 v47 g48) → (80 - v1.toInt).toNat < n → lv_has ls 4 [(3, .int v1), (2, .int v2), (0, .ref ha0), (1, .ref ha1)] → va_P (dC, dI) vwCl ((ha0_0, .inl (cI, 80, .inl fa0_0)) :: (ha0, .inr (4, [.ref ha0_0, .int ia0_1])) :: (ha1_0, .inl (cQ, 5, .inr (.inr (.inr (.inr (fun i => (g48 i).1)))))) :: (ha1_1, .inl (cI, 5, .inl f49)) :: (ha1_2, .inl (cI, 5, .inl f41)) :: (ha1_4, .inl (cI, 12, .inl f42)) :: (ha1_5, .inl (cI, 12, .inl f43)) :: (ha1_6, .inl (cI, 12, .inl f44)) :: (ha1_7, .inl (cI, 12, .inl f45)) :: (ha1, .inr (7, [.ref ha1_0, .ref ha1_1, .ref ha1_2, .int v50, .ref ha1_4, .ref ha1_5, .ref ha1_6, .ref ha1_7, .int v46, .int v47, .int ia1_10, .ref ha1_11])) :: pw4) H → va_D A ((ha0_0, .inl (cI, 80, .inl fa0_0)) :: (ha0, .inr (4, [.ref ha0_0, .int ia0_1])) :: (ha1_0, .inl (cQ, 5, .inr (.inr (.inr (.inr (fun i => (g48 i).1)))))) :: (ha1_1, .inl (cI, 5, .inl f49)) :: (ha1_2, .inl (cI, 5, .inl f41)) :: (ha1_4, .inl (cI, 12, .inl f42)) :: (ha1_5, .inl (cI, 12, .inl f43)) :: (ha1_6, .inl (cI, 12, .inl f44)) :: (ha1_7, .inl (cI, 12, .inl f45)) :: (ha1, .inr (7, [.ref ha1_0, .ref ha1_1, .ref ha1_2, .int v50, .ref ha1_4, .ref ha1_5, .ref ha1_6, .ref ha1_7, .int v46, .int v47, .int ia1_10, .ref ha1_11])) :: pw4) → va_S A s.heap H locs → W p l e (headSpec vsX4_bringAll ({ frames := 5, cells := 80, slots := 80, locals := 96 })).room s m ([.ref ha0, .ref ha1] : List Value).toArray below meth c H locs ((v1 : Int32).toInt.toNat) ((v1 : Int32).toInt.toNat) (MQ below (zWiG (S := (ZU × (Nat → Nat → ZQ)) × va_W) dC dI (A) (fun u => [(ha0_0, .inl (cI, 80, .inl fa0_0)), (ha0, .inr (4, [.ref ha0_0, .int ia0_1])), (ha1_0, .inl (cQ, 5, .inr (.inr (.inr (.inr (fun i => ((u.1.2 0) i).1)))))), (ha1_1, .inl (cI, 5, .inl (u.1.1.2 0))), (ha1_2, .inl (cI, 5, .inl (u.1.1.2 1))), (ha1_4, .inl (cI, 12, .inl (u.1.1.2 2))), (ha1_5, .inl (cI, 12, .inl (u.1.1.2 3))), (ha1_6, .inl (cI, 12, .inl (u.1.1.2 4))), (ha1_7, .inl (cI, 12, .inl (u.1.1.2 5))), (ha1, .inr (7, [.ref ha1_0, .ref ha1_1, .ref ha1_2, .int (u.1.1.1 0), .ref ha1_4, .ref ha1_5, .ref ha1_6, .ref ha1_7, .int (u.1.1.1 1), .int (u.1.1.1 2), .int ia1_10, .ref ha1_11]))] ++ u.2) (fun r u => (∀ k, 0 ≤ ((u.1.1.2 4) k).toInt ∧ ((u.1.1.2 4) k).toInt ≤ 4) ∧ (∀ k, (-48) ≤ ((u.1.1.2 5) k).toInt ∧ ((u.1.1.2 5) k).toInt ≤ 207) ∧ (0 ≤ (u.1.1.1 0).toInt ∧ (u.1.1.1 0).toInt ≤ 5) ∧ ((-2147483648) ≤ (u.1.1.1 1).toInt ∧ (u.1.1.1 1).toInt ≤ 2147483647) ∧ (0 ≤ (u.1.1.1 2).toInt ∧ (u.1.1.1 2).toInt ≤ 12) ∧ zPw u.2 ∧ (zMo pw u.2) ∧ (zHp (zPLs u.2) (u.1.2 0)) ∧ (0 ≤ r.toInt ∧ r.toInt ≤ 80) ∧ (((zFwK fa0_0 ia0_1.toInt 0 0 0 = -9 → zCkK fa0_0 ia0_1.toInt 0 ia1_3.toInt ia1_9.toInt = -9 → ∀ S : ZS, zRep ia1_3 ia1_9 fa1_1 fa1_7 S → zRep (u.1.1.1 0) (u.1.1.1 2) (u.1.1.2 0) (u.1.1.2 5) (zBrK fa0_0 ia0_1.toInt 0 S) ∧ (zBrK fa0_0 ia0_1.toInt 0 S).1.2.2 = S.1.2.2 + r.toInt) ∧ (zFwK fa0_0 ia0_1.toInt 0 0 0 = -9 → zCkK fa0_0 ia0_1.toInt 0 ia1_3.toInt ia1_9.toInt = -9 → ∀ S : ZS, zRe ia1_3 ia1_9 ia1_8 fa1_1 fa1_7 fa1_2 fa1_4 fa1_5 fa1_6 S → zRe (u.1.1.1 0) (u.1.1.1 2) (u.1.1.1 1) (u.1.1.2 0) (u.1.1.2 5) (u.1.1.2 1) (u.1.1.2 2) (u.1.1.2 3) (u.1.1.2 4) (zBrK fa0_0 ia0_1.toInt 0 S)) ∧ (zFwK fa0_0 ia0_1.toInt 0 0 0 = -9 → zCkK fa0_0 ia0_1.toInt 0 ia1_3.toInt ia1_9.toInt = -9 → ∀ S : ZS, S.1.1 = ia1_3.toInt → S.1.2.1 = ia1_9.toInt → zKn ia1_3.toInt ga1_0 (S.2 0) (S.2 1) → zKn (u.1.1.1 0).toInt (u.1.2 0) ((zBrK fa0_0 ia0_1.toInt 0 S).2 0) ((zBrK fa0_0 ia0_1.toInt 0 S).2 1)))))) ([.ref ha0, .ref ha1] : List Value).toArray s 80 80 A) (F0 m 4 ls []) := by
    intro n
    induction n with
    | zero =>
      intro v1 v2 v46 v47 v50 f41 f42 f43 f44 f45 g48 f49 pw4 H locs ls hi546_0 hi546_1 hi546_2 hi546_3 hi546_4 hi546_5 hi546_6 hi546_7 hBf44 hBf45 hpwpw4 hmopw4 hPLg48_pw4 hi546_x0 hi546_x1 hi546_x2 hi546_x3 hi546_m hl hP hD hS
      exact absurd hi546_m (Nat.not_lt_zero _)
    | succ n ih =>
      intro v1 v2 v46 v47 v50 f41 f42 f43 f44 f45 g48 f49 pw4 H locs ls hi546_0 hi546_1 hi546_2 hi546_3 hi546_4 hi546_5 hi546_6 hi546_7 hBf44 hBf45 hpwpw4 hmopw4 hPLg48_pw4 hi546_x0 hi546_x1 hi546_x2 hi546_x3 hi546_m hl hP hD hS
      have ih547 := ih
      refine lv_iload_n hx hb dX4_bringAll_4 rfl (lv_at hl 0 rfl) ?_
      refine lv_aload_n hx hb dX4_bringAll_5 rfl (lv_at hl 2 rfl) ?_
      refine va_get (D := (dC, dI)) (ci := 4) (v := .int ia0_1) (C := RX4) (T := TX4) (N := 2) hx hb hts in_X4_bringAll_X4 hown hK hP 1 rfl rfl 1 (by decide) (hts (.fieldLink RX4 15 "EachOnHisCue$Letters" "size" "I") (by decide +kernel)) (fun _ h9 => h9) rfl dX4_bringAll_6 ?_
      refine lv_icmp_ge (tgt := 79) hx hb dX4_bringAll_9 (by decide) (fun hc => ?_) (fun hc => ?_)
      · have q548 : ia0_1.toInt ≤ v1.toInt := z_le rfl rfl hc
        refine lv_iload_n hx hb dX4_bringAll_79 rfl (lv_at hl 1 rfl) ?_
        have hP9 := z_subT (X := [(ha0_0, .inl (cI, 80, .inl fa0_0)), (ha0, .inr (4, [.ref ha0_0, .int ia0_1])), (ha1_0, .inl (cQ, 5, .inr (.inr (.inr (.inr (fun i => (g48 i).1)))))), (ha1_1, .inl (cI, 5, .inl f49)), (ha1_2, .inl (cI, 5, .inl f41)), (ha1_4, .inl (cI, 12, .inl f42)), (ha1_5, .inl (cI, 12, .inl f43)), (ha1_6, .inl (cI, 12, .inl f44)), (ha1_7, .inl (cI, 12, .inl f45)), (ha1, .inr (7, [.ref ha1_0, .ref ha1_1, .ref ha1_2, .int v50, .ref ha1_4, .ref ha1_5, .ref ha1_6, .ref ha1_7, .int v46, .int v47, .int ia1_10, .ref ha1_11]))]) (cx := [(ha0_0, .inl (cI, 80, .inl fa0_0)), (ha0, .inr (4, [.ref ha0_0, .int ia0_1])), (ha1_0, .inl (cQ, 5, .inr (.inr (.inr (.inr (fun i => (g48 i).1)))))), (ha1_1, .inl (cI, 5, .inl f49)), (ha1_2, .inl (cI, 5, .inl f41)), (ha1_4, .inl (cI, 12, .inl f42)), (ha1_5, .inl (cI, 12, .inl f43)), (ha1_6, .inl (cI, 12, .inl f44)), (ha1_7, .inl (cI, 12, .inl f45)), (ha1, .inr (7, [.ref ha1_0, .ref ha1_1, .ref ha1_2, .int v50, .ref ha1_4, .ref ha1_5, .ref ha1_6, .ref ha1_7, .int v46, .int v47, .int ia1_10, .ref ha1_11]))]) (pl := pw4) hP [0, 1, 2, 3, 4, 5, 6, 7, 8, 9] rfl
        have hD9 := va_D.part (X := [(ha0_0, .inl (cI, 80, .inl fa0_0)), (ha0, .inr (4, [.ref ha0_0, .int ia0_1])), (ha1_0, .inl (cQ, 5, .inr (.inr (.inr (.inr (fun i => (g48 i).1)))))), (ha1_1, .inl (cI, 5, .inl f49)), (ha1_2, .inl (cI, 5, .inl f41)), (ha1_4, .inl (cI, 12, .inl f42)), (ha1_5, .inl (cI, 12, .inl f43)), (ha1_6, .inl (cI, 12, .inl f44)), (ha1_7, .inl (cI, 12, .inl f45)), (ha1, .inr (7, [.ref ha1_0, .ref ha1_1, .ref ha1_2, .int v50, .ref ha1_4, .ref ha1_5, .ref ha1_6, .ref ha1_7, .int v46, .int v47, .int ia1_10, .ref ha1_11]))]) (cx := [(ha0_0, .inl (cI, 80, .inl fa0_0)), (ha0, .inr (4, [.ref ha0_0, .int ia0_1])), (ha1_0, .inl (cQ, 5, .inr (.inr (.inr (.inr (fun i => (g48 i).1)))))), (ha1_1, .inl (cI, 5, .inl f49)), (ha1_2, .inl (cI, 5, .inl f41)), (ha1_4, .inl (cI, 12, .inl f42)), (ha1_5, .inl (cI, 12, .inl f43)), (ha1_6, .inl (cI, 12, .inl f44)), (ha1_7, .inl (cI, 12, .inl f45)), (ha1, .inr (7, [.ref ha1_0, .ref ha1_1, .ref ha1_2, .int v50, .ref ha1_4, .ref ha1_5, .ref ha1_6, .ref ha1_7, .int v46, .int v47, .int ia1_10, .ref ha1_11]))]) (pl := pw4) hD [0, 1, 2, 3, 4, 5, 6, 7, 8, 9] (by decide +kernel) rfl
        refine W.widen (k := 80) (n := 80) (by first | omega | decide) (by first | omega | decide) ?_
        have hpo : ((zFwK fa0_0 ia0_1.toInt 0 0 0 = -9 → zCkK fa0_0 ia0_1.toInt 0 ia1_3.toInt ia1_9.toInt = -9 → ∀ S : ZS, zRep ia1_3 ia1_9 fa1_1 fa1_7 S → zRep (v50 : Int32) (v47 : Int32) f49 f45 (zBrK fa0_0 ia0_1.toInt 0 S) ∧ (zBrK fa0_0 ia0_1.toInt 0 S).1.2.2 = S.1.2.2 + (v2 : Int32).toInt) ∧ (zFwK fa0_0 ia0_1.toInt 0 0 0 = -9 → zCkK fa0_0 ia0_1.toInt 0 ia1_3.toInt ia1_9.toInt = -9 → ∀ S : ZS, zRe ia1_3 ia1_9 ia1_8 fa1_1 fa1_7 fa1_2 fa1_4 fa1_5 fa1_6 S → zRe (v50 : Int32) (v47 : Int32) (v46 : Int32) f49 f45 f41 f42 f43 f44 (zBrK fa0_0 ia0_1.toInt 0 S)) ∧ (zFwK fa0_0 ia0_1.toInt 0 0 0 = -9 → zCkK fa0_0 ia0_1.toInt 0 ia1_3.toInt ia1_9.toInt = -9 → ∀ S : ZS, S.1.1 = ia1_3.toInt → S.1.2.1 = ia1_9.toInt → zKn ia1_3.toInt ga1_0 (S.2 0) (S.2 1) → zKn (v50 : Int32).toInt g48 ((zBrK fa0_0 ia0_1.toInt 0 S).2 0) ((zBrK fa0_0 ia0_1.toInt 0 S).2 1))) := by exact ⟨z_brIE (by assumption) (by omega), z_brJE2 (by assumption) (by omega), z_brGE (by assumption) (by omega)⟩
        exact W.iret (v := v2) hx hb hr (fun t ht hW => ⟨⟨v2, (((fun k => [v50, v46, v47].getD k 0, fun k => [f49, f41, f42, f43, f44, f45].getD k (fun _ => 0)), fun k => [g48].getD k (fun _ => (none, 0, 0))), pw4), rfl, (show (∀ k, 0 ≤ (f44 k).toInt ∧ (f44 k).toInt ≤ 4) ∧ (∀ k, (-48) ≤ (f45 k).toInt ∧ (f45 k).toInt ≤ 207) ∧ (0 ≤ (v50 : Int32).toInt ∧ (v50 : Int32).toInt ≤ 5) ∧ ((-2147483648) ≤ (v46 : Int32).toInt ∧ (v46 : Int32).toInt ≤ 2147483647) ∧ (0 ≤ (v47 : Int32).toInt ∧ (v47 : Int32).toInt ≤ 12) ∧ (zPw pw4) ∧ (zMo pw pw4) ∧ (zHp (zPLs pw4) g48) ∧ (0 ≤ (v2 : Int32).toInt ∧ (v2 : Int32).toInt ≤ 80) ∧ (((zFwK fa0_0 ia0_1.toInt 0 0 0 = -9 → zCkK fa0_0 ia0_1.toInt 0 ia1_3.toInt ia1_9.toInt = -9 → ∀ S : ZS, zRep ia1_3 ia1_9 fa1_1 fa1_7 S → zRep (v50 : Int32) (v47 : Int32) f49 f45 (zBrK fa0_0 ia0_1.toInt 0 S) ∧ (zBrK fa0_0 ia0_1.toInt 0 S).1.2.2 = S.1.2.2 + (v2 : Int32).toInt) ∧ (zFwK fa0_0 ia0_1.toInt 0 0 0 = -9 → zCkK fa0_0 ia0_1.toInt 0 ia1_3.toInt ia1_9.toInt = -9 → ∀ S : ZS, zRe ia1_3 ia1_9 ia1_8 fa1_1 fa1_7 fa1_2 fa1_4 fa1_5 fa1_6 S → zRe (v50 : Int32) (v47 : Int32) (v46 : Int32) f49 f45 f41 f42 f43 f44 (zBrK fa0_0 ia0_1.toInt 0 S)) ∧ (zFwK fa0_0 ia0_1.toInt 0 0 0 = -9 → zCkK fa0_0 ia0_1.toInt 0 ia1_3.toInt ia1_9.toInt = -9 → ∀ S : ZS, S.1.1 = ia1_3.toInt → S.1.2.1 = ia1_9.toInt → zKn ia1_3.toInt ga1_0 (S.2 0) (S.2 1) → zKn (v50 : Int32).toInt g48 ((zBrK fa0_0 ia0_1.toInt 0 S).2 0) ((zBrK fa0_0 ia0_1.toInt 0 S).2 1)))) from ⟨hBf44, hBf45, ⟨hi546_6, hi546_7⟩, ⟨(z_lo v46), (z_hi v46)⟩, ⟨hi546_4, hi546_5⟩, hpwpw4, hmopw4, hPLg48_pw4, ⟨by first | decide | omega, by first | decide | omega⟩, hpo⟩), by rw [ht]; exact hP9, hD9⟩, hS.F ht⟩) hS.2.2 dX4_bringAll_80
      · have q549 : v1.toInt < ia0_1.toInt := z_nle rfl rfl hc
        refine lv_aload_n hx hb dX4_bringAll_12 rfl (lv_at hl 2 rfl) ?_
        refine lv_iload_n hx hb dX4_bringAll_13 rfl (lv_at hl 0 rfl) ?_
        refine z_rdi (va_runV (As := [.int v1]) (rest := []) ⟨hx, hb, hml, hown, hts⟩ (rX4_begins l dC dI cI cQ ha0 ha0_0 fa0_0 hBfa0_0 ia0_1 hia0_1l hia0_1h v1 hi546_0 hi546_1) (cwV 1 hts gv_X4_bringAll_X4_begins_50 rfl rfl rfl (by decide +kernel) ⟨Nat.le_of_ble_eq_true rfl, Nat.le_of_ble_eq_true rfl⟩) ⟨z_blindR, va_recv hK hP (ci := 4) (q0 := 1) rfl rfl, z_preR hZ hP [0, 1] rfl⟩ rfl rfl hl.1 rfl (lv_room (Nat.le_of_ble_eq_true rfl)) dX4_bringAll_14 ⟨show ((v1 : Int32).toInt.toNat) + 0 ≤ 80 by omega, show ((v1 : Int32).toInt.toNat) + 0 ≤ 80 by omega⟩) (fun y550 hy550 => ?_)
        obtain ⟨hy550_0, hy550_1, hy550_2⟩ := hy550
        refine lv_if_ne (tgt := 23) hx hb dX4_bringAll_17 (by decide) (fun hc => ?_) (fun hc => ?_)
        · have q551 : y550.toInt ≠ 0 := z_ne rfl (by decide) hc
          refine lv_aload_n hx hb dX4_bringAll_23 rfl (lv_at hl 2 rfl) ?_
          refine lv_iload_n hx hb dX4_bringAll_24 rfl (lv_at hl 0 rfl) ?_
          refine z_rdi (va_runV (As := [.int v1]) (rest := []) ⟨hx, hb, hml, hown, hts⟩ (rX4_at l dC dI cI cQ ha0 ha0_0 fa0_0 hBfa0_0 ia0_1 hia0_1l hia0_1h v1) (cwV 1 hts gv_X4_bringAll_X4_at_19 rfl rfl rfl (by decide +kernel) ⟨Nat.le_of_ble_eq_true rfl, Nat.le_of_ble_eq_true rfl⟩) ⟨z_blindR, va_recv hK hP (ci := 4) (q0 := 1) rfl rfl, z_preR hZ hP [0, 1] rfl⟩ rfl rfl hl.1 rfl (lv_room (Nat.le_of_ble_eq_true rfl)) dX4_bringAll_25 ⟨show ((v1 : Int32).toInt.toNat) + 0 ≤ 80 by omega, show ((v1 : Int32).toInt.toNat) + 0 ≤ 80 by omega⟩) (fun y552 hy552 => ?_)
          obtain ⟨hy552_0, hy552_1, hy552_2⟩ := hy552
          refine lv_bipush (v := 112) hx hb dX4_bringAll_28 (by decide) ?_
          refine lv_icmp_ne (tgt := 64) hx hb dX4_bringAll_30 (by decide) (fun hc => ?_) (fun hc => ?_)
          · have q553 : y552.toInt ≠ 112 := z_ne rfl (by decide) hc
            refine lv_aload_n hx hb dX4_bringAll_64 rfl (lv_at hl 2 rfl) ?_
            refine lv_aload_n hx hb dX4_bringAll_65 rfl (lv_at hl 3 rfl) ?_
            refine lv_iload_n hx hb dX4_bringAll_66 rfl (lv_at hl 0 rfl) ?_
            refine z_cwvT (X := [(ha0_0, .inl (cI, 80, .inl fa0_0)), (ha0, .inr (4, [.ref ha0_0, .int ia0_1])), (ha1_0, .inl (cQ, 5, .inr (.inr (.inr (.inr (fun i => (g48 i).1)))))), (ha1_1, .inl (cI, 5, .inl f49)), (ha1_2, .inl (cI, 5, .inl f41)), (ha1_4, .inl (cI, 12, .inl f42)), (ha1_5, .inl (cI, 12, .inl f43)), (ha1_6, .inl (cI, 12, .inl f44)), (ha1_7, .inl (cI, 12, .inl f45)), (ha1, .inr (7, [.ref ha1_0, .ref ha1_1, .ref ha1_2, .int v50, .ref ha1_4, .ref ha1_5, .ref ha1_6, .ref ha1_7, .int v46, .int v47, .int ia1_10, .ref ha1_11]))]) (pl := pw4) (wc := [(ha0_0, .inl (cI, 80, .inl fa0_0)), (ha0, .inr (4, [.ref ha0_0, .int ia0_1])), (ha1_2, .inl (cI, 5, .inl f41)), (ha1_4, .inl (cI, 12, .inl f42)), (ha1_5, .inl (cI, 12, .inl f43)), (ha1_6, .inl (cI, 12, .inl f44)), (ha1_7, .inl (cI, 12, .inl f45)), (ha1, .inr (7, [.ref ha1_0, .ref ha1_1, .ref ha1_2, .int v50, .ref ha1_4, .ref ha1_5, .ref ha1_6, .ref ha1_7, .int v46, .int v47, .int ia1_10, .ref ha1_11]))]) (wr := [(ha1_0, .inl (cQ, 5, .inr (.inr (.inr (.inr (fun i => (g48 i).1)))))), (ha1_1, .inl (cI, 5, .inl f49))]) (w1 := fun (u555 : ZU) => [(ha0_0, .inl (cI, 80, .inl fa0_0)), (ha0, .inr (4, [.ref ha0_0, .int ia0_1])), (ha1_2, .inl (cI, 5, .inl (u555.2 0))), (ha1_4, .inl (cI, 12, .inl (u555.2 1))), (ha1_5, .inl (cI, 12, .inl (u555.2 2))), (ha1_6, .inl (cI, 12, .inl (u555.2 3))), (ha1_7, .inl (cI, 12, .inl (u555.2 4))), (ha1, .inr (7, [.ref ha1_0, .ref ha1_1, .ref ha1_2, .int v50, .ref ha1_4, .ref ha1_5, .ref ha1_6, .ref ha1_7, .int (u555.1 0), .int (u555.1 1), .int ia1_10, .ref ha1_11]))]) (va_runV (As := [.ref ha1, .int v1]) (rest := []) ⟨hx, hb, hml, hown, hts⟩ (wX4_bringLine l dC dI cI cQ ha0 ha1 ha0_0 ha1_2 ha1_4 ha1_5 ha1_6 ha1_7 ha1_0 ha1_1 ha1_11 fa0_0 hBfa0_0 ia0_1 hia0_1l hia0_1h f41 f42 f43 f44 hBf44 f45 hBf45 v50 hi546_6 hi546_7 v46 v47 hi546_4 hi546_5 ia1_10 v1 hi546_0 hi546_1 H.size) (cwV 2 hts gv_X4_bringAll_X4_bringLine_75 rfl rfl rfl (by decide +kernel) ⟨Nat.le_of_ble_eq_true rfl, Nat.le_of_ble_eq_true rfl⟩) ⟨z_blind, va_recv hK hP (ci := 4) (q0 := 1) rfl rfl, z_pre hZ hP hD [0, 1, 4, 5, 6, 7, 8, 9] rfl (by decide +kernel)⟩ rfl rfl hl.1 rfl (lv_room (Nat.le_of_ble_eq_true rfl)) dX4_bringAll_67 ⟨show ((v1 : Int32).toInt.toNat) + 0 ≤ 80 by omega, show ((v1 : Int32).toInt.toNat) + 0 ≤ 80 by omega⟩) hP hD hS hA [0, 1, 4, 5, 6, 7, 8, 9] [2, 3] rfl rfl (by decide +kernel) (by decide +kernel) (fun u555 H locs hpo hP hD hS => ?_)
            generalize hgf556 : u555.2 0 = f556 at hP hD hpo
            generalize hgf557 : u555.2 1 = f557 at hP hD hpo
            generalize hgf558 : u555.2 2 = f558 at hP hD hpo
            generalize hgf559 : u555.2 3 = f559 at hP hD hpo
            generalize hgf560 : u555.2 4 = f560 at hP hD hpo
            generalize hgw561 : u555.1 0 = w561 at hP hD hpo
            generalize hgw562 : u555.1 1 = w562 at hP hD hpo
            have hP : va_P (dC, dI) vwCl ((ha1_0, .inl (cQ, 5, .inr (.inr (.inr (.inr (fun i => (g48 i).1)))))) :: (ha1_1, .inl (cI, 5, .inl f49)) :: (ha0_0, .inl (cI, 80, .inl fa0_0)) :: (ha0, .inr (4, [.ref ha0_0, .int ia0_1])) :: (ha1_2, .inl (cI, 5, .inl f556)) :: (ha1_4, .inl (cI, 12, .inl f557)) :: (ha1_5, .inl (cI, 12, .inl f558)) :: (ha1_6, .inl (cI, 12, .inl f559)) :: (ha1_7, .inl (cI, 12, .inl f560)) :: (ha1, .inr (7, [.ref ha1_0, .ref ha1_1, .ref ha1_2, .int v50, .ref ha1_4, .ref ha1_5, .ref ha1_6, .ref ha1_7, .int w561, .int w562, .int ia1_10, .ref ha1_11])) :: pw4) H := hP
            have hD : va_D A ((ha1_0, .inl (cQ, 5, .inr (.inr (.inr (.inr (fun i => (g48 i).1)))))) :: (ha1_1, .inl (cI, 5, .inl f49)) :: (ha0_0, .inl (cI, 80, .inl fa0_0)) :: (ha0, .inr (4, [.ref ha0_0, .int ia0_1])) :: (ha1_2, .inl (cI, 5, .inl f556)) :: (ha1_4, .inl (cI, 12, .inl f557)) :: (ha1_5, .inl (cI, 12, .inl f558)) :: (ha1_6, .inl (cI, 12, .inl f559)) :: (ha1_7, .inl (cI, 12, .inl f560)) :: (ha1, .inr (7, [.ref ha1_0, .ref ha1_1, .ref ha1_2, .int v50, .ref ha1_4, .ref ha1_5, .ref ha1_6, .ref ha1_7, .int w561, .int w562, .int ia1_10, .ref ha1_11])) :: pw4) := hD
            obtain ⟨hBf559, hBf560, hw561p, hw562p, hy554po⟩ := hpo
            obtain ⟨hw561l, hw561h⟩ := hw561p
            obtain ⟨hw562l, hw562h⟩ := hw562p
            obtain ⟨y563, ey563⟩ : ∃ y : Int32, y = v2 + 1 := ⟨_, rfl⟩
            refine lv_iinc (v := y563) (lv' := [(2, .int y563), (3, .int v1), (0, .ref ha0), (1, .ref ha1)]) hx hb dX4_bringAll_70 hl (k := 1) rfl (by rw [ey563]; rfl) (by decide) rfl (fun ls hl => ?_)
            have hy563 : y563.toInt = v2.toInt + 1 := by rw [ey563]; exact z_add rfl (by decide) (by omega) (by omega)
            obtain ⟨y564, ey564⟩ : ∃ y : Int32, y = v1 + 1 := ⟨_, rfl⟩
            refine lv_iinc (v := y564) (lv' := [(3, .int y564), (2, .int y563), (0, .ref ha0), (1, .ref ha1)]) hx hb dX4_bringAll_73 hl (k := 1) rfl (by rw [ey564]; rfl) (by decide) rfl (fun ls hl => ?_)
            have hy564 : y564.toInt = v1.toInt + 1 := by rw [ey564]; exact z_add rfl (by decide) (by omega) (by omega)
            refine lv_goto (tgt := 4) hx hb dX4_bringAll_76 (by decide) ?_
            refine W.widen (k := ((y564 : Int32).toInt.toNat)) (n := ((y564 : Int32).toInt.toNat)) (by omega) (by omega) ?_
            exact ih547 y564 y563 w561 w562 v50 f556 f557 f558 f559 f560 g48 f49 pw4 _ _ ls (by first | decide | omega) (by first | decide | omega) (by first | decide | omega) (by first | decide | omega) hw562l hw562h hi546_6 hi546_7 hBf559 hBf560 hpwpw4 hmopw4 hPLg48_pw4 (z_brIL (by assumption) (by omega) (by omega) (z_bgT hy550_2 (by omega)) (by omega) hy554po.1 (by omega) (by omega)) (by have e0 : (0 : Int32).toInt = 0 := (by decide); omega) (z_brJL (by assumption) (by omega) (by omega) (by omega) (z_bgT hy550_2 (by omega)) (by omega) hy554po.2 (by omega) (by omega)) (z_brGL (by assumption) (by omega) (by omega) (z_bgT hy550_2 (by omega)) (by omega) (fun a b c => (hy554po.1 a b c).1) (by omega)) (by omega) (lv_sub hl [0, 1, 2, 3] rfl) (z_subT (X := [(ha1_0, .inl (cQ, 5, .inr (.inr (.inr (.inr (fun i => (g48 i).1)))))), (ha1_1, .inl (cI, 5, .inl f49)), (ha0_0, .inl (cI, 80, .inl fa0_0)), (ha0, .inr (4, [.ref ha0_0, .int ia0_1])), (ha1_2, .inl (cI, 5, .inl f556)), (ha1_4, .inl (cI, 12, .inl f557)), (ha1_5, .inl (cI, 12, .inl f558)), (ha1_6, .inl (cI, 12, .inl f559)), (ha1_7, .inl (cI, 12, .inl f560)), (ha1, .inr (7, [.ref ha1_0, .ref ha1_1, .ref ha1_2, .int v50, .ref ha1_4, .ref ha1_5, .ref ha1_6, .ref ha1_7, .int w561, .int w562, .int ia1_10, .ref ha1_11]))]) (cx := [(ha0_0, .inl (cI, 80, .inl fa0_0)), (ha0, .inr (4, [.ref ha0_0, .int ia0_1])), (ha1_0, .inl (cQ, 5, .inr (.inr (.inr (.inr (fun i => (g48 i).1)))))), (ha1_1, .inl (cI, 5, .inl f49)), (ha1_2, .inl (cI, 5, .inl f556)), (ha1_4, .inl (cI, 12, .inl f557)), (ha1_5, .inl (cI, 12, .inl f558)), (ha1_6, .inl (cI, 12, .inl f559)), (ha1_7, .inl (cI, 12, .inl f560)), (ha1, .inr (7, [.ref ha1_0, .ref ha1_1, .ref ha1_2, .int v50, .ref ha1_4, .ref ha1_5, .ref ha1_6, .ref ha1_7, .int w561, .int w562, .int ia1_10, .ref ha1_11]))]) (pl := pw4) hP [2, 3, 0, 1, 4, 5, 6, 7, 8, 9] rfl) (va_D.part (X := [(ha1_0, .inl (cQ, 5, .inr (.inr (.inr (.inr (fun i => (g48 i).1)))))), (ha1_1, .inl (cI, 5, .inl f49)), (ha0_0, .inl (cI, 80, .inl fa0_0)), (ha0, .inr (4, [.ref ha0_0, .int ia0_1])), (ha1_2, .inl (cI, 5, .inl f556)), (ha1_4, .inl (cI, 12, .inl f557)), (ha1_5, .inl (cI, 12, .inl f558)), (ha1_6, .inl (cI, 12, .inl f559)), (ha1_7, .inl (cI, 12, .inl f560)), (ha1, .inr (7, [.ref ha1_0, .ref ha1_1, .ref ha1_2, .int v50, .ref ha1_4, .ref ha1_5, .ref ha1_6, .ref ha1_7, .int w561, .int w562, .int ia1_10, .ref ha1_11]))]) (cx := [(ha0_0, .inl (cI, 80, .inl fa0_0)), (ha0, .inr (4, [.ref ha0_0, .int ia0_1])), (ha1_0, .inl (cQ, 5, .inr (.inr (.inr (.inr (fun i => (g48 i).1)))))), (ha1_1, .inl (cI, 5, .inl f49)), (ha1_2, .inl (cI, 5, .inl f556)), (ha1_4, .inl (cI, 12, .inl f557)), (ha1_5, .inl (cI, 12, .inl f558)), (ha1_6, .inl (cI, 12, .inl f559)), (ha1_7, .inl (cI, 12, .inl f560)), (ha1, .inr (7, [.ref ha1_0, .ref ha1_1, .ref ha1_2, .int v50, .ref ha1_4, .ref ha1_5, .ref ha1_6, .ref ha1_7, .int w561, .int w562, .int ia1_10, .ref ha1_11]))]) (pl := pw4) hD [2, 3, 0, 1, 4, 5, 6, 7, 8, 9] (by decide +kernel) rfl) hS
          · have q565 : y552.toInt = 112 := z_eq rfl (by decide) hc
            refine lv_aload_n hx hb dX4_bringAll_33 rfl (lv_at hl 3 rfl) ?_
            refine lv_aload_n hx hb dX4_bringAll_34 rfl (lv_at hl 2 rfl) ?_
            refine lv_iload_n hx hb dX4_bringAll_35 rfl (lv_at hl 0 rfl) ?_
            refine lv_iconst (v := 1) hx hb dX4_bringAll_36 (by decide) ?_
            refine lv_iadd hx hb dX4_bringAll_37 ?_
            refine lv_topi (fun y566 ey566 => ?_)
            have hy566 : y566.toInt = v1.toInt + 1 := by rw [ey566]; exact z_add rfl (by decide) (by omega) (by omega)
            refine z_rdi (va_runV (As := [.int y566]) (rest := [.ref ha1]) ⟨hx, hb, hml, hown, hts⟩ (rX4_digit l dC dI cI cQ ha0 ha0_0 fa0_0 hBfa0_0 ia0_1 hia0_1l hia0_1h y566) (cwV 1 hts gv_X4_bringAll_X4_digit_61 rfl rfl rfl (by decide +kernel) ⟨Nat.le_of_ble_eq_true rfl, Nat.le_of_ble_eq_true rfl⟩) ⟨z_blindR, va_recv hK hP (ci := 4) (q0 := 1) rfl rfl, z_preR hZ hP [0, 1] rfl⟩ rfl rfl hl.1 rfl (lv_room (Nat.le_of_ble_eq_true rfl)) dX4_bringAll_38 ⟨show ((v1 : Int32).toInt.toNat) + 0 ≤ 80 by omega, show ((v1 : Int32).toInt.toNat) + 0 ≤ 80 by omega⟩) (fun y567 hy567 => ?_)
            obtain ⟨hy567_0, hy567_1, hy567_2⟩ := hy567
            refine lv_aload_n hx hb dX4_bringAll_41 rfl (lv_at hl 2 rfl) ?_
            refine lv_iload_n hx hb dX4_bringAll_42 rfl (lv_at hl 0 rfl) ?_
            refine lv_iconst (v := 2) hx hb dX4_bringAll_43 (by decide) ?_
            refine lv_iadd hx hb dX4_bringAll_44 ?_
            refine lv_topi (fun y568 ey568 => ?_)
            have hy568 : y568.toInt = v1.toInt + 2 := by rw [ey568]; exact z_add rfl (by decide) (by omega) (by omega)
            refine z_rdi (va_runV (As := [.int y568]) (rest := [.int y567, .ref ha1]) ⟨hx, hb, hml, hown, hts⟩ (rX4_digit l dC dI cI cQ ha0 ha0_0 fa0_0 hBfa0_0 ia0_1 hia0_1l hia0_1h y568) (cwV 1 hts gv_X4_bringAll_X4_digit_61 rfl rfl rfl (by decide +kernel) ⟨Nat.le_of_ble_eq_true rfl, Nat.le_of_ble_eq_true rfl⟩) ⟨z_blindR, va_recv hK hP (ci := 4) (q0 := 1) rfl rfl, z_preR hZ hP [0, 1] rfl⟩ rfl rfl hl.1 rfl (lv_room (Nat.le_of_ble_eq_true rfl)) dX4_bringAll_45 ⟨show ((v1 : Int32).toInt.toNat) + 0 ≤ 80 by omega, show ((v1 : Int32).toInt.toNat) + 0 ≤ 80 by omega⟩) (fun y569 hy569 => ?_)
            obtain ⟨hy569_0, hy569_1, hy569_2⟩ := hy569
            refine z_cwrT (X := [(ha0_0, .inl (cI, 80, .inl fa0_0)), (ha0, .inr (4, [.ref ha0_0, .int ia0_1])), (ha1_0, .inl (cQ, 5, .inr (.inr (.inr (.inr (fun i => (g48 i).1)))))), (ha1_1, .inl (cI, 5, .inl f49)), (ha1_2, .inl (cI, 5, .inl f41)), (ha1_4, .inl (cI, 12, .inl f42)), (ha1_5, .inl (cI, 12, .inl f43)), (ha1_6, .inl (cI, 12, .inl f44)), (ha1_7, .inl (cI, 12, .inl f45)), (ha1, .inr (7, [.ref ha1_0, .ref ha1_1, .ref ha1_2, .int v50, .ref ha1_4, .ref ha1_5, .ref ha1_6, .ref ha1_7, .int v46, .int v47, .int ia1_10, .ref ha1_11]))]) (pl := pw4) (wr := [(ha0_0, .inl (cI, 80, .inl fa0_0)), (ha0, .inr (4, [.ref ha0_0, .int ia0_1])), (ha1_0, .inl (cQ, 5, .inr (.inr (.inr (.inr (fun i => (g48 i).1)))))), (ha1_1, .inl (cI, 5, .inl f49)), (ha1_2, .inl (cI, 5, .inl f41)), (ha1_4, .inl (cI, 12, .inl f42)), (ha1_5, .inl (cI, 12, .inl f43)), (ha1_6, .inl (cI, 12, .inl f44)), (ha1_7, .inl (cI, 12, .inl f45)), (ha1, .inr (7, [.ref ha1_0, .ref ha1_1, .ref ha1_2, .int v50, .ref ha1_4, .ref ha1_5, .ref ha1_6, .ref ha1_7, .int v46, .int v47, .int ia1_10, .ref ha1_11]))]) (w2 := fun (u572 : Nat × Int32) ra => [(ra, .inr (u572.1, [.int u572.2]))]) (va_runSN (As := [.int y567, .int y569]) (rest := [.ref ha1]) ⟨hx, hb, hml, hown, hts⟩ (wX11_playerOf l dC dI cI cQ y567 y569 H.size) ⟨va_cnB (host := "EachOnHisCue") 2 hts gv_X4_bringAll_X11_playerOf_67 rfl rfl rfl (hN.2.2.2.2.2.2.2.2.1) (hts (.initialized RX11) (by decide +kernel)) (by decide +kernel) ⟨Nat.le_of_ble_eq_true rfl, Nat.le_of_ble_eq_true rfl⟩, hts (.static yX11_playerOf) (by decide +kernel), trivial⟩ ⟨z_blind, z_pre hZ hP hD [] rfl (by decide +kernel)⟩ rfl rfl hl.1 rfl (lv_room (Nat.le_of_ble_eq_true rfl)) dX4_bringAll_48 ⟨show ((v1 : Int32).toInt.toNat) + 1 ≤ 80 by omega, show ((v1 : Int32).toInt.toNat) + 1 ≤ 80 by omega⟩) hP hD hS hA [] [0, 1, 2, 3, 4, 5, 6, 7, 8, 9] rfl rfl (by decide +kernel) (by decide +kernel) (fun u572 y570 H locs hpo hP hD hS => ?_)
            have hpwpw573 : zPw ((y570, .inr (u572.1, [.int u572.2])) :: pw4) := z_pwC hpwpw4 hpo.1
            have hmqpw573 : zMo pw4 ((y570, .inr (u572.1, [.int u572.2])) :: pw4) := z_plUp
            have hply570 : zPLs ((y570, .inr (u572.1, [.int u572.2])) :: pw4) y570 u572.1 u572.2 := z_pl0
            have hP : va_P (dC, dI) vwCl ((ha0_0, .inl (cI, 80, .inl fa0_0)) :: (ha0, .inr (4, [.ref ha0_0, .int ia0_1])) :: (ha1_0, .inl (cQ, 5, .inr (.inr (.inr (.inr (fun i => (g48 i).1)))))) :: (ha1_1, .inl (cI, 5, .inl f49)) :: (ha1_2, .inl (cI, 5, .inl f41)) :: (ha1_4, .inl (cI, 12, .inl f42)) :: (ha1_5, .inl (cI, 12, .inl f43)) :: (ha1_6, .inl (cI, 12, .inl f44)) :: (ha1_7, .inl (cI, 12, .inl f45)) :: (ha1, .inr (7, [.ref ha1_0, .ref ha1_1, .ref ha1_2, .int v50, .ref ha1_4, .ref ha1_5, .ref ha1_6, .ref ha1_7, .int v46, .int v47, .int ia1_10, .ref ha1_11])) :: ((y570, .inr (u572.1, [.int u572.2])) :: pw4)) H := hP
            have hD : va_D A ((ha0_0, .inl (cI, 80, .inl fa0_0)) :: (ha0, .inr (4, [.ref ha0_0, .int ia0_1])) :: (ha1_0, .inl (cQ, 5, .inr (.inr (.inr (.inr (fun i => (g48 i).1)))))) :: (ha1_1, .inl (cI, 5, .inl f49)) :: (ha1_2, .inl (cI, 5, .inl f41)) :: (ha1_4, .inl (cI, 12, .inl f42)) :: (ha1_5, .inl (cI, 12, .inl f43)) :: (ha1_6, .inl (cI, 12, .inl f44)) :: (ha1_7, .inl (cI, 12, .inl f45)) :: (ha1, .inr (7, [.ref ha1_0, .ref ha1_1, .ref ha1_2, .int v50, .ref ha1_4, .ref ha1_5, .ref ha1_6, .ref ha1_7, .int v46, .int v47, .int ia1_10, .ref ha1_11])) :: ((y570, .inr (u572.1, [.int u572.2])) :: pw4)) := hD
            generalize hgpw573 : ((y570, .inr (u572.1, [.int u572.2])) :: pw4) = pw573 at hP hD hpwpw573 hmqpw573 hply570
            have hy570po := hpo.2
            have hmopw573 : zMo pw pw573 := z_pmT hmqpw573 hmopw4
            have hPLg48_pw573 : zHp (zPLs pw573) g48 := z_hpM hmqpw573 hPLg48_pw4
            refine lv_aload_n hx hb dX4_bringAll_51 rfl (lv_at hl 2 rfl) ?_
            refine lv_iload_n hx hb dX4_bringAll_52 rfl (lv_at hl 0 rfl) ?_
            refine lv_iconst (v := 3) hx hb dX4_bringAll_53 (by decide) ?_
            refine lv_iadd hx hb dX4_bringAll_54 ?_
            refine lv_topi (fun y574 ey574 => ?_)
            have hy574 : y574.toInt = v1.toInt + 3 := by rw [ey574]; exact z_add rfl (by decide) (by omega) (by omega)
            refine z_rdi (va_runV (As := [.int y574]) (rest := [.ref y570, .ref ha1]) ⟨hx, hb, hml, hown, hts⟩ (rX4_digit l dC dI cI cQ ha0 ha0_0 fa0_0 hBfa0_0 ia0_1 hia0_1l hia0_1h y574) (cwV 1 hts gv_X4_bringAll_X4_digit_61 rfl rfl rfl (by decide +kernel) ⟨Nat.le_of_ble_eq_true rfl, Nat.le_of_ble_eq_true rfl⟩) ⟨z_blindR, va_recv hK hP (ci := 4) (q0 := 1) rfl rfl, z_preR hZ hP [0, 1] rfl⟩ rfl rfl hl.1 rfl (lv_room (Nat.le_of_ble_eq_true rfl)) dX4_bringAll_55 ⟨show (((v1 : Int32).toInt.toNat) + 1) + 0 ≤ 80 by omega, show (((v1 : Int32).toInt.toNat) + 1) + 0 ≤ 80 by omega⟩) (fun y575 hy575 => ?_)
            obtain ⟨hy575_0, hy575_1, hy575_2⟩ := hy575
            refine z_cwvT (X := [(ha0_0, .inl (cI, 80, .inl fa0_0)), (ha0, .inr (4, [.ref ha0_0, .int ia0_1])), (ha1_0, .inl (cQ, 5, .inr (.inr (.inr (.inr (fun i => (g48 i).1)))))), (ha1_1, .inl (cI, 5, .inl f49)), (ha1_2, .inl (cI, 5, .inl f41)), (ha1_4, .inl (cI, 12, .inl f42)), (ha1_5, .inl (cI, 12, .inl f43)), (ha1_6, .inl (cI, 12, .inl f44)), (ha1_7, .inl (cI, 12, .inl f45)), (ha1, .inr (7, [.ref ha1_0, .ref ha1_1, .ref ha1_2, .int v50, .ref ha1_4, .ref ha1_5, .ref ha1_6, .ref ha1_7, .int v46, .int v47, .int ia1_10, .ref ha1_11]))]) (pl := pw573) (wc := [(ha1_0, .inl (cQ, 5, .inr (.inr (.inr (.inr (fun i => (g48 i).1)))))), (ha1_1, .inl (cI, 5, .inl f49)), (ha1_2, .inl (cI, 5, .inl f41)), (ha1, .inr (7, [.ref ha1_0, .ref ha1_1, .ref ha1_2, .int v50, .ref ha1_4, .ref ha1_5, .ref ha1_6, .ref ha1_7, .int v46, .int v47, .int ia1_10, .ref ha1_11]))]) (wr := [(ha0_0, .inl (cI, 80, .inl fa0_0)), (ha0, .inr (4, [.ref ha0_0, .int ia0_1])), (ha1_4, .inl (cI, 12, .inl f42)), (ha1_5, .inl (cI, 12, .inl f43)), (ha1_6, .inl (cI, 12, .inl f44)), (ha1_7, .inl (cI, 12, .inl f45))]) (w1 := fun (u577 : ZU × (Nat → Nat → ZQ)) => [(ha1_0, .inl (cQ, 5, .inr (.inr (.inr (.inr (fun i => ((u577.2 0) i).1)))))), (ha1_1, .inl (cI, 5, .inl (u577.1.2 0))), (ha1_2, .inl (cI, 5, .inl (u577.1.2 1))), (ha1, .inr (7, [.ref ha1_0, .ref ha1_1, .ref ha1_2, .int (u577.1.1 0), .ref ha1_4, .ref ha1_5, .ref ha1_6, .ref ha1_7, .int v46, .int v47, .int ia1_10, .ref ha1_11]))]) (va_runV (As := [.ref y570, .int y575]) (rest := []) ⟨hx, hb, hml, hown, hts⟩ (wX7_addPlayer l dC dI cI cQ ha1 ha1_0 ha1_1 ha1_2 ha1_4 ha1_5 ha1_6 ha1_7 ha1_11 (zPLs pw573) g48 hPLg48_pw573 f49 f41 v50 hi546_6 hi546_7 v46 v47 hi546_4 hi546_5 ia1_10 y570 u572.1 u572.2 hply570 y575 H.size) (cwV 2 hts gv_X4_bringAll_X7_addPlayer_71 rfl rfl rfl (by decide +kernel) ⟨Nat.le_of_ble_eq_true rfl, Nat.le_of_ble_eq_true rfl⟩) ⟨z_blindBP, va_recv hK hP (ci := 7) (q0 := 9) rfl rfl, z_preT (X := [(ha0_0, .inl (cI, 80, .inl fa0_0)), (ha0, .inr (4, [.ref ha0_0, .int ia0_1])), (ha1_0, .inl (cQ, 5, .inr (.inr (.inr (.inr (fun i => (g48 i).1)))))), (ha1_1, .inl (cI, 5, .inl f49)), (ha1_2, .inl (cI, 5, .inl f41)), (ha1_4, .inl (cI, 12, .inl f42)), (ha1_5, .inl (cI, 12, .inl f43)), (ha1_6, .inl (cI, 12, .inl f44)), (ha1_7, .inl (cI, 12, .inl f45)), (ha1, .inr (7, [.ref ha1_0, .ref ha1_1, .ref ha1_2, .int v50, .ref ha1_4, .ref ha1_5, .ref ha1_6, .ref ha1_7, .int v46, .int v47, .int ia1_10, .ref ha1_11]))]) (pw := pw573) hZ hpwpw573 hP hD [2, 3, 4, 9] rfl (by decide +kernel)⟩ rfl rfl hl.1 rfl (lv_room (Nat.le_of_ble_eq_true rfl)) dX4_bringAll_58 ⟨show (((v1 : Int32).toInt.toNat) + 1) + 0 ≤ 80 by omega, show (((v1 : Int32).toInt.toNat) + 1) + 0 ≤ 80 by omega⟩) hP hD hS hA [2, 3, 4, 9] [0, 1, 5, 6, 7, 8] rfl rfl (by decide +kernel) (by decide +kernel) (fun u577 H locs hpo hP hD hS => ?_)
            generalize hgg578 : u577.2 0 = g578 at hP hD hpo
            generalize hgf579 : u577.1.2 0 = f579 at hP hD hpo
            generalize hgf580 : u577.1.2 1 = f580 at hP hD hpo
            generalize hgw581 : u577.1.1 0 = w581 at hP hD hpo
            have hP : va_P (dC, dI) vwCl ((ha0_0, .inl (cI, 80, .inl fa0_0)) :: (ha0, .inr (4, [.ref ha0_0, .int ia0_1])) :: (ha1_4, .inl (cI, 12, .inl f42)) :: (ha1_5, .inl (cI, 12, .inl f43)) :: (ha1_6, .inl (cI, 12, .inl f44)) :: (ha1_7, .inl (cI, 12, .inl f45)) :: (ha1_0, .inl (cQ, 5, .inr (.inr (.inr (.inr (fun i => (g578 i).1)))))) :: (ha1_1, .inl (cI, 5, .inl f579)) :: (ha1_2, .inl (cI, 5, .inl f580)) :: (ha1, .inr (7, [.ref ha1_0, .ref ha1_1, .ref ha1_2, .int w581, .ref ha1_4, .ref ha1_5, .ref ha1_6, .ref ha1_7, .int v46, .int v47, .int ia1_10, .ref ha1_11])) :: pw573) H := hP
            have hD : va_D A ((ha0_0, .inl (cI, 80, .inl fa0_0)) :: (ha0, .inr (4, [.ref ha0_0, .int ia0_1])) :: (ha1_4, .inl (cI, 12, .inl f42)) :: (ha1_5, .inl (cI, 12, .inl f43)) :: (ha1_6, .inl (cI, 12, .inl f44)) :: (ha1_7, .inl (cI, 12, .inl f45)) :: (ha1_0, .inl (cQ, 5, .inr (.inr (.inr (.inr (fun i => (g578 i).1)))))) :: (ha1_1, .inl (cI, 5, .inl f579)) :: (ha1_2, .inl (cI, 5, .inl f580)) :: (ha1, .inr (7, [.ref ha1_0, .ref ha1_1, .ref ha1_2, .int w581, .ref ha1_4, .ref ha1_5, .ref ha1_6, .ref ha1_7, .int v46, .int v47, .int ia1_10, .ref ha1_11])) :: pw573) := hD
            obtain ⟨hPLg578_pw573, hw581p, hy576po⟩ := hpo
            obtain ⟨hw581l, hw581h⟩ := hw581p
            refine lv_goto (tgt := 70) hx hb dX4_bringAll_61 (by decide) ?_
            obtain ⟨y582, ey582⟩ : ∃ y : Int32, y = v2 + 1 := ⟨_, rfl⟩
            refine lv_iinc (v := y582) (lv' := [(2, .int y582), (3, .int v1), (0, .ref ha0), (1, .ref ha1)]) hx hb dX4_bringAll_70 hl (k := 1) rfl (by rw [ey582]; rfl) (by decide) rfl (fun ls hl => ?_)
            have hy582 : y582.toInt = v2.toInt + 1 := by rw [ey582]; exact z_add rfl (by decide) (by omega) (by omega)
            obtain ⟨y583, ey583⟩ : ∃ y : Int32, y = v1 + 1 := ⟨_, rfl⟩
            refine lv_iinc (v := y583) (lv' := [(3, .int y583), (2, .int y582), (0, .ref ha0), (1, .ref ha1)]) hx hb dX4_bringAll_73 hl (k := 1) rfl (by rw [ey583]; rfl) (by decide) rfl (fun ls hl => ?_)
            have hy583 : y583.toInt = v1.toInt + 1 := by rw [ey583]; exact z_add rfl (by decide) (by omega) (by omega)
            refine lv_goto (tgt := 4) hx hb dX4_bringAll_76 (by decide) ?_
            refine W.widen (k := ((y583 : Int32).toInt.toNat)) (n := ((y583 : Int32).toInt.toNat)) (by omega) (by omega) ?_
            exact ih547 y583 y582 v46 v47 w581 f580 f42 f43 f44 f45 g578 f579 pw573 _ _ ls (by first | decide | omega) (by first | decide | omega) (by first | decide | omega) (by first | decide | omega) hi546_4 hi546_5 (Int.le_trans (by decide) hw581l) hw581h hBf44 hBf45 hpwpw573 hmopw573 hPLg578_pw573 (z_brIP (by assumption) (by omega) (by omega) (by omega) (z_bgT hy550_2 (by omega)) (by omega) (z_rwA hy575_2 (by omega)) (fun q => ⟨(hy576po q).1, (hy576po q).2.1⟩) (by omega) (by omega)) (by have e0 : (0 : Int32).toInt = 0 := (by decide); omega) (z_brJP (by assumption) (by omega) (by omega) (by omega) (by omega) (z_bgT hy550_2 (by omega)) (by omega) (z_rwA hy575_2 (by omega)) (fun q => ⟨(hy576po q).1, (hy576po q).2.1, (hy576po q).2.2.1⟩) (by omega) (by omega)) (z_brGP (by assumption) (by omega) (by omega) (by omega) (z_bgT hy550_2 (by omega)) (by omega) (z_rwA hy567_2 (by omega)) (z_rwA hy569_2 (by omega)) hy570po (fun q => ⟨(hy576po q).1, (hy576po q).2.2.2⟩) (by omega)) (by omega) (lv_sub hl [0, 1, 2, 3] rfl) (z_subT (X := [(ha0_0, .inl (cI, 80, .inl fa0_0)), (ha0, .inr (4, [.ref ha0_0, .int ia0_1])), (ha1_4, .inl (cI, 12, .inl f42)), (ha1_5, .inl (cI, 12, .inl f43)), (ha1_6, .inl (cI, 12, .inl f44)), (ha1_7, .inl (cI, 12, .inl f45)), (ha1_0, .inl (cQ, 5, .inr (.inr (.inr (.inr (fun i => (g578 i).1)))))), (ha1_1, .inl (cI, 5, .inl f579)), (ha1_2, .inl (cI, 5, .inl f580)), (ha1, .inr (7, [.ref ha1_0, .ref ha1_1, .ref ha1_2, .int w581, .ref ha1_4, .ref ha1_5, .ref ha1_6, .ref ha1_7, .int v46, .int v47, .int ia1_10, .ref ha1_11]))]) (cx := [(ha0_0, .inl (cI, 80, .inl fa0_0)), (ha0, .inr (4, [.ref ha0_0, .int ia0_1])), (ha1_0, .inl (cQ, 5, .inr (.inr (.inr (.inr (fun i => (g578 i).1)))))), (ha1_1, .inl (cI, 5, .inl f579)), (ha1_2, .inl (cI, 5, .inl f580)), (ha1_4, .inl (cI, 12, .inl f42)), (ha1_5, .inl (cI, 12, .inl f43)), (ha1_6, .inl (cI, 12, .inl f44)), (ha1_7, .inl (cI, 12, .inl f45)), (ha1, .inr (7, [.ref ha1_0, .ref ha1_1, .ref ha1_2, .int w581, .ref ha1_4, .ref ha1_5, .ref ha1_6, .ref ha1_7, .int v46, .int v47, .int ia1_10, .ref ha1_11]))]) (pl := pw573) hP [0, 1, 6, 7, 8, 2, 3, 4, 5, 9] rfl) (va_D.part (X := [(ha0_0, .inl (cI, 80, .inl fa0_0)), (ha0, .inr (4, [.ref ha0_0, .int ia0_1])), (ha1_4, .inl (cI, 12, .inl f42)), (ha1_5, .inl (cI, 12, .inl f43)), (ha1_6, .inl (cI, 12, .inl f44)), (ha1_7, .inl (cI, 12, .inl f45)), (ha1_0, .inl (cQ, 5, .inr (.inr (.inr (.inr (fun i => (g578 i).1)))))), (ha1_1, .inl (cI, 5, .inl f579)), (ha1_2, .inl (cI, 5, .inl f580)), (ha1, .inr (7, [.ref ha1_0, .ref ha1_1, .ref ha1_2, .int w581, .ref ha1_4, .ref ha1_5, .ref ha1_6, .ref ha1_7, .int v46, .int v47, .int ia1_10, .ref ha1_11]))]) (cx := [(ha0_0, .inl (cI, 80, .inl fa0_0)), (ha0, .inr (4, [.ref ha0_0, .int ia0_1])), (ha1_0, .inl (cQ, 5, .inr (.inr (.inr (.inr (fun i => (g578 i).1)))))), (ha1_1, .inl (cI, 5, .inl f579)), (ha1_2, .inl (cI, 5, .inl f580)), (ha1_4, .inl (cI, 12, .inl f42)), (ha1_5, .inl (cI, 12, .inl f43)), (ha1_6, .inl (cI, 12, .inl f44)), (ha1_7, .inl (cI, 12, .inl f45)), (ha1, .inr (7, [.ref ha1_0, .ref ha1_1, .ref ha1_2, .int w581, .ref ha1_4, .ref ha1_5, .ref ha1_6, .ref ha1_7, .int v46, .int v47, .int ia1_10, .ref ha1_11]))]) (pl := pw573) hD [0, 1, 6, 7, 8, 2, 3, 4, 5, 9] (by decide +kernel) rfl) hS
        · have q584 : y550.toInt = 0 := z_eq rfl (by decide) hc
          refine lv_goto (tgt := 73) hx hb dX4_bringAll_20 (by decide) ?_
          obtain ⟨y585, ey585⟩ : ∃ y : Int32, y = v1 + 1 := ⟨_, rfl⟩
          refine lv_iinc (v := y585) (lv' := [(3, .int y585), (2, .int v2), (0, .ref ha0), (1, .ref ha1)]) hx hb dX4_bringAll_73 hl (k := 0) rfl (by rw [ey585]; rfl) (by decide) rfl (fun ls hl => ?_)
          have hy585 : y585.toInt = v1.toInt + 1 := by rw [ey585]; exact z_add rfl (by decide) (by omega) (by omega)
          refine lv_goto (tgt := 4) hx hb dX4_bringAll_76 (by decide) ?_
          refine W.widen (k := ((y585 : Int32).toInt.toNat)) (n := ((y585 : Int32).toInt.toNat)) (by omega) (by omega) ?_
          exact ih547 y585 v2 v46 v47 v50 f41 f42 f43 f44 f45 g48 f49 pw4 _ _ ls (by first | decide | omega) (by first | decide | omega) hi546_2 hi546_3 hi546_4 hi546_5 hi546_6 hi546_7 hBf44 hBf45 hpwpw4 hmopw4 hPLg48_pw4 (z_brIN (by assumption) (by omega) (z_bgF hy550_2 (by omega)) (by omega)) (by have e0 : (0 : Int32).toInt = 0 := (by decide); omega) (z_brJN (by assumption) (by omega) (z_bgF hy550_2 (by omega)) (by omega)) (z_brGN (by assumption) (by omega) (z_bgF hy550_2 (by omega)) (by omega)) (by omega) (lv_sub hl [0, 1, 2, 3] rfl) hP hD hS
  refine W.widen (k := ((0 : Int32).toInt.toNat)) (n := ((0 : Int32).toInt.toNat)) (by exact Nat.zero_le _) (by exact Nat.zero_le _) ?_
  exact hL545 ((80 - (0 : Int32).toInt).toNat + 1) 0 0 ia1_8 ia1_9 ia1_3 fa1_2 fa1_4 fa1_5 fa1_6 fa1_7 ga1_0 fa1_1 pw _ _ ls (by decide) (by decide) (by decide) (by decide) hia1_9l hia1_9h hia1_3l hia1_3h hBfa1_6 hBfa1_7 hpwpw hmopw hPLga1_0_pw z_brI0 (by have e0 : (0 : Int32).toInt = 0 := (by decide); omega) z_brJ0 z_brG0 (by omega) hl hP hD hS
set_option maxRecDepth 20000 in
theorem edX11_piece_0 : decode cX11_piece 0 = .ok (.aload_n 0, 1) ∧ decode cX11_piece 1 = .ok (.getfield 38, 3) ∧ decode cX11_piece 4 = .ok (.aload_n 0, 1) ∧ decode cX11_piece 5 = .ok (.getfield 10, 3) ∧ decode cX11_piece 8 = .ok (.invokevirtual 64, 3) ∧ decode cX11_piece 11 = .ok (.istore_n 1, 1) ∧ decode cX11_piece 12 = .ok (.iload_n 1, 1) ∧ decode cX11_piece 13 = .ok (.ifCond .ne 25, 3) ∧ decode cX11_piece 16 = .ok (.aload_n 0, 1) ∧ decode cX11_piece 17 = .ok (.getfield 38, 3) ∧ decode cX11_piece 20 = .ok (.aload_n 0, 1) ∧ decode cX11_piece 21 = .ok (.getfield 10, 3) := by decide +kernel
theorem dX11_piece_0 : decode cX11_piece 0 = .ok (.aload_n 0, 1) := edX11_piece_0.1
theorem dX11_piece_1 : decode cX11_piece 1 = .ok (.getfield 38, 3) := edX11_piece_0.2.1
theorem dX11_piece_4 : decode cX11_piece 4 = .ok (.aload_n 0, 1) := edX11_piece_0.2.2.1
theorem dX11_piece_5 : decode cX11_piece 5 = .ok (.getfield 10, 3) := edX11_piece_0.2.2.2.1
theorem dX11_piece_8 : decode cX11_piece 8 = .ok (.invokevirtual 64, 3) := edX11_piece_0.2.2.2.2.1
theorem dX11_piece_11 : decode cX11_piece 11 = .ok (.istore_n 1, 1) := edX11_piece_0.2.2.2.2.2.1
theorem dX11_piece_12 : decode cX11_piece 12 = .ok (.iload_n 1, 1) := edX11_piece_0.2.2.2.2.2.2.1
theorem dX11_piece_13 : decode cX11_piece 13 = .ok (.ifCond .ne 25, 3) := edX11_piece_0.2.2.2.2.2.2.2.1
theorem dX11_piece_16 : decode cX11_piece 16 = .ok (.aload_n 0, 1) := edX11_piece_0.2.2.2.2.2.2.2.2.1
theorem dX11_piece_17 : decode cX11_piece 17 = .ok (.getfield 38, 3) := edX11_piece_0.2.2.2.2.2.2.2.2.2.1
theorem dX11_piece_20 : decode cX11_piece 20 = .ok (.aload_n 0, 1) := edX11_piece_0.2.2.2.2.2.2.2.2.2.2.1
theorem dX11_piece_21 : decode cX11_piece 21 = .ok (.getfield 10, 3) := edX11_piece_0.2.2.2.2.2.2.2.2.2.2.2
set_option maxRecDepth 20000 in
theorem edX11_piece_24 : decode cX11_piece 24 = .ok (.invokevirtual 68, 3) ∧ decode cX11_piece 27 = .ok (.istore_n 1, 1) ∧ decode cX11_piece 28 = .ok (.aload_n 0, 1) ∧ decode cX11_piece 29 = .ok (.getfield 10, 3) ∧ decode cX11_piece 32 = .ok (.getfield 71, 3) ∧ decode cX11_piece 35 = .ok (.invokevirtual 75, 3) ∧ decode cX11_piece 38 = .ok (.aload_n 0, 1) ∧ decode cX11_piece 39 = .ok (.getfield 38, 3) ∧ decode cX11_piece 42 = .ok (.iconst 0, 1) ∧ decode cX11_piece 43 = .ok (.putfield 57, 3) ∧ decode cX11_piece 46 = .ok (.iload_n 1, 1) ∧ decode cX11_piece 47 = .ok (.ireturn, 1) := by decide +kernel
theorem dX11_piece_24 : decode cX11_piece 24 = .ok (.invokevirtual 68, 3) := edX11_piece_24.1
theorem dX11_piece_27 : decode cX11_piece 27 = .ok (.istore_n 1, 1) := edX11_piece_24.2.1
theorem dX11_piece_28 : decode cX11_piece 28 = .ok (.aload_n 0, 1) := edX11_piece_24.2.2.1
theorem dX11_piece_29 : decode cX11_piece 29 = .ok (.getfield 10, 3) := edX11_piece_24.2.2.2.1
theorem dX11_piece_32 : decode cX11_piece 32 = .ok (.getfield 71, 3) := edX11_piece_24.2.2.2.2.1
theorem dX11_piece_35 : decode cX11_piece 35 = .ok (.invokevirtual 75, 3) := edX11_piece_24.2.2.2.2.2.1
theorem dX11_piece_38 : decode cX11_piece 38 = .ok (.aload_n 0, 1) := edX11_piece_24.2.2.2.2.2.2.1
theorem dX11_piece_39 : decode cX11_piece 39 = .ok (.getfield 38, 3) := edX11_piece_24.2.2.2.2.2.2.2.1
theorem dX11_piece_42 : decode cX11_piece 42 = .ok (.iconst 0, 1) := edX11_piece_24.2.2.2.2.2.2.2.2.1
theorem dX11_piece_43 : decode cX11_piece 43 = .ok (.putfield 57, 3) := edX11_piece_24.2.2.2.2.2.2.2.2.2.1
theorem dX11_piece_46 : decode cX11_piece 46 = .ok (.iload_n 1, 1) := edX11_piece_24.2.2.2.2.2.2.2.2.2.2.1
theorem dX11_piece_47 : decode cX11_piece 47 = .ok (.ireturn, 1) := edX11_piece_24.2.2.2.2.2.2.2.2.2.2.2
noncomputable def voX11_piece : List Cond := [.fieldLink RX11 38 "EachOnHisCue" "letters" "LEachOnHisCue$Letters;", .fieldLink RX11 10 "EachOnHisCue" "play" "LEachOnHisCue$Play;", .fieldLink RX11 57 "EachOnHisCue$Letters" "size" "I", .fieldLink RX11 71 "EachOnHisCue$Play" "now" "LEachOnHisCue$Saying;", .methodLink RX11 64 yX4_firstFault, .instanceMethod yX4_firstFault, .selects RX4 yX4_firstFault yX4_firstFault, .initialized RX4, .methodLink RX11 68 yX4_bringAll, .instanceMethod yX4_bringAll, .selects RX4 yX4_bringAll yX4_bringAll, .methodLink RX11 75 yX9_forget, .instanceMethod yX9_forget, .selects RX9 yX9_forget yX9_forget, .initialized RX9]
noncomputable def vsX11_piece : List Cond := .code yX11_piece cX11_piece 2 (some .int) :: (voX11_piece ++ (vsX4_firstFault ++ (vsX4_bringAll ++ (vsX9_forget ++ (wsX40 ++ (wsX70 ++ (wsX110)))))))
theorem zgX11_piece : zGd vsX11_piece := z_gdC rfl (z_gdA (z_gdO (by decide +kernel) : zGd voX11_piece) (z_gdA zgX4_firstFault (z_gdA zgX4_bringAll (z_gdA zgX9_forget (z_gdA zgX4 (z_gdA zgX7 (zgX11)))))))
theorem in_X11_piece_X4 : ∀ w ∈ wsX40, w ∈ vsX11_piece := fun _ h => List.mem_cons_of_mem _ (List.mem_append_right _ (List.mem_append_right _ (List.mem_append_right _ (List.mem_append_right _ (List.mem_append_left _ h)))))
theorem in_X11_piece_X7 : ∀ w ∈ wsX70, w ∈ vsX11_piece := fun _ h => List.mem_cons_of_mem _ (List.mem_append_right _ (List.mem_append_right _ (List.mem_append_right _ (List.mem_append_right _ (List.mem_append_right _ (List.mem_append_left _ h))))))
theorem in_X11_piece_X11 : ∀ w ∈ wsX110, w ∈ vsX11_piece := fun _ h => List.mem_cons_of_mem _ (List.mem_append_right _ (List.mem_append_right _ (List.mem_append_right _ (List.mem_append_right _ (List.mem_append_right _ (List.mem_append_right _ (h)))))))
theorem gw_X11_piece_X4_firstFault : GoodIn vsX11_piece vsX4_firstFault := z_gdI (fun _ h => List.mem_cons_of_mem _ (List.mem_append_right _ (List.mem_append_left _ h))) zgX4_firstFault
set_option maxRecDepth 20000 in
theorem gv_X11_piece_X4_firstFault_64 : GoodIn vsX11_piece (wsV RX11 64 RX4 yX4_firstFault vsX4_firstFault) := goodIn_app (goodIn_of _ (by decide +kernel)) gw_X11_piece_X4_firstFault
theorem gw_X11_piece_X4_bringAll : GoodIn vsX11_piece vsX4_bringAll := z_gdI (fun _ h => List.mem_cons_of_mem _ (List.mem_append_right _ (List.mem_append_right _ (List.mem_append_left _ h)))) zgX4_bringAll
set_option maxRecDepth 20000 in
theorem gv_X11_piece_X4_bringAll_68 : GoodIn vsX11_piece (wsV RX11 68 RX4 yX4_bringAll vsX4_bringAll) := goodIn_app (goodIn_of _ (by decide +kernel)) gw_X11_piece_X4_bringAll
theorem gw_X11_piece_X9_forget : GoodIn vsX11_piece vsX9_forget := z_gdI (fun _ h => List.mem_cons_of_mem _ (List.mem_append_right _ (List.mem_append_right _ (List.mem_append_right _ (List.mem_append_left _ h))))) zgX9_forget
set_option maxRecDepth 20000 in
theorem gv_X11_piece_X9_forget_75 : GoodIn vsX11_piece (wsV RX11 75 RX9 yX9_forget vsX9_forget) := goodIn_app (goodIn_of _ (by decide +kernel)) gw_X11_piece_X9_forget
set_option maxHeartbeats 4000000 in
set_option maxRecDepth 100000 in
theorem wX11_piece (l : Launch) (dC : Nat → ClassId) (dI : Nat → Nat → Nat) (cI cQ : ClassId) (ha0 ha0_0_0 ha0_0_1 ha0_0_2 ha0_0_4 ha0_0_5 ha0_0_6 ha0_0_7 ha0_0_11 ha0_0 ha0_5_0 ha0_5 ha0_1 ha0_3 ha0_3_0 ha0_6 ha0_8 : Nat) (pw : va_W) (hpwpw : zPw pw) (ga0_0_0 : Nat → ZQ) (hPLga0_0_0_pw : zHp (zPLs pw) ga0_0_0) (fa0_0_1 : Nat → Int32) (fa0_0_2 : Nat → Int32) (fa0_0_4 : Nat → Int32) (fa0_0_5 : Nat → Int32) (fa0_0_6 : Nat → Int32) (hBfa0_0_6 : ∀ k, 0 ≤ (fa0_0_6 k).toInt ∧ (fa0_0_6 k).toInt ≤ 4) (fa0_0_7 : Nat → Int32) (hBfa0_0_7 : ∀ k, (-48) ≤ (fa0_0_7 k).toInt ∧ (fa0_0_7 k).toInt ≤ 207) (ia0_0_11_0 : Int32) (ia0_0_11_1 : Int32) (ia0_0_11_2 : Int32) (ia0_0_11_3 : Int32) (ia0_0_11_4 : Int32) (ia0_0_3 : Int32) (hia0_0_3l : 0 ≤ ia0_0_3.toInt) (hia0_0_3h : ia0_0_3.toInt ≤ 5) (ia0_0_8 : Int32) (ia0_0_9 : Int32) (hia0_0_9l : 0 ≤ ia0_0_9.toInt) (hia0_0_9h : ia0_0_9.toInt ≤ 12) (ia0_0_10 : Int32) (fa0_5_0 : Nat → Int32) (hBfa0_5_0 : ∀ k, 0 ≤ (fa0_5_0 k).toInt ∧ (fa0_5_0 k).toInt ≤ 255) (ia0_5_1 : Int32) (hia0_5_1l : 0 ≤ ia0_5_1.toInt) (hia0_5_1h : ia0_5_1.toInt ≤ 80) (ia0_2 : Int32) (hia0_2l : 0 ≤ ia0_2.toInt) (hia0_2h : ia0_2.toInt ≤ 1) (ia0_7 : Int32) (hia0_7l : 0 ≤ ia0_7.toInt) (hia0_7h : ia0_7.toInt ≤ 12) (sz : Nat) : Met l yX11_piece vsX11_piece ({ frames := 6, cells := 80, slots := 80, locals := 135 }) (va_Pc [.ref ha0] (zB dC dI cI cQ ([(ha0_0_0, .inl (cQ, 5, .inr (.inr (.inr (.inr (fun i => (ga0_0_0 i).1)))))), (ha0_0_1, .inl (cI, 5, .inl fa0_0_1)), (ha0_0_2, .inl (cI, 5, .inl fa0_0_2)), (ha0_0_4, .inl (cI, 12, .inl fa0_0_4)), (ha0_0_5, .inl (cI, 12, .inl fa0_0_5)), (ha0_0_6, .inl (cI, 12, .inl fa0_0_6)), (ha0_0_7, .inl (cI, 12, .inl fa0_0_7)), (ha0_0_11, .inr (9, [.int ia0_0_11_0, .int ia0_0_11_1, .int ia0_0_11_2, .int ia0_0_11_3, .int ia0_0_11_4])), (ha0_0, .inr (7, [.ref ha0_0_0, .ref ha0_0_1, .ref ha0_0_2, .int ia0_0_3, .ref ha0_0_4, .ref ha0_0_5, .ref ha0_0_6, .ref ha0_0_7, .int ia0_0_8, .int ia0_0_9, .int ia0_0_10, .ref ha0_0_11])), (ha0_5_0, .inl (cI, 80, .inl fa0_5_0)), (ha0_5, .inr (4, [.ref ha0_5_0, .int ia0_5_1])), (ha0, .inr (11, [.ref ha0_0, .ref ha0_1, .int ia0_2, .ref ha0_3, .ref ha0_3_0, .ref ha0_5, .ref ha0_6, .int ia0_7, .ref ha0_8]))] ++ pw) sz)) (zWiG (S := (ZU × (Nat → Nat → ZQ)) × va_W) dC dI (va_A ([(ha0_0_0, .inl (cQ, 5, .inr (.inr (.inr (.inr (fun i => (ga0_0_0 i).1)))))), (ha0_0_1, .inl (cI, 5, .inl fa0_0_1)), (ha0_0_2, .inl (cI, 5, .inl fa0_0_2)), (ha0_0_4, .inl (cI, 12, .inl fa0_0_4)), (ha0_0_5, .inl (cI, 12, .inl fa0_0_5)), (ha0_0_6, .inl (cI, 12, .inl fa0_0_6)), (ha0_0_7, .inl (cI, 12, .inl fa0_0_7)), (ha0_0_11, .inr (9, [.int ia0_0_11_0, .int ia0_0_11_1, .int ia0_0_11_2, .int ia0_0_11_3, .int ia0_0_11_4])), (ha0_0, .inr (7, [.ref ha0_0_0, .ref ha0_0_1, .ref ha0_0_2, .int ia0_0_3, .ref ha0_0_4, .ref ha0_0_5, .ref ha0_0_6, .ref ha0_0_7, .int ia0_0_8, .int ia0_0_9, .int ia0_0_10, .ref ha0_0_11])), (ha0_5_0, .inl (cI, 80, .inl fa0_5_0)), (ha0_5, .inr (4, [.ref ha0_5_0, .int ia0_5_1])), (ha0, .inr (11, [.ref ha0_0, .ref ha0_1, .int ia0_2, .ref ha0_3, .ref ha0_3_0, .ref ha0_5, .ref ha0_6, .int ia0_7, .ref ha0_8]))] ++ pw) sz) (fun u => [(ha0_0_0, .inl (cQ, 5, .inr (.inr (.inr (.inr (fun i => ((u.1.2 0) i).1)))))), (ha0_0_1, .inl (cI, 5, .inl (u.1.1.2 0))), (ha0_0_2, .inl (cI, 5, .inl (u.1.1.2 1))), (ha0_0_4, .inl (cI, 12, .inl (u.1.1.2 2))), (ha0_0_5, .inl (cI, 12, .inl (u.1.1.2 3))), (ha0_0_6, .inl (cI, 12, .inl (u.1.1.2 4))), (ha0_0_7, .inl (cI, 12, .inl (u.1.1.2 5))), (ha0_0_11, .inr (9, [.int (u.1.1.1 0), .int (u.1.1.1 1), .int (u.1.1.1 2), .int (u.1.1.1 3), .int (u.1.1.1 4)])), (ha0_0, .inr (7, [.ref ha0_0_0, .ref ha0_0_1, .ref ha0_0_2, .int (u.1.1.1 5), .ref ha0_0_4, .ref ha0_0_5, .ref ha0_0_6, .ref ha0_0_7, .int (u.1.1.1 6), .int (u.1.1.1 7), .int ia0_0_10, .ref ha0_0_11])), (ha0_5_0, .inl (cI, 80, .inl fa0_5_0)), (ha0_5, .inr (4, [.ref ha0_5_0, .int 0])), (ha0, .inr (11, [.ref ha0_0, .ref ha0_1, .int ia0_2, .ref ha0_3, .ref ha0_3_0, .ref ha0_5, .ref ha0_6, .int ia0_7, .ref ha0_8]))] ++ u.2) (fun r u => (∀ k, 0 ≤ ((u.1.1.2 4) k).toInt ∧ ((u.1.1.2 4) k).toInt ≤ 4) ∧ (∀ k, (-48) ≤ ((u.1.1.2 5) k).toInt ∧ ((u.1.1.2 5) k).toInt ≤ 207) ∧ ((-2147483648) ≤ (u.1.1.1 0).toInt ∧ (u.1.1.1 0).toInt ≤ 2147483647) ∧ ((-2147483648) ≤ (u.1.1.1 1).toInt ∧ (u.1.1.1 1).toInt ≤ 2147483647) ∧ ((-2147483648) ≤ (u.1.1.1 2).toInt ∧ (u.1.1.1 2).toInt ≤ 2147483647) ∧ ((-2147483648) ≤ (u.1.1.1 3).toInt ∧ (u.1.1.1 3).toInt ≤ 2147483647) ∧ ((-2147483648) ≤ (u.1.1.1 4).toInt ∧ (u.1.1.1 4).toInt ≤ 2147483647) ∧ (0 ≤ (u.1.1.1 5).toInt ∧ (u.1.1.1 5).toInt ≤ 5) ∧ ((-2147483648) ≤ (u.1.1.1 6).toInt ∧ (u.1.1.1 6).toInt ≤ 2147483647) ∧ (0 ≤ (u.1.1.1 7).toInt ∧ (u.1.1.1 7).toInt ≤ 12) ∧ zPw u.2 ∧ (zMo pw u.2) ∧ (zHp (zPLs u.2) (u.1.2 0)) ∧ ((-2079) ≤ r.toInt ∧ r.toInt ≤ 80) ∧ (((zPcC fa0_5_0 ia0_5_1.toInt ia0_0_3 ia0_0_9 fa0_0_1 fa0_0_7 r (u.1.1.1 5) (u.1.1.1 7) (u.1.1.2 0) (u.1.1.2 5)) ∧ (zPcD fa0_5_0 ia0_5_1.toInt ia0_0_3 ia0_0_9 ia0_0_8 fa0_0_1 fa0_0_7 fa0_0_2 fa0_0_4 fa0_0_5 fa0_0_6 (u.1.1.1 5) (u.1.1.1 7) (u.1.1.1 6) (u.1.1.2 0) (u.1.1.2 5) (u.1.1.2 1) (u.1.1.2 2) (u.1.1.2 3) (u.1.1.2 4)) ∧ (zPcG fa0_5_0 ia0_5_1.toInt ia0_0_3 ia0_0_9 ga0_0_0 (u.1.1.1 5) (u.1.2 0)) ∧ (zPcN fa0_5_0 ia0_5_1.toInt ia0_0_3.toInt ia0_0_9.toInt ia0_0_11_0 ia0_0_11_1 ia0_0_11_2 ia0_0_11_3 (u.1.1.1 0) (u.1.1.1 1) (u.1.1.1 2) (u.1.1.1 3)))))) 80 80 (va_A ([(ha0_0_0, .inl (cQ, 5, .inr (.inr (.inr (.inr (fun i => (ga0_0_0 i).1)))))), (ha0_0_1, .inl (cI, 5, .inl fa0_0_1)), (ha0_0_2, .inl (cI, 5, .inl fa0_0_2)), (ha0_0_4, .inl (cI, 12, .inl fa0_0_4)), (ha0_0_5, .inl (cI, 12, .inl fa0_0_5)), (ha0_0_6, .inl (cI, 12, .inl fa0_0_6)), (ha0_0_7, .inl (cI, 12, .inl fa0_0_7)), (ha0_0_11, .inr (9, [.int ia0_0_11_0, .int ia0_0_11_1, .int ia0_0_11_2, .int ia0_0_11_3, .int ia0_0_11_4])), (ha0_0, .inr (7, [.ref ha0_0_0, .ref ha0_0_1, .ref ha0_0_2, .int ia0_0_3, .ref ha0_0_4, .ref ha0_0_5, .ref ha0_0_6, .ref ha0_0_7, .int ia0_0_8, .int ia0_0_9, .int ia0_0_10, .ref ha0_0_11])), (ha0_5_0, .inl (cI, 80, .inl fa0_5_0)), (ha0_5, .inr (4, [.ref ha0_5_0, .int ia0_5_1])), (ha0, .inr (11, [.ref ha0_0, .ref ha0_1, .int ia0_2, .ref ha0_3, .ref ha0_3_0, .ref ha0_5, .ref ha0_6, .int ia0_7, .ref ha0_8]))] ++ pw) sz) := by
  refine Met.ofW (cc := cX11_piece) (maxL := 2) (ret := (some .int)) (by decide) rfl ?_
  intro p e s m args below meth c s₁ B hml hv
  obtain ⟨rfl, hsz, hP, hZ, hD0⟩ := hv
  obtain ⟨hK, hAO, hN⟩ := id hZ
  have hx := B.exec
  have hb := B.bytes
  have hr := B.returns
  have hts := atoms_spec (ws := vsX11_piece) B.pre
  have hown : s.vm.findClass RX11 = some m.cls := findClass_of_methodNamed B.named
  have hlocks := B.notSynchronized
  subst hsz
  have hD := hD0.self (sz := s.heap.size)
  generalize hAe : va_A ([(ha0_0_0, .inl (cQ, 5, .inr (.inr (.inr (.inr (fun i => (ga0_0_0 i).1)))))), (ha0_0_1, .inl (cI, 5, .inl fa0_0_1)), (ha0_0_2, .inl (cI, 5, .inl fa0_0_2)), (ha0_0_4, .inl (cI, 12, .inl fa0_0_4)), (ha0_0_5, .inl (cI, 12, .inl fa0_0_5)), (ha0_0_6, .inl (cI, 12, .inl fa0_0_6)), (ha0_0_7, .inl (cI, 12, .inl fa0_0_7)), (ha0_0_11, .inr (9, [.int ia0_0_11_0, .int ia0_0_11_1, .int ia0_0_11_2, .int ia0_0_11_3, .int ia0_0_11_4])), (ha0_0, .inr (7, [.ref ha0_0_0, .ref ha0_0_1, .ref ha0_0_2, .int ia0_0_3, .ref ha0_0_4, .ref ha0_0_5, .ref ha0_0_6, .ref ha0_0_7, .int ia0_0_8, .int ia0_0_9, .int ia0_0_10, .ref ha0_0_11])), (ha0_5_0, .inl (cI, 80, .inl fa0_5_0)), (ha0_5, .inr (4, [.ref ha0_5_0, .int ia0_5_1])), (ha0, .inr (11, [.ref ha0_0, .ref ha0_1, .int ia0_2, .ref ha0_3, .ref ha0_3_0, .ref ha0_5, .ref ha0_6, .int ia0_7, .ref ha0_8]))] ++ pw) s.heap.size = A at hD ⊢
  have hA : ∀ q : Nat, s.heap.size ≤ q → A q := fun q h => by rw [← hAe]; exact Or.inr h
  have hS : va_S A s.heap s.heap [] := va_S.rf
  have hP : va_P (dC, dI) vwCl ([(ha0_0_0, .inl (cQ, 5, .inr (.inr (.inr (.inr (fun i => (ga0_0_0 i).1)))))), (ha0_0_1, .inl (cI, 5, .inl fa0_0_1)), (ha0_0_2, .inl (cI, 5, .inl fa0_0_2)), (ha0_0_4, .inl (cI, 12, .inl fa0_0_4)), (ha0_0_5, .inl (cI, 12, .inl fa0_0_5)), (ha0_0_6, .inl (cI, 12, .inl fa0_0_6)), (ha0_0_7, .inl (cI, 12, .inl fa0_0_7)), (ha0_0_11, .inr (9, [.int ia0_0_11_0, .int ia0_0_11_1, .int ia0_0_11_2, .int ia0_0_11_3, .int ia0_0_11_4])), (ha0_0, .inr (7, [.ref ha0_0_0, .ref ha0_0_1, .ref ha0_0_2, .int ia0_0_3, .ref ha0_0_4, .ref ha0_0_5, .ref ha0_0_6, .ref ha0_0_7, .int ia0_0_8, .int ia0_0_9, .int ia0_0_10, .ref ha0_0_11])), (ha0_5_0, .inl (cI, 80, .inl fa0_5_0)), (ha0_5, .inr (4, [.ref ha0_5_0, .int ia0_5_1])), (ha0, .inr (11, [.ref ha0_0, .ref ha0_1, .int ia0_2, .ref ha0_3, .ref ha0_3_0, .ref ha0_5, .ref ha0_6, .int ia0_7, .ref ha0_8]))] ++ pw) s.heap := hP
  have hP : va_P (dC, dI) vwCl ((ha0_0_0, .inl (cQ, 5, .inr (.inr (.inr (.inr (fun i => (ga0_0_0 i).1)))))) :: (ha0_0_1, .inl (cI, 5, .inl fa0_0_1)) :: (ha0_0_2, .inl (cI, 5, .inl fa0_0_2)) :: (ha0_0_4, .inl (cI, 12, .inl fa0_0_4)) :: (ha0_0_5, .inl (cI, 12, .inl fa0_0_5)) :: (ha0_0_6, .inl (cI, 12, .inl fa0_0_6)) :: (ha0_0_7, .inl (cI, 12, .inl fa0_0_7)) :: (ha0_0_11, .inr (9, [.int ia0_0_11_0, .int ia0_0_11_1, .int ia0_0_11_2, .int ia0_0_11_3, .int ia0_0_11_4])) :: (ha0_0, .inr (7, [.ref ha0_0_0, .ref ha0_0_1, .ref ha0_0_2, .int ia0_0_3, .ref ha0_0_4, .ref ha0_0_5, .ref ha0_0_6, .ref ha0_0_7, .int ia0_0_8, .int ia0_0_9, .int ia0_0_10, .ref ha0_0_11])) :: (ha0_5_0, .inl (cI, 80, .inl fa0_5_0)) :: (ha0_5, .inr (4, [.ref ha0_5_0, .int ia0_5_1])) :: (ha0, .inr (11, [.ref ha0_0, .ref ha0_1, .int ia0_2, .ref ha0_3, .ref ha0_3_0, .ref ha0_5, .ref ha0_6, .int ia0_7, .ref ha0_8])) :: pw) s.heap := hP
  have hD : va_D A ((ha0_0_0, .inl (cQ, 5, .inr (.inr (.inr (.inr (fun i => (ga0_0_0 i).1)))))) :: (ha0_0_1, .inl (cI, 5, .inl fa0_0_1)) :: (ha0_0_2, .inl (cI, 5, .inl fa0_0_2)) :: (ha0_0_4, .inl (cI, 12, .inl fa0_0_4)) :: (ha0_0_5, .inl (cI, 12, .inl fa0_0_5)) :: (ha0_0_6, .inl (cI, 12, .inl fa0_0_6)) :: (ha0_0_7, .inl (cI, 12, .inl fa0_0_7)) :: (ha0_0_11, .inr (9, [.int ia0_0_11_0, .int ia0_0_11_1, .int ia0_0_11_2, .int ia0_0_11_3, .int ia0_0_11_4])) :: (ha0_0, .inr (7, [.ref ha0_0_0, .ref ha0_0_1, .ref ha0_0_2, .int ia0_0_3, .ref ha0_0_4, .ref ha0_0_5, .ref ha0_0_6, .ref ha0_0_7, .int ia0_0_8, .int ia0_0_9, .int ia0_0_10, .ref ha0_0_11])) :: (ha0_5_0, .inl (cI, 80, .inl fa0_5_0)) :: (ha0_5, .inr (4, [.ref ha0_5_0, .int ia0_5_1])) :: (ha0, .inr (11, [.ref ha0_0, .ref ha0_1, .int ia0_2, .ref ha0_3, .ref ha0_3_0, .ref ha0_5, .ref ha0_6, .int ia0_7, .ref ha0_8])) :: pw) := hD
  have hmopw : zMo pw pw := z_pmR
  have hl := lv_entry ([.ref ha0]) (n := 2) (Nat.le_of_ble_eq_true rfl)
  rw [lg_entry_eq]
  generalize (lg_sl ([.ref ha0]) ++ List.replicate (2 - (lg_sl ([.ref ha0])).length) Slot.unset).toArray = ls at hl ⊢
  have hl : lv_has ls 2 [(0, .ref ha0)] := hl
  refine lv_aload_n hx hb dX11_piece_0 rfl (lv_at hl 0 rfl) ?_
  refine va_get (D := (dC, dI)) (ci := 11) (v := .ref ha0_5) (C := RX11) (T := TX11) (N := 9) hx hb hts in_X11_piece_X11 hown hK hP 11 rfl rfl 5 (by decide) (hts (.fieldLink RX11 38 "EachOnHisCue" "letters" "LEachOnHisCue$Letters;") (by decide +kernel)) (fun _ h9 => h9) rfl dX11_piece_1 ?_
  refine lv_aload_n hx hb dX11_piece_4 rfl (lv_at hl 0 rfl) ?_
  refine va_get (D := (dC, dI)) (ci := 11) (v := .ref ha0_0) (C := RX11) (T := TX11) (N := 9) hx hb hts in_X11_piece_X11 hown hK hP 11 rfl rfl 0 (by decide) (hts (.fieldLink RX11 10 "EachOnHisCue" "play" "LEachOnHisCue$Play;") (by decide +kernel)) (fun _ h9 => h9) rfl dX11_piece_5 ?_
  refine z_rdi (va_runV (As := [.ref ha0_0]) (rest := []) ⟨hx, hb, hml, hown, hts⟩ (rX4_firstFault l dC dI cI cQ ha0_5 ha0_0 ha0_5_0 ha0_0_0 ha0_0_1 ha0_0_2 ha0_0_4 ha0_0_5 ha0_0_6 ha0_0_7 ha0_0_11 fa0_5_0 hBfa0_5_0 ia0_5_1 hia0_5_1l hia0_5_1h ia0_0_3 hia0_0_3l hia0_0_3h ia0_0_8 ia0_0_9 hia0_0_9l hia0_0_9h ia0_0_10) (cwV 1 hts gv_X11_piece_X4_firstFault_64 rfl rfl rfl (by decide +kernel) ⟨Nat.le_of_ble_eq_true rfl, Nat.le_of_ble_eq_true rfl⟩) ⟨z_blindR, va_recv hK hP (ci := 4) (q0 := 10) rfl rfl, z_preR hZ hP [9, 10, 8] rfl⟩ rfl rfl hl.1 rfl (lv_room (Nat.le_of_ble_eq_true rfl)) dX11_piece_8 ⟨show 0 + 0 ≤ 80 by omega, show 0 + 0 ≤ 80 by omega⟩) (fun y1 hy1 => ?_)
  obtain ⟨hy1_0, hy1_1, hy1_2⟩ := hy1
  refine lv_istore_n (lv' := [(1, .int y1), (0, .ref ha0)]) hx hb dX11_piece_11 rfl hl (by decide) rfl (fun ls hl => ?_)
  refine lv_iload_n hx hb dX11_piece_12 rfl (lv_at hl 0 rfl) ?_
  refine lv_if_ne (tgt := 38) hx hb dX11_piece_13 (by decide) (fun hc => ?_) (fun hc => ?_)
  · have q2 : y1.toInt ≠ 0 := z_ne rfl (by decide) hc
    refine lv_aload_n hx hb dX11_piece_38 rfl (lv_at hl 1 rfl) ?_
    refine va_get (D := (dC, dI)) (ci := 11) (v := .ref ha0_5) (C := RX11) (T := TX11) (N := 9) hx hb hts in_X11_piece_X11 hown hK hP 11 rfl rfl 5 (by decide) (hts (.fieldLink RX11 38 "EachOnHisCue" "letters" "LEachOnHisCue$Letters;") (by decide +kernel)) (fun _ h9 => h9) rfl dX11_piece_39 ?_
    refine lv_iconst (v := 0) hx hb dX11_piece_42 (by decide) ?_
    refine va_put (D := (dC, dI)) (ci := 4) (v := .int 0) (ty := .int) (C := RX4) (T := TX4) (N := 2) hx hb hts in_X11_piece_X4 tyX4 tyX4_ok nmX4 hown hK hP hD hS 10 rfl rfl 1 (by decide) (hts (.fieldLink RX11 57 "EachOnHisCue$Letters" "size" "I") (by decide +kernel)) (fun _ h9 => h9) rfl (by decide +kernel) rfl rfl (Nat.le_of_ble_eq_true rfl) dX11_piece_43 (fun H locs hP hD hS => ?_)
    have hP : va_P (dC, dI) vwCl ((ha0_0_0, .inl (cQ, 5, .inr (.inr (.inr (.inr (fun i => (ga0_0_0 i).1)))))) :: (ha0_0_1, .inl (cI, 5, .inl fa0_0_1)) :: (ha0_0_2, .inl (cI, 5, .inl fa0_0_2)) :: (ha0_0_4, .inl (cI, 12, .inl fa0_0_4)) :: (ha0_0_5, .inl (cI, 12, .inl fa0_0_5)) :: (ha0_0_6, .inl (cI, 12, .inl fa0_0_6)) :: (ha0_0_7, .inl (cI, 12, .inl fa0_0_7)) :: (ha0_0_11, .inr (9, [.int ia0_0_11_0, .int ia0_0_11_1, .int ia0_0_11_2, .int ia0_0_11_3, .int ia0_0_11_4])) :: (ha0_0, .inr (7, [.ref ha0_0_0, .ref ha0_0_1, .ref ha0_0_2, .int ia0_0_3, .ref ha0_0_4, .ref ha0_0_5, .ref ha0_0_6, .ref ha0_0_7, .int ia0_0_8, .int ia0_0_9, .int ia0_0_10, .ref ha0_0_11])) :: (ha0_5_0, .inl (cI, 80, .inl fa0_5_0)) :: (ha0_5, .inr (4, [.ref ha0_5_0, .int 0])) :: (ha0, .inr (11, [.ref ha0_0, .ref ha0_1, .int ia0_2, .ref ha0_3, .ref ha0_3_0, .ref ha0_5, .ref ha0_6, .int ia0_7, .ref ha0_8])) :: pw) H := hP
    have hD : va_D A ((ha0_0_0, .inl (cQ, 5, .inr (.inr (.inr (.inr (fun i => (ga0_0_0 i).1)))))) :: (ha0_0_1, .inl (cI, 5, .inl fa0_0_1)) :: (ha0_0_2, .inl (cI, 5, .inl fa0_0_2)) :: (ha0_0_4, .inl (cI, 12, .inl fa0_0_4)) :: (ha0_0_5, .inl (cI, 12, .inl fa0_0_5)) :: (ha0_0_6, .inl (cI, 12, .inl fa0_0_6)) :: (ha0_0_7, .inl (cI, 12, .inl fa0_0_7)) :: (ha0_0_11, .inr (9, [.int ia0_0_11_0, .int ia0_0_11_1, .int ia0_0_11_2, .int ia0_0_11_3, .int ia0_0_11_4])) :: (ha0_0, .inr (7, [.ref ha0_0_0, .ref ha0_0_1, .ref ha0_0_2, .int ia0_0_3, .ref ha0_0_4, .ref ha0_0_5, .ref ha0_0_6, .ref ha0_0_7, .int ia0_0_8, .int ia0_0_9, .int ia0_0_10, .ref ha0_0_11])) :: (ha0_5_0, .inl (cI, 80, .inl fa0_5_0)) :: (ha0_5, .inr (4, [.ref ha0_5_0, .int 0])) :: (ha0, .inr (11, [.ref ha0_0, .ref ha0_1, .int ia0_2, .ref ha0_3, .ref ha0_3_0, .ref ha0_5, .ref ha0_6, .int ia0_7, .ref ha0_8])) :: pw) := hD
    refine lv_iload_n hx hb dX11_piece_46 rfl (lv_at hl 0 rfl) ?_
    have hP9 := z_subT (X := [(ha0_0_0, .inl (cQ, 5, .inr (.inr (.inr (.inr (fun i => (ga0_0_0 i).1)))))), (ha0_0_1, .inl (cI, 5, .inl fa0_0_1)), (ha0_0_2, .inl (cI, 5, .inl fa0_0_2)), (ha0_0_4, .inl (cI, 12, .inl fa0_0_4)), (ha0_0_5, .inl (cI, 12, .inl fa0_0_5)), (ha0_0_6, .inl (cI, 12, .inl fa0_0_6)), (ha0_0_7, .inl (cI, 12, .inl fa0_0_7)), (ha0_0_11, .inr (9, [.int ia0_0_11_0, .int ia0_0_11_1, .int ia0_0_11_2, .int ia0_0_11_3, .int ia0_0_11_4])), (ha0_0, .inr (7, [.ref ha0_0_0, .ref ha0_0_1, .ref ha0_0_2, .int ia0_0_3, .ref ha0_0_4, .ref ha0_0_5, .ref ha0_0_6, .ref ha0_0_7, .int ia0_0_8, .int ia0_0_9, .int ia0_0_10, .ref ha0_0_11])), (ha0_5_0, .inl (cI, 80, .inl fa0_5_0)), (ha0_5, .inr (4, [.ref ha0_5_0, .int 0])), (ha0, .inr (11, [.ref ha0_0, .ref ha0_1, .int ia0_2, .ref ha0_3, .ref ha0_3_0, .ref ha0_5, .ref ha0_6, .int ia0_7, .ref ha0_8]))]) (cx := [(ha0_0_0, .inl (cQ, 5, .inr (.inr (.inr (.inr (fun i => (ga0_0_0 i).1)))))), (ha0_0_1, .inl (cI, 5, .inl fa0_0_1)), (ha0_0_2, .inl (cI, 5, .inl fa0_0_2)), (ha0_0_4, .inl (cI, 12, .inl fa0_0_4)), (ha0_0_5, .inl (cI, 12, .inl fa0_0_5)), (ha0_0_6, .inl (cI, 12, .inl fa0_0_6)), (ha0_0_7, .inl (cI, 12, .inl fa0_0_7)), (ha0_0_11, .inr (9, [.int ia0_0_11_0, .int ia0_0_11_1, .int ia0_0_11_2, .int ia0_0_11_3, .int ia0_0_11_4])), (ha0_0, .inr (7, [.ref ha0_0_0, .ref ha0_0_1, .ref ha0_0_2, .int ia0_0_3, .ref ha0_0_4, .ref ha0_0_5, .ref ha0_0_6, .ref ha0_0_7, .int ia0_0_8, .int ia0_0_9, .int ia0_0_10, .ref ha0_0_11])), (ha0_5_0, .inl (cI, 80, .inl fa0_5_0)), (ha0_5, .inr (4, [.ref ha0_5_0, .int 0])), (ha0, .inr (11, [.ref ha0_0, .ref ha0_1, .int ia0_2, .ref ha0_3, .ref ha0_3_0, .ref ha0_5, .ref ha0_6, .int ia0_7, .ref ha0_8]))]) (pl := pw) hP [0, 1, 2, 3, 4, 5, 6, 7, 8, 9, 10, 11] rfl
    have hD9 := va_D.part (X := [(ha0_0_0, .inl (cQ, 5, .inr (.inr (.inr (.inr (fun i => (ga0_0_0 i).1)))))), (ha0_0_1, .inl (cI, 5, .inl fa0_0_1)), (ha0_0_2, .inl (cI, 5, .inl fa0_0_2)), (ha0_0_4, .inl (cI, 12, .inl fa0_0_4)), (ha0_0_5, .inl (cI, 12, .inl fa0_0_5)), (ha0_0_6, .inl (cI, 12, .inl fa0_0_6)), (ha0_0_7, .inl (cI, 12, .inl fa0_0_7)), (ha0_0_11, .inr (9, [.int ia0_0_11_0, .int ia0_0_11_1, .int ia0_0_11_2, .int ia0_0_11_3, .int ia0_0_11_4])), (ha0_0, .inr (7, [.ref ha0_0_0, .ref ha0_0_1, .ref ha0_0_2, .int ia0_0_3, .ref ha0_0_4, .ref ha0_0_5, .ref ha0_0_6, .ref ha0_0_7, .int ia0_0_8, .int ia0_0_9, .int ia0_0_10, .ref ha0_0_11])), (ha0_5_0, .inl (cI, 80, .inl fa0_5_0)), (ha0_5, .inr (4, [.ref ha0_5_0, .int 0])), (ha0, .inr (11, [.ref ha0_0, .ref ha0_1, .int ia0_2, .ref ha0_3, .ref ha0_3_0, .ref ha0_5, .ref ha0_6, .int ia0_7, .ref ha0_8]))]) (cx := [(ha0_0_0, .inl (cQ, 5, .inr (.inr (.inr (.inr (fun i => (ga0_0_0 i).1)))))), (ha0_0_1, .inl (cI, 5, .inl fa0_0_1)), (ha0_0_2, .inl (cI, 5, .inl fa0_0_2)), (ha0_0_4, .inl (cI, 12, .inl fa0_0_4)), (ha0_0_5, .inl (cI, 12, .inl fa0_0_5)), (ha0_0_6, .inl (cI, 12, .inl fa0_0_6)), (ha0_0_7, .inl (cI, 12, .inl fa0_0_7)), (ha0_0_11, .inr (9, [.int ia0_0_11_0, .int ia0_0_11_1, .int ia0_0_11_2, .int ia0_0_11_3, .int ia0_0_11_4])), (ha0_0, .inr (7, [.ref ha0_0_0, .ref ha0_0_1, .ref ha0_0_2, .int ia0_0_3, .ref ha0_0_4, .ref ha0_0_5, .ref ha0_0_6, .ref ha0_0_7, .int ia0_0_8, .int ia0_0_9, .int ia0_0_10, .ref ha0_0_11])), (ha0_5_0, .inl (cI, 80, .inl fa0_5_0)), (ha0_5, .inr (4, [.ref ha0_5_0, .int 0])), (ha0, .inr (11, [.ref ha0_0, .ref ha0_1, .int ia0_2, .ref ha0_3, .ref ha0_3_0, .ref ha0_5, .ref ha0_6, .int ia0_7, .ref ha0_8]))]) (pl := pw) hD [0, 1, 2, 3, 4, 5, 6, 7, 8, 9, 10, 11] (by decide +kernel) rfl
    refine W.widen (k := 80) (n := 80) (by first | omega | decide) (by first | omega | decide) ?_
    have hpo : ((zPcC fa0_5_0 ia0_5_1.toInt ia0_0_3 ia0_0_9 fa0_0_1 fa0_0_7 (y1 : Int32) (ia0_0_3 : Int32) (ia0_0_9 : Int32) fa0_0_1 fa0_0_7) ∧ (zPcD fa0_5_0 ia0_5_1.toInt ia0_0_3 ia0_0_9 ia0_0_8 fa0_0_1 fa0_0_7 fa0_0_2 fa0_0_4 fa0_0_5 fa0_0_6 (ia0_0_3 : Int32) (ia0_0_9 : Int32) (ia0_0_8 : Int32) fa0_0_1 fa0_0_7 fa0_0_2 fa0_0_4 fa0_0_5 fa0_0_6) ∧ (zPcG fa0_5_0 ia0_5_1.toInt ia0_0_3 ia0_0_9 ga0_0_0 (ia0_0_3 : Int32) ga0_0_0) ∧ (zPcN fa0_5_0 ia0_5_1.toInt ia0_0_3.toInt ia0_0_9.toInt ia0_0_11_0 ia0_0_11_1 ia0_0_11_2 ia0_0_11_3 (ia0_0_11_0 : Int32) (ia0_0_11_1 : Int32) (ia0_0_11_2 : Int32) (ia0_0_11_3 : Int32))) := by exact ⟨z_pcF hy1_2 rfl (by omega), z_pdF hy1_2 (by omega), z_pgF hy1_2 (by omega), z_pnF hy1_2 (by omega)⟩
    exact W.iret (v := y1) hx hb hr (fun t ht hW => ⟨⟨y1, (((fun k => [ia0_0_11_0, ia0_0_11_1, ia0_0_11_2, ia0_0_11_3, ia0_0_11_4, ia0_0_3, ia0_0_8, ia0_0_9].getD k 0, fun k => [fa0_0_1, fa0_0_2, fa0_0_4, fa0_0_5, fa0_0_6, fa0_0_7].getD k (fun _ => 0)), fun k => [ga0_0_0].getD k (fun _ => (none, 0, 0))), pw), rfl, (show (∀ k, 0 ≤ (fa0_0_6 k).toInt ∧ (fa0_0_6 k).toInt ≤ 4) ∧ (∀ k, (-48) ≤ (fa0_0_7 k).toInt ∧ (fa0_0_7 k).toInt ≤ 207) ∧ ((-2147483648) ≤ (ia0_0_11_0 : Int32).toInt ∧ (ia0_0_11_0 : Int32).toInt ≤ 2147483647) ∧ ((-2147483648) ≤ (ia0_0_11_1 : Int32).toInt ∧ (ia0_0_11_1 : Int32).toInt ≤ 2147483647) ∧ ((-2147483648) ≤ (ia0_0_11_2 : Int32).toInt ∧ (ia0_0_11_2 : Int32).toInt ≤ 2147483647) ∧ ((-2147483648) ≤ (ia0_0_11_3 : Int32).toInt ∧ (ia0_0_11_3 : Int32).toInt ≤ 2147483647) ∧ ((-2147483648) ≤ (ia0_0_11_4 : Int32).toInt ∧ (ia0_0_11_4 : Int32).toInt ≤ 2147483647) ∧ (0 ≤ (ia0_0_3 : Int32).toInt ∧ (ia0_0_3 : Int32).toInt ≤ 5) ∧ ((-2147483648) ≤ (ia0_0_8 : Int32).toInt ∧ (ia0_0_8 : Int32).toInt ≤ 2147483647) ∧ (0 ≤ (ia0_0_9 : Int32).toInt ∧ (ia0_0_9 : Int32).toInt ≤ 12) ∧ (zPw pw) ∧ (zMo pw pw) ∧ (zHp (zPLs pw) ga0_0_0) ∧ ((-2079) ≤ (y1 : Int32).toInt ∧ (y1 : Int32).toInt ≤ 80) ∧ (((zPcC fa0_5_0 ia0_5_1.toInt ia0_0_3 ia0_0_9 fa0_0_1 fa0_0_7 (y1 : Int32) (ia0_0_3 : Int32) (ia0_0_9 : Int32) fa0_0_1 fa0_0_7) ∧ (zPcD fa0_5_0 ia0_5_1.toInt ia0_0_3 ia0_0_9 ia0_0_8 fa0_0_1 fa0_0_7 fa0_0_2 fa0_0_4 fa0_0_5 fa0_0_6 (ia0_0_3 : Int32) (ia0_0_9 : Int32) (ia0_0_8 : Int32) fa0_0_1 fa0_0_7 fa0_0_2 fa0_0_4 fa0_0_5 fa0_0_6) ∧ (zPcG fa0_5_0 ia0_5_1.toInt ia0_0_3 ia0_0_9 ga0_0_0 (ia0_0_3 : Int32) ga0_0_0) ∧ (zPcN fa0_5_0 ia0_5_1.toInt ia0_0_3.toInt ia0_0_9.toInt ia0_0_11_0 ia0_0_11_1 ia0_0_11_2 ia0_0_11_3 (ia0_0_11_0 : Int32) (ia0_0_11_1 : Int32) (ia0_0_11_2 : Int32) (ia0_0_11_3 : Int32)))) from ⟨hBfa0_0_6, hBfa0_0_7, ⟨(z_lo _), (z_hi _)⟩, ⟨(z_lo _), (z_hi _)⟩, ⟨(z_lo _), (z_hi _)⟩, ⟨(z_lo _), (z_hi _)⟩, ⟨(z_lo _), (z_hi _)⟩, ⟨hia0_0_3l, hia0_0_3h⟩, ⟨(z_lo _), (z_hi _)⟩, ⟨hia0_0_9l, hia0_0_9h⟩, hpwpw, hmopw, hPLga0_0_0_pw, ⟨by first | decide | omega, by first | decide | omega⟩, hpo⟩), by rw [ht]; exact hP9, hD9⟩, hS.F ht⟩) hS.2.2 dX11_piece_47
  · have q3 : y1.toInt = 0 := z_eq rfl (by decide) hc
    refine lv_aload_n hx hb dX11_piece_16 rfl (lv_at hl 1 rfl) ?_
    refine va_get (D := (dC, dI)) (ci := 11) (v := .ref ha0_5) (C := RX11) (T := TX11) (N := 9) hx hb hts in_X11_piece_X11 hown hK hP 11 rfl rfl 5 (by decide) (hts (.fieldLink RX11 38 "EachOnHisCue" "letters" "LEachOnHisCue$Letters;") (by decide +kernel)) (fun _ h9 => h9) rfl dX11_piece_17 ?_
    refine lv_aload_n hx hb dX11_piece_20 rfl (lv_at hl 1 rfl) ?_
    refine va_get (D := (dC, dI)) (ci := 11) (v := .ref ha0_0) (C := RX11) (T := TX11) (N := 9) hx hb hts in_X11_piece_X11 hown hK hP 11 rfl rfl 0 (by decide) (hts (.fieldLink RX11 10 "EachOnHisCue" "play" "LEachOnHisCue$Play;") (by decide +kernel)) (fun _ h9 => h9) rfl dX11_piece_21 ?_
    refine z_cwiP (X := [(ha0_0_0, .inl (cQ, 5, .inr (.inr (.inr (.inr (fun i => (ga0_0_0 i).1)))))), (ha0_0_1, .inl (cI, 5, .inl fa0_0_1)), (ha0_0_2, .inl (cI, 5, .inl fa0_0_2)), (ha0_0_4, .inl (cI, 12, .inl fa0_0_4)), (ha0_0_5, .inl (cI, 12, .inl fa0_0_5)), (ha0_0_6, .inl (cI, 12, .inl fa0_0_6)), (ha0_0_7, .inl (cI, 12, .inl fa0_0_7)), (ha0_0_11, .inr (9, [.int ia0_0_11_0, .int ia0_0_11_1, .int ia0_0_11_2, .int ia0_0_11_3, .int ia0_0_11_4])), (ha0_0, .inr (7, [.ref ha0_0_0, .ref ha0_0_1, .ref ha0_0_2, .int ia0_0_3, .ref ha0_0_4, .ref ha0_0_5, .ref ha0_0_6, .ref ha0_0_7, .int ia0_0_8, .int ia0_0_9, .int ia0_0_10, .ref ha0_0_11])), (ha0_5_0, .inl (cI, 80, .inl fa0_5_0)), (ha0_5, .inr (4, [.ref ha0_5_0, .int ia0_5_1])), (ha0, .inr (11, [.ref ha0_0, .ref ha0_1, .int ia0_2, .ref ha0_3, .ref ha0_3_0, .ref ha0_5, .ref ha0_6, .int ia0_7, .ref ha0_8]))]) (pl := pw) (cx := [(ha0_5_0, .inl (cI, 80, .inl fa0_5_0)), (ha0_5, .inr (4, [.ref ha0_5_0, .int ia0_5_1])), (ha0_0_0, .inl (cQ, 5, .inr (.inr (.inr (.inr (fun i => (ga0_0_0 i).1)))))), (ha0_0_1, .inl (cI, 5, .inl fa0_0_1)), (ha0_0_2, .inl (cI, 5, .inl fa0_0_2)), (ha0_0_4, .inl (cI, 12, .inl fa0_0_4)), (ha0_0_5, .inl (cI, 12, .inl fa0_0_5)), (ha0_0_6, .inl (cI, 12, .inl fa0_0_6)), (ha0_0_7, .inl (cI, 12, .inl fa0_0_7)), (ha0_0, .inr (7, [.ref ha0_0_0, .ref ha0_0_1, .ref ha0_0_2, .int ia0_0_3, .ref ha0_0_4, .ref ha0_0_5, .ref ha0_0_6, .ref ha0_0_7, .int ia0_0_8, .int ia0_0_9, .int ia0_0_10, .ref ha0_0_11]))]) (wr := [(ha0_0_11, .inr (9, [.int ia0_0_11_0, .int ia0_0_11_1, .int ia0_0_11_2, .int ia0_0_11_3, .int ia0_0_11_4])), (ha0, .inr (11, [.ref ha0_0, .ref ha0_1, .int ia0_2, .ref ha0_3, .ref ha0_3_0, .ref ha0_5, .ref ha0_6, .int ia0_7, .ref ha0_8]))]) (rx := fun (u5 : (ZU × (Nat → Nat → ZQ)) × va_W) => [(ha0_5_0, .inl (cI, 80, .inl fa0_5_0)), (ha0_5, .inr (4, [.ref ha0_5_0, .int ia0_5_1])), (ha0_0_0, .inl (cQ, 5, .inr (.inr (.inr (.inr (fun i => ((u5.1.2 0) i).1)))))), (ha0_0_1, .inl (cI, 5, .inl (u5.1.1.2 0))), (ha0_0_2, .inl (cI, 5, .inl (u5.1.1.2 1))), (ha0_0_4, .inl (cI, 12, .inl (u5.1.1.2 2))), (ha0_0_5, .inl (cI, 12, .inl (u5.1.1.2 3))), (ha0_0_6, .inl (cI, 12, .inl (u5.1.1.2 4))), (ha0_0_7, .inl (cI, 12, .inl (u5.1.1.2 5))), (ha0_0, .inr (7, [.ref ha0_0_0, .ref ha0_0_1, .ref ha0_0_2, .int (u5.1.1.1 0), .ref ha0_0_4, .ref ha0_0_5, .ref ha0_0_6, .ref ha0_0_7, .int (u5.1.1.1 1), .int (u5.1.1.1 2), .int ia0_0_10, .ref ha0_0_11]))]) (pl1 := fun (u5 : (ZU × (Nat → Nat → ZQ)) × va_W) => u5.2) (va_runV (As := [.ref ha0_0]) (rest := []) ⟨hx, hb, hml, hown, hts⟩ (wX4_bringAll l dC dI cI cQ ha0_5 ha0_0 ha0_5_0 ha0_0_0 ha0_0_1 ha0_0_2 ha0_0_4 ha0_0_5 ha0_0_6 ha0_0_7 ha0_0_11 pw hpwpw fa0_5_0 hBfa0_5_0 ia0_5_1 hia0_5_1l hia0_5_1h ga0_0_0 hPLga0_0_0_pw fa0_0_1 fa0_0_2 fa0_0_4 fa0_0_5 fa0_0_6 hBfa0_0_6 fa0_0_7 hBfa0_0_7 ia0_0_3 hia0_0_3l hia0_0_3h ia0_0_8 ia0_0_9 hia0_0_9l hia0_0_9h ia0_0_10 s.heap.size) (cwV 1 hts gv_X11_piece_X4_bringAll_68 rfl rfl rfl (by decide +kernel) ⟨Nat.le_of_ble_eq_true rfl, Nat.le_of_ble_eq_true rfl⟩) ⟨z_blind, va_recv hK hP (ci := 4) (q0 := 10) rfl rfl, z_preTT (X := [(ha0_0_0, .inl (cQ, 5, .inr (.inr (.inr (.inr (fun i => (ga0_0_0 i).1)))))), (ha0_0_1, .inl (cI, 5, .inl fa0_0_1)), (ha0_0_2, .inl (cI, 5, .inl fa0_0_2)), (ha0_0_4, .inl (cI, 12, .inl fa0_0_4)), (ha0_0_5, .inl (cI, 12, .inl fa0_0_5)), (ha0_0_6, .inl (cI, 12, .inl fa0_0_6)), (ha0_0_7, .inl (cI, 12, .inl fa0_0_7)), (ha0_0_11, .inr (9, [.int ia0_0_11_0, .int ia0_0_11_1, .int ia0_0_11_2, .int ia0_0_11_3, .int ia0_0_11_4])), (ha0_0, .inr (7, [.ref ha0_0_0, .ref ha0_0_1, .ref ha0_0_2, .int ia0_0_3, .ref ha0_0_4, .ref ha0_0_5, .ref ha0_0_6, .ref ha0_0_7, .int ia0_0_8, .int ia0_0_9, .int ia0_0_10, .ref ha0_0_11])), (ha0_5_0, .inl (cI, 80, .inl fa0_5_0)), (ha0_5, .inr (4, [.ref ha0_5_0, .int ia0_5_1])), (ha0, .inr (11, [.ref ha0_0, .ref ha0_1, .int ia0_2, .ref ha0_3, .ref ha0_3_0, .ref ha0_5, .ref ha0_6, .int ia0_7, .ref ha0_8]))]) (pl := pw) hZ hP hD [9, 10, 0, 1, 2, 3, 4, 5, 6, 8] rfl (by decide +kernel)⟩ rfl rfl hl.1 rfl (lv_room (Nat.le_of_ble_eq_true rfl)) dX11_piece_24 ⟨show 0 + 80 ≤ 80 by omega, show 0 + 80 ≤ 80 by omega⟩) hP hD hS hA [9, 10, 0, 1, 2, 3, 4, 5, 6, 8] [7, 11] rfl rfl (by decide +kernel) (by decide +kernel) (fun y4 u5 H locs hpo hP hD hS => ?_)
    generalize hgg7 : u5.1.2 0 = g7 at hP hD hpo
    generalize hgf8 : u5.1.1.2 0 = f8 at hP hD hpo
    generalize hgf9 : u5.1.1.2 1 = f9 at hP hD hpo
    generalize hgf10 : u5.1.1.2 2 = f10 at hP hD hpo
    generalize hgf11 : u5.1.1.2 3 = f11 at hP hD hpo
    generalize hgf12 : u5.1.1.2 4 = f12 at hP hD hpo
    generalize hgf13 : u5.1.1.2 5 = f13 at hP hD hpo
    generalize hgw14 : u5.1.1.1 0 = w14 at hP hD hpo
    generalize hgw15 : u5.1.1.1 1 = w15 at hP hD hpo
    generalize hgw16 : u5.1.1.1 2 = w16 at hP hD hpo
    generalize hgpw6 : u5.2 = pw6 at hP hD hpo
    have hP : va_P (dC, dI) vwCl ((ha0_0_11, .inr (9, [.int ia0_0_11_0, .int ia0_0_11_1, .int ia0_0_11_2, .int ia0_0_11_3, .int ia0_0_11_4])) :: (ha0, .inr (11, [.ref ha0_0, .ref ha0_1, .int ia0_2, .ref ha0_3, .ref ha0_3_0, .ref ha0_5, .ref ha0_6, .int ia0_7, .ref ha0_8])) :: (ha0_5_0, .inl (cI, 80, .inl fa0_5_0)) :: (ha0_5, .inr (4, [.ref ha0_5_0, .int ia0_5_1])) :: (ha0_0_0, .inl (cQ, 5, .inr (.inr (.inr (.inr (fun i => (g7 i).1)))))) :: (ha0_0_1, .inl (cI, 5, .inl f8)) :: (ha0_0_2, .inl (cI, 5, .inl f9)) :: (ha0_0_4, .inl (cI, 12, .inl f10)) :: (ha0_0_5, .inl (cI, 12, .inl f11)) :: (ha0_0_6, .inl (cI, 12, .inl f12)) :: (ha0_0_7, .inl (cI, 12, .inl f13)) :: (ha0_0, .inr (7, [.ref ha0_0_0, .ref ha0_0_1, .ref ha0_0_2, .int w14, .ref ha0_0_4, .ref ha0_0_5, .ref ha0_0_6, .ref ha0_0_7, .int w15, .int w16, .int ia0_0_10, .ref ha0_0_11])) :: pw6) H := hP
    have hD : va_D A ((ha0_0_11, .inr (9, [.int ia0_0_11_0, .int ia0_0_11_1, .int ia0_0_11_2, .int ia0_0_11_3, .int ia0_0_11_4])) :: (ha0, .inr (11, [.ref ha0_0, .ref ha0_1, .int ia0_2, .ref ha0_3, .ref ha0_3_0, .ref ha0_5, .ref ha0_6, .int ia0_7, .ref ha0_8])) :: (ha0_5_0, .inl (cI, 80, .inl fa0_5_0)) :: (ha0_5, .inr (4, [.ref ha0_5_0, .int ia0_5_1])) :: (ha0_0_0, .inl (cQ, 5, .inr (.inr (.inr (.inr (fun i => (g7 i).1)))))) :: (ha0_0_1, .inl (cI, 5, .inl f8)) :: (ha0_0_2, .inl (cI, 5, .inl f9)) :: (ha0_0_4, .inl (cI, 12, .inl f10)) :: (ha0_0_5, .inl (cI, 12, .inl f11)) :: (ha0_0_6, .inl (cI, 12, .inl f12)) :: (ha0_0_7, .inl (cI, 12, .inl f13)) :: (ha0_0, .inr (7, [.ref ha0_0_0, .ref ha0_0_1, .ref ha0_0_2, .int w14, .ref ha0_0_4, .ref ha0_0_5, .ref ha0_0_6, .ref ha0_0_7, .int w15, .int w16, .int ia0_0_10, .ref ha0_0_11])) :: pw6) := hD
    obtain ⟨hBf12, hBf13, hw14p, hw15p, hw16p, hpwpw6, hmqpw6, hPLg7_pw6, hy4r, hy4po⟩ := hpo
    obtain ⟨hw14l, hw14h⟩ := hw14p
    obtain ⟨hw15l, hw15h⟩ := hw15p
    obtain ⟨hw16l, hw16h⟩ := hw16p
    have hmopw6 : zMo pw pw6 := z_pmT hmqpw6 hmopw
    obtain ⟨hy4l, hy4h⟩ := hy4r
    refine lv_istore_n (lv' := [(1, .int y4), (0, .ref ha0)]) hx hb dX11_piece_27 rfl hl (by decide) rfl (fun ls hl => ?_)
    refine lv_aload_n hx hb dX11_piece_28 rfl (lv_at hl 1 rfl) ?_
    refine va_get (D := (dC, dI)) (ci := 11) (v := .ref ha0_0) (C := RX11) (T := TX11) (N := 9) hx hb hts in_X11_piece_X11 hown hK hP 1 rfl rfl 0 (by decide) (hts (.fieldLink RX11 10 "EachOnHisCue" "play" "LEachOnHisCue$Play;") (by decide +kernel)) (fun _ h9 => h9) rfl dX11_piece_29 ?_
    refine va_get (D := (dC, dI)) (ci := 7) (v := .ref ha0_0_11) (C := RX7) (T := TX7) (N := 12) hx hb hts in_X11_piece_X7 hown hK hP 11 rfl rfl 11 (by decide) (hts (.fieldLink RX11 71 "EachOnHisCue$Play" "now" "LEachOnHisCue$Saying;") (by decide +kernel)) (fun _ h9 => h9) rfl dX11_piece_32 ?_
    refine z_cwvT (X := [(ha0_0_11, .inr (9, [.int ia0_0_11_0, .int ia0_0_11_1, .int ia0_0_11_2, .int ia0_0_11_3, .int ia0_0_11_4])), (ha0, .inr (11, [.ref ha0_0, .ref ha0_1, .int ia0_2, .ref ha0_3, .ref ha0_3_0, .ref ha0_5, .ref ha0_6, .int ia0_7, .ref ha0_8])), (ha0_5_0, .inl (cI, 80, .inl fa0_5_0)), (ha0_5, .inr (4, [.ref ha0_5_0, .int ia0_5_1])), (ha0_0_0, .inl (cQ, 5, .inr (.inr (.inr (.inr (fun i => (g7 i).1)))))), (ha0_0_1, .inl (cI, 5, .inl f8)), (ha0_0_2, .inl (cI, 5, .inl f9)), (ha0_0_4, .inl (cI, 12, .inl f10)), (ha0_0_5, .inl (cI, 12, .inl f11)), (ha0_0_6, .inl (cI, 12, .inl f12)), (ha0_0_7, .inl (cI, 12, .inl f13)), (ha0_0, .inr (7, [.ref ha0_0_0, .ref ha0_0_1, .ref ha0_0_2, .int w14, .ref ha0_0_4, .ref ha0_0_5, .ref ha0_0_6, .ref ha0_0_7, .int w15, .int w16, .int ia0_0_10, .ref ha0_0_11]))]) (pl := pw6) (wc := [(ha0_0_11, .inr (9, [.int ia0_0_11_0, .int ia0_0_11_1, .int ia0_0_11_2, .int ia0_0_11_3, .int ia0_0_11_4]))]) (wr := [(ha0, .inr (11, [.ref ha0_0, .ref ha0_1, .int ia0_2, .ref ha0_3, .ref ha0_3_0, .ref ha0_5, .ref ha0_6, .int ia0_7, .ref ha0_8])), (ha0_5_0, .inl (cI, 80, .inl fa0_5_0)), (ha0_5, .inr (4, [.ref ha0_5_0, .int ia0_5_1])), (ha0_0_0, .inl (cQ, 5, .inr (.inr (.inr (.inr (fun i => (g7 i).1)))))), (ha0_0_1, .inl (cI, 5, .inl f8)), (ha0_0_2, .inl (cI, 5, .inl f9)), (ha0_0_4, .inl (cI, 12, .inl f10)), (ha0_0_5, .inl (cI, 12, .inl f11)), (ha0_0_6, .inl (cI, 12, .inl f12)), (ha0_0_7, .inl (cI, 12, .inl f13)), (ha0_0, .inr (7, [.ref ha0_0_0, .ref ha0_0_1, .ref ha0_0_2, .int w14, .ref ha0_0_4, .ref ha0_0_5, .ref ha0_0_6, .ref ha0_0_7, .int w15, .int w16, .int ia0_0_10, .ref ha0_0_11]))]) (w1 := fun (u18 : ZU) => [(ha0_0_11, .inr (9, [.int 0, .int 0, .int (-9), .int 0, .int 0]))]) (va_runV (As := []) (rest := []) ⟨hx, hb, hml, hown, hts⟩ (wX9_forget l dC dI cI cQ ha0_0_11 ia0_0_11_0 ia0_0_11_1 ia0_0_11_2 ia0_0_11_3 ia0_0_11_4 H.size) (cwV 0 hts gv_X11_piece_X9_forget_75 rfl rfl rfl (by decide +kernel) ⟨Nat.le_of_ble_eq_true rfl, Nat.le_of_ble_eq_true rfl⟩) ⟨z_blind, va_recv hK hP (ci := 9) (q0 := 0) rfl rfl, z_pre hZ hP hD [0] rfl (by decide +kernel)⟩ rfl rfl hl.1 rfl (lv_room (Nat.le_of_ble_eq_true rfl)) dX11_piece_35 ⟨show (0 + 80) + 0 ≤ 80 by omega, show (0 + 80) + 0 ≤ 80 by omega⟩) hP hD hS hA [0] [1, 2, 3, 4, 5, 6, 7, 8, 9, 10, 11] rfl rfl (by decide +kernel) (by decide +kernel) (fun u18 H locs hpo hP hD hS => ?_)
    have hP : va_P (dC, dI) vwCl ((ha0, .inr (11, [.ref ha0_0, .ref ha0_1, .int ia0_2, .ref ha0_3, .ref ha0_3_0, .ref ha0_5, .ref ha0_6, .int ia0_7, .ref ha0_8])) :: (ha0_5_0, .inl (cI, 80, .inl fa0_5_0)) :: (ha0_5, .inr (4, [.ref ha0_5_0, .int ia0_5_1])) :: (ha0_0_0, .inl (cQ, 5, .inr (.inr (.inr (.inr (fun i => (g7 i).1)))))) :: (ha0_0_1, .inl (cI, 5, .inl f8)) :: (ha0_0_2, .inl (cI, 5, .inl f9)) :: (ha0_0_4, .inl (cI, 12, .inl f10)) :: (ha0_0_5, .inl (cI, 12, .inl f11)) :: (ha0_0_6, .inl (cI, 12, .inl f12)) :: (ha0_0_7, .inl (cI, 12, .inl f13)) :: (ha0_0, .inr (7, [.ref ha0_0_0, .ref ha0_0_1, .ref ha0_0_2, .int w14, .ref ha0_0_4, .ref ha0_0_5, .ref ha0_0_6, .ref ha0_0_7, .int w15, .int w16, .int ia0_0_10, .ref ha0_0_11])) :: (ha0_0_11, .inr (9, [.int 0, .int 0, .int (-9), .int 0, .int 0])) :: pw6) H := hP
    have hD : va_D A ((ha0, .inr (11, [.ref ha0_0, .ref ha0_1, .int ia0_2, .ref ha0_3, .ref ha0_3_0, .ref ha0_5, .ref ha0_6, .int ia0_7, .ref ha0_8])) :: (ha0_5_0, .inl (cI, 80, .inl fa0_5_0)) :: (ha0_5, .inr (4, [.ref ha0_5_0, .int ia0_5_1])) :: (ha0_0_0, .inl (cQ, 5, .inr (.inr (.inr (.inr (fun i => (g7 i).1)))))) :: (ha0_0_1, .inl (cI, 5, .inl f8)) :: (ha0_0_2, .inl (cI, 5, .inl f9)) :: (ha0_0_4, .inl (cI, 12, .inl f10)) :: (ha0_0_5, .inl (cI, 12, .inl f11)) :: (ha0_0_6, .inl (cI, 12, .inl f12)) :: (ha0_0_7, .inl (cI, 12, .inl f13)) :: (ha0_0, .inr (7, [.ref ha0_0_0, .ref ha0_0_1, .ref ha0_0_2, .int w14, .ref ha0_0_4, .ref ha0_0_5, .ref ha0_0_6, .ref ha0_0_7, .int w15, .int w16, .int ia0_0_10, .ref ha0_0_11])) :: (ha0_0_11, .inr (9, [.int 0, .int 0, .int (-9), .int 0, .int 0])) :: pw6) := hD
    have hy17po := hpo
    refine lv_aload_n hx hb dX11_piece_38 rfl (lv_at hl 1 rfl) ?_
    refine va_get (D := (dC, dI)) (ci := 11) (v := .ref ha0_5) (C := RX11) (T := TX11) (N := 9) hx hb hts in_X11_piece_X11 hown hK hP 0 rfl rfl 5 (by decide) (hts (.fieldLink RX11 38 "EachOnHisCue" "letters" "LEachOnHisCue$Letters;") (by decide +kernel)) (fun _ h9 => h9) rfl dX11_piece_39 ?_
    refine lv_iconst (v := 0) hx hb dX11_piece_42 (by decide) ?_
    refine va_put (D := (dC, dI)) (ci := 4) (v := .int 0) (ty := .int) (C := RX4) (T := TX4) (N := 2) hx hb hts in_X11_piece_X4 tyX4 tyX4_ok nmX4 hown hK hP hD hS 2 rfl rfl 1 (by decide) (hts (.fieldLink RX11 57 "EachOnHisCue$Letters" "size" "I") (by decide +kernel)) (fun _ h9 => h9) rfl (by decide +kernel) rfl rfl (Nat.le_of_ble_eq_true rfl) dX11_piece_43 (fun H locs hP hD hS => ?_)
    have hP : va_P (dC, dI) vwCl ((ha0, .inr (11, [.ref ha0_0, .ref ha0_1, .int ia0_2, .ref ha0_3, .ref ha0_3_0, .ref ha0_5, .ref ha0_6, .int ia0_7, .ref ha0_8])) :: (ha0_5_0, .inl (cI, 80, .inl fa0_5_0)) :: (ha0_5, .inr (4, [.ref ha0_5_0, .int 0])) :: (ha0_0_0, .inl (cQ, 5, .inr (.inr (.inr (.inr (fun i => (g7 i).1)))))) :: (ha0_0_1, .inl (cI, 5, .inl f8)) :: (ha0_0_2, .inl (cI, 5, .inl f9)) :: (ha0_0_4, .inl (cI, 12, .inl f10)) :: (ha0_0_5, .inl (cI, 12, .inl f11)) :: (ha0_0_6, .inl (cI, 12, .inl f12)) :: (ha0_0_7, .inl (cI, 12, .inl f13)) :: (ha0_0, .inr (7, [.ref ha0_0_0, .ref ha0_0_1, .ref ha0_0_2, .int w14, .ref ha0_0_4, .ref ha0_0_5, .ref ha0_0_6, .ref ha0_0_7, .int w15, .int w16, .int ia0_0_10, .ref ha0_0_11])) :: (ha0_0_11, .inr (9, [.int 0, .int 0, .int (-9), .int 0, .int 0])) :: pw6) H := hP
    have hD : va_D A ((ha0, .inr (11, [.ref ha0_0, .ref ha0_1, .int ia0_2, .ref ha0_3, .ref ha0_3_0, .ref ha0_5, .ref ha0_6, .int ia0_7, .ref ha0_8])) :: (ha0_5_0, .inl (cI, 80, .inl fa0_5_0)) :: (ha0_5, .inr (4, [.ref ha0_5_0, .int 0])) :: (ha0_0_0, .inl (cQ, 5, .inr (.inr (.inr (.inr (fun i => (g7 i).1)))))) :: (ha0_0_1, .inl (cI, 5, .inl f8)) :: (ha0_0_2, .inl (cI, 5, .inl f9)) :: (ha0_0_4, .inl (cI, 12, .inl f10)) :: (ha0_0_5, .inl (cI, 12, .inl f11)) :: (ha0_0_6, .inl (cI, 12, .inl f12)) :: (ha0_0_7, .inl (cI, 12, .inl f13)) :: (ha0_0, .inr (7, [.ref ha0_0_0, .ref ha0_0_1, .ref ha0_0_2, .int w14, .ref ha0_0_4, .ref ha0_0_5, .ref ha0_0_6, .ref ha0_0_7, .int w15, .int w16, .int ia0_0_10, .ref ha0_0_11])) :: (ha0_0_11, .inr (9, [.int 0, .int 0, .int (-9), .int 0, .int 0])) :: pw6) := hD
    refine lv_iload_n hx hb dX11_piece_46 rfl (lv_at hl 0 rfl) ?_
    have hP9 := z_subT (X := [(ha0, .inr (11, [.ref ha0_0, .ref ha0_1, .int ia0_2, .ref ha0_3, .ref ha0_3_0, .ref ha0_5, .ref ha0_6, .int ia0_7, .ref ha0_8])), (ha0_5_0, .inl (cI, 80, .inl fa0_5_0)), (ha0_5, .inr (4, [.ref ha0_5_0, .int 0])), (ha0_0_0, .inl (cQ, 5, .inr (.inr (.inr (.inr (fun i => (g7 i).1)))))), (ha0_0_1, .inl (cI, 5, .inl f8)), (ha0_0_2, .inl (cI, 5, .inl f9)), (ha0_0_4, .inl (cI, 12, .inl f10)), (ha0_0_5, .inl (cI, 12, .inl f11)), (ha0_0_6, .inl (cI, 12, .inl f12)), (ha0_0_7, .inl (cI, 12, .inl f13)), (ha0_0, .inr (7, [.ref ha0_0_0, .ref ha0_0_1, .ref ha0_0_2, .int w14, .ref ha0_0_4, .ref ha0_0_5, .ref ha0_0_6, .ref ha0_0_7, .int w15, .int w16, .int ia0_0_10, .ref ha0_0_11])), (ha0_0_11, .inr (9, [.int 0, .int 0, .int (-9), .int 0, .int 0]))]) (cx := [(ha0_0_0, .inl (cQ, 5, .inr (.inr (.inr (.inr (fun i => (g7 i).1)))))), (ha0_0_1, .inl (cI, 5, .inl f8)), (ha0_0_2, .inl (cI, 5, .inl f9)), (ha0_0_4, .inl (cI, 12, .inl f10)), (ha0_0_5, .inl (cI, 12, .inl f11)), (ha0_0_6, .inl (cI, 12, .inl f12)), (ha0_0_7, .inl (cI, 12, .inl f13)), (ha0_0_11, .inr (9, [.int 0, .int 0, .int (-9), .int 0, .int 0])), (ha0_0, .inr (7, [.ref ha0_0_0, .ref ha0_0_1, .ref ha0_0_2, .int w14, .ref ha0_0_4, .ref ha0_0_5, .ref ha0_0_6, .ref ha0_0_7, .int w15, .int w16, .int ia0_0_10, .ref ha0_0_11])), (ha0_5_0, .inl (cI, 80, .inl fa0_5_0)), (ha0_5, .inr (4, [.ref ha0_5_0, .int 0])), (ha0, .inr (11, [.ref ha0_0, .ref ha0_1, .int ia0_2, .ref ha0_3, .ref ha0_3_0, .ref ha0_5, .ref ha0_6, .int ia0_7, .ref ha0_8]))]) (pl := pw6) hP [3, 4, 5, 6, 7, 8, 9, 11, 10, 1, 2, 0] rfl
    have hD9 := va_D.part (X := [(ha0, .inr (11, [.ref ha0_0, .ref ha0_1, .int ia0_2, .ref ha0_3, .ref ha0_3_0, .ref ha0_5, .ref ha0_6, .int ia0_7, .ref ha0_8])), (ha0_5_0, .inl (cI, 80, .inl fa0_5_0)), (ha0_5, .inr (4, [.ref ha0_5_0, .int 0])), (ha0_0_0, .inl (cQ, 5, .inr (.inr (.inr (.inr (fun i => (g7 i).1)))))), (ha0_0_1, .inl (cI, 5, .inl f8)), (ha0_0_2, .inl (cI, 5, .inl f9)), (ha0_0_4, .inl (cI, 12, .inl f10)), (ha0_0_5, .inl (cI, 12, .inl f11)), (ha0_0_6, .inl (cI, 12, .inl f12)), (ha0_0_7, .inl (cI, 12, .inl f13)), (ha0_0, .inr (7, [.ref ha0_0_0, .ref ha0_0_1, .ref ha0_0_2, .int w14, .ref ha0_0_4, .ref ha0_0_5, .ref ha0_0_6, .ref ha0_0_7, .int w15, .int w16, .int ia0_0_10, .ref ha0_0_11])), (ha0_0_11, .inr (9, [.int 0, .int 0, .int (-9), .int 0, .int 0]))]) (cx := [(ha0_0_0, .inl (cQ, 5, .inr (.inr (.inr (.inr (fun i => (g7 i).1)))))), (ha0_0_1, .inl (cI, 5, .inl f8)), (ha0_0_2, .inl (cI, 5, .inl f9)), (ha0_0_4, .inl (cI, 12, .inl f10)), (ha0_0_5, .inl (cI, 12, .inl f11)), (ha0_0_6, .inl (cI, 12, .inl f12)), (ha0_0_7, .inl (cI, 12, .inl f13)), (ha0_0_11, .inr (9, [.int 0, .int 0, .int (-9), .int 0, .int 0])), (ha0_0, .inr (7, [.ref ha0_0_0, .ref ha0_0_1, .ref ha0_0_2, .int w14, .ref ha0_0_4, .ref ha0_0_5, .ref ha0_0_6, .ref ha0_0_7, .int w15, .int w16, .int ia0_0_10, .ref ha0_0_11])), (ha0_5_0, .inl (cI, 80, .inl fa0_5_0)), (ha0_5, .inr (4, [.ref ha0_5_0, .int 0])), (ha0, .inr (11, [.ref ha0_0, .ref ha0_1, .int ia0_2, .ref ha0_3, .ref ha0_3_0, .ref ha0_5, .ref ha0_6, .int ia0_7, .ref ha0_8]))]) (pl := pw6) hD [3, 4, 5, 6, 7, 8, 9, 11, 10, 1, 2, 0] (by decide +kernel) rfl
    refine W.widen (k := 80) (n := 80) (by first | omega | decide) (by first | omega | decide) ?_
    have hpo : ((zPcC fa0_5_0 ia0_5_1.toInt ia0_0_3 ia0_0_9 fa0_0_1 fa0_0_7 (y4 : Int32) (w14 : Int32) (w16 : Int32) f8 f13) ∧ (zPcD fa0_5_0 ia0_5_1.toInt ia0_0_3 ia0_0_9 ia0_0_8 fa0_0_1 fa0_0_7 fa0_0_2 fa0_0_4 fa0_0_5 fa0_0_6 (w14 : Int32) (w16 : Int32) (w15 : Int32) f8 f13 f9 f10 f11 f12) ∧ (zPcG fa0_5_0 ia0_5_1.toInt ia0_0_3 ia0_0_9 ga0_0_0 (w14 : Int32) g7) ∧ (zPcN fa0_5_0 ia0_5_1.toInt ia0_0_3.toInt ia0_0_9.toInt ia0_0_11_0 ia0_0_11_1 ia0_0_11_2 ia0_0_11_3 (0 : Int32) (0 : Int32) ((-9) : Int32) (0 : Int32))) := by exact ⟨z_pcG hy1_2 (by omega) hy4po.1, z_pdG hy1_2 (by omega) hy4po.2.1, z_pgG hy1_2 (by omega) hy4po.2.2, z_pnG hy1_2 (by omega)⟩
    exact W.iret (v := y4) hx hb hr (fun t ht hW => ⟨⟨y4, (((fun k => [0, 0, (-9), 0, 0, w14, w15, w16].getD k 0, fun k => [f8, f9, f10, f11, f12, f13].getD k (fun _ => 0)), fun k => [g7].getD k (fun _ => (none, 0, 0))), pw6), rfl, (show (∀ k, 0 ≤ (f12 k).toInt ∧ (f12 k).toInt ≤ 4) ∧ (∀ k, (-48) ≤ (f13 k).toInt ∧ (f13 k).toInt ≤ 207) ∧ ((-2147483648) ≤ (0 : Int32).toInt ∧ (0 : Int32).toInt ≤ 2147483647) ∧ ((-2147483648) ≤ (0 : Int32).toInt ∧ (0 : Int32).toInt ≤ 2147483647) ∧ ((-2147483648) ≤ ((-9) : Int32).toInt ∧ ((-9) : Int32).toInt ≤ 2147483647) ∧ ((-2147483648) ≤ (0 : Int32).toInt ∧ (0 : Int32).toInt ≤ 2147483647) ∧ ((-2147483648) ≤ (0 : Int32).toInt ∧ (0 : Int32).toInt ≤ 2147483647) ∧ (0 ≤ (w14 : Int32).toInt ∧ (w14 : Int32).toInt ≤ 5) ∧ ((-2147483648) ≤ (w15 : Int32).toInt ∧ (w15 : Int32).toInt ≤ 2147483647) ∧ (0 ≤ (w16 : Int32).toInt ∧ (w16 : Int32).toInt ≤ 12) ∧ (zPw pw6) ∧ (zMo pw pw6) ∧ (zHp (zPLs pw6) g7) ∧ ((-2079) ≤ (y4 : Int32).toInt ∧ (y4 : Int32).toInt ≤ 80) ∧ (((zPcC fa0_5_0 ia0_5_1.toInt ia0_0_3 ia0_0_9 fa0_0_1 fa0_0_7 (y4 : Int32) (w14 : Int32) (w16 : Int32) f8 f13) ∧ (zPcD fa0_5_0 ia0_5_1.toInt ia0_0_3 ia0_0_9 ia0_0_8 fa0_0_1 fa0_0_7 fa0_0_2 fa0_0_4 fa0_0_5 fa0_0_6 (w14 : Int32) (w16 : Int32) (w15 : Int32) f8 f13 f9 f10 f11 f12) ∧ (zPcG fa0_5_0 ia0_5_1.toInt ia0_0_3 ia0_0_9 ga0_0_0 (w14 : Int32) g7) ∧ (zPcN fa0_5_0 ia0_5_1.toInt ia0_0_3.toInt ia0_0_9.toInt ia0_0_11_0 ia0_0_11_1 ia0_0_11_2 ia0_0_11_3 (0 : Int32) (0 : Int32) ((-9) : Int32) (0 : Int32)))) from ⟨hBf12, hBf13, ⟨(by decide), (by decide)⟩, ⟨(by decide), (by decide)⟩, ⟨(by decide), (by decide)⟩, ⟨(by decide), (by decide)⟩, ⟨(by decide), (by decide)⟩, ⟨hw14l, hw14h⟩, ⟨hw15l, hw15h⟩, ⟨hw16l, hw16h⟩, hpwpw6, hmopw6, hPLg7_pw6, ⟨by first | decide | omega, by first | decide | omega⟩, hpo⟩), by rw [ht]; exact hP9, hD9⟩, hS.F ht⟩) hS.2.2 dX11_piece_47
