theorem dX11_power_0 : decode cX11_power 0 = .ok (.lconst 1, 1) := by decide +kernel
theorem dX11_power_1 : decode cX11_power 1 = .ok (.lstore_n 2, 1) := by decide +kernel
theorem dX11_power_2 : decode cX11_power 2 = .ok (.iconst 0, 1) := by decide +kernel
theorem dX11_power_3 : decode cX11_power 3 = .ok (.istore 4, 2) := by decide +kernel
theorem dX11_power_5 : decode cX11_power 5 = .ok (.iload 4, 2) := by decide +kernel
theorem dX11_power_7 : decode cX11_power 7 = .ok (.iload_n 1, 1) := by decide +kernel
theorem dX11_power_8 : decode cX11_power 8 = .ok (.if_icmp .ge 14, 3) := by decide +kernel
theorem dX11_power_11 : decode cX11_power 11 = .ok (.lload_n 2, 1) := by decide +kernel
theorem dX11_power_12 : decode cX11_power 12 = .ok (.iload_n 0, 1) := by decide +kernel
theorem dX11_power_13 : decode cX11_power 13 = .ok (.i2l, 1) := by decide +kernel
theorem dX11_power_14 : decode cX11_power 14 = .ok (.lmul, 1) := by decide +kernel
theorem dX11_power_15 : decode cX11_power 15 = .ok (.lstore_n 2, 1) := by decide +kernel
theorem dX11_power_16 : decode cX11_power 16 = .ok (.iinc 4 1, 3) := by decide +kernel
theorem dX11_power_19 : decode cX11_power 19 = .ok (.goto (-14), 3) := by decide +kernel
theorem dX11_power_22 : decode cX11_power 22 = .ok (.lload_n 2, 1) := by decide +kernel
theorem dX11_power_23 : decode cX11_power 23 = .ok (.lreturn, 1) := by decide +kernel
noncomputable def vsX11_power : List Cond := .code yX11_power cX11_power 5 (some .long) :: (([] : List Cond))
set_option maxHeartbeats 4000000 in
set_option maxRecDepth 100000 in
theorem rX11_power (l : Launch) (dC : Nat → ClassId) (dI : Nat → Nat → Nat) (cI cQ : ClassId) (p0 : Int32) (p1 : Int32) (hp1l : (-2147483648) ≤ p1.toInt) (hp1h : p1.toInt ≤ 11) : Met l yX11_power vsX11_power ({ frames := 0, cells := 0, slots := 0, locals := 0 }) (va_Pc [.int p0, .int p1] (zRB dC dI cI cQ [])) (vp_Sl (fun _ => True)) 0 0 (fun _ => False) := by
  refine Met.ofW (cc := cX11_power) (maxL := 5) (ret := (some .long)) (by decide) rfl ?_
  intro p e s m args below meth c s₁ B hml hv
  obtain ⟨rfl, hP, hZ⟩ := hv
  obtain ⟨hK, hAO, hN⟩ := id hZ
  have hx := B.exec
  have hb := B.bytes
  have hr := B.returns
  have hts := atoms_spec (ws := vsX11_power) B.pre
  have hown : s.vm.findClass RX11 = some m.cls := findClass_of_methodNamed B.named
  have hlocks := B.notSynchronized
  have hp0l := z_lo p0
  have hp0h := z_hi p0
  have hl := lv_entry ([.int p0, .int p1]) (n := 5) (Nat.le_of_ble_eq_true rfl)
  rw [lg_entry_eq]
  generalize (lg_sl ([.int p0, .int p1]) ++ List.replicate (5 - (lg_sl ([.int p0, .int p1])).length) Slot.unset).toArray = ls at hl ⊢
  have hl : lv_has ls 5 [(0, .int p0), (1, .int p1)] := hl
  refine lv_lconst (v := 1) hx hb dX11_power_0 (by decide) ?_
  refine lv_lstore_n (lv' := [(2, .long 1), (0, .int p0), (1, .int p1)]) hx hb dX11_power_1 rfl hl (by decide) rfl (fun ls hl => ?_)
  refine lv_iconst (v := 0) hx hb dX11_power_2 (by decide) ?_
  refine lv_istore (lv' := [(4, .int 0), (2, .long 1), (0, .int p0), (1, .int p1)]) hx hb dX11_power_3 hl (by decide) rfl (fun ls hl => ?_)
  have hL33 : ∀ (n : Nat) (v1 : Int32) (v2 : Int64) (ls : Array Slot), 0 ≤ v1.toInt → v1.toInt ≤ 11 → (11 - v1.toInt).toNat < n → lv_has ls 5 [(4, .int v1), (2, .long v2), (0, .int p0), (1, .int p1)] → W p l e (headSpec vsX11_power ({ frames := 0, cells := 0, slots := 0, locals := 0 })).room s m ([.int p0, .int p1] : List Value).toArray below meth c s.heap [] 0 0 (MQ below (vp_Sl (fun _ => True)) ([.int p0, .int p1] : List Value).toArray s 0 0 (fun _ => False)) (F0 m 5 ls []) := by
    intro n
    induction n with
    | zero =>
      intro v1 v2 ls hi34_0 hi34_1 hi34_m hl
      exact absurd hi34_m (Nat.not_lt_zero _)
    | succ n ih =>
      intro v1 v2 ls hi34_0 hi34_1 hi34_m hl
      have ih35 := ih
      refine lv_iload hx hb dX11_power_5 (lv_at hl 0 rfl) ?_
      refine lv_iload_n hx hb dX11_power_7 rfl (lv_at hl 3 rfl) ?_
      refine lv_icmp_ge (tgt := 22) hx hb dX11_power_8 (by decide) (fun hc => ?_) (fun hc => ?_)
      · have q36 : p1.toInt ≤ v1.toInt := z_le rfl rfl hc
        refine lv_lload_n hx hb dX11_power_22 rfl (lv_at hl 1 rfl) ?_
        exact W.lret (v := v2) hx hb hr (fun t ht hW => ⟨v2, rfl, trivial, ht⟩) (fun _ h => absurd h List.not_mem_nil) dX11_power_23
      · have q37 : v1.toInt < p1.toInt := z_nle rfl rfl hc
        refine lv_lload_n hx hb dX11_power_11 rfl (lv_at hl 1 rfl) ?_
        refine lv_iload_n hx hb dX11_power_12 rfl (lv_at hl 2 rfl) ?_
        refine lv_i2l (v := p0.toInt64) hx hb dX11_power_13 rfl ?_
        refine lv_topl (fun y38 ey38 => ?_)
        refine lv_lmul hx hb dX11_power_14 ?_
        refine lv_topl (fun y39 ey39 => ?_)
        refine lv_lstore_n (lv' := [(2, .long y39), (4, .int v1), (0, .int p0), (1, .int p1)]) hx hb dX11_power_15 rfl hl (by decide) rfl (fun ls hl => ?_)
        obtain ⟨y40, ey40⟩ : ∃ y : Int32, y = v1 + 1 := ⟨_, rfl⟩
        refine lv_iinc (v := y40) (lv' := [(4, .int y40), (2, .long y39), (0, .int p0), (1, .int p1)]) hx hb dX11_power_16 hl (k := 1) rfl (by rw [ey40]; rfl) (by decide) rfl (fun ls hl => ?_)
        have hy40 : y40.toInt = v1.toInt + 1 := by rw [ey40]; exact z_add rfl (by decide) (by omega) (by omega)
        refine lv_goto (tgt := 5) hx hb dX11_power_19 (by decide) ?_
        exact ih35 y40 y39 ls (by first | omega | decide | exact z_lo _ | exact z_hi _) (by first | omega | decide | exact z_lo _ | exact z_hi _) (by omega) (lv_sub hl [0, 1, 2, 3] rfl)
  exact hL33 ((11 - (0 : Int32).toInt).toNat + 1) 0 1 ls (by first | omega | decide | exact z_lo _ | exact z_hi _) (by first | omega | decide | exact z_lo _ | exact z_hi _) (by omega) hl
