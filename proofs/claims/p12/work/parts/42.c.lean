theorem dX11_count_0 : decode cX11_count 0 = .ok (.iload_n 1, 1) := by decide +kernel
theorem dX11_count_1 : decode cX11_count 1 = .ok (.tableswitch 114 0 7 #[47, 55, 63, 74, 85, 93, 101, 106], 47) := by decide +kernel
theorem dX11_count_48 : decode cX11_count 48 = .ok (.aload_n 0, 1) := by decide +kernel
theorem dX11_count_49 : decode cX11_count 49 = .ok (.getfield 10, 3) := by decide +kernel
theorem dX11_count_52 : decode cX11_count 52 = .ok (.getfield 203, 3) := by decide +kernel
theorem dX11_count_55 : decode cX11_count 55 = .ok (.ireturn, 1) := by decide +kernel
theorem dX11_count_56 : decode cX11_count 56 = .ok (.aload_n 0, 1) := by decide +kernel
theorem dX11_count_57 : decode cX11_count 57 = .ok (.getfield 10, 3) := by decide +kernel
theorem dX11_count_60 : decode cX11_count 60 = .ok (.getfield 137, 3) := by decide +kernel
theorem dX11_count_63 : decode cX11_count 63 = .ok (.ireturn, 1) := by decide +kernel
theorem dX11_count_64 : decode cX11_count 64 = .ok (.aload_n 0, 1) := by decide +kernel
theorem dX11_count_65 : decode cX11_count 65 = .ok (.getfield 10, 3) := by decide +kernel
theorem dX11_count_68 : decode cX11_count 68 = .ok (.getfield 71, 3) := by decide +kernel
theorem dX11_count_71 : decode cX11_count 71 = .ok (.getfield 147, 3) := by decide +kernel
theorem dX11_count_74 : decode cX11_count 74 = .ok (.ireturn, 1) := by decide +kernel
theorem dX11_count_75 : decode cX11_count 75 = .ok (.aload_n 0, 1) := by decide +kernel
theorem dX11_count_76 : decode cX11_count 76 = .ok (.getfield 10, 3) := by decide +kernel
theorem dX11_count_79 : decode cX11_count 79 = .ok (.getfield 71, 3) := by decide +kernel
theorem dX11_count_82 : decode cX11_count 82 = .ok (.getfield 157, 3) := by decide +kernel
theorem dX11_count_85 : decode cX11_count 85 = .ok (.ireturn, 1) := by decide +kernel
theorem dX11_count_86 : decode cX11_count 86 = .ok (.aload_n 0, 1) := by decide +kernel
theorem dX11_count_87 : decode cX11_count 87 = .ok (.getfield 10, 3) := by decide +kernel
theorem dX11_count_90 : decode cX11_count 90 = .ok (.invokevirtual 241, 3) := by decide +kernel
theorem dX11_count_93 : decode cX11_count 93 = .ok (.ireturn, 1) := by decide +kernel
theorem dX11_count_94 : decode cX11_count 94 = .ok (.aload_n 0, 1) := by decide +kernel
theorem dX11_count_95 : decode cX11_count 95 = .ok (.getfield 38, 3) := by decide +kernel
theorem dX11_count_98 : decode cX11_count 98 = .ok (.getfield 57, 3) := by decide +kernel
theorem dX11_count_101 : decode cX11_count 101 = .ok (.ireturn, 1) := by decide +kernel
theorem dX11_count_102 : decode cX11_count 102 = .ok (.aload_n 0, 1) := by decide +kernel
theorem dX11_count_103 : decode cX11_count 103 = .ok (.getfield 46, 3) := by decide +kernel
theorem dX11_count_106 : decode cX11_count 106 = .ok (.ireturn, 1) := by decide +kernel
theorem dX11_count_107 : decode cX11_count 107 = .ok (.aload_n 0, 1) := by decide +kernel
theorem dX11_count_108 : decode cX11_count 108 = .ok (.getfield 10, 3) := by decide +kernel
theorem dX11_count_111 : decode cX11_count 111 = .ok (.getfield 124, 3) := by decide +kernel
theorem dX11_count_114 : decode cX11_count 114 = .ok (.ireturn, 1) := by decide +kernel
theorem dX11_count_115 : decode cX11_count 115 = .ok (.iload_n 1, 1) := by decide +kernel
theorem dX11_count_116 : decode cX11_count 116 = .ok (.bipush 11, 2) := by decide +kernel
theorem dX11_count_118 : decode cX11_count 118 = .ok (.if_icmp .lt 21, 3) := by decide +kernel
theorem dX11_count_121 : decode cX11_count 121 = .ok (.iload_n 1, 1) := by decide +kernel
theorem dX11_count_122 : decode cX11_count 122 = .ok (.bipush 16, 2) := by decide +kernel
theorem dX11_count_124 : decode cX11_count 124 = .ok (.if_icmp .gt 15, 3) := by decide +kernel
theorem dX11_count_127 : decode cX11_count 127 = .ok (.aload_n 0, 1) := by decide +kernel
theorem dX11_count_128 : decode cX11_count 128 = .ok (.getfield 50, 3) := by decide +kernel
theorem dX11_count_131 : decode cX11_count 131 = .ok (.iload_n 1, 1) := by decide +kernel
theorem dX11_count_132 : decode cX11_count 132 = .ok (.bipush 10, 2) := by decide +kernel
theorem dX11_count_134 : decode cX11_count 134 = .ok (.isub, 1) := by decide +kernel
theorem dX11_count_135 : decode cX11_count 135 = .ok (.iaload, 1) := by decide +kernel
theorem dX11_count_136 : decode cX11_count 136 = .ok (.goto 5, 3) := by decide +kernel
theorem dX11_count_139 : decode cX11_count 139 = .ok (.bipush (-9), 2) := by decide +kernel
theorem dX11_count_141 : decode cX11_count 141 = .ok (.ireturn, 1) := by decide +kernel
noncomputable def voX11_count : List Cond := [.fieldLink RX11 50 "EachOnHisCue" "refusals" "[I", .fieldLink RX11 10 "EachOnHisCue" "play" "LEachOnHisCue$Play;", .fieldLink RX11 203 "EachOnHisCue$Play" "players" "I", .fieldLink RX11 137 "EachOnHisCue$Play" "lines" "I", .fieldLink RX11 71 "EachOnHisCue$Play" "now" "LEachOnHisCue$Saying;", .fieldLink RX11 147 "EachOnHisCue$Saying" "times" "I", .fieldLink RX11 157 "EachOnHisCue$Saying" "latest" "I", .fieldLink RX11 38 "EachOnHisCue" "letters" "LEachOnHisCue$Letters;", .fieldLink RX11 57 "EachOnHisCue$Letters" "size" "I", .fieldLink RX11 46 "EachOnHisCue" "toldSize" "I", .fieldLink RX11 124 "EachOnHisCue$Play" "lost" "I", .methodLink RX11 241 yX7_allWords, .instanceMethod yX7_allWords, .selects RX7 yX7_allWords yX7_allWords, .initialized RX7]
noncomputable def vsX11_count : List Cond := .code yX11_count cX11_count 2 (some .int) :: (voX11_count ++ (vsX7_allWords ++ (wsX40 ++ (wsX70 ++ (wsX90 ++ (wsX110))))))
theorem zgX11_count : zGd vsX11_count := z_gdC rfl (z_gdA (z_gdO (by decide +kernel) : zGd voX11_count) (z_gdA zgX7_allWords (z_gdA zgX4 (z_gdA zgX7 (z_gdA zgX9 (zgX11))))))
theorem in_X11_count_X4 : ∀ w ∈ wsX40, w ∈ vsX11_count := fun _ h => List.mem_cons_of_mem _ (List.mem_append_right _ (List.mem_append_right _ (List.mem_append_left _ h)))
theorem in_X11_count_X7 : ∀ w ∈ wsX70, w ∈ vsX11_count := fun _ h => List.mem_cons_of_mem _ (List.mem_append_right _ (List.mem_append_right _ (List.mem_append_right _ (List.mem_append_left _ h))))
theorem in_X11_count_X9 : ∀ w ∈ wsX90, w ∈ vsX11_count := fun _ h => List.mem_cons_of_mem _ (List.mem_append_right _ (List.mem_append_right _ (List.mem_append_right _ (List.mem_append_right _ (List.mem_append_left _ h)))))
theorem in_X11_count_X11 : ∀ w ∈ wsX110, w ∈ vsX11_count := fun _ h => List.mem_cons_of_mem _ (List.mem_append_right _ (List.mem_append_right _ (List.mem_append_right _ (List.mem_append_right _ (List.mem_append_right _ (h))))))
theorem gw_X11_count_X7_allWords : GoodIn vsX11_count vsX7_allWords := z_gdI (fun _ h => List.mem_cons_of_mem _ (List.mem_append_right _ (List.mem_append_left _ h))) zgX7_allWords
set_option maxRecDepth 20000 in
theorem gv_X11_count_X7_allWords_241 : GoodIn vsX11_count (wsV RX11 241 RX7 yX7_allWords vsX7_allWords) := goodIn_app (goodIn_of _ (by decide +kernel)) gw_X11_count_X7_allWords
set_option maxHeartbeats 4000000 in
set_option maxRecDepth 100000 in
theorem rX11_count (l : Launch) (dC : Nat → ClassId) (dI : Nat → Nat → Nat) (cI cQ : ClassId) (ha0 ha0_0_6 ha0_0_11 ha0_0 ha0_5 ha0_8 ha0_0_0 ha0_0_1 ha0_0_2 ha0_0_4 ha0_0_5 ha0_0_7 ha0_5_0 ha0_1 ha0_3 ha0_3_0 ha0_6 : Nat) (fa0_0_6 : Nat → Int32) (hBfa0_0_6 : ∀ k, 0 ≤ (fa0_0_6 k).toInt ∧ (fa0_0_6 k).toInt ≤ 4) (ia0_0_11_0 : Int32) (ia0_0_11_1 : Int32) (ia0_0_11_2 : Int32) (ia0_0_11_3 : Int32) (ia0_0_11_4 : Int32) (ia0_0_3 : Int32) (hia0_0_3l : 0 ≤ ia0_0_3.toInt) (hia0_0_3h : ia0_0_3.toInt ≤ 5) (ia0_0_8 : Int32) (ia0_0_9 : Int32) (hia0_0_9l : 0 ≤ ia0_0_9.toInt) (hia0_0_9h : ia0_0_9.toInt ≤ 12) (ia0_0_10 : Int32) (hia0_0_10l : 0 ≤ ia0_0_10.toInt) (hia0_0_10h : ia0_0_10.toInt ≤ 99) (ia0_5_1 : Int32) (hia0_5_1l : 0 ≤ ia0_5_1.toInt) (hia0_5_1h : ia0_5_1.toInt ≤ 80) (fa0_8 : Nat → Int32) (ia0_2 : Int32) (hia0_2l : 0 ≤ ia0_2.toInt) (hia0_2h : ia0_2.toInt ≤ 1) (ia0_7 : Int32) (hia0_7l : 0 ≤ ia0_7.toInt) (hia0_7h : ia0_7.toInt ≤ 12) (p1 : Int32) : Met l yX11_count vsX11_count ({ frames := 1, cells := 0, slots := 0, locals := 22 }) (va_Pc [.ref ha0, .int p1] (zRB dC dI cI cQ [(ha0_0_6, .inl (cI, 12, .inl fa0_0_6)), (ha0_0_11, .inr (9, [.int ia0_0_11_0, .int ia0_0_11_1, .int ia0_0_11_2, .int ia0_0_11_3, .int ia0_0_11_4])), (ha0_0, .inr (7, [.ref ha0_0_0, .ref ha0_0_1, .ref ha0_0_2, .int ia0_0_3, .ref ha0_0_4, .ref ha0_0_5, .ref ha0_0_6, .ref ha0_0_7, .int ia0_0_8, .int ia0_0_9, .int ia0_0_10, .ref ha0_0_11])), (ha0_5, .inr (4, [.ref ha0_5_0, .int ia0_5_1])), (ha0_8, .inl (cI, 7, .inl fa0_8)), (ha0, .inr (11, [.ref ha0_0, .ref ha0_1, .int ia0_2, .ref ha0_3, .ref ha0_3_0, .ref ha0_5, .ref ha0_6, .int ia0_7, .ref ha0_8]))])) (vp_Si (fun r => (-2147483648) ≤ r.toInt ∧ r.toInt ≤ 2147483647 ∧ (zCt9 ia0_0_3.toInt ia0_0_9.toInt ia0_0_11_3.toInt ia0_0_11_2.toInt (zSm fa0_0_6 ia0_0_9.toInt.toNat) ia0_5_1.toInt ia0_7.toInt ia0_0_10.toInt fa0_8 p1.toInt r.toInt))) 0 0 (fun _ => False) := by
  refine Met.ofW (cc := cX11_count) (maxL := 2) (ret := (some .int)) (by decide) rfl ?_
  intro p e s m args below meth c s₁ B hml hv
  obtain ⟨rfl, hP, hZ⟩ := hv
  obtain ⟨hK, hAO, hN⟩ := id hZ
  have hx := B.exec
  have hb := B.bytes
  have hr := B.returns
  have hts := atoms_spec (ws := vsX11_count) B.pre
  have hown : s.vm.findClass RX11 = some m.cls := findClass_of_methodNamed B.named
  have hlocks := B.notSynchronized
  have hlt0 : ((-9) : Int32).toInt = (-9) := by decide
  have hlt1 : ((-6) : Int32).toInt = (-6) := by decide
  have hlt2 : ((-4) : Int32).toInt = (-4) := by decide
  have hlt3 : ((-3) : Int32).toInt = (-3) := by decide
  have hlt4 : ((-2) : Int32).toInt = (-2) := by decide
  have hlt5 : ((-1) : Int32).toInt = (-1) := by decide
  have hlt6 : (0 : Int32).toInt = 0 := by decide
  have hlt7 : (1 : Int32).toInt = 1 := by decide
  have hp1l := z_lo p1
  have hp1h := z_hi p1
  have hl := lv_entry ([.ref ha0, .int p1]) (n := 2) (Nat.le_of_ble_eq_true rfl)
  rw [lg_entry_eq]
  generalize (lg_sl ([.ref ha0, .int p1]) ++ List.replicate (2 - (lg_sl ([.ref ha0, .int p1])).length) Slot.unset).toArray = ls at hl ⊢
  have hl : lv_has ls 2 [(0, .ref ha0), (1, .int p1)] := hl
  refine lv_iload_n hx hb dX11_count_0 rfl (lv_at hl 1 rfl) ?_
  rcases (show p1.toInt < 0 ∨ 7 < p1.toInt ∨ p1.toInt = 0 ∨ p1.toInt = 1 ∨ p1.toInt = 2 ∨ p1.toInt = 3 ∨ p1.toInt = 4 ∨ p1.toInt = 5 ∨ p1.toInt = 6 ∨ p1.toInt = 7 by omega) with hs | hs | hs | hs | hs | hs | hs | hs | hs | hs
  · refine lv_tableOut (tgt := 115) hx hb dX11_count_1 (by omega) (by decide) ?_
    refine lv_iload_n hx hb dX11_count_115 rfl (lv_at hl 1 rfl) ?_
    refine lv_bipush (v := 11) hx hb dX11_count_116 (by decide) ?_
    refine lv_icmp_lt (tgt := 139) hx hb dX11_count_118 (by decide) (fun hc => ?_) (fun hc => ?_)
    · have q1 : p1.toInt < 11 := z_lt rfl (by decide) hc
      refine lv_bipush (v := (-9)) hx hb dX11_count_139 (by decide) ?_
      exact W.iret (v := (-9)) hx hb hr (fun t ht hW => ⟨(-9), rfl, ⟨by first | omega | decide | exact z_lo _, by first | omega | decide | exact z_hi _, (by exact Or.inr (Or.inr (Or.inr (Or.inr (Or.inr (Or.inr (Or.inr (Or.inr (Or.inr (⟨by omega, by decide⟩))))))))))⟩, ht⟩) (fun _ h => absurd h List.not_mem_nil) dX11_count_141
    · have q2 : 11 ≤ p1.toInt := z_nlt rfl (by decide) hc
      exfalso; omega
  · refine lv_tableOut (tgt := 115) hx hb dX11_count_1 (by omega) (by decide) ?_
    refine lv_iload_n hx hb dX11_count_115 rfl (lv_at hl 1 rfl) ?_
    refine lv_bipush (v := 11) hx hb dX11_count_116 (by decide) ?_
    refine lv_icmp_lt (tgt := 139) hx hb dX11_count_118 (by decide) (fun hc => ?_) (fun hc => ?_)
    · have q3 : p1.toInt < 11 := z_lt rfl (by decide) hc
      refine lv_bipush (v := (-9)) hx hb dX11_count_139 (by decide) ?_
      exact W.iret (v := (-9)) hx hb hr (fun t ht hW => ⟨(-9), rfl, ⟨by first | omega | decide | exact z_lo _, by first | omega | decide | exact z_hi _, (by exact Or.inr (Or.inr (Or.inr (Or.inr (Or.inr (Or.inr (Or.inr (Or.inr (Or.inr (⟨by omega, by decide⟩))))))))))⟩, ht⟩) (fun _ h => absurd h List.not_mem_nil) dX11_count_141
    · have q4 : 11 ≤ p1.toInt := z_nlt rfl (by decide) hc
      refine lv_iload_n hx hb dX11_count_121 rfl (lv_at hl 1 rfl) ?_
      refine lv_bipush (v := 16) hx hb dX11_count_122 (by decide) ?_
      refine lv_icmp_gt (tgt := 139) hx hb dX11_count_124 (by decide) (fun hc => ?_) (fun hc => ?_)
      · have q5 : 16 < p1.toInt := z_lt (by decide) rfl hc
        refine lv_bipush (v := (-9)) hx hb dX11_count_139 (by decide) ?_
        exact W.iret (v := (-9)) hx hb hr (fun t ht hW => ⟨(-9), rfl, ⟨by first | omega | decide | exact z_lo _, by first | omega | decide | exact z_hi _, (by exact Or.inr (Or.inr (Or.inr (Or.inr (Or.inr (Or.inr (Or.inr (Or.inr (Or.inr (⟨by omega, by decide⟩))))))))))⟩, ht⟩) (fun _ h => absurd h List.not_mem_nil) dX11_count_141
      · have q6 : p1.toInt ≤ 16 := z_nlt (by decide) rfl hc
        refine lv_aload_n hx hb dX11_count_127 rfl (lv_at hl 0 rfl) ?_
        refine va_get (D := (dC, dI)) (ci := 11) (v := .ref ha0_8) (C := RX11) (T := TX11) (N := 9) hx hb hts in_X11_count_X11 hown hK hP 5 rfl rfl 8 (by decide) (hts (.fieldLink RX11 50 "EachOnHisCue" "refusals" "[I") (by decide +kernel)) (fun _ h9 => h9) rfl dX11_count_128 ?_
        refine lv_iload_n hx hb dX11_count_131 rfl (lv_at hl 1 rfl) ?_
        refine lv_bipush (v := 10) hx hb dX11_count_132 (by decide) ?_
        refine lv_isub hx hb dX11_count_134 ?_
        refine lv_topi (fun y7 ey7 => ?_)
        have hy7 : y7.toInt = p1.toInt - 10 := by rw [ey7]; exact z_sub rfl (by decide) (by omega) (by omega)
        refine va_iald hx hb hK hP 4 0 rfl rfl (z_in (by omega) (by omega)) dX11_count_135 ?_
        refine lv_topi (fun y8 ey8 => ?_)
        have gy8 : y8.toInt = (fa0_8 (y7 : Int32).toNatClampNeg).toInt := by rw [ey8]
        refine lv_goto (tgt := 141) hx hb dX11_count_136 (by decide) ?_
        exact W.iret (v := y8) hx hb hr (fun t ht hW => ⟨y8, rfl, ⟨by first | omega | decide | exact z_lo _, by first | omega | decide | exact z_hi _, (by exact z_ctR (i := y7) (by omega) (by omega) (by omega) ey8 rfl)⟩, ht⟩) (fun _ h => absurd h List.not_mem_nil) dX11_count_141
  · refine lv_tableIn (tgt := 48) hx hb dX11_count_1 (by omega) (by omega) (off := 47) (by rw [hs]; decide) (by decide) ?_
    refine lv_aload_n hx hb dX11_count_48 rfl (lv_at hl 0 rfl) ?_
    refine va_get (D := (dC, dI)) (ci := 11) (v := .ref ha0_0) (C := RX11) (T := TX11) (N := 9) hx hb hts in_X11_count_X11 hown hK hP 5 rfl rfl 0 (by decide) (hts (.fieldLink RX11 10 "EachOnHisCue" "play" "LEachOnHisCue$Play;") (by decide +kernel)) (fun _ h9 => h9) rfl dX11_count_49 ?_
    refine va_get (D := (dC, dI)) (ci := 7) (v := .int ia0_0_3) (C := RX7) (T := TX7) (N := 12) hx hb hts in_X11_count_X7 hown hK hP 2 rfl rfl 3 (by decide) (hts (.fieldLink RX11 203 "EachOnHisCue$Play" "players" "I") (by decide +kernel)) (fun _ h9 => h9) rfl dX11_count_52 ?_
    exact W.iret (v := ia0_0_3) hx hb hr (fun t ht hW => ⟨ia0_0_3, rfl, ⟨by first | omega | decide | exact z_lo _, by first | omega | decide | exact z_hi _, (by first | exact Or.inl ⟨by omega, rfl⟩ | exact Or.inr (Or.inl ⟨by omega, rfl⟩) | exact Or.inr (Or.inr (Or.inl ⟨by omega, rfl⟩)) | exact Or.inr (Or.inr (Or.inr (Or.inl ⟨by omega, rfl⟩))) | exact Or.inr (Or.inr (Or.inr (Or.inr (Or.inr (Or.inl ⟨by omega, rfl⟩))))) | exact Or.inr (Or.inr (Or.inr (Or.inr (Or.inr (Or.inr (Or.inl ⟨by omega, rfl⟩)))))) | exact Or.inr (Or.inr (Or.inr (Or.inr (Or.inr (Or.inr (Or.inr (Or.inl ⟨by omega, rfl⟩))))))))⟩, ht⟩) (fun _ h => absurd h List.not_mem_nil) dX11_count_55
  · refine lv_tableIn (tgt := 56) hx hb dX11_count_1 (by omega) (by omega) (off := 55) (by rw [hs]; decide) (by decide) ?_
    refine lv_aload_n hx hb dX11_count_56 rfl (lv_at hl 0 rfl) ?_
    refine va_get (D := (dC, dI)) (ci := 11) (v := .ref ha0_0) (C := RX11) (T := TX11) (N := 9) hx hb hts in_X11_count_X11 hown hK hP 5 rfl rfl 0 (by decide) (hts (.fieldLink RX11 10 "EachOnHisCue" "play" "LEachOnHisCue$Play;") (by decide +kernel)) (fun _ h9 => h9) rfl dX11_count_57 ?_
    refine va_get (D := (dC, dI)) (ci := 7) (v := .int ia0_0_9) (C := RX7) (T := TX7) (N := 12) hx hb hts in_X11_count_X7 hown hK hP 2 rfl rfl 9 (by decide) (hts (.fieldLink RX11 137 "EachOnHisCue$Play" "lines" "I") (by decide +kernel)) (fun _ h9 => h9) rfl dX11_count_60 ?_
    exact W.iret (v := ia0_0_9) hx hb hr (fun t ht hW => ⟨ia0_0_9, rfl, ⟨by first | omega | decide | exact z_lo _, by first | omega | decide | exact z_hi _, (by first | exact Or.inl ⟨by omega, rfl⟩ | exact Or.inr (Or.inl ⟨by omega, rfl⟩) | exact Or.inr (Or.inr (Or.inl ⟨by omega, rfl⟩)) | exact Or.inr (Or.inr (Or.inr (Or.inl ⟨by omega, rfl⟩))) | exact Or.inr (Or.inr (Or.inr (Or.inr (Or.inr (Or.inl ⟨by omega, rfl⟩))))) | exact Or.inr (Or.inr (Or.inr (Or.inr (Or.inr (Or.inr (Or.inl ⟨by omega, rfl⟩)))))) | exact Or.inr (Or.inr (Or.inr (Or.inr (Or.inr (Or.inr (Or.inr (Or.inl ⟨by omega, rfl⟩))))))))⟩, ht⟩) (fun _ h => absurd h List.not_mem_nil) dX11_count_63
  · refine lv_tableIn (tgt := 64) hx hb dX11_count_1 (by omega) (by omega) (off := 63) (by rw [hs]; decide) (by decide) ?_
    refine lv_aload_n hx hb dX11_count_64 rfl (lv_at hl 0 rfl) ?_
    refine va_get (D := (dC, dI)) (ci := 11) (v := .ref ha0_0) (C := RX11) (T := TX11) (N := 9) hx hb hts in_X11_count_X11 hown hK hP 5 rfl rfl 0 (by decide) (hts (.fieldLink RX11 10 "EachOnHisCue" "play" "LEachOnHisCue$Play;") (by decide +kernel)) (fun _ h9 => h9) rfl dX11_count_65 ?_
    refine va_get (D := (dC, dI)) (ci := 7) (v := .ref ha0_0_11) (C := RX7) (T := TX7) (N := 12) hx hb hts in_X11_count_X7 hown hK hP 2 rfl rfl 11 (by decide) (hts (.fieldLink RX11 71 "EachOnHisCue$Play" "now" "LEachOnHisCue$Saying;") (by decide +kernel)) (fun _ h9 => h9) rfl dX11_count_68 ?_
    refine va_get (D := (dC, dI)) (ci := 9) (v := .int ia0_0_11_3) (C := RX9) (T := TX9) (N := 5) hx hb hts in_X11_count_X9 hown hK hP 1 rfl rfl 3 (by decide) (hts (.fieldLink RX11 147 "EachOnHisCue$Saying" "times" "I") (by decide +kernel)) (fun _ h9 => h9) rfl dX11_count_71 ?_
    exact W.iret (v := ia0_0_11_3) hx hb hr (fun t ht hW => ⟨ia0_0_11_3, rfl, ⟨by first | omega | decide | exact z_lo _, by first | omega | decide | exact z_hi _, (by first | exact Or.inl ⟨by omega, rfl⟩ | exact Or.inr (Or.inl ⟨by omega, rfl⟩) | exact Or.inr (Or.inr (Or.inl ⟨by omega, rfl⟩)) | exact Or.inr (Or.inr (Or.inr (Or.inl ⟨by omega, rfl⟩))) | exact Or.inr (Or.inr (Or.inr (Or.inr (Or.inr (Or.inl ⟨by omega, rfl⟩))))) | exact Or.inr (Or.inr (Or.inr (Or.inr (Or.inr (Or.inr (Or.inl ⟨by omega, rfl⟩)))))) | exact Or.inr (Or.inr (Or.inr (Or.inr (Or.inr (Or.inr (Or.inr (Or.inl ⟨by omega, rfl⟩))))))))⟩, ht⟩) (fun _ h => absurd h List.not_mem_nil) dX11_count_74
  · refine lv_tableIn (tgt := 75) hx hb dX11_count_1 (by omega) (by omega) (off := 74) (by rw [hs]; decide) (by decide) ?_
    refine lv_aload_n hx hb dX11_count_75 rfl (lv_at hl 0 rfl) ?_
    refine va_get (D := (dC, dI)) (ci := 11) (v := .ref ha0_0) (C := RX11) (T := TX11) (N := 9) hx hb hts in_X11_count_X11 hown hK hP 5 rfl rfl 0 (by decide) (hts (.fieldLink RX11 10 "EachOnHisCue" "play" "LEachOnHisCue$Play;") (by decide +kernel)) (fun _ h9 => h9) rfl dX11_count_76 ?_
    refine va_get (D := (dC, dI)) (ci := 7) (v := .ref ha0_0_11) (C := RX7) (T := TX7) (N := 12) hx hb hts in_X11_count_X7 hown hK hP 2 rfl rfl 11 (by decide) (hts (.fieldLink RX11 71 "EachOnHisCue$Play" "now" "LEachOnHisCue$Saying;") (by decide +kernel)) (fun _ h9 => h9) rfl dX11_count_79 ?_
    refine va_get (D := (dC, dI)) (ci := 9) (v := .int ia0_0_11_2) (C := RX9) (T := TX9) (N := 5) hx hb hts in_X11_count_X9 hown hK hP 1 rfl rfl 2 (by decide) (hts (.fieldLink RX11 157 "EachOnHisCue$Saying" "latest" "I") (by decide +kernel)) (fun _ h9 => h9) rfl dX11_count_82 ?_
    exact W.iret (v := ia0_0_11_2) hx hb hr (fun t ht hW => ⟨ia0_0_11_2, rfl, ⟨by first | omega | decide | exact z_lo _, by first | omega | decide | exact z_hi _, (by first | exact Or.inl ⟨by omega, rfl⟩ | exact Or.inr (Or.inl ⟨by omega, rfl⟩) | exact Or.inr (Or.inr (Or.inl ⟨by omega, rfl⟩)) | exact Or.inr (Or.inr (Or.inr (Or.inl ⟨by omega, rfl⟩))) | exact Or.inr (Or.inr (Or.inr (Or.inr (Or.inr (Or.inl ⟨by omega, rfl⟩))))) | exact Or.inr (Or.inr (Or.inr (Or.inr (Or.inr (Or.inr (Or.inl ⟨by omega, rfl⟩)))))) | exact Or.inr (Or.inr (Or.inr (Or.inr (Or.inr (Or.inr (Or.inr (Or.inl ⟨by omega, rfl⟩))))))))⟩, ht⟩) (fun _ h => absurd h List.not_mem_nil) dX11_count_85
  · refine lv_tableIn (tgt := 86) hx hb dX11_count_1 (by omega) (by omega) (off := 85) (by rw [hs]; decide) (by decide) ?_
    refine lv_aload_n hx hb dX11_count_86 rfl (lv_at hl 0 rfl) ?_
    refine va_get (D := (dC, dI)) (ci := 11) (v := .ref ha0_0) (C := RX11) (T := TX11) (N := 9) hx hb hts in_X11_count_X11 hown hK hP 5 rfl rfl 0 (by decide) (hts (.fieldLink RX11 10 "EachOnHisCue" "play" "LEachOnHisCue$Play;") (by decide +kernel)) (fun _ h9 => h9) rfl dX11_count_87 ?_
    refine z_rdi (va_runV (As := []) (rest := []) ⟨hx, hb, hml, hown, hts⟩ (rX7_allWords l dC dI cI cQ ha0_0 ha0_0_6 ha0_0_0 ha0_0_1 ha0_0_2 ha0_0_4 ha0_0_5 ha0_0_7 ha0_0_11 fa0_0_6 hBfa0_0_6 ia0_0_3 hia0_0_3l hia0_0_3h ia0_0_8 ia0_0_9 hia0_0_9l hia0_0_9h ia0_0_10 hia0_0_10l hia0_0_10h) (cwV 0 hts gv_X11_count_X7_allWords_241 rfl rfl rfl (by decide +kernel) ⟨Nat.le_of_ble_eq_true rfl, Nat.le_of_ble_eq_true rfl⟩) ⟨z_blindR, va_recv hK hP (ci := 7) (q0 := 2) rfl rfl, z_preR hZ hP [0, 2] rfl⟩ rfl rfl hl.1 rfl (lv_room (Nat.le_of_ble_eq_true rfl)) dX11_count_90 ⟨Nat.le_of_ble_eq_true rfl, Nat.le_of_ble_eq_true rfl⟩) (fun y9 hy9 => ?_)
    obtain ⟨hy9_0, hy9_1, hy9_2⟩ := hy9
    exact W.iret (v := y9) hx hb hr (fun t ht hW => ⟨y9, rfl, ⟨by first | omega | decide | exact z_lo _, by first | omega | decide | exact z_hi _, (by exact Or.inr (Or.inr (Or.inr (Or.inr (Or.inl ⟨by omega, hy9_2⟩)))))⟩, ht⟩) (fun _ h => absurd h List.not_mem_nil) dX11_count_93
  · refine lv_tableIn (tgt := 94) hx hb dX11_count_1 (by omega) (by omega) (off := 93) (by rw [hs]; decide) (by decide) ?_
    refine lv_aload_n hx hb dX11_count_94 rfl (lv_at hl 0 rfl) ?_
    refine va_get (D := (dC, dI)) (ci := 11) (v := .ref ha0_5) (C := RX11) (T := TX11) (N := 9) hx hb hts in_X11_count_X11 hown hK hP 5 rfl rfl 5 (by decide) (hts (.fieldLink RX11 38 "EachOnHisCue" "letters" "LEachOnHisCue$Letters;") (by decide +kernel)) (fun _ h9 => h9) rfl dX11_count_95 ?_
    refine va_get (D := (dC, dI)) (ci := 4) (v := .int ia0_5_1) (C := RX4) (T := TX4) (N := 2) hx hb hts in_X11_count_X4 hown hK hP 3 rfl rfl 1 (by decide) (hts (.fieldLink RX11 57 "EachOnHisCue$Letters" "size" "I") (by decide +kernel)) (fun _ h9 => h9) rfl dX11_count_98 ?_
    exact W.iret (v := ia0_5_1) hx hb hr (fun t ht hW => ⟨ia0_5_1, rfl, ⟨by first | omega | decide | exact z_lo _, by first | omega | decide | exact z_hi _, (by first | exact Or.inl ⟨by omega, rfl⟩ | exact Or.inr (Or.inl ⟨by omega, rfl⟩) | exact Or.inr (Or.inr (Or.inl ⟨by omega, rfl⟩)) | exact Or.inr (Or.inr (Or.inr (Or.inl ⟨by omega, rfl⟩))) | exact Or.inr (Or.inr (Or.inr (Or.inr (Or.inr (Or.inl ⟨by omega, rfl⟩))))) | exact Or.inr (Or.inr (Or.inr (Or.inr (Or.inr (Or.inr (Or.inl ⟨by omega, rfl⟩)))))) | exact Or.inr (Or.inr (Or.inr (Or.inr (Or.inr (Or.inr (Or.inr (Or.inl ⟨by omega, rfl⟩))))))))⟩, ht⟩) (fun _ h => absurd h List.not_mem_nil) dX11_count_101
  · refine lv_tableIn (tgt := 102) hx hb dX11_count_1 (by omega) (by omega) (off := 101) (by rw [hs]; decide) (by decide) ?_
    refine lv_aload_n hx hb dX11_count_102 rfl (lv_at hl 0 rfl) ?_
    refine va_get (D := (dC, dI)) (ci := 11) (v := .int ia0_7) (C := RX11) (T := TX11) (N := 9) hx hb hts in_X11_count_X11 hown hK hP 5 rfl rfl 7 (by decide) (hts (.fieldLink RX11 46 "EachOnHisCue" "toldSize" "I") (by decide +kernel)) (fun _ h9 => h9) rfl dX11_count_103 ?_
    exact W.iret (v := ia0_7) hx hb hr (fun t ht hW => ⟨ia0_7, rfl, ⟨by first | omega | decide | exact z_lo _, by first | omega | decide | exact z_hi _, (by first | exact Or.inl ⟨by omega, rfl⟩ | exact Or.inr (Or.inl ⟨by omega, rfl⟩) | exact Or.inr (Or.inr (Or.inl ⟨by omega, rfl⟩)) | exact Or.inr (Or.inr (Or.inr (Or.inl ⟨by omega, rfl⟩))) | exact Or.inr (Or.inr (Or.inr (Or.inr (Or.inr (Or.inl ⟨by omega, rfl⟩))))) | exact Or.inr (Or.inr (Or.inr (Or.inr (Or.inr (Or.inr (Or.inl ⟨by omega, rfl⟩)))))) | exact Or.inr (Or.inr (Or.inr (Or.inr (Or.inr (Or.inr (Or.inr (Or.inl ⟨by omega, rfl⟩))))))))⟩, ht⟩) (fun _ h => absurd h List.not_mem_nil) dX11_count_106
  · refine lv_tableIn (tgt := 107) hx hb dX11_count_1 (by omega) (by omega) (off := 106) (by rw [hs]; decide) (by decide) ?_
    refine lv_aload_n hx hb dX11_count_107 rfl (lv_at hl 0 rfl) ?_
    refine va_get (D := (dC, dI)) (ci := 11) (v := .ref ha0_0) (C := RX11) (T := TX11) (N := 9) hx hb hts in_X11_count_X11 hown hK hP 5 rfl rfl 0 (by decide) (hts (.fieldLink RX11 10 "EachOnHisCue" "play" "LEachOnHisCue$Play;") (by decide +kernel)) (fun _ h9 => h9) rfl dX11_count_108 ?_
    refine va_get (D := (dC, dI)) (ci := 7) (v := .int ia0_0_10) (C := RX7) (T := TX7) (N := 12) hx hb hts in_X11_count_X7 hown hK hP 2 rfl rfl 10 (by decide) (hts (.fieldLink RX11 124 "EachOnHisCue$Play" "lost" "I") (by decide +kernel)) (fun _ h9 => h9) rfl dX11_count_111 ?_
    exact W.iret (v := ia0_0_10) hx hb hr (fun t ht hW => ⟨ia0_0_10, rfl, ⟨by first | omega | decide | exact z_lo _, by first | omega | decide | exact z_hi _, (by first | exact Or.inl ⟨by omega, rfl⟩ | exact Or.inr (Or.inl ⟨by omega, rfl⟩) | exact Or.inr (Or.inr (Or.inl ⟨by omega, rfl⟩)) | exact Or.inr (Or.inr (Or.inr (Or.inl ⟨by omega, rfl⟩))) | exact Or.inr (Or.inr (Or.inr (Or.inr (Or.inr (Or.inl ⟨by omega, rfl⟩))))) | exact Or.inr (Or.inr (Or.inr (Or.inr (Or.inr (Or.inr (Or.inl ⟨by omega, rfl⟩)))))) | exact Or.inr (Or.inr (Or.inr (Or.inr (Or.inr (Or.inr (Or.inr (Or.inl ⟨by omega, rfl⟩))))))))⟩, ht⟩) (fun _ h => absurd h List.not_mem_nil) dX11_count_114
