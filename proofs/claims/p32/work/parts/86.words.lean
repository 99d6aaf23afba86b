noncomputable def vsL_0 : List Cond := [.instantiable RX0 1, .instantiable RX1 1, .instantiable RX2 3, .instantiable RX3 1, .instantiable RX4 2, .instantiable RX5 2, .instantiable RX6 1, .instantiable RX7 12, .instantiable RX8 1, .instantiable RX9 5, .instantiable RX10 1, .instantiable RX11 9, .instantiable RX12 38, .arrayClass .int, .classLink RL 7 RX11, .initialized RX11, .methodLink RL 9 yX11_init, .instanceMethod yX11_init, .classLink RL 10 RX12, .initialized RX12, .methodLink RL 12 yX12_init, .instanceMethod yX12_init, .methodLink RL 13 yX11_feed, .instanceMethod yX11_feed, .selects RX11 yX11_feed yX11_feed, .methodLink RL 17 yX12_feed, .instanceMethod yX12_feed, .selects RX12 yX12_feed yX12_feed, .methodLink RL 18 yX11_piece, .instanceMethod yX11_piece, .selects RX11 yX11_piece yX11_piece, .methodLink RL 22 yX12_piece, .instanceMethod yX12_piece, .selects RX12 yX12_piece yX12_piece, .methodLink RL 23 yX11_player, .instanceMethod yX11_player, .selects RX11 yX11_player yX11_player, .methodLink RL 27 yX12_player, .instanceMethod yX12_player, .selects RX12 yX12_player yX12_player]
noncomputable def vsL_1 : List Cond := [.methodLink RL 28 yX11_line, .instanceMethod yX11_line, .selects RX11 yX11_line yX11_line, .methodLink RL 31 yX12_line, .instanceMethod yX12_line, .selects RX12 yX12_line yX12_line, .methodLink RL 32 yX11_cue, .instanceMethod yX11_cue, .selects RX11 yX11_cue yX11_cue, .methodLink RL 35 yX12_cue, .instanceMethod yX12_cue, .selects RX12 yX12_cue yX12_cue, .methodLink RL 36 yX11_speed, .instanceMethod yX11_speed, .selects RX11 yX11_speed yX11_speed, .methodLink RL 39 yX12_speed, .instanceMethod yX12_speed, .selects RX12 yX12_speed yX12_speed, .methodLink RL 40 yX11_lose, .instanceMethod yX11_lose, .selects RX11 yX11_lose yX11_lose, .methodLink RL 43 yX12_lose, .instanceMethod yX12_lose, .selects RX12 yX12_lose yX12_lose, .methodLink RL 44 yX11_comes, .instanceMethod yX11_comes, .selects RX11 yX11_comes yX11_comes, .methodLink RL 47 yX12_comes, .instanceMethod yX12_comes, .selects RX12 yX12_comes yX12_comes, .methodLink RL 48 yX11_say, .instanceMethod yX11_say, .selects RX11 yX11_say yX11_say, .methodLink RL 51 yX12_say, .instanceMethod yX12_say, .selects RX12 yX12_say yX12_say, .methodLink RL 52 yX11_again, .instanceMethod yX11_again, .selects RX11 yX11_again yX11_again, .methodLink RL 55 yX12_again]
noncomputable def vsL_2 : List Cond := [.instanceMethod yX12_again, .selects RX12 yX12_again yX12_again, .methodLink RL 56 yX11_night, .instanceMethod yX11_night, .selects RX11 yX11_night yX11_night, .methodLink RL 59 yX12_night, .instanceMethod yX12_night, .selects RX12 yX12_night yX12_night, .methodLink RL 60 yX11_goes, .instanceMethod yX11_goes, .selects RX11 yX11_goes yX11_goes, .methodLink RL 63 yX12_goes, .instanceMethod yX12_goes, .selects RX12 yX12_goes yX12_goes, .methodLink RL 64 yX11_follow, .instanceMethod yX11_follow, .selects RX11 yX11_follow yX11_follow, .methodLink RL 67 yX12_follow, .instanceMethod yX12_follow, .selects RX12 yX12_follow yX12_follow, .methodLink RL 68 yX11_net, .instanceMethod yX11_net, .selects RX11 yX11_net yX11_net, .methodLink RL 71 yX12_net, .instanceMethod yX12_net, .selects RX12 yX12_net yX12_net, .methodLink RL 72 yX11_mend, .instanceMethod yX11_mend, .selects RX11 yX11_mend yX11_mend, .methodLink RL 75 yX12_mend, .instanceMethod yX12_mend, .selects RX12 yX12_mend yX12_mend, .methodLink RL 76 yX11_mendOf, .instanceMethod yX11_mendOf, .selects RX11 yX11_mendOf yX11_mendOf, .methodLink RL 79 yX12_mendOf, .instanceMethod yX12_mendOf, .selects RX12 yX12_mendOf yX12_mendOf, .methodLink RL 80 yX11_prompted, .instanceMethod yX11_prompted]
noncomputable def vsL_3 : List Cond := [.selects RX11 yX11_prompted yX11_prompted, .methodLink RL 83 yX12_prompted, .instanceMethod yX12_prompted, .selects RX12 yX12_prompted yX12_prompted, .methodLink RL 84 yX11_home, .instanceMethod yX11_home, .selects RX11 yX11_home yX11_home, .methodLink RL 88 yX12_home, .instanceMethod yX12_home, .selects RX12 yX12_home yX12_home, .methodLink RL 89 yX11_without, .instanceMethod yX11_without, .selects RX11 yX11_without yX11_without, .methodLink RL 92 yX12_without, .instanceMethod yX12_without, .selects RX12 yX12_without yX12_without, .methodLink RL 93 yX11_leastHarm, .instanceMethod yX11_leastHarm, .selects RX11 yX11_leastHarm yX11_leastHarm, .methodLink RL 96 yX12_leastHarm, .instanceMethod yX12_leastHarm, .selects RX12 yX12_leastHarm yX12_leastHarm, .methodLink RL 97 yX11_joke, .instanceMethod yX11_joke, .selects RX11 yX11_joke yX11_joke, .methodLink RL 100 yX12_joke, .instanceMethod yX12_joke, .selects RX12 yX12_joke yX12_joke, .methodLink RL 101 yX11_stretched, .instanceMethod yX11_stretched, .selects RX11 yX11_stretched yX11_stretched, .methodLink RL 104 yX12_stretched, .instanceMethod yX12_stretched, .selects RX12 yX12_stretched yX12_stretched, .methodLink RL 105 yX11_parts, .instanceMethod yX11_parts, .selects RX11 yX11_parts yX11_parts, .methodLink RL 108 yX12_parts, .instanceMethod yX12_parts, .selects RX12 yX12_parts yX12_parts]
noncomputable def vsL_4 : List Cond := [.methodLink RL 109 yX11_books, .instanceMethod yX11_books, .selects RX11 yX11_books yX11_books, .methodLink RL 112 yX12_books, .instanceMethod yX12_books, .selects RX12 yX12_books yX12_books, .methodLink RL 113 yX11_book, .instanceMethod yX11_book, .selects RX11 yX11_book yX11_book, .methodLink RL 116 yX12_book, .instanceMethod yX12_book, .selects RX12 yX12_book yX12_book, .methodLink RL 117 yX11_row, .instanceMethod yX11_row, .selects RX11 yX11_row yX11_row, .methodLink RL 120 yX12_row, .instanceMethod yX12_row, .selects RX12 yX12_row yX12_row, .methodLink RL 121 yX11_judge, .instanceMethod yX11_judge, .selects RX11 yX11_judge yX11_judge, .methodLink RL 124 yX12_judge, .instanceMethod yX12_judge, .selects RX12 yX12_judge yX12_judge, .methodLink RL 125 yX11_possible, .instanceMethod yX11_possible, .selects RX11 yX11_possible yX11_possible, .methodLink RL 128 yX12_possible, .instanceMethod yX12_possible, .selects RX12 yX12_possible yX12_possible, .methodLink RL 129 yX11_lot, .instanceMethod yX11_lot, .selects RX11 yX11_lot yX11_lot, .methodLink RL 132 yX12_lot, .instanceMethod yX12_lot, .selects RX12 yX12_lot yX12_lot, .methodLink RL 133 yX11_image, .instanceMethod yX11_image, .selects RX11 yX11_image yX11_image, .methodLink RL 136 yX12_image]
noncomputable def vsL_5 : List Cond := [.instanceMethod yX12_image, .selects RX12 yX12_image yX12_image, .methodLink RL 137 yX11_restore, .instanceMethod yX11_restore, .selects RX11 yX11_restore yX11_restore, .methodLink RL 140 yX12_restore, .instanceMethod yX12_restore, .selects RX12 yX12_restore yX12_restore, .methodLink RL 141 yX11_count, .instanceMethod yX11_count, .selects RX11 yX11_count yX11_count, .methodLink RL 144 yX12_count, .instanceMethod yX12_count, .selects RX12 yX12_count yX12_count]
noncomputable def vsLw : List Cond := vsL_0 ++ (vsL_1 ++ (vsL_2 ++ (vsL_3 ++ (vsL_4 ++ (vsL_5)))))
noncomputable def vsLc : List Cond := wsX00 ++ (wsX10 ++ (wsX20 ++ (wsX30 ++ (wsX40 ++ (wsX50 ++ (wsX60 ++ (wsX70 ++ (wsX80 ++ (wsX90 ++ (wsX100 ++ (wsX110 ++ (wsX120))))))))))))
noncomputable def vsLm : List Cond := vsX11_feed ++ (vsX12_feed ++ (vsX11_piece ++ (vsX12_piece ++ (vsX11_player ++ (vsX12_player ++ (vsX11_line ++ (vsX12_line ++ (vsX11_cue ++ (vsX12_cue ++ (vsX11_speed ++ (vsX12_speed ++ (vsX11_lose ++ (vsX12_lose ++ (vsX11_comes ++ (vsX12_comes ++ (vsX11_say ++ (vsX12_say ++ (vsX11_again ++ (vsX12_again ++ (vsX11_night ++ (vsX12_night ++ (vsX11_goes ++ (vsX12_goes ++ (vsX11_follow ++ (vsX12_follow ++ (vsX11_net ++ (vsX12_net ++ (vsX11_mend ++ (vsX12_mend ++ (vsX11_mendOf ++ (vsX12_mendOf ++ (vsX11_prompted ++ (vsX12_prompted ++ (vsX11_home ++ (vsX12_home ++ (vsX11_without ++ (vsX12_without ++ (vsX11_leastHarm ++ (vsX12_leastHarm ++ (vsX11_joke ++ (vsX12_joke ++ (vsX11_stretched ++ (vsX12_stretched ++ (vsX11_parts ++ (vsX12_parts ++ (vsX11_books ++ (vsX12_books ++ (vsX11_book ++ (vsX12_book ++ (vsX11_row ++ (vsX12_row ++ (vsX11_judge ++ (vsX12_judge ++ (vsX11_possible ++ (vsX12_possible ++ (vsX11_lot ++ (vsX12_lot ++ (vsX11_image ++ (vsX12_image ++ (vsX11_restore ++ (vsX12_restore ++ (vsX11_count ++ (vsX12_count ++ (vsX11_init ++ (vsX12_init)))))))))))))))))))))))))))))))))))))))))))))))))))))))))))))))))
noncomputable def vsL : List Cond := vsLw ++ (vsLm ++ vsLc)
def zTbC (c : Nat) : List Cond := match c with
  | 0 => k2_sels lw_privs
  | 1 => tables_1_1
  | 2 => tables_1_2
  | 3 => tables_1_3
  | 4 => tables_1_4
  | _ => tables_1_5
theorem z_tbCI (c : Nat) : ∀ w ∈ zTbC c, w ∈ lw_tbl := by
  intro w h
  unfold zTbC at h
  split at h
  · exact List.mem_append_left _ h
  · exact List.mem_append_right _ (List.mem_append_left _ h)
  · exact List.mem_append_right _ (List.mem_append_right _ (List.mem_append_left _ h))
  · exact List.mem_append_right _ (List.mem_append_right _ (List.mem_append_right _ (List.mem_append_left _ h)))
  · exact List.mem_append_right _ (List.mem_append_right _ (List.mem_append_right _ (List.mem_append_right _ (List.mem_append_left _ h))))
  · exact List.mem_append_right _ (List.mem_append_right _ (List.mem_append_right _ (List.mem_append_right _ (List.mem_append_right _ (h)))))
theorem z_inQ (ws : List Cond) (ps : List (Nat × Nat)) (hp : ws = ps.filterMap (fun p => (zTbC p.1)[p.2]?)) : ∀ w ∈ ws, w ∈ lw_tbl := by
  intro w hw
  rw [hp] at hw
  obtain ⟨i, -, hi⟩ := List.mem_filterMap.mp hw
  exact z_tbCI _ _ (List.mem_of_getElem? hi)
theorem z_inP {big : List Cond} (ws : List Cond) (ps : List Nat) (hp : ws = ps.filterMap (fun i => big[i]?)) : ∀ w ∈ ws, w ∈ big := by
  intro w hw
  rw [hp] at hw
  obtain ⟨i, -, hi⟩ := List.mem_filterMap.mp hw
  exact List.mem_of_getElem? hi
theorem z_fc {a : Cond} {l : List Cond} (h : a ∈ lw_tbl) (hl : ∀ w ∈ l, w ∈ lw_tbl) : ∀ w ∈ a :: l, w ∈ lw_tbl := List.forall_mem_cons.mpr ⟨h, hl⟩
theorem z_fn : ∀ w ∈ ([] : List Cond), w ∈ lw_tbl := fun _ h => by cases h
theorem z_tbI0 : ∀ w ∈ k2_sels lw_privs, w ∈ lw_tbl := fun w h => List.mem_append_left _ h
theorem z_tbI1 : ∀ w ∈ tables_1_1, w ∈ lw_tbl := fun w h => List.mem_append_right _ (List.mem_append_left _ h)
theorem z_tbI2 : ∀ w ∈ tables_1_2, w ∈ lw_tbl := fun w h => List.mem_append_right _ (List.mem_append_right _ (List.mem_append_left _ h))
theorem z_tbI3 : ∀ w ∈ tables_1_3, w ∈ lw_tbl := fun w h => List.mem_append_right _ (List.mem_append_right _ (List.mem_append_right _ (List.mem_append_left _ h)))
theorem z_tbI4 : ∀ w ∈ tables_1_4, w ∈ lw_tbl := fun w h => List.mem_append_right _ (List.mem_append_right _ (List.mem_append_right _ (List.mem_append_right _ (List.mem_append_left _ h))))
theorem z_tbI5 : ∀ w ∈ tables_1_5, w ∈ lw_tbl := fun w h => List.mem_append_right _ (List.mem_append_right _ (List.mem_append_right _ (List.mem_append_right _ (List.mem_append_right _ (h)))))
set_option maxRecDepth 20000 in
theorem tm_0 : (.instantiable RX0 1 : Cond) ∈ lw_tbl := z_tbI2 _ (List.mem_of_getElem? (i := 28) rfl)
set_option maxRecDepth 20000 in
theorem tm_1 : (.instantiable RX1 1 : Cond) ∈ lw_tbl := z_tbI2 _ (List.mem_of_getElem? (i := 52) rfl)
set_option maxRecDepth 20000 in
theorem tm_2 : (.instantiable RX2 3 : Cond) ∈ lw_tbl := z_tbI1 _ (List.mem_of_getElem? (i := 119) rfl)
set_option maxRecDepth 20000 in
theorem tm_3 : (.instantiable RX3 1 : Cond) ∈ lw_tbl := z_tbI2 _ (List.mem_of_getElem? (i := 68) rfl)
set_option maxRecDepth 20000 in
theorem tm_4 : (.instantiable RX4 2 : Cond) ∈ lw_tbl := z_tbI1 _ (List.mem_of_getElem? (i := 155) rfl)
set_option maxRecDepth 20000 in
theorem tm_5 : (.instantiable RX5 2 : Cond) ∈ lw_tbl := z_tbI1 _ (List.mem_of_getElem? (i := 125) rfl)
set_option maxRecDepth 20000 in
theorem tm_6 : (.instantiable RX6 1 : Cond) ∈ lw_tbl := z_tbI2 _ (List.mem_of_getElem? (i := 76) rfl)
set_option maxRecDepth 20000 in
theorem tm_7 : (.instantiable RX7 12 : Cond) ∈ lw_tbl := z_tbI1 _ (List.mem_of_getElem? (i := 24) rfl)
set_option maxRecDepth 20000 in
theorem tm_8 : (.instantiable RX8 1 : Cond) ∈ lw_tbl := z_tbI2 _ (List.mem_of_getElem? (i := 44) rfl)
set_option maxRecDepth 20000 in
theorem tm_9 : (.instantiable RX9 5 : Cond) ∈ lw_tbl := z_tbI1 _ (List.mem_of_getElem? (i := 32) rfl)
set_option maxRecDepth 20000 in
theorem tm_10 : (.instantiable RX10 1 : Cond) ∈ lw_tbl := z_tbI2 _ (List.mem_of_getElem? (i := 60) rfl)
set_option maxRecDepth 20000 in
theorem tm_11 : (.instantiable RX11 9 : Cond) ∈ lw_tbl := z_tbI1 _ (List.mem_of_getElem? (i := 16) rfl)
set_option maxRecDepth 20000 in
theorem tm_12 : (.instantiable RX12 38 : Cond) ∈ lw_tbl := z_tbI4 _ (List.mem_of_getElem? (i := 6) rfl)
set_option maxRecDepth 20000 in
theorem tm_13 : (.arrayClass .int : Cond) ∈ lw_tbl := z_tbI1 _ (List.mem_of_getElem? (i := 63) rfl)
set_option maxRecDepth 20000 in
theorem tm_14 : (.classLink RL 7 RX11 : Cond) ∈ lw_tbl := z_tbI1 _ (List.mem_of_getElem? (i := 15) rfl)
set_option maxRecDepth 20000 in
theorem tm_15 : (.initialized RX11 : Cond) ∈ lw_tbl := z_tbI1 _ (List.mem_of_getElem? (i := 1) rfl)
set_option maxRecDepth 20000 in
theorem tm_16 : (.methodLink RL 9 yX11_init : Cond) ∈ lw_tbl := z_tbI1 _ (List.mem_of_getElem? (i := 17) rfl)
set_option maxRecDepth 20000 in
theorem tm_17 : (.instanceMethod yX11_init : Cond) ∈ lw_tbl := z_tbI1 _ (List.mem_of_getElem? (i := 18) rfl)
set_option maxRecDepth 20000 in
theorem tm_18 : (.classLink RL 10 RX12 : Cond) ∈ lw_tbl := z_tbI4 _ (List.mem_of_getElem? (i := 5) rfl)
set_option maxRecDepth 20000 in
theorem tm_19 : (.initialized RX12 : Cond) ∈ lw_tbl := z_tbI1 _ (List.mem_of_getElem? (i := 7) rfl)
set_option maxRecDepth 20000 in
theorem tm_20 : (.methodLink RL 12 yX12_init : Cond) ∈ lw_tbl := z_tbI4 _ (List.mem_of_getElem? (i := 7) rfl)
set_option maxRecDepth 20000 in
theorem tm_21 : (.instanceMethod yX12_init : Cond) ∈ lw_tbl := z_tbI4 _ (List.mem_of_getElem? (i := 8) rfl)
set_option maxRecDepth 20000 in
theorem tm_22 : (.methodLink RL 13 yX11_feed : Cond) ∈ lw_tbl := z_tbI1 _ (List.mem_of_getElem? (i := 196) rfl)
set_option maxRecDepth 20000 in
theorem tm_23 : (.instanceMethod yX11_feed : Cond) ∈ lw_tbl := z_tbI1 _ (List.mem_of_getElem? (i := 197) rfl)
set_option maxRecDepth 20000 in
theorem tm_24 : (.selects RX11 yX11_feed yX11_feed : Cond) ∈ lw_tbl := z_tbI1 _ (List.mem_of_getElem? (i := 198) rfl)
set_option maxRecDepth 20000 in
theorem tm_25 : (.methodLink RL 17 yX12_feed : Cond) ∈ lw_tbl := z_tbI4 _ (List.mem_of_getElem? (i := 126) rfl)
set_option maxRecDepth 20000 in
theorem tm_26 : (.instanceMethod yX12_feed : Cond) ∈ lw_tbl := z_tbI4 _ (List.mem_of_getElem? (i := 127) rfl)
set_option maxRecDepth 20000 in
theorem tm_27 : (.selects RX12 yX12_feed yX12_feed : Cond) ∈ lw_tbl := z_tbI4 _ (List.mem_of_getElem? (i := 128) rfl)
set_option maxRecDepth 20000 in
theorem tm_28 : (.methodLink RL 18 yX11_piece : Cond) ∈ lw_tbl := z_tbI1 _ (List.mem_of_getElem? (i := 208) rfl)
set_option maxRecDepth 20000 in
theorem tm_29 : (.instanceMethod yX11_piece : Cond) ∈ lw_tbl := z_tbI1 _ (List.mem_of_getElem? (i := 209) rfl)
set_option maxRecDepth 20000 in
theorem tm_30 : (.selects RX11 yX11_piece yX11_piece : Cond) ∈ lw_tbl := z_tbI1 _ (List.mem_of_getElem? (i := 210) rfl)
set_option maxRecDepth 20000 in
theorem tm_31 : (.methodLink RL 22 yX12_piece : Cond) ∈ lw_tbl := z_tbI4 _ (List.mem_of_getElem? (i := 137) rfl)
set_option maxRecDepth 20000 in
theorem tm_32 : (.instanceMethod yX12_piece : Cond) ∈ lw_tbl := z_tbI4 _ (List.mem_of_getElem? (i := 138) rfl)
set_option maxRecDepth 20000 in
theorem tm_33 : (.selects RX12 yX12_piece yX12_piece : Cond) ∈ lw_tbl := z_tbI4 _ (List.mem_of_getElem? (i := 139) rfl)
set_option maxRecDepth 20000 in
theorem tm_34 : (.methodLink RL 23 yX11_player : Cond) ∈ lw_tbl := z_tbI2 _ (List.mem_of_getElem? (i := 100) rfl)
set_option maxRecDepth 20000 in
theorem tm_35 : (.instanceMethod yX11_player : Cond) ∈ lw_tbl := z_tbI2 _ (List.mem_of_getElem? (i := 101) rfl)
set_option maxRecDepth 20000 in
theorem tm_36 : (.selects RX11 yX11_player yX11_player : Cond) ∈ lw_tbl := z_tbI2 _ (List.mem_of_getElem? (i := 102) rfl)
set_option maxRecDepth 20000 in
theorem tm_37 : (.methodLink RL 27 yX12_player : Cond) ∈ lw_tbl := z_tbI4 _ (List.mem_of_getElem? (i := 200) rfl)
set_option maxRecDepth 20000 in
theorem tm_38 : (.instanceMethod yX12_player : Cond) ∈ lw_tbl := z_tbI4 _ (List.mem_of_getElem? (i := 201) rfl)
set_option maxRecDepth 20000 in
theorem tm_39 : (.selects RX12 yX12_player yX12_player : Cond) ∈ lw_tbl := z_tbI4 _ (List.mem_of_getElem? (i := 202) rfl)
set_option maxRecDepth 20000 in
theorem vsL_in_0 : ∀ w ∈ vsL_0, w ∈ lw_tbl := z_fc tm_0 <| z_fc tm_1 <| z_fc tm_2 <| z_fc tm_3 <| z_fc tm_4 <| z_fc tm_5 <| z_fc tm_6 <| z_fc tm_7 <| z_fc tm_8 <| z_fc tm_9 <| z_fc tm_10 <| z_fc tm_11 <| z_fc tm_12 <| z_fc tm_13 <| z_fc tm_14 <| z_fc tm_15 <| z_fc tm_16 <| z_fc tm_17 <| z_fc tm_18 <| z_fc tm_19 <| z_fc tm_20 <| z_fc tm_21 <| z_fc tm_22 <| z_fc tm_23 <| z_fc tm_24 <| z_fc tm_25 <| z_fc tm_26 <| z_fc tm_27 <| z_fc tm_28 <| z_fc tm_29 <| z_fc tm_30 <| z_fc tm_31 <| z_fc tm_32 <| z_fc tm_33 <| z_fc tm_34 <| z_fc tm_35 <| z_fc tm_36 <| z_fc tm_37 <| z_fc tm_38 <| z_fc tm_39 <| z_fn
set_option maxRecDepth 20000 in
theorem tm_40 : (.methodLink RL 28 yX11_line : Cond) ∈ lw_tbl := z_tbI2 _ (List.mem_of_getElem? (i := 152) rfl)
set_option maxRecDepth 20000 in
theorem tm_41 : (.instanceMethod yX11_line : Cond) ∈ lw_tbl := z_tbI2 _ (List.mem_of_getElem? (i := 153) rfl)
set_option maxRecDepth 20000 in
theorem tm_42 : (.selects RX11 yX11_line yX11_line : Cond) ∈ lw_tbl := z_tbI2 _ (List.mem_of_getElem? (i := 154) rfl)
set_option maxRecDepth 20000 in
theorem tm_43 : (.methodLink RL 31 yX12_line : Cond) ∈ lw_tbl := z_tbI4 _ (List.mem_of_getElem? (i := 212) rfl)
set_option maxRecDepth 20000 in
theorem tm_44 : (.instanceMethod yX12_line : Cond) ∈ lw_tbl := z_tbI4 _ (List.mem_of_getElem? (i := 213) rfl)
set_option maxRecDepth 20000 in
theorem tm_45 : (.selects RX12 yX12_line yX12_line : Cond) ∈ lw_tbl := z_tbI4 _ (List.mem_of_getElem? (i := 214) rfl)
set_option maxRecDepth 20000 in
theorem tm_46 : (.methodLink RL 32 yX11_cue : Cond) ∈ lw_tbl := z_tbI2 _ (List.mem_of_getElem? (i := 160) rfl)
set_option maxRecDepth 20000 in
theorem tm_47 : (.instanceMethod yX11_cue : Cond) ∈ lw_tbl := z_tbI2 _ (List.mem_of_getElem? (i := 161) rfl)
set_option maxRecDepth 20000 in
theorem tm_48 : (.selects RX11 yX11_cue yX11_cue : Cond) ∈ lw_tbl := z_tbI2 _ (List.mem_of_getElem? (i := 162) rfl)
set_option maxRecDepth 20000 in
theorem tm_49 : (.methodLink RL 35 yX12_cue : Cond) ∈ lw_tbl := z_tbI4 _ (List.mem_of_getElem? (i := 220) rfl)
set_option maxRecDepth 20000 in
theorem tm_50 : (.instanceMethod yX12_cue : Cond) ∈ lw_tbl := z_tbI4 _ (List.mem_of_getElem? (i := 221) rfl)
set_option maxRecDepth 20000 in
theorem tm_51 : (.selects RX12 yX12_cue yX12_cue : Cond) ∈ lw_tbl := z_tbI4 _ (List.mem_of_getElem? (i := 222) rfl)
set_option maxRecDepth 20000 in
theorem tm_52 : (.methodLink RL 36 yX11_speed : Cond) ∈ lw_tbl := z_tbI2 _ (List.mem_of_getElem? (i := 164) rfl)
set_option maxRecDepth 20000 in
theorem tm_53 : (.instanceMethod yX11_speed : Cond) ∈ lw_tbl := z_tbI2 _ (List.mem_of_getElem? (i := 165) rfl)
set_option maxRecDepth 20000 in
theorem tm_54 : (.selects RX11 yX11_speed yX11_speed : Cond) ∈ lw_tbl := z_tbI2 _ (List.mem_of_getElem? (i := 166) rfl)
set_option maxRecDepth 20000 in
theorem tm_55 : (.methodLink RL 39 yX12_speed : Cond) ∈ lw_tbl := z_tbI4 _ (List.mem_of_getElem? (i := 224) rfl)
set_option maxRecDepth 20000 in
theorem tm_56 : (.instanceMethod yX12_speed : Cond) ∈ lw_tbl := z_tbI4 _ (List.mem_of_getElem? (i := 225) rfl)
set_option maxRecDepth 20000 in
theorem tm_57 : (.selects RX12 yX12_speed yX12_speed : Cond) ∈ lw_tbl := z_tbI4 _ (List.mem_of_getElem? (i := 226) rfl)
set_option maxRecDepth 20000 in
theorem tm_58 : (.methodLink RL 40 yX11_lose : Cond) ∈ lw_tbl := z_tbI2 _ (List.mem_of_getElem? (i := 168) rfl)
set_option maxRecDepth 20000 in
theorem tm_59 : (.instanceMethod yX11_lose : Cond) ∈ lw_tbl := z_tbI2 _ (List.mem_of_getElem? (i := 169) rfl)
set_option maxRecDepth 20000 in
theorem tm_60 : (.selects RX11 yX11_lose yX11_lose : Cond) ∈ lw_tbl := z_tbI2 _ (List.mem_of_getElem? (i := 170) rfl)
set_option maxRecDepth 20000 in
theorem tm_61 : (.methodLink RL 43 yX12_lose : Cond) ∈ lw_tbl := z_tbI4 _ (List.mem_of_getElem? (i := 228) rfl)
set_option maxRecDepth 20000 in
theorem tm_62 : (.instanceMethod yX12_lose : Cond) ∈ lw_tbl := z_tbI4 _ (List.mem_of_getElem? (i := 229) rfl)
set_option maxRecDepth 20000 in
theorem tm_63 : (.selects RX12 yX12_lose yX12_lose : Cond) ∈ lw_tbl := z_tbI4 _ (List.mem_of_getElem? (i := 230) rfl)
set_option maxRecDepth 20000 in
theorem tm_64 : (.methodLink RL 44 yX11_comes : Cond) ∈ lw_tbl := z_tbI2 _ (List.mem_of_getElem? (i := 172) rfl)
set_option maxRecDepth 20000 in
theorem tm_65 : (.instanceMethod yX11_comes : Cond) ∈ lw_tbl := z_tbI2 _ (List.mem_of_getElem? (i := 173) rfl)
set_option maxRecDepth 20000 in
theorem tm_66 : (.selects RX11 yX11_comes yX11_comes : Cond) ∈ lw_tbl := z_tbI2 _ (List.mem_of_getElem? (i := 174) rfl)
set_option maxRecDepth 20000 in
theorem tm_67 : (.methodLink RL 47 yX12_comes : Cond) ∈ lw_tbl := z_tbI4 _ (List.mem_of_getElem? (i := 232) rfl)
set_option maxRecDepth 20000 in
theorem tm_68 : (.instanceMethod yX12_comes : Cond) ∈ lw_tbl := z_tbI4 _ (List.mem_of_getElem? (i := 233) rfl)
set_option maxRecDepth 20000 in
theorem tm_69 : (.selects RX12 yX12_comes yX12_comes : Cond) ∈ lw_tbl := z_tbI4 _ (List.mem_of_getElem? (i := 234) rfl)
set_option maxRecDepth 20000 in
theorem tm_70 : (.methodLink RL 48 yX11_say : Cond) ∈ lw_tbl := z_tbI3 _ (List.mem_of_getElem? (i := 3) rfl)
set_option maxRecDepth 20000 in
theorem tm_71 : (.instanceMethod yX11_say : Cond) ∈ lw_tbl := z_tbI3 _ (List.mem_of_getElem? (i := 4) rfl)
set_option maxRecDepth 20000 in
theorem tm_72 : (.selects RX11 yX11_say yX11_say : Cond) ∈ lw_tbl := z_tbI3 _ (List.mem_of_getElem? (i := 5) rfl)
set_option maxRecDepth 20000 in
theorem tm_73 : (.methodLink RL 51 yX12_say : Cond) ∈ lw_tbl := z_tbI5 _ (List.mem_of_getElem? (i := 19) rfl)
set_option maxRecDepth 20000 in
theorem tm_74 : (.instanceMethod yX12_say : Cond) ∈ lw_tbl := z_tbI5 _ (List.mem_of_getElem? (i := 20) rfl)
set_option maxRecDepth 20000 in
theorem tm_75 : (.selects RX12 yX12_say yX12_say : Cond) ∈ lw_tbl := z_tbI5 _ (List.mem_of_getElem? (i := 21) rfl)
set_option maxRecDepth 20000 in
theorem tm_76 : (.methodLink RL 52 yX11_again : Cond) ∈ lw_tbl := z_tbI3 _ (List.mem_of_getElem? (i := 22) rfl)
set_option maxRecDepth 20000 in
theorem tm_77 : (.instanceMethod yX11_again : Cond) ∈ lw_tbl := z_tbI3 _ (List.mem_of_getElem? (i := 23) rfl)
set_option maxRecDepth 20000 in
theorem tm_78 : (.selects RX11 yX11_again yX11_again : Cond) ∈ lw_tbl := z_tbI3 _ (List.mem_of_getElem? (i := 24) rfl)
set_option maxRecDepth 20000 in
theorem tm_79 : (.methodLink RL 55 yX12_again : Cond) ∈ lw_tbl := z_tbI5 _ (List.mem_of_getElem? (i := 31) rfl)
set_option maxRecDepth 20000 in
theorem vsL_in_1 : ∀ w ∈ vsL_1, w ∈ lw_tbl := z_fc tm_40 <| z_fc tm_41 <| z_fc tm_42 <| z_fc tm_43 <| z_fc tm_44 <| z_fc tm_45 <| z_fc tm_46 <| z_fc tm_47 <| z_fc tm_48 <| z_fc tm_49 <| z_fc tm_50 <| z_fc tm_51 <| z_fc tm_52 <| z_fc tm_53 <| z_fc tm_54 <| z_fc tm_55 <| z_fc tm_56 <| z_fc tm_57 <| z_fc tm_58 <| z_fc tm_59 <| z_fc tm_60 <| z_fc tm_61 <| z_fc tm_62 <| z_fc tm_63 <| z_fc tm_64 <| z_fc tm_65 <| z_fc tm_66 <| z_fc tm_67 <| z_fc tm_68 <| z_fc tm_69 <| z_fc tm_70 <| z_fc tm_71 <| z_fc tm_72 <| z_fc tm_73 <| z_fc tm_74 <| z_fc tm_75 <| z_fc tm_76 <| z_fc tm_77 <| z_fc tm_78 <| z_fc tm_79 <| z_fn
set_option maxRecDepth 20000 in
theorem tm_80 : (.instanceMethod yX12_again : Cond) ∈ lw_tbl := z_tbI5 _ (List.mem_of_getElem? (i := 32) rfl)
set_option maxRecDepth 20000 in
theorem tm_81 : (.selects RX12 yX12_again yX12_again : Cond) ∈ lw_tbl := z_tbI5 _ (List.mem_of_getElem? (i := 33) rfl)
set_option maxRecDepth 20000 in
theorem tm_82 : (.methodLink RL 56 yX11_night : Cond) ∈ lw_tbl := z_tbI3 _ (List.mem_of_getElem? (i := 26) rfl)
set_option maxRecDepth 20000 in
theorem tm_83 : (.instanceMethod yX11_night : Cond) ∈ lw_tbl := z_tbI3 _ (List.mem_of_getElem? (i := 27) rfl)
set_option maxRecDepth 20000 in
theorem tm_84 : (.selects RX11 yX11_night yX11_night : Cond) ∈ lw_tbl := z_tbI3 _ (List.mem_of_getElem? (i := 28) rfl)
set_option maxRecDepth 20000 in
theorem tm_85 : (.methodLink RL 59 yX12_night : Cond) ∈ lw_tbl := z_tbI5 _ (List.mem_of_getElem? (i := 35) rfl)
set_option maxRecDepth 20000 in
theorem tm_86 : (.instanceMethod yX12_night : Cond) ∈ lw_tbl := z_tbI5 _ (List.mem_of_getElem? (i := 36) rfl)
set_option maxRecDepth 20000 in
theorem tm_87 : (.selects RX12 yX12_night yX12_night : Cond) ∈ lw_tbl := z_tbI5 _ (List.mem_of_getElem? (i := 37) rfl)
set_option maxRecDepth 20000 in
theorem tm_88 : (.methodLink RL 60 yX11_goes : Cond) ∈ lw_tbl := z_tbI3 _ (List.mem_of_getElem? (i := 37) rfl)
set_option maxRecDepth 20000 in
theorem tm_89 : (.instanceMethod yX11_goes : Cond) ∈ lw_tbl := z_tbI3 _ (List.mem_of_getElem? (i := 38) rfl)
set_option maxRecDepth 20000 in
theorem tm_90 : (.selects RX11 yX11_goes yX11_goes : Cond) ∈ lw_tbl := z_tbI3 _ (List.mem_of_getElem? (i := 39) rfl)
set_option maxRecDepth 20000 in
theorem tm_91 : (.methodLink RL 63 yX12_goes : Cond) ∈ lw_tbl := z_tbI5 _ (List.mem_of_getElem? (i := 43) rfl)
set_option maxRecDepth 20000 in
theorem tm_92 : (.instanceMethod yX12_goes : Cond) ∈ lw_tbl := z_tbI5 _ (List.mem_of_getElem? (i := 44) rfl)
set_option maxRecDepth 20000 in
theorem tm_93 : (.selects RX12 yX12_goes yX12_goes : Cond) ∈ lw_tbl := z_tbI5 _ (List.mem_of_getElem? (i := 45) rfl)
set_option maxRecDepth 20000 in
theorem tm_94 : (.methodLink RL 64 yX11_follow : Cond) ∈ lw_tbl := z_tbI3 _ (List.mem_of_getElem? (i := 45) rfl)
set_option maxRecDepth 20000 in
theorem tm_95 : (.instanceMethod yX11_follow : Cond) ∈ lw_tbl := z_tbI3 _ (List.mem_of_getElem? (i := 46) rfl)
set_option maxRecDepth 20000 in
theorem tm_96 : (.selects RX11 yX11_follow yX11_follow : Cond) ∈ lw_tbl := z_tbI3 _ (List.mem_of_getElem? (i := 47) rfl)
set_option maxRecDepth 20000 in
theorem tm_97 : (.methodLink RL 67 yX12_follow : Cond) ∈ lw_tbl := z_tbI5 _ (List.mem_of_getElem? (i := 55) rfl)
set_option maxRecDepth 20000 in
theorem tm_98 : (.instanceMethod yX12_follow : Cond) ∈ lw_tbl := z_tbI5 _ (List.mem_of_getElem? (i := 56) rfl)
set_option maxRecDepth 20000 in
theorem tm_99 : (.selects RX12 yX12_follow yX12_follow : Cond) ∈ lw_tbl := z_tbI5 _ (List.mem_of_getElem? (i := 57) rfl)
set_option maxRecDepth 20000 in
theorem tm_100 : (.methodLink RL 68 yX11_net : Cond) ∈ lw_tbl := z_tbI3 _ (List.mem_of_getElem? (i := 59) rfl)
set_option maxRecDepth 20000 in
theorem tm_101 : (.instanceMethod yX11_net : Cond) ∈ lw_tbl := z_tbI3 _ (List.mem_of_getElem? (i := 60) rfl)
set_option maxRecDepth 20000 in
theorem tm_102 : (.selects RX11 yX11_net yX11_net : Cond) ∈ lw_tbl := z_tbI3 _ (List.mem_of_getElem? (i := 61) rfl)
set_option maxRecDepth 20000 in
theorem tm_103 : (.methodLink RL 71 yX12_net : Cond) ∈ lw_tbl := z_tbI5 _ (List.mem_of_getElem? (i := 63) rfl)
set_option maxRecDepth 20000 in
theorem tm_104 : (.instanceMethod yX12_net : Cond) ∈ lw_tbl := z_tbI5 _ (List.mem_of_getElem? (i := 64) rfl)
set_option maxRecDepth 20000 in
theorem tm_105 : (.selects RX12 yX12_net yX12_net : Cond) ∈ lw_tbl := z_tbI5 _ (List.mem_of_getElem? (i := 65) rfl)
set_option maxRecDepth 20000 in
theorem tm_106 : (.methodLink RL 72 yX11_mend : Cond) ∈ lw_tbl := z_tbI3 _ (List.mem_of_getElem? (i := 85) rfl)
set_option maxRecDepth 20000 in
theorem tm_107 : (.instanceMethod yX11_mend : Cond) ∈ lw_tbl := z_tbI3 _ (List.mem_of_getElem? (i := 86) rfl)
set_option maxRecDepth 20000 in
theorem tm_108 : (.selects RX11 yX11_mend yX11_mend : Cond) ∈ lw_tbl := z_tbI3 _ (List.mem_of_getElem? (i := 87) rfl)
set_option maxRecDepth 20000 in
theorem tm_109 : (.methodLink RL 75 yX12_mend : Cond) ∈ lw_tbl := z_tbI5 _ (List.mem_of_getElem? (i := 87) rfl)
set_option maxRecDepth 20000 in
theorem tm_110 : (.instanceMethod yX12_mend : Cond) ∈ lw_tbl := z_tbI5 _ (List.mem_of_getElem? (i := 88) rfl)
set_option maxRecDepth 20000 in
theorem tm_111 : (.selects RX12 yX12_mend yX12_mend : Cond) ∈ lw_tbl := z_tbI5 _ (List.mem_of_getElem? (i := 89) rfl)
set_option maxRecDepth 20000 in
theorem tm_112 : (.methodLink RL 76 yX11_mendOf : Cond) ∈ lw_tbl := z_tbI3 _ (List.mem_of_getElem? (i := 100) rfl)
set_option maxRecDepth 20000 in
theorem tm_113 : (.instanceMethod yX11_mendOf : Cond) ∈ lw_tbl := z_tbI3 _ (List.mem_of_getElem? (i := 101) rfl)
set_option maxRecDepth 20000 in
theorem tm_114 : (.selects RX11 yX11_mendOf yX11_mendOf : Cond) ∈ lw_tbl := z_tbI3 _ (List.mem_of_getElem? (i := 102) rfl)
set_option maxRecDepth 20000 in
theorem tm_115 : (.methodLink RL 79 yX12_mendOf : Cond) ∈ lw_tbl := z_tbI5 _ (List.mem_of_getElem? (i := 99) rfl)
set_option maxRecDepth 20000 in
theorem tm_116 : (.instanceMethod yX12_mendOf : Cond) ∈ lw_tbl := z_tbI5 _ (List.mem_of_getElem? (i := 100) rfl)
set_option maxRecDepth 20000 in
theorem tm_117 : (.selects RX12 yX12_mendOf yX12_mendOf : Cond) ∈ lw_tbl := z_tbI5 _ (List.mem_of_getElem? (i := 101) rfl)
set_option maxRecDepth 20000 in
theorem tm_118 : (.methodLink RL 80 yX11_prompted : Cond) ∈ lw_tbl := z_tbI3 _ (List.mem_of_getElem? (i := 104) rfl)
set_option maxRecDepth 20000 in
theorem tm_119 : (.instanceMethod yX11_prompted : Cond) ∈ lw_tbl := z_tbI3 _ (List.mem_of_getElem? (i := 105) rfl)
set_option maxRecDepth 20000 in
theorem vsL_in_2 : ∀ w ∈ vsL_2, w ∈ lw_tbl := z_fc tm_80 <| z_fc tm_81 <| z_fc tm_82 <| z_fc tm_83 <| z_fc tm_84 <| z_fc tm_85 <| z_fc tm_86 <| z_fc tm_87 <| z_fc tm_88 <| z_fc tm_89 <| z_fc tm_90 <| z_fc tm_91 <| z_fc tm_92 <| z_fc tm_93 <| z_fc tm_94 <| z_fc tm_95 <| z_fc tm_96 <| z_fc tm_97 <| z_fc tm_98 <| z_fc tm_99 <| z_fc tm_100 <| z_fc tm_101 <| z_fc tm_102 <| z_fc tm_103 <| z_fc tm_104 <| z_fc tm_105 <| z_fc tm_106 <| z_fc tm_107 <| z_fc tm_108 <| z_fc tm_109 <| z_fc tm_110 <| z_fc tm_111 <| z_fc tm_112 <| z_fc tm_113 <| z_fc tm_114 <| z_fc tm_115 <| z_fc tm_116 <| z_fc tm_117 <| z_fc tm_118 <| z_fc tm_119 <| z_fn
set_option maxRecDepth 20000 in
theorem tm_120 : (.selects RX11 yX11_prompted yX11_prompted : Cond) ∈ lw_tbl := z_tbI3 _ (List.mem_of_getElem? (i := 106) rfl)
set_option maxRecDepth 20000 in
theorem tm_121 : (.methodLink RL 83 yX12_prompted : Cond) ∈ lw_tbl := z_tbI5 _ (List.mem_of_getElem? (i := 103) rfl)
set_option maxRecDepth 20000 in
theorem tm_122 : (.instanceMethod yX12_prompted : Cond) ∈ lw_tbl := z_tbI5 _ (List.mem_of_getElem? (i := 104) rfl)
set_option maxRecDepth 20000 in
theorem tm_123 : (.selects RX12 yX12_prompted yX12_prompted : Cond) ∈ lw_tbl := z_tbI5 _ (List.mem_of_getElem? (i := 105) rfl)
set_option maxRecDepth 20000 in
theorem tm_124 : (.methodLink RL 84 yX11_home : Cond) ∈ lw_tbl := z_tbI3 _ (List.mem_of_getElem? (i := 112) rfl)
set_option maxRecDepth 20000 in
theorem tm_125 : (.instanceMethod yX11_home : Cond) ∈ lw_tbl := z_tbI3 _ (List.mem_of_getElem? (i := 113) rfl)
set_option maxRecDepth 20000 in
theorem tm_126 : (.selects RX11 yX11_home yX11_home : Cond) ∈ lw_tbl := z_tbI3 _ (List.mem_of_getElem? (i := 114) rfl)
set_option maxRecDepth 20000 in
theorem tm_127 : (.methodLink RL 88 yX12_home : Cond) ∈ lw_tbl := z_tbI5 _ (List.mem_of_getElem? (i := 107) rfl)
set_option maxRecDepth 20000 in
theorem tm_128 : (.instanceMethod yX12_home : Cond) ∈ lw_tbl := z_tbI5 _ (List.mem_of_getElem? (i := 108) rfl)
set_option maxRecDepth 20000 in
theorem tm_129 : (.selects RX12 yX12_home yX12_home : Cond) ∈ lw_tbl := z_tbI5 _ (List.mem_of_getElem? (i := 109) rfl)
set_option maxRecDepth 20000 in
theorem tm_130 : (.methodLink RL 89 yX11_without : Cond) ∈ lw_tbl := z_tbI3 _ (List.mem_of_getElem? (i := 124) rfl)
set_option maxRecDepth 20000 in
theorem tm_131 : (.instanceMethod yX11_without : Cond) ∈ lw_tbl := z_tbI3 _ (List.mem_of_getElem? (i := 125) rfl)
set_option maxRecDepth 20000 in
theorem tm_132 : (.selects RX11 yX11_without yX11_without : Cond) ∈ lw_tbl := z_tbI3 _ (List.mem_of_getElem? (i := 126) rfl)
set_option maxRecDepth 20000 in
theorem tm_133 : (.methodLink RL 92 yX12_without : Cond) ∈ lw_tbl := z_tbI5 _ (List.mem_of_getElem? (i := 120) rfl)
set_option maxRecDepth 20000 in
theorem tm_134 : (.instanceMethod yX12_without : Cond) ∈ lw_tbl := z_tbI5 _ (List.mem_of_getElem? (i := 121) rfl)
set_option maxRecDepth 20000 in
theorem tm_135 : (.selects RX12 yX12_without yX12_without : Cond) ∈ lw_tbl := z_tbI5 _ (List.mem_of_getElem? (i := 122) rfl)
set_option maxRecDepth 20000 in
theorem tm_136 : (.methodLink RL 93 yX11_leastHarm : Cond) ∈ lw_tbl := z_tbI3 _ (List.mem_of_getElem? (i := 128) rfl)
set_option maxRecDepth 20000 in
theorem tm_137 : (.instanceMethod yX11_leastHarm : Cond) ∈ lw_tbl := z_tbI3 _ (List.mem_of_getElem? (i := 129) rfl)
set_option maxRecDepth 20000 in
theorem tm_138 : (.selects RX11 yX11_leastHarm yX11_leastHarm : Cond) ∈ lw_tbl := z_tbI3 _ (List.mem_of_getElem? (i := 130) rfl)
set_option maxRecDepth 20000 in
theorem tm_139 : (.methodLink RL 96 yX12_leastHarm : Cond) ∈ lw_tbl := z_tbI5 _ (List.mem_of_getElem? (i := 128) rfl)
set_option maxRecDepth 20000 in
theorem tm_140 : (.instanceMethod yX12_leastHarm : Cond) ∈ lw_tbl := z_tbI5 _ (List.mem_of_getElem? (i := 129) rfl)
set_option maxRecDepth 20000 in
theorem tm_141 : (.selects RX12 yX12_leastHarm yX12_leastHarm : Cond) ∈ lw_tbl := z_tbI5 _ (List.mem_of_getElem? (i := 130) rfl)
set_option maxRecDepth 20000 in
theorem tm_142 : (.methodLink RL 97 yX11_joke : Cond) ∈ lw_tbl := z_tbI3 _ (List.mem_of_getElem? (i := 132) rfl)
set_option maxRecDepth 20000 in
theorem tm_143 : (.instanceMethod yX11_joke : Cond) ∈ lw_tbl := z_tbI3 _ (List.mem_of_getElem? (i := 133) rfl)
set_option maxRecDepth 20000 in
theorem tm_144 : (.selects RX11 yX11_joke yX11_joke : Cond) ∈ lw_tbl := z_tbI3 _ (List.mem_of_getElem? (i := 134) rfl)
set_option maxRecDepth 20000 in
theorem tm_145 : (.methodLink RL 100 yX12_joke : Cond) ∈ lw_tbl := z_tbI5 _ (List.mem_of_getElem? (i := 132) rfl)
set_option maxRecDepth 20000 in
theorem tm_146 : (.instanceMethod yX12_joke : Cond) ∈ lw_tbl := z_tbI5 _ (List.mem_of_getElem? (i := 133) rfl)
set_option maxRecDepth 20000 in
theorem tm_147 : (.selects RX12 yX12_joke yX12_joke : Cond) ∈ lw_tbl := z_tbI5 _ (List.mem_of_getElem? (i := 134) rfl)
set_option maxRecDepth 20000 in
theorem tm_148 : (.methodLink RL 101 yX11_stretched : Cond) ∈ lw_tbl := z_tbI3 _ (List.mem_of_getElem? (i := 140) rfl)
set_option maxRecDepth 20000 in
theorem tm_149 : (.instanceMethod yX11_stretched : Cond) ∈ lw_tbl := z_tbI3 _ (List.mem_of_getElem? (i := 141) rfl)
set_option maxRecDepth 20000 in
theorem tm_150 : (.selects RX11 yX11_stretched yX11_stretched : Cond) ∈ lw_tbl := z_tbI3 _ (List.mem_of_getElem? (i := 142) rfl)
set_option maxRecDepth 20000 in
theorem tm_151 : (.methodLink RL 104 yX12_stretched : Cond) ∈ lw_tbl := z_tbI5 _ (List.mem_of_getElem? (i := 136) rfl)
set_option maxRecDepth 20000 in
theorem tm_152 : (.instanceMethod yX12_stretched : Cond) ∈ lw_tbl := z_tbI5 _ (List.mem_of_getElem? (i := 137) rfl)
set_option maxRecDepth 20000 in
theorem tm_153 : (.selects RX12 yX12_stretched yX12_stretched : Cond) ∈ lw_tbl := z_tbI5 _ (List.mem_of_getElem? (i := 138) rfl)
set_option maxRecDepth 20000 in
theorem tm_154 : (.methodLink RL 105 yX11_parts : Cond) ∈ lw_tbl := z_tbI3 _ (List.mem_of_getElem? (i := 144) rfl)
set_option maxRecDepth 20000 in
theorem tm_155 : (.instanceMethod yX11_parts : Cond) ∈ lw_tbl := z_tbI3 _ (List.mem_of_getElem? (i := 145) rfl)
set_option maxRecDepth 20000 in
theorem tm_156 : (.selects RX11 yX11_parts yX11_parts : Cond) ∈ lw_tbl := z_tbI3 _ (List.mem_of_getElem? (i := 146) rfl)
set_option maxRecDepth 20000 in
theorem tm_157 : (.methodLink RL 108 yX12_parts : Cond) ∈ lw_tbl := z_tbI5 _ (List.mem_of_getElem? (i := 140) rfl)
set_option maxRecDepth 20000 in
theorem tm_158 : (.instanceMethod yX12_parts : Cond) ∈ lw_tbl := z_tbI5 _ (List.mem_of_getElem? (i := 141) rfl)
set_option maxRecDepth 20000 in
theorem tm_159 : (.selects RX12 yX12_parts yX12_parts : Cond) ∈ lw_tbl := z_tbI5 _ (List.mem_of_getElem? (i := 142) rfl)
set_option maxRecDepth 20000 in
theorem vsL_in_3 : ∀ w ∈ vsL_3, w ∈ lw_tbl := z_fc tm_120 <| z_fc tm_121 <| z_fc tm_122 <| z_fc tm_123 <| z_fc tm_124 <| z_fc tm_125 <| z_fc tm_126 <| z_fc tm_127 <| z_fc tm_128 <| z_fc tm_129 <| z_fc tm_130 <| z_fc tm_131 <| z_fc tm_132 <| z_fc tm_133 <| z_fc tm_134 <| z_fc tm_135 <| z_fc tm_136 <| z_fc tm_137 <| z_fc tm_138 <| z_fc tm_139 <| z_fc tm_140 <| z_fc tm_141 <| z_fc tm_142 <| z_fc tm_143 <| z_fc tm_144 <| z_fc tm_145 <| z_fc tm_146 <| z_fc tm_147 <| z_fc tm_148 <| z_fc tm_149 <| z_fc tm_150 <| z_fc tm_151 <| z_fc tm_152 <| z_fc tm_153 <| z_fc tm_154 <| z_fc tm_155 <| z_fc tm_156 <| z_fc tm_157 <| z_fc tm_158 <| z_fc tm_159 <| z_fn
set_option maxRecDepth 20000 in
theorem tm_160 : (.methodLink RL 109 yX11_books : Cond) ∈ lw_tbl := z_tbI3 _ (List.mem_of_getElem? (i := 155) rfl)
set_option maxRecDepth 20000 in
theorem tm_161 : (.instanceMethod yX11_books : Cond) ∈ lw_tbl := z_tbI3 _ (List.mem_of_getElem? (i := 156) rfl)
set_option maxRecDepth 20000 in
theorem tm_162 : (.selects RX11 yX11_books yX11_books : Cond) ∈ lw_tbl := z_tbI3 _ (List.mem_of_getElem? (i := 157) rfl)
set_option maxRecDepth 20000 in
theorem tm_163 : (.methodLink RL 112 yX12_books : Cond) ∈ lw_tbl := z_tbI5 _ (List.mem_of_getElem? (i := 148) rfl)
set_option maxRecDepth 20000 in
theorem tm_164 : (.instanceMethod yX12_books : Cond) ∈ lw_tbl := z_tbI5 _ (List.mem_of_getElem? (i := 149) rfl)
set_option maxRecDepth 20000 in
theorem tm_165 : (.selects RX12 yX12_books yX12_books : Cond) ∈ lw_tbl := z_tbI5 _ (List.mem_of_getElem? (i := 150) rfl)
set_option maxRecDepth 20000 in
theorem tm_166 : (.methodLink RL 113 yX11_book : Cond) ∈ lw_tbl := z_tbI3 _ (List.mem_of_getElem? (i := 170) rfl)
set_option maxRecDepth 20000 in
theorem tm_167 : (.instanceMethod yX11_book : Cond) ∈ lw_tbl := z_tbI3 _ (List.mem_of_getElem? (i := 171) rfl)
set_option maxRecDepth 20000 in
theorem tm_168 : (.selects RX11 yX11_book yX11_book : Cond) ∈ lw_tbl := z_tbI3 _ (List.mem_of_getElem? (i := 172) rfl)
set_option maxRecDepth 20000 in
theorem tm_169 : (.methodLink RL 116 yX12_book : Cond) ∈ lw_tbl := z_tbI5 _ (List.mem_of_getElem? (i := 172) rfl)
set_option maxRecDepth 20000 in
theorem tm_170 : (.instanceMethod yX12_book : Cond) ∈ lw_tbl := z_tbI5 _ (List.mem_of_getElem? (i := 173) rfl)
set_option maxRecDepth 20000 in
theorem tm_171 : (.selects RX12 yX12_book yX12_book : Cond) ∈ lw_tbl := z_tbI5 _ (List.mem_of_getElem? (i := 174) rfl)
set_option maxRecDepth 20000 in
theorem tm_172 : (.methodLink RL 117 yX11_row : Cond) ∈ lw_tbl := z_tbI3 _ (List.mem_of_getElem? (i := 178) rfl)
set_option maxRecDepth 20000 in
theorem tm_173 : (.instanceMethod yX11_row : Cond) ∈ lw_tbl := z_tbI3 _ (List.mem_of_getElem? (i := 179) rfl)
set_option maxRecDepth 20000 in
theorem tm_174 : (.selects RX11 yX11_row yX11_row : Cond) ∈ lw_tbl := z_tbI3 _ (List.mem_of_getElem? (i := 180) rfl)
set_option maxRecDepth 20000 in
theorem tm_175 : (.methodLink RL 120 yX12_row : Cond) ∈ lw_tbl := z_tbI5 _ (List.mem_of_getElem? (i := 176) rfl)
set_option maxRecDepth 20000 in
theorem tm_176 : (.instanceMethod yX12_row : Cond) ∈ lw_tbl := z_tbI5 _ (List.mem_of_getElem? (i := 177) rfl)
set_option maxRecDepth 20000 in
theorem tm_177 : (.selects RX12 yX12_row yX12_row : Cond) ∈ lw_tbl := z_tbI5 _ (List.mem_of_getElem? (i := 178) rfl)
set_option maxRecDepth 20000 in
theorem tm_178 : (.methodLink RL 121 yX11_judge : Cond) ∈ lw_tbl := z_tbI3 _ (List.mem_of_getElem? (i := 182) rfl)
set_option maxRecDepth 20000 in
theorem tm_179 : (.instanceMethod yX11_judge : Cond) ∈ lw_tbl := z_tbI3 _ (List.mem_of_getElem? (i := 183) rfl)
set_option maxRecDepth 20000 in
theorem tm_180 : (.selects RX11 yX11_judge yX11_judge : Cond) ∈ lw_tbl := z_tbI3 _ (List.mem_of_getElem? (i := 184) rfl)
set_option maxRecDepth 20000 in
theorem tm_181 : (.methodLink RL 124 yX12_judge : Cond) ∈ lw_tbl := z_tbI5 _ (List.mem_of_getElem? (i := 180) rfl)
set_option maxRecDepth 20000 in
theorem tm_182 : (.instanceMethod yX12_judge : Cond) ∈ lw_tbl := z_tbI5 _ (List.mem_of_getElem? (i := 181) rfl)
set_option maxRecDepth 20000 in
theorem tm_183 : (.selects RX12 yX12_judge yX12_judge : Cond) ∈ lw_tbl := z_tbI5 _ (List.mem_of_getElem? (i := 182) rfl)
set_option maxRecDepth 20000 in
theorem tm_184 : (.methodLink RL 125 yX11_possible : Cond) ∈ lw_tbl := z_tbI3 _ (List.mem_of_getElem? (i := 190) rfl)
set_option maxRecDepth 20000 in
theorem tm_185 : (.instanceMethod yX11_possible : Cond) ∈ lw_tbl := z_tbI3 _ (List.mem_of_getElem? (i := 191) rfl)
set_option maxRecDepth 20000 in
theorem tm_186 : (.selects RX11 yX11_possible yX11_possible : Cond) ∈ lw_tbl := z_tbI3 _ (List.mem_of_getElem? (i := 192) rfl)
set_option maxRecDepth 20000 in
theorem tm_187 : (.methodLink RL 128 yX12_possible : Cond) ∈ lw_tbl := z_tbI5 _ (List.mem_of_getElem? (i := 184) rfl)
set_option maxRecDepth 20000 in
theorem tm_188 : (.instanceMethod yX12_possible : Cond) ∈ lw_tbl := z_tbI5 _ (List.mem_of_getElem? (i := 185) rfl)
set_option maxRecDepth 20000 in
theorem tm_189 : (.selects RX12 yX12_possible yX12_possible : Cond) ∈ lw_tbl := z_tbI5 _ (List.mem_of_getElem? (i := 186) rfl)
set_option maxRecDepth 20000 in
theorem tm_190 : (.methodLink RL 129 yX11_lot : Cond) ∈ lw_tbl := z_tbI3 _ (List.mem_of_getElem? (i := 202) rfl)
set_option maxRecDepth 20000 in
theorem tm_191 : (.instanceMethod yX11_lot : Cond) ∈ lw_tbl := z_tbI3 _ (List.mem_of_getElem? (i := 203) rfl)
set_option maxRecDepth 20000 in
theorem tm_192 : (.selects RX11 yX11_lot yX11_lot : Cond) ∈ lw_tbl := z_tbI3 _ (List.mem_of_getElem? (i := 204) rfl)
set_option maxRecDepth 20000 in
theorem tm_193 : (.methodLink RL 132 yX12_lot : Cond) ∈ lw_tbl := z_tbI5 _ (List.mem_of_getElem? (i := 188) rfl)
set_option maxRecDepth 20000 in
theorem tm_194 : (.instanceMethod yX12_lot : Cond) ∈ lw_tbl := z_tbI5 _ (List.mem_of_getElem? (i := 189) rfl)
set_option maxRecDepth 20000 in
theorem tm_195 : (.selects RX12 yX12_lot yX12_lot : Cond) ∈ lw_tbl := z_tbI5 _ (List.mem_of_getElem? (i := 190) rfl)
set_option maxRecDepth 20000 in
theorem tm_196 : (.methodLink RL 133 yX11_image : Cond) ∈ lw_tbl := z_tbI3 _ (List.mem_of_getElem? (i := 221) rfl)
set_option maxRecDepth 20000 in
theorem tm_197 : (.instanceMethod yX11_image : Cond) ∈ lw_tbl := z_tbI3 _ (List.mem_of_getElem? (i := 222) rfl)
set_option maxRecDepth 20000 in
theorem tm_198 : (.selects RX11 yX11_image yX11_image : Cond) ∈ lw_tbl := z_tbI3 _ (List.mem_of_getElem? (i := 223) rfl)
set_option maxRecDepth 20000 in
theorem tm_199 : (.methodLink RL 136 yX12_image : Cond) ∈ lw_tbl := z_tbI4 _ (List.mem_of_getElem? (i := 192) rfl)
set_option maxRecDepth 20000 in
theorem vsL_in_4 : ∀ w ∈ vsL_4, w ∈ lw_tbl := z_fc tm_160 <| z_fc tm_161 <| z_fc tm_162 <| z_fc tm_163 <| z_fc tm_164 <| z_fc tm_165 <| z_fc tm_166 <| z_fc tm_167 <| z_fc tm_168 <| z_fc tm_169 <| z_fc tm_170 <| z_fc tm_171 <| z_fc tm_172 <| z_fc tm_173 <| z_fc tm_174 <| z_fc tm_175 <| z_fc tm_176 <| z_fc tm_177 <| z_fc tm_178 <| z_fc tm_179 <| z_fc tm_180 <| z_fc tm_181 <| z_fc tm_182 <| z_fc tm_183 <| z_fc tm_184 <| z_fc tm_185 <| z_fc tm_186 <| z_fc tm_187 <| z_fc tm_188 <| z_fc tm_189 <| z_fc tm_190 <| z_fc tm_191 <| z_fc tm_192 <| z_fc tm_193 <| z_fc tm_194 <| z_fc tm_195 <| z_fc tm_196 <| z_fc tm_197 <| z_fc tm_198 <| z_fc tm_199 <| z_fn
set_option maxRecDepth 20000 in
theorem tm_200 : (.instanceMethod yX12_image : Cond) ∈ lw_tbl := z_tbI4 _ (List.mem_of_getElem? (i := 193) rfl)
set_option maxRecDepth 20000 in
theorem tm_201 : (.selects RX12 yX12_image yX12_image : Cond) ∈ lw_tbl := z_tbI4 _ (List.mem_of_getElem? (i := 194) rfl)
set_option maxRecDepth 20000 in
theorem tm_202 : (.methodLink RL 137 yX11_restore : Cond) ∈ lw_tbl := z_tbI3 _ (List.mem_of_getElem? (i := 233) rfl)
set_option maxRecDepth 20000 in
theorem tm_203 : (.instanceMethod yX11_restore : Cond) ∈ lw_tbl := z_tbI3 _ (List.mem_of_getElem? (i := 234) rfl)
set_option maxRecDepth 20000 in
theorem tm_204 : (.selects RX11 yX11_restore yX11_restore : Cond) ∈ lw_tbl := z_tbI3 _ (List.mem_of_getElem? (i := 235) rfl)
set_option maxRecDepth 20000 in
theorem tm_205 : (.methodLink RL 140 yX12_restore : Cond) ∈ lw_tbl := z_tbI4 _ (List.mem_of_getElem? (i := 196) rfl)
set_option maxRecDepth 20000 in
theorem tm_206 : (.instanceMethod yX12_restore : Cond) ∈ lw_tbl := z_tbI4 _ (List.mem_of_getElem? (i := 197) rfl)
set_option maxRecDepth 20000 in
theorem tm_207 : (.selects RX12 yX12_restore yX12_restore : Cond) ∈ lw_tbl := z_tbI4 _ (List.mem_of_getElem? (i := 198) rfl)
set_option maxRecDepth 20000 in
theorem tm_208 : (.methodLink RL 141 yX11_count : Cond) ∈ lw_tbl := z_tbI3 _ (List.mem_of_getElem? (i := 237) rfl)
set_option maxRecDepth 20000 in
theorem tm_209 : (.instanceMethod yX11_count : Cond) ∈ lw_tbl := z_tbI3 _ (List.mem_of_getElem? (i := 238) rfl)
set_option maxRecDepth 20000 in
theorem tm_210 : (.selects RX11 yX11_count yX11_count : Cond) ∈ lw_tbl := z_tbI3 _ (List.mem_of_getElem? (i := 239) rfl)
set_option maxRecDepth 20000 in
theorem tm_211 : (.methodLink RL 144 yX12_count : Cond) ∈ lw_tbl := z_tbI5 _ (List.mem_of_getElem? (i := 207) rfl)
set_option maxRecDepth 20000 in
theorem tm_212 : (.instanceMethod yX12_count : Cond) ∈ lw_tbl := z_tbI5 _ (List.mem_of_getElem? (i := 208) rfl)
set_option maxRecDepth 20000 in
theorem tm_213 : (.selects RX12 yX12_count yX12_count : Cond) ∈ lw_tbl := z_tbI5 _ (List.mem_of_getElem? (i := 209) rfl)
set_option maxRecDepth 20000 in
theorem vsL_in_5 : ∀ w ∈ vsL_5, w ∈ lw_tbl := z_fc tm_200 <| z_fc tm_201 <| z_fc tm_202 <| z_fc tm_203 <| z_fc tm_204 <| z_fc tm_205 <| z_fc tm_206 <| z_fc tm_207 <| z_fc tm_208 <| z_fc tm_209 <| z_fc tm_210 <| z_fc tm_211 <| z_fc tm_212 <| z_fc tm_213 <| z_fn
theorem vsLw_in : ∀ w ∈ vsLw, w ∈ lw_tbl := List.forall_mem_append.mpr ⟨vsL_in_0, List.forall_mem_append.mpr ⟨vsL_in_1, List.forall_mem_append.mpr ⟨vsL_in_2, List.forall_mem_append.mpr ⟨vsL_in_3, List.forall_mem_append.mpr ⟨vsL_in_4, vsL_in_5⟩⟩⟩⟩⟩
set_option maxRecDepth 20000 in
theorem vsLc_in_0 : ∀ w ∈ wsX00, w ∈ lw_tbl := z_inQ _ [(2, 40)] (by decide +kernel)
set_option maxRecDepth 20000 in
theorem vsLc_in_1 : ∀ w ∈ wsX10, w ∈ lw_tbl := z_inQ _ [(2, 57)] (by decide +kernel)
set_option maxRecDepth 20000 in
theorem vsLc_in_2 : ∀ w ∈ wsX20, w ∈ lw_tbl := z_inQ _ [(1, 147), (1, 149), (1, 151)] (by decide +kernel)
set_option maxRecDepth 20000 in
theorem vsLc_in_3 : ∀ w ∈ wsX30, w ∈ lw_tbl := z_inQ _ [(2, 73)] (by decide +kernel)
set_option maxRecDepth 20000 in
theorem vsLc_in_4 : ∀ w ∈ wsX40, w ∈ lw_tbl := z_inQ _ [(1, 163), (1, 165)] (by decide +kernel)
set_option maxRecDepth 20000 in
theorem vsLc_in_5 : ∀ w ∈ wsX50, w ∈ lw_tbl := z_inQ _ [(1, 134), (1, 136)] (by decide +kernel)
set_option maxRecDepth 20000 in
theorem vsLc_in_6 : ∀ w ∈ wsX60, w ∈ lw_tbl := z_inQ _ [(2, 78)] (by decide +kernel)
set_option maxRecDepth 20000 in
theorem vsLc_in_7 : ∀ w ∈ wsX70, w ∈ lw_tbl := z_inQ _ [(1, 93), (1, 95), (1, 97), (1, 99), (1, 101), (1, 103), (1, 105), (1, 107), (1, 109), (1, 111), (1, 113), (1, 115)] (by decide +kernel)
set_option maxRecDepth 20000 in
theorem vsLc_in_8 : ∀ w ∈ wsX80, w ∈ lw_tbl := z_inQ _ [(2, 49)] (by decide +kernel)
set_option maxRecDepth 20000 in
theorem vsLc_in_9 : ∀ w ∈ wsX90, w ∈ lw_tbl := z_inQ _ [(1, 52), (1, 54), (1, 56), (1, 58), (1, 60)] (by decide +kernel)
set_option maxRecDepth 20000 in
theorem vsLc_in_10 : ∀ w ∈ wsX100, w ∈ lw_tbl := z_inQ _ [(2, 65)] (by decide +kernel)
set_option maxRecDepth 20000 in
theorem vsLc_in_11 : ∀ w ∈ wsX110, w ∈ lw_tbl := z_inQ _ [(1, 177), (1, 179), (1, 181), (1, 183), (1, 185), (1, 187), (1, 189), (1, 191), (1, 193)] (by decide +kernel)
set_option maxRecDepth 20000 in
theorem vsLc_in_12 : ∀ w ∈ wsX120, w ∈ lw_tbl := z_inQ _ [(4, 49), (4, 51), (4, 53), (4, 55), (4, 57), (4, 59), (4, 61), (4, 63), (4, 65), (4, 67), (4, 69), (4, 71), (4, 73), (4, 75), (4, 77), (4, 79), (4, 81), (4, 83), (4, 85), (4, 87), (4, 89), (4, 91), (4, 93), (4, 95), (4, 97), (4, 99), (4, 101), (4, 103), (4, 105), (4, 107), (4, 109), (4, 111), (4, 113), (4, 115), (4, 117), (4, 119), (4, 121), (4, 123)] (by decide +kernel)
theorem vsLc_in : ∀ w ∈ vsLc, w ∈ lw_tbl := List.forall_mem_append.mpr ⟨vsLc_in_0, List.forall_mem_append.mpr ⟨vsLc_in_1, List.forall_mem_append.mpr ⟨vsLc_in_2, List.forall_mem_append.mpr ⟨vsLc_in_3, List.forall_mem_append.mpr ⟨vsLc_in_4, List.forall_mem_append.mpr ⟨vsLc_in_5, List.forall_mem_append.mpr ⟨vsLc_in_6, List.forall_mem_append.mpr ⟨vsLc_in_7, List.forall_mem_append.mpr ⟨vsLc_in_8, List.forall_mem_append.mpr ⟨vsLc_in_9, List.forall_mem_append.mpr ⟨vsLc_in_10, List.forall_mem_append.mpr ⟨vsLc_in_11, vsLc_in_12⟩⟩⟩⟩⟩⟩⟩⟩⟩⟩⟩⟩
set_option maxRecDepth 20000 in
theorem tm_214 : (.code yX11_bitAt cX11_bitAt 2 (some .int) : Cond) ∈ lw_tbl := z_tbI2 _ (List.mem_of_getElem? (i := 151) rfl)
set_option maxRecDepth 20000 in
theorem vo_in_X11_bitAt : ∀ w ∈ .code yX11_bitAt cX11_bitAt 2 (some .int) :: voX11_bitAt, w ∈ lw_tbl := z_fc tm_214 <| z_fn
theorem vi_X11_bitAt : ∀ w ∈ vsX11_bitAt, w ∈ lw_tbl := List.forall_mem_cons.mpr ⟨vo_in_X11_bitAt _ (List.mem_cons_self ..), (fun _ h => vo_in_X11_bitAt _ (List.mem_cons_of_mem _ h))⟩
set_option maxRecDepth 20000 in
theorem tm_215 : (.code yX11_leastOf cX11_leastOf 2 (some .int) : Cond) ∈ lw_tbl := z_tbI2 _ (List.mem_of_getElem? (i := 228) rfl)
set_option maxRecDepth 20000 in
theorem vo_in_X11_leastOf : ∀ w ∈ .code yX11_leastOf cX11_leastOf 2 (some .int) :: voX11_leastOf, w ∈ lw_tbl := z_fc tm_215 <| z_fn
theorem vi_X11_leastOf : ∀ w ∈ vsX11_leastOf, w ∈ lw_tbl := List.forall_mem_cons.mpr ⟨vo_in_X11_leastOf _ (List.mem_cons_self ..), (fun _ h => vo_in_X11_leastOf _ (List.mem_cons_of_mem _ h))⟩
set_option maxRecDepth 20000 in
theorem tm_216 : (.code yX11_greatestOf cX11_greatestOf 2 (some .int) : Cond) ∈ lw_tbl := z_tbI2 _ (List.mem_of_getElem? (i := 235) rfl)
set_option maxRecDepth 20000 in
theorem vo_in_X11_greatestOf : ∀ w ∈ .code yX11_greatestOf cX11_greatestOf 2 (some .int) :: voX11_greatestOf, w ∈ lw_tbl := z_fc tm_216 <| z_fn
theorem vi_X11_greatestOf : ∀ w ∈ vsX11_greatestOf, w ∈ lw_tbl := List.forall_mem_cons.mpr ⟨vo_in_X11_greatestOf _ (List.mem_cons_self ..), (fun _ h => vo_in_X11_greatestOf _ (List.mem_cons_of_mem _ h))⟩
set_option maxRecDepth 20000 in
theorem tm_217 : (.code yX11_greatestDivisor cX11_greatestDivisor 3 (some .int) : Cond) ∈ lw_tbl := z_tbI3 _ (List.mem_of_getElem? (i := 119) rfl)
set_option maxRecDepth 20000 in
theorem tm_218 : (.methodLink RX11 244 Lib.Math.min.name : Cond) ∈ lw_tbl := z_tbI3 _ (List.mem_of_getElem? (i := 120) rfl)
set_option maxRecDepth 20000 in
theorem tm_219 : (.static Lib.Math.min.name : Cond) ∈ lw_tbl := z_tbI2 _ (List.mem_of_getElem? (i := 185) rfl)
set_option maxRecDepth 20000 in
theorem tm_220 : (.initialized "java/lang/Math" : Cond) ∈ lw_tbl := z_tbI1 _ (List.mem_of_getElem? (i := 14) rfl)
set_option maxRecDepth 20000 in
theorem tm_221 : (.code Lib.Math.min.name Lib.Math.min.code 2 (some .int) : Cond) ∈ lw_tbl := z_tbI2 _ (List.mem_of_getElem? (i := 186) rfl)
set_option maxRecDepth 20000 in
theorem vo_in_X11_greatestDivisor : ∀ w ∈ .code yX11_greatestDivisor cX11_greatestDivisor 3 (some .int) :: voX11_greatestDivisor, w ∈ lw_tbl := z_fc tm_217 <| z_fc tm_218 <| z_fc tm_219 <| z_fc tm_220 <| z_fc tm_221 <| z_fn
theorem vi_X11_greatestDivisor : ∀ w ∈ vsX11_greatestDivisor, w ∈ lw_tbl := List.forall_mem_cons.mpr ⟨vo_in_X11_greatestDivisor _ (List.mem_cons_self ..), (fun _ h => vo_in_X11_greatestDivisor _ (List.mem_cons_of_mem _ h))⟩
set_option maxRecDepth 20000 in
theorem tm_222 : (.code yX4_at cX4_at 2 (some .int) : Cond) ∈ lw_tbl := z_tbI1 _ (List.mem_of_getElem? (i := 227) rfl)
set_option maxRecDepth 20000 in
theorem tm_223 : (.fieldLink RX4 15 "EachOnHisCue$Letters" "size" "I" : Cond) ∈ lw_tbl := z_tbI1 _ (List.mem_of_getElem? (i := 161) rfl)
set_option maxRecDepth 20000 in
theorem tm_224 : (.fieldLink RX4 9 "EachOnHisCue$Letters" "row" "[I" : Cond) ∈ lw_tbl := z_tbI1 _ (List.mem_of_getElem? (i := 160) rfl)
set_option maxRecDepth 20000 in
theorem vo_in_X4_at : ∀ w ∈ .code yX4_at cX4_at 2 (some .int) :: voX4_at, w ∈ lw_tbl := z_fc tm_222 <| z_fc tm_223 <| z_fc tm_224 <| z_fn
theorem vi_X4_at : ∀ w ∈ vsX4_at, w ∈ lw_tbl := List.forall_mem_cons.mpr ⟨vo_in_X4_at _ (List.mem_cons_self ..), List.forall_mem_append.mpr ⟨(fun _ h => vo_in_X4_at _ (List.mem_cons_of_mem _ h)), vsLc_in_4⟩⟩
set_option maxRecDepth 20000 in
theorem tm_225 : (.code yX4_isDigit cX4_isDigit 2 (some .boolean) : Cond) ∈ lw_tbl := z_tbI1 _ (List.mem_of_getElem? (i := 231) rfl)
set_option maxRecDepth 20000 in
theorem tm_226 : (.methodLink RX4 19 yX4_at : Cond) ∈ lw_tbl := z_tbI1 _ (List.mem_of_getElem? (i := 224) rfl)
set_option maxRecDepth 20000 in
theorem tm_227 : (.instanceMethod yX4_at : Cond) ∈ lw_tbl := z_tbI1 _ (List.mem_of_getElem? (i := 225) rfl)
set_option maxRecDepth 20000 in
theorem tm_228 : (.selects RX4 yX4_at yX4_at : Cond) ∈ lw_tbl := z_tbI1 _ (List.mem_of_getElem? (i := 226) rfl)
set_option maxRecDepth 20000 in
theorem tm_229 : (.initialized RX4 : Cond) ∈ lw_tbl := z_tbI1 _ (List.mem_of_getElem? (i := 6) rfl)
set_option maxRecDepth 20000 in
theorem vo_in_X4_isDigit : ∀ w ∈ .code yX4_isDigit cX4_isDigit 2 (some .boolean) :: voX4_isDigit, w ∈ lw_tbl := z_fc tm_225 <| z_fc tm_226 <| z_fc tm_227 <| z_fc tm_228 <| z_fc tm_229 <| z_fn
theorem vi_X4_isDigit : ∀ w ∈ vsX4_isDigit, w ∈ lw_tbl := List.forall_mem_cons.mpr ⟨vo_in_X4_isDigit _ (List.mem_cons_self ..), List.forall_mem_append.mpr ⟨(fun _ h => vo_in_X4_isDigit _ (List.mem_cons_of_mem _ h)), vi_X4_at⟩⟩
set_option maxRecDepth 20000 in
theorem tm_230 : (.code yX4_isWord cX4_isWord 2 (some .boolean) : Cond) ∈ lw_tbl := z_tbI1 _ (List.mem_of_getElem? (i := 235) rfl)
set_option maxRecDepth 20000 in
theorem vo_in_X4_isWord : ∀ w ∈ .code yX4_isWord cX4_isWord 2 (some .boolean) :: voX4_isWord, w ∈ lw_tbl := z_fc tm_230 <| z_fc tm_226 <| z_fc tm_227 <| z_fc tm_228 <| z_fc tm_229 <| z_fn
theorem vi_X4_isWord : ∀ w ∈ vsX4_isWord, w ∈ lw_tbl := List.forall_mem_cons.mpr ⟨vo_in_X4_isWord _ (List.mem_cons_self ..), List.forall_mem_append.mpr ⟨(fun _ h => vo_in_X4_isWord _ (List.mem_cons_of_mem _ h)), vi_X4_at⟩⟩
set_option maxRecDepth 20000 in
theorem tm_231 : (.code yX4_digit cX4_digit 2 (some .int) : Cond) ∈ lw_tbl := z_tbI2 _ (List.mem_of_getElem? (i := 11) rfl)
set_option maxRecDepth 20000 in
theorem vo_in_X4_digit : ∀ w ∈ .code yX4_digit cX4_digit 2 (some .int) :: voX4_digit, w ∈ lw_tbl := z_fc tm_231 <| z_fc tm_226 <| z_fc tm_227 <| z_fc tm_228 <| z_fc tm_229 <| z_fn
theorem vi_X4_digit : ∀ w ∈ vsX4_digit, w ∈ lw_tbl := List.forall_mem_cons.mpr ⟨vo_in_X4_digit _ (List.mem_cons_self ..), List.forall_mem_append.mpr ⟨(fun _ h => vo_in_X4_digit _ (List.mem_cons_of_mem _ h)), vi_X4_at⟩⟩
set_option maxRecDepth 20000 in
theorem tm_232 : (.code yX4_begins cX4_begins 2 (some .boolean) : Cond) ∈ lw_tbl := z_tbI2 _ (List.mem_of_getElem? (i := 3) rfl)
set_option maxRecDepth 20000 in
theorem vo_in_X4_begins : ∀ w ∈ .code yX4_begins cX4_begins 2 (some .boolean) :: voX4_begins, w ∈ lw_tbl := z_fc tm_232 <| z_fc tm_226 <| z_fc tm_227 <| z_fc tm_228 <| z_fc tm_229 <| z_fn
theorem vi_X4_begins : ∀ w ∈ vsX4_begins, w ∈ lw_tbl := List.forall_mem_cons.mpr ⟨vo_in_X4_begins _ (List.mem_cons_self ..), List.forall_mem_append.mpr ⟨(fun _ h => vo_in_X4_begins _ (List.mem_cons_of_mem _ h)), vi_X4_at⟩⟩
set_option maxRecDepth 20000 in
theorem tm_233 : (.code yX4_wordsBehind cX4_wordsBehind 3 (some .int) : Cond) ∈ lw_tbl := z_tbI2 _ (List.mem_of_getElem? (i := 19) rfl)
set_option maxRecDepth 20000 in
theorem tm_234 : (.methodLink RX4 39 yX4_isWord : Cond) ∈ lw_tbl := z_tbI1 _ (List.mem_of_getElem? (i := 232) rfl)
set_option maxRecDepth 20000 in
theorem tm_235 : (.instanceMethod yX4_isWord : Cond) ∈ lw_tbl := z_tbI1 _ (List.mem_of_getElem? (i := 233) rfl)
set_option maxRecDepth 20000 in
theorem tm_236 : (.selects RX4 yX4_isWord yX4_isWord : Cond) ∈ lw_tbl := z_tbI1 _ (List.mem_of_getElem? (i := 234) rfl)
set_option maxRecDepth 20000 in
theorem vo_in_X4_wordsBehind : ∀ w ∈ .code yX4_wordsBehind cX4_wordsBehind 3 (some .int) :: voX4_wordsBehind, w ∈ lw_tbl := z_fc tm_233 <| z_fc tm_234 <| z_fc tm_235 <| z_fc tm_236 <| z_fc tm_229 <| z_fn
theorem vi_X4_wordsBehind : ∀ w ∈ vsX4_wordsBehind, w ∈ lw_tbl := List.forall_mem_cons.mpr ⟨vo_in_X4_wordsBehind _ (List.mem_cons_self ..), List.forall_mem_append.mpr ⟨(fun _ h => vo_in_X4_wordsBehind _ (List.mem_cons_of_mem _ h)), vi_X4_isWord⟩⟩
set_option maxRecDepth 20000 in
theorem tm_237 : (.code yX4_isPlayer cX4_isPlayer 3 (some .boolean) : Cond) ∈ lw_tbl := z_tbI2 _ (List.mem_of_getElem? (i := 7) rfl)
set_option maxRecDepth 20000 in
theorem tm_238 : (.methodLink RX4 61 yX4_digit : Cond) ∈ lw_tbl := z_tbI2 _ (List.mem_of_getElem? (i := 8) rfl)
set_option maxRecDepth 20000 in
theorem tm_239 : (.instanceMethod yX4_digit : Cond) ∈ lw_tbl := z_tbI2 _ (List.mem_of_getElem? (i := 9) rfl)
set_option maxRecDepth 20000 in
theorem tm_240 : (.selects RX4 yX4_digit yX4_digit : Cond) ∈ lw_tbl := z_tbI2 _ (List.mem_of_getElem? (i := 10) rfl)
set_option maxRecDepth 20000 in
theorem vo_in_X4_isPlayer : ∀ w ∈ .code yX4_isPlayer cX4_isPlayer 3 (some .boolean) :: voX4_isPlayer, w ∈ lw_tbl := z_fc tm_237 <| z_fc tm_238 <| z_fc tm_239 <| z_fc tm_240 <| z_fc tm_229 <| z_fn
theorem vi_X4_isPlayer : ∀ w ∈ vsX4_isPlayer, w ∈ lw_tbl := List.forall_mem_cons.mpr ⟨vo_in_X4_isPlayer _ (List.mem_cons_self ..), List.forall_mem_append.mpr ⟨(fun _ h => vo_in_X4_isPlayer _ (List.mem_cons_of_mem _ h)), vi_X4_digit⟩⟩
set_option maxRecDepth 20000 in
theorem tm_241 : (.code yX4_isLine cX4_isLine 5 (some .boolean) : Cond) ∈ lw_tbl := z_tbI2 _ (List.mem_of_getElem? (i := 15) rfl)
set_option maxRecDepth 20000 in
theorem tm_242 : (.methodLink RX4 64 yX4_wordsBehind : Cond) ∈ lw_tbl := z_tbI2 _ (List.mem_of_getElem? (i := 16) rfl)
set_option maxRecDepth 20000 in
theorem tm_243 : (.instanceMethod yX4_wordsBehind : Cond) ∈ lw_tbl := z_tbI2 _ (List.mem_of_getElem? (i := 17) rfl)
set_option maxRecDepth 20000 in
theorem tm_244 : (.selects RX4 yX4_wordsBehind yX4_wordsBehind : Cond) ∈ lw_tbl := z_tbI2 _ (List.mem_of_getElem? (i := 18) rfl)
set_option maxRecDepth 20000 in
theorem vo_in_X4_isLine : ∀ w ∈ .code yX4_isLine cX4_isLine 5 (some .boolean) :: voX4_isLine, w ∈ lw_tbl := z_fc tm_241 <| z_fc tm_242 <| z_fc tm_243 <| z_fc tm_244 <| z_fc tm_229 <| z_fc tm_238 <| z_fc tm_239 <| z_fc tm_240 <| z_fn
theorem vi_X4_isLine : ∀ w ∈ vsX4_isLine, w ∈ lw_tbl := List.forall_mem_cons.mpr ⟨vo_in_X4_isLine _ (List.mem_cons_self ..), List.forall_mem_append.mpr ⟨(fun _ h => vo_in_X4_isLine _ (List.mem_cons_of_mem _ h)), List.forall_mem_append.mpr ⟨vi_X4_wordsBehind, vi_X4_digit⟩⟩⟩
set_option maxRecDepth 20000 in
theorem tm_245 : (.code yX4_stateBehind cX4_stateBehind 5 (some .int) : Cond) ∈ lw_tbl := z_tbI1 _ (List.mem_of_getElem? (i := 223) rfl)
set_option maxRecDepth 20000 in
theorem tm_246 : (.methodLink RX4 35 yX4_isDigit : Cond) ∈ lw_tbl := z_tbI1 _ (List.mem_of_getElem? (i := 228) rfl)
set_option maxRecDepth 20000 in
theorem tm_247 : (.instanceMethod yX4_isDigit : Cond) ∈ lw_tbl := z_tbI1 _ (List.mem_of_getElem? (i := 229) rfl)
set_option maxRecDepth 20000 in
theorem tm_248 : (.selects RX4 yX4_isDigit yX4_isDigit : Cond) ∈ lw_tbl := z_tbI1 _ (List.mem_of_getElem? (i := 230) rfl)
set_option maxRecDepth 20000 in
theorem vo_in_X4_stateBehind : ∀ w ∈ .code yX4_stateBehind cX4_stateBehind 5 (some .int) :: voX4_stateBehind, w ∈ lw_tbl := z_fc tm_245 <| z_fc tm_226 <| z_fc tm_227 <| z_fc tm_228 <| z_fc tm_229 <| z_fc tm_246 <| z_fc tm_247 <| z_fc tm_248 <| z_fc tm_234 <| z_fc tm_235 <| z_fc tm_236 <| z_fn
theorem vi_X4_stateBehind : ∀ w ∈ vsX4_stateBehind, w ∈ lw_tbl := List.forall_mem_cons.mpr ⟨vo_in_X4_stateBehind _ (List.mem_cons_self ..), List.forall_mem_append.mpr ⟨(fun _ h => vo_in_X4_stateBehind _ (List.mem_cons_of_mem _ h)), List.forall_mem_append.mpr ⟨vi_X4_at, List.forall_mem_append.mpr ⟨vi_X4_isDigit, vi_X4_isWord⟩⟩⟩⟩
set_option maxRecDepth 20000 in
theorem tm_249 : (.code yX4_firstWrongLetter cX4_firstWrongLetter 4 (some .int) : Cond) ∈ lw_tbl := z_tbI1 _ (List.mem_of_getElem? (i := 219) rfl)
set_option maxRecDepth 20000 in
theorem tm_250 : (.methodLink RX4 31 yX4_stateBehind : Cond) ∈ lw_tbl := z_tbI1 _ (List.mem_of_getElem? (i := 220) rfl)
set_option maxRecDepth 20000 in
theorem tm_251 : (.instanceMethod yX4_stateBehind : Cond) ∈ lw_tbl := z_tbI1 _ (List.mem_of_getElem? (i := 221) rfl)
set_option maxRecDepth 20000 in
theorem tm_252 : (.selects RX4 yX4_stateBehind yX4_stateBehind : Cond) ∈ lw_tbl := z_tbI1 _ (List.mem_of_getElem? (i := 222) rfl)
set_option maxRecDepth 20000 in
theorem vo_in_X4_firstWrongLetter : ∀ w ∈ .code yX4_firstWrongLetter cX4_firstWrongLetter 4 (some .int) :: voX4_firstWrongLetter, w ∈ lw_tbl := z_fc tm_249 <| z_fc tm_223 <| z_fc tm_250 <| z_fc tm_251 <| z_fc tm_252 <| z_fc tm_229 <| z_fn
theorem vi_X4_firstWrongLetter : ∀ w ∈ vsX4_firstWrongLetter, w ∈ lw_tbl := List.forall_mem_cons.mpr ⟨vo_in_X4_firstWrongLetter _ (List.mem_cons_self ..), List.forall_mem_append.mpr ⟨(fun _ h => vo_in_X4_firstWrongLetter _ (List.mem_cons_of_mem _ h)), List.forall_mem_append.mpr ⟨vi_X4_stateBehind, vsLc_in_4⟩⟩⟩
set_option maxRecDepth 20000 in
theorem tm_253 : (.code yX4_firstWrongStatement cX4_firstWrongStatement 6 (some .int) : Cond) ∈ lw_tbl := z_tbI1 _ (List.mem_of_getElem? (i := 239) rfl)
set_option maxRecDepth 20000 in
theorem tm_254 : (.fieldLink RX4 42 "EachOnHisCue$Play" "players" "I" : Cond) ∈ lw_tbl := z_tbI1 _ (List.mem_of_getElem? (i := 71) rfl)
set_option maxRecDepth 20000 in
theorem tm_255 : (.fieldLink RX4 47 "EachOnHisCue$Play" "lines" "I" : Cond) ∈ lw_tbl := z_tbI1 _ (List.mem_of_getElem? (i := 88) rfl)
set_option maxRecDepth 20000 in
theorem tm_256 : (.methodLink RX4 50 yX4_begins : Cond) ∈ lw_tbl := z_tbI2 _ (List.mem_of_getElem? (i := 0) rfl)
set_option maxRecDepth 20000 in
theorem tm_257 : (.instanceMethod yX4_begins : Cond) ∈ lw_tbl := z_tbI2 _ (List.mem_of_getElem? (i := 1) rfl)
set_option maxRecDepth 20000 in
theorem tm_258 : (.selects RX4 yX4_begins yX4_begins : Cond) ∈ lw_tbl := z_tbI2 _ (List.mem_of_getElem? (i := 2) rfl)
set_option maxRecDepth 20000 in
theorem tm_259 : (.methodLink RX4 57 yX4_isLine : Cond) ∈ lw_tbl := z_tbI2 _ (List.mem_of_getElem? (i := 12) rfl)
set_option maxRecDepth 20000 in
theorem tm_260 : (.instanceMethod yX4_isLine : Cond) ∈ lw_tbl := z_tbI2 _ (List.mem_of_getElem? (i := 13) rfl)
set_option maxRecDepth 20000 in
theorem tm_261 : (.selects RX4 yX4_isLine yX4_isLine : Cond) ∈ lw_tbl := z_tbI2 _ (List.mem_of_getElem? (i := 14) rfl)
set_option maxRecDepth 20000 in
theorem tm_262 : (.methodLink RX4 53 yX4_isPlayer : Cond) ∈ lw_tbl := z_tbI2 _ (List.mem_of_getElem? (i := 4) rfl)
set_option maxRecDepth 20000 in
theorem tm_263 : (.instanceMethod yX4_isPlayer : Cond) ∈ lw_tbl := z_tbI2 _ (List.mem_of_getElem? (i := 5) rfl)
set_option maxRecDepth 20000 in
theorem tm_264 : (.selects RX4 yX4_isPlayer yX4_isPlayer : Cond) ∈ lw_tbl := z_tbI2 _ (List.mem_of_getElem? (i := 6) rfl)
set_option maxRecDepth 20000 in
theorem vo_in_X4_firstWrongStatement : ∀ w ∈ .code yX4_firstWrongStatement cX4_firstWrongStatement 6 (some .int) :: voX4_firstWrongStatement, w ∈ lw_tbl := z_fc tm_253 <| z_fc tm_254 <| z_fc tm_255 <| z_fc tm_223 <| z_fc tm_256 <| z_fc tm_257 <| z_fc tm_258 <| z_fc tm_229 <| z_fc tm_226 <| z_fc tm_227 <| z_fc tm_228 <| z_fc tm_259 <| z_fc tm_260 <| z_fc tm_261 <| z_fc tm_262 <| z_fc tm_263 <| z_fc tm_264 <| z_fn
theorem vi_X4_firstWrongStatement : ∀ w ∈ vsX4_firstWrongStatement, w ∈ lw_tbl := List.forall_mem_cons.mpr ⟨vo_in_X4_firstWrongStatement _ (List.mem_cons_self ..), List.forall_mem_append.mpr ⟨(fun _ h => vo_in_X4_firstWrongStatement _ (List.mem_cons_of_mem _ h)), List.forall_mem_append.mpr ⟨vi_X4_begins, List.forall_mem_append.mpr ⟨vi_X4_at, List.forall_mem_append.mpr ⟨vi_X4_isLine, List.forall_mem_append.mpr ⟨vi_X4_isPlayer, List.forall_mem_append.mpr ⟨vsLc_in_4, vsLc_in_7⟩⟩⟩⟩⟩⟩⟩
set_option maxRecDepth 20000 in
theorem tm_265 : (.code yX4_firstFault cX4_firstFault 3 (some .int) : Cond) ∈ lw_tbl := z_tbI1 _ (List.mem_of_getElem? (i := 215) rfl)
set_option maxRecDepth 20000 in
theorem tm_266 : (.methodLink RX4 23 yX4_firstWrongLetter : Cond) ∈ lw_tbl := z_tbI1 _ (List.mem_of_getElem? (i := 216) rfl)
set_option maxRecDepth 20000 in
theorem tm_267 : (.instanceMethod yX4_firstWrongLetter : Cond) ∈ lw_tbl := z_tbI1 _ (List.mem_of_getElem? (i := 217) rfl)
set_option maxRecDepth 20000 in
theorem tm_268 : (.selects RX4 yX4_firstWrongLetter yX4_firstWrongLetter : Cond) ∈ lw_tbl := z_tbI1 _ (List.mem_of_getElem? (i := 218) rfl)
set_option maxRecDepth 20000 in
theorem tm_269 : (.methodLink RX4 27 yX4_firstWrongStatement : Cond) ∈ lw_tbl := z_tbI1 _ (List.mem_of_getElem? (i := 236) rfl)
set_option maxRecDepth 20000 in
theorem tm_270 : (.instanceMethod yX4_firstWrongStatement : Cond) ∈ lw_tbl := z_tbI1 _ (List.mem_of_getElem? (i := 237) rfl)
set_option maxRecDepth 20000 in
theorem tm_271 : (.selects RX4 yX4_firstWrongStatement yX4_firstWrongStatement : Cond) ∈ lw_tbl := z_tbI1 _ (List.mem_of_getElem? (i := 238) rfl)
set_option maxRecDepth 20000 in
theorem vo_in_X4_firstFault : ∀ w ∈ .code yX4_firstFault cX4_firstFault 3 (some .int) :: voX4_firstFault, w ∈ lw_tbl := z_fc tm_265 <| z_fc tm_266 <| z_fc tm_267 <| z_fc tm_268 <| z_fc tm_229 <| z_fc tm_269 <| z_fc tm_270 <| z_fc tm_271 <| z_fn
theorem vi_X4_firstFault : ∀ w ∈ vsX4_firstFault, w ∈ lw_tbl := List.forall_mem_cons.mpr ⟨vo_in_X4_firstFault _ (List.mem_cons_self ..), List.forall_mem_append.mpr ⟨(fun _ h => vo_in_X4_firstFault _ (List.mem_cons_of_mem _ h)), List.forall_mem_append.mpr ⟨vi_X4_firstWrongLetter, vi_X4_firstWrongStatement⟩⟩⟩
set_option maxRecDepth 20000 in
theorem tm_272 : (.code yX7_hasPlayer cX7_hasPlayer 2 (some .boolean) : Cond) ∈ lw_tbl := z_tbI2 _ (List.mem_of_getElem? (i := 95) rfl)
set_option maxRecDepth 20000 in
theorem tm_273 : (.fieldLink RX7 24 "EachOnHisCue$Play" "players" "I" : Cond) ∈ lw_tbl := z_tbI1 _ (List.mem_of_getElem? (i := 69) rfl)
set_option maxRecDepth 20000 in
theorem vo_in_X7_hasPlayer : ∀ w ∈ .code yX7_hasPlayer cX7_hasPlayer 2 (some .boolean) :: voX7_hasPlayer, w ∈ lw_tbl := z_fc tm_272 <| z_fc tm_273 <| z_fn
theorem vi_X7_hasPlayer : ∀ w ∈ vsX7_hasPlayer, w ∈ lw_tbl := List.forall_mem_cons.mpr ⟨vo_in_X7_hasPlayer _ (List.mem_cons_self ..), List.forall_mem_append.mpr ⟨(fun _ h => vo_in_X7_hasPlayer _ (List.mem_cons_of_mem _ h)), vsLc_in_7⟩⟩
set_option maxRecDepth 20000 in
theorem tm_274 : (.code yX7_hasLine cX7_hasLine 2 (some .boolean) : Cond) ∈ lw_tbl := z_tbI2 _ (List.mem_of_getElem? (i := 159) rfl)
set_option maxRecDepth 20000 in
theorem tm_275 : (.fieldLink RX7 43 "EachOnHisCue$Play" "lines" "I" : Cond) ∈ lw_tbl := z_tbI1 _ (List.mem_of_getElem? (i := 84) rfl)
set_option maxRecDepth 20000 in
theorem vo_in_X7_hasLine : ∀ w ∈ .code yX7_hasLine cX7_hasLine 2 (some .boolean) :: voX7_hasLine, w ∈ lw_tbl := z_fc tm_274 <| z_fc tm_275 <| z_fn
theorem vi_X7_hasLine : ∀ w ∈ vsX7_hasLine, w ∈ lw_tbl := List.forall_mem_cons.mpr ⟨vo_in_X7_hasLine _ (List.mem_cons_self ..), List.forall_mem_append.mpr ⟨(fun _ h => vo_in_X7_hasLine _ (List.mem_cons_of_mem _ h)), vsLc_in_7⟩⟩
set_option maxRecDepth 20000 in
theorem tm_276 : (.code yX7_endsAsAhead cX7_endsAsAhead 7 (some .boolean) : Cond) ∈ lw_tbl := z_tbI2 _ (List.mem_of_getElem? (i := 208) rfl)
set_option maxRecDepth 20000 in
theorem tm_277 : (.fieldLink RX7 34 "EachOnHisCue$Play" "sizes" "[I" : Cond) ∈ lw_tbl := z_tbI1 _ (List.mem_of_getElem? (i := 77) rfl)
set_option maxRecDepth 20000 in
theorem tm_278 : (.methodLink RX7 91 Lib.Math.min.name : Cond) ∈ lw_tbl := z_tbI2 _ (List.mem_of_getElem? (i := 184) rfl)
set_option maxRecDepth 20000 in
theorem tm_279 : (.fieldLink RX7 31 "EachOnHisCue$Play" "texts" "[I" : Cond) ∈ lw_tbl := z_tbI1 _ (List.mem_of_getElem? (i := 75) rfl)
set_option maxRecDepth 20000 in
theorem vo_in_X7_endsAsAhead : ∀ w ∈ .code yX7_endsAsAhead cX7_endsAsAhead 7 (some .boolean) :: voX7_endsAsAhead, w ∈ lw_tbl := z_fc tm_276 <| z_fc tm_275 <| z_fc tm_277 <| z_fc tm_278 <| z_fc tm_219 <| z_fc tm_220 <| z_fc tm_221 <| z_fc tm_279 <| z_fn
theorem vi_X7_endsAsAhead : ∀ w ∈ vsX7_endsAsAhead, w ∈ lw_tbl := List.forall_mem_cons.mpr ⟨vo_in_X7_endsAsAhead _ (List.mem_cons_self ..), List.forall_mem_append.mpr ⟨(fun _ h => vo_in_X7_endsAsAhead _ (List.mem_cons_of_mem _ h)), vsLc_in_7⟩⟩
set_option maxRecDepth 20000 in
theorem tm_280 : (.code yX7_isCuedByAheadAlone cX7_isCuedByAheadAlone 4 (some .boolean) : Cond) ∈ lw_tbl := z_tbI3 _ (List.mem_of_getElem? (i := 99) rfl)
set_option maxRecDepth 20000 in
theorem tm_281 : (.methodLink RX7 99 yX7_endsAsAhead : Cond) ∈ lw_tbl := z_tbI2 _ (List.mem_of_getElem? (i := 205) rfl)
set_option maxRecDepth 20000 in
theorem tm_282 : (.instanceMethod yX7_endsAsAhead : Cond) ∈ lw_tbl := z_tbI2 _ (List.mem_of_getElem? (i := 206) rfl)
set_option maxRecDepth 20000 in
theorem tm_283 : (.selects RX7 yX7_endsAsAhead yX7_endsAsAhead : Cond) ∈ lw_tbl := z_tbI2 _ (List.mem_of_getElem? (i := 207) rfl)
set_option maxRecDepth 20000 in
theorem tm_284 : (.initialized RX7 : Cond) ∈ lw_tbl := z_tbI1 _ (List.mem_of_getElem? (i := 2) rfl)
set_option maxRecDepth 20000 in
theorem vo_in_X7_isCuedByAheadAlone : ∀ w ∈ .code yX7_isCuedByAheadAlone cX7_isCuedByAheadAlone 4 (some .boolean) :: voX7_isCuedByAheadAlone, w ∈ lw_tbl := z_fc tm_280 <| z_fc tm_275 <| z_fc tm_279 <| z_fc tm_277 <| z_fc tm_281 <| z_fc tm_282 <| z_fc tm_283 <| z_fc tm_284 <| z_fn
theorem vi_X7_isCuedByAheadAlone : ∀ w ∈ vsX7_isCuedByAheadAlone, w ∈ lw_tbl := List.forall_mem_cons.mpr ⟨vo_in_X7_isCuedByAheadAlone _ (List.mem_cons_self ..), List.forall_mem_append.mpr ⟨(fun _ h => vo_in_X7_isCuedByAheadAlone _ (List.mem_cons_of_mem _ h)), List.forall_mem_append.mpr ⟨vi_X7_endsAsAhead, vsLc_in_7⟩⟩⟩
set_option maxRecDepth 20000 in
theorem tm_285 : (.code yX7_wordsToMend cX7_wordsToMend 4 (some .int) : Cond) ∈ lw_tbl := z_tbI3 _ (List.mem_of_getElem? (i := 92) rfl)
set_option maxRecDepth 20000 in
theorem tm_286 : (.fieldLink RX7 37 "EachOnHisCue$Play" "cues" "[I" : Cond) ∈ lw_tbl := z_tbI1 _ (List.mem_of_getElem? (i := 80) rfl)
set_option maxRecDepth 20000 in
theorem tm_287 : (.methodLink RX7 103 Lib.Math.max.name : Cond) ∈ lw_tbl := z_tbI3 _ (List.mem_of_getElem? (i := 93) rfl)
set_option maxRecDepth 20000 in
theorem tm_288 : (.static Lib.Math.max.name : Cond) ∈ lw_tbl := z_tbI3 _ (List.mem_of_getElem? (i := 94) rfl)
set_option maxRecDepth 20000 in
theorem tm_289 : (.code Lib.Math.max.name Lib.Math.max.code 2 (some .int) : Cond) ∈ lw_tbl := z_tbI3 _ (List.mem_of_getElem? (i := 95) rfl)
set_option maxRecDepth 20000 in
theorem tm_290 : (.methodLink RX7 106 yX7_isCuedByAheadAlone : Cond) ∈ lw_tbl := z_tbI3 _ (List.mem_of_getElem? (i := 96) rfl)
set_option maxRecDepth 20000 in
theorem tm_291 : (.instanceMethod yX7_isCuedByAheadAlone : Cond) ∈ lw_tbl := z_tbI3 _ (List.mem_of_getElem? (i := 97) rfl)
set_option maxRecDepth 20000 in
theorem tm_292 : (.selects RX7 yX7_isCuedByAheadAlone yX7_isCuedByAheadAlone : Cond) ∈ lw_tbl := z_tbI3 _ (List.mem_of_getElem? (i := 98) rfl)
set_option maxRecDepth 20000 in
theorem vo_in_X7_wordsToMend : ∀ w ∈ .code yX7_wordsToMend cX7_wordsToMend 4 (some .int) :: voX7_wordsToMend, w ∈ lw_tbl := z_fc tm_285 <| z_fc tm_275 <| z_fc tm_286 <| z_fc tm_277 <| z_fc tm_287 <| z_fc tm_288 <| z_fc tm_220 <| z_fc tm_289 <| z_fc tm_290 <| z_fc tm_291 <| z_fc tm_292 <| z_fc tm_284 <| z_fn
theorem vi_X7_wordsToMend : ∀ w ∈ vsX7_wordsToMend, w ∈ lw_tbl := List.forall_mem_cons.mpr ⟨vo_in_X7_wordsToMend _ (List.mem_cons_self ..), List.forall_mem_append.mpr ⟨(fun _ h => vo_in_X7_wordsToMend _ (List.mem_cons_of_mem _ h)), List.forall_mem_append.mpr ⟨vi_X7_isCuedByAheadAlone, vsLc_in_7⟩⟩⟩
set_option maxRecDepth 20000 in
theorem tm_293 : (.code yX7_onStage cX7_onStage 4 (some .int) : Cond) ∈ lw_tbl := z_tbI3 _ (List.mem_of_getElem? (i := 151) rfl)
set_option maxRecDepth 20000 in
theorem tm_294 : (.fieldLink RX7 21 "EachOnHisCue$Play" "own" "[I" : Cond) ∈ lw_tbl := z_tbI1 _ (List.mem_of_getElem? (i := 67) rfl)
set_option maxRecDepth 20000 in
theorem tm_295 : (.static yX11_leastOf : Cond) ∈ lw_tbl := z_tbI2 _ (List.mem_of_getElem? (i := 227) rfl)
set_option maxRecDepth 20000 in
theorem tm_296 : (.static yX11_greatestOf : Cond) ∈ lw_tbl := z_tbI2 _ (List.mem_of_getElem? (i := 234) rfl)
set_option maxRecDepth 20000 in
theorem vo_in_X7_onStage : ∀ w ∈ .code yX7_onStage cX7_onStage 4 (some .int) :: voX7_onStage, w ∈ lw_tbl := z_fc tm_293 <| z_fc tm_273 <| z_fc tm_294 <| z_fc tm_15 <| z_fc tm_295 <| z_fc tm_296 <| z_fn
theorem vi_X7_onStage : ∀ w ∈ vsX7_onStage, w ∈ lw_tbl := List.forall_mem_cons.mpr ⟨vo_in_X7_onStage _ (List.mem_cons_self ..), List.forall_mem_append.mpr ⟨(fun _ h => vo_in_X7_onStage _ (List.mem_cons_of_mem _ h)), List.forall_mem_append.mpr ⟨vi_X11_leastOf, List.forall_mem_append.mpr ⟨vi_X11_greatestOf, vsLc_in_7⟩⟩⟩⟩
set_option maxRecDepth 20000 in
theorem tm_297 : (.code yX7_allWords cX7_allWords 3 (some .int) : Cond) ∈ lw_tbl := z_tbI4 _ (List.mem_of_getElem? (i := 4) rfl)
set_option maxRecDepth 20000 in
theorem vo_in_X7_allWords : ∀ w ∈ .code yX7_allWords cX7_allWords 3 (some .int) :: voX7_allWords, w ∈ lw_tbl := z_fc tm_297 <| z_fc tm_275 <| z_fc tm_277 <| z_fn
theorem vi_X7_allWords : ∀ w ∈ vsX7_allWords, w ∈ lw_tbl := List.forall_mem_cons.mpr ⟨vo_in_X7_allWords _ (List.mem_cons_self ..), List.forall_mem_append.mpr ⟨(fun _ h => vo_in_X7_allWords _ (List.mem_cons_of_mem _ h)), vsLc_in_7⟩⟩
set_option maxRecDepth 20000 in
theorem tm_298 : (.code yX5_stepFrom cX5_stepFrom 4 (some .int) : Cond) ∈ lw_tbl := z_tbI3 _ (List.mem_of_getElem? (i := 70) rfl)
set_option maxRecDepth 20000 in
theorem tm_299 : (.fieldLink RX5 15 "EachOnHisCue$Net" "lines" "I" : Cond) ∈ lw_tbl := z_tbI1 _ (List.mem_of_getElem? (i := 133) rfl)
set_option maxRecDepth 20000 in
theorem tm_300 : (.static yX11_bitAt : Cond) ∈ lw_tbl := z_tbI2 _ (List.mem_of_getElem? (i := 150) rfl)
set_option maxRecDepth 20000 in
theorem tm_301 : (.fieldLink RX5 9 "EachOnHisCue$Net" "after" "[I" : Cond) ∈ lw_tbl := z_tbI1 _ (List.mem_of_getElem? (i := 130) rfl)
set_option maxRecDepth 20000 in
theorem vo_in_X5_stepFrom : ∀ w ∈ .code yX5_stepFrom cX5_stepFrom 4 (some .int) :: voX5_stepFrom, w ∈ lw_tbl := z_fc tm_298 <| z_fc tm_299 <| z_fc tm_15 <| z_fc tm_300 <| z_fc tm_301 <| z_fn
theorem vi_X5_stepFrom : ∀ w ∈ vsX5_stepFrom, w ∈ lw_tbl := List.forall_mem_cons.mpr ⟨vo_in_X5_stepFrom _ (List.mem_cons_self ..), List.forall_mem_append.mpr ⟨(fun _ h => vo_in_X5_stepFrom _ (List.mem_cons_of_mem _ h)), List.forall_mem_append.mpr ⟨vi_X11_bitAt, vsLc_in_5⟩⟩⟩
set_option maxRecDepth 20000 in
theorem tm_302 : (.code yX5_reachedFrom cX5_reachedFrom 4 (some .int) : Cond) ∈ lw_tbl := z_tbI3 _ (List.mem_of_getElem? (i := 66) rfl)
set_option maxRecDepth 20000 in
theorem tm_303 : (.methodLink RX5 44 yX5_stepFrom : Cond) ∈ lw_tbl := z_tbI3 _ (List.mem_of_getElem? (i := 67) rfl)
set_option maxRecDepth 20000 in
theorem tm_304 : (.instanceMethod yX5_stepFrom : Cond) ∈ lw_tbl := z_tbI3 _ (List.mem_of_getElem? (i := 68) rfl)
set_option maxRecDepth 20000 in
theorem tm_305 : (.selects RX5 yX5_stepFrom yX5_stepFrom : Cond) ∈ lw_tbl := z_tbI3 _ (List.mem_of_getElem? (i := 69) rfl)
set_option maxRecDepth 20000 in
theorem tm_306 : (.initialized RX5 : Cond) ∈ lw_tbl := z_tbI1 _ (List.mem_of_getElem? (i := 5) rfl)
set_option maxRecDepth 20000 in
theorem vo_in_X5_reachedFrom : ∀ w ∈ .code yX5_reachedFrom cX5_reachedFrom 4 (some .int) :: voX5_reachedFrom, w ∈ lw_tbl := z_fc tm_302 <| z_fc tm_299 <| z_fc tm_303 <| z_fc tm_304 <| z_fc tm_305 <| z_fc tm_306 <| z_fn
theorem vi_X5_reachedFrom : ∀ w ∈ vsX5_reachedFrom, w ∈ lw_tbl := List.forall_mem_cons.mpr ⟨vo_in_X5_reachedFrom _ (List.mem_cons_self ..), List.forall_mem_append.mpr ⟨(fun _ h => vo_in_X5_reachedFrom _ (List.mem_cons_of_mem _ h)), List.forall_mem_append.mpr ⟨vi_X5_stepFrom, vsLc_in_5⟩⟩⟩
set_option maxRecDepth 20000 in
theorem tm_307 : (.code yX5_fewestSteps cX5_fewestSteps 3 (some .int) : Cond) ∈ lw_tbl := z_tbI3 _ (List.mem_of_getElem? (i := 75) rfl)
set_option maxRecDepth 20000 in
theorem vo_in_X5_fewestSteps : ∀ w ∈ .code yX5_fewestSteps cX5_fewestSteps 3 (some .int) :: voX5_fewestSteps, w ∈ lw_tbl := z_fc tm_307 <| z_fc tm_299 <| z_fc tm_15 <| z_fc tm_300 <| z_fc tm_303 <| z_fc tm_304 <| z_fc tm_305 <| z_fc tm_306 <| z_fn
theorem vi_X5_fewestSteps : ∀ w ∈ vsX5_fewestSteps, w ∈ lw_tbl := List.forall_mem_cons.mpr ⟨vo_in_X5_fewestSteps _ (List.mem_cons_self ..), List.forall_mem_append.mpr ⟨(fun _ h => vo_in_X5_fewestSteps _ (List.mem_cons_of_mem _ h)), List.forall_mem_append.mpr ⟨vi_X11_bitAt, List.forall_mem_append.mpr ⟨vi_X5_stepFrom, vsLc_in_5⟩⟩⟩⟩
set_option maxRecDepth 20000 in
theorem tm_308 : (.code yX5_hasRound cX5_hasRound 3 (some .boolean) : Cond) ∈ lw_tbl := z_tbI3 _ (List.mem_of_getElem? (i := 79) rfl)
set_option maxRecDepth 20000 in
theorem tm_309 : (.methodLink RX5 48 yX5_reachedFrom : Cond) ∈ lw_tbl := z_tbI3 _ (List.mem_of_getElem? (i := 80) rfl)
set_option maxRecDepth 20000 in
theorem tm_310 : (.instanceMethod yX5_reachedFrom : Cond) ∈ lw_tbl := z_tbI3 _ (List.mem_of_getElem? (i := 64) rfl)
set_option maxRecDepth 20000 in
theorem tm_311 : (.selects RX5 yX5_reachedFrom yX5_reachedFrom : Cond) ∈ lw_tbl := z_tbI3 _ (List.mem_of_getElem? (i := 65) rfl)
set_option maxRecDepth 20000 in
theorem vo_in_X5_hasRound : ∀ w ∈ .code yX5_hasRound cX5_hasRound 3 (some .boolean) :: voX5_hasRound, w ∈ lw_tbl := z_fc tm_308 <| z_fc tm_299 <| z_fc tm_15 <| z_fc tm_300 <| z_fc tm_301 <| z_fc tm_309 <| z_fc tm_310 <| z_fc tm_311 <| z_fc tm_306 <| z_fn
theorem vi_X5_hasRound : ∀ w ∈ vsX5_hasRound, w ∈ lw_tbl := List.forall_mem_cons.mpr ⟨vo_in_X5_hasRound _ (List.mem_cons_self ..), List.forall_mem_append.mpr ⟨(fun _ h => vo_in_X5_hasRound _ (List.mem_cons_of_mem _ h)), List.forall_mem_append.mpr ⟨vi_X5_reachedFrom, List.forall_mem_append.mpr ⟨vi_X11_bitAt, vsLc_in_5⟩⟩⟩⟩
set_option maxRecDepth 20000 in
theorem tm_312 : (.code yX5_isSure cX5_isSure 3 (some .boolean) : Cond) ∈ lw_tbl := z_tbI3 _ (List.mem_of_getElem? (i := 84) rfl)
set_option maxRecDepth 20000 in
theorem vo_in_X5_isSure : ∀ w ∈ .code yX5_isSure cX5_isSure 3 (some .boolean) :: voX5_isSure, w ∈ lw_tbl := z_fc tm_312 <| z_fc tm_299 <| z_fc tm_301 <| z_fn
theorem vi_X5_isSure : ∀ w ∈ vsX5_isSure, w ∈ lw_tbl := List.forall_mem_cons.mpr ⟨vo_in_X5_isSure _ (List.mem_cons_self ..), List.forall_mem_append.mpr ⟨(fun _ h => vo_in_X5_isSure _ (List.mem_cons_of_mem _ h)), vsLc_in_5⟩⟩
set_option maxRecDepth 20000 in
theorem tm_313 : (.code yX5_freeBehind cX5_freeBehind 3 (some .int) : Cond) ∈ lw_tbl := z_tbI3 _ (List.mem_of_getElem? (i := 169) rfl)
set_option maxRecDepth 20000 in
theorem vo_in_X5_freeBehind : ∀ w ∈ .code yX5_freeBehind cX5_freeBehind 3 (some .int) :: voX5_freeBehind, w ∈ lw_tbl := z_fc tm_313 <| z_fc tm_299 <| z_fc tm_301 <| z_fn
theorem vi_X5_freeBehind : ∀ w ∈ vsX5_freeBehind, w ∈ lw_tbl := List.forall_mem_cons.mpr ⟨vo_in_X5_freeBehind _ (List.mem_cons_self ..), List.forall_mem_append.mpr ⟨(fun _ h => vo_in_X5_freeBehind _ (List.mem_cons_of_mem _ h)), vsLc_in_5⟩⟩
set_option maxRecDepth 20000 in
theorem tm_314 : (.code yX5_canFollow cX5_canFollow 3 (some .boolean) : Cond) ∈ lw_tbl := z_tbI3 _ (List.mem_of_getElem? (i := 201) rfl)
set_option maxRecDepth 20000 in
theorem vo_in_X5_canFollow : ∀ w ∈ .code yX5_canFollow cX5_canFollow 3 (some .boolean) :: voX5_canFollow, w ∈ lw_tbl := z_fc tm_314 <| z_fc tm_299 <| z_fc tm_301 <| z_fc tm_15 <| z_fc tm_300 <| z_fn
theorem vi_X5_canFollow : ∀ w ∈ vsX5_canFollow, w ∈ lw_tbl := List.forall_mem_cons.mpr ⟨vo_in_X5_canFollow _ (List.mem_cons_self ..), List.forall_mem_append.mpr ⟨(fun _ h => vo_in_X5_canFollow _ (List.mem_cons_of_mem _ h)), List.forall_mem_append.mpr ⟨vi_X11_bitAt, vsLc_in_5⟩⟩⟩
set_option maxRecDepth 20000 in
theorem tm_315 : (.code yX12_isIn cX12_isIn 3 (some .boolean) : Cond) ∈ lw_tbl := z_tbI4 _ (List.mem_of_getElem? (i := 159) rfl)
set_option maxRecDepth 20000 in
theorem vo_in_X12_isIn : ∀ w ∈ .code yX12_isIn cX12_isIn 3 (some .boolean) :: voX12_isIn, w ∈ lw_tbl := z_fc tm_315 <| z_fn
theorem vi_X12_isIn : ∀ w ∈ vsX12_isIn, w ∈ lw_tbl := List.forall_mem_cons.mpr ⟨vo_in_X12_isIn _ (List.mem_cons_self ..), (fun _ h => vo_in_X12_isIn _ (List.mem_cons_of_mem _ h))⟩
set_option maxRecDepth 20000 in
theorem tm_316 : (.code yX12_bound cX12_bound 3 (some .int) : Cond) ∈ lw_tbl := z_tbI4 _ (List.mem_of_getElem? (i := 132) rfl)
set_option maxRecDepth 20000 in
theorem vo_in_X12_bound : ∀ w ∈ .code yX12_bound cX12_bound 3 (some .int) :: voX12_bound, w ∈ lw_tbl := z_fc tm_316 <| z_fn
theorem vi_X12_bound : ∀ w ∈ vsX12_bound, w ∈ lw_tbl := List.forall_mem_cons.mpr ⟨vo_in_X12_bound _ (List.mem_cons_self ..), (fun _ h => vo_in_X12_bound _ (List.mem_cons_of_mem _ h))⟩
set_option maxRecDepth 20000 in
theorem tm_317 : (.code yX12_least cX12_least 2 (some .int) : Cond) ∈ lw_tbl := z_tbI5 _ (List.mem_of_getElem? (i := 6) rfl)
set_option maxRecDepth 20000 in
theorem vo_in_X12_least : ∀ w ∈ .code yX12_least cX12_least 2 (some .int) :: voX12_least, w ∈ lw_tbl := z_fc tm_317 <| z_fn
theorem vi_X12_least : ∀ w ∈ vsX12_least, w ∈ lw_tbl := List.forall_mem_cons.mpr ⟨vo_in_X12_least _ (List.mem_cons_self ..), (fun _ h => vo_in_X12_least _ (List.mem_cons_of_mem _ h))⟩
set_option maxRecDepth 20000 in
theorem tm_318 : (.code yX12_isPlayer cX12_isPlayer 2 (some .boolean) : Cond) ∈ lw_tbl := z_tbI4 _ (List.mem_of_getElem? (i := 187) rfl)
set_option maxRecDepth 20000 in
theorem tm_319 : (.fieldLink RX12 76 "EachOnHisCueModel" "players" "I" : Cond) ∈ lw_tbl := z_tbI4 _ (List.mem_of_getElem? (i := 20) rfl)
set_option maxRecDepth 20000 in
theorem vo_in_X12_isPlayer : ∀ w ∈ .code yX12_isPlayer cX12_isPlayer 2 (some .boolean) :: voX12_isPlayer, w ∈ lw_tbl := z_fc tm_318 <| z_fc tm_319 <| z_fn
theorem vi_X12_isPlayer : ∀ w ∈ vsX12_isPlayer, w ∈ lw_tbl := List.forall_mem_cons.mpr ⟨vo_in_X12_isPlayer _ (List.mem_cons_self ..), List.forall_mem_append.mpr ⟨(fun _ h => vo_in_X12_isPlayer _ (List.mem_cons_of_mem _ h)), vsLc_in_12⟩⟩
set_option maxRecDepth 20000 in
theorem tm_320 : (.code yX12_isLine cX12_isLine 2 (some .boolean) : Cond) ∈ lw_tbl := z_tbI4 _ (List.mem_of_getElem? (i := 219) rfl)
set_option maxRecDepth 20000 in
theorem tm_321 : (.fieldLink RX12 79 "EachOnHisCueModel" "lines" "I" : Cond) ∈ lw_tbl := z_tbI4 _ (List.mem_of_getElem? (i := 21) rfl)
set_option maxRecDepth 20000 in
theorem vo_in_X12_isLine : ∀ w ∈ .code yX12_isLine cX12_isLine 2 (some .boolean) :: voX12_isLine, w ∈ lw_tbl := z_fc tm_320 <| z_fc tm_321 <| z_fn
theorem vi_X12_isLine : ∀ w ∈ vsX12_isLine, w ∈ lw_tbl := List.forall_mem_cons.mpr ⟨vo_in_X12_isLine _ (List.mem_cons_self ..), List.forall_mem_append.mpr ⟨(fun _ h => vo_in_X12_isLine _ (List.mem_cons_of_mem _ h)), vsLc_in_12⟩⟩
set_option maxRecDepth 20000 in
theorem tm_322 : (.code yX12_next cX12_next 1 (some .int) : Cond) ∈ lw_tbl := z_tbI4 _ (List.mem_of_getElem? (i := 148) rfl)
set_option maxRecDepth 20000 in
theorem tm_323 : (.fieldLink RX12 93 "EachOnHisCueModel" "at" "I" : Cond) ∈ lw_tbl := z_tbI4 _ (List.mem_of_getElem? (i := 32) rfl)
set_option maxRecDepth 20000 in
theorem tm_324 : (.fieldLink RX12 86 "EachOnHisCueModel" "taped" "I" : Cond) ∈ lw_tbl := z_tbI4 _ (List.mem_of_getElem? (i := 31) rfl)
set_option maxRecDepth 20000 in
theorem tm_325 : (.fieldLink RX12 44 "EachOnHisCueModel" "tape" "[I" : Cond) ∈ lw_tbl := z_tbI4 _ (List.mem_of_getElem? (i := 27) rfl)
set_option maxRecDepth 20000 in
theorem vo_in_X12_next : ∀ w ∈ .code yX12_next cX12_next 1 (some .int) :: voX12_next, w ∈ lw_tbl := z_fc tm_322 <| z_fc tm_323 <| z_fc tm_324 <| z_fc tm_325 <| z_fn
theorem vi_X12_next : ∀ w ∈ vsX12_next, w ∈ lw_tbl := List.forall_mem_cons.mpr ⟨vo_in_X12_next _ (List.mem_cons_self ..), List.forall_mem_append.mpr ⟨(fun _ h => vo_in_X12_next _ (List.mem_cons_of_mem _ h)), vsLc_in_12⟩⟩
set_option maxRecDepth 20000 in
theorem tm_326 : (.code yX12_hasteOf cX12_hasteOf 2 (some .int) : Cond) ∈ lw_tbl := z_tbI4 _ (List.mem_of_getElem? (i := 207) rfl)
set_option maxRecDepth 20000 in
theorem tm_327 : (.fieldLink RX12 13 "EachOnHisCueModel" "kind" "[I" : Cond) ∈ lw_tbl := z_tbI4 _ (List.mem_of_getElem? (i := 12) rfl)
set_option maxRecDepth 20000 in
theorem tm_328 : (.fieldLink RX12 19 "EachOnHisCueModel" "speed" "[I" : Cond) ∈ lw_tbl := z_tbI4 _ (List.mem_of_getElem? (i := 14) rfl)
set_option maxRecDepth 20000 in
theorem vo_in_X12_hasteOf : ∀ w ∈ .code yX12_hasteOf cX12_hasteOf 2 (some .int) :: voX12_hasteOf, w ∈ lw_tbl := z_fc tm_326 <| z_fc tm_327 <| z_fc tm_328 <| z_fn
theorem vi_X12_hasteOf : ∀ w ∈ vsX12_hasteOf, w ∈ lw_tbl := List.forall_mem_cons.mpr ⟨vo_in_X12_hasteOf _ (List.mem_cons_self ..), List.forall_mem_append.mpr ⟨(fun _ h => vo_in_X12_hasteOf _ (List.mem_cons_of_mem _ h)), vsLc_in_12⟩⟩
set_option maxRecDepth 20000 in
theorem tm_329 : (.code yX12_linesOf cX12_linesOf 4 (some .int) : Cond) ∈ lw_tbl := z_tbI4 _ (List.mem_of_getElem? (i := 211) rfl)
set_option maxRecDepth 20000 in
theorem tm_330 : (.fieldLink RX12 22 "EachOnHisCueModel" "whose" "[I" : Cond) ∈ lw_tbl := z_tbI4 _ (List.mem_of_getElem? (i := 15) rfl)
set_option maxRecDepth 20000 in
theorem vo_in_X12_linesOf : ∀ w ∈ .code yX12_linesOf cX12_linesOf 4 (some .int) :: voX12_linesOf, w ∈ lw_tbl := z_fc tm_329 <| z_fc tm_321 <| z_fc tm_330 <| z_fn
theorem vi_X12_linesOf : ∀ w ∈ vsX12_linesOf, w ∈ lw_tbl := List.forall_mem_cons.mpr ⟨vo_in_X12_linesOf _ (List.mem_cons_self ..), List.forall_mem_append.mpr ⟨(fun _ h => vo_in_X12_linesOf _ (List.mem_cons_of_mem _ h)), vsLc_in_12⟩⟩
set_option maxRecDepth 20000 in
theorem tm_331 : (.code yX12_saidWords cX12_saidWords 2 (some .int) : Cond) ∈ lw_tbl := z_tbI5 _ (List.mem_of_getElem? (i := 14) rfl)
set_option maxRecDepth 20000 in
theorem tm_332 : (.fieldLink RX12 25 "EachOnHisCueModel" "many" "[I" : Cond) ∈ lw_tbl := z_tbI4 _ (List.mem_of_getElem? (i := 16) rfl)
set_option maxRecDepth 20000 in
theorem tm_333 : (.fieldLink RX12 59 "EachOnHisCueModel" "joked" "I" : Cond) ∈ lw_tbl := z_tbI4 _ (List.mem_of_getElem? (i := 38) rfl)
set_option maxRecDepth 20000 in
theorem vo_in_X12_saidWords : ∀ w ∈ .code yX12_saidWords cX12_saidWords 2 (some .int) :: voX12_saidWords, w ∈ lw_tbl := z_fc tm_331 <| z_fc tm_332 <| z_fc tm_333 <| z_fn
theorem vi_X12_saidWords : ∀ w ∈ vsX12_saidWords, w ∈ lw_tbl := List.forall_mem_cons.mpr ⟨vo_in_X12_saidWords _ (List.mem_cons_self ..), List.forall_mem_append.mpr ⟨(fun _ h => vo_in_X12_saidWords _ (List.mem_cons_of_mem _ h)), vsLc_in_12⟩⟩
set_option maxRecDepth 20000 in
theorem tm_334 : (.code yX12_saidWord cX12_saidWord 3 (some .int) : Cond) ∈ lw_tbl := z_tbI5 _ (List.mem_of_getElem? (i := 18) rfl)
set_option maxRecDepth 20000 in
theorem tm_335 : (.fieldLink RX12 34 "EachOnHisCueModel" "word" "[I" : Cond) ∈ lw_tbl := z_tbI4 _ (List.mem_of_getElem? (i := 19) rfl)
set_option maxRecDepth 20000 in
theorem tm_336 : (.fieldLink RX12 172 "EachOnHisCueModel" "joke" "I" : Cond) ∈ lw_tbl := z_tbI4 _ (List.mem_of_getElem? (i := 39) rfl)
set_option maxRecDepth 20000 in
theorem vo_in_X12_saidWord : ∀ w ∈ .code yX12_saidWord cX12_saidWord 3 (some .int) :: voX12_saidWord, w ∈ lw_tbl := z_fc tm_334 <| z_fc tm_332 <| z_fc tm_335 <| z_fc tm_336 <| z_fn
theorem vi_X12_saidWord : ∀ w ∈ vsX12_saidWord, w ∈ lw_tbl := List.forall_mem_cons.mpr ⟨vo_in_X12_saidWord _ (List.mem_cons_self ..), List.forall_mem_append.mpr ⟨(fun _ h => vo_in_X12_saidWord _ (List.mem_cons_of_mem _ h)), vsLc_in_12⟩⟩
set_option maxRecDepth 20000 in
theorem tm_337 : (.code yX12_doesEnd cX12_doesEnd 6 (some .boolean) : Cond) ∈ lw_tbl := z_tbI5 _ (List.mem_of_getElem? (i := 10) rfl)
set_option maxRecDepth 20000 in
theorem tm_338 : (.methodLink RX12 175 yX12_least : Cond) ∈ lw_tbl := z_tbI5 _ (List.mem_of_getElem? (i := 4) rfl)
set_option maxRecDepth 20000 in
theorem tm_339 : (.static yX12_least : Cond) ∈ lw_tbl := z_tbI5 _ (List.mem_of_getElem? (i := 5) rfl)
set_option maxRecDepth 20000 in
theorem tm_340 : (.methodLink RX12 179 yX12_saidWords : Cond) ∈ lw_tbl := z_tbI5 _ (List.mem_of_getElem? (i := 11) rfl)
set_option maxRecDepth 20000 in
theorem tm_341 : (.instanceMethod yX12_saidWords : Cond) ∈ lw_tbl := z_tbI5 _ (List.mem_of_getElem? (i := 13) rfl)
set_option maxRecDepth 20000 in
theorem tm_342 : (.selects RX12 yX12_saidWords yX12_saidWords : Cond) ∈ lw_tbl := z_tbI0 _ (List.mem_of_getElem? (i := 20) (by decide +kernel))
set_option maxRecDepth 20000 in
theorem tm_343 : (.methodLink RX12 182 yX12_saidWord : Cond) ∈ lw_tbl := z_tbI5 _ (List.mem_of_getElem? (i := 15) rfl)
set_option maxRecDepth 20000 in
theorem tm_344 : (.instanceMethod yX12_saidWord : Cond) ∈ lw_tbl := z_tbI5 _ (List.mem_of_getElem? (i := 17) rfl)
set_option maxRecDepth 20000 in
theorem tm_345 : (.selects RX12 yX12_saidWord yX12_saidWord : Cond) ∈ lw_tbl := z_tbI0 _ (List.mem_of_getElem? (i := 21) (by decide +kernel))
set_option maxRecDepth 20000 in
theorem vo_in_X12_doesEnd : ∀ w ∈ .code yX12_doesEnd cX12_doesEnd 6 (some .boolean) :: voX12_doesEnd, w ∈ lw_tbl := z_fc tm_337 <| z_fc tm_332 <| z_fc tm_335 <| z_fc tm_338 <| z_fc tm_339 <| z_fc tm_19 <| z_fc tm_340 <| z_fc tm_341 <| z_fc tm_342 <| z_fc tm_343 <| z_fc tm_344 <| z_fc tm_345 <| z_fn
theorem vi_X12_doesEnd : ∀ w ∈ vsX12_doesEnd, w ∈ lw_tbl := List.forall_mem_cons.mpr ⟨vo_in_X12_doesEnd _ (List.mem_cons_self ..), List.forall_mem_append.mpr ⟨(fun _ h => vo_in_X12_doesEnd _ (List.mem_cons_of_mem _ h)), List.forall_mem_append.mpr ⟨vi_X12_least, List.forall_mem_append.mpr ⟨vi_X12_saidWords, List.forall_mem_append.mpr ⟨vi_X12_saidWord, vsLc_in_12⟩⟩⟩⟩⟩
set_option maxRecDepth 20000 in
theorem tm_346 : (.code yX12_isCued cX12_isCued 5 (some .boolean) : Cond) ∈ lw_tbl := z_tbI5 _ (List.mem_of_getElem? (i := 3) rfl)
set_option maxRecDepth 20000 in
theorem tm_347 : (.fieldLink RX12 28 "EachOnHisCueModel" "cue" "[I" : Cond) ∈ lw_tbl := z_tbI4 _ (List.mem_of_getElem? (i := 17) rfl)
set_option maxRecDepth 20000 in
theorem tm_348 : (.fieldLink RX12 16 "EachOnHisCueModel" "figure" "[I" : Cond) ∈ lw_tbl := z_tbI4 _ (List.mem_of_getElem? (i := 13) rfl)
set_option maxRecDepth 20000 in
theorem tm_349 : (.methodLink RX12 185 yX12_doesEnd : Cond) ∈ lw_tbl := z_tbI5 _ (List.mem_of_getElem? (i := 7) rfl)
set_option maxRecDepth 20000 in
theorem tm_350 : (.instanceMethod yX12_doesEnd : Cond) ∈ lw_tbl := z_tbI5 _ (List.mem_of_getElem? (i := 9) rfl)
set_option maxRecDepth 20000 in
theorem tm_351 : (.selects RX12 yX12_doesEnd yX12_doesEnd : Cond) ∈ lw_tbl := z_tbI0 _ (List.mem_of_getElem? (i := 19) (by decide +kernel))
set_option maxRecDepth 20000 in
theorem vo_in_X12_isCued : ∀ w ∈ .code yX12_isCued cX12_isCued 5 (some .boolean) :: voX12_isCued, w ∈ lw_tbl := z_fc tm_346 <| z_fc tm_330 <| z_fc tm_327 <| z_fc tm_347 <| z_fc tm_348 <| z_fc tm_338 <| z_fc tm_339 <| z_fc tm_19 <| z_fc tm_349 <| z_fc tm_350 <| z_fc tm_351 <| z_fn
theorem vi_X12_isCued : ∀ w ∈ vsX12_isCued, w ∈ lw_tbl := List.forall_mem_cons.mpr ⟨vo_in_X12_isCued _ (List.mem_cons_self ..), List.forall_mem_append.mpr ⟨(fun _ h => vo_in_X12_isCued _ (List.mem_cons_of_mem _ h)), List.forall_mem_append.mpr ⟨vi_X12_least, List.forall_mem_append.mpr ⟨vi_X12_doesEnd, vsLc_in_12⟩⟩⟩⟩
set_option maxRecDepth 20000 in
theorem tm_352 : (.code yX12_comesWith cX12_comesWith 7 (some .int) : Cond) ∈ lw_tbl := z_tbI4 _ (List.mem_of_getElem? (i := 239) rfl)
set_option maxRecDepth 20000 in
theorem tm_353 : (.fieldLink RX12 154 "EachOnHisCueModel" "dead" "I" : Cond) ∈ lw_tbl := z_tbI4 _ (List.mem_of_getElem? (i := 24) rfl)
set_option maxRecDepth 20000 in
theorem tm_354 : (.fieldLink RX12 151 "EachOnHisCueModel" "said" "I" : Cond) ∈ lw_tbl := z_tbI4 _ (List.mem_of_getElem? (i := 23) rfl)
set_option maxRecDepth 20000 in
theorem tm_355 : (.methodLink RX12 188 yX12_isCued : Cond) ∈ lw_tbl := z_tbI5 _ (List.mem_of_getElem? (i := 0) rfl)
set_option maxRecDepth 20000 in
theorem tm_356 : (.instanceMethod yX12_isCued : Cond) ∈ lw_tbl := z_tbI5 _ (List.mem_of_getElem? (i := 2) rfl)
set_option maxRecDepth 20000 in
theorem tm_357 : (.selects RX12 yX12_isCued yX12_isCued : Cond) ∈ lw_tbl := z_tbI0 _ (List.mem_of_getElem? (i := 18) (by decide +kernel))
set_option maxRecDepth 20000 in
theorem vo_in_X12_comesWith : ∀ w ∈ .code yX12_comesWith cX12_comesWith 7 (some .int) :: voX12_comesWith, w ∈ lw_tbl := z_fc tm_352 <| z_fc tm_327 <| z_fc tm_353 <| z_fc tm_321 <| z_fc tm_330 <| z_fc tm_354 <| z_fc tm_355 <| z_fc tm_356 <| z_fc tm_357 <| z_fc tm_19 <| z_fn
theorem vi_X12_comesWith : ∀ w ∈ vsX12_comesWith, w ∈ lw_tbl := List.forall_mem_cons.mpr ⟨vo_in_X12_comesWith _ (List.mem_cons_self ..), List.forall_mem_append.mpr ⟨(fun _ h => vo_in_X12_comesWith _ (List.mem_cons_of_mem _ h)), List.forall_mem_append.mpr ⟨vi_X12_isCued, vsLc_in_12⟩⟩⟩
set_option maxRecDepth 20000 in
theorem tm_358 : (.code yX12_isWritten cX12_isWritten 2 (some .boolean) : Cond) ∈ lw_tbl := z_tbI5 _ (List.mem_of_getElem? (i := 54) rfl)
set_option maxRecDepth 20000 in
theorem tm_359 : (.fieldLink RX12 202 "EachOnHisCueModel" "nightMany" "I" : Cond) ∈ lw_tbl := z_tbI4 _ (List.mem_of_getElem? (i := 41) rfl)
set_option maxRecDepth 20000 in
theorem tm_360 : (.fieldLink RX12 205 "EachOnHisCueModel" "doesEndThen" "Z" : Cond) ∈ lw_tbl := z_tbI4 _ (List.mem_of_getElem? (i := 43) rfl)
set_option maxRecDepth 20000 in
theorem tm_361 : (.fieldLink RX12 62 "EachOnHisCueModel" "night" "[I" : Cond) ∈ lw_tbl := z_tbI4 _ (List.mem_of_getElem? (i := 40) rfl)
set_option maxRecDepth 20000 in
theorem vo_in_X12_isWritten : ∀ w ∈ .code yX12_isWritten cX12_isWritten 2 (some .boolean) :: voX12_isWritten, w ∈ lw_tbl := z_fc tm_358 <| z_fc tm_359 <| z_fc tm_321 <| z_fc tm_360 <| z_fc tm_361 <| z_fn
theorem vi_X12_isWritten : ∀ w ∈ vsX12_isWritten, w ∈ lw_tbl := List.forall_mem_cons.mpr ⟨vo_in_X12_isWritten _ (List.mem_cons_self ..), List.forall_mem_append.mpr ⟨(fun _ h => vo_in_X12_isWritten _ (List.mem_cons_of_mem _ h)), vsLc_in_12⟩⟩
set_option maxRecDepth 20000 in
theorem tm_362 : (.code yX12_leaps cX12_leaps 3 (some .int) : Cond) ∈ lw_tbl := z_tbI5 _ (List.mem_of_getElem? (i := 50) rfl)
set_option maxRecDepth 20000 in
theorem vo_in_X12_leaps : ∀ w ∈ .code yX12_leaps cX12_leaps 3 (some .int) :: voX12_leaps, w ∈ lw_tbl := z_fc tm_362 <| z_fc tm_359 <| z_fc tm_361 <| z_fn
theorem vi_X12_leaps : ∀ w ∈ vsX12_leaps, w ∈ lw_tbl := List.forall_mem_cons.mpr ⟨vo_in_X12_leaps _ (List.mem_cons_self ..), List.forall_mem_append.mpr ⟨(fun _ h => vo_in_X12_leaps _ (List.mem_cons_of_mem _ h)), vsLc_in_12⟩⟩
set_option maxRecDepth 20000 in
theorem tm_363 : (.code yX12_followOf cX12_followOf 4 (some .int) : Cond) ∈ lw_tbl := z_tbI5 _ (List.mem_of_getElem? (i := 62) rfl)
set_option maxRecDepth 20000 in
theorem vo_in_X12_followOf : ∀ w ∈ .code yX12_followOf cX12_followOf 4 (some .int) :: voX12_followOf, w ∈ lw_tbl := z_fc tm_363 <| z_fc tm_321 <| z_fc tm_327 <| z_fc tm_330 <| z_fc tm_355 <| z_fc tm_356 <| z_fc tm_357 <| z_fc tm_19 <| z_fn
theorem vi_X12_followOf : ∀ w ∈ vsX12_followOf, w ∈ lw_tbl := List.forall_mem_cons.mpr ⟨vo_in_X12_followOf _ (List.mem_cons_self ..), List.forall_mem_append.mpr ⟨(fun _ h => vo_in_X12_followOf _ (List.mem_cons_of_mem _ h)), List.forall_mem_append.mpr ⟨vi_X12_isCued, vsLc_in_12⟩⟩⟩
set_option maxRecDepth 20000 in
theorem tm_364 : (.code yX12_stepsFrom cX12_stepsFrom 4 (some .int) : Cond) ∈ lw_tbl := z_tbI5 _ (List.mem_of_getElem? (i := 74) rfl)
set_option maxRecDepth 20000 in
theorem tm_365 : (.methodLink RX12 220 yX12_followOf : Cond) ∈ lw_tbl := z_tbI5 _ (List.mem_of_getElem? (i := 59) rfl)
set_option maxRecDepth 20000 in
theorem tm_366 : (.instanceMethod yX12_followOf : Cond) ∈ lw_tbl := z_tbI5 _ (List.mem_of_getElem? (i := 61) rfl)
set_option maxRecDepth 20000 in
theorem tm_367 : (.selects RX12 yX12_followOf yX12_followOf : Cond) ∈ lw_tbl := z_tbI0 _ (List.mem_of_getElem? (i := 27) (by decide +kernel))
set_option maxRecDepth 20000 in
theorem vo_in_X12_stepsFrom : ∀ w ∈ .code yX12_stepsFrom cX12_stepsFrom 4 (some .int) :: voX12_stepsFrom, w ∈ lw_tbl := z_fc tm_364 <| z_fc tm_321 <| z_fc tm_365 <| z_fc tm_366 <| z_fc tm_367 <| z_fc tm_19 <| z_fn
theorem vi_X12_stepsFrom : ∀ w ∈ vsX12_stepsFrom, w ∈ lw_tbl := List.forall_mem_cons.mpr ⟨vo_in_X12_stepsFrom _ (List.mem_cons_self ..), List.forall_mem_append.mpr ⟨(fun _ h => vo_in_X12_stepsFrom _ (List.mem_cons_of_mem _ h)), List.forall_mem_append.mpr ⟨vi_X12_followOf, vsLc_in_12⟩⟩⟩
set_option maxRecDepth 20000 in
theorem tm_368 : (.code yX12_shortest cX12_shortest 3 (some .int) : Cond) ∈ lw_tbl := z_tbI5 _ (List.mem_of_getElem? (i := 78) rfl)
set_option maxRecDepth 20000 in
theorem tm_369 : (.methodLink RX12 223 yX12_stepsFrom : Cond) ∈ lw_tbl := z_tbI5 _ (List.mem_of_getElem? (i := 71) rfl)
set_option maxRecDepth 20000 in
theorem tm_370 : (.instanceMethod yX12_stepsFrom : Cond) ∈ lw_tbl := z_tbI5 _ (List.mem_of_getElem? (i := 73) rfl)
set_option maxRecDepth 20000 in
theorem tm_371 : (.selects RX12 yX12_stepsFrom yX12_stepsFrom : Cond) ∈ lw_tbl := z_tbI0 _ (List.mem_of_getElem? (i := 29) (by decide +kernel))
set_option maxRecDepth 20000 in
theorem vo_in_X12_shortest : ∀ w ∈ .code yX12_shortest cX12_shortest 3 (some .int) :: voX12_shortest, w ∈ lw_tbl := z_fc tm_368 <| z_fc tm_321 <| z_fc tm_369 <| z_fc tm_370 <| z_fc tm_371 <| z_fc tm_19 <| z_fn
theorem vi_X12_shortest : ∀ w ∈ vsX12_shortest, w ∈ lw_tbl := List.forall_mem_cons.mpr ⟨vo_in_X12_shortest _ (List.mem_cons_self ..), List.forall_mem_append.mpr ⟨(fun _ h => vo_in_X12_shortest _ (List.mem_cons_of_mem _ h)), List.forall_mem_append.mpr ⟨vi_X12_stepsFrom, vsLc_in_12⟩⟩⟩
set_option maxRecDepth 20000 in
theorem tm_372 : (.code yX12_isSure cX12_isSure 2 (some .boolean) : Cond) ∈ lw_tbl := z_tbI5 _ (List.mem_of_getElem? (i := 86) rfl)
set_option maxRecDepth 20000 in
theorem vo_in_X12_isSure : ∀ w ∈ .code yX12_isSure cX12_isSure 2 (some .boolean) :: voX12_isSure, w ∈ lw_tbl := z_fc tm_372 <| z_fc tm_321 <| z_fc tm_365 <| z_fc tm_366 <| z_fc tm_367 <| z_fc tm_19 <| z_fn
theorem vi_X12_isSure : ∀ w ∈ vsX12_isSure, w ∈ lw_tbl := List.forall_mem_cons.mpr ⟨vo_in_X12_isSure _ (List.mem_cons_self ..), List.forall_mem_append.mpr ⟨(fun _ h => vo_in_X12_isSure _ (List.mem_cons_of_mem _ h)), List.forall_mem_append.mpr ⟨vi_X12_followOf, vsLc_in_12⟩⟩⟩
set_option maxRecDepth 20000 in
theorem tm_373 : (.code yX12_isAlone cX12_isAlone 4 (some .boolean) : Cond) ∈ lw_tbl := z_tbI5 _ (List.mem_of_getElem? (i := 98) rfl)
set_option maxRecDepth 20000 in
theorem vo_in_X12_isAlone : ∀ w ∈ .code yX12_isAlone cX12_isAlone 4 (some .boolean) :: voX12_isAlone, w ∈ lw_tbl := z_fc tm_373 <| z_fc tm_321 <| z_fc tm_349 <| z_fc tm_350 <| z_fc tm_351 <| z_fc tm_19 <| z_fn
theorem vi_X12_isAlone : ∀ w ∈ vsX12_isAlone, w ∈ lw_tbl := List.forall_mem_cons.mpr ⟨vo_in_X12_isAlone _ (List.mem_cons_self ..), List.forall_mem_append.mpr ⟨(fun _ h => vo_in_X12_isAlone _ (List.mem_cons_of_mem _ h)), List.forall_mem_append.mpr ⟨vi_X12_doesEnd, vsLc_in_12⟩⟩⟩
set_option maxRecDepth 20000 in
theorem tm_374 : (.code yX12_mendsOf cX12_mendsOf 3 (some .int) : Cond) ∈ lw_tbl := z_tbI5 _ (List.mem_of_getElem? (i := 94) rfl)
set_option maxRecDepth 20000 in
theorem tm_375 : (.methodLink RX12 238 yX12_isAlone : Cond) ∈ lw_tbl := z_tbI5 _ (List.mem_of_getElem? (i := 95) rfl)
set_option maxRecDepth 20000 in
theorem tm_376 : (.instanceMethod yX12_isAlone : Cond) ∈ lw_tbl := z_tbI5 _ (List.mem_of_getElem? (i := 97) rfl)
set_option maxRecDepth 20000 in
theorem tm_377 : (.selects RX12 yX12_isAlone yX12_isAlone : Cond) ∈ lw_tbl := z_tbI0 _ (List.mem_of_getElem? (i := 34) (by decide +kernel))
set_option maxRecDepth 20000 in
theorem vo_in_X12_mendsOf : ∀ w ∈ .code yX12_mendsOf cX12_mendsOf 3 (some .int) :: voX12_mendsOf, w ∈ lw_tbl := z_fc tm_374 <| z_fc tm_347 <| z_fc tm_332 <| z_fc tm_375 <| z_fc tm_376 <| z_fc tm_377 <| z_fc tm_19 <| z_fn
theorem vi_X12_mendsOf : ∀ w ∈ vsX12_mendsOf, w ∈ lw_tbl := List.forall_mem_cons.mpr ⟨vo_in_X12_mendsOf _ (List.mem_cons_self ..), List.forall_mem_append.mpr ⟨(fun _ h => vo_in_X12_mendsOf _ (List.mem_cons_of_mem _ h)), List.forall_mem_append.mpr ⟨vi_X12_isAlone, vsLc_in_12⟩⟩⟩
set_option maxRecDepth 20000 in
theorem tm_378 : (.code yX12_isOnStage cX12_isOnStage 4 (some .boolean) : Cond) ∈ lw_tbl := z_tbI5 _ (List.mem_of_getElem? (i := 147) rfl)
set_option maxRecDepth 20000 in
theorem tm_379 : (.methodLink RX12 166 yX12_linesOf : Cond) ∈ lw_tbl := z_tbI4 _ (List.mem_of_getElem? (i := 208) rfl)
set_option maxRecDepth 20000 in
theorem tm_380 : (.instanceMethod yX12_linesOf : Cond) ∈ lw_tbl := z_tbI4 _ (List.mem_of_getElem? (i := 210) rfl)
set_option maxRecDepth 20000 in
theorem tm_381 : (.selects RX12 yX12_linesOf yX12_linesOf : Cond) ∈ lw_tbl := z_tbI0 _ (List.mem_of_getElem? (i := 15) (by decide +kernel))
set_option maxRecDepth 20000 in
theorem vo_in_X12_isOnStage : ∀ w ∈ .code yX12_isOnStage cX12_isOnStage 4 (some .boolean) :: voX12_isOnStage, w ∈ lw_tbl := z_fc tm_378 <| z_fc tm_379 <| z_fc tm_380 <| z_fc tm_381 <| z_fc tm_19 <| z_fn
theorem vi_X12_isOnStage : ∀ w ∈ vsX12_isOnStage, w ∈ lw_tbl := List.forall_mem_cons.mpr ⟨vo_in_X12_isOnStage _ (List.mem_cons_self ..), List.forall_mem_append.mpr ⟨(fun _ h => vo_in_X12_isOnStage _ (List.mem_cons_of_mem _ h)), vi_X12_linesOf⟩⟩
set_option maxRecDepth 20000 in
theorem tm_382 : (.code yX12_notBooks cX12_notBooks 1 (some .int) : Cond) ∈ lw_tbl := z_tbI5 _ (List.mem_of_getElem? (i := 155) rfl)
set_option maxRecDepth 20000 in
theorem vo_in_X12_notBooks : ∀ w ∈ .code yX12_notBooks cX12_notBooks 1 (some .int) :: voX12_notBooks, w ∈ lw_tbl := z_fc tm_382 <| z_fc tm_321 <| z_fn
theorem vi_X12_notBooks : ∀ w ∈ vsX12_notBooks, w ∈ lw_tbl := List.forall_mem_cons.mpr ⟨vo_in_X12_notBooks _ (List.mem_cons_self ..), List.forall_mem_append.mpr ⟨(fun _ h => vo_in_X12_notBooks _ (List.mem_cons_of_mem _ h)), vsLc_in_12⟩⟩
set_option maxRecDepth 20000 in
theorem tm_383 : (.code yX12_words cX12_words 3 (some .int) : Cond) ∈ lw_tbl := z_tbI5 _ (List.mem_of_getElem? (i := 214) rfl)
set_option maxRecDepth 20000 in
theorem vo_in_X12_words : ∀ w ∈ .code yX12_words cX12_words 3 (some .int) :: voX12_words, w ∈ lw_tbl := z_fc tm_383 <| z_fc tm_321 <| z_fc tm_332 <| z_fn
theorem vi_X12_words : ∀ w ∈ vsX12_words, w ∈ lw_tbl := List.forall_mem_cons.mpr ⟨vo_in_X12_words _ (List.mem_cons_self ..), List.forall_mem_append.mpr ⟨(fun _ h => vo_in_X12_words _ (List.mem_cons_of_mem _ h)), vsLc_in_12⟩⟩
set_option maxRecDepth 20000 in
theorem tm_384 : (.code yX12_parts cX12_parts 5 (some .int) : Cond) ∈ lw_tbl := z_tbI5 _ (List.mem_of_getElem? (i := 143) rfl)
set_option maxRecDepth 20000 in
theorem tm_385 : (.methodLink RX12 257 yX12_isOnStage : Cond) ∈ lw_tbl := z_tbI5 _ (List.mem_of_getElem? (i := 144) rfl)
set_option maxRecDepth 20000 in
theorem tm_386 : (.instanceMethod yX12_isOnStage : Cond) ∈ lw_tbl := z_tbI5 _ (List.mem_of_getElem? (i := 146) rfl)
set_option maxRecDepth 20000 in
theorem tm_387 : (.selects RX12 yX12_isOnStage yX12_isOnStage : Cond) ∈ lw_tbl := z_tbI0 _ (List.mem_of_getElem? (i := 37) (by decide +kernel))
set_option maxRecDepth 20000 in
theorem vo_in_X12_parts : ∀ w ∈ .code yX12_parts cX12_parts 5 (some .int) :: voX12_parts, w ∈ lw_tbl := z_fc tm_384 <| z_fc tm_321 <| z_fc tm_319 <| z_fc tm_385 <| z_fc tm_386 <| z_fc tm_387 <| z_fc tm_19 <| z_fn
theorem vi_X12_parts : ∀ w ∈ vsX12_parts, w ∈ lw_tbl := List.forall_mem_cons.mpr ⟨vo_in_X12_parts _ (List.mem_cons_self ..), List.forall_mem_append.mpr ⟨(fun _ h => vo_in_X12_parts _ (List.mem_cons_of_mem _ h)), List.forall_mem_append.mpr ⟨vi_X12_isOnStage, vsLc_in_12⟩⟩⟩
set_option maxRecDepth 20000 in
theorem tm_388 : (.code yX9_forget cX9_forget 1 none : Cond) ∈ lw_tbl := z_tbI2 _ (List.mem_of_getElem? (i := 99) rfl)
set_option maxRecDepth 20000 in
theorem tm_389 : (.fieldLink RX9 9 "EachOnHisCue$Saying" "said" "I" : Cond) ∈ lw_tbl := z_tbI1 _ (List.mem_of_getElem? (i := 37) rfl)
set_option maxRecDepth 20000 in
theorem tm_390 : (.fieldLink RX9 15 "EachOnHisCue$Saying" "dead" "I" : Cond) ∈ lw_tbl := z_tbI1 _ (List.mem_of_getElem? (i := 40) rfl)
set_option maxRecDepth 20000 in
theorem tm_391 : (.fieldLink RX9 18 "EachOnHisCue$Saying" "latest" "I" : Cond) ∈ lw_tbl := z_tbI1 _ (List.mem_of_getElem? (i := 43) rfl)
set_option maxRecDepth 20000 in
theorem tm_392 : (.fieldLink RX9 21 "EachOnHisCue$Saying" "times" "I" : Cond) ∈ lw_tbl := z_tbI1 _ (List.mem_of_getElem? (i := 46) rfl)
set_option maxRecDepth 20000 in
theorem tm_393 : (.fieldLink RX9 24 "EachOnHisCue$Saying" "leaps" "I" : Cond) ∈ lw_tbl := z_tbI1 _ (List.mem_of_getElem? (i := 49) rfl)
set_option maxRecDepth 20000 in
theorem vo_in_X9_forget : ∀ w ∈ .code yX9_forget cX9_forget 1 none :: voX9_forget, w ∈ lw_tbl := z_fc tm_388 <| z_fc tm_389 <| z_fc tm_390 <| z_fc tm_391 <| z_fc tm_392 <| z_fc tm_393 <| z_fn
theorem vi_X9_forget : ∀ w ∈ vsX9_forget, w ∈ lw_tbl := List.forall_mem_cons.mpr ⟨vo_in_X9_forget _ (List.mem_cons_self ..), List.forall_mem_append.mpr ⟨(fun _ h => vo_in_X9_forget _ (List.mem_cons_of_mem _ h)), vsLc_in_9⟩⟩
set_option maxRecDepth 20000 in
theorem tm_394 : (.code yX9_add cX9_add 3 none : Cond) ∈ lw_tbl := z_tbI3 _ (List.mem_of_getElem? (i := 21) rfl)
set_option maxRecDepth 20000 in
theorem vo_in_X9_add : ∀ w ∈ .code yX9_add cX9_add 3 none :: voX9_add, w ∈ lw_tbl := z_fc tm_394 <| z_fc tm_392 <| z_fc tm_389 <| z_fc tm_390 <| z_fc tm_391 <| z_fc tm_393 <| z_fn
theorem vi_X9_add : ∀ w ∈ vsX9_add, w ∈ lw_tbl := List.forall_mem_cons.mpr ⟨vo_in_X9_add _ (List.mem_cons_self ..), List.forall_mem_append.mpr ⟨(fun _ h => vo_in_X9_add _ (List.mem_cons_of_mem _ h)), vsLc_in_9⟩⟩
set_option maxRecDepth 20000 in
theorem tm_395 : (.code yX9_take cX9_take 2 none : Cond) ∈ lw_tbl := z_tbI3 _ (List.mem_of_getElem? (i := 232) rfl)
set_option maxRecDepth 20000 in
theorem vo_in_X9_take : ∀ w ∈ .code yX9_take cX9_take 2 none :: voX9_take, w ∈ lw_tbl := z_fc tm_395 <| z_fc tm_389 <| z_fc tm_390 <| z_fc tm_391 <| z_fc tm_392 <| z_fc tm_393 <| z_fn
theorem vi_X9_take : ∀ w ∈ vsX9_take, w ∈ lw_tbl := List.forall_mem_cons.mpr ⟨vo_in_X9_take _ (List.mem_cons_self ..), List.forall_mem_append.mpr ⟨(fun _ h => vo_in_X9_take _ (List.mem_cons_of_mem _ h)), vsLc_in_9⟩⟩
set_option maxRecDepth 20000 in
theorem tm_396 : (.code yX4_add cX4_add 2 none : Cond) ∈ lw_tbl := z_tbI1 _ (List.mem_of_getElem? (i := 207) rfl)
set_option maxRecDepth 20000 in
theorem vo_in_X4_add : ∀ w ∈ .code yX4_add cX4_add 2 none :: voX4_add, w ∈ lw_tbl := z_fc tm_396 <| z_fc tm_223 <| z_fc tm_224 <| z_fn
theorem vi_X4_add : ∀ w ∈ vsX4_add, w ∈ lw_tbl := List.forall_mem_cons.mpr ⟨vo_in_X4_add _ (List.mem_cons_self ..), List.forall_mem_append.mpr ⟨(fun _ h => vo_in_X4_add _ (List.mem_cons_of_mem _ h)), vsLc_in_4⟩⟩
set_option maxRecDepth 20000 in
theorem tm_397 : (.code yX2_draw cX2_draw 2 (some .int) : Cond) ∈ lw_tbl := z_tbI3 _ (List.mem_of_getElem? (i := 217) rfl)
set_option maxRecDepth 20000 in
theorem tm_398 : (.fieldLink RX2 25 "EachOnHisCue$Evening" "seed" "I" : Cond) ∈ lw_tbl := z_tbI1 _ (List.mem_of_getElem? (i := 145) rfl)
set_option maxRecDepth 20000 in
theorem tm_399 : (.constant RX2 93 (1103515245) : Cond) ∈ lw_tbl := z_tbI3 _ (List.mem_of_getElem? (i := 218) rfl)
set_option maxRecDepth 20000 in
theorem tm_400 : (.constant RX2 94 (2147483647) : Cond) ∈ lw_tbl := z_tbI3 _ (List.mem_of_getElem? (i := 219) rfl)
set_option maxRecDepth 20000 in
theorem tm_401 : (.constant RX2 95 (65536) : Cond) ∈ lw_tbl := z_tbI3 _ (List.mem_of_getElem? (i := 220) rfl)
set_option maxRecDepth 20000 in
theorem vo_in_X2_draw : ∀ w ∈ .code yX2_draw cX2_draw 2 (some .int) :: voX2_draw, w ∈ lw_tbl := z_fc tm_397 <| z_fc tm_398 <| z_fc tm_399 <| z_fc tm_400 <| z_fc tm_401 <| z_fn
theorem vi_X2_draw : ∀ w ∈ vsX2_draw, w ∈ lw_tbl := List.forall_mem_cons.mpr ⟨vo_in_X2_draw _ (List.mem_cons_self ..), List.forall_mem_append.mpr ⟨(fun _ h => vo_in_X2_draw _ (List.mem_cons_of_mem _ h)), vsLc_in_2⟩⟩
set_option maxRecDepth 20000 in
theorem tm_402 : (.code yX11_refuse cX11_refuse 3 (some .int) : Cond) ∈ lw_tbl := z_tbI1 _ (List.mem_of_getElem? (i := 203) rfl)
set_option maxRecDepth 20000 in
theorem tm_403 : (.fieldLink RX11 50 "EachOnHisCue" "refusals" "[I" : Cond) ∈ lw_tbl := z_tbI1 _ (List.mem_of_getElem? (i := 176) rfl)
set_option maxRecDepth 20000 in
theorem vo_in_X11_refuse : ∀ w ∈ .code yX11_refuse cX11_refuse 3 (some .int) :: voX11_refuse, w ∈ lw_tbl := z_fc tm_402 <| z_fc tm_403 <| z_fn
theorem vi_X11_refuse : ∀ w ∈ vsX11_refuse, w ∈ lw_tbl := List.forall_mem_cons.mpr ⟨vo_in_X11_refuse _ (List.mem_cons_self ..), List.forall_mem_append.mpr ⟨(fun _ h => vo_in_X11_refuse _ (List.mem_cons_of_mem _ h)), vsLc_in_11⟩⟩
set_option maxRecDepth 20000 in
theorem tm_404 : (.code yX12_no cX12_no 2 (some .int) : Cond) ∈ lw_tbl := z_tbI4 _ (List.mem_of_getElem? (i := 136) rfl)
set_option maxRecDepth 20000 in
theorem tm_405 : (.fieldLink RX12 7 "EachOnHisCueModel" "refused" "[I" : Cond) ∈ lw_tbl := z_tbI4 _ (List.mem_of_getElem? (i := 11) rfl)
set_option maxRecDepth 20000 in
theorem vo_in_X12_no : ∀ w ∈ .code yX12_no cX12_no 2 (some .int) :: voX12_no, w ∈ lw_tbl := z_fc tm_404 <| z_fc tm_405 <| z_fn
theorem vi_X12_no : ∀ w ∈ vsX12_no, w ∈ lw_tbl := List.forall_mem_cons.mpr ⟨vo_in_X12_no _ (List.mem_cons_self ..), List.forall_mem_append.mpr ⟨(fun _ h => vo_in_X12_no _ (List.mem_cons_of_mem _ h)), vsLc_in_12⟩⟩
set_option maxRecDepth 20000 in
theorem tm_406 : (.code yX12_lowest cX12_lowest 2 (some .long) : Cond) ∈ lw_tbl := z_tbI5 _ (List.mem_of_getElem? (i := 114) rfl)
set_option maxRecDepth 20000 in
theorem tm_407 : (.constantLong RX12 74 (4000000000000000000) : Cond) ∈ lw_tbl := z_tbI5 _ (List.mem_of_getElem? (i := 115) rfl)
set_option maxRecDepth 20000 in
theorem vo_in_X12_lowest : ∀ w ∈ .code yX12_lowest cX12_lowest 2 (some .long) :: voX12_lowest, w ∈ lw_tbl := z_fc tm_406 <| z_fc tm_405 <| z_fc tm_407 <| z_fn
theorem vi_X12_lowest : ∀ w ∈ vsX12_lowest, w ∈ lw_tbl := List.forall_mem_cons.mpr ⟨vo_in_X12_lowest _ (List.mem_cons_self ..), List.forall_mem_append.mpr ⟨(fun _ h => vo_in_X12_lowest _ (List.mem_cons_of_mem _ h)), vsLc_in_12⟩⟩
set_option maxRecDepth 20000 in
theorem tm_408 : (.code yX12_feed cX12_feed 3 (some .int) : Cond) ∈ lw_tbl := z_tbI4 _ (List.mem_of_getElem? (i := 129) rfl)
set_option maxRecDepth 20000 in
theorem tm_409 : (.methodLink RX12 82 yX12_bound : Cond) ∈ lw_tbl := z_tbI4 _ (List.mem_of_getElem? (i := 130) rfl)
set_option maxRecDepth 20000 in
theorem tm_410 : (.static yX12_bound : Cond) ∈ lw_tbl := z_tbI4 _ (List.mem_of_getElem? (i := 131) rfl)
set_option maxRecDepth 20000 in
theorem tm_411 : (.methodLink RX12 89 yX12_no : Cond) ∈ lw_tbl := z_tbI4 _ (List.mem_of_getElem? (i := 133) rfl)
set_option maxRecDepth 20000 in
theorem tm_412 : (.instanceMethod yX12_no : Cond) ∈ lw_tbl := z_tbI4 _ (List.mem_of_getElem? (i := 135) rfl)
set_option maxRecDepth 20000 in
theorem tm_413 : (.selects RX12 yX12_no yX12_no : Cond) ∈ lw_tbl := z_tbI0 _ (List.mem_of_getElem? (i := 1) (by decide +kernel))
set_option maxRecDepth 20000 in
theorem vo_in_X12_feed : ∀ w ∈ .code yX12_feed cX12_feed 3 (some .int) :: voX12_feed, w ∈ lw_tbl := z_fc tm_408 <| z_fc tm_324 <| z_fc tm_325 <| z_fc tm_409 <| z_fc tm_410 <| z_fc tm_19 <| z_fc tm_411 <| z_fc tm_412 <| z_fc tm_413 <| z_fn
theorem vi_X12_feed : ∀ w ∈ vsX12_feed, w ∈ lw_tbl := List.forall_mem_cons.mpr ⟨vo_in_X12_feed _ (List.mem_cons_self ..), List.forall_mem_append.mpr ⟨(fun _ h => vo_in_X12_feed _ (List.mem_cons_of_mem _ h)), List.forall_mem_append.mpr ⟨vi_X12_bound, List.forall_mem_append.mpr ⟨vi_X12_no, vsLc_in_12⟩⟩⟩⟩
set_option maxRecDepth 20000 in
theorem tm_414 : (.code yX12_digit cX12_digit 1 (some .int) : Cond) ∈ lw_tbl := z_tbI4 _ (List.mem_of_getElem? (i := 156) rfl)
set_option maxRecDepth 20000 in
theorem tm_415 : (.methodLink RX12 96 yX12_next : Cond) ∈ lw_tbl := z_tbI4 _ (List.mem_of_getElem? (i := 145) rfl)
set_option maxRecDepth 20000 in
theorem tm_416 : (.instanceMethod yX12_next : Cond) ∈ lw_tbl := z_tbI4 _ (List.mem_of_getElem? (i := 147) rfl)
set_option maxRecDepth 20000 in
theorem tm_417 : (.selects RX12 yX12_next yX12_next : Cond) ∈ lw_tbl := z_tbI0 _ (List.mem_of_getElem? (i := 3) (by decide +kernel))
set_option maxRecDepth 20000 in
theorem tm_418 : (.methodLink RX12 100 yX12_isIn : Cond) ∈ lw_tbl := z_tbI4 _ (List.mem_of_getElem? (i := 157) rfl)
set_option maxRecDepth 20000 in
theorem tm_419 : (.static yX12_isIn : Cond) ∈ lw_tbl := z_tbI4 _ (List.mem_of_getElem? (i := 158) rfl)
set_option maxRecDepth 20000 in
theorem vo_in_X12_digit : ∀ w ∈ .code yX12_digit cX12_digit 1 (some .int) :: voX12_digit, w ∈ lw_tbl := z_fc tm_414 <| z_fc tm_323 <| z_fc tm_325 <| z_fc tm_415 <| z_fc tm_416 <| z_fc tm_417 <| z_fc tm_19 <| z_fc tm_418 <| z_fc tm_419 <| z_fn
theorem vi_X12_digit : ∀ w ∈ vsX12_digit, w ∈ lw_tbl := List.forall_mem_cons.mpr ⟨vo_in_X12_digit _ (List.mem_cons_self ..), List.forall_mem_append.mpr ⟨(fun _ h => vo_in_X12_digit _ (List.mem_cons_of_mem _ h)), List.forall_mem_append.mpr ⟨vi_X12_next, List.forall_mem_append.mpr ⟨vi_X12_isIn, vsLc_in_12⟩⟩⟩⟩
set_option maxRecDepth 20000 in
theorem tm_420 : (.code yX12_passOne cX12_passOne 3 (some .int) : Cond) ∈ lw_tbl := z_tbI4 _ (List.mem_of_getElem? (i := 175) rfl)
set_option maxRecDepth 20000 in
theorem tm_421 : (.fieldLink RX12 137 "EachOnHisCueModel" "isKeeping" "Z" : Cond) ∈ lw_tbl := z_tbI4 _ (List.mem_of_getElem? (i := 36) rfl)
set_option maxRecDepth 20000 in
theorem tm_422 : (.fieldLink RX12 56 "EachOnHisCueModel" "kept" "[I" : Cond) ∈ lw_tbl := z_tbI4 _ (List.mem_of_getElem? (i := 34) rfl)
set_option maxRecDepth 20000 in
theorem tm_423 : (.fieldLink RX12 141 "EachOnHisCueModel" "cursor" "I" : Cond) ∈ lw_tbl := z_tbI4 _ (List.mem_of_getElem? (i := 37) rfl)
set_option maxRecDepth 20000 in
theorem vo_in_X12_passOne : ∀ w ∈ .code yX12_passOne cX12_passOne 3 (some .int) :: voX12_passOne, w ∈ lw_tbl := z_fc tm_420 <| z_fc tm_421 <| z_fc tm_422 <| z_fc tm_423 <| z_fn
theorem vi_X12_passOne : ∀ w ∈ vsX12_passOne, w ∈ lw_tbl := List.forall_mem_cons.mpr ⟨vo_in_X12_passOne _ (List.mem_cons_self ..), List.forall_mem_append.mpr ⟨(fun _ h => vo_in_X12_passOne _ (List.mem_cons_of_mem _ h)), vsLc_in_12⟩⟩
set_option maxRecDepth 20000 in
theorem tm_424 : (.code yX12_lose cX12_lose 4 (some .int) : Cond) ∈ lw_tbl := z_tbI4 _ (List.mem_of_getElem? (i := 231) rfl)
set_option maxRecDepth 20000 in
theorem tm_425 : (.fieldLink RX12 37 "EachOnHisCueModel" "lose" "I" : Cond) ∈ lw_tbl := z_tbI4 _ (List.mem_of_getElem? (i := 22) rfl)
set_option maxRecDepth 20000 in
theorem vo_in_X12_lose : ∀ w ∈ .code yX12_lose cX12_lose 4 (some .int) :: voX12_lose, w ∈ lw_tbl := z_fc tm_424 <| z_fc tm_425 <| z_fc tm_409 <| z_fc tm_410 <| z_fc tm_19 <| z_fc tm_411 <| z_fc tm_412 <| z_fc tm_413 <| z_fn
theorem vi_X12_lose : ∀ w ∈ vsX12_lose, w ∈ lw_tbl := List.forall_mem_cons.mpr ⟨vo_in_X12_lose _ (List.mem_cons_self ..), List.forall_mem_append.mpr ⟨(fun _ h => vo_in_X12_lose _ (List.mem_cons_of_mem _ h)), List.forall_mem_append.mpr ⟨vi_X12_bound, List.forall_mem_append.mpr ⟨vi_X12_no, vsLc_in_12⟩⟩⟩⟩
set_option maxRecDepth 20000 in
theorem tm_426 : (.code yX12_cue cX12_cue 5 (some .int) : Cond) ∈ lw_tbl := z_tbI4 _ (List.mem_of_getElem? (i := 223) rfl)
set_option maxRecDepth 20000 in
theorem tm_427 : (.methodLink RX12 169 yX12_isLine : Cond) ∈ lw_tbl := z_tbI4 _ (List.mem_of_getElem? (i := 216) rfl)
set_option maxRecDepth 20000 in
theorem tm_428 : (.instanceMethod yX12_isLine : Cond) ∈ lw_tbl := z_tbI4 _ (List.mem_of_getElem? (i := 218) rfl)
set_option maxRecDepth 20000 in
theorem tm_429 : (.selects RX12 yX12_isLine yX12_isLine : Cond) ∈ lw_tbl := z_tbI0 _ (List.mem_of_getElem? (i := 16) (by decide +kernel))
set_option maxRecDepth 20000 in
theorem vo_in_X12_cue : ∀ w ∈ .code yX12_cue cX12_cue 5 (some .int) :: voX12_cue, w ∈ lw_tbl := z_fc tm_426 <| z_fc tm_347 <| z_fc tm_427 <| z_fc tm_428 <| z_fc tm_429 <| z_fc tm_19 <| z_fc tm_409 <| z_fc tm_410 <| z_fc tm_411 <| z_fc tm_412 <| z_fc tm_413 <| z_fn
theorem vi_X12_cue : ∀ w ∈ vsX12_cue, w ∈ lw_tbl := List.forall_mem_cons.mpr ⟨vo_in_X12_cue _ (List.mem_cons_self ..), List.forall_mem_append.mpr ⟨(fun _ h => vo_in_X12_cue _ (List.mem_cons_of_mem _ h)), List.forall_mem_append.mpr ⟨vi_X12_isLine, List.forall_mem_append.mpr ⟨vi_X12_bound, List.forall_mem_append.mpr ⟨vi_X12_no, vsLc_in_12⟩⟩⟩⟩⟩
set_option maxRecDepth 20000 in
theorem tm_430 : (.code yX12_speed cX12_speed 5 (some .int) : Cond) ∈ lw_tbl := z_tbI4 _ (List.mem_of_getElem? (i := 227) rfl)
set_option maxRecDepth 20000 in
theorem tm_431 : (.methodLink RX12 117 yX12_isPlayer : Cond) ∈ lw_tbl := z_tbI4 _ (List.mem_of_getElem? (i := 184) rfl)
set_option maxRecDepth 20000 in
theorem tm_432 : (.instanceMethod yX12_isPlayer : Cond) ∈ lw_tbl := z_tbI4 _ (List.mem_of_getElem? (i := 186) rfl)
set_option maxRecDepth 20000 in
theorem tm_433 : (.selects RX12 yX12_isPlayer yX12_isPlayer : Cond) ∈ lw_tbl := z_tbI0 _ (List.mem_of_getElem? (i := 12) (by decide +kernel))
set_option maxRecDepth 20000 in
theorem vo_in_X12_speed : ∀ w ∈ .code yX12_speed cX12_speed 5 (some .int) :: voX12_speed, w ∈ lw_tbl := z_fc tm_430 <| z_fc tm_328 <| z_fc tm_431 <| z_fc tm_432 <| z_fc tm_433 <| z_fc tm_19 <| z_fc tm_409 <| z_fc tm_410 <| z_fc tm_411 <| z_fc tm_412 <| z_fc tm_413 <| z_fn
theorem vi_X12_speed : ∀ w ∈ vsX12_speed, w ∈ lw_tbl := List.forall_mem_cons.mpr ⟨vo_in_X12_speed _ (List.mem_cons_self ..), List.forall_mem_append.mpr ⟨(fun _ h => vo_in_X12_speed _ (List.mem_cons_of_mem _ h)), List.forall_mem_append.mpr ⟨vi_X12_isPlayer, List.forall_mem_append.mpr ⟨vi_X12_bound, List.forall_mem_append.mpr ⟨vi_X12_no, vsLc_in_12⟩⟩⟩⟩⟩
set_option maxRecDepth 20000 in
theorem tm_434 : (.code yX12_says cX12_says 2 none : Cond) ∈ lw_tbl := z_tbI5 _ (List.mem_of_getElem? (i := 30) rfl)
set_option maxRecDepth 20000 in
theorem tm_435 : (.fieldLink RX12 31 "EachOnHisCueModel" "kills" "[I" : Cond) ∈ lw_tbl := z_tbI4 _ (List.mem_of_getElem? (i := 18) rfl)
set_option maxRecDepth 20000 in
theorem tm_436 : (.fieldLink RX12 41 "EachOnHisCueModel" "latest" "I" : Cond) ∈ lw_tbl := z_tbI4 _ (List.mem_of_getElem? (i := 25) rfl)
set_option maxRecDepth 20000 in
theorem tm_437 : (.fieldLink RX12 157 "EachOnHisCueModel" "saidMany" "I" : Cond) ∈ lw_tbl := z_tbI4 _ (List.mem_of_getElem? (i := 26) rfl)
set_option maxRecDepth 20000 in
theorem vo_in_X12_says : ∀ w ∈ .code yX12_says cX12_says 2 none :: voX12_says, w ∈ lw_tbl := z_fc tm_434 <| z_fc tm_354 <| z_fc tm_435 <| z_fc tm_436 <| z_fc tm_437 <| z_fc tm_353 <| z_fc tm_330 <| z_fn
theorem vi_X12_says : ∀ w ∈ vsX12_says, w ∈ lw_tbl := List.forall_mem_cons.mpr ⟨vo_in_X12_says _ (List.mem_cons_self ..), List.forall_mem_append.mpr ⟨(fun _ h => vo_in_X12_says _ (List.mem_cons_of_mem _ h)), vsLc_in_12⟩⟩
set_option maxRecDepth 20000 in
theorem tm_438 : (.code yX12_beginsAnew cX12_beginsAnew 1 none : Cond) ∈ lw_tbl := z_tbI4 _ (List.mem_of_getElem? (i := 191) rfl)
set_option maxRecDepth 20000 in
theorem vo_in_X12_beginsAnew : ∀ w ∈ .code yX12_beginsAnew cX12_beginsAnew 1 none :: voX12_beginsAnew, w ∈ lw_tbl := z_fc tm_438 <| z_fc tm_354 <| z_fc tm_353 <| z_fc tm_436 <| z_fc tm_437 <| z_fn
theorem vi_X12_beginsAnew : ∀ w ∈ vsX12_beginsAnew, w ∈ lw_tbl := List.forall_mem_cons.mpr ⟨vo_in_X12_beginsAnew _ (List.mem_cons_self ..), List.forall_mem_append.mpr ⟨(fun _ h => vo_in_X12_beginsAnew _ (List.mem_cons_of_mem _ h)), vsLc_in_12⟩⟩
set_option maxRecDepth 20000 in
theorem tm_439 : (.code yX12_again cX12_again 2 (some .int) : Cond) ∈ lw_tbl := z_tbI5 _ (List.mem_of_getElem? (i := 34) rfl)
set_option maxRecDepth 20000 in
theorem tm_440 : (.methodLink RX12 134 yX12_beginsAnew : Cond) ∈ lw_tbl := z_tbI4 _ (List.mem_of_getElem? (i := 188) rfl)
set_option maxRecDepth 20000 in
theorem tm_441 : (.instanceMethod yX12_beginsAnew : Cond) ∈ lw_tbl := z_tbI4 _ (List.mem_of_getElem? (i := 190) rfl)
set_option maxRecDepth 20000 in
theorem tm_442 : (.selects RX12 yX12_beginsAnew yX12_beginsAnew : Cond) ∈ lw_tbl := z_tbI0 _ (List.mem_of_getElem? (i := 13) (by decide +kernel))
set_option maxRecDepth 20000 in
theorem vo_in_X12_again : ∀ w ∈ .code yX12_again cX12_again 2 (some .int) :: voX12_again, w ∈ lw_tbl := z_fc tm_439 <| z_fc tm_437 <| z_fc tm_440 <| z_fc tm_441 <| z_fc tm_442 <| z_fc tm_19 <| z_fn
theorem vi_X12_again : ∀ w ∈ vsX12_again, w ∈ lw_tbl := List.forall_mem_cons.mpr ⟨vo_in_X12_again _ (List.mem_cons_self ..), List.forall_mem_append.mpr ⟨(fun _ h => vo_in_X12_again _ (List.mem_cons_of_mem _ h)), List.forall_mem_append.mpr ⟨vi_X12_beginsAnew, vsLc_in_12⟩⟩⟩
set_option maxRecDepth 20000 in
theorem tm_443 : (.code yX12_player cX12_player 3 (some .int) : Cond) ∈ lw_tbl := z_tbI4 _ (List.mem_of_getElem? (i := 203) rfl)
set_option maxRecDepth 20000 in
theorem tm_444 : (.methodLink RX12 163 yX12_hasteOf : Cond) ∈ lw_tbl := z_tbI4 _ (List.mem_of_getElem? (i := 204) rfl)
set_option maxRecDepth 20000 in
theorem tm_445 : (.instanceMethod yX12_hasteOf : Cond) ∈ lw_tbl := z_tbI4 _ (List.mem_of_getElem? (i := 206) rfl)
set_option maxRecDepth 20000 in
theorem tm_446 : (.selects RX12 yX12_hasteOf yX12_hasteOf : Cond) ∈ lw_tbl := z_tbI0 _ (List.mem_of_getElem? (i := 14) (by decide +kernel))
set_option maxRecDepth 20000 in
theorem vo_in_X12_player : ∀ w ∈ .code yX12_player cX12_player 3 (some .int) :: voX12_player, w ∈ lw_tbl := z_fc tm_443 <| z_fc tm_327 <| z_fc tm_348 <| z_fc tm_353 <| z_fc tm_431 <| z_fc tm_432 <| z_fc tm_433 <| z_fc tm_19 <| z_fc tm_411 <| z_fc tm_412 <| z_fc tm_413 <| z_fc tm_444 <| z_fc tm_445 <| z_fc tm_446 <| z_fc tm_379 <| z_fc tm_380 <| z_fc tm_381 <| z_fn
theorem vi_X12_player : ∀ w ∈ vsX12_player, w ∈ lw_tbl := List.forall_mem_cons.mpr ⟨vo_in_X12_player _ (List.mem_cons_self ..), List.forall_mem_append.mpr ⟨(fun _ h => vo_in_X12_player _ (List.mem_cons_of_mem _ h)), List.forall_mem_append.mpr ⟨vi_X12_isPlayer, List.forall_mem_append.mpr ⟨vi_X12_no, List.forall_mem_append.mpr ⟨vi_X12_hasteOf, List.forall_mem_append.mpr ⟨vi_X12_linesOf, vsLc_in_12⟩⟩⟩⟩⟩⟩
set_option maxRecDepth 20000 in
theorem tm_447 : (.code yX12_line cX12_line 3 (some .int) : Cond) ∈ lw_tbl := z_tbI4 _ (List.mem_of_getElem? (i := 215) rfl)
set_option maxRecDepth 20000 in
theorem vo_in_X12_line : ∀ w ∈ .code yX12_line cX12_line 3 (some .int) :: voX12_line, w ∈ lw_tbl := z_fc tm_447 <| z_fc tm_330 <| z_fc tm_332 <| z_fc tm_347 <| z_fc tm_435 <| z_fc tm_354 <| z_fc tm_427 <| z_fc tm_428 <| z_fc tm_429 <| z_fc tm_19 <| z_fc tm_411 <| z_fc tm_412 <| z_fc tm_413 <| z_fn
theorem vi_X12_line : ∀ w ∈ vsX12_line, w ∈ lw_tbl := List.forall_mem_cons.mpr ⟨vo_in_X12_line _ (List.mem_cons_self ..), List.forall_mem_append.mpr ⟨(fun _ h => vo_in_X12_line _ (List.mem_cons_of_mem _ h)), List.forall_mem_append.mpr ⟨vi_X12_isLine, List.forall_mem_append.mpr ⟨vi_X12_no, vsLc_in_12⟩⟩⟩⟩
set_option maxRecDepth 20000 in
theorem tm_448 : (.code yX12_row cX12_row 3 (some .int) : Cond) ∈ lw_tbl := z_tbI5 _ (List.mem_of_getElem? (i := 179) rfl)
set_option maxRecDepth 20000 in
theorem tm_449 : (.fieldLink RX12 276 "EachOnHisCueModel" "rowMany" "I" : Cond) ∈ lw_tbl := z_tbI4 _ (List.mem_of_getElem? (i := 47) rfl)
set_option maxRecDepth 20000 in
theorem tm_450 : (.fieldLink RX12 71 "EachOnHisCueModel" "row" "[I" : Cond) ∈ lw_tbl := z_tbI4 _ (List.mem_of_getElem? (i := 46) rfl)
set_option maxRecDepth 20000 in
theorem vo_in_X12_row : ∀ w ∈ .code yX12_row cX12_row 3 (some .int) :: voX12_row, w ∈ lw_tbl := z_fc tm_448 <| z_fc tm_449 <| z_fc tm_450 <| z_fc tm_409 <| z_fc tm_410 <| z_fc tm_19 <| z_fc tm_411 <| z_fc tm_412 <| z_fc tm_413 <| z_fn
theorem vi_X12_row : ∀ w ∈ vsX12_row, w ∈ lw_tbl := List.forall_mem_cons.mpr ⟨vo_in_X12_row _ (List.mem_cons_self ..), List.forall_mem_append.mpr ⟨(fun _ h => vo_in_X12_row _ (List.mem_cons_of_mem _ h)), List.forall_mem_append.mpr ⟨vi_X12_bound, List.forall_mem_append.mpr ⟨vi_X12_no, vsLc_in_12⟩⟩⟩⟩
set_option maxRecDepth 20000 in
theorem tm_451 : (.code yX12_changes cX12_changes 4 none : Cond) ∈ lw_tbl := z_tbI5 _ (List.mem_of_getElem? (i := 171) rfl)
set_option maxRecDepth 20000 in
theorem tm_452 : (.fieldLink RX12 68 "EachOnHisCueModel" "order" "[I" : Cond) ∈ lw_tbl := z_tbI4 _ (List.mem_of_getElem? (i := 45) rfl)
set_option maxRecDepth 20000 in
theorem vo_in_X12_changes : ∀ w ∈ .code yX12_changes cX12_changes 4 none :: voX12_changes, w ∈ lw_tbl := z_fc tm_451 <| z_fc tm_452 <| z_fn
theorem vi_X12_changes : ∀ w ∈ vsX12_changes, w ∈ lw_tbl := List.forall_mem_cons.mpr ⟨vo_in_X12_changes _ (List.mem_cons_self ..), List.forall_mem_append.mpr ⟨(fun _ h => vo_in_X12_changes _ (List.mem_cons_of_mem _ h)), vsLc_in_12⟩⟩
set_option maxRecDepth 20000 in
theorem tm_453 : (.code yX12_draw cX12_draw 2 (some .int) : Cond) ∈ lw_tbl := z_tbI5 _ (List.mem_of_getElem? (i := 203) rfl)
set_option maxRecDepth 20000 in
theorem tm_454 : (.fieldLink RX12 279 "EachOnHisCueModel" "lots" "I" : Cond) ∈ lw_tbl := z_tbI4 _ (List.mem_of_getElem? (i := 48) rfl)
set_option maxRecDepth 20000 in
theorem tm_455 : (.constant RX12 282 (1103515245) : Cond) ∈ lw_tbl := z_tbI5 _ (List.mem_of_getElem? (i := 204) rfl)
set_option maxRecDepth 20000 in
theorem tm_456 : (.constant RX12 283 (2147483647) : Cond) ∈ lw_tbl := z_tbI5 _ (List.mem_of_getElem? (i := 205) rfl)
set_option maxRecDepth 20000 in
theorem tm_457 : (.constant RX12 284 (65536) : Cond) ∈ lw_tbl := z_tbI5 _ (List.mem_of_getElem? (i := 206) rfl)
set_option maxRecDepth 20000 in
theorem vo_in_X12_draw : ∀ w ∈ .code yX12_draw cX12_draw 2 (some .int) :: voX12_draw, w ∈ lw_tbl := z_fc tm_453 <| z_fc tm_454 <| z_fc tm_455 <| z_fc tm_456 <| z_fc tm_457 <| z_fn
theorem vi_X12_draw : ∀ w ∈ vsX12_draw, w ∈ lw_tbl := List.forall_mem_cons.mpr ⟨vo_in_X12_draw _ (List.mem_cons_self ..), List.forall_mem_append.mpr ⟨(fun _ h => vo_in_X12_draw _ (List.mem_cons_of_mem _ h)), vsLc_in_12⟩⟩
set_option maxRecDepth 20000 in
theorem tm_458 : (.code yX0_kind cX0_kind 1 (some .int) : Cond) ∈ lw_tbl := z_tbI2 _ (List.mem_of_getElem? (i := 115) rfl)
set_option maxRecDepth 20000 in
theorem vo_in_X0_kind : ∀ w ∈ .code yX0_kind cX0_kind 1 (some .int) :: voX0_kind, w ∈ lw_tbl := z_fc tm_458 <| z_fn
theorem vi_X0_kind : ∀ w ∈ vsX0_kind, w ∈ lw_tbl := List.forall_mem_cons.mpr ⟨vo_in_X0_kind _ (List.mem_cons_self ..), (fun _ h => vo_in_X0_kind _ (List.mem_cons_of_mem _ h))⟩
set_option maxRecDepth 20000 in
theorem tm_459 : (.code yX1_kind cX1_kind 1 (some .int) : Cond) ∈ lw_tbl := z_tbI2 _ (List.mem_of_getElem? (i := 118) rfl)
set_option maxRecDepth 20000 in
theorem vo_in_X1_kind : ∀ w ∈ .code yX1_kind cX1_kind 1 (some .int) :: voX1_kind, w ∈ lw_tbl := z_fc tm_459 <| z_fn
theorem vi_X1_kind : ∀ w ∈ vsX1_kind, w ∈ lw_tbl := List.forall_mem_cons.mpr ⟨vo_in_X1_kind _ (List.mem_cons_self ..), (fun _ h => vo_in_X1_kind _ (List.mem_cons_of_mem _ h))⟩
set_option maxRecDepth 20000 in
theorem tm_460 : (.code yX3_kind cX3_kind 1 (some .int) : Cond) ∈ lw_tbl := z_tbI2 _ (List.mem_of_getElem? (i := 121) rfl)
set_option maxRecDepth 20000 in
theorem vo_in_X3_kind : ∀ w ∈ .code yX3_kind cX3_kind 1 (some .int) :: voX3_kind, w ∈ lw_tbl := z_fc tm_460 <| z_fn
theorem vi_X3_kind : ∀ w ∈ vsX3_kind, w ∈ lw_tbl := List.forall_mem_cons.mpr ⟨vo_in_X3_kind _ (List.mem_cons_self ..), (fun _ h => vo_in_X3_kind _ (List.mem_cons_of_mem _ h))⟩
set_option maxRecDepth 20000 in
theorem tm_461 : (.code yX6_kind cX6_kind 1 (some .int) : Cond) ∈ lw_tbl := z_tbI2 _ (List.mem_of_getElem? (i := 128) rfl)
set_option maxRecDepth 20000 in
theorem vo_in_X6_kind : ∀ w ∈ .code yX6_kind cX6_kind 1 (some .int) :: voX6_kind, w ∈ lw_tbl := z_fc tm_461 <| z_fn
theorem vi_X6_kind : ∀ w ∈ vsX6_kind, w ∈ lw_tbl := List.forall_mem_cons.mpr ⟨vo_in_X6_kind _ (List.mem_cons_self ..), (fun _ h => vo_in_X6_kind _ (List.mem_cons_of_mem _ h))⟩
set_option maxRecDepth 20000 in
theorem tm_462 : (.code yX8_kind cX8_kind 1 (some .int) : Cond) ∈ lw_tbl := z_tbI2 _ (List.mem_of_getElem? (i := 124) rfl)
set_option maxRecDepth 20000 in
theorem vo_in_X8_kind : ∀ w ∈ .code yX8_kind cX8_kind 1 (some .int) :: voX8_kind, w ∈ lw_tbl := z_fc tm_462 <| z_fn
theorem vi_X8_kind : ∀ w ∈ vsX8_kind, w ∈ lw_tbl := List.forall_mem_cons.mpr ⟨vo_in_X8_kind _ (List.mem_cons_self ..), (fun _ h => vo_in_X8_kind _ (List.mem_cons_of_mem _ h))⟩
set_option maxRecDepth 20000 in
theorem tm_463 : (.code yX10_kind cX10_kind 1 (some .int) : Cond) ∈ lw_tbl := z_tbI2 _ (List.mem_of_getElem? (i := 127) rfl)
set_option maxRecDepth 20000 in
theorem vo_in_X10_kind : ∀ w ∈ .code yX10_kind cX10_kind 1 (some .int) :: voX10_kind, w ∈ lw_tbl := z_fc tm_463 <| z_fn
theorem vi_X10_kind : ∀ w ∈ vsX10_kind, w ∈ lw_tbl := List.forall_mem_cons.mpr ⟨vo_in_X10_kind _ (List.mem_cons_self ..), (fun _ h => vo_in_X10_kind _ (List.mem_cons_of_mem _ h))⟩
set_option maxRecDepth 20000 in
theorem tm_464 : (.code yX7_kindOf cX7_kindOf 3 (some .int) : Cond) ∈ lw_tbl := z_tbI2 _ (List.mem_of_getElem? (i := 108) rfl)
set_option maxRecDepth 20000 in
theorem tm_465 : (.fieldLink RX7 11 "EachOnHisCue$Play" "cast" "[LEachOnHisCue$Next;" : Cond) ∈ lw_tbl := z_tbI1 _ (List.mem_of_getElem? (i := 64) rfl)
set_option maxRecDepth 20000 in
theorem tm_466 : (.methodLink RX7 56 yX7_hasPlayer : Cond) ∈ lw_tbl := z_tbI2 _ (List.mem_of_getElem? (i := 92) rfl)
set_option maxRecDepth 20000 in
theorem tm_467 : (.instanceMethod yX7_hasPlayer : Cond) ∈ lw_tbl := z_tbI2 _ (List.mem_of_getElem? (i := 93) rfl)
set_option maxRecDepth 20000 in
theorem tm_468 : (.selects RX7 yX7_hasPlayer yX7_hasPlayer : Cond) ∈ lw_tbl := z_tbI2 _ (List.mem_of_getElem? (i := 94) rfl)
set_option maxRecDepth 20000 in
theorem tm_469 : (.methodLink RX7 60 yX6_kind : Cond) ∈ lw_tbl := z_tbI2 _ (List.mem_of_getElem? (i := 109) rfl)
set_option maxRecDepth 20000 in
theorem tm_470 : (.sameMethod "EachOnHisCue$Next" "EachOnHisCue$Next" "kind" "()I" : Cond) ∈ lw_tbl := z_tbI2 _ (List.mem_of_getElem? (i := 112) rfl)
set_option maxRecDepth 20000 in
theorem tm_471 : (.instanceMethod yX6_kind : Cond) ∈ lw_tbl := z_tbI2 _ (List.mem_of_getElem? (i := 110) rfl)
set_option maxRecDepth 20000 in
theorem tm_472 : (.selects RX0 yX6_kind yX0_kind : Cond) ∈ lw_tbl := z_tbI2 _ (List.mem_of_getElem? (i := 113) rfl)
set_option maxRecDepth 20000 in
theorem tm_473 : (.instanceMethod yX0_kind : Cond) ∈ lw_tbl := z_tbI2 _ (List.mem_of_getElem? (i := 114) rfl)
set_option maxRecDepth 20000 in
theorem tm_474 : (.initialized RX0 : Cond) ∈ lw_tbl := z_tbI1 _ (List.mem_of_getElem? (i := 9) rfl)
set_option maxRecDepth 20000 in
theorem tm_475 : (.selects RX1 yX6_kind yX1_kind : Cond) ∈ lw_tbl := z_tbI2 _ (List.mem_of_getElem? (i := 116) rfl)
set_option maxRecDepth 20000 in
theorem tm_476 : (.instanceMethod yX1_kind : Cond) ∈ lw_tbl := z_tbI2 _ (List.mem_of_getElem? (i := 117) rfl)
set_option maxRecDepth 20000 in
theorem tm_477 : (.initialized RX1 : Cond) ∈ lw_tbl := z_tbI1 _ (List.mem_of_getElem? (i := 11) rfl)
set_option maxRecDepth 20000 in
theorem tm_478 : (.selects RX3 yX6_kind yX3_kind : Cond) ∈ lw_tbl := z_tbI2 _ (List.mem_of_getElem? (i := 119) rfl)
set_option maxRecDepth 20000 in
theorem tm_479 : (.instanceMethod yX3_kind : Cond) ∈ lw_tbl := z_tbI2 _ (List.mem_of_getElem? (i := 120) rfl)
set_option maxRecDepth 20000 in
theorem tm_480 : (.initialized RX3 : Cond) ∈ lw_tbl := z_tbI1 _ (List.mem_of_getElem? (i := 13) rfl)
set_option maxRecDepth 20000 in
theorem tm_481 : (.selects RX6 yX6_kind yX6_kind : Cond) ∈ lw_tbl := z_tbI2 _ (List.mem_of_getElem? (i := 111) rfl)
set_option maxRecDepth 20000 in
theorem tm_482 : (.initialized RX6 : Cond) ∈ lw_tbl := z_tbI1 _ (List.mem_of_getElem? (i := 8) rfl)
set_option maxRecDepth 20000 in
theorem tm_483 : (.selects RX8 yX6_kind yX8_kind : Cond) ∈ lw_tbl := z_tbI2 _ (List.mem_of_getElem? (i := 122) rfl)
set_option maxRecDepth 20000 in
theorem tm_484 : (.instanceMethod yX8_kind : Cond) ∈ lw_tbl := z_tbI2 _ (List.mem_of_getElem? (i := 123) rfl)
set_option maxRecDepth 20000 in
theorem tm_485 : (.initialized RX8 : Cond) ∈ lw_tbl := z_tbI1 _ (List.mem_of_getElem? (i := 10) rfl)
set_option maxRecDepth 20000 in
theorem tm_486 : (.selects RX10 yX6_kind yX10_kind : Cond) ∈ lw_tbl := z_tbI2 _ (List.mem_of_getElem? (i := 125) rfl)
set_option maxRecDepth 20000 in
theorem tm_487 : (.instanceMethod yX10_kind : Cond) ∈ lw_tbl := z_tbI2 _ (List.mem_of_getElem? (i := 126) rfl)
set_option maxRecDepth 20000 in
theorem tm_488 : (.initialized RX10 : Cond) ∈ lw_tbl := z_tbI1 _ (List.mem_of_getElem? (i := 12) rfl)
set_option maxRecDepth 20000 in
theorem vo_in_X7_kindOf : ∀ w ∈ .code yX7_kindOf cX7_kindOf 3 (some .int) :: voX7_kindOf, w ∈ lw_tbl := z_fc tm_464 <| z_fc tm_465 <| z_fc tm_466 <| z_fc tm_467 <| z_fc tm_468 <| z_fc tm_284 <| z_fc tm_469 <| z_fc tm_470 <| z_fc tm_471 <| z_fc tm_472 <| z_fc tm_473 <| z_fc tm_474 <| z_fc tm_461 <| z_fc tm_475 <| z_fc tm_476 <| z_fc tm_477 <| z_fc tm_478 <| z_fc tm_479 <| z_fc tm_480 <| z_fc tm_481 <| z_fc tm_482 <| z_fc tm_483 <| z_fc tm_484 <| z_fc tm_485 <| z_fc tm_486 <| z_fc tm_487 <| z_fc tm_488 <| z_fn
theorem vi_X7_kindOf : ∀ w ∈ vsX7_kindOf, w ∈ lw_tbl := List.forall_mem_cons.mpr ⟨vo_in_X7_kindOf _ (List.mem_cons_self ..), List.forall_mem_append.mpr ⟨(fun _ h => vo_in_X7_kindOf _ (List.mem_cons_of_mem _ h)), List.forall_mem_append.mpr ⟨vi_X7_hasPlayer, List.forall_mem_append.mpr ⟨vi_X0_kind, List.forall_mem_append.mpr ⟨vi_X1_kind, List.forall_mem_append.mpr ⟨vi_X3_kind, List.forall_mem_append.mpr ⟨vi_X6_kind, List.forall_mem_append.mpr ⟨vi_X8_kind, List.forall_mem_append.mpr ⟨vi_X10_kind, vsLc_in_7⟩⟩⟩⟩⟩⟩⟩⟩⟩
set_option maxRecDepth 20000 in
theorem tm_489 : (.code yX7_figureOf cX7_figureOf 3 (some .int) : Cond) ∈ lw_tbl := z_tbI2 _ (List.mem_of_getElem? (i := 132) rfl)
set_option maxRecDepth 20000 in
theorem tm_490 : (.fieldLink RX7 64 "EachOnHisCue$Next" "figure" "I" : Cond) ∈ lw_tbl := z_tbI2 _ (List.mem_of_getElem? (i := 39) rfl)
set_option maxRecDepth 20000 in
theorem vo_in_X7_figureOf : ∀ w ∈ .code yX7_figureOf cX7_figureOf 3 (some .int) :: voX7_figureOf, w ∈ lw_tbl := z_fc tm_489 <| z_fc tm_465 <| z_fc tm_490 <| z_fc tm_466 <| z_fc tm_467 <| z_fc tm_468 <| z_fc tm_284 <| z_fn
theorem vi_X7_figureOf : ∀ w ∈ vsX7_figureOf, w ∈ lw_tbl := List.forall_mem_cons.mpr ⟨vo_in_X7_figureOf _ (List.mem_cons_self ..), List.forall_mem_append.mpr ⟨(fun _ h => vo_in_X7_figureOf _ (List.mem_cons_of_mem _ h)), List.forall_mem_append.mpr ⟨vi_X7_hasPlayer, List.forall_mem_append.mpr ⟨vsLc_in_0, List.forall_mem_append.mpr ⟨vsLc_in_1, List.forall_mem_append.mpr ⟨vsLc_in_3, List.forall_mem_append.mpr ⟨vsLc_in_6, List.forall_mem_append.mpr ⟨vsLc_in_7, List.forall_mem_append.mpr ⟨vsLc_in_8, vsLc_in_10⟩⟩⟩⟩⟩⟩⟩⟩⟩
set_option maxRecDepth 20000 in
theorem tm_491 : (.code yX6_haste cX6_haste 2 (some .int) : Cond) ∈ lw_tbl := z_tbI2 _ (List.mem_of_getElem? (i := 148) rfl)
set_option maxRecDepth 20000 in
theorem vo_in_X6_haste : ∀ w ∈ .code yX6_haste cX6_haste 2 (some .int) :: voX6_haste, w ∈ lw_tbl := z_fc tm_491 <| z_fn
theorem vi_X6_haste : ∀ w ∈ vsX6_haste, w ∈ lw_tbl := List.forall_mem_cons.mpr ⟨vo_in_X6_haste _ (List.mem_cons_self ..), (fun _ h => vo_in_X6_haste _ (List.mem_cons_of_mem _ h))⟩
set_option maxRecDepth 20000 in
theorem tm_492 : (.code yX8_haste cX8_haste 2 (some .int) : Cond) ∈ lw_tbl := z_tbI2 _ (List.mem_of_getElem? (i := 146) rfl)
set_option maxRecDepth 20000 in
theorem vo_in_X8_haste : ∀ w ∈ .code yX8_haste cX8_haste 2 (some .int) :: voX8_haste, w ∈ lw_tbl := z_fc tm_492 <| z_fn
theorem vi_X8_haste : ∀ w ∈ vsX8_haste, w ∈ lw_tbl := List.forall_mem_cons.mpr ⟨vo_in_X8_haste _ (List.mem_cons_self ..), (fun _ h => vo_in_X8_haste _ (List.mem_cons_of_mem _ h))⟩
set_option maxRecDepth 20000 in
theorem tm_493 : (.code yX7_hasteOf cX7_hasteOf 3 (some .int) : Cond) ∈ lw_tbl := z_tbI2 _ (List.mem_of_getElem? (i := 136) rfl)
set_option maxRecDepth 20000 in
theorem tm_494 : (.fieldLink RX7 17 "EachOnHisCue$Play" "speeds" "[I" : Cond) ∈ lw_tbl := z_tbI1 _ (List.mem_of_getElem? (i := 65) rfl)
set_option maxRecDepth 20000 in
theorem tm_495 : (.methodLink RX7 67 yX6_haste : Cond) ∈ lw_tbl := z_tbI2 _ (List.mem_of_getElem? (i := 137) rfl)
set_option maxRecDepth 20000 in
theorem tm_496 : (.sameMethod "EachOnHisCue$Next" "EachOnHisCue$Next" "haste" "(I)I" : Cond) ∈ lw_tbl := z_tbI2 _ (List.mem_of_getElem? (i := 140) rfl)
set_option maxRecDepth 20000 in
theorem tm_497 : (.selects RX0 yX6_haste yX6_haste : Cond) ∈ lw_tbl := z_tbI2 _ (List.mem_of_getElem? (i := 141) rfl)
set_option maxRecDepth 20000 in
theorem tm_498 : (.instanceMethod yX6_haste : Cond) ∈ lw_tbl := z_tbI2 _ (List.mem_of_getElem? (i := 138) rfl)
set_option maxRecDepth 20000 in
theorem tm_499 : (.selects RX1 yX6_haste yX6_haste : Cond) ∈ lw_tbl := z_tbI2 _ (List.mem_of_getElem? (i := 142) rfl)
set_option maxRecDepth 20000 in
theorem tm_500 : (.selects RX3 yX6_haste yX6_haste : Cond) ∈ lw_tbl := z_tbI2 _ (List.mem_of_getElem? (i := 143) rfl)
set_option maxRecDepth 20000 in
theorem tm_501 : (.selects RX6 yX6_haste yX6_haste : Cond) ∈ lw_tbl := z_tbI2 _ (List.mem_of_getElem? (i := 139) rfl)
set_option maxRecDepth 20000 in
theorem tm_502 : (.selects RX8 yX6_haste yX8_haste : Cond) ∈ lw_tbl := z_tbI2 _ (List.mem_of_getElem? (i := 144) rfl)
set_option maxRecDepth 20000 in
theorem tm_503 : (.instanceMethod yX8_haste : Cond) ∈ lw_tbl := z_tbI2 _ (List.mem_of_getElem? (i := 145) rfl)
set_option maxRecDepth 20000 in
theorem tm_504 : (.selects RX10 yX6_haste yX6_haste : Cond) ∈ lw_tbl := z_tbI2 _ (List.mem_of_getElem? (i := 147) rfl)
set_option maxRecDepth 20000 in
theorem vo_in_X7_hasteOf : ∀ w ∈ .code yX7_hasteOf cX7_hasteOf 3 (some .int) :: voX7_hasteOf, w ∈ lw_tbl := z_fc tm_493 <| z_fc tm_465 <| z_fc tm_494 <| z_fc tm_466 <| z_fc tm_467 <| z_fc tm_468 <| z_fc tm_284 <| z_fc tm_495 <| z_fc tm_496 <| z_fc tm_497 <| z_fc tm_498 <| z_fc tm_482 <| z_fc tm_499 <| z_fc tm_500 <| z_fc tm_501 <| z_fc tm_502 <| z_fc tm_503 <| z_fc tm_485 <| z_fc tm_491 <| z_fc tm_504 <| z_fn
theorem vi_X7_hasteOf : ∀ w ∈ vsX7_hasteOf, w ∈ lw_tbl := List.forall_mem_cons.mpr ⟨vo_in_X7_hasteOf _ (List.mem_cons_self ..), List.forall_mem_append.mpr ⟨(fun _ h => vo_in_X7_hasteOf _ (List.mem_cons_of_mem _ h)), List.forall_mem_append.mpr ⟨vi_X7_hasPlayer, List.forall_mem_append.mpr ⟨vi_X6_haste, List.forall_mem_append.mpr ⟨vi_X8_haste, vsLc_in_7⟩⟩⟩⟩⟩
set_option maxRecDepth 20000 in
theorem tm_505 : (.code yX6_hears cX6_hears 2 (some .int) : Cond) ∈ lw_tbl := z_tbI2 _ (List.mem_of_getElem? (i := 204) rfl)
set_option maxRecDepth 20000 in
theorem vo_in_X6_hears : ∀ w ∈ .code yX6_hears cX6_hears 2 (some .int) :: voX6_hears, w ∈ lw_tbl := z_fc tm_505 <| z_fn
theorem vi_X6_hears : ∀ w ∈ vsX6_hears, w ∈ lw_tbl := List.forall_mem_cons.mpr ⟨vo_in_X6_hears _ (List.mem_cons_self ..), (fun _ h => vo_in_X6_hears _ (List.mem_cons_of_mem _ h))⟩
set_option maxRecDepth 20000 in
theorem tm_506 : (.code yX1_hears cX1_hears 2 (some .int) : Cond) ∈ lw_tbl := z_tbI2 _ (List.mem_of_getElem? (i := 199) rfl)
set_option maxRecDepth 20000 in
theorem tm_507 : (.fieldLink RX1 7 "EachOnHisCue$Deaf" "figure" "I" : Cond) ∈ lw_tbl := z_tbI2 _ (List.mem_of_getElem? (i := 37) rfl)
set_option maxRecDepth 20000 in
theorem tm_508 : (.sameField "EachOnHisCue$Deaf" "EachOnHisCue$Next" "figure" "I" : Cond) ∈ lw_tbl := z_tbI2 _ (List.mem_of_getElem? (i := 38) rfl)
set_option maxRecDepth 20000 in
theorem tm_509 : (.methodLink RX1 13 Lib.Math.min.name : Cond) ∈ lw_tbl := z_tbI2 _ (List.mem_of_getElem? (i := 200) rfl)
set_option maxRecDepth 20000 in
theorem vo_in_X1_hears : ∀ w ∈ .code yX1_hears cX1_hears 2 (some .int) :: voX1_hears, w ∈ lw_tbl := z_fc tm_506 <| z_fc tm_507 <| z_fc tm_508 <| z_fc tm_509 <| z_fc tm_219 <| z_fc tm_220 <| z_fc tm_221 <| z_fn
theorem vi_X1_hears : ∀ w ∈ vsX1_hears, w ∈ lw_tbl := List.forall_mem_cons.mpr ⟨vo_in_X1_hears _ (List.mem_cons_self ..), List.forall_mem_append.mpr ⟨(fun _ h => vo_in_X1_hears _ (List.mem_cons_of_mem _ h)), List.forall_mem_append.mpr ⟨vsLc_in_1, vsLc_in_10⟩⟩⟩
set_option maxRecDepth 20000 in
theorem tm_510 : (.code yX7_heardOf cX7_heardOf 4 (some .int) : Cond) ∈ lw_tbl := z_tbI2 _ (List.mem_of_getElem? (i := 190) rfl)
set_option maxRecDepth 20000 in
theorem tm_511 : (.fieldLink RX7 28 "EachOnHisCue$Play" "owners" "[I" : Cond) ∈ lw_tbl := z_tbI1 _ (List.mem_of_getElem? (i := 73) rfl)
set_option maxRecDepth 20000 in
theorem tm_512 : (.methodLink RX7 71 yX7_hasLine : Cond) ∈ lw_tbl := z_tbI2 _ (List.mem_of_getElem? (i := 191) rfl)
set_option maxRecDepth 20000 in
theorem tm_513 : (.instanceMethod yX7_hasLine : Cond) ∈ lw_tbl := z_tbI2 _ (List.mem_of_getElem? (i := 157) rfl)
set_option maxRecDepth 20000 in
theorem tm_514 : (.selects RX7 yX7_hasLine yX7_hasLine : Cond) ∈ lw_tbl := z_tbI2 _ (List.mem_of_getElem? (i := 158) rfl)
set_option maxRecDepth 20000 in
theorem tm_515 : (.methodLink RX7 74 yX6_hears : Cond) ∈ lw_tbl := z_tbI2 _ (List.mem_of_getElem? (i := 192) rfl)
set_option maxRecDepth 20000 in
theorem tm_516 : (.sameMethod "EachOnHisCue$Next" "EachOnHisCue$Next" "hears" "(I)I" : Cond) ∈ lw_tbl := z_tbI2 _ (List.mem_of_getElem? (i := 195) rfl)
set_option maxRecDepth 20000 in
theorem tm_517 : (.selects RX0 yX6_hears yX6_hears : Cond) ∈ lw_tbl := z_tbI2 _ (List.mem_of_getElem? (i := 196) rfl)
set_option maxRecDepth 20000 in
theorem tm_518 : (.instanceMethod yX6_hears : Cond) ∈ lw_tbl := z_tbI2 _ (List.mem_of_getElem? (i := 193) rfl)
set_option maxRecDepth 20000 in
theorem tm_519 : (.selects RX1 yX6_hears yX1_hears : Cond) ∈ lw_tbl := z_tbI2 _ (List.mem_of_getElem? (i := 197) rfl)
set_option maxRecDepth 20000 in
theorem tm_520 : (.instanceMethod yX1_hears : Cond) ∈ lw_tbl := z_tbI2 _ (List.mem_of_getElem? (i := 198) rfl)
set_option maxRecDepth 20000 in
theorem tm_521 : (.selects RX3 yX6_hears yX6_hears : Cond) ∈ lw_tbl := z_tbI2 _ (List.mem_of_getElem? (i := 201) rfl)
set_option maxRecDepth 20000 in
theorem tm_522 : (.selects RX6 yX6_hears yX6_hears : Cond) ∈ lw_tbl := z_tbI2 _ (List.mem_of_getElem? (i := 194) rfl)
set_option maxRecDepth 20000 in
theorem tm_523 : (.selects RX8 yX6_hears yX6_hears : Cond) ∈ lw_tbl := z_tbI2 _ (List.mem_of_getElem? (i := 202) rfl)
set_option maxRecDepth 20000 in
theorem tm_524 : (.selects RX10 yX6_hears yX1_hears : Cond) ∈ lw_tbl := z_tbI2 _ (List.mem_of_getElem? (i := 203) rfl)
set_option maxRecDepth 20000 in
theorem vo_in_X7_heardOf : ∀ w ∈ .code yX7_heardOf cX7_heardOf 4 (some .int) :: voX7_heardOf, w ∈ lw_tbl := z_fc tm_510 <| z_fc tm_511 <| z_fc tm_465 <| z_fc tm_512 <| z_fc tm_513 <| z_fc tm_514 <| z_fc tm_284 <| z_fc tm_466 <| z_fc tm_467 <| z_fc tm_468 <| z_fc tm_515 <| z_fc tm_516 <| z_fc tm_517 <| z_fc tm_518 <| z_fc tm_482 <| z_fc tm_519 <| z_fc tm_520 <| z_fc tm_477 <| z_fc tm_505 <| z_fc tm_521 <| z_fc tm_522 <| z_fc tm_523 <| z_fc tm_524 <| z_fn
theorem vi_X7_heardOf : ∀ w ∈ vsX7_heardOf, w ∈ lw_tbl := List.forall_mem_cons.mpr ⟨vo_in_X7_heardOf _ (List.mem_cons_self ..), List.forall_mem_append.mpr ⟨(fun _ h => vo_in_X7_heardOf _ (List.mem_cons_of_mem _ h)), List.forall_mem_append.mpr ⟨vi_X7_hasLine, List.forall_mem_append.mpr ⟨vi_X7_hasPlayer, List.forall_mem_append.mpr ⟨vi_X6_hears, List.forall_mem_append.mpr ⟨vi_X1_hears, vsLc_in_7⟩⟩⟩⟩⟩⟩
set_option maxRecDepth 20000 in
theorem tm_525 : (.code yX0_choose cX0_choose 4 (some .int) : Cond) ∈ lw_tbl := z_tbI2 _ (List.mem_of_getElem? (i := 225) rfl)
set_option maxRecDepth 20000 in
theorem vo_in_X0_choose : ∀ w ∈ .code yX0_choose cX0_choose 4 (some .int) :: voX0_choose, w ∈ lw_tbl := z_fc tm_525 <| z_fc tm_15 <| z_fc tm_295 <| z_fn
theorem vi_X0_choose : ∀ w ∈ vsX0_choose, w ∈ lw_tbl := List.forall_mem_cons.mpr ⟨vo_in_X0_choose _ (List.mem_cons_self ..), List.forall_mem_append.mpr ⟨(fun _ h => vo_in_X0_choose _ (List.mem_cons_of_mem _ h)), vi_X11_leastOf⟩⟩
set_option maxRecDepth 20000 in
theorem tm_526 : (.code yX6_choose cX6_choose 5 (some .int) : Cond) ∈ lw_tbl := z_tbI3 _ (List.mem_of_getElem? (i := 0) rfl)
set_option maxRecDepth 20000 in
theorem vo_in_X6_choose : ∀ w ∈ .code yX6_choose cX6_choose 5 (some .int) :: voX6_choose, w ∈ lw_tbl := z_fc tm_526 <| z_fc tm_15 <| z_fc tm_295 <| z_fc tm_300 <| z_fn
theorem vi_X6_choose : ∀ w ∈ vsX6_choose, w ∈ lw_tbl := List.forall_mem_cons.mpr ⟨vo_in_X6_choose _ (List.mem_cons_self ..), List.forall_mem_append.mpr ⟨(fun _ h => vo_in_X6_choose _ (List.mem_cons_of_mem _ h)), List.forall_mem_append.mpr ⟨vi_X11_leastOf, vi_X11_bitAt⟩⟩⟩
set_option maxRecDepth 20000 in
theorem tm_527 : (.code yX3_choose cX3_choose 4 (some .int) : Cond) ∈ lw_tbl := z_tbI2 _ (List.mem_of_getElem? (i := 232) rfl)
set_option maxRecDepth 20000 in
theorem vo_in_X3_choose : ∀ w ∈ .code yX3_choose cX3_choose 4 (some .int) :: voX3_choose, w ∈ lw_tbl := z_fc tm_527 <| z_fc tm_15 <| z_fc tm_296 <| z_fn
theorem vi_X3_choose : ∀ w ∈ vsX3_choose, w ∈ lw_tbl := List.forall_mem_cons.mpr ⟨vo_in_X3_choose _ (List.mem_cons_self ..), List.forall_mem_append.mpr ⟨(fun _ h => vo_in_X3_choose _ (List.mem_cons_of_mem _ h)), vi_X11_greatestOf⟩⟩
set_option maxRecDepth 20000 in
theorem tm_528 : (.code yX10_choose cX10_choose 4 (some .int) : Cond) ∈ lw_tbl := z_tbI2 _ (List.mem_of_getElem? (i := 239) rfl)
set_option maxRecDepth 20000 in
theorem vo_in_X10_choose : ∀ w ∈ .code yX10_choose cX10_choose 4 (some .int) :: voX10_choose, w ∈ lw_tbl := z_fc tm_528 <| z_fn
theorem vi_X10_choose : ∀ w ∈ vsX10_choose, w ∈ lw_tbl := List.forall_mem_cons.mpr ⟨vo_in_X10_choose _ (List.mem_cons_self ..), (fun _ h => vo_in_X10_choose _ (List.mem_cons_of_mem _ h))⟩
set_option maxRecDepth 20000 in
theorem tm_529 : (.code yX7_chosenBy cX7_chosenBy 5 (some .int) : Cond) ∈ lw_tbl := z_tbI2 _ (List.mem_of_getElem? (i := 218) rfl)
set_option maxRecDepth 20000 in
theorem tm_530 : (.methodLink RX7 77 yX6_choose : Cond) ∈ lw_tbl := z_tbI2 _ (List.mem_of_getElem? (i := 219) rfl)
set_option maxRecDepth 20000 in
theorem tm_531 : (.sameMethod "EachOnHisCue$Next" "EachOnHisCue$Next" "choose" "(III)I" : Cond) ∈ lw_tbl := z_tbI2 _ (List.mem_of_getElem? (i := 222) rfl)
set_option maxRecDepth 20000 in
theorem tm_532 : (.instanceMethod yX6_choose : Cond) ∈ lw_tbl := z_tbI2 _ (List.mem_of_getElem? (i := 220) rfl)
set_option maxRecDepth 20000 in
theorem tm_533 : (.selects RX0 yX6_choose yX0_choose : Cond) ∈ lw_tbl := z_tbI2 _ (List.mem_of_getElem? (i := 223) rfl)
set_option maxRecDepth 20000 in
theorem tm_534 : (.instanceMethod yX0_choose : Cond) ∈ lw_tbl := z_tbI2 _ (List.mem_of_getElem? (i := 224) rfl)
set_option maxRecDepth 20000 in
theorem tm_535 : (.selects RX1 yX6_choose yX6_choose : Cond) ∈ lw_tbl := z_tbI2 _ (List.mem_of_getElem? (i := 229) rfl)
set_option maxRecDepth 20000 in
theorem tm_536 : (.selects RX3 yX6_choose yX3_choose : Cond) ∈ lw_tbl := z_tbI2 _ (List.mem_of_getElem? (i := 230) rfl)
set_option maxRecDepth 20000 in
theorem tm_537 : (.instanceMethod yX3_choose : Cond) ∈ lw_tbl := z_tbI2 _ (List.mem_of_getElem? (i := 231) rfl)
set_option maxRecDepth 20000 in
theorem tm_538 : (.selects RX6 yX6_choose yX6_choose : Cond) ∈ lw_tbl := z_tbI2 _ (List.mem_of_getElem? (i := 221) rfl)
set_option maxRecDepth 20000 in
theorem tm_539 : (.selects RX8 yX6_choose yX6_choose : Cond) ∈ lw_tbl := z_tbI2 _ (List.mem_of_getElem? (i := 236) rfl)
set_option maxRecDepth 20000 in
theorem tm_540 : (.selects RX10 yX6_choose yX10_choose : Cond) ∈ lw_tbl := z_tbI2 _ (List.mem_of_getElem? (i := 237) rfl)
set_option maxRecDepth 20000 in
theorem tm_541 : (.instanceMethod yX10_choose : Cond) ∈ lw_tbl := z_tbI2 _ (List.mem_of_getElem? (i := 238) rfl)
set_option maxRecDepth 20000 in
theorem vo_in_X7_chosenBy : ∀ w ∈ .code yX7_chosenBy cX7_chosenBy 5 (some .int) :: voX7_chosenBy, w ∈ lw_tbl := z_fc tm_529 <| z_fc tm_465 <| z_fc tm_294 <| z_fc tm_466 <| z_fc tm_467 <| z_fc tm_468 <| z_fc tm_284 <| z_fc tm_530 <| z_fc tm_531 <| z_fc tm_532 <| z_fc tm_533 <| z_fc tm_534 <| z_fc tm_474 <| z_fc tm_526 <| z_fc tm_535 <| z_fc tm_482 <| z_fc tm_536 <| z_fc tm_537 <| z_fc tm_480 <| z_fc tm_538 <| z_fc tm_539 <| z_fc tm_540 <| z_fc tm_541 <| z_fc tm_488 <| z_fn
theorem vi_X7_chosenBy : ∀ w ∈ vsX7_chosenBy, w ∈ lw_tbl := List.forall_mem_cons.mpr ⟨vo_in_X7_chosenBy _ (List.mem_cons_self ..), List.forall_mem_append.mpr ⟨(fun _ h => vo_in_X7_chosenBy _ (List.mem_cons_of_mem _ h)), List.forall_mem_append.mpr ⟨vi_X7_hasPlayer, List.forall_mem_append.mpr ⟨vi_X0_choose, List.forall_mem_append.mpr ⟨vi_X6_choose, List.forall_mem_append.mpr ⟨vi_X3_choose, List.forall_mem_append.mpr ⟨vi_X10_choose, vsLc_in_7⟩⟩⟩⟩⟩⟩⟩
set_option maxRecDepth 20000 in
theorem tm_542 : (.code yX7_linesOfSick cX7_linesOfSick 3 (some .int) : Cond) ∈ lw_tbl := z_tbI3 _ (List.mem_of_getElem? (i := 57) rfl)
set_option maxRecDepth 20000 in
theorem tm_543 : (.classLink RX7 81 "EachOnHisCue$Sick" : Cond) ∈ lw_tbl := z_tbI3 _ (List.mem_of_getElem? (i := 58) rfl)
set_option maxRecDepth 20000 in
theorem vo_in_X7_linesOfSick : ∀ w ∈ .code yX7_linesOfSick cX7_linesOfSick 3 (some .int) :: voX7_linesOfSick, w ∈ lw_tbl := z_fc tm_542 <| z_fc tm_273 <| z_fc tm_465 <| z_fc tm_543 <| z_fc tm_294 <| z_fn
theorem vi_X7_linesOfSick : ∀ w ∈ vsX7_linesOfSick, w ∈ lw_tbl := List.forall_mem_cons.mpr ⟨vo_in_X7_linesOfSick _ (List.mem_cons_self ..), List.forall_mem_append.mpr ⟨(fun _ h => vo_in_X7_linesOfSick _ (List.mem_cons_of_mem _ h)), vsLc_in_7⟩⟩
set_option maxRecDepth 20000 in
theorem tm_544 : (.code yX7_cuedBy cX7_cuedBy 7 (some .int) : Cond) ∈ lw_tbl := z_tbI2 _ (List.mem_of_getElem? (i := 183) rfl)
set_option maxRecDepth 20000 in
theorem tm_545 : (.methodLink RX7 96 yX7_heardOf : Cond) ∈ lw_tbl := z_tbI2 _ (List.mem_of_getElem? (i := 187) rfl)
set_option maxRecDepth 20000 in
theorem tm_546 : (.instanceMethod yX7_heardOf : Cond) ∈ lw_tbl := z_tbI2 _ (List.mem_of_getElem? (i := 188) rfl)
set_option maxRecDepth 20000 in
theorem tm_547 : (.selects RX7 yX7_heardOf yX7_heardOf : Cond) ∈ lw_tbl := z_tbI2 _ (List.mem_of_getElem? (i := 189) rfl)
set_option maxRecDepth 20000 in
theorem vo_in_X7_cuedBy : ∀ w ∈ .code yX7_cuedBy cX7_cuedBy 7 (some .int) :: voX7_cuedBy, w ∈ lw_tbl := z_fc tm_544 <| z_fc tm_275 <| z_fc tm_286 <| z_fc tm_278 <| z_fc tm_219 <| z_fc tm_220 <| z_fc tm_221 <| z_fc tm_545 <| z_fc tm_546 <| z_fc tm_547 <| z_fc tm_284 <| z_fc tm_281 <| z_fc tm_282 <| z_fc tm_283 <| z_fn
theorem vi_X7_cuedBy : ∀ w ∈ vsX7_cuedBy, w ∈ lw_tbl := List.forall_mem_cons.mpr ⟨vo_in_X7_cuedBy _ (List.mem_cons_self ..), List.forall_mem_append.mpr ⟨(fun _ h => vo_in_X7_cuedBy _ (List.mem_cons_of_mem _ h)), List.forall_mem_append.mpr ⟨vi_X7_heardOf, List.forall_mem_append.mpr ⟨vi_X7_endsAsAhead, vsLc_in_7⟩⟩⟩⟩
set_option maxRecDepth 20000 in
theorem tm_548 : (.code yX2_comesWith cX2_comesWith 4 (some .int) : Cond) ∈ lw_tbl := z_tbI2 _ (List.mem_of_getElem? (i := 212) rfl)
set_option maxRecDepth 20000 in
theorem tm_549 : (.fieldLink RX2 29 "EachOnHisCue$Saying" "latest" "I" : Cond) ∈ lw_tbl := z_tbI1 _ (List.mem_of_getElem? (i := 44) rfl)
set_option maxRecDepth 20000 in
theorem tm_550 : (.fieldLink RX2 38 "EachOnHisCue$Saying" "dead" "I" : Cond) ∈ lw_tbl := z_tbI1 _ (List.mem_of_getElem? (i := 41) rfl)
set_option maxRecDepth 20000 in
theorem tm_551 : (.fieldLink RX2 12 "EachOnHisCue$Evening" "web" "LEachOnHisCue$Net;" : Cond) ∈ lw_tbl := z_tbI1 _ (List.mem_of_getElem? (i := 141) rfl)
set_option maxRecDepth 20000 in
theorem tm_552 : (.fieldLink RX2 45 "EachOnHisCue$Net" "after" "[I" : Cond) ∈ lw_tbl := z_tbI1 _ (List.mem_of_getElem? (i := 131) rfl)
set_option maxRecDepth 20000 in
theorem tm_553 : (.fieldLink RX2 49 "EachOnHisCue$Saying" "said" "I" : Cond) ∈ lw_tbl := z_tbI1 _ (List.mem_of_getElem? (i := 38) rfl)
set_option maxRecDepth 20000 in
theorem tm_554 : (.methodLink RX2 32 yX7_hasLine : Cond) ∈ lw_tbl := z_tbI2 _ (List.mem_of_getElem? (i := 213) rfl)
set_option maxRecDepth 20000 in
theorem tm_555 : (.methodLink RX2 52 yX7_chosenBy : Cond) ∈ lw_tbl := z_tbI2 _ (List.mem_of_getElem? (i := 215) rfl)
set_option maxRecDepth 20000 in
theorem tm_556 : (.instanceMethod yX7_chosenBy : Cond) ∈ lw_tbl := z_tbI2 _ (List.mem_of_getElem? (i := 216) rfl)
set_option maxRecDepth 20000 in
theorem tm_557 : (.selects RX7 yX7_chosenBy yX7_chosenBy : Cond) ∈ lw_tbl := z_tbI2 _ (List.mem_of_getElem? (i := 217) rfl)
set_option maxRecDepth 20000 in
theorem vo_in_X2_comesWith : ∀ w ∈ .code yX2_comesWith cX2_comesWith 4 (some .int) :: voX2_comesWith, w ∈ lw_tbl := z_fc tm_548 <| z_fc tm_549 <| z_fc tm_550 <| z_fc tm_15 <| z_fc tm_300 <| z_fc tm_551 <| z_fc tm_552 <| z_fc tm_553 <| z_fc tm_554 <| z_fc tm_513 <| z_fc tm_514 <| z_fc tm_284 <| z_fc tm_555 <| z_fc tm_556 <| z_fc tm_557 <| z_fn
theorem vi_X2_comesWith : ∀ w ∈ vsX2_comesWith, w ∈ lw_tbl := List.forall_mem_cons.mpr ⟨vo_in_X2_comesWith _ (List.mem_cons_self ..), List.forall_mem_append.mpr ⟨(fun _ h => vo_in_X2_comesWith _ (List.mem_cons_of_mem _ h)), List.forall_mem_append.mpr ⟨vi_X7_hasLine, List.forall_mem_append.mpr ⟨vi_X11_bitAt, List.forall_mem_append.mpr ⟨vi_X7_chosenBy, List.forall_mem_append.mpr ⟨vsLc_in_2, List.forall_mem_append.mpr ⟨vsLc_in_5, vsLc_in_9⟩⟩⟩⟩⟩⟩⟩
set_option maxRecDepth 20000 in
theorem tm_558 : (.code yX2_nextLine cX2_nextLine 8 (some .int) : Cond) ∈ lw_tbl := z_tbI3 _ (List.mem_of_getElem? (i := 10) rfl)
set_option maxRecDepth 20000 in
theorem tm_559 : (.fieldLink RX2 56 "EachOnHisCue$Saying" "times" "I" : Cond) ∈ lw_tbl := z_tbI1 _ (List.mem_of_getElem? (i := 47) rfl)
set_option maxRecDepth 20000 in
theorem tm_560 : (.fieldLink RX2 59 "EachOnHisCue$Play" "players" "I" : Cond) ∈ lw_tbl := z_tbI1 _ (List.mem_of_getElem? (i := 70) rfl)
set_option maxRecDepth 20000 in
theorem tm_561 : (.methodLink RX2 62 yX2_comesWith : Cond) ∈ lw_tbl := z_tbI3 _ (List.mem_of_getElem? (i := 11) rfl)
set_option maxRecDepth 20000 in
theorem tm_562 : (.instanceMethod yX2_comesWith : Cond) ∈ lw_tbl := z_tbI2 _ (List.mem_of_getElem? (i := 210) rfl)
set_option maxRecDepth 20000 in
theorem tm_563 : (.selects RX2 yX2_comesWith yX2_comesWith : Cond) ∈ lw_tbl := z_tbI2 _ (List.mem_of_getElem? (i := 211) rfl)
set_option maxRecDepth 20000 in
theorem tm_564 : (.initialized RX2 : Cond) ∈ lw_tbl := z_tbI1 _ (List.mem_of_getElem? (i := 4) rfl)
set_option maxRecDepth 20000 in
theorem tm_565 : (.methodLink RX2 66 yX7_hasteOf : Cond) ∈ lw_tbl := z_tbI3 _ (List.mem_of_getElem? (i := 12) rfl)
set_option maxRecDepth 20000 in
theorem tm_566 : (.instanceMethod yX7_hasteOf : Cond) ∈ lw_tbl := z_tbI2 _ (List.mem_of_getElem? (i := 134) rfl)
set_option maxRecDepth 20000 in
theorem tm_567 : (.selects RX7 yX7_hasteOf yX7_hasteOf : Cond) ∈ lw_tbl := z_tbI2 _ (List.mem_of_getElem? (i := 135) rfl)
set_option maxRecDepth 20000 in
theorem vo_in_X2_nextLine : ∀ w ∈ .code yX2_nextLine cX2_nextLine 8 (some .int) :: voX2_nextLine, w ∈ lw_tbl := z_fc tm_558 <| z_fc tm_559 <| z_fc tm_560 <| z_fc tm_561 <| z_fc tm_562 <| z_fc tm_563 <| z_fc tm_564 <| z_fc tm_565 <| z_fc tm_566 <| z_fc tm_567 <| z_fc tm_284 <| z_fn
theorem vi_X2_nextLine : ∀ w ∈ vsX2_nextLine, w ∈ lw_tbl := List.forall_mem_cons.mpr ⟨vo_in_X2_nextLine _ (List.mem_cons_self ..), List.forall_mem_append.mpr ⟨(fun _ h => vo_in_X2_nextLine _ (List.mem_cons_of_mem _ h)), List.forall_mem_append.mpr ⟨vi_X2_comesWith, List.forall_mem_append.mpr ⟨vi_X7_hasteOf, List.forall_mem_append.mpr ⟨vsLc_in_7, vsLc_in_9⟩⟩⟩⟩⟩
set_option maxRecDepth 20000 in
theorem tm_568 : (.code yX2_wentAsWritten cX2_wentAsWritten 2 (some .boolean) : Cond) ∈ lw_tbl := z_tbI3 _ (List.mem_of_getElem? (i := 44) rfl)
set_option maxRecDepth 20000 in
theorem tm_569 : (.fieldLink RX2 21 "EachOnHisCue$Evening" "saying" "LEachOnHisCue$Saying;" : Cond) ∈ lw_tbl := z_tbI1 _ (List.mem_of_getElem? (i := 143) rfl)
set_option maxRecDepth 20000 in
theorem tm_570 : (.fieldLink RX2 80 "EachOnHisCue$Play" "lines" "I" : Cond) ∈ lw_tbl := z_tbI1 _ (List.mem_of_getElem? (i := 86) rfl)
set_option maxRecDepth 20000 in
theorem tm_571 : (.fieldLink RX2 83 "EachOnHisCue$Saying" "leaps" "I" : Cond) ∈ lw_tbl := z_tbI1 _ (List.mem_of_getElem? (i := 50) rfl)
set_option maxRecDepth 20000 in
theorem vo_in_X2_wentAsWritten : ∀ w ∈ .code yX2_wentAsWritten cX2_wentAsWritten 2 (some .boolean) :: voX2_wentAsWritten, w ∈ lw_tbl := z_fc tm_568 <| z_fc tm_569 <| z_fc tm_559 <| z_fc tm_570 <| z_fc tm_571 <| z_fn
theorem vi_X2_wentAsWritten : ∀ w ∈ vsX2_wentAsWritten, w ∈ lw_tbl := List.forall_mem_cons.mpr ⟨vo_in_X2_wentAsWritten _ (List.mem_cons_self ..), List.forall_mem_append.mpr ⟨(fun _ h => vo_in_X2_wentAsWritten _ (List.mem_cons_of_mem _ h)), List.forall_mem_append.mpr ⟨vsLc_in_2, List.forall_mem_append.mpr ⟨vsLc_in_7, vsLc_in_9⟩⟩⟩⟩
set_option maxRecDepth 20000 in
theorem tm_572 : (.code yX5_ordersBehind cX5_ordersBehind 7 (some .int) : Cond) ∈ lw_tbl := z_tbI3 _ (List.mem_of_getElem? (i := 165) rfl)
set_option maxRecDepth 20000 in
theorem tm_573 : (.methodLink RX5 55 yX5_freeBehind : Cond) ∈ lw_tbl := z_tbI3 _ (List.mem_of_getElem? (i := 166) rfl)
set_option maxRecDepth 20000 in
theorem tm_574 : (.instanceMethod yX5_freeBehind : Cond) ∈ lw_tbl := z_tbI3 _ (List.mem_of_getElem? (i := 167) rfl)
set_option maxRecDepth 20000 in
theorem tm_575 : (.selects RX5 yX5_freeBehind yX5_freeBehind : Cond) ∈ lw_tbl := z_tbI3 _ (List.mem_of_getElem? (i := 168) rfl)
set_option maxRecDepth 20000 in
theorem tm_576 : (.methodLink RX5 51 yX5_ordersBehind : Cond) ∈ lw_tbl := z_tbI3 _ (List.mem_of_getElem? (i := 163) rfl)
set_option maxRecDepth 20000 in
theorem tm_577 : (.static yX5_ordersBehind : Cond) ∈ lw_tbl := z_tbI3 _ (List.mem_of_getElem? (i := 164) rfl)
set_option maxRecDepth 20000 in
theorem vo_in_X5_ordersBehind : ∀ w ∈ .code yX5_ordersBehind cX5_ordersBehind 7 (some .int) :: voX5_ordersBehind, w ∈ lw_tbl := z_fc tm_572 <| z_fc tm_299 <| z_fc tm_15 <| z_fc tm_300 <| z_fc tm_573 <| z_fc tm_574 <| z_fc tm_575 <| z_fc tm_306 <| z_fc tm_576 <| z_fc tm_577 <| z_fn
theorem vi_X5_ordersBehind : ∀ w ∈ vsX5_ordersBehind, w ∈ lw_tbl := List.forall_mem_cons.mpr ⟨vo_in_X5_ordersBehind _ (List.mem_cons_self ..), List.forall_mem_append.mpr ⟨(fun _ h => vo_in_X5_ordersBehind _ (List.mem_cons_of_mem _ h)), List.forall_mem_append.mpr ⟨vi_X5_freeBehind, List.forall_mem_append.mpr ⟨vi_X11_bitAt, vsLc_in_5⟩⟩⟩⟩
set_option maxRecDepth 20000 in
theorem tm_578 : (.code yX5_orders cX5_orders 1 (some .int) : Cond) ∈ lw_tbl := z_tbI3 _ (List.mem_of_getElem? (i := 162) rfl)
set_option maxRecDepth 20000 in
theorem vo_in_X5_orders : ∀ w ∈ .code yX5_orders cX5_orders 1 (some .int) :: voX5_orders, w ∈ lw_tbl := z_fc tm_578 <| z_fc tm_576 <| z_fc tm_577 <| z_fc tm_306 <| z_fn
theorem vi_X5_orders : ∀ w ∈ vsX5_orders, w ∈ lw_tbl := List.forall_mem_cons.mpr ⟨vo_in_X5_orders _ (List.mem_cons_self ..), List.forall_mem_append.mpr ⟨(fun _ h => vo_in_X5_orders _ (List.mem_cons_of_mem _ h)), vi_X5_ordersBehind⟩⟩
set_option maxRecDepth 20000 in
theorem tm_579 : (.code yX5_lineOfOrder cX5_lineOfOrder 11 (some .int) : Cond) ∈ lw_tbl := z_tbI3 _ (List.mem_of_getElem? (i := 177) rfl)
set_option maxRecDepth 20000 in
theorem vo_in_X5_lineOfOrder : ∀ w ∈ .code yX5_lineOfOrder cX5_lineOfOrder 11 (some .int) :: voX5_lineOfOrder, w ∈ lw_tbl := z_fc tm_579 <| z_fc tm_299 <| z_fc tm_15 <| z_fc tm_300 <| z_fc tm_573 <| z_fc tm_574 <| z_fc tm_575 <| z_fc tm_306 <| z_fc tm_576 <| z_fc tm_577 <| z_fn
theorem vi_X5_lineOfOrder : ∀ w ∈ vsX5_lineOfOrder, w ∈ lw_tbl := List.forall_mem_cons.mpr ⟨vo_in_X5_lineOfOrder _ (List.mem_cons_self ..), List.forall_mem_append.mpr ⟨(fun _ h => vo_in_X5_lineOfOrder _ (List.mem_cons_of_mem _ h)), List.forall_mem_append.mpr ⟨vi_X5_freeBehind, List.forall_mem_append.mpr ⟨vi_X11_bitAt, List.forall_mem_append.mpr ⟨vi_X5_ordersBehind, vsLc_in_5⟩⟩⟩⟩⟩
set_option maxRecDepth 20000 in
theorem tm_580 : (.code yX5_firstThatCannotFollow cX5_firstThatCannotFollow 5 (some .int) : Cond) ∈ lw_tbl := z_tbI3 _ (List.mem_of_getElem? (i := 197) rfl)
set_option maxRecDepth 20000 in
theorem tm_581 : (.methodLink RX5 58 yX5_canFollow : Cond) ∈ lw_tbl := z_tbI3 _ (List.mem_of_getElem? (i := 198) rfl)
set_option maxRecDepth 20000 in
theorem tm_582 : (.instanceMethod yX5_canFollow : Cond) ∈ lw_tbl := z_tbI3 _ (List.mem_of_getElem? (i := 199) rfl)
set_option maxRecDepth 20000 in
theorem tm_583 : (.selects RX5 yX5_canFollow yX5_canFollow : Cond) ∈ lw_tbl := z_tbI3 _ (List.mem_of_getElem? (i := 200) rfl)
set_option maxRecDepth 20000 in
theorem vo_in_X5_firstThatCannotFollow : ∀ w ∈ .code yX5_firstThatCannotFollow cX5_firstThatCannotFollow 5 (some .int) :: voX5_firstThatCannotFollow, w ∈ lw_tbl := z_fc tm_580 <| z_fc tm_581 <| z_fc tm_582 <| z_fc tm_583 <| z_fc tm_306 <| z_fn
theorem vi_X5_firstThatCannotFollow : ∀ w ∈ vsX5_firstThatCannotFollow, w ∈ lw_tbl := List.forall_mem_cons.mpr ⟨vo_in_X5_firstThatCannotFollow _ (List.mem_cons_self ..), List.forall_mem_append.mpr ⟨(fun _ h => vo_in_X5_firstThatCannotFollow _ (List.mem_cons_of_mem _ h)), vi_X5_canFollow⟩⟩
set_option maxRecDepth 20000 in
theorem tm_584 : (.code yX5_weave cX5_weave 4 none : Cond) ∈ lw_tbl := z_tbI2 _ (List.mem_of_getElem? (i := 179) rfl)
set_option maxRecDepth 20000 in
theorem tm_585 : (.fieldLink RX5 19 "EachOnHisCue$Play" "lines" "I" : Cond) ∈ lw_tbl := z_tbI1 _ (List.mem_of_getElem? (i := 85) rfl)
set_option maxRecDepth 20000 in
theorem tm_586 : (.fieldLink RX5 22 "EachOnHisCue$Play" "texts" "[I" : Cond) ∈ lw_tbl := z_tbI1 _ (List.mem_of_getElem? (i := 76) rfl)
set_option maxRecDepth 20000 in
theorem tm_587 : (.fieldLink RX5 25 "EachOnHisCue$Play" "sizes" "[I" : Cond) ∈ lw_tbl := z_tbI1 _ (List.mem_of_getElem? (i := 78) rfl)
set_option maxRecDepth 20000 in
theorem tm_588 : (.methodLink RX5 28 yX7_cuedBy : Cond) ∈ lw_tbl := z_tbI2 _ (List.mem_of_getElem? (i := 180) rfl)
set_option maxRecDepth 20000 in
theorem tm_589 : (.instanceMethod yX7_cuedBy : Cond) ∈ lw_tbl := z_tbI2 _ (List.mem_of_getElem? (i := 181) rfl)
set_option maxRecDepth 20000 in
theorem tm_590 : (.selects RX7 yX7_cuedBy yX7_cuedBy : Cond) ∈ lw_tbl := z_tbI2 _ (List.mem_of_getElem? (i := 182) rfl)
set_option maxRecDepth 20000 in
theorem vo_in_X5_weave : ∀ w ∈ .code yX5_weave cX5_weave 4 none :: voX5_weave, w ∈ lw_tbl := z_fc tm_584 <| z_fc tm_585 <| z_fc tm_299 <| z_fc tm_301 <| z_fc tm_586 <| z_fc tm_587 <| z_fc tm_588 <| z_fc tm_589 <| z_fc tm_590 <| z_fc tm_284 <| z_fn
theorem vi_X5_weave : ∀ w ∈ vsX5_weave, w ∈ lw_tbl := List.forall_mem_cons.mpr ⟨vo_in_X5_weave _ (List.mem_cons_self ..), List.forall_mem_append.mpr ⟨(fun _ h => vo_in_X5_weave _ (List.mem_cons_of_mem _ h)), List.forall_mem_append.mpr ⟨vi_X7_cuedBy, List.forall_mem_append.mpr ⟨vsLc_in_5, vsLc_in_7⟩⟩⟩⟩
set_option maxRecDepth 20000 in
theorem tm_591 : (.code yX5_weaveWithoutSick cX5_weaveWithoutSick 4 none : Cond) ∈ lw_tbl := z_tbI3 _ (List.mem_of_getElem? (i := 52) rfl)
set_option maxRecDepth 20000 in
theorem tm_592 : (.methodLink RX5 32 yX5_weave : Cond) ∈ lw_tbl := z_tbI3 _ (List.mem_of_getElem? (i := 53) rfl)
set_option maxRecDepth 20000 in
theorem tm_593 : (.instanceMethod yX5_weave : Cond) ∈ lw_tbl := z_tbI2 _ (List.mem_of_getElem? (i := 177) rfl)
set_option maxRecDepth 20000 in
theorem tm_594 : (.selects RX5 yX5_weave yX5_weave : Cond) ∈ lw_tbl := z_tbI2 _ (List.mem_of_getElem? (i := 178) rfl)
set_option maxRecDepth 20000 in
theorem tm_595 : (.methodLink RX5 36 yX7_linesOfSick : Cond) ∈ lw_tbl := z_tbI3 _ (List.mem_of_getElem? (i := 54) rfl)
set_option maxRecDepth 20000 in
theorem tm_596 : (.instanceMethod yX7_linesOfSick : Cond) ∈ lw_tbl := z_tbI3 _ (List.mem_of_getElem? (i := 55) rfl)
set_option maxRecDepth 20000 in
theorem tm_597 : (.selects RX7 yX7_linesOfSick yX7_linesOfSick : Cond) ∈ lw_tbl := z_tbI3 _ (List.mem_of_getElem? (i := 56) rfl)
set_option maxRecDepth 20000 in
theorem vo_in_X5_weaveWithoutSick : ∀ w ∈ .code yX5_weaveWithoutSick cX5_weaveWithoutSick 4 none :: voX5_weaveWithoutSick, w ∈ lw_tbl := z_fc tm_591 <| z_fc tm_299 <| z_fc tm_301 <| z_fc tm_592 <| z_fc tm_593 <| z_fc tm_594 <| z_fc tm_306 <| z_fc tm_595 <| z_fc tm_596 <| z_fc tm_597 <| z_fc tm_284 <| z_fn
theorem vi_X5_weaveWithoutSick : ∀ w ∈ vsX5_weaveWithoutSick, w ∈ lw_tbl := List.forall_mem_cons.mpr ⟨vo_in_X5_weaveWithoutSick _ (List.mem_cons_self ..), List.forall_mem_append.mpr ⟨(fun _ h => vo_in_X5_weaveWithoutSick _ (List.mem_cons_of_mem _ h)), List.forall_mem_append.mpr ⟨vi_X5_weave, List.forall_mem_append.mpr ⟨vi_X7_linesOfSick, vsLc_in_5⟩⟩⟩⟩
set_option maxRecDepth 20000 in
theorem tm_598 : (.code yX5_putIn cX5_putIn 5 none : Cond) ∈ lw_tbl := z_tbI3 _ (List.mem_of_getElem? (i := 139) rfl)
set_option maxRecDepth 20000 in
theorem vo_in_X5_putIn : ∀ w ∈ .code yX5_putIn cX5_putIn 5 none :: voX5_putIn, w ∈ lw_tbl := z_fc tm_598 <| z_fc tm_299 <| z_fc tm_586 <| z_fc tm_301 <| z_fc tm_587 <| z_fc tm_588 <| z_fc tm_589 <| z_fc tm_590 <| z_fc tm_284 <| z_fn
theorem vi_X5_putIn : ∀ w ∈ vsX5_putIn, w ∈ lw_tbl := List.forall_mem_cons.mpr ⟨vo_in_X5_putIn _ (List.mem_cons_self ..), List.forall_mem_append.mpr ⟨(fun _ h => vo_in_X5_putIn _ (List.mem_cons_of_mem _ h)), List.forall_mem_append.mpr ⟨vi_X7_cuedBy, List.forall_mem_append.mpr ⟨vsLc_in_5, vsLc_in_7⟩⟩⟩⟩
set_option maxRecDepth 20000 in
theorem tm_599 : (.code yX7_speak cX7_speak 3 none : Cond) ∈ lw_tbl := z_tbI3 _ (List.mem_of_getElem? (i := 16) rfl)
set_option maxRecDepth 20000 in
theorem tm_600 : (.fieldLink RX7 40 "EachOnHisCue$Play" "killing" "I" : Cond) ∈ lw_tbl := z_tbI1 _ (List.mem_of_getElem? (i := 82) rfl)
set_option maxRecDepth 20000 in
theorem tm_601 : (.methodLink RX7 87 yX9_add : Cond) ∈ lw_tbl := z_tbI3 _ (List.mem_of_getElem? (i := 18) rfl)
set_option maxRecDepth 20000 in
theorem tm_602 : (.instanceMethod yX9_add : Cond) ∈ lw_tbl := z_tbI3 _ (List.mem_of_getElem? (i := 19) rfl)
set_option maxRecDepth 20000 in
theorem tm_603 : (.selects RX9 yX9_add yX9_add : Cond) ∈ lw_tbl := z_tbI3 _ (List.mem_of_getElem? (i := 20) rfl)
set_option maxRecDepth 20000 in
theorem tm_604 : (.initialized RX9 : Cond) ∈ lw_tbl := z_tbI1 _ (List.mem_of_getElem? (i := 3) rfl)
set_option maxRecDepth 20000 in
theorem vo_in_X7_speak : ∀ w ∈ .code yX7_speak cX7_speak 3 none :: voX7_speak, w ∈ lw_tbl := z_fc tm_599 <| z_fc tm_600 <| z_fc tm_15 <| z_fc tm_300 <| z_fc tm_511 <| z_fc tm_512 <| z_fc tm_513 <| z_fc tm_514 <| z_fc tm_284 <| z_fc tm_601 <| z_fc tm_602 <| z_fc tm_603 <| z_fc tm_604 <| z_fn
theorem vi_X7_speak : ∀ w ∈ vsX7_speak, w ∈ lw_tbl := List.forall_mem_cons.mpr ⟨vo_in_X7_speak _ (List.mem_cons_self ..), List.forall_mem_append.mpr ⟨(fun _ h => vo_in_X7_speak _ (List.mem_cons_of_mem _ h)), List.forall_mem_append.mpr ⟨vi_X7_hasLine, List.forall_mem_append.mpr ⟨vi_X11_bitAt, List.forall_mem_append.mpr ⟨vi_X9_add, vsLc_in_7⟩⟩⟩⟩⟩
set_option maxRecDepth 20000 in
theorem tm_605 : (.code yX2_go cX2_go 6 (some .int) : Cond) ∈ lw_tbl := z_tbI3 _ (List.mem_of_getElem? (i := 33) rfl)
set_option maxRecDepth 20000 in
theorem tm_606 : (.methodLink RX2 70 yX9_forget : Cond) ∈ lw_tbl := z_tbI3 _ (List.mem_of_getElem? (i := 34) rfl)
set_option maxRecDepth 20000 in
theorem tm_607 : (.instanceMethod yX9_forget : Cond) ∈ lw_tbl := z_tbI2 _ (List.mem_of_getElem? (i := 97) rfl)
set_option maxRecDepth 20000 in
theorem tm_608 : (.selects RX9 yX9_forget yX9_forget : Cond) ∈ lw_tbl := z_tbI2 _ (List.mem_of_getElem? (i := 98) rfl)
set_option maxRecDepth 20000 in
theorem tm_609 : (.methodLink RX2 73 yX2_nextLine : Cond) ∈ lw_tbl := z_tbI3 _ (List.mem_of_getElem? (i := 35) rfl)
set_option maxRecDepth 20000 in
theorem tm_610 : (.instanceMethod yX2_nextLine : Cond) ∈ lw_tbl := z_tbI3 _ (List.mem_of_getElem? (i := 8) rfl)
set_option maxRecDepth 20000 in
theorem tm_611 : (.selects RX2 yX2_nextLine yX2_nextLine : Cond) ∈ lw_tbl := z_tbI3 _ (List.mem_of_getElem? (i := 9) rfl)
set_option maxRecDepth 20000 in
theorem tm_612 : (.methodLink RX2 76 yX7_speak : Cond) ∈ lw_tbl := z_tbI3 _ (List.mem_of_getElem? (i := 36) rfl)
set_option maxRecDepth 20000 in
theorem tm_613 : (.instanceMethod yX7_speak : Cond) ∈ lw_tbl := z_tbI3 _ (List.mem_of_getElem? (i := 14) rfl)
set_option maxRecDepth 20000 in
theorem tm_614 : (.selects RX7 yX7_speak yX7_speak : Cond) ∈ lw_tbl := z_tbI3 _ (List.mem_of_getElem? (i := 15) rfl)
set_option maxRecDepth 20000 in
theorem vo_in_X2_go : ∀ w ∈ .code yX2_go cX2_go 6 (some .int) :: voX2_go, w ∈ lw_tbl := z_fc tm_605 <| z_fc tm_569 <| z_fc tm_559 <| z_fc tm_606 <| z_fc tm_607 <| z_fc tm_608 <| z_fc tm_604 <| z_fc tm_609 <| z_fc tm_610 <| z_fc tm_611 <| z_fc tm_564 <| z_fc tm_612 <| z_fc tm_613 <| z_fc tm_614 <| z_fc tm_284 <| z_fn
theorem vi_X2_go : ∀ w ∈ vsX2_go, w ∈ lw_tbl := List.forall_mem_cons.mpr ⟨vo_in_X2_go _ (List.mem_cons_self ..), List.forall_mem_append.mpr ⟨(fun _ h => vo_in_X2_go _ (List.mem_cons_of_mem _ h)), List.forall_mem_append.mpr ⟨vi_X9_forget, List.forall_mem_append.mpr ⟨vi_X2_nextLine, List.forall_mem_append.mpr ⟨vi_X7_speak, List.forall_mem_append.mpr ⟨vsLc_in_2, vsLc_in_9⟩⟩⟩⟩⟩⟩
set_option maxRecDepth 20000 in
theorem tm_615 : (.code yX2_timesToPrompt cX2_timesToPrompt 4 (some .int) : Cond) ∈ lw_tbl := z_tbI3 _ (List.mem_of_getElem? (i := 111) rfl)
set_option maxRecDepth 20000 in
theorem vo_in_X2_timesToPrompt : ∀ w ∈ .code yX2_timesToPrompt cX2_timesToPrompt 4 (some .int) :: voX2_timesToPrompt, w ∈ lw_tbl := z_fc tm_615 <| z_fc tm_569 <| z_fc tm_570 <| z_fc tm_606 <| z_fc tm_607 <| z_fc tm_608 <| z_fc tm_604 <| z_fc tm_612 <| z_fc tm_613 <| z_fc tm_614 <| z_fc tm_284 <| z_fc tm_609 <| z_fc tm_610 <| z_fc tm_611 <| z_fc tm_564 <| z_fn
theorem vi_X2_timesToPrompt : ∀ w ∈ vsX2_timesToPrompt, w ∈ lw_tbl := List.forall_mem_cons.mpr ⟨vo_in_X2_timesToPrompt _ (List.mem_cons_self ..), List.forall_mem_append.mpr ⟨(fun _ h => vo_in_X2_timesToPrompt _ (List.mem_cons_of_mem _ h)), List.forall_mem_append.mpr ⟨vi_X9_forget, List.forall_mem_append.mpr ⟨vi_X7_speak, List.forall_mem_append.mpr ⟨vi_X2_nextLine, List.forall_mem_append.mpr ⟨vsLc_in_2, vsLc_in_7⟩⟩⟩⟩⟩⟩
set_option maxRecDepth 20000 in
theorem tm_616 : (.code yX2_firstOtherThanSaid cX2_firstOtherThanSaid 6 (some .int) : Cond) ∈ lw_tbl := z_tbI3 _ (List.mem_of_getElem? (i := 189) rfl)
set_option maxRecDepth 20000 in
theorem vo_in_X2_firstOtherThanSaid : ∀ w ∈ .code yX2_firstOtherThanSaid cX2_firstOtherThanSaid 6 (some .int) :: voX2_firstOtherThanSaid, w ∈ lw_tbl := z_fc tm_616 <| z_fc tm_569 <| z_fc tm_606 <| z_fc tm_607 <| z_fc tm_608 <| z_fc tm_604 <| z_fc tm_609 <| z_fc tm_610 <| z_fc tm_611 <| z_fc tm_564 <| z_fc tm_612 <| z_fc tm_613 <| z_fc tm_614 <| z_fc tm_284 <| z_fn
theorem vi_X2_firstOtherThanSaid : ∀ w ∈ vsX2_firstOtherThanSaid, w ∈ lw_tbl := List.forall_mem_cons.mpr ⟨vo_in_X2_firstOtherThanSaid _ (List.mem_cons_self ..), List.forall_mem_append.mpr ⟨(fun _ h => vo_in_X2_firstOtherThanSaid _ (List.mem_cons_of_mem _ h)), List.forall_mem_append.mpr ⟨vi_X9_forget, List.forall_mem_append.mpr ⟨vi_X2_nextLine, List.forall_mem_append.mpr ⟨vi_X7_speak, vsLc_in_2⟩⟩⟩⟩⟩
set_option maxRecDepth 20000 in
theorem tm_617 : (.code yX2_drawnLine cX2_drawnLine 6 (some .int) : Cond) ∈ lw_tbl := z_tbI3 _ (List.mem_of_getElem? (i := 213) rfl)
set_option maxRecDepth 20000 in
theorem tm_618 : (.methodLink RX2 90 yX2_draw : Cond) ∈ lw_tbl := z_tbI3 _ (List.mem_of_getElem? (i := 214) rfl)
set_option maxRecDepth 20000 in
theorem tm_619 : (.instanceMethod yX2_draw : Cond) ∈ lw_tbl := z_tbI3 _ (List.mem_of_getElem? (i := 215) rfl)
set_option maxRecDepth 20000 in
theorem tm_620 : (.selects RX2 yX2_draw yX2_draw : Cond) ∈ lw_tbl := z_tbI3 _ (List.mem_of_getElem? (i := 216) rfl)
set_option maxRecDepth 20000 in
theorem vo_in_X2_drawnLine : ∀ w ∈ .code yX2_drawnLine cX2_drawnLine 6 (some .int) :: voX2_drawnLine, w ∈ lw_tbl := z_fc tm_617 <| z_fc tm_560 <| z_fc tm_569 <| z_fc tm_561 <| z_fc tm_562 <| z_fc tm_563 <| z_fc tm_564 <| z_fc tm_618 <| z_fc tm_619 <| z_fc tm_620 <| z_fn
theorem vi_X2_drawnLine : ∀ w ∈ vsX2_drawnLine, w ∈ lw_tbl := List.forall_mem_cons.mpr ⟨vo_in_X2_drawnLine _ (List.mem_cons_self ..), List.forall_mem_append.mpr ⟨(fun _ h => vo_in_X2_drawnLine _ (List.mem_cons_of_mem _ h)), List.forall_mem_append.mpr ⟨vi_X2_comesWith, List.forall_mem_append.mpr ⟨vi_X2_draw, List.forall_mem_append.mpr ⟨vsLc_in_2, vsLc_in_7⟩⟩⟩⟩⟩
set_option maxRecDepth 20000 in
theorem tm_621 : (.code yX2_goByLot cX2_goByLot 4 (some .int) : Cond) ∈ lw_tbl := z_tbI3 _ (List.mem_of_getElem? (i := 209) rfl)
set_option maxRecDepth 20000 in
theorem tm_622 : (.methodLink RX2 86 yX2_drawnLine : Cond) ∈ lw_tbl := z_tbI3 _ (List.mem_of_getElem? (i := 210) rfl)
set_option maxRecDepth 20000 in
theorem tm_623 : (.instanceMethod yX2_drawnLine : Cond) ∈ lw_tbl := z_tbI3 _ (List.mem_of_getElem? (i := 211) rfl)
set_option maxRecDepth 20000 in
theorem tm_624 : (.selects RX2 yX2_drawnLine yX2_drawnLine : Cond) ∈ lw_tbl := z_tbI3 _ (List.mem_of_getElem? (i := 212) rfl)
set_option maxRecDepth 20000 in
theorem vo_in_X2_goByLot : ∀ w ∈ .code yX2_goByLot cX2_goByLot 4 (some .int) :: voX2_goByLot, w ∈ lw_tbl := z_fc tm_621 <| z_fc tm_569 <| z_fc tm_559 <| z_fc tm_606 <| z_fc tm_607 <| z_fc tm_608 <| z_fc tm_604 <| z_fc tm_612 <| z_fc tm_613 <| z_fc tm_614 <| z_fc tm_284 <| z_fc tm_622 <| z_fc tm_623 <| z_fc tm_624 <| z_fc tm_564 <| z_fn
theorem vi_X2_goByLot : ∀ w ∈ vsX2_goByLot, w ∈ lw_tbl := List.forall_mem_cons.mpr ⟨vo_in_X2_goByLot _ (List.mem_cons_self ..), List.forall_mem_append.mpr ⟨(fun _ h => vo_in_X2_goByLot _ (List.mem_cons_of_mem _ h)), List.forall_mem_append.mpr ⟨vi_X9_forget, List.forall_mem_append.mpr ⟨vi_X7_speak, List.forall_mem_append.mpr ⟨vi_X2_drawnLine, List.forall_mem_append.mpr ⟨vsLc_in_2, vsLc_in_9⟩⟩⟩⟩⟩⟩
set_option maxRecDepth 20000 in
theorem tm_625 : (.code yX11_power cX11_power 5 (some .long) : Cond) ∈ lw_tbl := z_tbI3 _ (List.mem_of_getElem? (i := 123) rfl)
set_option maxRecDepth 20000 in
theorem vo_in_X11_power : ∀ w ∈ .code yX11_power cX11_power 5 (some .long) :: voX11_power, w ∈ lw_tbl := z_fc tm_625 <| z_fn
theorem vi_X11_power : ∀ w ∈ vsX11_power, w ∈ lw_tbl := List.forall_mem_cons.mpr ⟨vo_in_X11_power _ (List.mem_cons_self ..), (fun _ h => vo_in_X11_power _ (List.mem_cons_of_mem _ h))⟩
set_option maxRecDepth 20000 in
theorem tm_626 : (.code yX12_follower cX12_follower 3 (some .int) : Cond) ∈ lw_tbl := z_tbI5 _ (List.mem_of_getElem? (i := 26) rfl)
set_option maxRecDepth 20000 in
theorem tm_627 : (.methodLink RX12 192 yX12_comesWith : Cond) ∈ lw_tbl := z_tbI4 _ (List.mem_of_getElem? (i := 236) rfl)
set_option maxRecDepth 20000 in
theorem tm_628 : (.instanceMethod yX12_comesWith : Cond) ∈ lw_tbl := z_tbI4 _ (List.mem_of_getElem? (i := 238) rfl)
set_option maxRecDepth 20000 in
theorem tm_629 : (.selects RX12 yX12_comesWith yX12_comesWith : Cond) ∈ lw_tbl := z_tbI0 _ (List.mem_of_getElem? (i := 17) (by decide +kernel))
set_option maxRecDepth 20000 in
theorem vo_in_X12_follower : ∀ w ∈ .code yX12_follower cX12_follower 3 (some .int) :: voX12_follower, w ∈ lw_tbl := z_fc tm_626 <| z_fc tm_319 <| z_fc tm_436 <| z_fc tm_627 <| z_fc tm_628 <| z_fc tm_629 <| z_fc tm_19 <| z_fc tm_444 <| z_fc tm_445 <| z_fc tm_446 <| z_fn
theorem vi_X12_follower : ∀ w ∈ vsX12_follower, w ∈ lw_tbl := List.forall_mem_cons.mpr ⟨vo_in_X12_follower _ (List.mem_cons_self ..), List.forall_mem_append.mpr ⟨(fun _ h => vo_in_X12_follower _ (List.mem_cons_of_mem _ h)), List.forall_mem_append.mpr ⟨vi_X12_comesWith, List.forall_mem_append.mpr ⟨vi_X12_hasteOf, vsLc_in_12⟩⟩⟩⟩
set_option maxRecDepth 20000 in
theorem tm_630 : (.code yX12_comes cX12_comes 2 (some .int) : Cond) ∈ lw_tbl := z_tbI4 _ (List.mem_of_getElem? (i := 235) rfl)
set_option maxRecDepth 20000 in
theorem vo_in_X12_comes : ∀ w ∈ .code yX12_comes cX12_comes 2 (some .int) :: voX12_comes, w ∈ lw_tbl := z_fc tm_630 <| z_fc tm_436 <| z_fc tm_431 <| z_fc tm_432 <| z_fc tm_433 <| z_fc tm_19 <| z_fc tm_627 <| z_fc tm_628 <| z_fc tm_629 <| z_fc tm_411 <| z_fc tm_412 <| z_fc tm_413 <| z_fn
theorem vi_X12_comes : ∀ w ∈ vsX12_comes, w ∈ lw_tbl := List.forall_mem_cons.mpr ⟨vo_in_X12_comes _ (List.mem_cons_self ..), List.forall_mem_append.mpr ⟨(fun _ h => vo_in_X12_comes _ (List.mem_cons_of_mem _ h)), List.forall_mem_append.mpr ⟨vi_X12_isPlayer, List.forall_mem_append.mpr ⟨vi_X12_comesWith, List.forall_mem_append.mpr ⟨vi_X12_no, vsLc_in_12⟩⟩⟩⟩⟩
set_option maxRecDepth 20000 in
theorem tm_631 : (.code yX12_say cX12_say 2 (some .int) : Cond) ∈ lw_tbl := z_tbI5 _ (List.mem_of_getElem? (i := 22) rfl)
set_option maxRecDepth 20000 in
theorem tm_632 : (.methodLink RX12 195 yX12_follower : Cond) ∈ lw_tbl := z_tbI5 _ (List.mem_of_getElem? (i := 23) rfl)
set_option maxRecDepth 20000 in
theorem tm_633 : (.instanceMethod yX12_follower : Cond) ∈ lw_tbl := z_tbI5 _ (List.mem_of_getElem? (i := 25) rfl)
set_option maxRecDepth 20000 in
theorem tm_634 : (.selects RX12 yX12_follower yX12_follower : Cond) ∈ lw_tbl := z_tbI0 _ (List.mem_of_getElem? (i := 22) (by decide +kernel))
set_option maxRecDepth 20000 in
theorem tm_635 : (.methodLink RX12 198 yX12_says : Cond) ∈ lw_tbl := z_tbI5 _ (List.mem_of_getElem? (i := 27) rfl)
set_option maxRecDepth 20000 in
theorem tm_636 : (.instanceMethod yX12_says : Cond) ∈ lw_tbl := z_tbI5 _ (List.mem_of_getElem? (i := 29) rfl)
set_option maxRecDepth 20000 in
theorem tm_637 : (.selects RX12 yX12_says yX12_says : Cond) ∈ lw_tbl := z_tbI0 _ (List.mem_of_getElem? (i := 23) (by decide +kernel))
set_option maxRecDepth 20000 in
theorem vo_in_X12_say : ∀ w ∈ .code yX12_say cX12_say 2 (some .int) :: voX12_say, w ∈ lw_tbl := z_fc tm_631 <| z_fc tm_321 <| z_fc tm_436 <| z_fc tm_632 <| z_fc tm_633 <| z_fc tm_634 <| z_fc tm_19 <| z_fc tm_635 <| z_fc tm_636 <| z_fc tm_637 <| z_fc tm_411 <| z_fc tm_412 <| z_fc tm_413 <| z_fn
theorem vi_X12_say : ∀ w ∈ vsX12_say, w ∈ lw_tbl := List.forall_mem_cons.mpr ⟨vo_in_X12_say _ (List.mem_cons_self ..), List.forall_mem_append.mpr ⟨(fun _ h => vo_in_X12_say _ (List.mem_cons_of_mem _ h)), List.forall_mem_append.mpr ⟨vi_X12_follower, List.forall_mem_append.mpr ⟨vi_X12_says, List.forall_mem_append.mpr ⟨vi_X12_no, vsLc_in_12⟩⟩⟩⟩⟩
set_option maxRecDepth 20000 in
theorem tm_638 : (.code yX12_follow cX12_follow 2 (some .int) : Cond) ∈ lw_tbl := z_tbI5 _ (List.mem_of_getElem? (i := 58) rfl)
set_option maxRecDepth 20000 in
theorem vo_in_X12_follow : ∀ w ∈ .code yX12_follow cX12_follow 2 (some .int) :: voX12_follow, w ∈ lw_tbl := z_fc tm_638 <| z_fc tm_427 <| z_fc tm_428 <| z_fc tm_429 <| z_fc tm_19 <| z_fc tm_411 <| z_fc tm_412 <| z_fc tm_413 <| z_fc tm_365 <| z_fc tm_366 <| z_fc tm_367 <| z_fn
theorem vi_X12_follow : ∀ w ∈ vsX12_follow, w ∈ lw_tbl := List.forall_mem_cons.mpr ⟨vo_in_X12_follow _ (List.mem_cons_self ..), List.forall_mem_append.mpr ⟨(fun _ h => vo_in_X12_follow _ (List.mem_cons_of_mem _ h)), List.forall_mem_append.mpr ⟨vi_X12_isLine, List.forall_mem_append.mpr ⟨vi_X12_no, vi_X12_followOf⟩⟩⟩⟩
set_option maxRecDepth 20000 in
theorem tm_639 : (.code yX12_mend cX12_mend 3 (some .int) : Cond) ∈ lw_tbl := z_tbI5 _ (List.mem_of_getElem? (i := 90) rfl)
set_option maxRecDepth 20000 in
theorem tm_640 : (.methodLink RX12 241 yX12_mendsOf : Cond) ∈ lw_tbl := z_tbI5 _ (List.mem_of_getElem? (i := 91) rfl)
set_option maxRecDepth 20000 in
theorem tm_641 : (.instanceMethod yX12_mendsOf : Cond) ∈ lw_tbl := z_tbI5 _ (List.mem_of_getElem? (i := 93) rfl)
set_option maxRecDepth 20000 in
theorem tm_642 : (.selects RX12 yX12_mendsOf yX12_mendsOf : Cond) ∈ lw_tbl := z_tbI0 _ (List.mem_of_getElem? (i := 33) (by decide +kernel))
set_option maxRecDepth 20000 in
theorem vo_in_X12_mend : ∀ w ∈ .code yX12_mend cX12_mend 3 (some .int) :: voX12_mend, w ∈ lw_tbl := z_fc tm_639 <| z_fc tm_321 <| z_fc tm_640 <| z_fc tm_641 <| z_fc tm_642 <| z_fc tm_19 <| z_fc tm_411 <| z_fc tm_412 <| z_fc tm_413 <| z_fn
theorem vi_X12_mend : ∀ w ∈ vsX12_mend, w ∈ lw_tbl := List.forall_mem_cons.mpr ⟨vo_in_X12_mend _ (List.mem_cons_self ..), List.forall_mem_append.mpr ⟨(fun _ h => vo_in_X12_mend _ (List.mem_cons_of_mem _ h)), List.forall_mem_append.mpr ⟨vi_X12_mendsOf, List.forall_mem_append.mpr ⟨vi_X12_no, vsLc_in_12⟩⟩⟩⟩
set_option maxRecDepth 20000 in
theorem tm_643 : (.code yX12_mendOf cX12_mendOf 2 (some .int) : Cond) ∈ lw_tbl := z_tbI5 _ (List.mem_of_getElem? (i := 102) rfl)
set_option maxRecDepth 20000 in
theorem vo_in_X12_mendOf : ∀ w ∈ .code yX12_mendOf cX12_mendOf 2 (some .int) :: voX12_mendOf, w ∈ lw_tbl := z_fc tm_643 <| z_fc tm_427 <| z_fc tm_428 <| z_fc tm_429 <| z_fc tm_19 <| z_fc tm_411 <| z_fc tm_412 <| z_fc tm_413 <| z_fc tm_640 <| z_fc tm_641 <| z_fc tm_642 <| z_fn
theorem vi_X12_mendOf : ∀ w ∈ vsX12_mendOf, w ∈ lw_tbl := List.forall_mem_cons.mpr ⟨vo_in_X12_mendOf _ (List.mem_cons_self ..), List.forall_mem_append.mpr ⟨(fun _ h => vo_in_X12_mendOf _ (List.mem_cons_of_mem _ h)), List.forall_mem_append.mpr ⟨vi_X12_isLine, List.forall_mem_append.mpr ⟨vi_X12_no, vi_X12_mendsOf⟩⟩⟩⟩
set_option maxRecDepth 20000 in
theorem tm_644 : (.code yX12_doesFit cX12_doesFit 2 (some .boolean) : Cond) ∈ lw_tbl := z_tbI5 _ (List.mem_of_getElem? (i := 163) rfl)
set_option maxRecDepth 20000 in
theorem vo_in_X12_doesFit : ∀ w ∈ .code yX12_doesFit cX12_doesFit 2 (some .boolean) :: voX12_doesFit, w ∈ lw_tbl := z_fc tm_644 <| z_fc tm_321 <| z_fc tm_452 <| z_fc tm_355 <| z_fc tm_356 <| z_fc tm_357 <| z_fc tm_19 <| z_fn
theorem vi_X12_doesFit : ∀ w ∈ vsX12_doesFit, w ∈ lw_tbl := List.forall_mem_cons.mpr ⟨vo_in_X12_doesFit _ (List.mem_cons_self ..), List.forall_mem_append.mpr ⟨(fun _ h => vo_in_X12_doesFit _ (List.mem_cons_of_mem _ h)), List.forall_mem_append.mpr ⟨vi_X12_isCued, vsLc_in_12⟩⟩⟩
set_option maxRecDepth 20000 in
theorem tm_645 : (.code yX12_count cX12_count 2 (some .int) : Cond) ∈ lw_tbl := z_tbI5 _ (List.mem_of_getElem? (i := 210) rfl)
set_option maxRecDepth 20000 in
theorem tm_646 : (.methodLink RX12 294 yX12_words : Cond) ∈ lw_tbl := z_tbI5 _ (List.mem_of_getElem? (i := 211) rfl)
set_option maxRecDepth 20000 in
theorem tm_647 : (.instanceMethod yX12_words : Cond) ∈ lw_tbl := z_tbI5 _ (List.mem_of_getElem? (i := 213) rfl)
set_option maxRecDepth 20000 in
theorem tm_648 : (.selects RX12 yX12_words yX12_words : Cond) ∈ lw_tbl := z_tbI0 _ (List.mem_of_getElem? (i := 46) (by decide +kernel))
set_option maxRecDepth 20000 in
theorem vo_in_X12_count : ∀ w ∈ .code yX12_count cX12_count 2 (some .int) :: voX12_count, w ∈ lw_tbl := z_fc tm_645 <| z_fc tm_319 <| z_fc tm_321 <| z_fc tm_437 <| z_fc tm_436 <| z_fc tm_324 <| z_fc tm_449 <| z_fc tm_425 <| z_fc tm_405 <| z_fc tm_418 <| z_fc tm_419 <| z_fc tm_19 <| z_fc tm_646 <| z_fc tm_647 <| z_fc tm_648 <| z_fn
theorem vi_X12_count : ∀ w ∈ vsX12_count, w ∈ lw_tbl := List.forall_mem_cons.mpr ⟨vo_in_X12_count _ (List.mem_cons_self ..), List.forall_mem_append.mpr ⟨(fun _ h => vo_in_X12_count _ (List.mem_cons_of_mem _ h)), List.forall_mem_append.mpr ⟨vi_X12_isIn, List.forall_mem_append.mpr ⟨vi_X12_words, vsLc_in_12⟩⟩⟩⟩
set_option maxRecDepth 20000 in
theorem tm_649 : (.code yX12_possible cX12_possible 4 (some .int) : Cond) ∈ lw_tbl := z_tbI5 _ (List.mem_of_getElem? (i := 187) rfl)
set_option maxRecDepth 20000 in
theorem vo_in_X12_possible : ∀ w ∈ .code yX12_possible cX12_possible 4 (some .int) :: voX12_possible, w ∈ lw_tbl := z_fc tm_649 <| z_fc tm_449 <| z_fc tm_450 <| z_fc tm_427 <| z_fc tm_428 <| z_fc tm_429 <| z_fc tm_19 <| z_fc tm_365 <| z_fc tm_366 <| z_fc tm_367 <| z_fn
theorem vi_X12_possible : ∀ w ∈ vsX12_possible, w ∈ lw_tbl := List.forall_mem_cons.mpr ⟨vo_in_X12_possible _ (List.mem_cons_self ..), List.forall_mem_append.mpr ⟨(fun _ h => vo_in_X12_possible _ (List.mem_cons_of_mem _ h)), List.forall_mem_append.mpr ⟨vi_X12_isLine, List.forall_mem_append.mpr ⟨vi_X12_followOf, vsLc_in_12⟩⟩⟩⟩
set_option maxRecDepth 20000 in
theorem tm_650 : (.code yX12_passes cX12_passes 3 none : Cond) ∈ lw_tbl := z_tbI4 _ (List.mem_of_getElem? (i := 171) rfl)
set_option maxRecDepth 20000 in
theorem vo_in_X12_passes : ∀ w ∈ .code yX12_passes cX12_passes 3 none :: voX12_passes, w ∈ lw_tbl := z_fc tm_650 <| z_fc tm_421 <| z_fc tm_422 <| z_fc tm_423 <| z_fn
theorem vi_X12_passes : ∀ w ∈ vsX12_passes, w ∈ lw_tbl := List.forall_mem_cons.mpr ⟨vo_in_X12_passes _ (List.mem_cons_self ..), List.forall_mem_append.mpr ⟨(fun _ h => vo_in_X12_passes _ (List.mem_cons_of_mem _ h)), vsLc_in_12⟩⟩
set_option maxRecDepth 20000 in
theorem tm_651 : (.code yX12_passesAll cX12_passesAll 3 none : Cond) ∈ lw_tbl := z_tbI4 _ (List.mem_of_getElem? (i := 167) rfl)
set_option maxRecDepth 20000 in
theorem tm_652 : (.methodLink RX12 144 yX12_passes : Cond) ∈ lw_tbl := z_tbI4 _ (List.mem_of_getElem? (i := 168) rfl)
set_option maxRecDepth 20000 in
theorem tm_653 : (.instanceMethod yX12_passes : Cond) ∈ lw_tbl := z_tbI4 _ (List.mem_of_getElem? (i := 170) rfl)
set_option maxRecDepth 20000 in
theorem tm_654 : (.selects RX12 yX12_passes yX12_passes : Cond) ∈ lw_tbl := z_tbI0 _ (List.mem_of_getElem? (i := 8) (by decide +kernel))
set_option maxRecDepth 20000 in
theorem tm_655 : (.methodLink RX12 148 yX12_passOne : Cond) ∈ lw_tbl := z_tbI4 _ (List.mem_of_getElem? (i := 172) rfl)
set_option maxRecDepth 20000 in
theorem tm_656 : (.instanceMethod yX12_passOne : Cond) ∈ lw_tbl := z_tbI4 _ (List.mem_of_getElem? (i := 174) rfl)
set_option maxRecDepth 20000 in
theorem tm_657 : (.selects RX12 yX12_passOne yX12_passOne : Cond) ∈ lw_tbl := z_tbI0 _ (List.mem_of_getElem? (i := 9) (by decide +kernel))
set_option maxRecDepth 20000 in
theorem vo_in_X12_passesAll : ∀ w ∈ .code yX12_passesAll cX12_passesAll 3 none :: voX12_passesAll, w ∈ lw_tbl := z_fc tm_651 <| z_fc tm_423 <| z_fc tm_421 <| z_fc tm_327 <| z_fc tm_348 <| z_fc tm_328 <| z_fc tm_330 <| z_fc tm_332 <| z_fc tm_347 <| z_fc tm_435 <| z_fc tm_335 <| z_fc tm_319 <| z_fc tm_321 <| z_fc tm_425 <| z_fc tm_354 <| z_fc tm_353 <| z_fc tm_436 <| z_fc tm_437 <| z_fc tm_652 <| z_fc tm_653 <| z_fc tm_654 <| z_fc tm_19 <| z_fc tm_655 <| z_fc tm_656 <| z_fc tm_657 <| z_fn
theorem vi_X12_passesAll : ∀ w ∈ vsX12_passesAll, w ∈ lw_tbl := List.forall_mem_cons.mpr ⟨vo_in_X12_passesAll _ (List.mem_cons_self ..), List.forall_mem_append.mpr ⟨(fun _ h => vo_in_X12_passesAll _ (List.mem_cons_of_mem _ h)), List.forall_mem_append.mpr ⟨vi_X12_passes, List.forall_mem_append.mpr ⟨vi_X12_passOne, vsLc_in_12⟩⟩⟩⟩
set_option maxRecDepth 20000 in
theorem tm_658 : (.code yX12_image cX12_image 1 (some .int) : Cond) ∈ lw_tbl := z_tbI4 _ (List.mem_of_getElem? (i := 195) rfl)
set_option maxRecDepth 20000 in
theorem tm_659 : (.fieldLink RX12 160 "EachOnHisCueModel" "hasImage" "Z" : Cond) ∈ lw_tbl := z_tbI4 _ (List.mem_of_getElem? (i := 35) rfl)
set_option maxRecDepth 20000 in
theorem tm_660 : (.methodLink RX12 124 yX12_passesAll : Cond) ∈ lw_tbl := z_tbI4 _ (List.mem_of_getElem? (i := 164) rfl)
set_option maxRecDepth 20000 in
theorem tm_661 : (.instanceMethod yX12_passesAll : Cond) ∈ lw_tbl := z_tbI4 _ (List.mem_of_getElem? (i := 166) rfl)
set_option maxRecDepth 20000 in
theorem tm_662 : (.selects RX12 yX12_passesAll yX12_passesAll : Cond) ∈ lw_tbl := z_tbI0 _ (List.mem_of_getElem? (i := 7) (by decide +kernel))
set_option maxRecDepth 20000 in
theorem vo_in_X12_image : ∀ w ∈ .code yX12_image cX12_image 1 (some .int) :: voX12_image, w ∈ lw_tbl := z_fc tm_658 <| z_fc tm_659 <| z_fc tm_321 <| z_fc tm_660 <| z_fc tm_661 <| z_fc tm_662 <| z_fc tm_19 <| z_fn
theorem vi_X12_image : ∀ w ∈ vsX12_image, w ∈ lw_tbl := List.forall_mem_cons.mpr ⟨vo_in_X12_image _ (List.mem_cons_self ..), List.forall_mem_append.mpr ⟨(fun _ h => vo_in_X12_image _ (List.mem_cons_of_mem _ h)), List.forall_mem_append.mpr ⟨vi_X12_passesAll, vsLc_in_12⟩⟩⟩
set_option maxRecDepth 20000 in
theorem tm_663 : (.code yX12_restore cX12_restore 1 (some .int) : Cond) ∈ lw_tbl := z_tbI4 _ (List.mem_of_getElem? (i := 199) rfl)
set_option maxRecDepth 20000 in
theorem vo_in_X12_restore : ∀ w ∈ .code yX12_restore cX12_restore 1 (some .int) :: voX12_restore, w ∈ lw_tbl := z_fc tm_663 <| z_fc tm_659 <| z_fc tm_321 <| z_fc tm_660 <| z_fc tm_661 <| z_fc tm_662 <| z_fc tm_19 <| z_fc tm_411 <| z_fc tm_412 <| z_fc tm_413 <| z_fn
theorem vi_X12_restore : ∀ w ∈ vsX12_restore, w ∈ lw_tbl := List.forall_mem_cons.mpr ⟨vo_in_X12_restore _ (List.mem_cons_self ..), List.forall_mem_append.mpr ⟨(fun _ h => vo_in_X12_restore _ (List.mem_cons_of_mem _ h)), List.forall_mem_append.mpr ⟨vi_X12_passesAll, List.forall_mem_append.mpr ⟨vi_X12_no, vsLc_in_12⟩⟩⟩⟩
set_option maxRecDepth 20000 in
theorem tm_664 : (.code yX12_goesNight cX12_goesNight 2 none : Cond) ∈ lw_tbl := z_tbI5 _ (List.mem_of_getElem? (i := 42) rfl)
set_option maxRecDepth 20000 in
theorem tm_665 : (.fieldLink RX12 208 "EachOnHisCueModel" "nightDead" "I" : Cond) ∈ lw_tbl := z_tbI4 _ (List.mem_of_getElem? (i := 42) rfl)
set_option maxRecDepth 20000 in
theorem vo_in_X12_goesNight : ∀ w ∈ .code yX12_goesNight cX12_goesNight 2 none :: voX12_goesNight, w ∈ lw_tbl := z_fc tm_664 <| z_fc tm_359 <| z_fc tm_360 <| z_fc tm_353 <| z_fc tm_665 <| z_fc tm_361 <| z_fc tm_660 <| z_fc tm_661 <| z_fc tm_662 <| z_fc tm_19 <| z_fc tm_440 <| z_fc tm_441 <| z_fc tm_442 <| z_fc tm_635 <| z_fc tm_636 <| z_fc tm_637 <| z_fc tm_632 <| z_fc tm_633 <| z_fc tm_634 <| z_fn
theorem vi_X12_goesNight : ∀ w ∈ vsX12_goesNight, w ∈ lw_tbl := List.forall_mem_cons.mpr ⟨vo_in_X12_goesNight _ (List.mem_cons_self ..), List.forall_mem_append.mpr ⟨(fun _ h => vo_in_X12_goesNight _ (List.mem_cons_of_mem _ h)), List.forall_mem_append.mpr ⟨vi_X12_passesAll, List.forall_mem_append.mpr ⟨vi_X12_beginsAnew, List.forall_mem_append.mpr ⟨vi_X12_says, List.forall_mem_append.mpr ⟨vi_X12_follower, vsLc_in_12⟩⟩⟩⟩⟩⟩
set_option maxRecDepth 20000 in
theorem tm_666 : (.code yX12_night cX12_night 2 (some .int) : Cond) ∈ lw_tbl := z_tbI5 _ (List.mem_of_getElem? (i := 38) rfl)
set_option maxRecDepth 20000 in
theorem tm_667 : (.methodLink RX12 211 yX12_goesNight : Cond) ∈ lw_tbl := z_tbI5 _ (List.mem_of_getElem? (i := 39) rfl)
set_option maxRecDepth 20000 in
theorem tm_668 : (.instanceMethod yX12_goesNight : Cond) ∈ lw_tbl := z_tbI5 _ (List.mem_of_getElem? (i := 41) rfl)
set_option maxRecDepth 20000 in
theorem tm_669 : (.selects RX12 yX12_goesNight yX12_goesNight : Cond) ∈ lw_tbl := z_tbI0 _ (List.mem_of_getElem? (i := 24) (by decide +kernel))
set_option maxRecDepth 20000 in
theorem vo_in_X12_night : ∀ w ∈ .code yX12_night cX12_night 2 (some .int) :: voX12_night, w ∈ lw_tbl := z_fc tm_666 <| z_fc tm_321 <| z_fc tm_359 <| z_fc tm_361 <| z_fc tm_667 <| z_fc tm_668 <| z_fc tm_669 <| z_fc tm_19 <| z_fc tm_411 <| z_fc tm_412 <| z_fc tm_413 <| z_fn
theorem vi_X12_night : ∀ w ∈ vsX12_night, w ∈ lw_tbl := List.forall_mem_cons.mpr ⟨vo_in_X12_night _ (List.mem_cons_self ..), List.forall_mem_append.mpr ⟨(fun _ h => vo_in_X12_night _ (List.mem_cons_of_mem _ h)), List.forall_mem_append.mpr ⟨vi_X12_goesNight, List.forall_mem_append.mpr ⟨vi_X12_no, vsLc_in_12⟩⟩⟩⟩
set_option maxRecDepth 20000 in
theorem tm_670 : (.code yX12_goes cX12_goes 2 (some .int) : Cond) ∈ lw_tbl := z_tbI5 _ (List.mem_of_getElem? (i := 46) rfl)
set_option maxRecDepth 20000 in
theorem tm_671 : (.methodLink RX12 217 yX12_isWritten : Cond) ∈ lw_tbl := z_tbI5 _ (List.mem_of_getElem? (i := 51) rfl)
set_option maxRecDepth 20000 in
theorem tm_672 : (.instanceMethod yX12_isWritten : Cond) ∈ lw_tbl := z_tbI5 _ (List.mem_of_getElem? (i := 53) rfl)
set_option maxRecDepth 20000 in
theorem tm_673 : (.selects RX12 yX12_isWritten yX12_isWritten : Cond) ∈ lw_tbl := z_tbI0 _ (List.mem_of_getElem? (i := 26) (by decide +kernel))
set_option maxRecDepth 20000 in
theorem tm_674 : (.methodLink RX12 214 yX12_leaps : Cond) ∈ lw_tbl := z_tbI5 _ (List.mem_of_getElem? (i := 47) rfl)
set_option maxRecDepth 20000 in
theorem tm_675 : (.instanceMethod yX12_leaps : Cond) ∈ lw_tbl := z_tbI5 _ (List.mem_of_getElem? (i := 49) rfl)
set_option maxRecDepth 20000 in
theorem tm_676 : (.selects RX12 yX12_leaps yX12_leaps : Cond) ∈ lw_tbl := z_tbI0 _ (List.mem_of_getElem? (i := 25) (by decide +kernel))
set_option maxRecDepth 20000 in
theorem vo_in_X12_goes : ∀ w ∈ .code yX12_goes cX12_goes 2 (some .int) :: voX12_goes, w ∈ lw_tbl := z_fc tm_670 <| z_fc tm_321 <| z_fc tm_665 <| z_fc tm_359 <| z_fc tm_418 <| z_fc tm_419 <| z_fc tm_19 <| z_fc tm_667 <| z_fc tm_668 <| z_fc tm_669 <| z_fc tm_671 <| z_fc tm_672 <| z_fc tm_673 <| z_fc tm_674 <| z_fc tm_675 <| z_fc tm_676 <| z_fc tm_411 <| z_fc tm_412 <| z_fc tm_413 <| z_fn
theorem vi_X12_goes : ∀ w ∈ vsX12_goes, w ∈ lw_tbl := List.forall_mem_cons.mpr ⟨vo_in_X12_goes _ (List.mem_cons_self ..), List.forall_mem_append.mpr ⟨(fun _ h => vo_in_X12_goes _ (List.mem_cons_of_mem _ h)), List.forall_mem_append.mpr ⟨vi_X12_isIn, List.forall_mem_append.mpr ⟨vi_X12_goesNight, List.forall_mem_append.mpr ⟨vi_X12_isWritten, List.forall_mem_append.mpr ⟨vi_X12_leaps, List.forall_mem_append.mpr ⟨vi_X12_no, vsLc_in_12⟩⟩⟩⟩⟩⟩⟩
set_option maxRecDepth 20000 in
theorem tm_677 : (.code yX12_prompted cX12_prompted 3 (some .int) : Cond) ∈ lw_tbl := z_tbI5 _ (List.mem_of_getElem? (i := 106) rfl)
set_option maxRecDepth 20000 in
theorem vo_in_X12_prompted : ∀ w ∈ .code yX12_prompted cX12_prompted 3 (some .int) :: voX12_prompted, w ∈ lw_tbl := z_fc tm_677 <| z_fc tm_321 <| z_fc tm_660 <| z_fc tm_661 <| z_fc tm_662 <| z_fc tm_19 <| z_fc tm_440 <| z_fc tm_441 <| z_fc tm_442 <| z_fc tm_635 <| z_fc tm_636 <| z_fc tm_637 <| z_fc tm_632 <| z_fc tm_633 <| z_fc tm_634 <| z_fc tm_411 <| z_fc tm_412 <| z_fc tm_413 <| z_fn
theorem vi_X12_prompted : ∀ w ∈ vsX12_prompted, w ∈ lw_tbl := List.forall_mem_cons.mpr ⟨vo_in_X12_prompted _ (List.mem_cons_self ..), List.forall_mem_append.mpr ⟨(fun _ h => vo_in_X12_prompted _ (List.mem_cons_of_mem _ h)), List.forall_mem_append.mpr ⟨vi_X12_passesAll, List.forall_mem_append.mpr ⟨vi_X12_beginsAnew, List.forall_mem_append.mpr ⟨vi_X12_says, List.forall_mem_append.mpr ⟨vi_X12_follower, List.forall_mem_append.mpr ⟨vi_X12_no, vsLc_in_12⟩⟩⟩⟩⟩⟩⟩
set_option maxRecDepth 20000 in
theorem tm_678 : (.code yX12_readsPlayer cX12_readsPlayer 3 (some .boolean) : Cond) ∈ lw_tbl := z_tbI4 _ (List.mem_of_getElem? (i := 152) rfl)
set_option maxRecDepth 20000 in
theorem tm_679 : (.fieldLink RX12 53 "EachOnHisCueModel" "told" "[I" : Cond) ∈ lw_tbl := z_tbI4 _ (List.mem_of_getElem? (i := 30) rfl)
set_option maxRecDepth 20000 in
theorem tm_680 : (.methodLink RX12 104 yX12_digit : Cond) ∈ lw_tbl := z_tbI4 _ (List.mem_of_getElem? (i := 153) rfl)
set_option maxRecDepth 20000 in
theorem tm_681 : (.instanceMethod yX12_digit : Cond) ∈ lw_tbl := z_tbI4 _ (List.mem_of_getElem? (i := 155) rfl)
set_option maxRecDepth 20000 in
theorem tm_682 : (.selects RX12 yX12_digit yX12_digit : Cond) ∈ lw_tbl := z_tbI0 _ (List.mem_of_getElem? (i := 5) (by decide +kernel))
set_option maxRecDepth 20000 in
theorem vo_in_X12_readsPlayer : ∀ w ∈ .code yX12_readsPlayer cX12_readsPlayer 3 (some .boolean) :: voX12_readsPlayer, w ∈ lw_tbl := z_fc tm_678 <| z_fc tm_679 <| z_fc tm_680 <| z_fc tm_681 <| z_fc tm_682 <| z_fc tm_19 <| z_fn
theorem vi_X12_readsPlayer : ∀ w ∈ vsX12_readsPlayer, w ∈ lw_tbl := List.forall_mem_cons.mpr ⟨vo_in_X12_readsPlayer _ (List.mem_cons_self ..), List.forall_mem_append.mpr ⟨(fun _ h => vo_in_X12_readsPlayer _ (List.mem_cons_of_mem _ h)), List.forall_mem_append.mpr ⟨vi_X12_digit, vsLc_in_12⟩⟩⟩
set_option maxRecDepth 20000 in
theorem tm_683 : (.code yX12_readsLine cX12_readsLine 3 (some .boolean) : Cond) ∈ lw_tbl := z_tbI4 _ (List.mem_of_getElem? (i := 163) rfl)
set_option maxRecDepth 20000 in
theorem vo_in_X12_readsLine : ∀ w ∈ .code yX12_readsLine cX12_readsLine 3 (some .boolean) :: voX12_readsLine, w ∈ lw_tbl := z_fc tm_683 <| z_fc tm_679 <| z_fc tm_323 <| z_fc tm_680 <| z_fc tm_681 <| z_fc tm_682 <| z_fc tm_19 <| z_fc tm_415 <| z_fc tm_416 <| z_fc tm_417 <| z_fc tm_418 <| z_fc tm_419 <| z_fn
theorem vi_X12_readsLine : ∀ w ∈ vsX12_readsLine, w ∈ lw_tbl := List.forall_mem_cons.mpr ⟨vo_in_X12_readsLine _ (List.mem_cons_self ..), List.forall_mem_append.mpr ⟨(fun _ h => vo_in_X12_readsLine _ (List.mem_cons_of_mem _ h)), List.forall_mem_append.mpr ⟨vi_X12_digit, List.forall_mem_append.mpr ⟨vi_X12_next, List.forall_mem_append.mpr ⟨vi_X12_isIn, vsLc_in_12⟩⟩⟩⟩⟩
set_option maxRecDepth 20000 in
theorem tm_684 : (.code yX12_statement cX12_statement 2 (some .boolean) : Cond) ∈ lw_tbl := z_tbI4 _ (List.mem_of_getElem? (i := 144) rfl)
set_option maxRecDepth 20000 in
theorem tm_685 : (.fieldLink RX12 47 "EachOnHisCueModel" "letter" "[I" : Cond) ∈ lw_tbl := z_tbI4 _ (List.mem_of_getElem? (i := 28) rfl)
set_option maxRecDepth 20000 in
theorem tm_686 : (.fieldLink RX12 107 "EachOnHisCueModel" "statements" "I" : Cond) ∈ lw_tbl := z_tbI4 _ (List.mem_of_getElem? (i := 33) rfl)
set_option maxRecDepth 20000 in
theorem tm_687 : (.fieldLink RX12 50 "EachOnHisCueModel" "letterAt" "[I" : Cond) ∈ lw_tbl := z_tbI4 _ (List.mem_of_getElem? (i := 29) rfl)
set_option maxRecDepth 20000 in
theorem tm_688 : (.methodLink RX12 110 yX12_readsPlayer : Cond) ∈ lw_tbl := z_tbI4 _ (List.mem_of_getElem? (i := 149) rfl)
set_option maxRecDepth 20000 in
theorem tm_689 : (.instanceMethod yX12_readsPlayer : Cond) ∈ lw_tbl := z_tbI4 _ (List.mem_of_getElem? (i := 151) rfl)
set_option maxRecDepth 20000 in
theorem tm_690 : (.selects RX12 yX12_readsPlayer yX12_readsPlayer : Cond) ∈ lw_tbl := z_tbI0 _ (List.mem_of_getElem? (i := 4) (by decide +kernel))
set_option maxRecDepth 20000 in
theorem tm_691 : (.methodLink RX12 114 yX12_readsLine : Cond) ∈ lw_tbl := z_tbI4 _ (List.mem_of_getElem? (i := 160) rfl)
set_option maxRecDepth 20000 in
theorem tm_692 : (.instanceMethod yX12_readsLine : Cond) ∈ lw_tbl := z_tbI4 _ (List.mem_of_getElem? (i := 162) rfl)
set_option maxRecDepth 20000 in
theorem tm_693 : (.selects RX12 yX12_readsLine yX12_readsLine : Cond) ∈ lw_tbl := z_tbI0 _ (List.mem_of_getElem? (i := 6) (by decide +kernel))
set_option maxRecDepth 20000 in
theorem vo_in_X12_statement : ∀ w ∈ .code yX12_statement cX12_statement 2 (some .boolean) :: voX12_statement, w ∈ lw_tbl := z_fc tm_684 <| z_fc tm_685 <| z_fc tm_686 <| z_fc tm_687 <| z_fc tm_323 <| z_fc tm_415 <| z_fc tm_416 <| z_fc tm_417 <| z_fc tm_19 <| z_fc tm_688 <| z_fc tm_689 <| z_fc tm_690 <| z_fc tm_691 <| z_fc tm_692 <| z_fc tm_693 <| z_fn
theorem vi_X12_statement : ∀ w ∈ vsX12_statement, w ∈ lw_tbl := List.forall_mem_cons.mpr ⟨vo_in_X12_statement _ (List.mem_cons_self ..), List.forall_mem_append.mpr ⟨(fun _ h => vo_in_X12_statement _ (List.mem_cons_of_mem _ h)), List.forall_mem_append.mpr ⟨vi_X12_next, List.forall_mem_append.mpr ⟨vi_X12_readsPlayer, List.forall_mem_append.mpr ⟨vi_X12_readsLine, vsLc_in_12⟩⟩⟩⟩⟩
set_option maxRecDepth 20000 in
theorem tm_694 : (.code yX12_comesPlayer cX12_comesPlayer 2 (some .boolean) : Cond) ∈ lw_tbl := z_tbI4 _ (List.mem_of_getElem? (i := 179) rfl)
set_option maxRecDepth 20000 in
theorem vo_in_X12_comesPlayer : ∀ w ∈ .code yX12_comesPlayer cX12_comesPlayer 2 (some .boolean) :: voX12_comesPlayer, w ∈ lw_tbl := z_fc tm_694 <| z_fc tm_679 <| z_fc tm_319 <| z_fc tm_327 <| z_fc tm_348 <| z_fc tm_328 <| z_fn
theorem vi_X12_comesPlayer : ∀ w ∈ vsX12_comesPlayer, w ∈ lw_tbl := List.forall_mem_cons.mpr ⟨vo_in_X12_comesPlayer _ (List.mem_cons_self ..), List.forall_mem_append.mpr ⟨(fun _ h => vo_in_X12_comesPlayer _ (List.mem_cons_of_mem _ h)), vsLc_in_12⟩⟩
set_option maxRecDepth 20000 in
theorem tm_695 : (.code yX12_comesLine cX12_comesLine 3 (some .boolean) : Cond) ∈ lw_tbl := z_tbI4 _ (List.mem_of_getElem? (i := 183) rfl)
set_option maxRecDepth 20000 in
theorem vo_in_X12_comesLine : ∀ w ∈ .code yX12_comesLine cX12_comesLine 3 (some .boolean) :: voX12_comesLine, w ∈ lw_tbl := z_fc tm_695 <| z_fc tm_679 <| z_fc tm_321 <| z_fc tm_330 <| z_fc tm_347 <| z_fc tm_435 <| z_fc tm_332 <| z_fc tm_335 <| z_fc tm_431 <| z_fc tm_432 <| z_fc tm_433 <| z_fc tm_19 <| z_fc tm_418 <| z_fc tm_419 <| z_fn
theorem vi_X12_comesLine : ∀ w ∈ vsX12_comesLine, w ∈ lw_tbl := List.forall_mem_cons.mpr ⟨vo_in_X12_comesLine _ (List.mem_cons_self ..), List.forall_mem_append.mpr ⟨(fun _ h => vo_in_X12_comesLine _ (List.mem_cons_of_mem _ h)), List.forall_mem_append.mpr ⟨vi_X12_isPlayer, List.forall_mem_append.mpr ⟨vi_X12_isIn, vsLc_in_12⟩⟩⟩⟩
set_option maxRecDepth 20000 in
theorem tm_696 : (.code yX12_withoutOf cX12_withoutOf 3 (some .int) : Cond) ∈ lw_tbl := z_tbI5 _ (List.mem_of_getElem? (i := 127) rfl)
set_option maxRecDepth 20000 in
theorem vo_in_X12_withoutOf : ∀ w ∈ .code yX12_withoutOf cX12_withoutOf 3 (some .int) :: voX12_withoutOf, w ∈ lw_tbl := z_fc tm_696 <| z_fc tm_327 <| z_fc tm_359 <| z_fc tm_667 <| z_fc tm_668 <| z_fc tm_669 <| z_fc tm_19 <| z_fn
theorem vi_X12_withoutOf : ∀ w ∈ vsX12_withoutOf, w ∈ lw_tbl := List.forall_mem_cons.mpr ⟨vo_in_X12_withoutOf _ (List.mem_cons_self ..), List.forall_mem_append.mpr ⟨(fun _ h => vo_in_X12_withoutOf _ (List.mem_cons_of_mem _ h)), List.forall_mem_append.mpr ⟨vi_X12_goesNight, vsLc_in_12⟩⟩⟩
set_option maxRecDepth 20000 in
theorem tm_697 : (.code yX12_without cX12_without 2 (some .int) : Cond) ∈ lw_tbl := z_tbI5 _ (List.mem_of_getElem? (i := 123) rfl)
set_option maxRecDepth 20000 in
theorem tm_698 : (.methodLink RX12 254 yX12_withoutOf : Cond) ∈ lw_tbl := z_tbI5 _ (List.mem_of_getElem? (i := 124) rfl)
set_option maxRecDepth 20000 in
theorem tm_699 : (.instanceMethod yX12_withoutOf : Cond) ∈ lw_tbl := z_tbI5 _ (List.mem_of_getElem? (i := 126) rfl)
set_option maxRecDepth 20000 in
theorem tm_700 : (.selects RX12 yX12_withoutOf yX12_withoutOf : Cond) ∈ lw_tbl := z_tbI0 _ (List.mem_of_getElem? (i := 36) (by decide +kernel))
set_option maxRecDepth 20000 in
theorem vo_in_X12_without : ∀ w ∈ .code yX12_without cX12_without 2 (some .int) :: voX12_without, w ∈ lw_tbl := z_fc tm_697 <| z_fc tm_321 <| z_fc tm_431 <| z_fc tm_432 <| z_fc tm_433 <| z_fc tm_19 <| z_fc tm_698 <| z_fc tm_699 <| z_fc tm_700 <| z_fc tm_411 <| z_fc tm_412 <| z_fc tm_413 <| z_fn
theorem vi_X12_without : ∀ w ∈ vsX12_without, w ∈ lw_tbl := List.forall_mem_cons.mpr ⟨vo_in_X12_without _ (List.mem_cons_self ..), List.forall_mem_append.mpr ⟨(fun _ h => vo_in_X12_without _ (List.mem_cons_of_mem _ h)), List.forall_mem_append.mpr ⟨vi_X12_isPlayer, List.forall_mem_append.mpr ⟨vi_X12_withoutOf, List.forall_mem_append.mpr ⟨vi_X12_no, vsLc_in_12⟩⟩⟩⟩⟩
set_option maxRecDepth 20000 in
theorem tm_701 : (.code yX12_leastHarm cX12_leastHarm 5 (some .int) : Cond) ∈ lw_tbl := z_tbI5 _ (List.mem_of_getElem? (i := 131) rfl)
set_option maxRecDepth 20000 in
theorem vo_in_X12_leastHarm : ∀ w ∈ .code yX12_leastHarm cX12_leastHarm 5 (some .int) :: voX12_leastHarm, w ∈ lw_tbl := z_fc tm_701 <| z_fc tm_321 <| z_fc tm_319 <| z_fc tm_698 <| z_fc tm_699 <| z_fc tm_700 <| z_fc tm_19 <| z_fc tm_411 <| z_fc tm_412 <| z_fc tm_413 <| z_fn
theorem vi_X12_leastHarm : ∀ w ∈ vsX12_leastHarm, w ∈ lw_tbl := List.forall_mem_cons.mpr ⟨vo_in_X12_leastHarm _ (List.mem_cons_self ..), List.forall_mem_append.mpr ⟨(fun _ h => vo_in_X12_leastHarm _ (List.mem_cons_of_mem _ h)), List.forall_mem_append.mpr ⟨vi_X12_withoutOf, List.forall_mem_append.mpr ⟨vi_X12_no, vsLc_in_12⟩⟩⟩⟩
set_option maxRecDepth 20000 in
theorem tm_702 : (.code yX12_joke cX12_joke 4 (some .int) : Cond) ∈ lw_tbl := z_tbI5 _ (List.mem_of_getElem? (i := 135) rfl)
set_option maxRecDepth 20000 in
theorem vo_in_X12_joke : ∀ w ∈ .code yX12_joke cX12_joke 4 (some .int) :: voX12_joke, w ∈ lw_tbl := z_fc tm_702 <| z_fc tm_332 <| z_fc tm_333 <| z_fc tm_336 <| z_fc tm_359 <| z_fc tm_427 <| z_fc tm_428 <| z_fc tm_429 <| z_fc tm_19 <| z_fc tm_409 <| z_fc tm_410 <| z_fc tm_411 <| z_fc tm_412 <| z_fc tm_413 <| z_fc tm_667 <| z_fc tm_668 <| z_fc tm_669 <| z_fn
theorem vi_X12_joke : ∀ w ∈ vsX12_joke, w ∈ lw_tbl := List.forall_mem_cons.mpr ⟨vo_in_X12_joke _ (List.mem_cons_self ..), List.forall_mem_append.mpr ⟨(fun _ h => vo_in_X12_joke _ (List.mem_cons_of_mem _ h)), List.forall_mem_append.mpr ⟨vi_X12_isLine, List.forall_mem_append.mpr ⟨vi_X12_bound, List.forall_mem_append.mpr ⟨vi_X12_no, List.forall_mem_append.mpr ⟨vi_X12_goesNight, vsLc_in_12⟩⟩⟩⟩⟩⟩
set_option maxRecDepth 20000 in
theorem tm_703 : (.code yX12_stretched cX12_stretched 4 (some .int) : Cond) ∈ lw_tbl := z_tbI5 _ (List.mem_of_getElem? (i := 139) rfl)
set_option maxRecDepth 20000 in
theorem tm_704 : (.fieldLink RX12 65 "EachOnHisCueModel" "cues" "[I" : Cond) ∈ lw_tbl := z_tbI4 _ (List.mem_of_getElem? (i := 44) rfl)
set_option maxRecDepth 20000 in
theorem vo_in_X12_stretched : ∀ w ∈ .code yX12_stretched cX12_stretched 4 (some .int) :: voX12_stretched, w ∈ lw_tbl := z_fc tm_703 <| z_fc tm_321 <| z_fc tm_359 <| z_fc tm_347 <| z_fc tm_704 <| z_fc tm_409 <| z_fc tm_410 <| z_fc tm_19 <| z_fc tm_411 <| z_fc tm_412 <| z_fc tm_413 <| z_fc tm_338 <| z_fc tm_339 <| z_fc tm_667 <| z_fc tm_668 <| z_fc tm_669 <| z_fn
theorem vi_X12_stretched : ∀ w ∈ vsX12_stretched, w ∈ lw_tbl := List.forall_mem_cons.mpr ⟨vo_in_X12_stretched _ (List.mem_cons_self ..), List.forall_mem_append.mpr ⟨(fun _ h => vo_in_X12_stretched _ (List.mem_cons_of_mem _ h)), List.forall_mem_append.mpr ⟨vi_X12_bound, List.forall_mem_append.mpr ⟨vi_X12_no, List.forall_mem_append.mpr ⟨vi_X12_least, List.forall_mem_append.mpr ⟨vi_X12_goesNight, vsLc_in_12⟩⟩⟩⟩⟩⟩
set_option maxRecDepth 20000 in
theorem tm_705 : (.code yX12_judge cX12_judge 2 (some .int) : Cond) ∈ lw_tbl := z_tbI5 _ (List.mem_of_getElem? (i := 183) rfl)
set_option maxRecDepth 20000 in
theorem vo_in_X12_judge : ∀ w ∈ .code yX12_judge cX12_judge 2 (some .int) :: voX12_judge, w ∈ lw_tbl := z_fc tm_705 <| z_fc tm_321 <| z_fc tm_449 <| z_fc tm_359 <| z_fc tm_450 <| z_fc tm_361 <| z_fc tm_667 <| z_fc tm_668 <| z_fc tm_669 <| z_fc tm_19 <| z_fc tm_411 <| z_fc tm_412 <| z_fc tm_413 <| z_fn
theorem vi_X12_judge : ∀ w ∈ vsX12_judge, w ∈ lw_tbl := List.forall_mem_cons.mpr ⟨vo_in_X12_judge _ (List.mem_cons_self ..), List.forall_mem_append.mpr ⟨(fun _ h => vo_in_X12_judge _ (List.mem_cons_of_mem _ h)), List.forall_mem_append.mpr ⟨vi_X12_goesNight, List.forall_mem_append.mpr ⟨vi_X12_no, vsLc_in_12⟩⟩⟩⟩
set_option maxRecDepth 20000 in
theorem tm_706 : (.code yX12_piece cX12_piece 3 (some .int) : Cond) ∈ lw_tbl := z_tbI4 _ (List.mem_of_getElem? (i := 140) rfl)
set_option maxRecDepth 20000 in
theorem tm_707 : (.methodLink RX12 120 yX12_statement : Cond) ∈ lw_tbl := z_tbI4 _ (List.mem_of_getElem? (i := 141) rfl)
set_option maxRecDepth 20000 in
theorem tm_708 : (.instanceMethod yX12_statement : Cond) ∈ lw_tbl := z_tbI4 _ (List.mem_of_getElem? (i := 143) rfl)
set_option maxRecDepth 20000 in
theorem tm_709 : (.selects RX12 yX12_statement yX12_statement : Cond) ∈ lw_tbl := z_tbI0 _ (List.mem_of_getElem? (i := 2) (by decide +kernel))
set_option maxRecDepth 20000 in
theorem tm_710 : (.methodLink RX12 131 yX12_comesLine : Cond) ∈ lw_tbl := z_tbI4 _ (List.mem_of_getElem? (i := 180) rfl)
set_option maxRecDepth 20000 in
theorem tm_711 : (.instanceMethod yX12_comesLine : Cond) ∈ lw_tbl := z_tbI4 _ (List.mem_of_getElem? (i := 182) rfl)
set_option maxRecDepth 20000 in
theorem tm_712 : (.selects RX12 yX12_comesLine yX12_comesLine : Cond) ∈ lw_tbl := z_tbI0 _ (List.mem_of_getElem? (i := 11) (by decide +kernel))
set_option maxRecDepth 20000 in
theorem tm_713 : (.methodLink RX12 128 yX12_comesPlayer : Cond) ∈ lw_tbl := z_tbI4 _ (List.mem_of_getElem? (i := 176) rfl)
set_option maxRecDepth 20000 in
theorem tm_714 : (.instanceMethod yX12_comesPlayer : Cond) ∈ lw_tbl := z_tbI4 _ (List.mem_of_getElem? (i := 178) rfl)
set_option maxRecDepth 20000 in
theorem tm_715 : (.selects RX12 yX12_comesPlayer yX12_comesPlayer : Cond) ∈ lw_tbl := z_tbI0 _ (List.mem_of_getElem? (i := 10) (by decide +kernel))
set_option maxRecDepth 20000 in
theorem vo_in_X12_piece : ∀ w ∈ .code yX12_piece cX12_piece 3 (some .int) :: voX12_piece, w ∈ lw_tbl := z_fc tm_706 <| z_fc tm_323 <| z_fc tm_686 <| z_fc tm_324 <| z_fc tm_685 <| z_fc tm_687 <| z_fc tm_707 <| z_fc tm_708 <| z_fc tm_709 <| z_fc tm_19 <| z_fc tm_660 <| z_fc tm_661 <| z_fc tm_662 <| z_fc tm_710 <| z_fc tm_711 <| z_fc tm_712 <| z_fc tm_713 <| z_fc tm_714 <| z_fc tm_715 <| z_fc tm_440 <| z_fc tm_441 <| z_fc tm_442 <| z_fn
theorem vi_X12_piece : ∀ w ∈ vsX12_piece, w ∈ lw_tbl := List.forall_mem_cons.mpr ⟨vo_in_X12_piece _ (List.mem_cons_self ..), List.forall_mem_append.mpr ⟨(fun _ h => vo_in_X12_piece _ (List.mem_cons_of_mem _ h)), List.forall_mem_append.mpr ⟨vi_X12_statement, List.forall_mem_append.mpr ⟨vi_X12_passesAll, List.forall_mem_append.mpr ⟨vi_X12_comesLine, List.forall_mem_append.mpr ⟨vi_X12_comesPlayer, List.forall_mem_append.mpr ⟨vi_X12_beginsAnew, vsLc_in_12⟩⟩⟩⟩⟩⟩⟩
set_option maxRecDepth 20000 in
theorem tm_716 : (.code yX11_feed cX11_feed 2 (some .int) : Cond) ∈ lw_tbl := z_tbI1 _ (List.mem_of_getElem? (i := 199) rfl)
set_option maxRecDepth 20000 in
theorem tm_717 : (.fieldLink RX11 38 "EachOnHisCue" "letters" "LEachOnHisCue$Letters;" : Cond) ∈ lw_tbl := z_tbI1 _ (List.mem_of_getElem? (i := 173) rfl)
set_option maxRecDepth 20000 in
theorem tm_718 : (.fieldLink RX11 57 "EachOnHisCue$Letters" "size" "I" : Cond) ∈ lw_tbl := z_tbI1 _ (List.mem_of_getElem? (i := 162) rfl)
set_option maxRecDepth 20000 in
theorem tm_719 : (.methodLink RX11 53 yX11_refuse : Cond) ∈ lw_tbl := z_tbI1 _ (List.mem_of_getElem? (i := 200) rfl)
set_option maxRecDepth 20000 in
theorem tm_720 : (.instanceMethod yX11_refuse : Cond) ∈ lw_tbl := z_tbI1 _ (List.mem_of_getElem? (i := 202) rfl)
set_option maxRecDepth 20000 in
theorem tm_721 : (.selects RX11 yX11_refuse yX11_refuse : Cond) ∈ lw_tbl := z_tbI0 _ (List.mem_of_getElem? (i := 0) (by decide +kernel))
set_option maxRecDepth 20000 in
theorem tm_722 : (.methodLink RX11 60 yX4_add : Cond) ∈ lw_tbl := z_tbI1 _ (List.mem_of_getElem? (i := 204) rfl)
set_option maxRecDepth 20000 in
theorem tm_723 : (.instanceMethod yX4_add : Cond) ∈ lw_tbl := z_tbI1 _ (List.mem_of_getElem? (i := 205) rfl)
set_option maxRecDepth 20000 in
theorem tm_724 : (.selects RX4 yX4_add yX4_add : Cond) ∈ lw_tbl := z_tbI1 _ (List.mem_of_getElem? (i := 206) rfl)
set_option maxRecDepth 20000 in
theorem vo_in_X11_feed : ∀ w ∈ .code yX11_feed cX11_feed 2 (some .int) :: voX11_feed, w ∈ lw_tbl := z_fc tm_716 <| z_fc tm_717 <| z_fc tm_718 <| z_fc tm_719 <| z_fc tm_720 <| z_fc tm_721 <| z_fc tm_15 <| z_fc tm_722 <| z_fc tm_723 <| z_fc tm_724 <| z_fc tm_229 <| z_fn
theorem vi_X11_feed : ∀ w ∈ vsX11_feed, w ∈ lw_tbl := List.forall_mem_cons.mpr ⟨vo_in_X11_feed _ (List.mem_cons_self ..), List.forall_mem_append.mpr ⟨(fun _ h => vo_in_X11_feed _ (List.mem_cons_of_mem _ h)), List.forall_mem_append.mpr ⟨vi_X11_refuse, List.forall_mem_append.mpr ⟨vi_X4_add, List.forall_mem_append.mpr ⟨vsLc_in_4, vsLc_in_11⟩⟩⟩⟩⟩
set_option maxRecDepth 20000 in
theorem tm_725 : (.code yX11_player cX11_player 3 (some .int) : Cond) ∈ lw_tbl := z_tbI2 _ (List.mem_of_getElem? (i := 103) rfl)
set_option maxRecDepth 20000 in
theorem tm_726 : (.fieldLink RX11 10 "EachOnHisCue" "play" "LEachOnHisCue$Play;" : Cond) ∈ lw_tbl := z_tbI1 _ (List.mem_of_getElem? (i := 168) rfl)
set_option maxRecDepth 20000 in
theorem tm_727 : (.fieldLink RX11 93 "EachOnHisCue$Play" "own" "[I" : Cond) ∈ lw_tbl := z_tbI1 _ (List.mem_of_getElem? (i := 68) rfl)
set_option maxRecDepth 20000 in
theorem tm_728 : (.fieldLink RX11 71 "EachOnHisCue$Play" "now" "LEachOnHisCue$Saying;" : Cond) ∈ lw_tbl := z_tbI1 _ (List.mem_of_getElem? (i := 92) rfl)
set_option maxRecDepth 20000 in
theorem tm_729 : (.fieldLink RX11 96 "EachOnHisCue$Saying" "dead" "I" : Cond) ∈ lw_tbl := z_tbI1 _ (List.mem_of_getElem? (i := 42) rfl)
set_option maxRecDepth 20000 in
theorem tm_730 : (.methodLink RX11 80 yX7_hasPlayer : Cond) ∈ lw_tbl := z_tbI2 _ (List.mem_of_getElem? (i := 104) rfl)
set_option maxRecDepth 20000 in
theorem tm_731 : (.methodLink RX11 84 yX7_kindOf : Cond) ∈ lw_tbl := z_tbI2 _ (List.mem_of_getElem? (i := 105) rfl)
set_option maxRecDepth 20000 in
theorem tm_732 : (.instanceMethod yX7_kindOf : Cond) ∈ lw_tbl := z_tbI2 _ (List.mem_of_getElem? (i := 106) rfl)
set_option maxRecDepth 20000 in
theorem tm_733 : (.selects RX7 yX7_kindOf yX7_kindOf : Cond) ∈ lw_tbl := z_tbI2 _ (List.mem_of_getElem? (i := 107) rfl)
set_option maxRecDepth 20000 in
theorem tm_734 : (.methodLink RX11 87 yX7_figureOf : Cond) ∈ lw_tbl := z_tbI2 _ (List.mem_of_getElem? (i := 129) rfl)
set_option maxRecDepth 20000 in
theorem tm_735 : (.instanceMethod yX7_figureOf : Cond) ∈ lw_tbl := z_tbI2 _ (List.mem_of_getElem? (i := 130) rfl)
set_option maxRecDepth 20000 in
theorem tm_736 : (.selects RX7 yX7_figureOf yX7_figureOf : Cond) ∈ lw_tbl := z_tbI2 _ (List.mem_of_getElem? (i := 131) rfl)
set_option maxRecDepth 20000 in
theorem tm_737 : (.methodLink RX11 90 yX7_hasteOf : Cond) ∈ lw_tbl := z_tbI2 _ (List.mem_of_getElem? (i := 133) rfl)
set_option maxRecDepth 20000 in
theorem tm_738 : (.methodLink RX11 99 yX11_bitAt : Cond) ∈ lw_tbl := z_tbI2 _ (List.mem_of_getElem? (i := 149) rfl)
set_option maxRecDepth 20000 in
theorem vo_in_X11_player : ∀ w ∈ .code yX11_player cX11_player 3 (some .int) :: voX11_player, w ∈ lw_tbl := z_fc tm_725 <| z_fc tm_726 <| z_fc tm_727 <| z_fc tm_728 <| z_fc tm_729 <| z_fc tm_730 <| z_fc tm_467 <| z_fc tm_468 <| z_fc tm_284 <| z_fc tm_719 <| z_fc tm_720 <| z_fc tm_721 <| z_fc tm_15 <| z_fc tm_731 <| z_fc tm_732 <| z_fc tm_733 <| z_fc tm_734 <| z_fc tm_735 <| z_fc tm_736 <| z_fc tm_737 <| z_fc tm_566 <| z_fc tm_567 <| z_fc tm_738 <| z_fc tm_300 <| z_fn
theorem vi_X11_player : ∀ w ∈ vsX11_player, w ∈ lw_tbl := List.forall_mem_cons.mpr ⟨vo_in_X11_player _ (List.mem_cons_self ..), List.forall_mem_append.mpr ⟨(fun _ h => vo_in_X11_player _ (List.mem_cons_of_mem _ h)), List.forall_mem_append.mpr ⟨vi_X7_hasPlayer, List.forall_mem_append.mpr ⟨vi_X11_refuse, List.forall_mem_append.mpr ⟨vi_X7_kindOf, List.forall_mem_append.mpr ⟨vi_X7_figureOf, List.forall_mem_append.mpr ⟨vi_X7_hasteOf, List.forall_mem_append.mpr ⟨vi_X11_bitAt, List.forall_mem_append.mpr ⟨vsLc_in_7, List.forall_mem_append.mpr ⟨vsLc_in_9, vsLc_in_11⟩⟩⟩⟩⟩⟩⟩⟩⟩⟩
set_option maxRecDepth 20000 in
theorem tm_739 : (.code yX11_line cX11_line 3 (some .int) : Cond) ∈ lw_tbl := z_tbI2 _ (List.mem_of_getElem? (i := 155) rfl)
set_option maxRecDepth 20000 in
theorem tm_740 : (.fieldLink RX11 106 "EachOnHisCue$Play" "owners" "[I" : Cond) ∈ lw_tbl := z_tbI1 _ (List.mem_of_getElem? (i := 74) rfl)
set_option maxRecDepth 20000 in
theorem tm_741 : (.fieldLink RX11 109 "EachOnHisCue$Play" "sizes" "[I" : Cond) ∈ lw_tbl := z_tbI1 _ (List.mem_of_getElem? (i := 79) rfl)
set_option maxRecDepth 20000 in
theorem tm_742 : (.fieldLink RX11 112 "EachOnHisCue$Play" "cues" "[I" : Cond) ∈ lw_tbl := z_tbI1 _ (List.mem_of_getElem? (i := 81) rfl)
set_option maxRecDepth 20000 in
theorem tm_743 : (.fieldLink RX11 115 "EachOnHisCue$Play" "killing" "I" : Cond) ∈ lw_tbl := z_tbI1 _ (List.mem_of_getElem? (i := 83) rfl)
set_option maxRecDepth 20000 in
theorem tm_744 : (.fieldLink RX11 118 "EachOnHisCue$Saying" "said" "I" : Cond) ∈ lw_tbl := z_tbI1 _ (List.mem_of_getElem? (i := 39) rfl)
set_option maxRecDepth 20000 in
theorem tm_745 : (.methodLink RX11 103 yX7_hasLine : Cond) ∈ lw_tbl := z_tbI2 _ (List.mem_of_getElem? (i := 156) rfl)
set_option maxRecDepth 20000 in
theorem vo_in_X11_line : ∀ w ∈ .code yX11_line cX11_line 3 (some .int) :: voX11_line, w ∈ lw_tbl := z_fc tm_739 <| z_fc tm_726 <| z_fc tm_740 <| z_fc tm_741 <| z_fc tm_742 <| z_fc tm_743 <| z_fc tm_728 <| z_fc tm_744 <| z_fc tm_745 <| z_fc tm_513 <| z_fc tm_514 <| z_fc tm_284 <| z_fc tm_719 <| z_fc tm_720 <| z_fc tm_721 <| z_fc tm_15 <| z_fc tm_738 <| z_fc tm_300 <| z_fn
theorem vi_X11_line : ∀ w ∈ vsX11_line, w ∈ lw_tbl := List.forall_mem_cons.mpr ⟨vo_in_X11_line _ (List.mem_cons_self ..), List.forall_mem_append.mpr ⟨(fun _ h => vo_in_X11_line _ (List.mem_cons_of_mem _ h)), List.forall_mem_append.mpr ⟨vi_X7_hasLine, List.forall_mem_append.mpr ⟨vi_X11_refuse, List.forall_mem_append.mpr ⟨vi_X11_bitAt, List.forall_mem_append.mpr ⟨vsLc_in_7, List.forall_mem_append.mpr ⟨vsLc_in_9, vsLc_in_11⟩⟩⟩⟩⟩⟩⟩
set_option maxRecDepth 20000 in
theorem tm_746 : (.code yX11_cue cX11_cue 4 (some .int) : Cond) ∈ lw_tbl := z_tbI2 _ (List.mem_of_getElem? (i := 163) rfl)
set_option maxRecDepth 20000 in
theorem vo_in_X11_cue : ∀ w ∈ .code yX11_cue cX11_cue 4 (some .int) :: voX11_cue, w ∈ lw_tbl := z_fc tm_746 <| z_fc tm_726 <| z_fc tm_742 <| z_fc tm_745 <| z_fc tm_513 <| z_fc tm_514 <| z_fc tm_284 <| z_fc tm_719 <| z_fc tm_720 <| z_fc tm_721 <| z_fc tm_15 <| z_fn
theorem vi_X11_cue : ∀ w ∈ vsX11_cue, w ∈ lw_tbl := List.forall_mem_cons.mpr ⟨vo_in_X11_cue _ (List.mem_cons_self ..), List.forall_mem_append.mpr ⟨(fun _ h => vo_in_X11_cue _ (List.mem_cons_of_mem _ h)), List.forall_mem_append.mpr ⟨vi_X7_hasLine, List.forall_mem_append.mpr ⟨vi_X11_refuse, List.forall_mem_append.mpr ⟨vsLc_in_7, vsLc_in_11⟩⟩⟩⟩⟩
set_option maxRecDepth 20000 in
theorem tm_747 : (.code yX11_speed cX11_speed 4 (some .int) : Cond) ∈ lw_tbl := z_tbI2 _ (List.mem_of_getElem? (i := 167) rfl)
set_option maxRecDepth 20000 in
theorem tm_748 : (.fieldLink RX11 121 "EachOnHisCue$Play" "speeds" "[I" : Cond) ∈ lw_tbl := z_tbI1 _ (List.mem_of_getElem? (i := 66) rfl)
set_option maxRecDepth 20000 in
theorem vo_in_X11_speed : ∀ w ∈ .code yX11_speed cX11_speed 4 (some .int) :: voX11_speed, w ∈ lw_tbl := z_fc tm_747 <| z_fc tm_726 <| z_fc tm_748 <| z_fc tm_730 <| z_fc tm_467 <| z_fc tm_468 <| z_fc tm_284 <| z_fc tm_719 <| z_fc tm_720 <| z_fc tm_721 <| z_fc tm_15 <| z_fn
theorem vi_X11_speed : ∀ w ∈ vsX11_speed, w ∈ lw_tbl := List.forall_mem_cons.mpr ⟨vo_in_X11_speed _ (List.mem_cons_self ..), List.forall_mem_append.mpr ⟨(fun _ h => vo_in_X11_speed _ (List.mem_cons_of_mem _ h)), List.forall_mem_append.mpr ⟨vi_X7_hasPlayer, List.forall_mem_append.mpr ⟨vi_X11_refuse, List.forall_mem_append.mpr ⟨vsLc_in_7, vsLc_in_11⟩⟩⟩⟩⟩
set_option maxRecDepth 20000 in
theorem tm_749 : (.code yX11_lose cX11_lose 3 (some .int) : Cond) ∈ lw_tbl := z_tbI2 _ (List.mem_of_getElem? (i := 171) rfl)
set_option maxRecDepth 20000 in
theorem tm_750 : (.fieldLink RX11 124 "EachOnHisCue$Play" "lost" "I" : Cond) ∈ lw_tbl := z_tbI1 _ (List.mem_of_getElem? (i := 90) rfl)
set_option maxRecDepth 20000 in
theorem vo_in_X11_lose : ∀ w ∈ .code yX11_lose cX11_lose 3 (some .int) :: voX11_lose, w ∈ lw_tbl := z_fc tm_749 <| z_fc tm_726 <| z_fc tm_750 <| z_fc tm_719 <| z_fc tm_720 <| z_fc tm_721 <| z_fc tm_15 <| z_fn
theorem vi_X11_lose : ∀ w ∈ vsX11_lose, w ∈ lw_tbl := List.forall_mem_cons.mpr ⟨vo_in_X11_lose _ (List.mem_cons_self ..), List.forall_mem_append.mpr ⟨(fun _ h => vo_in_X11_lose _ (List.mem_cons_of_mem _ h)), List.forall_mem_append.mpr ⟨vi_X11_refuse, List.forall_mem_append.mpr ⟨vsLc_in_7, vsLc_in_11⟩⟩⟩⟩
set_option maxRecDepth 20000 in
theorem tm_751 : (.code yX11_comes cX11_comes 2 (some .int) : Cond) ∈ lw_tbl := z_tbI2 _ (List.mem_of_getElem? (i := 175) rfl)
set_option maxRecDepth 20000 in
theorem tm_752 : (.fieldLink RX11 34 "EachOnHisCue" "web" "LEachOnHisCue$Net;" : Cond) ∈ lw_tbl := z_tbI1 _ (List.mem_of_getElem? (i := 172) rfl)
set_option maxRecDepth 20000 in
theorem tm_753 : (.fieldLink RX11 26 "EachOnHisCue" "evening" "LEachOnHisCue$Evening;" : Cond) ∈ lw_tbl := z_tbI1 _ (List.mem_of_getElem? (i := 171) rfl)
set_option maxRecDepth 20000 in
theorem tm_754 : (.methodLink RX11 127 yX5_weave : Cond) ∈ lw_tbl := z_tbI2 _ (List.mem_of_getElem? (i := 176) rfl)
set_option maxRecDepth 20000 in
theorem tm_755 : (.methodLink RX11 133 yX2_comesWith : Cond) ∈ lw_tbl := z_tbI2 _ (List.mem_of_getElem? (i := 209) rfl)
set_option maxRecDepth 20000 in
theorem vo_in_X11_comes : ∀ w ∈ .code yX11_comes cX11_comes 2 (some .int) :: voX11_comes, w ∈ lw_tbl := z_fc tm_751 <| z_fc tm_726 <| z_fc tm_752 <| z_fc tm_753 <| z_fc tm_728 <| z_fc tm_730 <| z_fc tm_467 <| z_fc tm_468 <| z_fc tm_284 <| z_fc tm_754 <| z_fc tm_593 <| z_fc tm_594 <| z_fc tm_306 <| z_fc tm_755 <| z_fc tm_562 <| z_fc tm_563 <| z_fc tm_564 <| z_fc tm_719 <| z_fc tm_720 <| z_fc tm_721 <| z_fc tm_15 <| z_fn
theorem vi_X11_comes : ∀ w ∈ vsX11_comes, w ∈ lw_tbl := List.forall_mem_cons.mpr ⟨vo_in_X11_comes _ (List.mem_cons_self ..), List.forall_mem_append.mpr ⟨(fun _ h => vo_in_X11_comes _ (List.mem_cons_of_mem _ h)), List.forall_mem_append.mpr ⟨vi_X7_hasPlayer, List.forall_mem_append.mpr ⟨vi_X5_weave, List.forall_mem_append.mpr ⟨vi_X2_comesWith, List.forall_mem_append.mpr ⟨vi_X11_refuse, List.forall_mem_append.mpr ⟨vsLc_in_7, vsLc_in_11⟩⟩⟩⟩⟩⟩⟩
set_option maxRecDepth 20000 in
theorem tm_756 : (.code yX11_say cX11_say 2 (some .int) : Cond) ∈ lw_tbl := z_tbI3 _ (List.mem_of_getElem? (i := 6) rfl)
set_option maxRecDepth 20000 in
theorem tm_757 : (.fieldLink RX11 137 "EachOnHisCue$Play" "lines" "I" : Cond) ∈ lw_tbl := z_tbI1 _ (List.mem_of_getElem? (i := 87) rfl)
set_option maxRecDepth 20000 in
theorem tm_758 : (.methodLink RX11 140 yX2_nextLine : Cond) ∈ lw_tbl := z_tbI3 _ (List.mem_of_getElem? (i := 7) rfl)
set_option maxRecDepth 20000 in
theorem tm_759 : (.methodLink RX11 143 yX7_speak : Cond) ∈ lw_tbl := z_tbI3 _ (List.mem_of_getElem? (i := 13) rfl)
set_option maxRecDepth 20000 in
theorem vo_in_X11_say : ∀ w ∈ .code yX11_say cX11_say 2 (some .int) :: voX11_say, w ∈ lw_tbl := z_fc tm_756 <| z_fc tm_726 <| z_fc tm_757 <| z_fc tm_752 <| z_fc tm_753 <| z_fc tm_728 <| z_fc tm_754 <| z_fc tm_593 <| z_fc tm_594 <| z_fc tm_306 <| z_fc tm_758 <| z_fc tm_610 <| z_fc tm_611 <| z_fc tm_564 <| z_fc tm_759 <| z_fc tm_613 <| z_fc tm_614 <| z_fc tm_284 <| z_fc tm_719 <| z_fc tm_720 <| z_fc tm_721 <| z_fc tm_15 <| z_fn
theorem vi_X11_say : ∀ w ∈ vsX11_say, w ∈ lw_tbl := List.forall_mem_cons.mpr ⟨vo_in_X11_say _ (List.mem_cons_self ..), List.forall_mem_append.mpr ⟨(fun _ h => vo_in_X11_say _ (List.mem_cons_of_mem _ h)), List.forall_mem_append.mpr ⟨vi_X5_weave, List.forall_mem_append.mpr ⟨vi_X2_nextLine, List.forall_mem_append.mpr ⟨vi_X7_speak, List.forall_mem_append.mpr ⟨vi_X11_refuse, List.forall_mem_append.mpr ⟨vsLc_in_7, vsLc_in_11⟩⟩⟩⟩⟩⟩⟩
set_option maxRecDepth 20000 in
theorem tm_760 : (.code yX11_again cX11_again 2 (some .int) : Cond) ∈ lw_tbl := z_tbI3 _ (List.mem_of_getElem? (i := 25) rfl)
set_option maxRecDepth 20000 in
theorem tm_761 : (.fieldLink RX11 147 "EachOnHisCue$Saying" "times" "I" : Cond) ∈ lw_tbl := z_tbI1 _ (List.mem_of_getElem? (i := 48) rfl)
set_option maxRecDepth 20000 in
theorem tm_762 : (.methodLink RX11 75 yX9_forget : Cond) ∈ lw_tbl := z_tbI2 _ (List.mem_of_getElem? (i := 96) rfl)
set_option maxRecDepth 20000 in
theorem vo_in_X11_again : ∀ w ∈ .code yX11_again cX11_again 2 (some .int) :: voX11_again, w ∈ lw_tbl := z_fc tm_760 <| z_fc tm_726 <| z_fc tm_728 <| z_fc tm_761 <| z_fc tm_762 <| z_fc tm_607 <| z_fc tm_608 <| z_fc tm_604 <| z_fn
theorem vi_X11_again : ∀ w ∈ vsX11_again, w ∈ lw_tbl := List.forall_mem_cons.mpr ⟨vo_in_X11_again _ (List.mem_cons_self ..), List.forall_mem_append.mpr ⟨(fun _ h => vo_in_X11_again _ (List.mem_cons_of_mem _ h)), List.forall_mem_append.mpr ⟨vi_X9_forget, List.forall_mem_append.mpr ⟨vsLc_in_7, List.forall_mem_append.mpr ⟨vsLc_in_9, vsLc_in_11⟩⟩⟩⟩⟩
set_option maxRecDepth 20000 in
theorem tm_763 : (.code yX11_night cX11_night 3 (some .int) : Cond) ∈ lw_tbl := z_tbI3 _ (List.mem_of_getElem? (i := 29) rfl)
set_option maxRecDepth 20000 in
theorem tm_764 : (.fieldLink RX11 154 "EachOnHisCue$Evening" "saying" "LEachOnHisCue$Saying;" : Cond) ∈ lw_tbl := z_tbI1 _ (List.mem_of_getElem? (i := 144) rfl)
set_option maxRecDepth 20000 in
theorem tm_765 : (.fieldLink RX11 157 "EachOnHisCue$Saying" "latest" "I" : Cond) ∈ lw_tbl := z_tbI1 _ (List.mem_of_getElem? (i := 45) rfl)
set_option maxRecDepth 20000 in
theorem tm_766 : (.methodLink RX11 150 yX2_go : Cond) ∈ lw_tbl := z_tbI3 _ (List.mem_of_getElem? (i := 30) rfl)
set_option maxRecDepth 20000 in
theorem tm_767 : (.instanceMethod yX2_go : Cond) ∈ lw_tbl := z_tbI3 _ (List.mem_of_getElem? (i := 31) rfl)
set_option maxRecDepth 20000 in
theorem tm_768 : (.selects RX2 yX2_go yX2_go : Cond) ∈ lw_tbl := z_tbI3 _ (List.mem_of_getElem? (i := 32) rfl)
set_option maxRecDepth 20000 in
theorem vo_in_X11_night : ∀ w ∈ .code yX11_night cX11_night 3 (some .int) :: voX11_night, w ∈ lw_tbl := z_fc tm_763 <| z_fc tm_726 <| z_fc tm_757 <| z_fc tm_752 <| z_fc tm_753 <| z_fc tm_764 <| z_fc tm_765 <| z_fc tm_754 <| z_fc tm_593 <| z_fc tm_594 <| z_fc tm_306 <| z_fc tm_766 <| z_fc tm_767 <| z_fc tm_768 <| z_fc tm_564 <| z_fc tm_719 <| z_fc tm_720 <| z_fc tm_721 <| z_fc tm_15 <| z_fn
theorem vi_X11_night : ∀ w ∈ vsX11_night, w ∈ lw_tbl := List.forall_mem_cons.mpr ⟨vo_in_X11_night _ (List.mem_cons_self ..), List.forall_mem_append.mpr ⟨(fun _ h => vo_in_X11_night _ (List.mem_cons_of_mem _ h)), List.forall_mem_append.mpr ⟨vi_X5_weave, List.forall_mem_append.mpr ⟨vi_X2_go, List.forall_mem_append.mpr ⟨vi_X11_refuse, List.forall_mem_append.mpr ⟨vsLc_in_2, List.forall_mem_append.mpr ⟨vsLc_in_7, List.forall_mem_append.mpr ⟨vsLc_in_9, vsLc_in_11⟩⟩⟩⟩⟩⟩⟩⟩
set_option maxRecDepth 20000 in
theorem tm_769 : (.code yX11_goes cX11_goes 3 (some .int) : Cond) ∈ lw_tbl := z_tbI3 _ (List.mem_of_getElem? (i := 40) rfl)
set_option maxRecDepth 20000 in
theorem tm_770 : (.fieldLink RX11 160 "EachOnHisCue$Saying" "leaps" "I" : Cond) ∈ lw_tbl := z_tbI1 _ (List.mem_of_getElem? (i := 51) rfl)
set_option maxRecDepth 20000 in
theorem tm_771 : (.methodLink RX11 163 yX2_wentAsWritten : Cond) ∈ lw_tbl := z_tbI3 _ (List.mem_of_getElem? (i := 41) rfl)
set_option maxRecDepth 20000 in
theorem tm_772 : (.instanceMethod yX2_wentAsWritten : Cond) ∈ lw_tbl := z_tbI3 _ (List.mem_of_getElem? (i := 42) rfl)
set_option maxRecDepth 20000 in
theorem tm_773 : (.selects RX2 yX2_wentAsWritten yX2_wentAsWritten : Cond) ∈ lw_tbl := z_tbI3 _ (List.mem_of_getElem? (i := 43) rfl)
set_option maxRecDepth 20000 in
theorem vo_in_X11_goes : ∀ w ∈ .code yX11_goes cX11_goes 3 (some .int) :: voX11_goes, w ∈ lw_tbl := z_fc tm_769 <| z_fc tm_726 <| z_fc tm_757 <| z_fc tm_752 <| z_fc tm_753 <| z_fc tm_764 <| z_fc tm_770 <| z_fc tm_729 <| z_fc tm_719 <| z_fc tm_720 <| z_fc tm_721 <| z_fc tm_15 <| z_fc tm_754 <| z_fc tm_593 <| z_fc tm_594 <| z_fc tm_306 <| z_fc tm_766 <| z_fc tm_767 <| z_fc tm_768 <| z_fc tm_564 <| z_fc tm_771 <| z_fc tm_772 <| z_fc tm_773 <| z_fn
theorem vi_X11_goes : ∀ w ∈ vsX11_goes, w ∈ lw_tbl := List.forall_mem_cons.mpr ⟨vo_in_X11_goes _ (List.mem_cons_self ..), List.forall_mem_append.mpr ⟨(fun _ h => vo_in_X11_goes _ (List.mem_cons_of_mem _ h)), List.forall_mem_append.mpr ⟨vi_X11_refuse, List.forall_mem_append.mpr ⟨vi_X5_weave, List.forall_mem_append.mpr ⟨vi_X2_go, List.forall_mem_append.mpr ⟨vi_X2_wentAsWritten, List.forall_mem_append.mpr ⟨vsLc_in_2, List.forall_mem_append.mpr ⟨vsLc_in_7, List.forall_mem_append.mpr ⟨vsLc_in_9, vsLc_in_11⟩⟩⟩⟩⟩⟩⟩⟩⟩
set_option maxRecDepth 20000 in
theorem tm_774 : (.code yX11_follow cX11_follow 2 (some .int) : Cond) ∈ lw_tbl := z_tbI3 _ (List.mem_of_getElem? (i := 48) rfl)
set_option maxRecDepth 20000 in
theorem tm_775 : (.fieldLink RX11 171 "EachOnHisCue$Net" "after" "[I" : Cond) ∈ lw_tbl := z_tbI1 _ (List.mem_of_getElem? (i := 132) rfl)
set_option maxRecDepth 20000 in
theorem tm_776 : (.methodLink RX11 167 yX5_weaveWithoutSick : Cond) ∈ lw_tbl := z_tbI3 _ (List.mem_of_getElem? (i := 49) rfl)
set_option maxRecDepth 20000 in
theorem tm_777 : (.instanceMethod yX5_weaveWithoutSick : Cond) ∈ lw_tbl := z_tbI3 _ (List.mem_of_getElem? (i := 50) rfl)
set_option maxRecDepth 20000 in
theorem tm_778 : (.selects RX5 yX5_weaveWithoutSick yX5_weaveWithoutSick : Cond) ∈ lw_tbl := z_tbI3 _ (List.mem_of_getElem? (i := 51) rfl)
set_option maxRecDepth 20000 in
theorem vo_in_X11_follow : ∀ w ∈ .code yX11_follow cX11_follow 2 (some .int) :: voX11_follow, w ∈ lw_tbl := z_fc tm_774 <| z_fc tm_726 <| z_fc tm_752 <| z_fc tm_775 <| z_fc tm_745 <| z_fc tm_513 <| z_fc tm_514 <| z_fc tm_284 <| z_fc tm_776 <| z_fc tm_777 <| z_fc tm_778 <| z_fc tm_306 <| z_fc tm_719 <| z_fc tm_720 <| z_fc tm_721 <| z_fc tm_15 <| z_fn
theorem vi_X11_follow : ∀ w ∈ vsX11_follow, w ∈ lw_tbl := List.forall_mem_cons.mpr ⟨vo_in_X11_follow _ (List.mem_cons_self ..), List.forall_mem_append.mpr ⟨(fun _ h => vo_in_X11_follow _ (List.mem_cons_of_mem _ h)), List.forall_mem_append.mpr ⟨vi_X7_hasLine, List.forall_mem_append.mpr ⟨vi_X5_weaveWithoutSick, List.forall_mem_append.mpr ⟨vi_X11_refuse, List.forall_mem_append.mpr ⟨vsLc_in_5, vsLc_in_11⟩⟩⟩⟩⟩⟩
set_option maxRecDepth 20000 in
theorem tm_779 : (.code yX11_net cX11_net 2 (some .int) : Cond) ∈ lw_tbl := z_tbI3 _ (List.mem_of_getElem? (i := 62) rfl)
set_option maxRecDepth 20000 in
theorem tm_780 : (.methodLink RX11 185 yX5_isSure : Cond) ∈ lw_tbl := z_tbI3 _ (List.mem_of_getElem? (i := 81) rfl)
set_option maxRecDepth 20000 in
theorem tm_781 : (.instanceMethod yX5_isSure : Cond) ∈ lw_tbl := z_tbI3 _ (List.mem_of_getElem? (i := 82) rfl)
set_option maxRecDepth 20000 in
theorem tm_782 : (.selects RX5 yX5_isSure yX5_isSure : Cond) ∈ lw_tbl := z_tbI3 _ (List.mem_of_getElem? (i := 83) rfl)
set_option maxRecDepth 20000 in
theorem tm_783 : (.methodLink RX11 174 yX5_reachedFrom : Cond) ∈ lw_tbl := z_tbI3 _ (List.mem_of_getElem? (i := 63) rfl)
set_option maxRecDepth 20000 in
theorem tm_784 : (.methodLink RX11 177 yX5_fewestSteps : Cond) ∈ lw_tbl := z_tbI3 _ (List.mem_of_getElem? (i := 72) rfl)
set_option maxRecDepth 20000 in
theorem tm_785 : (.instanceMethod yX5_fewestSteps : Cond) ∈ lw_tbl := z_tbI3 _ (List.mem_of_getElem? (i := 73) rfl)
set_option maxRecDepth 20000 in
theorem tm_786 : (.selects RX5 yX5_fewestSteps yX5_fewestSteps : Cond) ∈ lw_tbl := z_tbI3 _ (List.mem_of_getElem? (i := 74) rfl)
set_option maxRecDepth 20000 in
theorem tm_787 : (.methodLink RX11 181 yX5_hasRound : Cond) ∈ lw_tbl := z_tbI3 _ (List.mem_of_getElem? (i := 76) rfl)
set_option maxRecDepth 20000 in
theorem tm_788 : (.instanceMethod yX5_hasRound : Cond) ∈ lw_tbl := z_tbI3 _ (List.mem_of_getElem? (i := 77) rfl)
set_option maxRecDepth 20000 in
theorem tm_789 : (.selects RX5 yX5_hasRound yX5_hasRound : Cond) ∈ lw_tbl := z_tbI3 _ (List.mem_of_getElem? (i := 78) rfl)
set_option maxRecDepth 20000 in
theorem vo_in_X11_net : ∀ w ∈ .code yX11_net cX11_net 2 (some .int) :: voX11_net, w ∈ lw_tbl := z_fc tm_779 <| z_fc tm_726 <| z_fc tm_757 <| z_fc tm_752 <| z_fc tm_719 <| z_fc tm_720 <| z_fc tm_721 <| z_fc tm_15 <| z_fc tm_776 <| z_fc tm_777 <| z_fc tm_778 <| z_fc tm_306 <| z_fc tm_780 <| z_fc tm_781 <| z_fc tm_782 <| z_fc tm_783 <| z_fc tm_310 <| z_fc tm_311 <| z_fc tm_784 <| z_fc tm_785 <| z_fc tm_786 <| z_fc tm_787 <| z_fc tm_788 <| z_fc tm_789 <| z_fn
theorem vi_X11_net : ∀ w ∈ vsX11_net, w ∈ lw_tbl := List.forall_mem_cons.mpr ⟨vo_in_X11_net _ (List.mem_cons_self ..), List.forall_mem_append.mpr ⟨(fun _ h => vo_in_X11_net _ (List.mem_cons_of_mem _ h)), List.forall_mem_append.mpr ⟨vi_X11_refuse, List.forall_mem_append.mpr ⟨vi_X5_weaveWithoutSick, List.forall_mem_append.mpr ⟨vi_X5_isSure, List.forall_mem_append.mpr ⟨vi_X5_reachedFrom, List.forall_mem_append.mpr ⟨vi_X5_fewestSteps, List.forall_mem_append.mpr ⟨vi_X5_hasRound, List.forall_mem_append.mpr ⟨vsLc_in_7, vsLc_in_11⟩⟩⟩⟩⟩⟩⟩⟩⟩
set_option maxRecDepth 20000 in
theorem tm_790 : (.code yX11_mend cX11_mend 4 (some .int) : Cond) ∈ lw_tbl := z_tbI3 _ (List.mem_of_getElem? (i := 88) rfl)
set_option maxRecDepth 20000 in
theorem tm_791 : (.methodLink RX11 188 yX7_wordsToMend : Cond) ∈ lw_tbl := z_tbI3 _ (List.mem_of_getElem? (i := 89) rfl)
set_option maxRecDepth 20000 in
theorem tm_792 : (.instanceMethod yX7_wordsToMend : Cond) ∈ lw_tbl := z_tbI3 _ (List.mem_of_getElem? (i := 90) rfl)
set_option maxRecDepth 20000 in
theorem tm_793 : (.selects RX7 yX7_wordsToMend yX7_wordsToMend : Cond) ∈ lw_tbl := z_tbI3 _ (List.mem_of_getElem? (i := 91) rfl)
set_option maxRecDepth 20000 in
theorem vo_in_X11_mend : ∀ w ∈ .code yX11_mend cX11_mend 4 (some .int) :: voX11_mend, w ∈ lw_tbl := z_fc tm_790 <| z_fc tm_726 <| z_fc tm_757 <| z_fc tm_791 <| z_fc tm_792 <| z_fc tm_793 <| z_fc tm_284 <| z_fc tm_719 <| z_fc tm_720 <| z_fc tm_721 <| z_fc tm_15 <| z_fn
theorem vi_X11_mend : ∀ w ∈ vsX11_mend, w ∈ lw_tbl := List.forall_mem_cons.mpr ⟨vo_in_X11_mend _ (List.mem_cons_self ..), List.forall_mem_append.mpr ⟨(fun _ h => vo_in_X11_mend _ (List.mem_cons_of_mem _ h)), List.forall_mem_append.mpr ⟨vi_X7_wordsToMend, List.forall_mem_append.mpr ⟨vi_X11_refuse, List.forall_mem_append.mpr ⟨vsLc_in_7, vsLc_in_11⟩⟩⟩⟩⟩
set_option maxRecDepth 20000 in
theorem tm_794 : (.code yX11_mendOf cX11_mendOf 2 (some .int) : Cond) ∈ lw_tbl := z_tbI3 _ (List.mem_of_getElem? (i := 103) rfl)
set_option maxRecDepth 20000 in
theorem vo_in_X11_mendOf : ∀ w ∈ .code yX11_mendOf cX11_mendOf 2 (some .int) :: voX11_mendOf, w ∈ lw_tbl := z_fc tm_794 <| z_fc tm_726 <| z_fc tm_745 <| z_fc tm_513 <| z_fc tm_514 <| z_fc tm_284 <| z_fc tm_791 <| z_fc tm_792 <| z_fc tm_793 <| z_fc tm_719 <| z_fc tm_720 <| z_fc tm_721 <| z_fc tm_15 <| z_fn
theorem vi_X11_mendOf : ∀ w ∈ vsX11_mendOf, w ∈ lw_tbl := List.forall_mem_cons.mpr ⟨vo_in_X11_mendOf _ (List.mem_cons_self ..), List.forall_mem_append.mpr ⟨(fun _ h => vo_in_X11_mendOf _ (List.mem_cons_of_mem _ h)), List.forall_mem_append.mpr ⟨vi_X7_hasLine, List.forall_mem_append.mpr ⟨vi_X7_wordsToMend, List.forall_mem_append.mpr ⟨vi_X11_refuse, vsLc_in_11⟩⟩⟩⟩⟩
set_option maxRecDepth 20000 in
theorem tm_795 : (.code yX11_prompted cX11_prompted 1 (some .int) : Cond) ∈ lw_tbl := z_tbI3 _ (List.mem_of_getElem? (i := 107) rfl)
set_option maxRecDepth 20000 in
theorem tm_796 : (.methodLink RX11 191 yX2_timesToPrompt : Cond) ∈ lw_tbl := z_tbI3 _ (List.mem_of_getElem? (i := 108) rfl)
set_option maxRecDepth 20000 in
theorem tm_797 : (.instanceMethod yX2_timesToPrompt : Cond) ∈ lw_tbl := z_tbI3 _ (List.mem_of_getElem? (i := 109) rfl)
set_option maxRecDepth 20000 in
theorem tm_798 : (.selects RX2 yX2_timesToPrompt yX2_timesToPrompt : Cond) ∈ lw_tbl := z_tbI3 _ (List.mem_of_getElem? (i := 110) rfl)
set_option maxRecDepth 20000 in
theorem vo_in_X11_prompted : ∀ w ∈ .code yX11_prompted cX11_prompted 1 (some .int) :: voX11_prompted, w ∈ lw_tbl := z_fc tm_795 <| z_fc tm_726 <| z_fc tm_757 <| z_fc tm_752 <| z_fc tm_753 <| z_fc tm_754 <| z_fc tm_593 <| z_fc tm_594 <| z_fc tm_306 <| z_fc tm_796 <| z_fc tm_797 <| z_fc tm_798 <| z_fc tm_564 <| z_fc tm_719 <| z_fc tm_720 <| z_fc tm_721 <| z_fc tm_15 <| z_fn
theorem vi_X11_prompted : ∀ w ∈ vsX11_prompted, w ∈ lw_tbl := List.forall_mem_cons.mpr ⟨vo_in_X11_prompted _ (List.mem_cons_self ..), List.forall_mem_append.mpr ⟨(fun _ h => vo_in_X11_prompted _ (List.mem_cons_of_mem _ h)), List.forall_mem_append.mpr ⟨vi_X5_weave, List.forall_mem_append.mpr ⟨vi_X2_timesToPrompt, List.forall_mem_append.mpr ⟨vi_X11_refuse, List.forall_mem_append.mpr ⟨vsLc_in_7, vsLc_in_11⟩⟩⟩⟩⟩⟩
set_option maxRecDepth 20000 in
theorem tm_799 : (.code yX11_home cX11_home 4 (some .long) : Cond) ∈ lw_tbl := z_tbI3 _ (List.mem_of_getElem? (i := 115) rfl)
set_option maxRecDepth 20000 in
theorem tm_800 : (.constantLong RX11 194 (4000000000000000000) : Cond) ∈ lw_tbl := z_tbI3 _ (List.mem_of_getElem? (i := 116) rfl)
set_option maxRecDepth 20000 in
theorem tm_801 : (.methodLink RX11 196 yX11_greatestDivisor : Cond) ∈ lw_tbl := z_tbI3 _ (List.mem_of_getElem? (i := 117) rfl)
set_option maxRecDepth 20000 in
theorem tm_802 : (.static yX11_greatestDivisor : Cond) ∈ lw_tbl := z_tbI3 _ (List.mem_of_getElem? (i := 118) rfl)
set_option maxRecDepth 20000 in
theorem tm_803 : (.methodLink RX11 199 yX11_power : Cond) ∈ lw_tbl := z_tbI3 _ (List.mem_of_getElem? (i := 121) rfl)
set_option maxRecDepth 20000 in
theorem tm_804 : (.static yX11_power : Cond) ∈ lw_tbl := z_tbI3 _ (List.mem_of_getElem? (i := 122) rfl)
set_option maxRecDepth 20000 in
theorem vo_in_X11_home : ∀ w ∈ .code yX11_home cX11_home 4 (some .long) :: voX11_home, w ∈ lw_tbl := z_fc tm_799 <| z_fc tm_800 <| z_fc tm_726 <| z_fc tm_757 <| z_fc tm_752 <| z_fc tm_753 <| z_fc tm_750 <| z_fc tm_719 <| z_fc tm_720 <| z_fc tm_721 <| z_fc tm_15 <| z_fc tm_754 <| z_fc tm_593 <| z_fc tm_594 <| z_fc tm_306 <| z_fc tm_766 <| z_fc tm_767 <| z_fc tm_768 <| z_fc tm_564 <| z_fc tm_771 <| z_fc tm_772 <| z_fc tm_773 <| z_fc tm_801 <| z_fc tm_802 <| z_fc tm_803 <| z_fc tm_804 <| z_fn
theorem vi_X11_home : ∀ w ∈ vsX11_home, w ∈ lw_tbl := List.forall_mem_cons.mpr ⟨vo_in_X11_home _ (List.mem_cons_self ..), List.forall_mem_append.mpr ⟨(fun _ h => vo_in_X11_home _ (List.mem_cons_of_mem _ h)), List.forall_mem_append.mpr ⟨vi_X11_refuse, List.forall_mem_append.mpr ⟨vi_X5_weave, List.forall_mem_append.mpr ⟨vi_X2_go, List.forall_mem_append.mpr ⟨vi_X2_wentAsWritten, List.forall_mem_append.mpr ⟨vi_X11_greatestDivisor, List.forall_mem_append.mpr ⟨vi_X11_power, List.forall_mem_append.mpr ⟨vsLc_in_7, vsLc_in_11⟩⟩⟩⟩⟩⟩⟩⟩⟩
set_option maxRecDepth 20000 in
theorem tm_805 : (.code yX11_without cX11_without 2 (some .int) : Cond) ∈ lw_tbl := z_tbI3 _ (List.mem_of_getElem? (i := 127) rfl)
set_option maxRecDepth 20000 in
theorem vo_in_X11_without : ∀ w ∈ .code yX11_without cX11_without 2 (some .int) :: voX11_without, w ∈ lw_tbl := z_fc tm_805 <| z_fc tm_726 <| z_fc tm_757 <| z_fc tm_752 <| z_fc tm_753 <| z_fc tm_730 <| z_fc tm_467 <| z_fc tm_468 <| z_fc tm_284 <| z_fc tm_754 <| z_fc tm_593 <| z_fc tm_594 <| z_fc tm_306 <| z_fc tm_766 <| z_fc tm_767 <| z_fc tm_768 <| z_fc tm_564 <| z_fc tm_719 <| z_fc tm_720 <| z_fc tm_721 <| z_fc tm_15 <| z_fn
theorem vi_X11_without : ∀ w ∈ vsX11_without, w ∈ lw_tbl := List.forall_mem_cons.mpr ⟨vo_in_X11_without _ (List.mem_cons_self ..), List.forall_mem_append.mpr ⟨(fun _ h => vo_in_X11_without _ (List.mem_cons_of_mem _ h)), List.forall_mem_append.mpr ⟨vi_X7_hasPlayer, List.forall_mem_append.mpr ⟨vi_X5_weave, List.forall_mem_append.mpr ⟨vi_X2_go, List.forall_mem_append.mpr ⟨vi_X11_refuse, List.forall_mem_append.mpr ⟨vsLc_in_7, vsLc_in_11⟩⟩⟩⟩⟩⟩⟩
set_option maxRecDepth 20000 in
theorem tm_806 : (.code yX11_leastHarm cX11_leastHarm 5 (some .int) : Cond) ∈ lw_tbl := z_tbI3 _ (List.mem_of_getElem? (i := 131) rfl)
set_option maxRecDepth 20000 in
theorem tm_807 : (.fieldLink RX11 203 "EachOnHisCue$Play" "players" "I" : Cond) ∈ lw_tbl := z_tbI1 _ (List.mem_of_getElem? (i := 72) rfl)
set_option maxRecDepth 20000 in
theorem vo_in_X11_leastHarm : ∀ w ∈ .code yX11_leastHarm cX11_leastHarm 5 (some .int) :: voX11_leastHarm, w ∈ lw_tbl := z_fc tm_806 <| z_fc tm_726 <| z_fc tm_757 <| z_fc tm_752 <| z_fc tm_807 <| z_fc tm_753 <| z_fc tm_754 <| z_fc tm_593 <| z_fc tm_594 <| z_fc tm_306 <| z_fc tm_766 <| z_fc tm_767 <| z_fc tm_768 <| z_fc tm_564 <| z_fc tm_719 <| z_fc tm_720 <| z_fc tm_721 <| z_fc tm_15 <| z_fn
theorem vi_X11_leastHarm : ∀ w ∈ vsX11_leastHarm, w ∈ lw_tbl := List.forall_mem_cons.mpr ⟨vo_in_X11_leastHarm _ (List.mem_cons_self ..), List.forall_mem_append.mpr ⟨(fun _ h => vo_in_X11_leastHarm _ (List.mem_cons_of_mem _ h)), List.forall_mem_append.mpr ⟨vi_X5_weave, List.forall_mem_append.mpr ⟨vi_X2_go, List.forall_mem_append.mpr ⟨vi_X11_refuse, List.forall_mem_append.mpr ⟨vsLc_in_7, vsLc_in_11⟩⟩⟩⟩⟩⟩
set_option maxRecDepth 20000 in
theorem tm_808 : (.code yX11_joke cX11_joke 3 (some .int) : Cond) ∈ lw_tbl := z_tbI3 _ (List.mem_of_getElem? (i := 135) rfl)
set_option maxRecDepth 20000 in
theorem tm_809 : (.methodLink RX11 206 yX5_putIn : Cond) ∈ lw_tbl := z_tbI3 _ (List.mem_of_getElem? (i := 136) rfl)
set_option maxRecDepth 20000 in
theorem tm_810 : (.instanceMethod yX5_putIn : Cond) ∈ lw_tbl := z_tbI3 _ (List.mem_of_getElem? (i := 137) rfl)
set_option maxRecDepth 20000 in
theorem tm_811 : (.selects RX5 yX5_putIn yX5_putIn : Cond) ∈ lw_tbl := z_tbI3 _ (List.mem_of_getElem? (i := 138) rfl)
set_option maxRecDepth 20000 in
theorem vo_in_X11_joke : ∀ w ∈ .code yX11_joke cX11_joke 3 (some .int) :: voX11_joke, w ∈ lw_tbl := z_fc tm_808 <| z_fc tm_726 <| z_fc tm_741 <| z_fc tm_752 <| z_fc tm_753 <| z_fc tm_745 <| z_fc tm_513 <| z_fc tm_514 <| z_fc tm_284 <| z_fc tm_719 <| z_fc tm_720 <| z_fc tm_721 <| z_fc tm_15 <| z_fc tm_754 <| z_fc tm_593 <| z_fc tm_594 <| z_fc tm_306 <| z_fc tm_809 <| z_fc tm_810 <| z_fc tm_811 <| z_fc tm_766 <| z_fc tm_767 <| z_fc tm_768 <| z_fc tm_564 <| z_fn
theorem vi_X11_joke : ∀ w ∈ vsX11_joke, w ∈ lw_tbl := List.forall_mem_cons.mpr ⟨vo_in_X11_joke _ (List.mem_cons_self ..), List.forall_mem_append.mpr ⟨(fun _ h => vo_in_X11_joke _ (List.mem_cons_of_mem _ h)), List.forall_mem_append.mpr ⟨vi_X7_hasLine, List.forall_mem_append.mpr ⟨vi_X11_refuse, List.forall_mem_append.mpr ⟨vi_X5_weave, List.forall_mem_append.mpr ⟨vi_X5_putIn, List.forall_mem_append.mpr ⟨vi_X2_go, List.forall_mem_append.mpr ⟨vsLc_in_7, vsLc_in_11⟩⟩⟩⟩⟩⟩⟩⟩
set_option maxRecDepth 20000 in
theorem tm_812 : (.code yX11_stretched cX11_stretched 2 (some .int) : Cond) ∈ lw_tbl := z_tbI3 _ (List.mem_of_getElem? (i := 143) rfl)
set_option maxRecDepth 20000 in
theorem vo_in_X11_stretched : ∀ w ∈ .code yX11_stretched cX11_stretched 2 (some .int) :: voX11_stretched, w ∈ lw_tbl := z_fc tm_812 <| z_fc tm_726 <| z_fc tm_757 <| z_fc tm_752 <| z_fc tm_753 <| z_fc tm_754 <| z_fc tm_593 <| z_fc tm_594 <| z_fc tm_306 <| z_fc tm_766 <| z_fc tm_767 <| z_fc tm_768 <| z_fc tm_564 <| z_fc tm_719 <| z_fc tm_720 <| z_fc tm_721 <| z_fc tm_15 <| z_fn
theorem vi_X11_stretched : ∀ w ∈ vsX11_stretched, w ∈ lw_tbl := List.forall_mem_cons.mpr ⟨vo_in_X11_stretched _ (List.mem_cons_self ..), List.forall_mem_append.mpr ⟨(fun _ h => vo_in_X11_stretched _ (List.mem_cons_of_mem _ h)), List.forall_mem_append.mpr ⟨vi_X5_weave, List.forall_mem_append.mpr ⟨vi_X2_go, List.forall_mem_append.mpr ⟨vi_X11_refuse, List.forall_mem_append.mpr ⟨vsLc_in_7, vsLc_in_11⟩⟩⟩⟩⟩⟩
set_option maxRecDepth 20000 in
theorem tm_813 : (.code yX11_parts cX11_parts 3 (some .int) : Cond) ∈ lw_tbl := z_tbI3 _ (List.mem_of_getElem? (i := 147) rfl)
set_option maxRecDepth 20000 in
theorem tm_814 : (.methodLink RX11 213 Lib.Math.max.name : Cond) ∈ lw_tbl := z_tbI3 _ (List.mem_of_getElem? (i := 154) rfl)
set_option maxRecDepth 20000 in
theorem tm_815 : (.methodLink RX11 210 yX7_onStage : Cond) ∈ lw_tbl := z_tbI3 _ (List.mem_of_getElem? (i := 148) rfl)
set_option maxRecDepth 20000 in
theorem tm_816 : (.instanceMethod yX7_onStage : Cond) ∈ lw_tbl := z_tbI3 _ (List.mem_of_getElem? (i := 149) rfl)
set_option maxRecDepth 20000 in
theorem tm_817 : (.selects RX7 yX7_onStage yX7_onStage : Cond) ∈ lw_tbl := z_tbI3 _ (List.mem_of_getElem? (i := 150) rfl)
set_option maxRecDepth 20000 in
theorem vo_in_X11_parts : ∀ w ∈ .code yX11_parts cX11_parts 3 (some .int) :: voX11_parts, w ∈ lw_tbl := z_fc tm_813 <| z_fc tm_726 <| z_fc tm_757 <| z_fc tm_814 <| z_fc tm_288 <| z_fc tm_220 <| z_fc tm_289 <| z_fc tm_815 <| z_fc tm_816 <| z_fc tm_817 <| z_fc tm_284 <| z_fn
theorem vi_X11_parts : ∀ w ∈ vsX11_parts, w ∈ lw_tbl := List.forall_mem_cons.mpr ⟨vo_in_X11_parts _ (List.mem_cons_self ..), List.forall_mem_append.mpr ⟨(fun _ h => vo_in_X11_parts _ (List.mem_cons_of_mem _ h)), List.forall_mem_append.mpr ⟨vi_X7_onStage, List.forall_mem_append.mpr ⟨vsLc_in_7, vsLc_in_11⟩⟩⟩⟩
set_option maxRecDepth 20000 in
theorem tm_818 : (.code yX11_books cX11_books 1 (some .int) : Cond) ∈ lw_tbl := z_tbI3 _ (List.mem_of_getElem? (i := 158) rfl)
set_option maxRecDepth 20000 in
theorem tm_819 : (.methodLink RX11 218 yX5_orders : Cond) ∈ lw_tbl := z_tbI3 _ (List.mem_of_getElem? (i := 159) rfl)
set_option maxRecDepth 20000 in
theorem tm_820 : (.instanceMethod yX5_orders : Cond) ∈ lw_tbl := z_tbI3 _ (List.mem_of_getElem? (i := 160) rfl)
set_option maxRecDepth 20000 in
theorem tm_821 : (.selects RX5 yX5_orders yX5_orders : Cond) ∈ lw_tbl := z_tbI3 _ (List.mem_of_getElem? (i := 161) rfl)
set_option maxRecDepth 20000 in
theorem vo_in_X11_books : ∀ w ∈ .code yX11_books cX11_books 1 (some .int) :: voX11_books, w ∈ lw_tbl := z_fc tm_818 <| z_fc tm_726 <| z_fc tm_757 <| z_fc tm_752 <| z_fc tm_754 <| z_fc tm_593 <| z_fc tm_594 <| z_fc tm_306 <| z_fc tm_819 <| z_fc tm_820 <| z_fc tm_821 <| z_fc tm_719 <| z_fc tm_720 <| z_fc tm_721 <| z_fc tm_15 <| z_fn
theorem vi_X11_books : ∀ w ∈ vsX11_books, w ∈ lw_tbl := List.forall_mem_cons.mpr ⟨vo_in_X11_books _ (List.mem_cons_self ..), List.forall_mem_append.mpr ⟨(fun _ h => vo_in_X11_books _ (List.mem_cons_of_mem _ h)), List.forall_mem_append.mpr ⟨vi_X5_weave, List.forall_mem_append.mpr ⟨vi_X5_orders, List.forall_mem_append.mpr ⟨vi_X11_refuse, List.forall_mem_append.mpr ⟨vsLc_in_7, vsLc_in_11⟩⟩⟩⟩⟩⟩
set_option maxRecDepth 20000 in
theorem tm_822 : (.code yX11_book cX11_book 3 (some .int) : Cond) ∈ lw_tbl := z_tbI3 _ (List.mem_of_getElem? (i := 173) rfl)
set_option maxRecDepth 20000 in
theorem tm_823 : (.methodLink RX11 221 yX5_lineOfOrder : Cond) ∈ lw_tbl := z_tbI3 _ (List.mem_of_getElem? (i := 174) rfl)
set_option maxRecDepth 20000 in
theorem tm_824 : (.instanceMethod yX5_lineOfOrder : Cond) ∈ lw_tbl := z_tbI3 _ (List.mem_of_getElem? (i := 175) rfl)
set_option maxRecDepth 20000 in
theorem tm_825 : (.selects RX5 yX5_lineOfOrder yX5_lineOfOrder : Cond) ∈ lw_tbl := z_tbI3 _ (List.mem_of_getElem? (i := 176) rfl)
set_option maxRecDepth 20000 in
theorem vo_in_X11_book : ∀ w ∈ .code yX11_book cX11_book 3 (some .int) :: voX11_book, w ∈ lw_tbl := z_fc tm_822 <| z_fc tm_726 <| z_fc tm_757 <| z_fc tm_752 <| z_fc tm_719 <| z_fc tm_720 <| z_fc tm_721 <| z_fc tm_15 <| z_fc tm_754 <| z_fc tm_593 <| z_fc tm_594 <| z_fc tm_306 <| z_fc tm_819 <| z_fc tm_820 <| z_fc tm_821 <| z_fc tm_823 <| z_fc tm_824 <| z_fc tm_825 <| z_fn
theorem vi_X11_book : ∀ w ∈ vsX11_book, w ∈ lw_tbl := List.forall_mem_cons.mpr ⟨vo_in_X11_book _ (List.mem_cons_self ..), List.forall_mem_append.mpr ⟨(fun _ h => vo_in_X11_book _ (List.mem_cons_of_mem _ h)), List.forall_mem_append.mpr ⟨vi_X11_refuse, List.forall_mem_append.mpr ⟨vi_X5_weave, List.forall_mem_append.mpr ⟨vi_X5_orders, List.forall_mem_append.mpr ⟨vi_X5_lineOfOrder, List.forall_mem_append.mpr ⟨vsLc_in_7, vsLc_in_11⟩⟩⟩⟩⟩⟩⟩
set_option maxRecDepth 20000 in
theorem tm_826 : (.code yX11_row cX11_row 2 (some .int) : Cond) ∈ lw_tbl := z_tbI3 _ (List.mem_of_getElem? (i := 181) rfl)
set_option maxRecDepth 20000 in
theorem tm_827 : (.fieldLink RX11 46 "EachOnHisCue" "toldSize" "I" : Cond) ∈ lw_tbl := z_tbI1 _ (List.mem_of_getElem? (i := 175) rfl)
set_option maxRecDepth 20000 in
theorem tm_828 : (.fieldLink RX11 42 "EachOnHisCue" "told" "[I" : Cond) ∈ lw_tbl := z_tbI1 _ (List.mem_of_getElem? (i := 174) rfl)
set_option maxRecDepth 20000 in
theorem vo_in_X11_row : ∀ w ∈ .code yX11_row cX11_row 2 (some .int) :: voX11_row, w ∈ lw_tbl := z_fc tm_826 <| z_fc tm_827 <| z_fc tm_828 <| z_fc tm_719 <| z_fc tm_720 <| z_fc tm_721 <| z_fc tm_15 <| z_fn
theorem vi_X11_row : ∀ w ∈ vsX11_row, w ∈ lw_tbl := List.forall_mem_cons.mpr ⟨vo_in_X11_row _ (List.mem_cons_self ..), List.forall_mem_append.mpr ⟨(fun _ h => vo_in_X11_row _ (List.mem_cons_of_mem _ h)), List.forall_mem_append.mpr ⟨vi_X11_refuse, vsLc_in_11⟩⟩⟩
set_option maxRecDepth 20000 in
theorem tm_829 : (.code yX11_judge cX11_judge 1 (some .int) : Cond) ∈ lw_tbl := z_tbI3 _ (List.mem_of_getElem? (i := 185) rfl)
set_option maxRecDepth 20000 in
theorem tm_830 : (.methodLink RX11 224 yX2_firstOtherThanSaid : Cond) ∈ lw_tbl := z_tbI3 _ (List.mem_of_getElem? (i := 186) rfl)
set_option maxRecDepth 20000 in
theorem tm_831 : (.instanceMethod yX2_firstOtherThanSaid : Cond) ∈ lw_tbl := z_tbI3 _ (List.mem_of_getElem? (i := 187) rfl)
set_option maxRecDepth 20000 in
theorem tm_832 : (.selects RX2 yX2_firstOtherThanSaid yX2_firstOtherThanSaid : Cond) ∈ lw_tbl := z_tbI3 _ (List.mem_of_getElem? (i := 188) rfl)
set_option maxRecDepth 20000 in
theorem vo_in_X11_judge : ∀ w ∈ .code yX11_judge cX11_judge 1 (some .int) :: voX11_judge, w ∈ lw_tbl := z_fc tm_829 <| z_fc tm_726 <| z_fc tm_757 <| z_fc tm_752 <| z_fc tm_753 <| z_fc tm_828 <| z_fc tm_827 <| z_fc tm_754 <| z_fc tm_593 <| z_fc tm_594 <| z_fc tm_306 <| z_fc tm_830 <| z_fc tm_831 <| z_fc tm_832 <| z_fc tm_564 <| z_fc tm_719 <| z_fc tm_720 <| z_fc tm_721 <| z_fc tm_15 <| z_fn
theorem vi_X11_judge : ∀ w ∈ vsX11_judge, w ∈ lw_tbl := List.forall_mem_cons.mpr ⟨vo_in_X11_judge _ (List.mem_cons_self ..), List.forall_mem_append.mpr ⟨(fun _ h => vo_in_X11_judge _ (List.mem_cons_of_mem _ h)), List.forall_mem_append.mpr ⟨vi_X5_weave, List.forall_mem_append.mpr ⟨vi_X2_firstOtherThanSaid, List.forall_mem_append.mpr ⟨vi_X11_refuse, List.forall_mem_append.mpr ⟨vsLc_in_7, vsLc_in_11⟩⟩⟩⟩⟩⟩
set_option maxRecDepth 20000 in
theorem tm_833 : (.code yX11_possible cX11_possible 2 (some .int) : Cond) ∈ lw_tbl := z_tbI3 _ (List.mem_of_getElem? (i := 193) rfl)
set_option maxRecDepth 20000 in
theorem tm_834 : (.methodLink RX11 228 yX5_firstThatCannotFollow : Cond) ∈ lw_tbl := z_tbI3 _ (List.mem_of_getElem? (i := 194) rfl)
set_option maxRecDepth 20000 in
theorem tm_835 : (.instanceMethod yX5_firstThatCannotFollow : Cond) ∈ lw_tbl := z_tbI3 _ (List.mem_of_getElem? (i := 195) rfl)
set_option maxRecDepth 20000 in
theorem tm_836 : (.selects RX5 yX5_firstThatCannotFollow yX5_firstThatCannotFollow : Cond) ∈ lw_tbl := z_tbI3 _ (List.mem_of_getElem? (i := 196) rfl)
set_option maxRecDepth 20000 in
theorem vo_in_X11_possible : ∀ w ∈ .code yX11_possible cX11_possible 2 (some .int) :: voX11_possible, w ∈ lw_tbl := z_fc tm_833 <| z_fc tm_752 <| z_fc tm_726 <| z_fc tm_828 <| z_fc tm_827 <| z_fc tm_776 <| z_fc tm_777 <| z_fc tm_778 <| z_fc tm_306 <| z_fc tm_834 <| z_fc tm_835 <| z_fc tm_836 <| z_fn
theorem vi_X11_possible : ∀ w ∈ vsX11_possible, w ∈ lw_tbl := List.forall_mem_cons.mpr ⟨vo_in_X11_possible _ (List.mem_cons_self ..), List.forall_mem_append.mpr ⟨(fun _ h => vo_in_X11_possible _ (List.mem_cons_of_mem _ h)), List.forall_mem_append.mpr ⟨vi_X5_weaveWithoutSick, List.forall_mem_append.mpr ⟨vi_X5_firstThatCannotFollow, vsLc_in_11⟩⟩⟩⟩
set_option maxRecDepth 20000 in
theorem tm_837 : (.code yX11_lot cX11_lot 5 (some .int) : Cond) ∈ lw_tbl := z_tbI3 _ (List.mem_of_getElem? (i := 205) rfl)
set_option maxRecDepth 20000 in
theorem tm_838 : (.fieldLink RX11 232 "EachOnHisCue$Evening" "seed" "I" : Cond) ∈ lw_tbl := z_tbI1 _ (List.mem_of_getElem? (i := 146) rfl)
set_option maxRecDepth 20000 in
theorem tm_839 : (.methodLink RX11 235 yX2_goByLot : Cond) ∈ lw_tbl := z_tbI3 _ (List.mem_of_getElem? (i := 206) rfl)
set_option maxRecDepth 20000 in
theorem tm_840 : (.instanceMethod yX2_goByLot : Cond) ∈ lw_tbl := z_tbI3 _ (List.mem_of_getElem? (i := 207) rfl)
set_option maxRecDepth 20000 in
theorem tm_841 : (.selects RX2 yX2_goByLot yX2_goByLot : Cond) ∈ lw_tbl := z_tbI3 _ (List.mem_of_getElem? (i := 208) rfl)
set_option maxRecDepth 20000 in
theorem vo_in_X11_lot : ∀ w ∈ .code yX11_lot cX11_lot 5 (some .int) :: voX11_lot, w ∈ lw_tbl := z_fc tm_837 <| z_fc tm_726 <| z_fc tm_757 <| z_fc tm_752 <| z_fc tm_753 <| z_fc tm_838 <| z_fc tm_754 <| z_fc tm_593 <| z_fc tm_594 <| z_fc tm_306 <| z_fc tm_839 <| z_fc tm_840 <| z_fc tm_841 <| z_fc tm_564 <| z_fc tm_719 <| z_fc tm_720 <| z_fc tm_721 <| z_fc tm_15 <| z_fn
theorem vi_X11_lot : ∀ w ∈ vsX11_lot, w ∈ lw_tbl := List.forall_mem_cons.mpr ⟨vo_in_X11_lot _ (List.mem_cons_self ..), List.forall_mem_append.mpr ⟨(fun _ h => vo_in_X11_lot _ (List.mem_cons_of_mem _ h)), List.forall_mem_append.mpr ⟨vi_X5_weave, List.forall_mem_append.mpr ⟨vi_X2_goByLot, List.forall_mem_append.mpr ⟨vi_X11_refuse, List.forall_mem_append.mpr ⟨vsLc_in_2, List.forall_mem_append.mpr ⟨vsLc_in_7, vsLc_in_11⟩⟩⟩⟩⟩⟩⟩
set_option maxRecDepth 20000 in
theorem tm_842 : (.code yX11_count cX11_count 2 (some .int) : Cond) ∈ lw_tbl := z_tbI4 _ (List.mem_of_getElem? (i := 0) rfl)
set_option maxRecDepth 20000 in
theorem tm_843 : (.methodLink RX11 241 yX7_allWords : Cond) ∈ lw_tbl := z_tbI4 _ (List.mem_of_getElem? (i := 1) rfl)
set_option maxRecDepth 20000 in
theorem tm_844 : (.instanceMethod yX7_allWords : Cond) ∈ lw_tbl := z_tbI4 _ (List.mem_of_getElem? (i := 2) rfl)
set_option maxRecDepth 20000 in
theorem tm_845 : (.selects RX7 yX7_allWords yX7_allWords : Cond) ∈ lw_tbl := z_tbI4 _ (List.mem_of_getElem? (i := 3) rfl)
set_option maxRecDepth 20000 in
theorem vo_in_X11_count : ∀ w ∈ .code yX11_count cX11_count 2 (some .int) :: voX11_count, w ∈ lw_tbl := z_fc tm_842 <| z_fc tm_403 <| z_fc tm_726 <| z_fc tm_807 <| z_fc tm_757 <| z_fc tm_728 <| z_fc tm_761 <| z_fc tm_765 <| z_fc tm_717 <| z_fc tm_718 <| z_fc tm_827 <| z_fc tm_750 <| z_fc tm_843 <| z_fc tm_844 <| z_fc tm_845 <| z_fc tm_284 <| z_fn
theorem vi_X11_count : ∀ w ∈ vsX11_count, w ∈ lw_tbl := List.forall_mem_cons.mpr ⟨vo_in_X11_count _ (List.mem_cons_self ..), List.forall_mem_append.mpr ⟨(fun _ h => vo_in_X11_count _ (List.mem_cons_of_mem _ h)), List.forall_mem_append.mpr ⟨vi_X7_allWords, List.forall_mem_append.mpr ⟨vsLc_in_4, List.forall_mem_append.mpr ⟨vsLc_in_7, List.forall_mem_append.mpr ⟨vsLc_in_9, vsLc_in_11⟩⟩⟩⟩⟩⟩
set_option maxRecDepth 20000 in
theorem tm_846 : (.code yX12_divisor cX12_divisor 10 (some .long) : Cond) ∈ lw_tbl := z_tbI5 _ (List.mem_of_getElem? (i := 119) rfl)
set_option maxRecDepth 20000 in
theorem vo_in_X12_divisor : ∀ w ∈ .code yX12_divisor cX12_divisor 10 (some .long) :: voX12_divisor, w ∈ lw_tbl := z_fc tm_846 <| z_fn
theorem vi_X12_divisor : ∀ w ∈ vsX12_divisor, w ∈ lw_tbl := List.forall_mem_cons.mpr ⟨vo_in_X12_divisor _ (List.mem_cons_self ..), (fun _ h => vo_in_X12_divisor _ (List.mem_cons_of_mem _ h))⟩
set_option maxRecDepth 20000 in
theorem tm_847 : (.code yX12_home cX12_home 7 (some .long) : Cond) ∈ lw_tbl := z_tbI5 _ (List.mem_of_getElem? (i := 110) rfl)
set_option maxRecDepth 20000 in
theorem tm_848 : (.constantLong RX12 248 (100) : Cond) ∈ lw_tbl := z_tbI5 _ (List.mem_of_getElem? (i := 116) rfl)
set_option maxRecDepth 20000 in
theorem tm_849 : (.methodLink RX12 250 yX12_divisor : Cond) ∈ lw_tbl := z_tbI5 _ (List.mem_of_getElem? (i := 117) rfl)
set_option maxRecDepth 20000 in
theorem tm_850 : (.static yX12_divisor : Cond) ∈ lw_tbl := z_tbI5 _ (List.mem_of_getElem? (i := 118) rfl)
set_option maxRecDepth 20000 in
theorem tm_851 : (.methodLink RX12 244 yX12_lowest : Cond) ∈ lw_tbl := z_tbI5 _ (List.mem_of_getElem? (i := 111) rfl)
set_option maxRecDepth 20000 in
theorem tm_852 : (.instanceMethod yX12_lowest : Cond) ∈ lw_tbl := z_tbI5 _ (List.mem_of_getElem? (i := 113) rfl)
set_option maxRecDepth 20000 in
theorem tm_853 : (.selects RX12 yX12_lowest yX12_lowest : Cond) ∈ lw_tbl := z_tbI0 _ (List.mem_of_getElem? (i := 35) (by decide +kernel))
set_option maxRecDepth 20000 in
theorem vo_in_X12_home : ∀ w ∈ .code yX12_home cX12_home 7 (some .long) :: voX12_home, w ∈ lw_tbl := z_fc tm_847 <| z_fc tm_321 <| z_fc tm_425 <| z_fc tm_848 <| z_fc tm_418 <| z_fc tm_419 <| z_fc tm_19 <| z_fc tm_667 <| z_fc tm_668 <| z_fc tm_669 <| z_fc tm_671 <| z_fc tm_672 <| z_fc tm_673 <| z_fc tm_849 <| z_fc tm_850 <| z_fc tm_851 <| z_fc tm_852 <| z_fc tm_853 <| z_fn
theorem vi_X12_home : ∀ w ∈ vsX12_home, w ∈ lw_tbl := List.forall_mem_cons.mpr ⟨vo_in_X12_home _ (List.mem_cons_self ..), List.forall_mem_append.mpr ⟨(fun _ h => vo_in_X12_home _ (List.mem_cons_of_mem _ h)), List.forall_mem_append.mpr ⟨vi_X12_isIn, List.forall_mem_append.mpr ⟨vi_X12_goesNight, List.forall_mem_append.mpr ⟨vi_X12_isWritten, List.forall_mem_append.mpr ⟨vi_X12_divisor, List.forall_mem_append.mpr ⟨vi_X12_lowest, vsLc_in_12⟩⟩⟩⟩⟩⟩⟩
set_option maxRecDepth 20000 in
theorem tm_854 : (.code yX12_reachedFrom cX12_reachedFrom 4 (some .int) : Cond) ∈ lw_tbl := z_tbI5 _ (List.mem_of_getElem? (i := 70) rfl)
set_option maxRecDepth 20000 in
theorem vo_in_X12_reachedFrom : ∀ w ∈ .code yX12_reachedFrom cX12_reachedFrom 4 (some .int) :: voX12_reachedFrom, w ∈ lw_tbl := z_fc tm_854 <| z_fc tm_369 <| z_fc tm_370 <| z_fc tm_371 <| z_fc tm_19 <| z_fn
theorem vi_X12_reachedFrom : ∀ w ∈ vsX12_reachedFrom, w ∈ lw_tbl := List.forall_mem_cons.mpr ⟨vo_in_X12_reachedFrom _ (List.mem_cons_self ..), List.forall_mem_append.mpr ⟨(fun _ h => vo_in_X12_reachedFrom _ (List.mem_cons_of_mem _ h)), vi_X12_stepsFrom⟩⟩
set_option maxRecDepth 20000 in
theorem tm_855 : (.code yX12_isRound cX12_isRound 3 (some .boolean) : Cond) ∈ lw_tbl := z_tbI5 _ (List.mem_of_getElem? (i := 82) rfl)
set_option maxRecDepth 20000 in
theorem tm_856 : (.methodLink RX12 226 yX12_reachedFrom : Cond) ∈ lw_tbl := z_tbI5 _ (List.mem_of_getElem? (i := 67) rfl)
set_option maxRecDepth 20000 in
theorem tm_857 : (.instanceMethod yX12_reachedFrom : Cond) ∈ lw_tbl := z_tbI5 _ (List.mem_of_getElem? (i := 69) rfl)
set_option maxRecDepth 20000 in
theorem tm_858 : (.selects RX12 yX12_reachedFrom yX12_reachedFrom : Cond) ∈ lw_tbl := z_tbI0 _ (List.mem_of_getElem? (i := 28) (by decide +kernel))
set_option maxRecDepth 20000 in
theorem vo_in_X12_isRound : ∀ w ∈ .code yX12_isRound cX12_isRound 3 (some .boolean) :: voX12_isRound, w ∈ lw_tbl := z_fc tm_855 <| z_fc tm_321 <| z_fc tm_856 <| z_fc tm_857 <| z_fc tm_858 <| z_fc tm_19 <| z_fc tm_365 <| z_fc tm_366 <| z_fc tm_367 <| z_fn
theorem vi_X12_isRound : ∀ w ∈ vsX12_isRound, w ∈ lw_tbl := List.forall_mem_cons.mpr ⟨vo_in_X12_isRound _ (List.mem_cons_self ..), List.forall_mem_append.mpr ⟨(fun _ h => vo_in_X12_isRound _ (List.mem_cons_of_mem _ h)), List.forall_mem_append.mpr ⟨vi_X12_reachedFrom, List.forall_mem_append.mpr ⟨vi_X12_followOf, vsLc_in_12⟩⟩⟩⟩
set_option maxRecDepth 20000 in
theorem tm_859 : (.code yX12_net cX12_net 2 (some .int) : Cond) ∈ lw_tbl := z_tbI5 _ (List.mem_of_getElem? (i := 66) rfl)
set_option maxRecDepth 20000 in
theorem tm_860 : (.methodLink RX12 235 yX12_isSure : Cond) ∈ lw_tbl := z_tbI5 _ (List.mem_of_getElem? (i := 83) rfl)
set_option maxRecDepth 20000 in
theorem tm_861 : (.instanceMethod yX12_isSure : Cond) ∈ lw_tbl := z_tbI5 _ (List.mem_of_getElem? (i := 85) rfl)
set_option maxRecDepth 20000 in
theorem tm_862 : (.selects RX12 yX12_isSure yX12_isSure : Cond) ∈ lw_tbl := z_tbI0 _ (List.mem_of_getElem? (i := 32) (by decide +kernel))
set_option maxRecDepth 20000 in
theorem tm_863 : (.methodLink RX12 232 yX12_isRound : Cond) ∈ lw_tbl := z_tbI5 _ (List.mem_of_getElem? (i := 79) rfl)
set_option maxRecDepth 20000 in
theorem tm_864 : (.instanceMethod yX12_isRound : Cond) ∈ lw_tbl := z_tbI5 _ (List.mem_of_getElem? (i := 81) rfl)
set_option maxRecDepth 20000 in
theorem tm_865 : (.selects RX12 yX12_isRound yX12_isRound : Cond) ∈ lw_tbl := z_tbI0 _ (List.mem_of_getElem? (i := 31) (by decide +kernel))
set_option maxRecDepth 20000 in
theorem tm_866 : (.methodLink RX12 229 yX12_shortest : Cond) ∈ lw_tbl := z_tbI5 _ (List.mem_of_getElem? (i := 75) rfl)
set_option maxRecDepth 20000 in
theorem tm_867 : (.instanceMethod yX12_shortest : Cond) ∈ lw_tbl := z_tbI5 _ (List.mem_of_getElem? (i := 77) rfl)
set_option maxRecDepth 20000 in
theorem tm_868 : (.selects RX12 yX12_shortest yX12_shortest : Cond) ∈ lw_tbl := z_tbI0 _ (List.mem_of_getElem? (i := 30) (by decide +kernel))
set_option maxRecDepth 20000 in
theorem vo_in_X12_net : ∀ w ∈ .code yX12_net cX12_net 2 (some .int) :: voX12_net, w ∈ lw_tbl := z_fc tm_859 <| z_fc tm_321 <| z_fc tm_418 <| z_fc tm_419 <| z_fc tm_19 <| z_fc tm_860 <| z_fc tm_861 <| z_fc tm_862 <| z_fc tm_863 <| z_fc tm_864 <| z_fc tm_865 <| z_fc tm_866 <| z_fc tm_867 <| z_fc tm_868 <| z_fc tm_856 <| z_fc tm_857 <| z_fc tm_858 <| z_fc tm_411 <| z_fc tm_412 <| z_fc tm_413 <| z_fn
theorem vi_X12_net : ∀ w ∈ vsX12_net, w ∈ lw_tbl := List.forall_mem_cons.mpr ⟨vo_in_X12_net _ (List.mem_cons_self ..), List.forall_mem_append.mpr ⟨(fun _ h => vo_in_X12_net _ (List.mem_cons_of_mem _ h)), List.forall_mem_append.mpr ⟨vi_X12_isIn, List.forall_mem_append.mpr ⟨vi_X12_isSure, List.forall_mem_append.mpr ⟨vi_X12_isRound, List.forall_mem_append.mpr ⟨vi_X12_shortest, List.forall_mem_append.mpr ⟨vi_X12_reachedFrom, List.forall_mem_append.mpr ⟨vi_X12_no, vsLc_in_12⟩⟩⟩⟩⟩⟩⟩⟩
set_option maxRecDepth 20000 in
theorem tm_869 : (.code yX12_nextOrder cX12_nextOrder 5 (some .boolean) : Cond) ∈ lw_tbl := z_tbI5 _ (List.mem_of_getElem? (i := 167) rfl)
set_option maxRecDepth 20000 in
theorem tm_870 : (.methodLink RX12 260 yX12_changes : Cond) ∈ lw_tbl := z_tbI5 _ (List.mem_of_getElem? (i := 168) rfl)
set_option maxRecDepth 20000 in
theorem tm_871 : (.instanceMethod yX12_changes : Cond) ∈ lw_tbl := z_tbI5 _ (List.mem_of_getElem? (i := 170) rfl)
set_option maxRecDepth 20000 in
theorem tm_872 : (.selects RX12 yX12_changes yX12_changes : Cond) ∈ lw_tbl := z_tbI0 _ (List.mem_of_getElem? (i := 42) (by decide +kernel))
set_option maxRecDepth 20000 in
theorem vo_in_X12_nextOrder : ∀ w ∈ .code yX12_nextOrder cX12_nextOrder 5 (some .boolean) :: voX12_nextOrder, w ∈ lw_tbl := z_fc tm_869 <| z_fc tm_321 <| z_fc tm_452 <| z_fc tm_870 <| z_fc tm_871 <| z_fc tm_872 <| z_fc tm_19 <| z_fn
theorem vi_X12_nextOrder : ∀ w ∈ vsX12_nextOrder, w ∈ lw_tbl := List.forall_mem_cons.mpr ⟨vo_in_X12_nextOrder _ (List.mem_cons_self ..), List.forall_mem_append.mpr ⟨(fun _ h => vo_in_X12_nextOrder _ (List.mem_cons_of_mem _ h)), List.forall_mem_append.mpr ⟨vi_X12_changes, vsLc_in_12⟩⟩⟩
set_option maxRecDepth 20000 in
theorem tm_873 : (.code yX12_findBook cX12_findBook 4 (some .int) : Cond) ∈ lw_tbl := z_tbI5 _ (List.mem_of_getElem? (i := 159) rfl)
set_option maxRecDepth 20000 in
theorem tm_874 : (.methodLink RX12 264 yX12_doesFit : Cond) ∈ lw_tbl := z_tbI5 _ (List.mem_of_getElem? (i := 160) rfl)
set_option maxRecDepth 20000 in
theorem tm_875 : (.instanceMethod yX12_doesFit : Cond) ∈ lw_tbl := z_tbI5 _ (List.mem_of_getElem? (i := 162) rfl)
set_option maxRecDepth 20000 in
theorem tm_876 : (.selects RX12 yX12_doesFit yX12_doesFit : Cond) ∈ lw_tbl := z_tbI0 _ (List.mem_of_getElem? (i := 40) (by decide +kernel))
set_option maxRecDepth 20000 in
theorem tm_877 : (.methodLink RX12 267 yX12_nextOrder : Cond) ∈ lw_tbl := z_tbI5 _ (List.mem_of_getElem? (i := 164) rfl)
set_option maxRecDepth 20000 in
theorem tm_878 : (.instanceMethod yX12_nextOrder : Cond) ∈ lw_tbl := z_tbI5 _ (List.mem_of_getElem? (i := 166) rfl)
set_option maxRecDepth 20000 in
theorem tm_879 : (.selects RX12 yX12_nextOrder yX12_nextOrder : Cond) ∈ lw_tbl := z_tbI0 _ (List.mem_of_getElem? (i := 41) (by decide +kernel))
set_option maxRecDepth 20000 in
theorem vo_in_X12_findBook : ∀ w ∈ .code yX12_findBook cX12_findBook 4 (some .int) :: voX12_findBook, w ∈ lw_tbl := z_fc tm_873 <| z_fc tm_321 <| z_fc tm_452 <| z_fc tm_874 <| z_fc tm_875 <| z_fc tm_876 <| z_fc tm_19 <| z_fc tm_877 <| z_fc tm_878 <| z_fc tm_879 <| z_fn
theorem vi_X12_findBook : ∀ w ∈ vsX12_findBook, w ∈ lw_tbl := List.forall_mem_cons.mpr ⟨vo_in_X12_findBook _ (List.mem_cons_self ..), List.forall_mem_append.mpr ⟨(fun _ h => vo_in_X12_findBook _ (List.mem_cons_of_mem _ h)), List.forall_mem_append.mpr ⟨vi_X12_doesFit, List.forall_mem_append.mpr ⟨vi_X12_nextOrder, vsLc_in_12⟩⟩⟩⟩
set_option maxRecDepth 20000 in
theorem tm_880 : (.code yX12_books cX12_books 2 (some .int) : Cond) ∈ lw_tbl := z_tbI5 _ (List.mem_of_getElem? (i := 151) rfl)
set_option maxRecDepth 20000 in
theorem tm_881 : (.methodLink RX12 270 yX12_notBooks : Cond) ∈ lw_tbl := z_tbI5 _ (List.mem_of_getElem? (i := 152) rfl)
set_option maxRecDepth 20000 in
theorem tm_882 : (.instanceMethod yX12_notBooks : Cond) ∈ lw_tbl := z_tbI5 _ (List.mem_of_getElem? (i := 154) rfl)
set_option maxRecDepth 20000 in
theorem tm_883 : (.selects RX12 yX12_notBooks yX12_notBooks : Cond) ∈ lw_tbl := z_tbI0 _ (List.mem_of_getElem? (i := 38) (by decide +kernel))
set_option maxRecDepth 20000 in
theorem tm_884 : (.methodLink RX12 273 yX12_findBook : Cond) ∈ lw_tbl := z_tbI5 _ (List.mem_of_getElem? (i := 156) rfl)
set_option maxRecDepth 20000 in
theorem tm_885 : (.instanceMethod yX12_findBook : Cond) ∈ lw_tbl := z_tbI5 _ (List.mem_of_getElem? (i := 158) rfl)
set_option maxRecDepth 20000 in
theorem tm_886 : (.selects RX12 yX12_findBook yX12_findBook : Cond) ∈ lw_tbl := z_tbI0 _ (List.mem_of_getElem? (i := 39) (by decide +kernel))
set_option maxRecDepth 20000 in
theorem vo_in_X12_books : ∀ w ∈ .code yX12_books cX12_books 2 (some .int) :: voX12_books, w ∈ lw_tbl := z_fc tm_880 <| z_fc tm_881 <| z_fc tm_882 <| z_fc tm_883 <| z_fc tm_19 <| z_fc tm_884 <| z_fc tm_885 <| z_fc tm_886 <| z_fc tm_411 <| z_fc tm_412 <| z_fc tm_413 <| z_fn
theorem vi_X12_books : ∀ w ∈ vsX12_books, w ∈ lw_tbl := List.forall_mem_cons.mpr ⟨vo_in_X12_books _ (List.mem_cons_self ..), List.forall_mem_append.mpr ⟨(fun _ h => vo_in_X12_books _ (List.mem_cons_of_mem _ h)), List.forall_mem_append.mpr ⟨vi_X12_notBooks, List.forall_mem_append.mpr ⟨vi_X12_findBook, vi_X12_no⟩⟩⟩⟩
set_option maxRecDepth 20000 in
theorem tm_887 : (.code yX12_book cX12_book 4 (some .int) : Cond) ∈ lw_tbl := z_tbI5 _ (List.mem_of_getElem? (i := 175) rfl)
set_option maxRecDepth 20000 in
theorem vo_in_X12_book : ∀ w ∈ .code yX12_book cX12_book 4 (some .int) :: voX12_book, w ∈ lw_tbl := z_fc tm_887 <| z_fc tm_321 <| z_fc tm_452 <| z_fc tm_411 <| z_fc tm_412 <| z_fc tm_413 <| z_fc tm_19 <| z_fc tm_881 <| z_fc tm_882 <| z_fc tm_883 <| z_fc tm_884 <| z_fc tm_885 <| z_fc tm_886 <| z_fn
theorem vi_X12_book : ∀ w ∈ vsX12_book, w ∈ lw_tbl := List.forall_mem_cons.mpr ⟨vo_in_X12_book _ (List.mem_cons_self ..), List.forall_mem_append.mpr ⟨(fun _ h => vo_in_X12_book _ (List.mem_cons_of_mem _ h)), List.forall_mem_append.mpr ⟨vi_X12_no, List.forall_mem_append.mpr ⟨vi_X12_notBooks, List.forall_mem_append.mpr ⟨vi_X12_findBook, vsLc_in_12⟩⟩⟩⟩⟩
set_option maxRecDepth 20000 in
theorem tm_888 : (.code yX12_lotFollower cX12_lotFollower 4 (some .int) : Cond) ∈ lw_tbl := z_tbI5 _ (List.mem_of_getElem? (i := 199) rfl)
set_option maxRecDepth 20000 in
theorem tm_889 : (.methodLink RX12 285 yX12_draw : Cond) ∈ lw_tbl := z_tbI5 _ (List.mem_of_getElem? (i := 200) rfl)
set_option maxRecDepth 20000 in
theorem tm_890 : (.instanceMethod yX12_draw : Cond) ∈ lw_tbl := z_tbI5 _ (List.mem_of_getElem? (i := 202) rfl)
set_option maxRecDepth 20000 in
theorem tm_891 : (.selects RX12 yX12_draw yX12_draw : Cond) ∈ lw_tbl := z_tbI0 _ (List.mem_of_getElem? (i := 45) (by decide +kernel))
set_option maxRecDepth 20000 in
theorem vo_in_X12_lotFollower : ∀ w ∈ .code yX12_lotFollower cX12_lotFollower 4 (some .int) :: voX12_lotFollower, w ∈ lw_tbl := z_fc tm_888 <| z_fc tm_319 <| z_fc tm_436 <| z_fc tm_627 <| z_fc tm_628 <| z_fc tm_629 <| z_fc tm_19 <| z_fc tm_889 <| z_fc tm_890 <| z_fc tm_891 <| z_fn
theorem vi_X12_lotFollower : ∀ w ∈ vsX12_lotFollower, w ∈ lw_tbl := List.forall_mem_cons.mpr ⟨vo_in_X12_lotFollower _ (List.mem_cons_self ..), List.forall_mem_append.mpr ⟨(fun _ h => vo_in_X12_lotFollower _ (List.mem_cons_of_mem _ h)), List.forall_mem_append.mpr ⟨vi_X12_comesWith, List.forall_mem_append.mpr ⟨vi_X12_draw, vsLc_in_12⟩⟩⟩⟩
set_option maxRecDepth 20000 in
theorem tm_892 : (.code yX12_lotOrNone cX12_lotOrNone 1 (some .int) : Cond) ∈ lw_tbl := z_tbI5 _ (List.mem_of_getElem? (i := 195) rfl)
set_option maxRecDepth 20000 in
theorem tm_893 : (.methodLink RX12 291 yX12_lotFollower : Cond) ∈ lw_tbl := z_tbI5 _ (List.mem_of_getElem? (i := 196) rfl)
set_option maxRecDepth 20000 in
theorem tm_894 : (.instanceMethod yX12_lotFollower : Cond) ∈ lw_tbl := z_tbI5 _ (List.mem_of_getElem? (i := 198) rfl)
set_option maxRecDepth 20000 in
theorem tm_895 : (.selects RX12 yX12_lotFollower yX12_lotFollower : Cond) ∈ lw_tbl := z_tbI0 _ (List.mem_of_getElem? (i := 44) (by decide +kernel))
set_option maxRecDepth 20000 in
theorem vo_in_X12_lotOrNone : ∀ w ∈ .code yX12_lotOrNone cX12_lotOrNone 1 (some .int) :: voX12_lotOrNone, w ∈ lw_tbl := z_fc tm_892 <| z_fc tm_437 <| z_fc tm_893 <| z_fc tm_894 <| z_fc tm_895 <| z_fc tm_19 <| z_fn
theorem vi_X12_lotOrNone : ∀ w ∈ vsX12_lotOrNone, w ∈ lw_tbl := List.forall_mem_cons.mpr ⟨vo_in_X12_lotOrNone _ (List.mem_cons_self ..), List.forall_mem_append.mpr ⟨(fun _ h => vo_in_X12_lotOrNone _ (List.mem_cons_of_mem _ h)), List.forall_mem_append.mpr ⟨vi_X12_lotFollower, vsLc_in_12⟩⟩⟩
set_option maxRecDepth 20000 in
theorem tm_896 : (.code yX12_lot cX12_lot 7 (some .int) : Cond) ∈ lw_tbl := z_tbI5 _ (List.mem_of_getElem? (i := 191) rfl)
set_option maxRecDepth 20000 in
theorem tm_897 : (.methodLink RX12 288 yX12_lotOrNone : Cond) ∈ lw_tbl := z_tbI5 _ (List.mem_of_getElem? (i := 192) rfl)
set_option maxRecDepth 20000 in
theorem tm_898 : (.instanceMethod yX12_lotOrNone : Cond) ∈ lw_tbl := z_tbI5 _ (List.mem_of_getElem? (i := 194) rfl)
set_option maxRecDepth 20000 in
theorem tm_899 : (.selects RX12 yX12_lotOrNone yX12_lotOrNone : Cond) ∈ lw_tbl := z_tbI0 _ (List.mem_of_getElem? (i := 43) (by decide +kernel))
set_option maxRecDepth 20000 in
theorem vo_in_X12_lot : ∀ w ∈ .code yX12_lot cX12_lot 7 (some .int) :: voX12_lot, w ∈ lw_tbl := z_fc tm_896 <| z_fc tm_321 <| z_fc tm_454 <| z_fc tm_437 <| z_fc tm_409 <| z_fc tm_410 <| z_fc tm_19 <| z_fc tm_411 <| z_fc tm_412 <| z_fc tm_413 <| z_fc tm_660 <| z_fc tm_661 <| z_fc tm_662 <| z_fc tm_440 <| z_fc tm_441 <| z_fc tm_442 <| z_fc tm_635 <| z_fc tm_636 <| z_fc tm_637 <| z_fc tm_897 <| z_fc tm_898 <| z_fc tm_899 <| z_fn
theorem vi_X12_lot : ∀ w ∈ vsX12_lot, w ∈ lw_tbl := List.forall_mem_cons.mpr ⟨vo_in_X12_lot _ (List.mem_cons_self ..), List.forall_mem_append.mpr ⟨(fun _ h => vo_in_X12_lot _ (List.mem_cons_of_mem _ h)), List.forall_mem_append.mpr ⟨vi_X12_bound, List.forall_mem_append.mpr ⟨vi_X12_no, List.forall_mem_append.mpr ⟨vi_X12_passesAll, List.forall_mem_append.mpr ⟨vi_X12_beginsAnew, List.forall_mem_append.mpr ⟨vi_X12_says, List.forall_mem_append.mpr ⟨vi_X12_lotOrNone, vsLc_in_12⟩⟩⟩⟩⟩⟩⟩⟩
set_option maxRecDepth 20000 in
theorem tm_900 : (.code yX7_addPlayer cX7_addPlayer 3 none : Cond) ∈ lw_tbl := z_tbI2 _ (List.mem_of_getElem? (i := 83) rfl)
set_option maxRecDepth 20000 in
theorem vo_in_X7_addPlayer : ∀ w ∈ .code yX7_addPlayer cX7_addPlayer 3 none :: voX7_addPlayer, w ∈ lw_tbl := z_fc tm_900 <| z_fc tm_273 <| z_fc tm_465 <| z_fc tm_494 <| z_fc tm_294 <| z_fn
theorem vi_X7_addPlayer : ∀ w ∈ vsX7_addPlayer, w ∈ lw_tbl := List.forall_mem_cons.mpr ⟨vo_in_X7_addPlayer _ (List.mem_cons_self ..), List.forall_mem_append.mpr ⟨(fun _ h => vo_in_X7_addPlayer _ (List.mem_cons_of_mem _ h)), vsLc_in_7⟩⟩
set_option maxRecDepth 20000 in
theorem tm_901 : (.code yX7_addLine cX7_addLine 6 none : Cond) ∈ lw_tbl := z_tbI2 _ (List.mem_of_getElem? (i := 91) rfl)
set_option maxRecDepth 20000 in
theorem vo_in_X7_addLine : ∀ w ∈ .code yX7_addLine cX7_addLine 6 none :: voX7_addLine, w ∈ lw_tbl := z_fc tm_901 <| z_fc tm_275 <| z_fc tm_511 <| z_fc tm_279 <| z_fc tm_277 <| z_fc tm_286 <| z_fc tm_294 <| z_fc tm_600 <| z_fc tm_466 <| z_fc tm_467 <| z_fc tm_468 <| z_fc tm_284 <| z_fn
theorem vi_X7_addLine : ∀ w ∈ vsX7_addLine, w ∈ lw_tbl := List.forall_mem_cons.mpr ⟨vo_in_X7_addLine _ (List.mem_cons_self ..), List.forall_mem_append.mpr ⟨(fun _ h => vo_in_X7_addLine _ (List.mem_cons_of_mem _ h)), List.forall_mem_append.mpr ⟨vi_X7_hasPlayer, vsLc_in_7⟩⟩⟩
set_option maxRecDepth 20000 in
theorem tm_902 : (.code yX7_take cX7_take 3 none : Cond) ∈ lw_tbl := z_tbI3 _ (List.mem_of_getElem? (i := 228) rfl)
set_option maxRecDepth 20000 in
theorem tm_903 : (.fieldLink RX7 46 "EachOnHisCue$Play" "lost" "I" : Cond) ∈ lw_tbl := z_tbI1 _ (List.mem_of_getElem? (i := 89) rfl)
set_option maxRecDepth 20000 in
theorem tm_904 : (.fieldLink RX7 52 "EachOnHisCue$Play" "now" "LEachOnHisCue$Saying;" : Cond) ∈ lw_tbl := z_tbI1 _ (List.mem_of_getElem? (i := 91) rfl)
set_option maxRecDepth 20000 in
theorem tm_905 : (.methodLink RX7 116 yX9_take : Cond) ∈ lw_tbl := z_tbI3 _ (List.mem_of_getElem? (i := 229) rfl)
set_option maxRecDepth 20000 in
theorem tm_906 : (.instanceMethod yX9_take : Cond) ∈ lw_tbl := z_tbI3 _ (List.mem_of_getElem? (i := 230) rfl)
set_option maxRecDepth 20000 in
theorem tm_907 : (.selects RX9 yX9_take yX9_take : Cond) ∈ lw_tbl := z_tbI3 _ (List.mem_of_getElem? (i := 231) rfl)
set_option maxRecDepth 20000 in
theorem vo_in_X7_take : ∀ w ∈ .code yX7_take cX7_take 3 none :: voX7_take, w ∈ lw_tbl := z_fc tm_902 <| z_fc tm_273 <| z_fc tm_600 <| z_fc tm_275 <| z_fc tm_903 <| z_fc tm_904 <| z_fc tm_511 <| z_fc tm_279 <| z_fc tm_277 <| z_fc tm_286 <| z_fc tm_465 <| z_fc tm_494 <| z_fc tm_294 <| z_fc tm_905 <| z_fc tm_906 <| z_fc tm_907 <| z_fc tm_604 <| z_fn
theorem vi_X7_take : ∀ w ∈ vsX7_take, w ∈ lw_tbl := List.forall_mem_cons.mpr ⟨vo_in_X7_take _ (List.mem_cons_self ..), List.forall_mem_append.mpr ⟨(fun _ h => vo_in_X7_take _ (List.mem_cons_of_mem _ h)), List.forall_mem_append.mpr ⟨vi_X9_take, vsLc_in_7⟩⟩⟩
set_option maxRecDepth 20000 in
theorem tm_908 : (.code yX11_image cX11_image 1 (some .int) : Cond) ∈ lw_tbl := z_tbI3 _ (List.mem_of_getElem? (i := 224) rfl)
set_option maxRecDepth 20000 in
theorem tm_909 : (.fieldLink RX11 16 "EachOnHisCue" "imaged" "LEachOnHisCue$Play;" : Cond) ∈ lw_tbl := z_tbI1 _ (List.mem_of_getElem? (i := 169) rfl)
set_option maxRecDepth 20000 in
theorem tm_910 : (.fieldLink RX11 19 "EachOnHisCue" "hasImage" "Z" : Cond) ∈ lw_tbl := z_tbI1 _ (List.mem_of_getElem? (i := 170) rfl)
set_option maxRecDepth 20000 in
theorem tm_911 : (.methodLink RX11 238 yX7_take : Cond) ∈ lw_tbl := z_tbI3 _ (List.mem_of_getElem? (i := 225) rfl)
set_option maxRecDepth 20000 in
theorem tm_912 : (.instanceMethod yX7_take : Cond) ∈ lw_tbl := z_tbI3 _ (List.mem_of_getElem? (i := 226) rfl)
set_option maxRecDepth 20000 in
theorem tm_913 : (.selects RX7 yX7_take yX7_take : Cond) ∈ lw_tbl := z_tbI3 _ (List.mem_of_getElem? (i := 227) rfl)
set_option maxRecDepth 20000 in
theorem vo_in_X11_image : ∀ w ∈ .code yX11_image cX11_image 1 (some .int) :: voX11_image, w ∈ lw_tbl := z_fc tm_908 <| z_fc tm_909 <| z_fc tm_726 <| z_fc tm_910 <| z_fc tm_757 <| z_fc tm_911 <| z_fc tm_912 <| z_fc tm_913 <| z_fc tm_284 <| z_fn
theorem vi_X11_image : ∀ w ∈ vsX11_image, w ∈ lw_tbl := List.forall_mem_cons.mpr ⟨vo_in_X11_image _ (List.mem_cons_self ..), List.forall_mem_append.mpr ⟨(fun _ h => vo_in_X11_image _ (List.mem_cons_of_mem _ h)), List.forall_mem_append.mpr ⟨vi_X7_take, List.forall_mem_append.mpr ⟨vsLc_in_7, vsLc_in_11⟩⟩⟩⟩
set_option maxRecDepth 20000 in
theorem tm_914 : (.code yX11_restore cX11_restore 1 (some .int) : Cond) ∈ lw_tbl := z_tbI3 _ (List.mem_of_getElem? (i := 236) rfl)
set_option maxRecDepth 20000 in
theorem vo_in_X11_restore : ∀ w ∈ .code yX11_restore cX11_restore 1 (some .int) :: voX11_restore, w ∈ lw_tbl := z_fc tm_914 <| z_fc tm_910 <| z_fc tm_726 <| z_fc tm_909 <| z_fc tm_757 <| z_fc tm_911 <| z_fc tm_912 <| z_fc tm_913 <| z_fc tm_284 <| z_fc tm_719 <| z_fc tm_720 <| z_fc tm_721 <| z_fc tm_15 <| z_fn
theorem vi_X11_restore : ∀ w ∈ vsX11_restore, w ∈ lw_tbl := List.forall_mem_cons.mpr ⟨vo_in_X11_restore _ (List.mem_cons_self ..), List.forall_mem_append.mpr ⟨(fun _ h => vo_in_X11_restore _ (List.mem_cons_of_mem _ h)), List.forall_mem_append.mpr ⟨vi_X7_take, List.forall_mem_append.mpr ⟨vi_X11_refuse, List.forall_mem_append.mpr ⟨vsLc_in_7, vsLc_in_11⟩⟩⟩⟩⟩
set_option maxRecDepth 20000 in
theorem tm_915 : (.code yX4_bringLine cX4_bringLine 6 none : Cond) ∈ lw_tbl := z_tbI2 _ (List.mem_of_getElem? (i := 87) rfl)
set_option maxRecDepth 20000 in
theorem tm_916 : (.methodLink RX4 79 yX7_addLine : Cond) ∈ lw_tbl := z_tbI2 _ (List.mem_of_getElem? (i := 88) rfl)
set_option maxRecDepth 20000 in
theorem tm_917 : (.instanceMethod yX7_addLine : Cond) ∈ lw_tbl := z_tbI2 _ (List.mem_of_getElem? (i := 89) rfl)
set_option maxRecDepth 20000 in
theorem tm_918 : (.selects RX7 yX7_addLine yX7_addLine : Cond) ∈ lw_tbl := z_tbI2 _ (List.mem_of_getElem? (i := 90) rfl)
set_option maxRecDepth 20000 in
theorem vo_in_X4_bringLine : ∀ w ∈ .code yX4_bringLine cX4_bringLine 6 none :: voX4_bringLine, w ∈ lw_tbl := z_fc tm_915 <| z_fc tm_242 <| z_fc tm_243 <| z_fc tm_244 <| z_fc tm_229 <| z_fc tm_238 <| z_fc tm_239 <| z_fc tm_240 <| z_fc tm_226 <| z_fc tm_227 <| z_fc tm_228 <| z_fc tm_916 <| z_fc tm_917 <| z_fc tm_918 <| z_fc tm_284 <| z_fn
theorem vi_X4_bringLine : ∀ w ∈ vsX4_bringLine, w ∈ lw_tbl := List.forall_mem_cons.mpr ⟨vo_in_X4_bringLine _ (List.mem_cons_self ..), List.forall_mem_append.mpr ⟨(fun _ h => vo_in_X4_bringLine _ (List.mem_cons_of_mem _ h)), List.forall_mem_append.mpr ⟨vi_X4_wordsBehind, List.forall_mem_append.mpr ⟨vi_X4_digit, List.forall_mem_append.mpr ⟨vi_X4_at, vi_X7_addLine⟩⟩⟩⟩⟩
set_option maxRecDepth 20000 in
theorem tm_919 : (.code yX6_init cX6_init 2 none : Cond) ∈ lw_tbl := z_tbI2 _ (List.mem_of_getElem? (i := 34) rfl)
set_option maxRecDepth 20000 in
theorem tm_920 : (.methodLink RX6 3 objectInit : Cond) ∈ lw_tbl := z_tbI2 _ (List.mem_of_getElem? (i := 35) rfl)
set_option maxRecDepth 20000 in
theorem tm_921 : (.instanceMethod objectInit : Cond) ∈ lw_tbl := z_tbI1 _ (List.mem_of_getElem? (i := 21) rfl)
set_option maxRecDepth 20000 in
theorem tm_922 : (.fieldLink RX6 9 "EachOnHisCue$Next" "figure" "I" : Cond) ∈ lw_tbl := z_tbI2 _ (List.mem_of_getElem? (i := 36) rfl)
set_option maxRecDepth 20000 in
theorem tm_923 : (.code objectInit ⟨#[0xb1]⟩ 1 none : Cond) ∈ lw_tbl := z_tbI1 _ (List.mem_of_getElem? (i := 22) rfl)
set_option maxRecDepth 20000 in
theorem vo_in_X6_init : ∀ w ∈ .code yX6_init cX6_init 2 none :: voX6_init, w ∈ lw_tbl := z_fc tm_919 <| z_fc tm_920 <| z_fc tm_921 <| z_fc tm_922 <| z_fc tm_923 <| z_fn
theorem vi_X6_init : ∀ w ∈ vsX6_init, w ∈ lw_tbl := List.forall_mem_cons.mpr ⟨vo_in_X6_init _ (List.mem_cons_self ..), List.forall_mem_append.mpr ⟨(fun _ h => vo_in_X6_init _ (List.mem_cons_of_mem _ h)), List.forall_mem_append.mpr ⟨vsLc_in_0, List.forall_mem_append.mpr ⟨vsLc_in_1, List.forall_mem_append.mpr ⟨vsLc_in_3, List.forall_mem_append.mpr ⟨vsLc_in_6, List.forall_mem_append.mpr ⟨vsLc_in_8, vsLc_in_10⟩⟩⟩⟩⟩⟩⟩
set_option maxRecDepth 20000 in
theorem tm_924 : (.code yX0_init cX0_init 2 none : Cond) ∈ lw_tbl := z_tbI2 _ (List.mem_of_getElem? (i := 31) rfl)
set_option maxRecDepth 20000 in
theorem tm_925 : (.methodLink RX0 1 yX6_init : Cond) ∈ lw_tbl := z_tbI2 _ (List.mem_of_getElem? (i := 32) rfl)
set_option maxRecDepth 20000 in
theorem tm_926 : (.instanceMethod yX6_init : Cond) ∈ lw_tbl := z_tbI2 _ (List.mem_of_getElem? (i := 33) rfl)
set_option maxRecDepth 20000 in
theorem vo_in_X0_init : ∀ w ∈ .code yX0_init cX0_init 2 none :: voX0_init, w ∈ lw_tbl := z_fc tm_924 <| z_fc tm_482 <| z_fc tm_925 <| z_fc tm_926 <| z_fn
theorem vi_X0_init : ∀ w ∈ vsX0_init, w ∈ lw_tbl := List.forall_mem_cons.mpr ⟨vo_in_X0_init _ (List.mem_cons_self ..), List.forall_mem_append.mpr ⟨(fun _ h => vo_in_X0_init _ (List.mem_cons_of_mem _ h)), vi_X6_init⟩⟩
set_option maxRecDepth 20000 in
theorem tm_927 : (.code yX8_init cX8_init 2 none : Cond) ∈ lw_tbl := z_tbI2 _ (List.mem_of_getElem? (i := 47) rfl)
set_option maxRecDepth 20000 in
theorem tm_928 : (.methodLink RX8 1 yX6_init : Cond) ∈ lw_tbl := z_tbI2 _ (List.mem_of_getElem? (i := 48) rfl)
set_option maxRecDepth 20000 in
theorem vo_in_X8_init : ∀ w ∈ .code yX8_init cX8_init 2 none :: voX8_init, w ∈ lw_tbl := z_fc tm_927 <| z_fc tm_482 <| z_fc tm_928 <| z_fc tm_926 <| z_fn
theorem vi_X8_init : ∀ w ∈ vsX8_init, w ∈ lw_tbl := List.forall_mem_cons.mpr ⟨vo_in_X8_init _ (List.mem_cons_self ..), List.forall_mem_append.mpr ⟨(fun _ h => vo_in_X8_init _ (List.mem_cons_of_mem _ h)), vi_X6_init⟩⟩
set_option maxRecDepth 20000 in
theorem tm_929 : (.code yX1_init cX1_init 2 none : Cond) ∈ lw_tbl := z_tbI2 _ (List.mem_of_getElem? (i := 55) rfl)
set_option maxRecDepth 20000 in
theorem tm_930 : (.methodLink RX1 1 yX6_init : Cond) ∈ lw_tbl := z_tbI2 _ (List.mem_of_getElem? (i := 56) rfl)
set_option maxRecDepth 20000 in
theorem vo_in_X1_init : ∀ w ∈ .code yX1_init cX1_init 2 none :: voX1_init, w ∈ lw_tbl := z_fc tm_929 <| z_fc tm_482 <| z_fc tm_930 <| z_fc tm_926 <| z_fn
theorem vi_X1_init : ∀ w ∈ vsX1_init, w ∈ lw_tbl := List.forall_mem_cons.mpr ⟨vo_in_X1_init _ (List.mem_cons_self ..), List.forall_mem_append.mpr ⟨(fun _ h => vo_in_X1_init _ (List.mem_cons_of_mem _ h)), vi_X6_init⟩⟩
set_option maxRecDepth 20000 in
theorem tm_931 : (.code yX10_init cX10_init 2 none : Cond) ∈ lw_tbl := z_tbI2 _ (List.mem_of_getElem? (i := 63) rfl)
set_option maxRecDepth 20000 in
theorem tm_932 : (.methodLink RX10 3 yX1_init : Cond) ∈ lw_tbl := z_tbI2 _ (List.mem_of_getElem? (i := 64) rfl)
set_option maxRecDepth 20000 in
theorem tm_933 : (.instanceMethod yX1_init : Cond) ∈ lw_tbl := z_tbI2 _ (List.mem_of_getElem? (i := 54) rfl)
set_option maxRecDepth 20000 in
theorem vo_in_X10_init : ∀ w ∈ .code yX10_init cX10_init 2 none :: voX10_init, w ∈ lw_tbl := z_fc tm_931 <| z_fc tm_477 <| z_fc tm_932 <| z_fc tm_933 <| z_fn
theorem vi_X10_init : ∀ w ∈ vsX10_init, w ∈ lw_tbl := List.forall_mem_cons.mpr ⟨vo_in_X10_init _ (List.mem_cons_self ..), List.forall_mem_append.mpr ⟨(fun _ h => vo_in_X10_init _ (List.mem_cons_of_mem _ h)), vi_X1_init⟩⟩
set_option maxRecDepth 20000 in
theorem tm_934 : (.code yX3_init cX3_init 2 none : Cond) ∈ lw_tbl := z_tbI2 _ (List.mem_of_getElem? (i := 71) rfl)
set_option maxRecDepth 20000 in
theorem tm_935 : (.methodLink RX3 1 yX0_init : Cond) ∈ lw_tbl := z_tbI2 _ (List.mem_of_getElem? (i := 72) rfl)
set_option maxRecDepth 20000 in
theorem tm_936 : (.instanceMethod yX0_init : Cond) ∈ lw_tbl := z_tbI2 _ (List.mem_of_getElem? (i := 30) rfl)
set_option maxRecDepth 20000 in
theorem vo_in_X3_init : ∀ w ∈ .code yX3_init cX3_init 2 none :: voX3_init, w ∈ lw_tbl := z_fc tm_934 <| z_fc tm_474 <| z_fc tm_935 <| z_fc tm_936 <| z_fn
theorem vi_X3_init : ∀ w ∈ vsX3_init, w ∈ lw_tbl := List.forall_mem_cons.mpr ⟨vo_in_X3_init _ (List.mem_cons_self ..), List.forall_mem_append.mpr ⟨(fun _ h => vo_in_X3_init _ (List.mem_cons_of_mem _ h)), vi_X0_init⟩⟩
set_option maxRecDepth 20000 in
theorem tm_937 : (.code yX11_playerOf cX11_playerOf 2 (some (.object "EachOnHisCue$Next")) : Cond) ∈ lw_tbl := z_tbI2 _ (List.mem_of_getElem? (i := 26) rfl)
set_option maxRecDepth 20000 in
theorem tm_938 : (.classLink RX11 263 RX6 : Cond) ∈ lw_tbl := z_tbI2 _ (List.mem_of_getElem? (i := 75) rfl)
set_option maxRecDepth 20000 in
theorem tm_939 : (.methodLink RX11 265 yX6_init : Cond) ∈ lw_tbl := z_tbI2 _ (List.mem_of_getElem? (i := 77) rfl)
set_option maxRecDepth 20000 in
theorem tm_940 : (.classLink RX11 247 RX0 : Cond) ∈ lw_tbl := z_tbI2 _ (List.mem_of_getElem? (i := 27) rfl)
set_option maxRecDepth 20000 in
theorem tm_941 : (.methodLink RX11 249 yX0_init : Cond) ∈ lw_tbl := z_tbI2 _ (List.mem_of_getElem? (i := 29) rfl)
set_option maxRecDepth 20000 in
theorem tm_942 : (.classLink RX11 251 RX8 : Cond) ∈ lw_tbl := z_tbI2 _ (List.mem_of_getElem? (i := 43) rfl)
set_option maxRecDepth 20000 in
theorem tm_943 : (.methodLink RX11 253 yX8_init : Cond) ∈ lw_tbl := z_tbI2 _ (List.mem_of_getElem? (i := 45) rfl)
set_option maxRecDepth 20000 in
theorem tm_944 : (.instanceMethod yX8_init : Cond) ∈ lw_tbl := z_tbI2 _ (List.mem_of_getElem? (i := 46) rfl)
set_option maxRecDepth 20000 in
theorem tm_945 : (.classLink RX11 254 RX1 : Cond) ∈ lw_tbl := z_tbI2 _ (List.mem_of_getElem? (i := 51) rfl)
set_option maxRecDepth 20000 in
theorem tm_946 : (.methodLink RX11 256 yX1_init : Cond) ∈ lw_tbl := z_tbI2 _ (List.mem_of_getElem? (i := 53) rfl)
set_option maxRecDepth 20000 in
theorem tm_947 : (.classLink RX11 257 RX10 : Cond) ∈ lw_tbl := z_tbI2 _ (List.mem_of_getElem? (i := 59) rfl)
set_option maxRecDepth 20000 in
theorem tm_948 : (.methodLink RX11 259 yX10_init : Cond) ∈ lw_tbl := z_tbI2 _ (List.mem_of_getElem? (i := 61) rfl)
set_option maxRecDepth 20000 in
theorem tm_949 : (.instanceMethod yX10_init : Cond) ∈ lw_tbl := z_tbI2 _ (List.mem_of_getElem? (i := 62) rfl)
set_option maxRecDepth 20000 in
theorem tm_950 : (.classLink RX11 260 RX3 : Cond) ∈ lw_tbl := z_tbI2 _ (List.mem_of_getElem? (i := 67) rfl)
set_option maxRecDepth 20000 in
theorem tm_951 : (.methodLink RX11 262 yX3_init : Cond) ∈ lw_tbl := z_tbI2 _ (List.mem_of_getElem? (i := 69) rfl)
set_option maxRecDepth 20000 in
theorem tm_952 : (.instanceMethod yX3_init : Cond) ∈ lw_tbl := z_tbI2 _ (List.mem_of_getElem? (i := 70) rfl)
set_option maxRecDepth 20000 in
theorem vo_in_X11_playerOf : ∀ w ∈ .code yX11_playerOf cX11_playerOf 2 (some (.object "EachOnHisCue$Next")) :: voX11_playerOf, w ∈ lw_tbl := z_fc tm_937 <| z_fc tm_938 <| z_fc tm_6 <| z_fc tm_482 <| z_fc tm_939 <| z_fc tm_926 <| z_fc tm_940 <| z_fc tm_0 <| z_fc tm_474 <| z_fc tm_941 <| z_fc tm_936 <| z_fc tm_942 <| z_fc tm_8 <| z_fc tm_485 <| z_fc tm_943 <| z_fc tm_944 <| z_fc tm_945 <| z_fc tm_1 <| z_fc tm_477 <| z_fc tm_946 <| z_fc tm_933 <| z_fc tm_947 <| z_fc tm_10 <| z_fc tm_488 <| z_fc tm_948 <| z_fc tm_949 <| z_fc tm_950 <| z_fc tm_3 <| z_fc tm_480 <| z_fc tm_951 <| z_fc tm_952 <| z_fn
theorem vi_X11_playerOf : ∀ w ∈ vsX11_playerOf, w ∈ lw_tbl := List.forall_mem_cons.mpr ⟨vo_in_X11_playerOf _ (List.mem_cons_self ..), List.forall_mem_append.mpr ⟨(fun _ h => vo_in_X11_playerOf _ (List.mem_cons_of_mem _ h)), List.forall_mem_append.mpr ⟨vi_X6_init, List.forall_mem_append.mpr ⟨vi_X0_init, List.forall_mem_append.mpr ⟨vi_X8_init, List.forall_mem_append.mpr ⟨vi_X1_init, List.forall_mem_append.mpr ⟨vi_X10_init, List.forall_mem_append.mpr ⟨vi_X3_init, List.forall_mem_append.mpr ⟨vsLc_in_0, List.forall_mem_append.mpr ⟨vsLc_in_1, List.forall_mem_append.mpr ⟨vsLc_in_3, List.forall_mem_append.mpr ⟨vsLc_in_6, List.forall_mem_append.mpr ⟨vsLc_in_8, vsLc_in_10⟩⟩⟩⟩⟩⟩⟩⟩⟩⟩⟩⟩⟩
set_option maxRecDepth 20000 in
theorem tm_953 : (.code yX4_bringAll cX4_bringAll 4 (some .int) : Cond) ∈ lw_tbl := z_tbI2 _ (List.mem_of_getElem? (i := 23) rfl)
set_option maxRecDepth 20000 in
theorem tm_954 : (.static yX11_playerOf : Cond) ∈ lw_tbl := z_tbI2 _ (List.mem_of_getElem? (i := 25) rfl)
set_option maxRecDepth 20000 in
theorem tm_955 : (.methodLink RX4 75 yX4_bringLine : Cond) ∈ lw_tbl := z_tbI2 _ (List.mem_of_getElem? (i := 84) rfl)
set_option maxRecDepth 20000 in
theorem tm_956 : (.instanceMethod yX4_bringLine : Cond) ∈ lw_tbl := z_tbI2 _ (List.mem_of_getElem? (i := 85) rfl)
set_option maxRecDepth 20000 in
theorem tm_957 : (.selects RX4 yX4_bringLine yX4_bringLine : Cond) ∈ lw_tbl := z_tbI2 _ (List.mem_of_getElem? (i := 86) rfl)
set_option maxRecDepth 20000 in
theorem tm_958 : (.methodLink RX4 71 yX7_addPlayer : Cond) ∈ lw_tbl := z_tbI2 _ (List.mem_of_getElem? (i := 80) rfl)
set_option maxRecDepth 20000 in
theorem tm_959 : (.instanceMethod yX7_addPlayer : Cond) ∈ lw_tbl := z_tbI2 _ (List.mem_of_getElem? (i := 81) rfl)
set_option maxRecDepth 20000 in
theorem tm_960 : (.selects RX7 yX7_addPlayer yX7_addPlayer : Cond) ∈ lw_tbl := z_tbI2 _ (List.mem_of_getElem? (i := 82) rfl)
set_option maxRecDepth 20000 in
theorem vo_in_X4_bringAll : ∀ w ∈ .code yX4_bringAll cX4_bringAll 4 (some .int) :: voX4_bringAll, w ∈ lw_tbl := z_fc tm_953 <| z_fc tm_223 <| z_fc tm_15 <| z_fc tm_954 <| z_fc tm_256 <| z_fc tm_257 <| z_fc tm_258 <| z_fc tm_229 <| z_fc tm_226 <| z_fc tm_227 <| z_fc tm_228 <| z_fc tm_955 <| z_fc tm_956 <| z_fc tm_957 <| z_fc tm_238 <| z_fc tm_239 <| z_fc tm_240 <| z_fc tm_958 <| z_fc tm_959 <| z_fc tm_960 <| z_fc tm_284 <| z_fn
theorem vi_X4_bringAll : ∀ w ∈ vsX4_bringAll, w ∈ lw_tbl := List.forall_mem_cons.mpr ⟨vo_in_X4_bringAll _ (List.mem_cons_self ..), List.forall_mem_append.mpr ⟨(fun _ h => vo_in_X4_bringAll _ (List.mem_cons_of_mem _ h)), List.forall_mem_append.mpr ⟨vi_X4_begins, List.forall_mem_append.mpr ⟨vi_X4_at, List.forall_mem_append.mpr ⟨vi_X4_bringLine, List.forall_mem_append.mpr ⟨vi_X4_digit, List.forall_mem_append.mpr ⟨vi_X11_playerOf, List.forall_mem_append.mpr ⟨vi_X7_addPlayer, vsLc_in_4⟩⟩⟩⟩⟩⟩⟩⟩
set_option maxRecDepth 20000 in
theorem tm_961 : (.code yX11_piece cX11_piece 2 (some .int) : Cond) ∈ lw_tbl := z_tbI1 _ (List.mem_of_getElem? (i := 211) rfl)
set_option maxRecDepth 20000 in
theorem tm_962 : (.methodLink RX11 64 yX4_firstFault : Cond) ∈ lw_tbl := z_tbI1 _ (List.mem_of_getElem? (i := 212) rfl)
set_option maxRecDepth 20000 in
theorem tm_963 : (.instanceMethod yX4_firstFault : Cond) ∈ lw_tbl := z_tbI1 _ (List.mem_of_getElem? (i := 213) rfl)
set_option maxRecDepth 20000 in
theorem tm_964 : (.selects RX4 yX4_firstFault yX4_firstFault : Cond) ∈ lw_tbl := z_tbI1 _ (List.mem_of_getElem? (i := 214) rfl)
set_option maxRecDepth 20000 in
theorem tm_965 : (.methodLink RX11 68 yX4_bringAll : Cond) ∈ lw_tbl := z_tbI2 _ (List.mem_of_getElem? (i := 20) rfl)
set_option maxRecDepth 20000 in
theorem tm_966 : (.instanceMethod yX4_bringAll : Cond) ∈ lw_tbl := z_tbI2 _ (List.mem_of_getElem? (i := 21) rfl)
set_option maxRecDepth 20000 in
theorem tm_967 : (.selects RX4 yX4_bringAll yX4_bringAll : Cond) ∈ lw_tbl := z_tbI2 _ (List.mem_of_getElem? (i := 22) rfl)
set_option maxRecDepth 20000 in
theorem vo_in_X11_piece : ∀ w ∈ .code yX11_piece cX11_piece 2 (some .int) :: voX11_piece, w ∈ lw_tbl := z_fc tm_961 <| z_fc tm_717 <| z_fc tm_726 <| z_fc tm_718 <| z_fc tm_728 <| z_fc tm_962 <| z_fc tm_963 <| z_fc tm_964 <| z_fc tm_229 <| z_fc tm_965 <| z_fc tm_966 <| z_fc tm_967 <| z_fc tm_762 <| z_fc tm_607 <| z_fc tm_608 <| z_fc tm_604 <| z_fn
theorem vi_X11_piece : ∀ w ∈ vsX11_piece, w ∈ lw_tbl := List.forall_mem_cons.mpr ⟨vo_in_X11_piece _ (List.mem_cons_self ..), List.forall_mem_append.mpr ⟨(fun _ h => vo_in_X11_piece _ (List.mem_cons_of_mem _ h)), List.forall_mem_append.mpr ⟨vi_X4_firstFault, List.forall_mem_append.mpr ⟨vi_X4_bringAll, List.forall_mem_append.mpr ⟨vi_X9_forget, List.forall_mem_append.mpr ⟨vsLc_in_4, List.forall_mem_append.mpr ⟨vsLc_in_7, vsLc_in_11⟩⟩⟩⟩⟩⟩⟩
set_option maxRecDepth 20000 in
theorem vi_X9_init : ∀ w ∈ vsX9_init, w ∈ lw_tbl := z_inQ _ [(1, 35), (1, 36), (1, 21), (1, 22), (1, 37), (1, 40), (1, 43), (1, 46), (1, 49), (1, 52), (1, 54), (1, 56), (1, 58), (1, 60)] (by decide +kernel)
set_option maxRecDepth 20000 in
theorem zgX9_init : zGd vsX9_init := z_gdO (by decide +kernel)
set_option maxRecDepth 20000 in
theorem vi_X7_init : ∀ w ∈ vsX7_init, w ∈ lw_tbl := z_inQ _ [(1, 27), (1, 28), (1, 21), (1, 22), (1, 29), (1, 64), (1, 63), (1, 65), (1, 67), (1, 69), (1, 73), (1, 75), (1, 77), (1, 80), (1, 82), (1, 84), (1, 89), (1, 31), (1, 32), (1, 3), (1, 34), (1, 91), (1, 35), (1, 36), (1, 37), (1, 40), (1, 43), (1, 46), (1, 49), (1, 93), (1, 95), (1, 97), (1, 99), (1, 101), (1, 103), (1, 105), (1, 107), (1, 109), (1, 111), (1, 113), (1, 115), (1, 52), (1, 54), (1, 56), (1, 58), (1, 60)] (by decide +kernel)
set_option maxRecDepth 20000 in
theorem zgX7_init : zGd vsX7_init := z_gdO (by decide +kernel)
set_option maxRecDepth 20000 in
theorem vi_X5_init : ∀ w ∈ vsX5_init, w ∈ lw_tbl := z_inQ _ [(1, 128), (1, 129), (1, 21), (1, 22), (1, 63), (1, 130), (1, 133), (1, 134), (1, 136)] (by decide +kernel)
set_option maxRecDepth 20000 in
theorem zgX5_init : zGd vsX5_init := z_gdO (by decide +kernel)
set_option maxRecDepth 20000 in
theorem vi_X2_init : ∀ w ∈ vsX2_init, w ∈ lw_tbl := z_inQ _ [(1, 122), (1, 123), (1, 21), (1, 22), (1, 124), (1, 125), (1, 5), (1, 127), (1, 141), (1, 139), (1, 32), (1, 3), (1, 34), (1, 143), (1, 145), (1, 128), (1, 129), (1, 63), (1, 130), (1, 133), (1, 35), (1, 36), (1, 37), (1, 40), (1, 43), (1, 46), (1, 49), (1, 147), (1, 149), (1, 151), (1, 134), (1, 136), (1, 52), (1, 54), (1, 56), (1, 58), (1, 60)] (by decide +kernel)
set_option maxRecDepth 20000 in
theorem zgX2_init : zGd vsX2_init := z_gdO (by decide +kernel)
set_option maxRecDepth 20000 in
theorem vi_X4_init : ∀ w ∈ vsX4_init, w ∈ lw_tbl := z_inQ _ [(1, 158), (1, 159), (1, 21), (1, 22), (1, 63), (1, 160), (1, 161), (1, 163), (1, 165)] (by decide +kernel)
set_option maxRecDepth 20000 in
theorem zgX4_init : zGd vsX4_init := z_gdO (by decide +kernel)
set_option maxRecDepth 20000 in
theorem vi_X11_init : ∀ w ∈ vsX11_init, w ∈ lw_tbl := z_inQ _ [(1, 19), (1, 20), (1, 21), (1, 22), (1, 23), (1, 24), (1, 2), (1, 26), (1, 168), (1, 169), (1, 170), (1, 118), (1, 119), (1, 4), (1, 121), (1, 171), (1, 142), (1, 172), (1, 154), (1, 155), (1, 6), (1, 157), (1, 173), (1, 63), (1, 174), (1, 175), (1, 176), (1, 27), (1, 28), (1, 29), (1, 64), (1, 65), (1, 67), (1, 69), (1, 73), (1, 75), (1, 77), (1, 80), (1, 82), (1, 84), (1, 89), (1, 31), (1, 32), (1, 3), (1, 34), (1, 91), (1, 35), (1, 36), (1, 37), (1, 40), (1, 43), (1, 46), (1, 49), (1, 122), (1, 123), (1, 124), (1, 125), (1, 5), (1, 127), (1, 141), (1, 139), (1, 143), (1, 145), (1, 128), (1, 129), (1, 130), (1, 133), (1, 158), (1, 159), (1, 160), (1, 161), (1, 147), (1, 149), (1, 151), (1, 163), (1, 165), (1, 134), (1, 136), (1, 93), (1, 95), (1, 97), (1, 99), (1, 101), (1, 103), (1, 105), (1, 107), (1, 109), (1, 111), (1, 113), (1, 115), (1, 52), (1, 54), (1, 56), (1, 58), (1, 60), (1, 177), (1, 179), (1, 181), (1, 183), (1, 185), (1, 187), (1, 189), (1, 191), (1, 193)] (by decide +kernel)
set_option maxRecDepth 20000 in
theorem zgX11_init : zGd vsX11_init := z_gdO (by decide +kernel)
set_option maxRecDepth 20000 in
theorem vi_X12_init : ∀ w ∈ vsX12_init, w ∈ lw_tbl := z_inQ _ [(4, 9), (4, 10), (1, 21), (1, 22), (1, 63), (4, 11), (4, 12), (4, 13), (4, 14), (4, 15), (4, 16), (4, 17), (4, 18), (4, 19), (4, 22), (4, 25), (4, 27), (4, 28), (4, 29), (4, 30), (4, 34), (4, 38), (4, 40), (4, 44), (4, 45), (4, 46), (4, 49), (4, 51), (4, 53), (4, 55), (4, 57), (4, 59), (4, 61), (4, 63), (4, 65), (4, 67), (4, 69), (4, 71), (4, 73), (4, 75), (4, 77), (4, 79), (4, 81), (4, 83), (4, 85), (4, 87), (4, 89), (4, 91), (4, 93), (4, 95), (4, 97), (4, 99), (4, 101), (4, 103), (4, 105), (4, 107), (4, 109), (4, 111), (4, 113), (4, 115), (4, 117), (4, 119), (4, 121), (4, 123)] (by decide +kernel)
set_option maxRecDepth 20000 in
theorem zgX12_init : zGd vsX12_init := z_gdO (by decide +kernel)
theorem vsLm_in : ∀ w ∈ vsLm, w ∈ lw_tbl := List.forall_mem_append.mpr ⟨vi_X11_feed, List.forall_mem_append.mpr ⟨vi_X12_feed, List.forall_mem_append.mpr ⟨vi_X11_piece, List.forall_mem_append.mpr ⟨vi_X12_piece, List.forall_mem_append.mpr ⟨vi_X11_player, List.forall_mem_append.mpr ⟨vi_X12_player, List.forall_mem_append.mpr ⟨vi_X11_line, List.forall_mem_append.mpr ⟨vi_X12_line, List.forall_mem_append.mpr ⟨vi_X11_cue, List.forall_mem_append.mpr ⟨vi_X12_cue, List.forall_mem_append.mpr ⟨vi_X11_speed, List.forall_mem_append.mpr ⟨vi_X12_speed, List.forall_mem_append.mpr ⟨vi_X11_lose, List.forall_mem_append.mpr ⟨vi_X12_lose, List.forall_mem_append.mpr ⟨vi_X11_comes, List.forall_mem_append.mpr ⟨vi_X12_comes, List.forall_mem_append.mpr ⟨vi_X11_say, List.forall_mem_append.mpr ⟨vi_X12_say, List.forall_mem_append.mpr ⟨vi_X11_again, List.forall_mem_append.mpr ⟨vi_X12_again, List.forall_mem_append.mpr ⟨vi_X11_night, List.forall_mem_append.mpr ⟨vi_X12_night, List.forall_mem_append.mpr ⟨vi_X11_goes, List.forall_mem_append.mpr ⟨vi_X12_goes, List.forall_mem_append.mpr ⟨vi_X11_follow, List.forall_mem_append.mpr ⟨vi_X12_follow, List.forall_mem_append.mpr ⟨vi_X11_net, List.forall_mem_append.mpr ⟨vi_X12_net, List.forall_mem_append.mpr ⟨vi_X11_mend, List.forall_mem_append.mpr ⟨vi_X12_mend, List.forall_mem_append.mpr ⟨vi_X11_mendOf, List.forall_mem_append.mpr ⟨vi_X12_mendOf, List.forall_mem_append.mpr ⟨vi_X11_prompted, List.forall_mem_append.mpr ⟨vi_X12_prompted, List.forall_mem_append.mpr ⟨vi_X11_home, List.forall_mem_append.mpr ⟨vi_X12_home, List.forall_mem_append.mpr ⟨vi_X11_without, List.forall_mem_append.mpr ⟨vi_X12_without, List.forall_mem_append.mpr ⟨vi_X11_leastHarm, List.forall_mem_append.mpr ⟨vi_X12_leastHarm, List.forall_mem_append.mpr ⟨vi_X11_joke, List.forall_mem_append.mpr ⟨vi_X12_joke, List.forall_mem_append.mpr ⟨vi_X11_stretched, List.forall_mem_append.mpr ⟨vi_X12_stretched, List.forall_mem_append.mpr ⟨vi_X11_parts, List.forall_mem_append.mpr ⟨vi_X12_parts, List.forall_mem_append.mpr ⟨vi_X11_books, List.forall_mem_append.mpr ⟨vi_X12_books, List.forall_mem_append.mpr ⟨vi_X11_book, List.forall_mem_append.mpr ⟨vi_X12_book, List.forall_mem_append.mpr ⟨vi_X11_row, List.forall_mem_append.mpr ⟨vi_X12_row, List.forall_mem_append.mpr ⟨vi_X11_judge, List.forall_mem_append.mpr ⟨vi_X12_judge, List.forall_mem_append.mpr ⟨vi_X11_possible, List.forall_mem_append.mpr ⟨vi_X12_possible, List.forall_mem_append.mpr ⟨vi_X11_lot, List.forall_mem_append.mpr ⟨vi_X12_lot, List.forall_mem_append.mpr ⟨vi_X11_image, List.forall_mem_append.mpr ⟨vi_X12_image, List.forall_mem_append.mpr ⟨vi_X11_restore, List.forall_mem_append.mpr ⟨vi_X12_restore, List.forall_mem_append.mpr ⟨vi_X11_count, List.forall_mem_append.mpr ⟨vi_X12_count, List.forall_mem_append.mpr ⟨vi_X11_init, vi_X12_init⟩⟩⟩⟩⟩⟩⟩⟩⟩⟩⟩⟩⟩⟩⟩⟩⟩⟩⟩⟩⟩⟩⟩⟩⟩⟩⟩⟩⟩⟩⟩⟩⟩⟩⟩⟩⟩⟩⟩⟩⟩⟩⟩⟩⟩⟩⟩⟩⟩⟩⟩⟩⟩⟩⟩⟩⟩⟩⟩⟩⟩⟩⟩⟩⟩
theorem vsL_in : ∀ w ∈ vsL, w ∈ lw_tbl := List.forall_mem_append.mpr ⟨vsLw_in, List.forall_mem_append.mpr ⟨vsLm_in, vsLc_in⟩⟩
theorem inlX0 : ∀ w ∈ wsX00, w ∈ vsL := fun _ h => List.mem_append_right _ (List.mem_append_right _ (List.mem_append_left _ h))
theorem inlX1 : ∀ w ∈ wsX10, w ∈ vsL := fun _ h => List.mem_append_right _ (List.mem_append_right _ (List.mem_append_right _ (List.mem_append_left _ h)))
theorem inlX2 : ∀ w ∈ wsX20, w ∈ vsL := fun _ h => List.mem_append_right _ (List.mem_append_right _ (List.mem_append_right _ (List.mem_append_right _ (List.mem_append_left _ h))))
theorem inlX3 : ∀ w ∈ wsX30, w ∈ vsL := fun _ h => List.mem_append_right _ (List.mem_append_right _ (List.mem_append_right _ (List.mem_append_right _ (List.mem_append_right _ (List.mem_append_left _ h)))))
theorem inlX4 : ∀ w ∈ wsX40, w ∈ vsL := fun _ h => List.mem_append_right _ (List.mem_append_right _ (List.mem_append_right _ (List.mem_append_right _ (List.mem_append_right _ (List.mem_append_right _ (List.mem_append_left _ h))))))
theorem inlX5 : ∀ w ∈ wsX50, w ∈ vsL := fun _ h => List.mem_append_right _ (List.mem_append_right _ (List.mem_append_right _ (List.mem_append_right _ (List.mem_append_right _ (List.mem_append_right _ (List.mem_append_right _ (List.mem_append_left _ h)))))))
theorem inlX6 : ∀ w ∈ wsX60, w ∈ vsL := fun _ h => List.mem_append_right _ (List.mem_append_right _ (List.mem_append_right _ (List.mem_append_right _ (List.mem_append_right _ (List.mem_append_right _ (List.mem_append_right _ (List.mem_append_right _ (List.mem_append_left _ h))))))))
theorem inlX7 : ∀ w ∈ wsX70, w ∈ vsL := fun _ h => List.mem_append_right _ (List.mem_append_right _ (List.mem_append_right _ (List.mem_append_right _ (List.mem_append_right _ (List.mem_append_right _ (List.mem_append_right _ (List.mem_append_right _ (List.mem_append_right _ (List.mem_append_left _ h)))))))))
theorem inlX8 : ∀ w ∈ wsX80, w ∈ vsL := fun _ h => List.mem_append_right _ (List.mem_append_right _ (List.mem_append_right _ (List.mem_append_right _ (List.mem_append_right _ (List.mem_append_right _ (List.mem_append_right _ (List.mem_append_right _ (List.mem_append_right _ (List.mem_append_right _ (List.mem_append_left _ h))))))))))
theorem inlX9 : ∀ w ∈ wsX90, w ∈ vsL := fun _ h => List.mem_append_right _ (List.mem_append_right _ (List.mem_append_right _ (List.mem_append_right _ (List.mem_append_right _ (List.mem_append_right _ (List.mem_append_right _ (List.mem_append_right _ (List.mem_append_right _ (List.mem_append_right _ (List.mem_append_right _ (List.mem_append_left _ h)))))))))))
theorem inlX10 : ∀ w ∈ wsX100, w ∈ vsL := fun _ h => List.mem_append_right _ (List.mem_append_right _ (List.mem_append_right _ (List.mem_append_right _ (List.mem_append_right _ (List.mem_append_right _ (List.mem_append_right _ (List.mem_append_right _ (List.mem_append_right _ (List.mem_append_right _ (List.mem_append_right _ (List.mem_append_right _ (List.mem_append_left _ h))))))))))))
theorem inlX11 : ∀ w ∈ wsX110, w ∈ vsL := fun _ h => List.mem_append_right _ (List.mem_append_right _ (List.mem_append_right _ (List.mem_append_right _ (List.mem_append_right _ (List.mem_append_right _ (List.mem_append_right _ (List.mem_append_right _ (List.mem_append_right _ (List.mem_append_right _ (List.mem_append_right _ (List.mem_append_right _ (List.mem_append_right _ (List.mem_append_left _ h)))))))))))))
theorem inlX12 : ∀ w ∈ wsX120, w ∈ vsL := fun _ h => List.mem_append_right _ (List.mem_append_right _ (List.mem_append_right _ (List.mem_append_right _ (List.mem_append_right _ (List.mem_append_right _ (List.mem_append_right _ (List.mem_append_right _ (List.mem_append_right _ (List.mem_append_right _ (List.mem_append_right _ (List.mem_append_right _ (List.mem_append_right _ (List.mem_append_right _ (h))))))))))))))
theorem gw_L_law_X11_feed : GoodIn vsL vsX11_feed := z_gdI (fun _ h => List.mem_append_right _ (List.mem_append_left _ (List.mem_append_left _ h))) zgX11_feed
set_option maxRecDepth 20000 in
theorem gv_L_law_X11_feed_13 : GoodIn vsL (wsV RL 13 RX11 yX11_feed vsX11_feed) := goodIn_app (goodIn_r _ [22, 23, 24, 15] (by decide +kernel) (by decide +kernel)) gw_L_law_X11_feed
theorem gw_L_law_X12_feed : GoodIn vsL vsX12_feed := z_gdI (fun _ h => List.mem_append_right _ (List.mem_append_left _ (List.mem_append_right _ (List.mem_append_left _ h)))) zgX12_feed
set_option maxRecDepth 20000 in
theorem gv_L_law_X12_feed_17 : GoodIn vsL (wsV RL 17 RX12 yX12_feed vsX12_feed) := goodIn_app (goodIn_r _ [25, 26, 27, 19] (by decide +kernel) (by decide +kernel)) gw_L_law_X12_feed
theorem gw_L_law_X11_piece : GoodIn vsL vsX11_piece := z_gdI (fun _ h => List.mem_append_right _ (List.mem_append_left _ (List.mem_append_right _ (List.mem_append_right _ (List.mem_append_left _ h))))) zgX11_piece
set_option maxRecDepth 20000 in
theorem gv_L_law_X11_piece_18 : GoodIn vsL (wsV RL 18 RX11 yX11_piece vsX11_piece) := goodIn_app (goodIn_r _ [28, 29, 30, 15] (by decide +kernel) (by decide +kernel)) gw_L_law_X11_piece
theorem gw_L_law_X12_piece : GoodIn vsL vsX12_piece := z_gdI (fun _ h => List.mem_append_right _ (List.mem_append_left _ (List.mem_append_right _ (List.mem_append_right _ (List.mem_append_right _ (List.mem_append_left _ h)))))) zgX12_piece
set_option maxRecDepth 20000 in
theorem gv_L_law_X12_piece_22 : GoodIn vsL (wsV RL 22 RX12 yX12_piece vsX12_piece) := goodIn_app (goodIn_r _ [31, 32, 33, 19] (by decide +kernel) (by decide +kernel)) gw_L_law_X12_piece
theorem gw_L_law_X11_player : GoodIn vsL vsX11_player := z_gdI (fun _ h => List.mem_append_right _ (List.mem_append_left _ (List.mem_append_right _ (List.mem_append_right _ (List.mem_append_right _ (List.mem_append_right _ (List.mem_append_left _ h))))))) zgX11_player
set_option maxRecDepth 20000 in
theorem gv_L_law_X11_player_23 : GoodIn vsL (wsV RL 23 RX11 yX11_player vsX11_player) := goodIn_app (goodIn_r _ [34, 35, 36, 15] (by decide +kernel) (by decide +kernel)) gw_L_law_X11_player
theorem gw_L_law_X12_player : GoodIn vsL vsX12_player := z_gdI (fun _ h => List.mem_append_right _ (List.mem_append_left _ (List.mem_append_right _ (List.mem_append_right _ (List.mem_append_right _ (List.mem_append_right _ (List.mem_append_right _ (List.mem_append_left _ h)))))))) zgX12_player
set_option maxRecDepth 20000 in
theorem gv_L_law_X12_player_27 : GoodIn vsL (wsV RL 27 RX12 yX12_player vsX12_player) := goodIn_app (goodIn_r _ [37, 38, 39, 19] (by decide +kernel) (by decide +kernel)) gw_L_law_X12_player
theorem gw_L_law_X11_line : GoodIn vsL vsX11_line := z_gdI (fun _ h => List.mem_append_right _ (List.mem_append_left _ (List.mem_append_right _ (List.mem_append_right _ (List.mem_append_right _ (List.mem_append_right _ (List.mem_append_right _ (List.mem_append_right _ (List.mem_append_left _ h))))))))) zgX11_line
set_option maxRecDepth 20000 in
theorem gv_L_law_X11_line_28 : GoodIn vsL (wsV RL 28 RX11 yX11_line vsX11_line) := goodIn_app (goodIn_r _ [40, 41, 42, 15] (by decide +kernel) (by decide +kernel)) gw_L_law_X11_line
theorem gw_L_law_X12_line : GoodIn vsL vsX12_line := z_gdI (fun _ h => List.mem_append_right _ (List.mem_append_left _ (List.mem_append_right _ (List.mem_append_right _ (List.mem_append_right _ (List.mem_append_right _ (List.mem_append_right _ (List.mem_append_right _ (List.mem_append_right _ (List.mem_append_left _ h)))))))))) zgX12_line
set_option maxRecDepth 20000 in
theorem gv_L_law_X12_line_31 : GoodIn vsL (wsV RL 31 RX12 yX12_line vsX12_line) := goodIn_app (goodIn_r _ [43, 44, 45, 19] (by decide +kernel) (by decide +kernel)) gw_L_law_X12_line
theorem gw_L_law_X11_cue : GoodIn vsL vsX11_cue := z_gdI (fun _ h => List.mem_append_right _ (List.mem_append_left _ (List.mem_append_right _ (List.mem_append_right _ (List.mem_append_right _ (List.mem_append_right _ (List.mem_append_right _ (List.mem_append_right _ (List.mem_append_right _ (List.mem_append_right _ (List.mem_append_left _ h))))))))))) zgX11_cue
set_option maxRecDepth 20000 in
theorem gv_L_law_X11_cue_32 : GoodIn vsL (wsV RL 32 RX11 yX11_cue vsX11_cue) := goodIn_app (goodIn_r _ [46, 47, 48, 15] (by decide +kernel) (by decide +kernel)) gw_L_law_X11_cue
theorem gw_L_law_X12_cue : GoodIn vsL vsX12_cue := z_gdI (fun _ h => List.mem_append_right _ (List.mem_append_left _ (List.mem_append_right _ (List.mem_append_right _ (List.mem_append_right _ (List.mem_append_right _ (List.mem_append_right _ (List.mem_append_right _ (List.mem_append_right _ (List.mem_append_right _ (List.mem_append_right _ (List.mem_append_left _ h)))))))))))) zgX12_cue
set_option maxRecDepth 20000 in
theorem gv_L_law_X12_cue_35 : GoodIn vsL (wsV RL 35 RX12 yX12_cue vsX12_cue) := goodIn_app (goodIn_r _ [49, 50, 51, 19] (by decide +kernel) (by decide +kernel)) gw_L_law_X12_cue
theorem gw_L_law_X11_speed : GoodIn vsL vsX11_speed := z_gdI (fun _ h => List.mem_append_right _ (List.mem_append_left _ (List.mem_append_right _ (List.mem_append_right _ (List.mem_append_right _ (List.mem_append_right _ (List.mem_append_right _ (List.mem_append_right _ (List.mem_append_right _ (List.mem_append_right _ (List.mem_append_right _ (List.mem_append_right _ (List.mem_append_left _ h))))))))))))) zgX11_speed
set_option maxRecDepth 20000 in
theorem gv_L_law_X11_speed_36 : GoodIn vsL (wsV RL 36 RX11 yX11_speed vsX11_speed) := goodIn_app (goodIn_r _ [52, 53, 54, 15] (by decide +kernel) (by decide +kernel)) gw_L_law_X11_speed
theorem gw_L_law_X12_speed : GoodIn vsL vsX12_speed := z_gdI (fun _ h => List.mem_append_right _ (List.mem_append_left _ (List.mem_append_right _ (List.mem_append_right _ (List.mem_append_right _ (List.mem_append_right _ (List.mem_append_right _ (List.mem_append_right _ (List.mem_append_right _ (List.mem_append_right _ (List.mem_append_right _ (List.mem_append_right _ (List.mem_append_right _ (List.mem_append_left _ h)))))))))))))) zgX12_speed
set_option maxRecDepth 20000 in
theorem gv_L_law_X12_speed_39 : GoodIn vsL (wsV RL 39 RX12 yX12_speed vsX12_speed) := goodIn_app (goodIn_r _ [55, 56, 57, 19] (by decide +kernel) (by decide +kernel)) gw_L_law_X12_speed
theorem gw_L_law_X11_lose : GoodIn vsL vsX11_lose := z_gdI (fun _ h => List.mem_append_right _ (List.mem_append_left _ (List.mem_append_right _ (List.mem_append_right _ (List.mem_append_right _ (List.mem_append_right _ (List.mem_append_right _ (List.mem_append_right _ (List.mem_append_right _ (List.mem_append_right _ (List.mem_append_right _ (List.mem_append_right _ (List.mem_append_right _ (List.mem_append_right _ (List.mem_append_left _ h))))))))))))))) zgX11_lose
set_option maxRecDepth 20000 in
theorem gv_L_law_X11_lose_40 : GoodIn vsL (wsV RL 40 RX11 yX11_lose vsX11_lose) := goodIn_app (goodIn_r _ [58, 59, 60, 15] (by decide +kernel) (by decide +kernel)) gw_L_law_X11_lose
theorem gw_L_law_X12_lose : GoodIn vsL vsX12_lose := z_gdI (fun _ h => List.mem_append_right _ (List.mem_append_left _ (List.mem_append_right _ (List.mem_append_right _ (List.mem_append_right _ (List.mem_append_right _ (List.mem_append_right _ (List.mem_append_right _ (List.mem_append_right _ (List.mem_append_right _ (List.mem_append_right _ (List.mem_append_right _ (List.mem_append_right _ (List.mem_append_right _ (List.mem_append_right _ (List.mem_append_left _ h)))))))))))))))) zgX12_lose
set_option maxRecDepth 20000 in
theorem gv_L_law_X12_lose_43 : GoodIn vsL (wsV RL 43 RX12 yX12_lose vsX12_lose) := goodIn_app (goodIn_r _ [61, 62, 63, 19] (by decide +kernel) (by decide +kernel)) gw_L_law_X12_lose
theorem gw_L_law_X11_comes : GoodIn vsL vsX11_comes := z_gdI (fun _ h => List.mem_append_right _ (List.mem_append_left _ (List.mem_append_right _ (List.mem_append_right _ (List.mem_append_right _ (List.mem_append_right _ (List.mem_append_right _ (List.mem_append_right _ (List.mem_append_right _ (List.mem_append_right _ (List.mem_append_right _ (List.mem_append_right _ (List.mem_append_right _ (List.mem_append_right _ (List.mem_append_right _ (List.mem_append_right _ (List.mem_append_left _ h))))))))))))))))) zgX11_comes
set_option maxRecDepth 20000 in
theorem gv_L_law_X11_comes_44 : GoodIn vsL (wsV RL 44 RX11 yX11_comes vsX11_comes) := goodIn_app (goodIn_r _ [64, 65, 66, 15] (by decide +kernel) (by decide +kernel)) gw_L_law_X11_comes
theorem gw_L_law_X12_comes : GoodIn vsL vsX12_comes := z_gdI (fun _ h => List.mem_append_right _ (List.mem_append_left _ (List.mem_append_right _ (List.mem_append_right _ (List.mem_append_right _ (List.mem_append_right _ (List.mem_append_right _ (List.mem_append_right _ (List.mem_append_right _ (List.mem_append_right _ (List.mem_append_right _ (List.mem_append_right _ (List.mem_append_right _ (List.mem_append_right _ (List.mem_append_right _ (List.mem_append_right _ (List.mem_append_right _ (List.mem_append_left _ h)))))))))))))))))) zgX12_comes
set_option maxRecDepth 20000 in
theorem gv_L_law_X12_comes_47 : GoodIn vsL (wsV RL 47 RX12 yX12_comes vsX12_comes) := goodIn_app (goodIn_r _ [67, 68, 69, 19] (by decide +kernel) (by decide +kernel)) gw_L_law_X12_comes
theorem gw_L_law_X11_say : GoodIn vsL vsX11_say := z_gdI (fun _ h => List.mem_append_right _ (List.mem_append_left _ (List.mem_append_right _ (List.mem_append_right _ (List.mem_append_right _ (List.mem_append_right _ (List.mem_append_right _ (List.mem_append_right _ (List.mem_append_right _ (List.mem_append_right _ (List.mem_append_right _ (List.mem_append_right _ (List.mem_append_right _ (List.mem_append_right _ (List.mem_append_right _ (List.mem_append_right _ (List.mem_append_right _ (List.mem_append_right _ (List.mem_append_left _ h))))))))))))))))))) zgX11_say
set_option maxRecDepth 20000 in
theorem gv_L_law_X11_say_48 : GoodIn vsL (wsV RL 48 RX11 yX11_say vsX11_say) := goodIn_app (goodIn_r _ [70, 71, 72, 15] (by decide +kernel) (by decide +kernel)) gw_L_law_X11_say
theorem gw_L_law_X12_say : GoodIn vsL vsX12_say := z_gdI (fun _ h => List.mem_append_right _ (List.mem_append_left _ (List.mem_append_right _ (List.mem_append_right _ (List.mem_append_right _ (List.mem_append_right _ (List.mem_append_right _ (List.mem_append_right _ (List.mem_append_right _ (List.mem_append_right _ (List.mem_append_right _ (List.mem_append_right _ (List.mem_append_right _ (List.mem_append_right _ (List.mem_append_right _ (List.mem_append_right _ (List.mem_append_right _ (List.mem_append_right _ (List.mem_append_right _ (List.mem_append_left _ h)))))))))))))))))))) zgX12_say
set_option maxRecDepth 20000 in
theorem gv_L_law_X12_say_51 : GoodIn vsL (wsV RL 51 RX12 yX12_say vsX12_say) := goodIn_app (goodIn_r _ [73, 74, 75, 19] (by decide +kernel) (by decide +kernel)) gw_L_law_X12_say
theorem gw_L_law_X11_again : GoodIn vsL vsX11_again := z_gdI (fun _ h => List.mem_append_right _ (List.mem_append_left _ (List.mem_append_right _ (List.mem_append_right _ (List.mem_append_right _ (List.mem_append_right _ (List.mem_append_right _ (List.mem_append_right _ (List.mem_append_right _ (List.mem_append_right _ (List.mem_append_right _ (List.mem_append_right _ (List.mem_append_right _ (List.mem_append_right _ (List.mem_append_right _ (List.mem_append_right _ (List.mem_append_right _ (List.mem_append_right _ (List.mem_append_right _ (List.mem_append_right _ (List.mem_append_left _ h))))))))))))))))))))) zgX11_again
set_option maxRecDepth 20000 in
theorem gv_L_law_X11_again_52 : GoodIn vsL (wsV RL 52 RX11 yX11_again vsX11_again) := goodIn_app (goodIn_r _ [76, 77, 78, 15] (by decide +kernel) (by decide +kernel)) gw_L_law_X11_again
theorem gw_L_law_X12_again : GoodIn vsL vsX12_again := z_gdI (fun _ h => List.mem_append_right _ (List.mem_append_left _ (List.mem_append_right _ (List.mem_append_right _ (List.mem_append_right _ (List.mem_append_right _ (List.mem_append_right _ (List.mem_append_right _ (List.mem_append_right _ (List.mem_append_right _ (List.mem_append_right _ (List.mem_append_right _ (List.mem_append_right _ (List.mem_append_right _ (List.mem_append_right _ (List.mem_append_right _ (List.mem_append_right _ (List.mem_append_right _ (List.mem_append_right _ (List.mem_append_right _ (List.mem_append_right _ (List.mem_append_left _ h)))))))))))))))))))))) zgX12_again
set_option maxRecDepth 20000 in
theorem gv_L_law_X12_again_55 : GoodIn vsL (wsV RL 55 RX12 yX12_again vsX12_again) := goodIn_app (goodIn_r _ [79, 80, 81, 19] (by decide +kernel) (by decide +kernel)) gw_L_law_X12_again
theorem gw_L_law_X11_night : GoodIn vsL vsX11_night := z_gdI (fun _ h => List.mem_append_right _ (List.mem_append_left _ (List.mem_append_right _ (List.mem_append_right _ (List.mem_append_right _ (List.mem_append_right _ (List.mem_append_right _ (List.mem_append_right _ (List.mem_append_right _ (List.mem_append_right _ (List.mem_append_right _ (List.mem_append_right _ (List.mem_append_right _ (List.mem_append_right _ (List.mem_append_right _ (List.mem_append_right _ (List.mem_append_right _ (List.mem_append_right _ (List.mem_append_right _ (List.mem_append_right _ (List.mem_append_right _ (List.mem_append_right _ (List.mem_append_left _ h))))))))))))))))))))))) zgX11_night
set_option maxRecDepth 20000 in
theorem gv_L_law_X11_night_56 : GoodIn vsL (wsV RL 56 RX11 yX11_night vsX11_night) := goodIn_app (goodIn_r _ [82, 83, 84, 15] (by decide +kernel) (by decide +kernel)) gw_L_law_X11_night
theorem gw_L_law_X12_night : GoodIn vsL vsX12_night := z_gdI (fun _ h => List.mem_append_right _ (List.mem_append_left _ (List.mem_append_right _ (List.mem_append_right _ (List.mem_append_right _ (List.mem_append_right _ (List.mem_append_right _ (List.mem_append_right _ (List.mem_append_right _ (List.mem_append_right _ (List.mem_append_right _ (List.mem_append_right _ (List.mem_append_right _ (List.mem_append_right _ (List.mem_append_right _ (List.mem_append_right _ (List.mem_append_right _ (List.mem_append_right _ (List.mem_append_right _ (List.mem_append_right _ (List.mem_append_right _ (List.mem_append_right _ (List.mem_append_right _ (List.mem_append_left _ h)))))))))))))))))))))))) zgX12_night
set_option maxRecDepth 20000 in
theorem gv_L_law_X12_night_59 : GoodIn vsL (wsV RL 59 RX12 yX12_night vsX12_night) := goodIn_app (goodIn_r _ [85, 86, 87, 19] (by decide +kernel) (by decide +kernel)) gw_L_law_X12_night
theorem gw_L_law_X11_goes : GoodIn vsL vsX11_goes := z_gdI (fun _ h => List.mem_append_right _ (List.mem_append_left _ (List.mem_append_right _ (List.mem_append_right _ (List.mem_append_right _ (List.mem_append_right _ (List.mem_append_right _ (List.mem_append_right _ (List.mem_append_right _ (List.mem_append_right _ (List.mem_append_right _ (List.mem_append_right _ (List.mem_append_right _ (List.mem_append_right _ (List.mem_append_right _ (List.mem_append_right _ (List.mem_append_right _ (List.mem_append_right _ (List.mem_append_right _ (List.mem_append_right _ (List.mem_append_right _ (List.mem_append_right _ (List.mem_append_right _ (List.mem_append_right _ (List.mem_append_left _ h))))))))))))))))))))))))) zgX11_goes
set_option maxRecDepth 20000 in
theorem gv_L_law_X11_goes_60 : GoodIn vsL (wsV RL 60 RX11 yX11_goes vsX11_goes) := goodIn_app (goodIn_r _ [88, 89, 90, 15] (by decide +kernel) (by decide +kernel)) gw_L_law_X11_goes
theorem gw_L_law_X12_goes : GoodIn vsL vsX12_goes := z_gdI (fun _ h => List.mem_append_right _ (List.mem_append_left _ (List.mem_append_right _ (List.mem_append_right _ (List.mem_append_right _ (List.mem_append_right _ (List.mem_append_right _ (List.mem_append_right _ (List.mem_append_right _ (List.mem_append_right _ (List.mem_append_right _ (List.mem_append_right _ (List.mem_append_right _ (List.mem_append_right _ (List.mem_append_right _ (List.mem_append_right _ (List.mem_append_right _ (List.mem_append_right _ (List.mem_append_right _ (List.mem_append_right _ (List.mem_append_right _ (List.mem_append_right _ (List.mem_append_right _ (List.mem_append_right _ (List.mem_append_right _ (List.mem_append_left _ h)))))))))))))))))))))))))) zgX12_goes
set_option maxRecDepth 20000 in
theorem gv_L_law_X12_goes_63 : GoodIn vsL (wsV RL 63 RX12 yX12_goes vsX12_goes) := goodIn_app (goodIn_r _ [91, 92, 93, 19] (by decide +kernel) (by decide +kernel)) gw_L_law_X12_goes
theorem gw_L_law_X11_follow : GoodIn vsL vsX11_follow := z_gdI (fun _ h => List.mem_append_right _ (List.mem_append_left _ (List.mem_append_right _ (List.mem_append_right _ (List.mem_append_right _ (List.mem_append_right _ (List.mem_append_right _ (List.mem_append_right _ (List.mem_append_right _ (List.mem_append_right _ (List.mem_append_right _ (List.mem_append_right _ (List.mem_append_right _ (List.mem_append_right _ (List.mem_append_right _ (List.mem_append_right _ (List.mem_append_right _ (List.mem_append_right _ (List.mem_append_right _ (List.mem_append_right _ (List.mem_append_right _ (List.mem_append_right _ (List.mem_append_right _ (List.mem_append_right _ (List.mem_append_right _ (List.mem_append_right _ (List.mem_append_left _ h))))))))))))))))))))))))))) zgX11_follow
set_option maxRecDepth 20000 in
theorem gv_L_law_X11_follow_64 : GoodIn vsL (wsV RL 64 RX11 yX11_follow vsX11_follow) := goodIn_app (goodIn_r _ [94, 95, 96, 15] (by decide +kernel) (by decide +kernel)) gw_L_law_X11_follow
theorem gw_L_law_X12_follow : GoodIn vsL vsX12_follow := z_gdI (fun _ h => List.mem_append_right _ (List.mem_append_left _ (List.mem_append_right _ (List.mem_append_right _ (List.mem_append_right _ (List.mem_append_right _ (List.mem_append_right _ (List.mem_append_right _ (List.mem_append_right _ (List.mem_append_right _ (List.mem_append_right _ (List.mem_append_right _ (List.mem_append_right _ (List.mem_append_right _ (List.mem_append_right _ (List.mem_append_right _ (List.mem_append_right _ (List.mem_append_right _ (List.mem_append_right _ (List.mem_append_right _ (List.mem_append_right _ (List.mem_append_right _ (List.mem_append_right _ (List.mem_append_right _ (List.mem_append_right _ (List.mem_append_right _ (List.mem_append_right _ (List.mem_append_left _ h)))))))))))))))))))))))))))) zgX12_follow
set_option maxRecDepth 20000 in
theorem gv_L_law_X12_follow_67 : GoodIn vsL (wsV RL 67 RX12 yX12_follow vsX12_follow) := goodIn_app (goodIn_r _ [97, 98, 99, 19] (by decide +kernel) (by decide +kernel)) gw_L_law_X12_follow
theorem gw_L_law_X11_net : GoodIn vsL vsX11_net := z_gdI (fun _ h => List.mem_append_right _ (List.mem_append_left _ (List.mem_append_right _ (List.mem_append_right _ (List.mem_append_right _ (List.mem_append_right _ (List.mem_append_right _ (List.mem_append_right _ (List.mem_append_right _ (List.mem_append_right _ (List.mem_append_right _ (List.mem_append_right _ (List.mem_append_right _ (List.mem_append_right _ (List.mem_append_right _ (List.mem_append_right _ (List.mem_append_right _ (List.mem_append_right _ (List.mem_append_right _ (List.mem_append_right _ (List.mem_append_right _ (List.mem_append_right _ (List.mem_append_right _ (List.mem_append_right _ (List.mem_append_right _ (List.mem_append_right _ (List.mem_append_right _ (List.mem_append_right _ (List.mem_append_left _ h))))))))))))))))))))))))))))) zgX11_net
set_option maxRecDepth 20000 in
theorem gv_L_law_X11_net_68 : GoodIn vsL (wsV RL 68 RX11 yX11_net vsX11_net) := goodIn_app (goodIn_r _ [100, 101, 102, 15] (by decide +kernel) (by decide +kernel)) gw_L_law_X11_net
theorem gw_L_law_X12_net : GoodIn vsL vsX12_net := z_gdI (fun _ h => List.mem_append_right _ (List.mem_append_left _ (List.mem_append_right _ (List.mem_append_right _ (List.mem_append_right _ (List.mem_append_right _ (List.mem_append_right _ (List.mem_append_right _ (List.mem_append_right _ (List.mem_append_right _ (List.mem_append_right _ (List.mem_append_right _ (List.mem_append_right _ (List.mem_append_right _ (List.mem_append_right _ (List.mem_append_right _ (List.mem_append_right _ (List.mem_append_right _ (List.mem_append_right _ (List.mem_append_right _ (List.mem_append_right _ (List.mem_append_right _ (List.mem_append_right _ (List.mem_append_right _ (List.mem_append_right _ (List.mem_append_right _ (List.mem_append_right _ (List.mem_append_right _ (List.mem_append_right _ (List.mem_append_left _ h)))))))))))))))))))))))))))))) zgX12_net
set_option maxRecDepth 20000 in
theorem gv_L_law_X12_net_71 : GoodIn vsL (wsV RL 71 RX12 yX12_net vsX12_net) := goodIn_app (goodIn_r _ [103, 104, 105, 19] (by decide +kernel) (by decide +kernel)) gw_L_law_X12_net
theorem gw_L_law_X11_mend : GoodIn vsL vsX11_mend := z_gdI (fun _ h => List.mem_append_right _ (List.mem_append_left _ (List.mem_append_right _ (List.mem_append_right _ (List.mem_append_right _ (List.mem_append_right _ (List.mem_append_right _ (List.mem_append_right _ (List.mem_append_right _ (List.mem_append_right _ (List.mem_append_right _ (List.mem_append_right _ (List.mem_append_right _ (List.mem_append_right _ (List.mem_append_right _ (List.mem_append_right _ (List.mem_append_right _ (List.mem_append_right _ (List.mem_append_right _ (List.mem_append_right _ (List.mem_append_right _ (List.mem_append_right _ (List.mem_append_right _ (List.mem_append_right _ (List.mem_append_right _ (List.mem_append_right _ (List.mem_append_right _ (List.mem_append_right _ (List.mem_append_right _ (List.mem_append_right _ (List.mem_append_left _ h))))))))))))))))))))))))))))))) zgX11_mend
set_option maxRecDepth 20000 in
theorem gv_L_law_X11_mend_72 : GoodIn vsL (wsV RL 72 RX11 yX11_mend vsX11_mend) := goodIn_app (goodIn_r _ [106, 107, 108, 15] (by decide +kernel) (by decide +kernel)) gw_L_law_X11_mend
theorem gw_L_law_X12_mend : GoodIn vsL vsX12_mend := z_gdI (fun _ h => List.mem_append_right _ (List.mem_append_left _ (List.mem_append_right _ (List.mem_append_right _ (List.mem_append_right _ (List.mem_append_right _ (List.mem_append_right _ (List.mem_append_right _ (List.mem_append_right _ (List.mem_append_right _ (List.mem_append_right _ (List.mem_append_right _ (List.mem_append_right _ (List.mem_append_right _ (List.mem_append_right _ (List.mem_append_right _ (List.mem_append_right _ (List.mem_append_right _ (List.mem_append_right _ (List.mem_append_right _ (List.mem_append_right _ (List.mem_append_right _ (List.mem_append_right _ (List.mem_append_right _ (List.mem_append_right _ (List.mem_append_right _ (List.mem_append_right _ (List.mem_append_right _ (List.mem_append_right _ (List.mem_append_right _ (List.mem_append_right _ (List.mem_append_left _ h)))))))))))))))))))))))))))))))) zgX12_mend
set_option maxRecDepth 20000 in
theorem gv_L_law_X12_mend_75 : GoodIn vsL (wsV RL 75 RX12 yX12_mend vsX12_mend) := goodIn_app (goodIn_r _ [109, 110, 111, 19] (by decide +kernel) (by decide +kernel)) gw_L_law_X12_mend
theorem gw_L_law_X11_mendOf : GoodIn vsL vsX11_mendOf := z_gdI (fun _ h => List.mem_append_right _ (List.mem_append_left _ (List.mem_append_right _ (List.mem_append_right _ (List.mem_append_right _ (List.mem_append_right _ (List.mem_append_right _ (List.mem_append_right _ (List.mem_append_right _ (List.mem_append_right _ (List.mem_append_right _ (List.mem_append_right _ (List.mem_append_right _ (List.mem_append_right _ (List.mem_append_right _ (List.mem_append_right _ (List.mem_append_right _ (List.mem_append_right _ (List.mem_append_right _ (List.mem_append_right _ (List.mem_append_right _ (List.mem_append_right _ (List.mem_append_right _ (List.mem_append_right _ (List.mem_append_right _ (List.mem_append_right _ (List.mem_append_right _ (List.mem_append_right _ (List.mem_append_right _ (List.mem_append_right _ (List.mem_append_right _ (List.mem_append_right _ (List.mem_append_left _ h))))))))))))))))))))))))))))))))) zgX11_mendOf
set_option maxRecDepth 20000 in
theorem gv_L_law_X11_mendOf_76 : GoodIn vsL (wsV RL 76 RX11 yX11_mendOf vsX11_mendOf) := goodIn_app (goodIn_r _ [112, 113, 114, 15] (by decide +kernel) (by decide +kernel)) gw_L_law_X11_mendOf
theorem gw_L_law_X12_mendOf : GoodIn vsL vsX12_mendOf := z_gdI (fun _ h => List.mem_append_right _ (List.mem_append_left _ (List.mem_append_right _ (List.mem_append_right _ (List.mem_append_right _ (List.mem_append_right _ (List.mem_append_right _ (List.mem_append_right _ (List.mem_append_right _ (List.mem_append_right _ (List.mem_append_right _ (List.mem_append_right _ (List.mem_append_right _ (List.mem_append_right _ (List.mem_append_right _ (List.mem_append_right _ (List.mem_append_right _ (List.mem_append_right _ (List.mem_append_right _ (List.mem_append_right _ (List.mem_append_right _ (List.mem_append_right _ (List.mem_append_right _ (List.mem_append_right _ (List.mem_append_right _ (List.mem_append_right _ (List.mem_append_right _ (List.mem_append_right _ (List.mem_append_right _ (List.mem_append_right _ (List.mem_append_right _ (List.mem_append_right _ (List.mem_append_right _ (List.mem_append_left _ h)))))))))))))))))))))))))))))))))) zgX12_mendOf
set_option maxRecDepth 20000 in
theorem gv_L_law_X12_mendOf_79 : GoodIn vsL (wsV RL 79 RX12 yX12_mendOf vsX12_mendOf) := goodIn_app (goodIn_r _ [115, 116, 117, 19] (by decide +kernel) (by decide +kernel)) gw_L_law_X12_mendOf
theorem gw_L_law_X11_prompted : GoodIn vsL vsX11_prompted := z_gdI (fun _ h => List.mem_append_right _ (List.mem_append_left _ (List.mem_append_right _ (List.mem_append_right _ (List.mem_append_right _ (List.mem_append_right _ (List.mem_append_right _ (List.mem_append_right _ (List.mem_append_right _ (List.mem_append_right _ (List.mem_append_right _ (List.mem_append_right _ (List.mem_append_right _ (List.mem_append_right _ (List.mem_append_right _ (List.mem_append_right _ (List.mem_append_right _ (List.mem_append_right _ (List.mem_append_right _ (List.mem_append_right _ (List.mem_append_right _ (List.mem_append_right _ (List.mem_append_right _ (List.mem_append_right _ (List.mem_append_right _ (List.mem_append_right _ (List.mem_append_right _ (List.mem_append_right _ (List.mem_append_right _ (List.mem_append_right _ (List.mem_append_right _ (List.mem_append_right _ (List.mem_append_right _ (List.mem_append_right _ (List.mem_append_left _ h))))))))))))))))))))))))))))))))))) zgX11_prompted
set_option maxRecDepth 20000 in
theorem gv_L_law_X11_prompted_80 : GoodIn vsL (wsV RL 80 RX11 yX11_prompted vsX11_prompted) := goodIn_app (goodIn_r _ [118, 119, 120, 15] (by decide +kernel) (by decide +kernel)) gw_L_law_X11_prompted
theorem gw_L_law_X12_prompted : GoodIn vsL vsX12_prompted := z_gdI (fun _ h => List.mem_append_right _ (List.mem_append_left _ (List.mem_append_right _ (List.mem_append_right _ (List.mem_append_right _ (List.mem_append_right _ (List.mem_append_right _ (List.mem_append_right _ (List.mem_append_right _ (List.mem_append_right _ (List.mem_append_right _ (List.mem_append_right _ (List.mem_append_right _ (List.mem_append_right _ (List.mem_append_right _ (List.mem_append_right _ (List.mem_append_right _ (List.mem_append_right _ (List.mem_append_right _ (List.mem_append_right _ (List.mem_append_right _ (List.mem_append_right _ (List.mem_append_right _ (List.mem_append_right _ (List.mem_append_right _ (List.mem_append_right _ (List.mem_append_right _ (List.mem_append_right _ (List.mem_append_right _ (List.mem_append_right _ (List.mem_append_right _ (List.mem_append_right _ (List.mem_append_right _ (List.mem_append_right _ (List.mem_append_right _ (List.mem_append_left _ h)))))))))))))))))))))))))))))))))))) zgX12_prompted
set_option maxRecDepth 20000 in
theorem gv_L_law_X12_prompted_83 : GoodIn vsL (wsV RL 83 RX12 yX12_prompted vsX12_prompted) := goodIn_app (goodIn_r _ [121, 122, 123, 19] (by decide +kernel) (by decide +kernel)) gw_L_law_X12_prompted
theorem gw_L_law_X11_home : GoodIn vsL vsX11_home := z_gdI (fun _ h => List.mem_append_right _ (List.mem_append_left _ (List.mem_append_right _ (List.mem_append_right _ (List.mem_append_right _ (List.mem_append_right _ (List.mem_append_right _ (List.mem_append_right _ (List.mem_append_right _ (List.mem_append_right _ (List.mem_append_right _ (List.mem_append_right _ (List.mem_append_right _ (List.mem_append_right _ (List.mem_append_right _ (List.mem_append_right _ (List.mem_append_right _ (List.mem_append_right _ (List.mem_append_right _ (List.mem_append_right _ (List.mem_append_right _ (List.mem_append_right _ (List.mem_append_right _ (List.mem_append_right _ (List.mem_append_right _ (List.mem_append_right _ (List.mem_append_right _ (List.mem_append_right _ (List.mem_append_right _ (List.mem_append_right _ (List.mem_append_right _ (List.mem_append_right _ (List.mem_append_right _ (List.mem_append_right _ (List.mem_append_right _ (List.mem_append_right _ (List.mem_append_left _ h))))))))))))))))))))))))))))))))))))) zgX11_home
set_option maxRecDepth 20000 in
theorem gv_L_law_X11_home_84 : GoodIn vsL (wsV RL 84 RX11 yX11_home vsX11_home) := goodIn_app (goodIn_r _ [124, 125, 126, 15] (by decide +kernel) (by decide +kernel)) gw_L_law_X11_home
theorem gw_L_law_X12_home : GoodIn vsL vsX12_home := z_gdI (fun _ h => List.mem_append_right _ (List.mem_append_left _ (List.mem_append_right _ (List.mem_append_right _ (List.mem_append_right _ (List.mem_append_right _ (List.mem_append_right _ (List.mem_append_right _ (List.mem_append_right _ (List.mem_append_right _ (List.mem_append_right _ (List.mem_append_right _ (List.mem_append_right _ (List.mem_append_right _ (List.mem_append_right _ (List.mem_append_right _ (List.mem_append_right _ (List.mem_append_right _ (List.mem_append_right _ (List.mem_append_right _ (List.mem_append_right _ (List.mem_append_right _ (List.mem_append_right _ (List.mem_append_right _ (List.mem_append_right _ (List.mem_append_right _ (List.mem_append_right _ (List.mem_append_right _ (List.mem_append_right _ (List.mem_append_right _ (List.mem_append_right _ (List.mem_append_right _ (List.mem_append_right _ (List.mem_append_right _ (List.mem_append_right _ (List.mem_append_right _ (List.mem_append_right _ (List.mem_append_left _ h)))))))))))))))))))))))))))))))))))))) zgX12_home
set_option maxRecDepth 20000 in
theorem gv_L_law_X12_home_88 : GoodIn vsL (wsV RL 88 RX12 yX12_home vsX12_home) := goodIn_app (goodIn_r _ [127, 128, 129, 19] (by decide +kernel) (by decide +kernel)) gw_L_law_X12_home
theorem gw_L_law_X11_without : GoodIn vsL vsX11_without := z_gdI (fun _ h => List.mem_append_right _ (List.mem_append_left _ (List.mem_append_right _ (List.mem_append_right _ (List.mem_append_right _ (List.mem_append_right _ (List.mem_append_right _ (List.mem_append_right _ (List.mem_append_right _ (List.mem_append_right _ (List.mem_append_right _ (List.mem_append_right _ (List.mem_append_right _ (List.mem_append_right _ (List.mem_append_right _ (List.mem_append_right _ (List.mem_append_right _ (List.mem_append_right _ (List.mem_append_right _ (List.mem_append_right _ (List.mem_append_right _ (List.mem_append_right _ (List.mem_append_right _ (List.mem_append_right _ (List.mem_append_right _ (List.mem_append_right _ (List.mem_append_right _ (List.mem_append_right _ (List.mem_append_right _ (List.mem_append_right _ (List.mem_append_right _ (List.mem_append_right _ (List.mem_append_right _ (List.mem_append_right _ (List.mem_append_right _ (List.mem_append_right _ (List.mem_append_right _ (List.mem_append_right _ (List.mem_append_left _ h))))))))))))))))))))))))))))))))))))))) zgX11_without
set_option maxRecDepth 20000 in
theorem gv_L_law_X11_without_89 : GoodIn vsL (wsV RL 89 RX11 yX11_without vsX11_without) := goodIn_app (goodIn_r _ [130, 131, 132, 15] (by decide +kernel) (by decide +kernel)) gw_L_law_X11_without
theorem gw_L_law_X12_without : GoodIn vsL vsX12_without := z_gdI (fun _ h => List.mem_append_right _ (List.mem_append_left _ (List.mem_append_right _ (List.mem_append_right _ (List.mem_append_right _ (List.mem_append_right _ (List.mem_append_right _ (List.mem_append_right _ (List.mem_append_right _ (List.mem_append_right _ (List.mem_append_right _ (List.mem_append_right _ (List.mem_append_right _ (List.mem_append_right _ (List.mem_append_right _ (List.mem_append_right _ (List.mem_append_right _ (List.mem_append_right _ (List.mem_append_right _ (List.mem_append_right _ (List.mem_append_right _ (List.mem_append_right _ (List.mem_append_right _ (List.mem_append_right _ (List.mem_append_right _ (List.mem_append_right _ (List.mem_append_right _ (List.mem_append_right _ (List.mem_append_right _ (List.mem_append_right _ (List.mem_append_right _ (List.mem_append_right _ (List.mem_append_right _ (List.mem_append_right _ (List.mem_append_right _ (List.mem_append_right _ (List.mem_append_right _ (List.mem_append_right _ (List.mem_append_right _ (List.mem_append_left _ h)))))))))))))))))))))))))))))))))))))))) zgX12_without
set_option maxRecDepth 20000 in
theorem gv_L_law_X12_without_92 : GoodIn vsL (wsV RL 92 RX12 yX12_without vsX12_without) := goodIn_app (goodIn_r _ [133, 134, 135, 19] (by decide +kernel) (by decide +kernel)) gw_L_law_X12_without
theorem gw_L_law_X11_leastHarm : GoodIn vsL vsX11_leastHarm := z_gdI (fun _ h => List.mem_append_right _ (List.mem_append_left _ (List.mem_append_right _ (List.mem_append_right _ (List.mem_append_right _ (List.mem_append_right _ (List.mem_append_right _ (List.mem_append_right _ (List.mem_append_right _ (List.mem_append_right _ (List.mem_append_right _ (List.mem_append_right _ (List.mem_append_right _ (List.mem_append_right _ (List.mem_append_right _ (List.mem_append_right _ (List.mem_append_right _ (List.mem_append_right _ (List.mem_append_right _ (List.mem_append_right _ (List.mem_append_right _ (List.mem_append_right _ (List.mem_append_right _ (List.mem_append_right _ (List.mem_append_right _ (List.mem_append_right _ (List.mem_append_right _ (List.mem_append_right _ (List.mem_append_right _ (List.mem_append_right _ (List.mem_append_right _ (List.mem_append_right _ (List.mem_append_right _ (List.mem_append_right _ (List.mem_append_right _ (List.mem_append_right _ (List.mem_append_right _ (List.mem_append_right _ (List.mem_append_right _ (List.mem_append_right _ (List.mem_append_left _ h))))))))))))))))))))))))))))))))))))))))) zgX11_leastHarm
set_option maxRecDepth 20000 in
theorem gv_L_law_X11_leastHarm_93 : GoodIn vsL (wsV RL 93 RX11 yX11_leastHarm vsX11_leastHarm) := goodIn_app (goodIn_r _ [136, 137, 138, 15] (by decide +kernel) (by decide +kernel)) gw_L_law_X11_leastHarm
theorem gw_L_law_X12_leastHarm : GoodIn vsL vsX12_leastHarm := z_gdI (fun _ h => List.mem_append_right _ (List.mem_append_left _ (List.mem_append_right _ (List.mem_append_right _ (List.mem_append_right _ (List.mem_append_right _ (List.mem_append_right _ (List.mem_append_right _ (List.mem_append_right _ (List.mem_append_right _ (List.mem_append_right _ (List.mem_append_right _ (List.mem_append_right _ (List.mem_append_right _ (List.mem_append_right _ (List.mem_append_right _ (List.mem_append_right _ (List.mem_append_right _ (List.mem_append_right _ (List.mem_append_right _ (List.mem_append_right _ (List.mem_append_right _ (List.mem_append_right _ (List.mem_append_right _ (List.mem_append_right _ (List.mem_append_right _ (List.mem_append_right _ (List.mem_append_right _ (List.mem_append_right _ (List.mem_append_right _ (List.mem_append_right _ (List.mem_append_right _ (List.mem_append_right _ (List.mem_append_right _ (List.mem_append_right _ (List.mem_append_right _ (List.mem_append_right _ (List.mem_append_right _ (List.mem_append_right _ (List.mem_append_right _ (List.mem_append_right _ (List.mem_append_left _ h)))))))))))))))))))))))))))))))))))))))))) zgX12_leastHarm
set_option maxRecDepth 20000 in
theorem gv_L_law_X12_leastHarm_96 : GoodIn vsL (wsV RL 96 RX12 yX12_leastHarm vsX12_leastHarm) := goodIn_app (goodIn_r _ [139, 140, 141, 19] (by decide +kernel) (by decide +kernel)) gw_L_law_X12_leastHarm
theorem gw_L_law_X11_joke : GoodIn vsL vsX11_joke := z_gdI (fun _ h => List.mem_append_right _ (List.mem_append_left _ (List.mem_append_right _ (List.mem_append_right _ (List.mem_append_right _ (List.mem_append_right _ (List.mem_append_right _ (List.mem_append_right _ (List.mem_append_right _ (List.mem_append_right _ (List.mem_append_right _ (List.mem_append_right _ (List.mem_append_right _ (List.mem_append_right _ (List.mem_append_right _ (List.mem_append_right _ (List.mem_append_right _ (List.mem_append_right _ (List.mem_append_right _ (List.mem_append_right _ (List.mem_append_right _ (List.mem_append_right _ (List.mem_append_right _ (List.mem_append_right _ (List.mem_append_right _ (List.mem_append_right _ (List.mem_append_right _ (List.mem_append_right _ (List.mem_append_right _ (List.mem_append_right _ (List.mem_append_right _ (List.mem_append_right _ (List.mem_append_right _ (List.mem_append_right _ (List.mem_append_right _ (List.mem_append_right _ (List.mem_append_right _ (List.mem_append_right _ (List.mem_append_right _ (List.mem_append_right _ (List.mem_append_right _ (List.mem_append_right _ (List.mem_append_left _ h))))))))))))))))))))))))))))))))))))))))))) zgX11_joke
set_option maxRecDepth 20000 in
theorem gv_L_law_X11_joke_97 : GoodIn vsL (wsV RL 97 RX11 yX11_joke vsX11_joke) := goodIn_app (goodIn_r _ [142, 143, 144, 15] (by decide +kernel) (by decide +kernel)) gw_L_law_X11_joke
theorem gw_L_law_X12_joke : GoodIn vsL vsX12_joke := z_gdI (fun _ h => List.mem_append_right _ (List.mem_append_left _ (List.mem_append_right _ (List.mem_append_right _ (List.mem_append_right _ (List.mem_append_right _ (List.mem_append_right _ (List.mem_append_right _ (List.mem_append_right _ (List.mem_append_right _ (List.mem_append_right _ (List.mem_append_right _ (List.mem_append_right _ (List.mem_append_right _ (List.mem_append_right _ (List.mem_append_right _ (List.mem_append_right _ (List.mem_append_right _ (List.mem_append_right _ (List.mem_append_right _ (List.mem_append_right _ (List.mem_append_right _ (List.mem_append_right _ (List.mem_append_right _ (List.mem_append_right _ (List.mem_append_right _ (List.mem_append_right _ (List.mem_append_right _ (List.mem_append_right _ (List.mem_append_right _ (List.mem_append_right _ (List.mem_append_right _ (List.mem_append_right _ (List.mem_append_right _ (List.mem_append_right _ (List.mem_append_right _ (List.mem_append_right _ (List.mem_append_right _ (List.mem_append_right _ (List.mem_append_right _ (List.mem_append_right _ (List.mem_append_right _ (List.mem_append_right _ (List.mem_append_left _ h)))))))))))))))))))))))))))))))))))))))))))) zgX12_joke
set_option maxRecDepth 20000 in
theorem gv_L_law_X12_joke_100 : GoodIn vsL (wsV RL 100 RX12 yX12_joke vsX12_joke) := goodIn_app (goodIn_r _ [145, 146, 147, 19] (by decide +kernel) (by decide +kernel)) gw_L_law_X12_joke
theorem gw_L_law_X11_stretched : GoodIn vsL vsX11_stretched := z_gdI (fun _ h => List.mem_append_right _ (List.mem_append_left _ (List.mem_append_right _ (List.mem_append_right _ (List.mem_append_right _ (List.mem_append_right _ (List.mem_append_right _ (List.mem_append_right _ (List.mem_append_right _ (List.mem_append_right _ (List.mem_append_right _ (List.mem_append_right _ (List.mem_append_right _ (List.mem_append_right _ (List.mem_append_right _ (List.mem_append_right _ (List.mem_append_right _ (List.mem_append_right _ (List.mem_append_right _ (List.mem_append_right _ (List.mem_append_right _ (List.mem_append_right _ (List.mem_append_right _ (List.mem_append_right _ (List.mem_append_right _ (List.mem_append_right _ (List.mem_append_right _ (List.mem_append_right _ (List.mem_append_right _ (List.mem_append_right _ (List.mem_append_right _ (List.mem_append_right _ (List.mem_append_right _ (List.mem_append_right _ (List.mem_append_right _ (List.mem_append_right _ (List.mem_append_right _ (List.mem_append_right _ (List.mem_append_right _ (List.mem_append_right _ (List.mem_append_right _ (List.mem_append_right _ (List.mem_append_right _ (List.mem_append_right _ (List.mem_append_left _ h))))))))))))))))))))))))))))))))))))))))))))) zgX11_stretched
set_option maxRecDepth 20000 in
theorem gv_L_law_X11_stretched_101 : GoodIn vsL (wsV RL 101 RX11 yX11_stretched vsX11_stretched) := goodIn_app (goodIn_r _ [148, 149, 150, 15] (by decide +kernel) (by decide +kernel)) gw_L_law_X11_stretched
theorem gw_L_law_X12_stretched : GoodIn vsL vsX12_stretched := z_gdI (fun _ h => List.mem_append_right _ (List.mem_append_left _ (List.mem_append_right _ (List.mem_append_right _ (List.mem_append_right _ (List.mem_append_right _ (List.mem_append_right _ (List.mem_append_right _ (List.mem_append_right _ (List.mem_append_right _ (List.mem_append_right _ (List.mem_append_right _ (List.mem_append_right _ (List.mem_append_right _ (List.mem_append_right _ (List.mem_append_right _ (List.mem_append_right _ (List.mem_append_right _ (List.mem_append_right _ (List.mem_append_right _ (List.mem_append_right _ (List.mem_append_right _ (List.mem_append_right _ (List.mem_append_right _ (List.mem_append_right _ (List.mem_append_right _ (List.mem_append_right _ (List.mem_append_right _ (List.mem_append_right _ (List.mem_append_right _ (List.mem_append_right _ (List.mem_append_right _ (List.mem_append_right _ (List.mem_append_right _ (List.mem_append_right _ (List.mem_append_right _ (List.mem_append_right _ (List.mem_append_right _ (List.mem_append_right _ (List.mem_append_right _ (List.mem_append_right _ (List.mem_append_right _ (List.mem_append_right _ (List.mem_append_right _ (List.mem_append_right _ (List.mem_append_left _ h)))))))))))))))))))))))))))))))))))))))))))))) zgX12_stretched
set_option maxRecDepth 20000 in
theorem gv_L_law_X12_stretched_104 : GoodIn vsL (wsV RL 104 RX12 yX12_stretched vsX12_stretched) := goodIn_app (goodIn_r _ [151, 152, 153, 19] (by decide +kernel) (by decide +kernel)) gw_L_law_X12_stretched
theorem gw_L_law_X11_parts : GoodIn vsL vsX11_parts := z_gdI (fun _ h => List.mem_append_right _ (List.mem_append_left _ (List.mem_append_right _ (List.mem_append_right _ (List.mem_append_right _ (List.mem_append_right _ (List.mem_append_right _ (List.mem_append_right _ (List.mem_append_right _ (List.mem_append_right _ (List.mem_append_right _ (List.mem_append_right _ (List.mem_append_right _ (List.mem_append_right _ (List.mem_append_right _ (List.mem_append_right _ (List.mem_append_right _ (List.mem_append_right _ (List.mem_append_right _ (List.mem_append_right _ (List.mem_append_right _ (List.mem_append_right _ (List.mem_append_right _ (List.mem_append_right _ (List.mem_append_right _ (List.mem_append_right _ (List.mem_append_right _ (List.mem_append_right _ (List.mem_append_right _ (List.mem_append_right _ (List.mem_append_right _ (List.mem_append_right _ (List.mem_append_right _ (List.mem_append_right _ (List.mem_append_right _ (List.mem_append_right _ (List.mem_append_right _ (List.mem_append_right _ (List.mem_append_right _ (List.mem_append_right _ (List.mem_append_right _ (List.mem_append_right _ (List.mem_append_right _ (List.mem_append_right _ (List.mem_append_right _ (List.mem_append_right _ (List.mem_append_left _ h))))))))))))))))))))))))))))))))))))))))))))))) zgX11_parts
set_option maxRecDepth 20000 in
theorem gv_L_law_X11_parts_105 : GoodIn vsL (wsV RL 105 RX11 yX11_parts vsX11_parts) := goodIn_app (goodIn_r _ [154, 155, 156, 15] (by decide +kernel) (by decide +kernel)) gw_L_law_X11_parts
theorem gw_L_law_X12_parts : GoodIn vsL vsX12_parts := z_gdI (fun _ h => List.mem_append_right _ (List.mem_append_left _ (List.mem_append_right _ (List.mem_append_right _ (List.mem_append_right _ (List.mem_append_right _ (List.mem_append_right _ (List.mem_append_right _ (List.mem_append_right _ (List.mem_append_right _ (List.mem_append_right _ (List.mem_append_right _ (List.mem_append_right _ (List.mem_append_right _ (List.mem_append_right _ (List.mem_append_right _ (List.mem_append_right _ (List.mem_append_right _ (List.mem_append_right _ (List.mem_append_right _ (List.mem_append_right _ (List.mem_append_right _ (List.mem_append_right _ (List.mem_append_right _ (List.mem_append_right _ (List.mem_append_right _ (List.mem_append_right _ (List.mem_append_right _ (List.mem_append_right _ (List.mem_append_right _ (List.mem_append_right _ (List.mem_append_right _ (List.mem_append_right _ (List.mem_append_right _ (List.mem_append_right _ (List.mem_append_right _ (List.mem_append_right _ (List.mem_append_right _ (List.mem_append_right _ (List.mem_append_right _ (List.mem_append_right _ (List.mem_append_right _ (List.mem_append_right _ (List.mem_append_right _ (List.mem_append_right _ (List.mem_append_right _ (List.mem_append_right _ (List.mem_append_left _ h)))))))))))))))))))))))))))))))))))))))))))))))) zgX12_parts
set_option maxRecDepth 20000 in
theorem gv_L_law_X12_parts_108 : GoodIn vsL (wsV RL 108 RX12 yX12_parts vsX12_parts) := goodIn_app (goodIn_r _ [157, 158, 159, 19] (by decide +kernel) (by decide +kernel)) gw_L_law_X12_parts
theorem gw_L_law_X11_books : GoodIn vsL vsX11_books := z_gdI (fun _ h => List.mem_append_right _ (List.mem_append_left _ (List.mem_append_right _ (List.mem_append_right _ (List.mem_append_right _ (List.mem_append_right _ (List.mem_append_right _ (List.mem_append_right _ (List.mem_append_right _ (List.mem_append_right _ (List.mem_append_right _ (List.mem_append_right _ (List.mem_append_right _ (List.mem_append_right _ (List.mem_append_right _ (List.mem_append_right _ (List.mem_append_right _ (List.mem_append_right _ (List.mem_append_right _ (List.mem_append_right _ (List.mem_append_right _ (List.mem_append_right _ (List.mem_append_right _ (List.mem_append_right _ (List.mem_append_right _ (List.mem_append_right _ (List.mem_append_right _ (List.mem_append_right _ (List.mem_append_right _ (List.mem_append_right _ (List.mem_append_right _ (List.mem_append_right _ (List.mem_append_right _ (List.mem_append_right _ (List.mem_append_right _ (List.mem_append_right _ (List.mem_append_right _ (List.mem_append_right _ (List.mem_append_right _ (List.mem_append_right _ (List.mem_append_right _ (List.mem_append_right _ (List.mem_append_right _ (List.mem_append_right _ (List.mem_append_right _ (List.mem_append_right _ (List.mem_append_right _ (List.mem_append_right _ (List.mem_append_left _ h))))))))))))))))))))))))))))))))))))))))))))))))) zgX11_books
set_option maxRecDepth 20000 in
theorem gv_L_law_X11_books_109 : GoodIn vsL (wsV RL 109 RX11 yX11_books vsX11_books) := goodIn_app (goodIn_r _ [160, 161, 162, 15] (by decide +kernel) (by decide +kernel)) gw_L_law_X11_books
theorem gw_L_law_X12_books : GoodIn vsL vsX12_books := z_gdI (fun _ h => List.mem_append_right _ (List.mem_append_left _ (List.mem_append_right _ (List.mem_append_right _ (List.mem_append_right _ (List.mem_append_right _ (List.mem_append_right _ (List.mem_append_right _ (List.mem_append_right _ (List.mem_append_right _ (List.mem_append_right _ (List.mem_append_right _ (List.mem_append_right _ (List.mem_append_right _ (List.mem_append_right _ (List.mem_append_right _ (List.mem_append_right _ (List.mem_append_right _ (List.mem_append_right _ (List.mem_append_right _ (List.mem_append_right _ (List.mem_append_right _ (List.mem_append_right _ (List.mem_append_right _ (List.mem_append_right _ (List.mem_append_right _ (List.mem_append_right _ (List.mem_append_right _ (List.mem_append_right _ (List.mem_append_right _ (List.mem_append_right _ (List.mem_append_right _ (List.mem_append_right _ (List.mem_append_right _ (List.mem_append_right _ (List.mem_append_right _ (List.mem_append_right _ (List.mem_append_right _ (List.mem_append_right _ (List.mem_append_right _ (List.mem_append_right _ (List.mem_append_right _ (List.mem_append_right _ (List.mem_append_right _ (List.mem_append_right _ (List.mem_append_right _ (List.mem_append_right _ (List.mem_append_right _ (List.mem_append_right _ (List.mem_append_left _ h)))))))))))))))))))))))))))))))))))))))))))))))))) zgX12_books
set_option maxRecDepth 20000 in
theorem gv_L_law_X12_books_112 : GoodIn vsL (wsV RL 112 RX12 yX12_books vsX12_books) := goodIn_app (goodIn_r _ [163, 164, 165, 19] (by decide +kernel) (by decide +kernel)) gw_L_law_X12_books
theorem gw_L_law_X11_book : GoodIn vsL vsX11_book := z_gdI (fun _ h => List.mem_append_right _ (List.mem_append_left _ (List.mem_append_right _ (List.mem_append_right _ (List.mem_append_right _ (List.mem_append_right _ (List.mem_append_right _ (List.mem_append_right _ (List.mem_append_right _ (List.mem_append_right _ (List.mem_append_right _ (List.mem_append_right _ (List.mem_append_right _ (List.mem_append_right _ (List.mem_append_right _ (List.mem_append_right _ (List.mem_append_right _ (List.mem_append_right _ (List.mem_append_right _ (List.mem_append_right _ (List.mem_append_right _ (List.mem_append_right _ (List.mem_append_right _ (List.mem_append_right _ (List.mem_append_right _ (List.mem_append_right _ (List.mem_append_right _ (List.mem_append_right _ (List.mem_append_right _ (List.mem_append_right _ (List.mem_append_right _ (List.mem_append_right _ (List.mem_append_right _ (List.mem_append_right _ (List.mem_append_right _ (List.mem_append_right _ (List.mem_append_right _ (List.mem_append_right _ (List.mem_append_right _ (List.mem_append_right _ (List.mem_append_right _ (List.mem_append_right _ (List.mem_append_right _ (List.mem_append_right _ (List.mem_append_right _ (List.mem_append_right _ (List.mem_append_right _ (List.mem_append_right _ (List.mem_append_right _ (List.mem_append_right _ (List.mem_append_left _ h))))))))))))))))))))))))))))))))))))))))))))))))))) zgX11_book
set_option maxRecDepth 20000 in
theorem gv_L_law_X11_book_113 : GoodIn vsL (wsV RL 113 RX11 yX11_book vsX11_book) := goodIn_app (goodIn_r _ [166, 167, 168, 15] (by decide +kernel) (by decide +kernel)) gw_L_law_X11_book
theorem gw_L_law_X12_book : GoodIn vsL vsX12_book := z_gdI (fun _ h => List.mem_append_right _ (List.mem_append_left _ (List.mem_append_right _ (List.mem_append_right _ (List.mem_append_right _ (List.mem_append_right _ (List.mem_append_right _ (List.mem_append_right _ (List.mem_append_right _ (List.mem_append_right _ (List.mem_append_right _ (List.mem_append_right _ (List.mem_append_right _ (List.mem_append_right _ (List.mem_append_right _ (List.mem_append_right _ (List.mem_append_right _ (List.mem_append_right _ (List.mem_append_right _ (List.mem_append_right _ (List.mem_append_right _ (List.mem_append_right _ (List.mem_append_right _ (List.mem_append_right _ (List.mem_append_right _ (List.mem_append_right _ (List.mem_append_right _ (List.mem_append_right _ (List.mem_append_right _ (List.mem_append_right _ (List.mem_append_right _ (List.mem_append_right _ (List.mem_append_right _ (List.mem_append_right _ (List.mem_append_right _ (List.mem_append_right _ (List.mem_append_right _ (List.mem_append_right _ (List.mem_append_right _ (List.mem_append_right _ (List.mem_append_right _ (List.mem_append_right _ (List.mem_append_right _ (List.mem_append_right _ (List.mem_append_right _ (List.mem_append_right _ (List.mem_append_right _ (List.mem_append_right _ (List.mem_append_right _ (List.mem_append_right _ (List.mem_append_right _ (List.mem_append_left _ h)))))))))))))))))))))))))))))))))))))))))))))))))))) zgX12_book
set_option maxRecDepth 20000 in
theorem gv_L_law_X12_book_116 : GoodIn vsL (wsV RL 116 RX12 yX12_book vsX12_book) := goodIn_app (goodIn_r _ [169, 170, 171, 19] (by decide +kernel) (by decide +kernel)) gw_L_law_X12_book
theorem gw_L_law_X11_row : GoodIn vsL vsX11_row := z_gdI (fun _ h => List.mem_append_right _ (List.mem_append_left _ (List.mem_append_right _ (List.mem_append_right _ (List.mem_append_right _ (List.mem_append_right _ (List.mem_append_right _ (List.mem_append_right _ (List.mem_append_right _ (List.mem_append_right _ (List.mem_append_right _ (List.mem_append_right _ (List.mem_append_right _ (List.mem_append_right _ (List.mem_append_right _ (List.mem_append_right _ (List.mem_append_right _ (List.mem_append_right _ (List.mem_append_right _ (List.mem_append_right _ (List.mem_append_right _ (List.mem_append_right _ (List.mem_append_right _ (List.mem_append_right _ (List.mem_append_right _ (List.mem_append_right _ (List.mem_append_right _ (List.mem_append_right _ (List.mem_append_right _ (List.mem_append_right _ (List.mem_append_right _ (List.mem_append_right _ (List.mem_append_right _ (List.mem_append_right _ (List.mem_append_right _ (List.mem_append_right _ (List.mem_append_right _ (List.mem_append_right _ (List.mem_append_right _ (List.mem_append_right _ (List.mem_append_right _ (List.mem_append_right _ (List.mem_append_right _ (List.mem_append_right _ (List.mem_append_right _ (List.mem_append_right _ (List.mem_append_right _ (List.mem_append_right _ (List.mem_append_right _ (List.mem_append_right _ (List.mem_append_right _ (List.mem_append_right _ (List.mem_append_left _ h))))))))))))))))))))))))))))))))))))))))))))))))))))) zgX11_row
set_option maxRecDepth 20000 in
theorem gv_L_law_X11_row_117 : GoodIn vsL (wsV RL 117 RX11 yX11_row vsX11_row) := goodIn_app (goodIn_r _ [172, 173, 174, 15] (by decide +kernel) (by decide +kernel)) gw_L_law_X11_row
theorem gw_L_law_X12_row : GoodIn vsL vsX12_row := z_gdI (fun _ h => List.mem_append_right _ (List.mem_append_left _ (List.mem_append_right _ (List.mem_append_right _ (List.mem_append_right _ (List.mem_append_right _ (List.mem_append_right _ (List.mem_append_right _ (List.mem_append_right _ (List.mem_append_right _ (List.mem_append_right _ (List.mem_append_right _ (List.mem_append_right _ (List.mem_append_right _ (List.mem_append_right _ (List.mem_append_right _ (List.mem_append_right _ (List.mem_append_right _ (List.mem_append_right _ (List.mem_append_right _ (List.mem_append_right _ (List.mem_append_right _ (List.mem_append_right _ (List.mem_append_right _ (List.mem_append_right _ (List.mem_append_right _ (List.mem_append_right _ (List.mem_append_right _ (List.mem_append_right _ (List.mem_append_right _ (List.mem_append_right _ (List.mem_append_right _ (List.mem_append_right _ (List.mem_append_right _ (List.mem_append_right _ (List.mem_append_right _ (List.mem_append_right _ (List.mem_append_right _ (List.mem_append_right _ (List.mem_append_right _ (List.mem_append_right _ (List.mem_append_right _ (List.mem_append_right _ (List.mem_append_right _ (List.mem_append_right _ (List.mem_append_right _ (List.mem_append_right _ (List.mem_append_right _ (List.mem_append_right _ (List.mem_append_right _ (List.mem_append_right _ (List.mem_append_right _ (List.mem_append_right _ (List.mem_append_left _ h)))))))))))))))))))))))))))))))))))))))))))))))))))))) zgX12_row
set_option maxRecDepth 20000 in
theorem gv_L_law_X12_row_120 : GoodIn vsL (wsV RL 120 RX12 yX12_row vsX12_row) := goodIn_app (goodIn_r _ [175, 176, 177, 19] (by decide +kernel) (by decide +kernel)) gw_L_law_X12_row
theorem gw_L_law_X11_judge : GoodIn vsL vsX11_judge := z_gdI (fun _ h => List.mem_append_right _ (List.mem_append_left _ (List.mem_append_right _ (List.mem_append_right _ (List.mem_append_right _ (List.mem_append_right _ (List.mem_append_right _ (List.mem_append_right _ (List.mem_append_right _ (List.mem_append_right _ (List.mem_append_right _ (List.mem_append_right _ (List.mem_append_right _ (List.mem_append_right _ (List.mem_append_right _ (List.mem_append_right _ (List.mem_append_right _ (List.mem_append_right _ (List.mem_append_right _ (List.mem_append_right _ (List.mem_append_right _ (List.mem_append_right _ (List.mem_append_right _ (List.mem_append_right _ (List.mem_append_right _ (List.mem_append_right _ (List.mem_append_right _ (List.mem_append_right _ (List.mem_append_right _ (List.mem_append_right _ (List.mem_append_right _ (List.mem_append_right _ (List.mem_append_right _ (List.mem_append_right _ (List.mem_append_right _ (List.mem_append_right _ (List.mem_append_right _ (List.mem_append_right _ (List.mem_append_right _ (List.mem_append_right _ (List.mem_append_right _ (List.mem_append_right _ (List.mem_append_right _ (List.mem_append_right _ (List.mem_append_right _ (List.mem_append_right _ (List.mem_append_right _ (List.mem_append_right _ (List.mem_append_right _ (List.mem_append_right _ (List.mem_append_right _ (List.mem_append_right _ (List.mem_append_right _ (List.mem_append_right _ (List.mem_append_left _ h))))))))))))))))))))))))))))))))))))))))))))))))))))))) zgX11_judge
set_option maxRecDepth 20000 in
theorem gv_L_law_X11_judge_121 : GoodIn vsL (wsV RL 121 RX11 yX11_judge vsX11_judge) := goodIn_app (goodIn_r _ [178, 179, 180, 15] (by decide +kernel) (by decide +kernel)) gw_L_law_X11_judge
theorem gw_L_law_X12_judge : GoodIn vsL vsX12_judge := z_gdI (fun _ h => List.mem_append_right _ (List.mem_append_left _ (List.mem_append_right _ (List.mem_append_right _ (List.mem_append_right _ (List.mem_append_right _ (List.mem_append_right _ (List.mem_append_right _ (List.mem_append_right _ (List.mem_append_right _ (List.mem_append_right _ (List.mem_append_right _ (List.mem_append_right _ (List.mem_append_right _ (List.mem_append_right _ (List.mem_append_right _ (List.mem_append_right _ (List.mem_append_right _ (List.mem_append_right _ (List.mem_append_right _ (List.mem_append_right _ (List.mem_append_right _ (List.mem_append_right _ (List.mem_append_right _ (List.mem_append_right _ (List.mem_append_right _ (List.mem_append_right _ (List.mem_append_right _ (List.mem_append_right _ (List.mem_append_right _ (List.mem_append_right _ (List.mem_append_right _ (List.mem_append_right _ (List.mem_append_right _ (List.mem_append_right _ (List.mem_append_right _ (List.mem_append_right _ (List.mem_append_right _ (List.mem_append_right _ (List.mem_append_right _ (List.mem_append_right _ (List.mem_append_right _ (List.mem_append_right _ (List.mem_append_right _ (List.mem_append_right _ (List.mem_append_right _ (List.mem_append_right _ (List.mem_append_right _ (List.mem_append_right _ (List.mem_append_right _ (List.mem_append_right _ (List.mem_append_right _ (List.mem_append_right _ (List.mem_append_right _ (List.mem_append_right _ (List.mem_append_left _ h)))))))))))))))))))))))))))))))))))))))))))))))))))))))) zgX12_judge
set_option maxRecDepth 20000 in
theorem gv_L_law_X12_judge_124 : GoodIn vsL (wsV RL 124 RX12 yX12_judge vsX12_judge) := goodIn_app (goodIn_r _ [181, 182, 183, 19] (by decide +kernel) (by decide +kernel)) gw_L_law_X12_judge
theorem gw_L_law_X11_possible : GoodIn vsL vsX11_possible := z_gdI (fun _ h => List.mem_append_right _ (List.mem_append_left _ (List.mem_append_right _ (List.mem_append_right _ (List.mem_append_right _ (List.mem_append_right _ (List.mem_append_right _ (List.mem_append_right _ (List.mem_append_right _ (List.mem_append_right _ (List.mem_append_right _ (List.mem_append_right _ (List.mem_append_right _ (List.mem_append_right _ (List.mem_append_right _ (List.mem_append_right _ (List.mem_append_right _ (List.mem_append_right _ (List.mem_append_right _ (List.mem_append_right _ (List.mem_append_right _ (List.mem_append_right _ (List.mem_append_right _ (List.mem_append_right _ (List.mem_append_right _ (List.mem_append_right _ (List.mem_append_right _ (List.mem_append_right _ (List.mem_append_right _ (List.mem_append_right _ (List.mem_append_right _ (List.mem_append_right _ (List.mem_append_right _ (List.mem_append_right _ (List.mem_append_right _ (List.mem_append_right _ (List.mem_append_right _ (List.mem_append_right _ (List.mem_append_right _ (List.mem_append_right _ (List.mem_append_right _ (List.mem_append_right _ (List.mem_append_right _ (List.mem_append_right _ (List.mem_append_right _ (List.mem_append_right _ (List.mem_append_right _ (List.mem_append_right _ (List.mem_append_right _ (List.mem_append_right _ (List.mem_append_right _ (List.mem_append_right _ (List.mem_append_right _ (List.mem_append_right _ (List.mem_append_right _ (List.mem_append_right _ (List.mem_append_left _ h))))))))))))))))))))))))))))))))))))))))))))))))))))))))) zgX11_possible
set_option maxRecDepth 20000 in
theorem gv_L_law_X11_possible_125 : GoodIn vsL (wsV RL 125 RX11 yX11_possible vsX11_possible) := goodIn_app (goodIn_r _ [184, 185, 186, 15] (by decide +kernel) (by decide +kernel)) gw_L_law_X11_possible
theorem gw_L_law_X12_possible : GoodIn vsL vsX12_possible := z_gdI (fun _ h => List.mem_append_right _ (List.mem_append_left _ (List.mem_append_right _ (List.mem_append_right _ (List.mem_append_right _ (List.mem_append_right _ (List.mem_append_right _ (List.mem_append_right _ (List.mem_append_right _ (List.mem_append_right _ (List.mem_append_right _ (List.mem_append_right _ (List.mem_append_right _ (List.mem_append_right _ (List.mem_append_right _ (List.mem_append_right _ (List.mem_append_right _ (List.mem_append_right _ (List.mem_append_right _ (List.mem_append_right _ (List.mem_append_right _ (List.mem_append_right _ (List.mem_append_right _ (List.mem_append_right _ (List.mem_append_right _ (List.mem_append_right _ (List.mem_append_right _ (List.mem_append_right _ (List.mem_append_right _ (List.mem_append_right _ (List.mem_append_right _ (List.mem_append_right _ (List.mem_append_right _ (List.mem_append_right _ (List.mem_append_right _ (List.mem_append_right _ (List.mem_append_right _ (List.mem_append_right _ (List.mem_append_right _ (List.mem_append_right _ (List.mem_append_right _ (List.mem_append_right _ (List.mem_append_right _ (List.mem_append_right _ (List.mem_append_right _ (List.mem_append_right _ (List.mem_append_right _ (List.mem_append_right _ (List.mem_append_right _ (List.mem_append_right _ (List.mem_append_right _ (List.mem_append_right _ (List.mem_append_right _ (List.mem_append_right _ (List.mem_append_right _ (List.mem_append_right _ (List.mem_append_right _ (List.mem_append_left _ h)))))))))))))))))))))))))))))))))))))))))))))))))))))))))) zgX12_possible
set_option maxRecDepth 20000 in
theorem gv_L_law_X12_possible_128 : GoodIn vsL (wsV RL 128 RX12 yX12_possible vsX12_possible) := goodIn_app (goodIn_r _ [187, 188, 189, 19] (by decide +kernel) (by decide +kernel)) gw_L_law_X12_possible
theorem gw_L_law_X11_lot : GoodIn vsL vsX11_lot := z_gdI (fun _ h => List.mem_append_right _ (List.mem_append_left _ (List.mem_append_right _ (List.mem_append_right _ (List.mem_append_right _ (List.mem_append_right _ (List.mem_append_right _ (List.mem_append_right _ (List.mem_append_right _ (List.mem_append_right _ (List.mem_append_right _ (List.mem_append_right _ (List.mem_append_right _ (List.mem_append_right _ (List.mem_append_right _ (List.mem_append_right _ (List.mem_append_right _ (List.mem_append_right _ (List.mem_append_right _ (List.mem_append_right _ (List.mem_append_right _ (List.mem_append_right _ (List.mem_append_right _ (List.mem_append_right _ (List.mem_append_right _ (List.mem_append_right _ (List.mem_append_right _ (List.mem_append_right _ (List.mem_append_right _ (List.mem_append_right _ (List.mem_append_right _ (List.mem_append_right _ (List.mem_append_right _ (List.mem_append_right _ (List.mem_append_right _ (List.mem_append_right _ (List.mem_append_right _ (List.mem_append_right _ (List.mem_append_right _ (List.mem_append_right _ (List.mem_append_right _ (List.mem_append_right _ (List.mem_append_right _ (List.mem_append_right _ (List.mem_append_right _ (List.mem_append_right _ (List.mem_append_right _ (List.mem_append_right _ (List.mem_append_right _ (List.mem_append_right _ (List.mem_append_right _ (List.mem_append_right _ (List.mem_append_right _ (List.mem_append_right _ (List.mem_append_right _ (List.mem_append_right _ (List.mem_append_right _ (List.mem_append_right _ (List.mem_append_left _ h))))))))))))))))))))))))))))))))))))))))))))))))))))))))))) zgX11_lot
set_option maxRecDepth 20000 in
theorem gv_L_law_X11_lot_129 : GoodIn vsL (wsV RL 129 RX11 yX11_lot vsX11_lot) := goodIn_app (goodIn_r _ [190, 191, 192, 15] (by decide +kernel) (by decide +kernel)) gw_L_law_X11_lot
theorem gw_L_law_X12_lot : GoodIn vsL vsX12_lot := z_gdI (fun _ h => List.mem_append_right _ (List.mem_append_left _ (List.mem_append_right _ (List.mem_append_right _ (List.mem_append_right _ (List.mem_append_right _ (List.mem_append_right _ (List.mem_append_right _ (List.mem_append_right _ (List.mem_append_right _ (List.mem_append_right _ (List.mem_append_right _ (List.mem_append_right _ (List.mem_append_right _ (List.mem_append_right _ (List.mem_append_right _ (List.mem_append_right _ (List.mem_append_right _ (List.mem_append_right _ (List.mem_append_right _ (List.mem_append_right _ (List.mem_append_right _ (List.mem_append_right _ (List.mem_append_right _ (List.mem_append_right _ (List.mem_append_right _ (List.mem_append_right _ (List.mem_append_right _ (List.mem_append_right _ (List.mem_append_right _ (List.mem_append_right _ (List.mem_append_right _ (List.mem_append_right _ (List.mem_append_right _ (List.mem_append_right _ (List.mem_append_right _ (List.mem_append_right _ (List.mem_append_right _ (List.mem_append_right _ (List.mem_append_right _ (List.mem_append_right _ (List.mem_append_right _ (List.mem_append_right _ (List.mem_append_right _ (List.mem_append_right _ (List.mem_append_right _ (List.mem_append_right _ (List.mem_append_right _ (List.mem_append_right _ (List.mem_append_right _ (List.mem_append_right _ (List.mem_append_right _ (List.mem_append_right _ (List.mem_append_right _ (List.mem_append_right _ (List.mem_append_right _ (List.mem_append_right _ (List.mem_append_right _ (List.mem_append_right _ (List.mem_append_left _ h)))))))))))))))))))))))))))))))))))))))))))))))))))))))))))) zgX12_lot
set_option maxRecDepth 20000 in
theorem gv_L_law_X12_lot_132 : GoodIn vsL (wsV RL 132 RX12 yX12_lot vsX12_lot) := goodIn_app (goodIn_r _ [193, 194, 195, 19] (by decide +kernel) (by decide +kernel)) gw_L_law_X12_lot
theorem gw_L_law_X11_image : GoodIn vsL vsX11_image := z_gdI (fun _ h => List.mem_append_right _ (List.mem_append_left _ (List.mem_append_right _ (List.mem_append_right _ (List.mem_append_right _ (List.mem_append_right _ (List.mem_append_right _ (List.mem_append_right _ (List.mem_append_right _ (List.mem_append_right _ (List.mem_append_right _ (List.mem_append_right _ (List.mem_append_right _ (List.mem_append_right _ (List.mem_append_right _ (List.mem_append_right _ (List.mem_append_right _ (List.mem_append_right _ (List.mem_append_right _ (List.mem_append_right _ (List.mem_append_right _ (List.mem_append_right _ (List.mem_append_right _ (List.mem_append_right _ (List.mem_append_right _ (List.mem_append_right _ (List.mem_append_right _ (List.mem_append_right _ (List.mem_append_right _ (List.mem_append_right _ (List.mem_append_right _ (List.mem_append_right _ (List.mem_append_right _ (List.mem_append_right _ (List.mem_append_right _ (List.mem_append_right _ (List.mem_append_right _ (List.mem_append_right _ (List.mem_append_right _ (List.mem_append_right _ (List.mem_append_right _ (List.mem_append_right _ (List.mem_append_right _ (List.mem_append_right _ (List.mem_append_right _ (List.mem_append_right _ (List.mem_append_right _ (List.mem_append_right _ (List.mem_append_right _ (List.mem_append_right _ (List.mem_append_right _ (List.mem_append_right _ (List.mem_append_right _ (List.mem_append_right _ (List.mem_append_right _ (List.mem_append_right _ (List.mem_append_right _ (List.mem_append_right _ (List.mem_append_right _ (List.mem_append_right _ (List.mem_append_left _ h))))))))))))))))))))))))))))))))))))))))))))))))))))))))))))) zgX11_image
set_option maxRecDepth 20000 in
theorem gv_L_law_X11_image_133 : GoodIn vsL (wsV RL 133 RX11 yX11_image vsX11_image) := goodIn_app (goodIn_r _ [196, 197, 198, 15] (by decide +kernel) (by decide +kernel)) gw_L_law_X11_image
theorem gw_L_law_X12_image : GoodIn vsL vsX12_image := z_gdI (fun _ h => List.mem_append_right _ (List.mem_append_left _ (List.mem_append_right _ (List.mem_append_right _ (List.mem_append_right _ (List.mem_append_right _ (List.mem_append_right _ (List.mem_append_right _ (List.mem_append_right _ (List.mem_append_right _ (List.mem_append_right _ (List.mem_append_right _ (List.mem_append_right _ (List.mem_append_right _ (List.mem_append_right _ (List.mem_append_right _ (List.mem_append_right _ (List.mem_append_right _ (List.mem_append_right _ (List.mem_append_right _ (List.mem_append_right _ (List.mem_append_right _ (List.mem_append_right _ (List.mem_append_right _ (List.mem_append_right _ (List.mem_append_right _ (List.mem_append_right _ (List.mem_append_right _ (List.mem_append_right _ (List.mem_append_right _ (List.mem_append_right _ (List.mem_append_right _ (List.mem_append_right _ (List.mem_append_right _ (List.mem_append_right _ (List.mem_append_right _ (List.mem_append_right _ (List.mem_append_right _ (List.mem_append_right _ (List.mem_append_right _ (List.mem_append_right _ (List.mem_append_right _ (List.mem_append_right _ (List.mem_append_right _ (List.mem_append_right _ (List.mem_append_right _ (List.mem_append_right _ (List.mem_append_right _ (List.mem_append_right _ (List.mem_append_right _ (List.mem_append_right _ (List.mem_append_right _ (List.mem_append_right _ (List.mem_append_right _ (List.mem_append_right _ (List.mem_append_right _ (List.mem_append_right _ (List.mem_append_right _ (List.mem_append_right _ (List.mem_append_right _ (List.mem_append_right _ (List.mem_append_left _ h)))))))))))))))))))))))))))))))))))))))))))))))))))))))))))))) zgX12_image
set_option maxRecDepth 20000 in
theorem gv_L_law_X12_image_136 : GoodIn vsL (wsV RL 136 RX12 yX12_image vsX12_image) := goodIn_app (goodIn_r _ [199, 200, 201, 19] (by decide +kernel) (by decide +kernel)) gw_L_law_X12_image
theorem gw_L_law_X11_restore : GoodIn vsL vsX11_restore := z_gdI (fun _ h => List.mem_append_right _ (List.mem_append_left _ (List.mem_append_right _ (List.mem_append_right _ (List.mem_append_right _ (List.mem_append_right _ (List.mem_append_right _ (List.mem_append_right _ (List.mem_append_right _ (List.mem_append_right _ (List.mem_append_right _ (List.mem_append_right _ (List.mem_append_right _ (List.mem_append_right _ (List.mem_append_right _ (List.mem_append_right _ (List.mem_append_right _ (List.mem_append_right _ (List.mem_append_right _ (List.mem_append_right _ (List.mem_append_right _ (List.mem_append_right _ (List.mem_append_right _ (List.mem_append_right _ (List.mem_append_right _ (List.mem_append_right _ (List.mem_append_right _ (List.mem_append_right _ (List.mem_append_right _ (List.mem_append_right _ (List.mem_append_right _ (List.mem_append_right _ (List.mem_append_right _ (List.mem_append_right _ (List.mem_append_right _ (List.mem_append_right _ (List.mem_append_right _ (List.mem_append_right _ (List.mem_append_right _ (List.mem_append_right _ (List.mem_append_right _ (List.mem_append_right _ (List.mem_append_right _ (List.mem_append_right _ (List.mem_append_right _ (List.mem_append_right _ (List.mem_append_right _ (List.mem_append_right _ (List.mem_append_right _ (List.mem_append_right _ (List.mem_append_right _ (List.mem_append_right _ (List.mem_append_right _ (List.mem_append_right _ (List.mem_append_right _ (List.mem_append_right _ (List.mem_append_right _ (List.mem_append_right _ (List.mem_append_right _ (List.mem_append_right _ (List.mem_append_right _ (List.mem_append_right _ (List.mem_append_left _ h))))))))))))))))))))))))))))))))))))))))))))))))))))))))))))))) zgX11_restore
set_option maxRecDepth 20000 in
theorem gv_L_law_X11_restore_137 : GoodIn vsL (wsV RL 137 RX11 yX11_restore vsX11_restore) := goodIn_app (goodIn_r _ [202, 203, 204, 15] (by decide +kernel) (by decide +kernel)) gw_L_law_X11_restore
theorem gw_L_law_X12_restore : GoodIn vsL vsX12_restore := z_gdI (fun _ h => List.mem_append_right _ (List.mem_append_left _ (List.mem_append_right _ (List.mem_append_right _ (List.mem_append_right _ (List.mem_append_right _ (List.mem_append_right _ (List.mem_append_right _ (List.mem_append_right _ (List.mem_append_right _ (List.mem_append_right _ (List.mem_append_right _ (List.mem_append_right _ (List.mem_append_right _ (List.mem_append_right _ (List.mem_append_right _ (List.mem_append_right _ (List.mem_append_right _ (List.mem_append_right _ (List.mem_append_right _ (List.mem_append_right _ (List.mem_append_right _ (List.mem_append_right _ (List.mem_append_right _ (List.mem_append_right _ (List.mem_append_right _ (List.mem_append_right _ (List.mem_append_right _ (List.mem_append_right _ (List.mem_append_right _ (List.mem_append_right _ (List.mem_append_right _ (List.mem_append_right _ (List.mem_append_right _ (List.mem_append_right _ (List.mem_append_right _ (List.mem_append_right _ (List.mem_append_right _ (List.mem_append_right _ (List.mem_append_right _ (List.mem_append_right _ (List.mem_append_right _ (List.mem_append_right _ (List.mem_append_right _ (List.mem_append_right _ (List.mem_append_right _ (List.mem_append_right _ (List.mem_append_right _ (List.mem_append_right _ (List.mem_append_right _ (List.mem_append_right _ (List.mem_append_right _ (List.mem_append_right _ (List.mem_append_right _ (List.mem_append_right _ (List.mem_append_right _ (List.mem_append_right _ (List.mem_append_right _ (List.mem_append_right _ (List.mem_append_right _ (List.mem_append_right _ (List.mem_append_right _ (List.mem_append_right _ (List.mem_append_left _ h)))))))))))))))))))))))))))))))))))))))))))))))))))))))))))))))) zgX12_restore
set_option maxRecDepth 20000 in
theorem gv_L_law_X12_restore_140 : GoodIn vsL (wsV RL 140 RX12 yX12_restore vsX12_restore) := goodIn_app (goodIn_r _ [205, 206, 207, 19] (by decide +kernel) (by decide +kernel)) gw_L_law_X12_restore
theorem gw_L_law_X11_count : GoodIn vsL vsX11_count := z_gdI (fun _ h => List.mem_append_right _ (List.mem_append_left _ (List.mem_append_right _ (List.mem_append_right _ (List.mem_append_right _ (List.mem_append_right _ (List.mem_append_right _ (List.mem_append_right _ (List.mem_append_right _ (List.mem_append_right _ (List.mem_append_right _ (List.mem_append_right _ (List.mem_append_right _ (List.mem_append_right _ (List.mem_append_right _ (List.mem_append_right _ (List.mem_append_right _ (List.mem_append_right _ (List.mem_append_right _ (List.mem_append_right _ (List.mem_append_right _ (List.mem_append_right _ (List.mem_append_right _ (List.mem_append_right _ (List.mem_append_right _ (List.mem_append_right _ (List.mem_append_right _ (List.mem_append_right _ (List.mem_append_right _ (List.mem_append_right _ (List.mem_append_right _ (List.mem_append_right _ (List.mem_append_right _ (List.mem_append_right _ (List.mem_append_right _ (List.mem_append_right _ (List.mem_append_right _ (List.mem_append_right _ (List.mem_append_right _ (List.mem_append_right _ (List.mem_append_right _ (List.mem_append_right _ (List.mem_append_right _ (List.mem_append_right _ (List.mem_append_right _ (List.mem_append_right _ (List.mem_append_right _ (List.mem_append_right _ (List.mem_append_right _ (List.mem_append_right _ (List.mem_append_right _ (List.mem_append_right _ (List.mem_append_right _ (List.mem_append_right _ (List.mem_append_right _ (List.mem_append_right _ (List.mem_append_right _ (List.mem_append_right _ (List.mem_append_right _ (List.mem_append_right _ (List.mem_append_right _ (List.mem_append_right _ (List.mem_append_right _ (List.mem_append_right _ (List.mem_append_left _ h))))))))))))))))))))))))))))))))))))))))))))))))))))))))))))))))) zgX11_count
set_option maxRecDepth 20000 in
theorem gv_L_law_X11_count_141 : GoodIn vsL (wsV RL 141 RX11 yX11_count vsX11_count) := goodIn_app (goodIn_r _ [208, 209, 210, 15] (by decide +kernel) (by decide +kernel)) gw_L_law_X11_count
theorem gw_L_law_X12_count : GoodIn vsL vsX12_count := z_gdI (fun _ h => List.mem_append_right _ (List.mem_append_left _ (List.mem_append_right _ (List.mem_append_right _ (List.mem_append_right _ (List.mem_append_right _ (List.mem_append_right _ (List.mem_append_right _ (List.mem_append_right _ (List.mem_append_right _ (List.mem_append_right _ (List.mem_append_right _ (List.mem_append_right _ (List.mem_append_right _ (List.mem_append_right _ (List.mem_append_right _ (List.mem_append_right _ (List.mem_append_right _ (List.mem_append_right _ (List.mem_append_right _ (List.mem_append_right _ (List.mem_append_right _ (List.mem_append_right _ (List.mem_append_right _ (List.mem_append_right _ (List.mem_append_right _ (List.mem_append_right _ (List.mem_append_right _ (List.mem_append_right _ (List.mem_append_right _ (List.mem_append_right _ (List.mem_append_right _ (List.mem_append_right _ (List.mem_append_right _ (List.mem_append_right _ (List.mem_append_right _ (List.mem_append_right _ (List.mem_append_right _ (List.mem_append_right _ (List.mem_append_right _ (List.mem_append_right _ (List.mem_append_right _ (List.mem_append_right _ (List.mem_append_right _ (List.mem_append_right _ (List.mem_append_right _ (List.mem_append_right _ (List.mem_append_right _ (List.mem_append_right _ (List.mem_append_right _ (List.mem_append_right _ (List.mem_append_right _ (List.mem_append_right _ (List.mem_append_right _ (List.mem_append_right _ (List.mem_append_right _ (List.mem_append_right _ (List.mem_append_right _ (List.mem_append_right _ (List.mem_append_right _ (List.mem_append_right _ (List.mem_append_right _ (List.mem_append_right _ (List.mem_append_right _ (List.mem_append_right _ (List.mem_append_left _ h)))))))))))))))))))))))))))))))))))))))))))))))))))))))))))))))))) zgX12_count
set_option maxRecDepth 20000 in
theorem gv_L_law_X12_count_144 : GoodIn vsL (wsV RL 144 RX12 yX12_count vsX12_count) := goodIn_app (goodIn_r _ [211, 212, 213, 19] (by decide +kernel) (by decide +kernel)) gw_L_law_X12_count
theorem gw_L_law_X11_init : GoodIn vsL vsX11_init := z_gdI (fun _ h => List.mem_append_right _ (List.mem_append_left _ (List.mem_append_right _ (List.mem_append_right _ (List.mem_append_right _ (List.mem_append_right _ (List.mem_append_right _ (List.mem_append_right _ (List.mem_append_right _ (List.mem_append_right _ (List.mem_append_right _ (List.mem_append_right _ (List.mem_append_right _ (List.mem_append_right _ (List.mem_append_right _ (List.mem_append_right _ (List.mem_append_right _ (List.mem_append_right _ (List.mem_append_right _ (List.mem_append_right _ (List.mem_append_right _ (List.mem_append_right _ (List.mem_append_right _ (List.mem_append_right _ (List.mem_append_right _ (List.mem_append_right _ (List.mem_append_right _ (List.mem_append_right _ (List.mem_append_right _ (List.mem_append_right _ (List.mem_append_right _ (List.mem_append_right _ (List.mem_append_right _ (List.mem_append_right _ (List.mem_append_right _ (List.mem_append_right _ (List.mem_append_right _ (List.mem_append_right _ (List.mem_append_right _ (List.mem_append_right _ (List.mem_append_right _ (List.mem_append_right _ (List.mem_append_right _ (List.mem_append_right _ (List.mem_append_right _ (List.mem_append_right _ (List.mem_append_right _ (List.mem_append_right _ (List.mem_append_right _ (List.mem_append_right _ (List.mem_append_right _ (List.mem_append_right _ (List.mem_append_right _ (List.mem_append_right _ (List.mem_append_right _ (List.mem_append_right _ (List.mem_append_right _ (List.mem_append_right _ (List.mem_append_right _ (List.mem_append_right _ (List.mem_append_right _ (List.mem_append_right _ (List.mem_append_right _ (List.mem_append_right _ (List.mem_append_right _ (List.mem_append_right _ (List.mem_append_left _ h))))))))))))))))))))))))))))))))))))))))))))))))))))))))))))))))))) zgX11_init
theorem gv_L_law_X11_init_9 : GoodIn vsL (vsX11_init) := gw_L_law_X11_init
theorem gw_L_law_X12_init : GoodIn vsL vsX12_init := z_gdI (fun _ h => List.mem_append_right _ (List.mem_append_left _ (List.mem_append_right _ (List.mem_append_right _ (List.mem_append_right _ (List.mem_append_right _ (List.mem_append_right _ (List.mem_append_right _ (List.mem_append_right _ (List.mem_append_right _ (List.mem_append_right _ (List.mem_append_right _ (List.mem_append_right _ (List.mem_append_right _ (List.mem_append_right _ (List.mem_append_right _ (List.mem_append_right _ (List.mem_append_right _ (List.mem_append_right _ (List.mem_append_right _ (List.mem_append_right _ (List.mem_append_right _ (List.mem_append_right _ (List.mem_append_right _ (List.mem_append_right _ (List.mem_append_right _ (List.mem_append_right _ (List.mem_append_right _ (List.mem_append_right _ (List.mem_append_right _ (List.mem_append_right _ (List.mem_append_right _ (List.mem_append_right _ (List.mem_append_right _ (List.mem_append_right _ (List.mem_append_right _ (List.mem_append_right _ (List.mem_append_right _ (List.mem_append_right _ (List.mem_append_right _ (List.mem_append_right _ (List.mem_append_right _ (List.mem_append_right _ (List.mem_append_right _ (List.mem_append_right _ (List.mem_append_right _ (List.mem_append_right _ (List.mem_append_right _ (List.mem_append_right _ (List.mem_append_right _ (List.mem_append_right _ (List.mem_append_right _ (List.mem_append_right _ (List.mem_append_right _ (List.mem_append_right _ (List.mem_append_right _ (List.mem_append_right _ (List.mem_append_right _ (List.mem_append_right _ (List.mem_append_right _ (List.mem_append_right _ (List.mem_append_right _ (List.mem_append_right _ (List.mem_append_right _ (List.mem_append_right _ (List.mem_append_right _ (List.mem_append_right _ (h)))))))))))))))))))))))))))))))))))))))))))))))))))))))))))))))))))) zgX12_init
theorem gv_L_law_X12_init_12 : GoodIn vsL (vsX12_init) := gw_L_law_X12_init
