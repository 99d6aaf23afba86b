noncomputable def vsX9_init : List Cond := .code yX9_init cX9_init 1 none :: (([.methodLink RX9 3 objectInit, .instanceMethod objectInit, .code objectInit ⟨#[0xb1]⟩ 1 none, .fieldLink RX9 9 "EachOnHisCue$Saying" "said" "I", .fieldLink RX9 15 "EachOnHisCue$Saying" "dead" "I", .fieldLink RX9 18 "EachOnHisCue$Saying" "latest" "I", .fieldLink RX9 21 "EachOnHisCue$Saying" "times" "I", .fieldLink RX9 24 "EachOnHisCue$Saying" "leaps" "I"] : List Cond) ++ wsX90)
theorem in_X9_init_X9 : ∀ w ∈ wsX90, w ∈ vsX9_init := fun _ h => List.mem_cons_of_mem _ (List.mem_append_right _ h)
noncomputable def vsX7_init : List Cond := .code yX7_init cX7_init 1 none :: (([.methodLink RX7 3 objectInit, .instanceMethod objectInit, .code objectInit ⟨#[0xb1]⟩ 1 none, .classLink RX7 9 "EachOnHisCue$Next", .fieldLink RX7 11 "EachOnHisCue$Play" "cast" "[LEachOnHisCue$Next;", .arrayClass .int, .fieldLink RX7 17 "EachOnHisCue$Play" "speeds" "[I", .fieldLink RX7 21 "EachOnHisCue$Play" "own" "[I", .fieldLink RX7 24 "EachOnHisCue$Play" "players" "I", .fieldLink RX7 28 "EachOnHisCue$Play" "owners" "[I", .fieldLink RX7 31 "EachOnHisCue$Play" "texts" "[I", .fieldLink RX7 34 "EachOnHisCue$Play" "sizes" "[I", .fieldLink RX7 37 "EachOnHisCue$Play" "cues" "[I", .fieldLink RX7 40 "EachOnHisCue$Play" "killing" "I", .fieldLink RX7 43 "EachOnHisCue$Play" "lines" "I", .fieldLink RX7 46 "EachOnHisCue$Play" "lost" "I", .classLink RX7 49 RX9, .instantiable RX9 5, .initialized RX9, .instanceMethod yX9_init, .fieldLink RX7 52 "EachOnHisCue$Play" "now" "LEachOnHisCue$Saying;", .code yX9_init cX9_init 1 none, .methodLink RX9 3 objectInit, .fieldLink RX9 9 "EachOnHisCue$Saying" "said" "I", .fieldLink RX9 15 "EachOnHisCue$Saying" "dead" "I", .fieldLink RX9 18 "EachOnHisCue$Saying" "latest" "I", .fieldLink RX9 21 "EachOnHisCue$Saying" "times" "I", .fieldLink RX9 24 "EachOnHisCue$Saying" "leaps" "I"] : List Cond) ++ wsX70 ++ wsX90)
theorem in_X7_init_X7 : ∀ w ∈ wsX70, w ∈ vsX7_init := fun _ h => List.mem_cons_of_mem _ (List.mem_append_left _ (List.mem_append_right _ h))
theorem in_X7_init_X9 : ∀ w ∈ wsX90, w ∈ vsX7_init := fun _ h => List.mem_cons_of_mem _ (List.mem_append_right _ h)
set_option maxRecDepth 20000 in
theorem gw_X7_init_X9_init : GoodIn vsX7_init vsX9_init := goodIn_r _ [22, 23, 2, 3, 24, 25, 26, 27, 28, 41, 42, 43, 44, 45] (by decide +kernel) (by decide +kernel)
set_option maxRecDepth 20000 in
theorem gv_X7_init_X9_init_51 : GoodIn vsX7_init (vsX9_init) := gw_X7_init_X9_init
noncomputable def vsX5_init : List Cond := .code yX5_init cX5_init 1 none :: (([.methodLink RX5 3 objectInit, .instanceMethod objectInit, .code objectInit ⟨#[0xb1]⟩ 1 none, .arrayClass .int, .fieldLink RX5 9 "EachOnHisCue$Net" "after" "[I", .fieldLink RX5 15 "EachOnHisCue$Net" "lines" "I"] : List Cond) ++ wsX50)
theorem in_X5_init_X5 : ∀ w ∈ wsX50, w ∈ vsX5_init := fun _ h => List.mem_cons_of_mem _ (List.mem_append_right _ h)
noncomputable def vsX2_init : List Cond := .code yX2_init cX2_init 1 none :: (([.methodLink RX2 3 objectInit, .instanceMethod objectInit, .code objectInit ⟨#[0xb1]⟩ 1 none, .classLink RX2 9 RX5, .instantiable RX5 2, .initialized RX5, .instanceMethod yX5_init, .fieldLink RX2 12 "EachOnHisCue$Evening" "web" "LEachOnHisCue$Net;", .classLink RX2 18 RX9, .instantiable RX9 5, .initialized RX9, .instanceMethod yX9_init, .fieldLink RX2 21 "EachOnHisCue$Evening" "saying" "LEachOnHisCue$Saying;", .fieldLink RX2 25 "EachOnHisCue$Evening" "seed" "I", .code yX5_init cX5_init 1 none, .methodLink RX5 3 objectInit, .arrayClass .int, .fieldLink RX5 9 "EachOnHisCue$Net" "after" "[I", .fieldLink RX5 15 "EachOnHisCue$Net" "lines" "I", .code yX9_init cX9_init 1 none, .methodLink RX9 3 objectInit, .fieldLink RX9 9 "EachOnHisCue$Saying" "said" "I", .fieldLink RX9 15 "EachOnHisCue$Saying" "dead" "I", .fieldLink RX9 18 "EachOnHisCue$Saying" "latest" "I", .fieldLink RX9 21 "EachOnHisCue$Saying" "times" "I", .fieldLink RX9 24 "EachOnHisCue$Saying" "leaps" "I"] : List Cond) ++ wsX20 ++ wsX50 ++ wsX90)
theorem in_X2_init_X2 : ∀ w ∈ wsX20, w ∈ vsX2_init := fun _ h => List.mem_cons_of_mem _ (List.mem_append_left _ (List.mem_append_left _ (List.mem_append_right _ h)))
theorem in_X2_init_X5 : ∀ w ∈ wsX50, w ∈ vsX2_init := fun _ h => List.mem_cons_of_mem _ (List.mem_append_left _ (List.mem_append_right _ h))
theorem in_X2_init_X9 : ∀ w ∈ wsX90, w ∈ vsX2_init := fun _ h => List.mem_cons_of_mem _ (List.mem_append_right _ h)
set_option maxRecDepth 20000 in
theorem gw_X2_init_X5_init : GoodIn vsX2_init vsX5_init := goodIn_r _ [15, 16, 2, 3, 17, 18, 19, 30, 31] (by decide +kernel) (by decide +kernel)
set_option maxRecDepth 20000 in
theorem gv_X2_init_X5_init_11 : GoodIn vsX2_init (vsX5_init) := gw_X2_init_X5_init
set_option maxRecDepth 20000 in
theorem gw_X2_init_X9_init : GoodIn vsX2_init vsX9_init := goodIn_r _ [20, 21, 2, 3, 22, 23, 24, 25, 26, 32, 33, 34, 35, 36] (by decide +kernel) (by decide +kernel)
set_option maxRecDepth 20000 in
theorem gv_X2_init_X9_init_20 : GoodIn vsX2_init (vsX9_init) := gw_X2_init_X9_init
noncomputable def vsX4_init : List Cond := .code yX4_init cX4_init 1 none :: (([.methodLink RX4 3 objectInit, .instanceMethod objectInit, .code objectInit ⟨#[0xb1]⟩ 1 none, .arrayClass .int, .fieldLink RX4 9 "EachOnHisCue$Letters" "row" "[I", .fieldLink RX4 15 "EachOnHisCue$Letters" "size" "I"] : List Cond) ++ wsX40)
theorem in_X4_init_X4 : ∀ w ∈ wsX40, w ∈ vsX4_init := fun _ h => List.mem_cons_of_mem _ (List.mem_append_right _ h)
noncomputable def vsX11_init : List Cond := .code yX11_init cX11_init 1 none :: (([.methodLink RX11 1 objectInit, .instanceMethod objectInit, .code objectInit ⟨#[0xb1]⟩ 1 none, .classLink RX11 7 RX7, .instantiable RX7 12, .initialized RX7, .instanceMethod yX7_init, .fieldLink RX11 10 "EachOnHisCue" "play" "LEachOnHisCue$Play;", .fieldLink RX11 16 "EachOnHisCue" "imaged" "LEachOnHisCue$Play;", .fieldLink RX11 19 "EachOnHisCue" "hasImage" "Z", .classLink RX11 23 RX2, .instantiable RX2 3, .initialized RX2, .instanceMethod yX2_init, .fieldLink RX11 26 "EachOnHisCue" "evening" "LEachOnHisCue$Evening;", .fieldLink RX11 30 "EachOnHisCue$Evening" "web" "LEachOnHisCue$Net;", .fieldLink RX11 34 "EachOnHisCue" "web" "LEachOnHisCue$Net;", .classLink RX11 35 RX4, .instantiable RX4 2, .initialized RX4, .instanceMethod yX4_init, .fieldLink RX11 38 "EachOnHisCue" "letters" "LEachOnHisCue$Letters;", .arrayClass .int, .fieldLink RX11 42 "EachOnHisCue" "told" "[I", .fieldLink RX11 46 "EachOnHisCue" "toldSize" "I", .fieldLink RX11 50 "EachOnHisCue" "refusals" "[I", .code yX7_init cX7_init 1 none, .methodLink RX7 3 objectInit, .classLink RX7 9 "EachOnHisCue$Next", .fieldLink RX7 11 "EachOnHisCue$Play" "cast" "[LEachOnHisCue$Next;", .fieldLink RX7 17 "EachOnHisCue$Play" "speeds" "[I", .fieldLink RX7 21 "EachOnHisCue$Play" "own" "[I", .fieldLink RX7 24 "EachOnHisCue$Play" "players" "I", .fieldLink RX7 28 "EachOnHisCue$Play" "owners" "[I", .fieldLink RX7 31 "EachOnHisCue$Play" "texts" "[I", .fieldLink RX7 34 "EachOnHisCue$Play" "sizes" "[I", .fieldLink RX7 37 "EachOnHisCue$Play" "cues" "[I", .fieldLink RX7 40 "EachOnHisCue$Play" "killing" "I", .fieldLink RX7 43 "EachOnHisCue$Play" "lines" "I", .fieldLink RX7 46 "EachOnHisCue$Play" "lost" "I", .classLink RX7 49 RX9, .instantiable RX9 5, .initialized RX9, .instanceMethod yX9_init, .fieldLink RX7 52 "EachOnHisCue$Play" "now" "LEachOnHisCue$Saying;", .code yX9_init cX9_init 1 none, .methodLink RX9 3 objectInit, .fieldLink RX9 9 "EachOnHisCue$Saying" "said" "I", .fieldLink RX9 15 "EachOnHisCue$Saying" "dead" "I", .fieldLink RX9 18 "EachOnHisCue$Saying" "latest" "I", .fieldLink RX9 21 "EachOnHisCue$Saying" "times" "I", .fieldLink RX9 24 "EachOnHisCue$Saying" "leaps" "I", .code yX2_init cX2_init 1 none, .methodLink RX2 3 objectInit, .classLink RX2 9 RX5, .instantiable RX5 2, .initialized RX5, .instanceMethod yX5_init, .fieldLink RX2 12 "EachOnHisCue$Evening" "web" "LEachOnHisCue$Net;", .classLink RX2 18 RX9, .fieldLink RX2 21 "EachOnHisCue$Evening" "saying" "LEachOnHisCue$Saying;", .fieldLink RX2 25 "EachOnHisCue$Evening" "seed" "I", .code yX5_init cX5_init 1 none, .methodLink RX5 3 objectInit, .fieldLink RX5 9 "EachOnHisCue$Net" "after" "[I", .fieldLink RX5 15 "EachOnHisCue$Net" "lines" "I", .code yX4_init cX4_init 1 none, .methodLink RX4 3 objectInit, .fieldLink RX4 9 "EachOnHisCue$Letters" "row" "[I", .fieldLink RX4 15 "EachOnHisCue$Letters" "size" "I"] : List Cond) ++ wsX20 ++ wsX40 ++ wsX50 ++ wsX70 ++ wsX90 ++ wsX110)
theorem in_X11_init_X2 : ∀ w ∈ wsX20, w ∈ vsX11_init := fun _ h => List.mem_cons_of_mem _ (List.mem_append_left _ (List.mem_append_left _ (List.mem_append_left _ (List.mem_append_left _ (List.mem_append_left _ (List.mem_append_right _ h))))))
theorem in_X11_init_X4 : ∀ w ∈ wsX40, w ∈ vsX11_init := fun _ h => List.mem_cons_of_mem _ (List.mem_append_left _ (List.mem_append_left _ (List.mem_append_left _ (List.mem_append_left _ (List.mem_append_right _ h)))))
theorem in_X11_init_X7 : ∀ w ∈ wsX70, w ∈ vsX11_init := fun _ h => List.mem_cons_of_mem _ (List.mem_append_left _ (List.mem_append_left _ (List.mem_append_right _ h)))
theorem in_X11_init_X11 : ∀ w ∈ wsX110, w ∈ vsX11_init := fun _ h => List.mem_cons_of_mem _ (List.mem_append_right _ h)
set_option maxRecDepth 20000 in
theorem gw_X11_init_X7_init : GoodIn vsX11_init vsX7_init := goodIn_r _ [27, 28, 2, 3, 29, 30, 23, 31, 32, 33, 34, 35, 36, 37, 38, 39, 40, 41, 42, 43, 44, 45, 46, 47, 48, 49, 50, 51, 52, 78, 79, 80, 81, 82, 83, 84, 85, 86, 87, 88, 89, 90, 91, 92, 93, 94] (by decide +kernel) (by decide +kernel)
set_option maxRecDepth 20000 in
theorem gv_X11_init_X7_init_9 : GoodIn vsX11_init (vsX7_init) := gw_X11_init_X7_init
set_option maxRecDepth 20000 in
theorem gw_X11_init_X2_init : GoodIn vsX11_init vsX2_init := goodIn_r _ [53, 54, 2, 3, 55, 56, 57, 58, 59, 60, 42, 43, 44, 61, 62, 63, 64, 23, 65, 66, 46, 47, 48, 49, 50, 51, 52, 71, 72, 73, 76, 77, 90, 91, 92, 93, 94] (by decide +kernel) (by decide +kernel)
set_option maxRecDepth 20000 in
theorem gv_X11_init_X2_init_25 : GoodIn vsX11_init (vsX2_init) := gw_X11_init_X2_init
set_option maxRecDepth 20000 in
theorem gw_X11_init_X4_init : GoodIn vsX11_init vsX4_init := goodIn_r _ [67, 68, 2, 3, 23, 69, 70, 74, 75] (by decide +kernel) (by decide +kernel)
set_option maxRecDepth 20000 in
theorem gv_X11_init_X4_init_37 : GoodIn vsX11_init (vsX4_init) := gw_X11_init_X4_init
noncomputable def vsX12_init : List Cond := .code yX12_init cX12_init 1 none :: (([.methodLink RX12 1 objectInit, .instanceMethod objectInit, .code objectInit ⟨#[0xb1]⟩ 1 none, .arrayClass .int, .fieldLink RX12 7 "EachOnHisCueModel" "refused" "[I", .fieldLink RX12 13 "EachOnHisCueModel" "kind" "[I", .fieldLink RX12 16 "EachOnHisCueModel" "figure" "[I", .fieldLink RX12 19 "EachOnHisCueModel" "speed" "[I", .fieldLink RX12 22 "EachOnHisCueModel" "whose" "[I", .fieldLink RX12 25 "EachOnHisCueModel" "many" "[I", .fieldLink RX12 28 "EachOnHisCueModel" "cue" "[I", .fieldLink RX12 31 "EachOnHisCueModel" "kills" "[I", .fieldLink RX12 34 "EachOnHisCueModel" "word" "[I", .fieldLink RX12 37 "EachOnHisCueModel" "lose" "I", .fieldLink RX12 41 "EachOnHisCueModel" "latest" "I", .fieldLink RX12 44 "EachOnHisCueModel" "tape" "[I", .fieldLink RX12 47 "EachOnHisCueModel" "letter" "[I", .fieldLink RX12 50 "EachOnHisCueModel" "letterAt" "[I", .fieldLink RX12 53 "EachOnHisCueModel" "told" "[I", .fieldLink RX12 56 "EachOnHisCueModel" "kept" "[I", .fieldLink RX12 59 "EachOnHisCueModel" "joked" "I", .fieldLink RX12 62 "EachOnHisCueModel" "night" "[I", .fieldLink RX12 65 "EachOnHisCueModel" "cues" "[I", .fieldLink RX12 68 "EachOnHisCueModel" "order" "[I", .fieldLink RX12 71 "EachOnHisCueModel" "row" "[I"] : List Cond) ++ wsX120)
theorem in_X12_init_X12 : ∀ w ∈ wsX120, w ∈ vsX12_init := fun _ h => List.mem_cons_of_mem _ (List.mem_append_right _ h)
noncomputable def vsX11_refuse : List Cond := .code yX11_refuse cX11_refuse 3 (some .int) :: (([.fieldLink RX11 50 "EachOnHisCue" "refusals" "[I"] : List Cond) ++ wsX110)
theorem in_X11_refuse_X11 : ∀ w ∈ wsX110, w ∈ vsX11_refuse := fun _ h => List.mem_cons_of_mem _ (List.mem_append_right _ h)
noncomputable def vsX12_bound : List Cond := .code yX12_bound cX12_bound 3 (some .int) :: (([] : List Cond))
noncomputable def vsX12_no : List Cond := .code yX12_no cX12_no 2 (some .int) :: (([.fieldLink RX12 7 "EachOnHisCueModel" "refused" "[I"] : List Cond) ++ wsX120)
theorem in_X12_no_X12 : ∀ w ∈ wsX120, w ∈ vsX12_no := fun _ h => List.mem_cons_of_mem _ (List.mem_append_right _ h)
noncomputable def vsX4_add : List Cond := .code yX4_add cX4_add 2 none :: (([.fieldLink RX4 15 "EachOnHisCue$Letters" "size" "I", .fieldLink RX4 9 "EachOnHisCue$Letters" "row" "[I"] : List Cond) ++ wsX40)
theorem in_X4_add_X4 : ∀ w ∈ wsX40, w ∈ vsX4_add := fun _ h => List.mem_cons_of_mem _ (List.mem_append_right _ h)
noncomputable def vsX11_feed : List Cond := .code yX11_feed cX11_feed 2 (some .int) :: (([.fieldLink RX11 38 "EachOnHisCue" "letters" "LEachOnHisCue$Letters;", .fieldLink RX11 57 "EachOnHisCue$Letters" "size" "I", .methodLink RX11 53 yX11_refuse, .instanceMethod yX11_refuse, .selects RX11 yX11_refuse yX11_refuse, .initialized RX11, .code yX11_refuse cX11_refuse 3 (some .int), .fieldLink RX11 50 "EachOnHisCue" "refusals" "[I", .methodLink RX11 60 yX4_add, .instanceMethod yX4_add, .selects RX4 yX4_add yX4_add, .initialized RX4, .code yX4_add cX4_add 2 none, .fieldLink RX4 15 "EachOnHisCue$Letters" "size" "I", .fieldLink RX4 9 "EachOnHisCue$Letters" "row" "[I"] : List Cond) ++ wsX40 ++ wsX110)
theorem in_X11_feed_X4 : ∀ w ∈ wsX40, w ∈ vsX11_feed := fun _ h => List.mem_cons_of_mem _ (List.mem_append_left _ (List.mem_append_right _ h))
theorem in_X11_feed_X11 : ∀ w ∈ wsX110, w ∈ vsX11_feed := fun _ h => List.mem_cons_of_mem _ (List.mem_append_right _ h)
set_option maxRecDepth 20000 in
theorem gw_X11_feed_X11_refuse : GoodIn vsX11_feed vsX11_refuse := goodIn_r _ [7, 8, 18, 19, 20, 21, 22, 23, 24, 25, 26] (by decide +kernel) (by decide +kernel)
set_option maxRecDepth 20000 in
theorem gv_X11_feed_X11_refuse_53 : GoodIn vsX11_feed (wsV RX11 53 RX11 yX11_refuse vsX11_refuse) := goodIn_app (goodIn_of _ (by decide +kernel)) gw_X11_feed_X11_refuse
set_option maxRecDepth 20000 in
theorem gw_X11_feed_X4_add : GoodIn vsX11_feed vsX4_add := goodIn_r _ [13, 14, 15, 16, 17] (by decide +kernel) (by decide +kernel)
set_option maxRecDepth 20000 in
theorem gv_X11_feed_X4_add_60 : GoodIn vsX11_feed (wsV RX11 60 RX4 yX4_add vsX4_add) := goodIn_app (goodIn_of _ (by decide +kernel)) gw_X11_feed_X4_add
noncomputable def vsX12_feed : List Cond := .code yX12_feed cX12_feed 3 (some .int) :: (([.fieldLink RX12 86 "EachOnHisCueModel" "taped" "I", .fieldLink RX12 44 "EachOnHisCueModel" "tape" "[I", .methodLink RX12 82 yX12_bound, .static yX12_bound, .initialized RX12, .code yX12_bound cX12_bound 3 (some .int), .methodLink RX12 89 yX12_no, .instanceMethod yX12_no, .selects RX12 yX12_no yX12_no, .code yX12_no cX12_no 2 (some .int), .fieldLink RX12 7 "EachOnHisCueModel" "refused" "[I"] : List Cond) ++ wsX120)
theorem in_X12_feed_X12 : ∀ w ∈ wsX120, w ∈ vsX12_feed := fun _ h => List.mem_cons_of_mem _ (List.mem_append_right _ h)
set_option maxRecDepth 20000 in
theorem gw_X12_feed_X12_bound : GoodIn vsX12_feed vsX12_bound := goodIn_r _ [6] (by decide +kernel) (by decide +kernel)
set_option maxRecDepth 20000 in
theorem gv_X12_feed_X12_bound_82 : GoodIn vsX12_feed (va_wsS RX12 82 yX12_bound vsX12_bound) := goodIn_app (goodIn_of _ (by decide +kernel)) gw_X12_feed_X12_bound
set_option maxRecDepth 20000 in
theorem gw_X12_feed_X12_no : GoodIn vsX12_feed vsX12_no := goodIn_r _ [10, 11, 12, 13, 14, 15, 16, 17, 18, 19, 20, 21, 22, 23, 24, 25, 26, 27, 28, 29, 30, 31, 32, 33, 34, 35, 36, 37, 38, 39, 40, 41, 42, 43, 44, 45, 46, 47, 48, 49] (by decide +kernel) (by decide +kernel)
set_option maxRecDepth 20000 in
theorem gv_X12_feed_X12_no_89 : GoodIn vsX12_feed (wsV RX12 89 RX12 yX12_no vsX12_no) := goodIn_app (goodIn_of _ (by decide +kernel)) gw_X12_feed_X12_no
noncomputable def vsX4_firstWrongLetter : List Cond := .code yX4_firstWrongLetter cX4_firstWrongLetter 4 (some .int) :: (([.fieldLink RX4 15 "EachOnHisCue$Letters" "size" "I"] : List Cond) ++ wsX40)
theorem in_X4_firstWrongLetter_X4 : ∀ w ∈ wsX40, w ∈ vsX4_firstWrongLetter := fun _ h => List.mem_cons_of_mem _ (List.mem_append_right _ h)
noncomputable def vsX4_firstFault : List Cond := .code yX4_firstFault cX4_firstFault 3 (some .int) :: (([.methodLink RX4 23 yX4_firstWrongLetter, .instanceMethod yX4_firstWrongLetter, .selects RX4 yX4_firstWrongLetter yX4_firstWrongLetter, .initialized RX4, .code yX4_firstWrongLetter cX4_firstWrongLetter 4 (some .int), .fieldLink RX4 15 "EachOnHisCue$Letters" "size" "I"] : List Cond) ++ wsX40)
set_option maxRecDepth 20000 in
theorem gw_X4_firstFault_X4_firstWrongLetter : GoodIn vsX4_firstFault vsX4_firstWrongLetter := goodIn_r _ [5, 6, 7, 8] (by decide +kernel) (by decide +kernel)
set_option maxRecDepth 20000 in
theorem gv_X4_firstFault_X4_firstWrongLetter_23 : GoodIn vsX4_firstFault (wsV RX4 23 RX4 yX4_firstWrongLetter vsX4_firstWrongLetter) := goodIn_app (goodIn_of _ (by decide +kernel)) gw_X4_firstFault_X4_firstWrongLetter
noncomputable def vsX12_next : List Cond := .code yX12_next cX12_next 1 (some .int) :: (([.fieldLink RX12 93 "EachOnHisCueModel" "at" "I", .fieldLink RX12 86 "EachOnHisCueModel" "taped" "I"] : List Cond) ++ wsX120)
theorem in_X12_next_X12 : ∀ w ∈ wsX120, w ∈ vsX12_next := fun _ h => List.mem_cons_of_mem _ (List.mem_append_right _ h)
noncomputable def vsX12_statement : List Cond := .code yX12_statement cX12_statement 2 (some .boolean) :: (([.methodLink RX12 96 yX12_next, .instanceMethod yX12_next, .selects RX12 yX12_next yX12_next, .initialized RX12, .code yX12_next cX12_next 1 (some .int), .fieldLink RX12 93 "EachOnHisCueModel" "at" "I", .fieldLink RX12 86 "EachOnHisCueModel" "taped" "I"] : List Cond) ++ wsX120)
set_option maxRecDepth 20000 in
theorem gw_X12_statement_X12_next : GoodIn vsX12_statement vsX12_next := goodIn_r _ [5, 6, 7, 8, 9, 10, 11, 12, 13, 14, 15, 16, 17, 18, 19, 20, 21, 22, 23, 24, 25, 26, 27, 28, 29, 30, 31, 32, 33, 34, 35, 36, 37, 38, 39, 40, 41, 42, 43, 44, 45] (by decide +kernel) (by decide +kernel)
set_option maxRecDepth 20000 in
theorem gv_X12_statement_X12_next_96 : GoodIn vsX12_statement (wsV RX12 96 RX12 yX12_next vsX12_next) := goodIn_app (goodIn_of _ (by decide +kernel)) gw_X12_statement_X12_next
noncomputable def vsX11_piece : List Cond := .code yX11_piece cX11_piece 2 (some .int) :: (([.fieldLink RX11 38 "EachOnHisCue" "letters" "LEachOnHisCue$Letters;", .fieldLink RX11 10 "EachOnHisCue" "play" "LEachOnHisCue$Play;", .fieldLink RX11 57 "EachOnHisCue$Letters" "size" "I", .methodLink RX11 64 yX4_firstFault, .instanceMethod yX4_firstFault, .selects RX4 yX4_firstFault yX4_firstFault, .initialized RX4, .code yX4_firstFault cX4_firstFault 3 (some .int), .methodLink RX4 23 yX4_firstWrongLetter, .instanceMethod yX4_firstWrongLetter, .selects RX4 yX4_firstWrongLetter yX4_firstWrongLetter, .code yX4_firstWrongLetter cX4_firstWrongLetter 4 (some .int), .fieldLink RX4 15 "EachOnHisCue$Letters" "size" "I"] : List Cond) ++ wsX40 ++ wsX110)
theorem in_X11_piece_X4 : ∀ w ∈ wsX40, w ∈ vsX11_piece := fun _ h => List.mem_cons_of_mem _ (List.mem_append_left _ (List.mem_append_right _ h))
theorem in_X11_piece_X11 : ∀ w ∈ wsX110, w ∈ vsX11_piece := fun _ h => List.mem_cons_of_mem _ (List.mem_append_right _ h)
set_option maxRecDepth 20000 in
theorem gw_X11_piece_X4_firstFault : GoodIn vsX11_piece vsX4_firstFault := goodIn_r _ [8, 9, 10, 11, 7, 12, 13, 14, 15] (by decide +kernel) (by decide +kernel)
set_option maxRecDepth 20000 in
theorem gv_X11_piece_X4_firstFault_64 : GoodIn vsX11_piece (wsV RX11 64 RX4 yX4_firstFault vsX4_firstFault) := goodIn_app (goodIn_of _ (by decide +kernel)) gw_X11_piece_X4_firstFault
noncomputable def vsX12_piece : List Cond := .code yX12_piece cX12_piece 3 (some .int) :: (([.fieldLink RX12 93 "EachOnHisCueModel" "at" "I", .fieldLink RX12 107 "EachOnHisCueModel" "statements" "I", .fieldLink RX12 86 "EachOnHisCueModel" "taped" "I", .methodLink RX12 120 yX12_statement, .instanceMethod yX12_statement, .selects RX12 yX12_statement yX12_statement, .initialized RX12, .code yX12_statement cX12_statement 2 (some .boolean), .methodLink RX12 96 yX12_next, .instanceMethod yX12_next, .selects RX12 yX12_next yX12_next, .code yX12_next cX12_next 1 (some .int)] : List Cond) ++ wsX120)
theorem in_X12_piece_X12 : ∀ w ∈ wsX120, w ∈ vsX12_piece := fun _ h => List.mem_cons_of_mem _ (List.mem_append_right _ h)
set_option maxRecDepth 20000 in
theorem gw_X12_piece_X12_statement : GoodIn vsX12_piece vsX12_statement := goodIn_r _ [8, 9, 10, 11, 7, 12, 1, 3, 13, 14, 15, 16, 17, 18, 19, 20, 21, 22, 23, 24, 25, 26, 27, 28, 29, 30, 31, 32, 33, 34, 35, 36, 37, 38, 39, 40, 41, 42, 43, 44, 45, 46, 47, 48, 49, 50] (by decide +kernel) (by decide +kernel)
set_option maxRecDepth 20000 in
theorem gv_X12_piece_X12_statement_120 : GoodIn vsX12_piece (wsV RX12 120 RX12 yX12_statement vsX12_statement) := goodIn_app (goodIn_of _ (by decide +kernel)) gw_X12_piece_X12_statement
noncomputable def vsX7_hasPlayer : List Cond := .code yX7_hasPlayer cX7_hasPlayer 2 (some .boolean) :: (([.fieldLink RX7 24 "EachOnHisCue$Play" "players" "I"] : List Cond) ++ wsX70)
theorem in_X7_hasPlayer_X7 : ∀ w ∈ wsX70, w ∈ vsX7_hasPlayer := fun _ h => List.mem_cons_of_mem _ (List.mem_append_right _ h)
noncomputable def vsX12_isPlayer : List Cond := .code yX12_isPlayer cX12_isPlayer 2 (some .boolean) :: (([.fieldLink RX12 76 "EachOnHisCueModel" "players" "I"] : List Cond) ++ wsX120)
theorem in_X12_isPlayer_X12 : ∀ w ∈ wsX120, w ∈ vsX12_isPlayer := fun _ h => List.mem_cons_of_mem _ (List.mem_append_right _ h)
noncomputable def vsX11_player : List Cond := .code yX11_player cX11_player 3 (some .int) :: (([.fieldLink RX11 10 "EachOnHisCue" "play" "LEachOnHisCue$Play;", .methodLink RX11 80 yX7_hasPlayer, .instanceMethod yX7_hasPlayer, .selects RX7 yX7_hasPlayer yX7_hasPlayer, .initialized RX7, .code yX7_hasPlayer cX7_hasPlayer 2 (some .boolean), .fieldLink RX7 24 "EachOnHisCue$Play" "players" "I", .methodLink RX11 53 yX11_refuse, .instanceMethod yX11_refuse, .selects RX11 yX11_refuse yX11_refuse, .initialized RX11, .code yX11_refuse cX11_refuse 3 (some .int), .fieldLink RX11 50 "EachOnHisCue" "refusals" "[I"] : List Cond) ++ wsX70 ++ wsX110)
theorem in_X11_player_X11 : ∀ w ∈ wsX110, w ∈ vsX11_player := fun _ h => List.mem_cons_of_mem _ (List.mem_append_right _ h)
set_option maxRecDepth 20000 in
theorem gw_X11_player_X7_hasPlayer : GoodIn vsX11_player vsX7_hasPlayer := goodIn_r _ [6, 7, 14, 15, 16, 17, 18, 19, 20, 21, 22, 23, 24, 25] (by decide +kernel) (by decide +kernel)
set_option maxRecDepth 20000 in
theorem gv_X11_player_X7_hasPlayer_80 : GoodIn vsX11_player (wsV RX11 80 RX7 yX7_hasPlayer vsX7_hasPlayer) := goodIn_app (goodIn_of _ (by decide +kernel)) gw_X11_player_X7_hasPlayer
set_option maxRecDepth 20000 in
theorem gw_X11_player_X11_refuse : GoodIn vsX11_player vsX11_refuse := goodIn_r _ [12, 13, 26, 27, 28, 29, 30, 31, 32, 33, 34] (by decide +kernel) (by decide +kernel)
set_option maxRecDepth 20000 in
theorem gv_X11_player_X11_refuse_53 : GoodIn vsX11_player (wsV RX11 53 RX11 yX11_refuse vsX11_refuse) := goodIn_app (goodIn_of _ (by decide +kernel)) gw_X11_player_X11_refuse
noncomputable def vsX12_player : List Cond := .code yX12_player cX12_player 3 (some .int) :: (([.methodLink RX12 117 yX12_isPlayer, .instanceMethod yX12_isPlayer, .selects RX12 yX12_isPlayer yX12_isPlayer, .initialized RX12, .code yX12_isPlayer cX12_isPlayer 2 (some .boolean), .fieldLink RX12 76 "EachOnHisCueModel" "players" "I", .methodLink RX12 89 yX12_no, .instanceMethod yX12_no, .selects RX12 yX12_no yX12_no, .code yX12_no cX12_no 2 (some .int), .fieldLink RX12 7 "EachOnHisCueModel" "refused" "[I"] : List Cond) ++ wsX120)
set_option maxRecDepth 20000 in
theorem gw_X12_player_X12_isPlayer : GoodIn vsX12_player vsX12_isPlayer := goodIn_r _ [5, 6, 12, 13, 14, 15, 16, 17, 18, 19, 20, 21, 22, 23, 24, 25, 26, 27, 28, 29, 30, 31, 32, 33, 34, 35, 36, 37, 38, 39, 40, 41, 42, 43, 44, 45, 46, 47, 48, 49] (by decide +kernel) (by decide +kernel)
set_option maxRecDepth 20000 in
theorem gv_X12_player_X12_isPlayer_117 : GoodIn vsX12_player (wsV RX12 117 RX12 yX12_isPlayer vsX12_isPlayer) := goodIn_app (goodIn_of _ (by decide +kernel)) gw_X12_player_X12_isPlayer
set_option maxRecDepth 20000 in
theorem gw_X12_player_X12_no : GoodIn vsX12_player vsX12_no := goodIn_r _ [10, 11, 12, 13, 14, 15, 16, 17, 18, 19, 20, 21, 22, 23, 24, 25, 26, 27, 28, 29, 30, 31, 32, 33, 34, 35, 36, 37, 38, 39, 40, 41, 42, 43, 44, 45, 46, 47, 48, 49] (by decide +kernel) (by decide +kernel)
set_option maxRecDepth 20000 in
theorem gv_X12_player_X12_no_89 : GoodIn vsX12_player (wsV RX12 89 RX12 yX12_no vsX12_no) := goodIn_app (goodIn_of _ (by decide +kernel)) gw_X12_player_X12_no
noncomputable def vsX7_hasLine : List Cond := .code yX7_hasLine cX7_hasLine 2 (some .boolean) :: (([.fieldLink RX7 43 "EachOnHisCue$Play" "lines" "I"] : List Cond) ++ wsX70)
theorem in_X7_hasLine_X7 : ∀ w ∈ wsX70, w ∈ vsX7_hasLine := fun _ h => List.mem_cons_of_mem _ (List.mem_append_right _ h)
noncomputable def vsX12_isLine : List Cond := .code yX12_isLine cX12_isLine 2 (some .boolean) :: (([.fieldLink RX12 79 "EachOnHisCueModel" "lines" "I"] : List Cond) ++ wsX120)
theorem in_X12_isLine_X12 : ∀ w ∈ wsX120, w ∈ vsX12_isLine := fun _ h => List.mem_cons_of_mem _ (List.mem_append_right _ h)
noncomputable def vsX11_line : List Cond := .code yX11_line cX11_line 3 (some .int) :: (([.fieldLink RX11 10 "EachOnHisCue" "play" "LEachOnHisCue$Play;", .methodLink RX11 103 yX7_hasLine, .instanceMethod yX7_hasLine, .selects RX7 yX7_hasLine yX7_hasLine, .initialized RX7, .code yX7_hasLine cX7_hasLine 2 (some .boolean), .fieldLink RX7 43 "EachOnHisCue$Play" "lines" "I", .methodLink RX11 53 yX11_refuse, .instanceMethod yX11_refuse, .selects RX11 yX11_refuse yX11_refuse, .initialized RX11, .code yX11_refuse cX11_refuse 3 (some .int), .fieldLink RX11 50 "EachOnHisCue" "refusals" "[I"] : List Cond) ++ wsX70 ++ wsX110)
theorem in_X11_line_X11 : ∀ w ∈ wsX110, w ∈ vsX11_line := fun _ h => List.mem_cons_of_mem _ (List.mem_append_right _ h)
set_option maxRecDepth 20000 in
theorem gw_X11_line_X7_hasLine : GoodIn vsX11_line vsX7_hasLine := goodIn_r _ [6, 7, 14, 15, 16, 17, 18, 19, 20, 21, 22, 23, 24, 25] (by decide +kernel) (by decide +kernel)
set_option maxRecDepth 20000 in
theorem gv_X11_line_X7_hasLine_103 : GoodIn vsX11_line (wsV RX11 103 RX7 yX7_hasLine vsX7_hasLine) := goodIn_app (goodIn_of _ (by decide +kernel)) gw_X11_line_X7_hasLine
set_option maxRecDepth 20000 in
theorem gw_X11_line_X11_refuse : GoodIn vsX11_line vsX11_refuse := goodIn_r _ [12, 13, 26, 27, 28, 29, 30, 31, 32, 33, 34] (by decide +kernel) (by decide +kernel)
set_option maxRecDepth 20000 in
theorem gv_X11_line_X11_refuse_53 : GoodIn vsX11_line (wsV RX11 53 RX11 yX11_refuse vsX11_refuse) := goodIn_app (goodIn_of _ (by decide +kernel)) gw_X11_line_X11_refuse
noncomputable def vsX12_line : List Cond := .code yX12_line cX12_line 3 (some .int) :: (([.methodLink RX12 169 yX12_isLine, .instanceMethod yX12_isLine, .selects RX12 yX12_isLine yX12_isLine, .initialized RX12, .code yX12_isLine cX12_isLine 2 (some .boolean), .fieldLink RX12 79 "EachOnHisCueModel" "lines" "I", .methodLink RX12 89 yX12_no, .instanceMethod yX12_no, .selects RX12 yX12_no yX12_no, .code yX12_no cX12_no 2 (some .int), .fieldLink RX12 7 "EachOnHisCueModel" "refused" "[I"] : List Cond) ++ wsX120)
set_option maxRecDepth 20000 in
theorem gw_X12_line_X12_isLine : GoodIn vsX12_line vsX12_isLine := goodIn_r _ [5, 6, 12, 13, 14, 15, 16, 17, 18, 19, 20, 21, 22, 23, 24, 25, 26, 27, 28, 29, 30, 31, 32, 33, 34, 35, 36, 37, 38, 39, 40, 41, 42, 43, 44, 45, 46, 47, 48, 49] (by decide +kernel) (by decide +kernel)
set_option maxRecDepth 20000 in
theorem gv_X12_line_X12_isLine_169 : GoodIn vsX12_line (wsV RX12 169 RX12 yX12_isLine vsX12_isLine) := goodIn_app (goodIn_of _ (by decide +kernel)) gw_X12_line_X12_isLine
set_option maxRecDepth 20000 in
theorem gw_X12_line_X12_no : GoodIn vsX12_line vsX12_no := goodIn_r _ [10, 11, 12, 13, 14, 15, 16, 17, 18, 19, 20, 21, 22, 23, 24, 25, 26, 27, 28, 29, 30, 31, 32, 33, 34, 35, 36, 37, 38, 39, 40, 41, 42, 43, 44, 45, 46, 47, 48, 49] (by decide +kernel) (by decide +kernel)
set_option maxRecDepth 20000 in
theorem gv_X12_line_X12_no_89 : GoodIn vsX12_line (wsV RX12 89 RX12 yX12_no vsX12_no) := goodIn_app (goodIn_of _ (by decide +kernel)) gw_X12_line_X12_no
noncomputable def vsX11_cue : List Cond := .code yX11_cue cX11_cue 4 (some .int) :: (([.fieldLink RX11 10 "EachOnHisCue" "play" "LEachOnHisCue$Play;", .methodLink RX11 103 yX7_hasLine, .instanceMethod yX7_hasLine, .selects RX7 yX7_hasLine yX7_hasLine, .initialized RX7, .code yX7_hasLine cX7_hasLine 2 (some .boolean), .fieldLink RX7 43 "EachOnHisCue$Play" "lines" "I", .methodLink RX11 53 yX11_refuse, .instanceMethod yX11_refuse, .selects RX11 yX11_refuse yX11_refuse, .initialized RX11, .code yX11_refuse cX11_refuse 3 (some .int), .fieldLink RX11 50 "EachOnHisCue" "refusals" "[I"] : List Cond) ++ wsX70 ++ wsX110)
theorem in_X11_cue_X11 : ∀ w ∈ wsX110, w ∈ vsX11_cue := fun _ h => List.mem_cons_of_mem _ (List.mem_append_right _ h)
set_option maxRecDepth 20000 in
theorem gw_X11_cue_X7_hasLine : GoodIn vsX11_cue vsX7_hasLine := goodIn_r _ [6, 7, 14, 15, 16, 17, 18, 19, 20, 21, 22, 23, 24, 25] (by decide +kernel) (by decide +kernel)
set_option maxRecDepth 20000 in
theorem gv_X11_cue_X7_hasLine_103 : GoodIn vsX11_cue (wsV RX11 103 RX7 yX7_hasLine vsX7_hasLine) := goodIn_app (goodIn_of _ (by decide +kernel)) gw_X11_cue_X7_hasLine
set_option maxRecDepth 20000 in
theorem gw_X11_cue_X11_refuse : GoodIn vsX11_cue vsX11_refuse := goodIn_r _ [12, 13, 26, 27, 28, 29, 30, 31, 32, 33, 34] (by decide +kernel) (by decide +kernel)
set_option maxRecDepth 20000 in
theorem gv_X11_cue_X11_refuse_53 : GoodIn vsX11_cue (wsV RX11 53 RX11 yX11_refuse vsX11_refuse) := goodIn_app (goodIn_of _ (by decide +kernel)) gw_X11_cue_X11_refuse
noncomputable def vsX12_cue : List Cond := .code yX12_cue cX12_cue 5 (some .int) :: (([.methodLink RX12 169 yX12_isLine, .instanceMethod yX12_isLine, .selects RX12 yX12_isLine yX12_isLine, .initialized RX12, .code yX12_isLine cX12_isLine 2 (some .boolean), .fieldLink RX12 79 "EachOnHisCueModel" "lines" "I", .methodLink RX12 89 yX12_no, .instanceMethod yX12_no, .selects RX12 yX12_no yX12_no, .code yX12_no cX12_no 2 (some .int), .fieldLink RX12 7 "EachOnHisCueModel" "refused" "[I"] : List Cond) ++ wsX120)
set_option maxRecDepth 20000 in
theorem gw_X12_cue_X12_isLine : GoodIn vsX12_cue vsX12_isLine := goodIn_r _ [5, 6, 12, 13, 14, 15, 16, 17, 18, 19, 20, 21, 22, 23, 24, 25, 26, 27, 28, 29, 30, 31, 32, 33, 34, 35, 36, 37, 38, 39, 40, 41, 42, 43, 44, 45, 46, 47, 48, 49] (by decide +kernel) (by decide +kernel)
set_option maxRecDepth 20000 in
theorem gv_X12_cue_X12_isLine_169 : GoodIn vsX12_cue (wsV RX12 169 RX12 yX12_isLine vsX12_isLine) := goodIn_app (goodIn_of _ (by decide +kernel)) gw_X12_cue_X12_isLine
set_option maxRecDepth 20000 in
theorem gw_X12_cue_X12_no : GoodIn vsX12_cue vsX12_no := goodIn_r _ [10, 11, 12, 13, 14, 15, 16, 17, 18, 19, 20, 21, 22, 23, 24, 25, 26, 27, 28, 29, 30, 31, 32, 33, 34, 35, 36, 37, 38, 39, 40, 41, 42, 43, 44, 45, 46, 47, 48, 49] (by decide +kernel) (by decide +kernel)
set_option maxRecDepth 20000 in
theorem gv_X12_cue_X12_no_89 : GoodIn vsX12_cue (wsV RX12 89 RX12 yX12_no vsX12_no) := goodIn_app (goodIn_of _ (by decide +kernel)) gw_X12_cue_X12_no
noncomputable def vsX11_speed : List Cond := .code yX11_speed cX11_speed 4 (some .int) :: (([.fieldLink RX11 10 "EachOnHisCue" "play" "LEachOnHisCue$Play;", .methodLink RX11 80 yX7_hasPlayer, .instanceMethod yX7_hasPlayer, .selects RX7 yX7_hasPlayer yX7_hasPlayer, .initialized RX7, .code yX7_hasPlayer cX7_hasPlayer 2 (some .boolean), .fieldLink RX7 24 "EachOnHisCue$Play" "players" "I", .methodLink RX11 53 yX11_refuse, .instanceMethod yX11_refuse, .selects RX11 yX11_refuse yX11_refuse, .initialized RX11, .code yX11_refuse cX11_refuse 3 (some .int), .fieldLink RX11 50 "EachOnHisCue" "refusals" "[I"] : List Cond) ++ wsX70 ++ wsX110)
theorem in_X11_speed_X11 : ∀ w ∈ wsX110, w ∈ vsX11_speed := fun _ h => List.mem_cons_of_mem _ (List.mem_append_right _ h)
set_option maxRecDepth 20000 in
theorem gw_X11_speed_X7_hasPlayer : GoodIn vsX11_speed vsX7_hasPlayer := goodIn_r _ [6, 7, 14, 15, 16, 17, 18, 19, 20, 21, 22, 23, 24, 25] (by decide +kernel) (by decide +kernel)
set_option maxRecDepth 20000 in
theorem gv_X11_speed_X7_hasPlayer_80 : GoodIn vsX11_speed (wsV RX11 80 RX7 yX7_hasPlayer vsX7_hasPlayer) := goodIn_app (goodIn_of _ (by decide +kernel)) gw_X11_speed_X7_hasPlayer
set_option maxRecDepth 20000 in
theorem gw_X11_speed_X11_refuse : GoodIn vsX11_speed vsX11_refuse := goodIn_r _ [12, 13, 26, 27, 28, 29, 30, 31, 32, 33, 34] (by decide +kernel) (by decide +kernel)
set_option maxRecDepth 20000 in
theorem gv_X11_speed_X11_refuse_53 : GoodIn vsX11_speed (wsV RX11 53 RX11 yX11_refuse vsX11_refuse) := goodIn_app (goodIn_of _ (by decide +kernel)) gw_X11_speed_X11_refuse
noncomputable def vsX12_speed : List Cond := .code yX12_speed cX12_speed 5 (some .int) :: (([.methodLink RX12 117 yX12_isPlayer, .instanceMethod yX12_isPlayer, .selects RX12 yX12_isPlayer yX12_isPlayer, .initialized RX12, .code yX12_isPlayer cX12_isPlayer 2 (some .boolean), .fieldLink RX12 76 "EachOnHisCueModel" "players" "I", .methodLink RX12 89 yX12_no, .instanceMethod yX12_no, .selects RX12 yX12_no yX12_no, .code yX12_no cX12_no 2 (some .int), .fieldLink RX12 7 "EachOnHisCueModel" "refused" "[I"] : List Cond) ++ wsX120)
set_option maxRecDepth 20000 in
theorem gw_X12_speed_X12_isPlayer : GoodIn vsX12_speed vsX12_isPlayer := goodIn_r _ [5, 6, 12, 13, 14, 15, 16, 17, 18, 19, 20, 21, 22, 23, 24, 25, 26, 27, 28, 29, 30, 31, 32, 33, 34, 35, 36, 37, 38, 39, 40, 41, 42, 43, 44, 45, 46, 47, 48, 49] (by decide +kernel) (by decide +kernel)
set_option maxRecDepth 20000 in
theorem gv_X12_speed_X12_isPlayer_117 : GoodIn vsX12_speed (wsV RX12 117 RX12 yX12_isPlayer vsX12_isPlayer) := goodIn_app (goodIn_of _ (by decide +kernel)) gw_X12_speed_X12_isPlayer
set_option maxRecDepth 20000 in
theorem gw_X12_speed_X12_no : GoodIn vsX12_speed vsX12_no := goodIn_r _ [10, 11, 12, 13, 14, 15, 16, 17, 18, 19, 20, 21, 22, 23, 24, 25, 26, 27, 28, 29, 30, 31, 32, 33, 34, 35, 36, 37, 38, 39, 40, 41, 42, 43, 44, 45, 46, 47, 48, 49] (by decide +kernel) (by decide +kernel)
set_option maxRecDepth 20000 in
theorem gv_X12_speed_X12_no_89 : GoodIn vsX12_speed (wsV RX12 89 RX12 yX12_no vsX12_no) := goodIn_app (goodIn_of _ (by decide +kernel)) gw_X12_speed_X12_no
noncomputable def vsX11_lose : List Cond := .code yX11_lose cX11_lose 3 (some .int) :: (([.fieldLink RX11 10 "EachOnHisCue" "play" "LEachOnHisCue$Play;", .fieldLink RX11 124 "EachOnHisCue$Play" "lost" "I", .methodLink RX11 53 yX11_refuse, .instanceMethod yX11_refuse, .selects RX11 yX11_refuse yX11_refuse, .initialized RX11, .code yX11_refuse cX11_refuse 3 (some .int), .fieldLink RX11 50 "EachOnHisCue" "refusals" "[I"] : List Cond) ++ wsX70 ++ wsX110)
theorem in_X11_lose_X7 : ∀ w ∈ wsX70, w ∈ vsX11_lose := fun _ h => List.mem_cons_of_mem _ (List.mem_append_left _ (List.mem_append_right _ h))
theorem in_X11_lose_X11 : ∀ w ∈ wsX110, w ∈ vsX11_lose := fun _ h => List.mem_cons_of_mem _ (List.mem_append_right _ h)
set_option maxRecDepth 20000 in
theorem gw_X11_lose_X11_refuse : GoodIn vsX11_lose vsX11_refuse := goodIn_r _ [7, 8, 21, 22, 23, 24, 25, 26, 27, 28, 29] (by decide +kernel) (by decide +kernel)
set_option maxRecDepth 20000 in
theorem gv_X11_lose_X11_refuse_53 : GoodIn vsX11_lose (wsV RX11 53 RX11 yX11_refuse vsX11_refuse) := goodIn_app (goodIn_of _ (by decide +kernel)) gw_X11_lose_X11_refuse
noncomputable def vsX12_lose : List Cond := .code yX12_lose cX12_lose 4 (some .int) :: (([.fieldLink RX12 37 "EachOnHisCueModel" "lose" "I", .methodLink RX12 82 yX12_bound, .static yX12_bound, .initialized RX12, .code yX12_bound cX12_bound 3 (some .int), .methodLink RX12 89 yX12_no, .instanceMethod yX12_no, .selects RX12 yX12_no yX12_no, .code yX12_no cX12_no 2 (some .int), .fieldLink RX12 7 "EachOnHisCueModel" "refused" "[I"] : List Cond) ++ wsX120)
theorem in_X12_lose_X12 : ∀ w ∈ wsX120, w ∈ vsX12_lose := fun _ h => List.mem_cons_of_mem _ (List.mem_append_right _ h)
set_option maxRecDepth 20000 in
theorem gw_X12_lose_X12_bound : GoodIn vsX12_lose vsX12_bound := goodIn_r _ [5] (by decide +kernel) (by decide +kernel)
set_option maxRecDepth 20000 in
theorem gv_X12_lose_X12_bound_82 : GoodIn vsX12_lose (va_wsS RX12 82 yX12_bound vsX12_bound) := goodIn_app (goodIn_of _ (by decide +kernel)) gw_X12_lose_X12_bound
set_option maxRecDepth 20000 in
theorem gw_X12_lose_X12_no : GoodIn vsX12_lose vsX12_no := goodIn_r _ [9, 10, 11, 12, 13, 14, 15, 16, 17, 18, 19, 20, 21, 22, 23, 24, 25, 26, 27, 28, 29, 30, 31, 32, 33, 34, 35, 36, 37, 38, 39, 40, 41, 42, 43, 44, 45, 46, 47, 48] (by decide +kernel) (by decide +kernel)
set_option maxRecDepth 20000 in
theorem gv_X12_lose_X12_no_89 : GoodIn vsX12_lose (wsV RX12 89 RX12 yX12_no vsX12_no) := goodIn_app (goodIn_of _ (by decide +kernel)) gw_X12_lose_X12_no
noncomputable def vsX11_comes : List Cond := .code yX11_comes cX11_comes 2 (some .int) :: (([.fieldLink RX11 10 "EachOnHisCue" "play" "LEachOnHisCue$Play;", .methodLink RX11 80 yX7_hasPlayer, .instanceMethod yX7_hasPlayer, .selects RX7 yX7_hasPlayer yX7_hasPlayer, .initialized RX7, .code yX7_hasPlayer cX7_hasPlayer 2 (some .boolean), .fieldLink RX7 24 "EachOnHisCue$Play" "players" "I", .methodLink RX11 53 yX11_refuse, .instanceMethod yX11_refuse, .selects RX11 yX11_refuse yX11_refuse, .initialized RX11, .code yX11_refuse cX11_refuse 3 (some .int), .fieldLink RX11 50 "EachOnHisCue" "refusals" "[I"] : List Cond) ++ wsX70 ++ wsX110)
theorem in_X11_comes_X11 : ∀ w ∈ wsX110, w ∈ vsX11_comes := fun _ h => List.mem_cons_of_mem _ (List.mem_append_right _ h)
set_option maxRecDepth 20000 in
theorem gw_X11_comes_X7_hasPlayer : GoodIn vsX11_comes vsX7_hasPlayer := goodIn_r _ [6, 7, 14, 15, 16, 17, 18, 19, 20, 21, 22, 23, 24, 25] (by decide +kernel) (by decide +kernel)
set_option maxRecDepth 20000 in
theorem gv_X11_comes_X7_hasPlayer_80 : GoodIn vsX11_comes (wsV RX11 80 RX7 yX7_hasPlayer vsX7_hasPlayer) := goodIn_app (goodIn_of _ (by decide +kernel)) gw_X11_comes_X7_hasPlayer
set_option maxRecDepth 20000 in
theorem gw_X11_comes_X11_refuse : GoodIn vsX11_comes vsX11_refuse := goodIn_r _ [12, 13, 26, 27, 28, 29, 30, 31, 32, 33, 34] (by decide +kernel) (by decide +kernel)
set_option maxRecDepth 20000 in
theorem gv_X11_comes_X11_refuse_53 : GoodIn vsX11_comes (wsV RX11 53 RX11 yX11_refuse vsX11_refuse) := goodIn_app (goodIn_of _ (by decide +kernel)) gw_X11_comes_X11_refuse
noncomputable def vsX12_comes : List Cond := .code yX12_comes cX12_comes 2 (some .int) :: (([.methodLink RX12 117 yX12_isPlayer, .instanceMethod yX12_isPlayer, .selects RX12 yX12_isPlayer yX12_isPlayer, .initialized RX12, .code yX12_isPlayer cX12_isPlayer 2 (some .boolean), .fieldLink RX12 76 "EachOnHisCueModel" "players" "I", .methodLink RX12 89 yX12_no, .instanceMethod yX12_no, .selects RX12 yX12_no yX12_no, .code yX12_no cX12_no 2 (some .int), .fieldLink RX12 7 "EachOnHisCueModel" "refused" "[I"] : List Cond) ++ wsX120)
set_option maxRecDepth 20000 in
theorem gw_X12_comes_X12_isPlayer : GoodIn vsX12_comes vsX12_isPlayer := goodIn_r _ [5, 6, 12, 13, 14, 15, 16, 17, 18, 19, 20, 21, 22, 23, 24, 25, 26, 27, 28, 29, 30, 31, 32, 33, 34, 35, 36, 37, 38, 39, 40, 41, 42, 43, 44, 45, 46, 47, 48, 49] (by decide +kernel) (by decide +kernel)
set_option maxRecDepth 20000 in
theorem gv_X12_comes_X12_isPlayer_117 : GoodIn vsX12_comes (wsV RX12 117 RX12 yX12_isPlayer vsX12_isPlayer) := goodIn_app (goodIn_of _ (by decide +kernel)) gw_X12_comes_X12_isPlayer
set_option maxRecDepth 20000 in
theorem gw_X12_comes_X12_no : GoodIn vsX12_comes vsX12_no := goodIn_r _ [10, 11, 12, 13, 14, 15, 16, 17, 18, 19, 20, 21, 22, 23, 24, 25, 26, 27, 28, 29, 30, 31, 32, 33, 34, 35, 36, 37, 38, 39, 40, 41, 42, 43, 44, 45, 46, 47, 48, 49] (by decide +kernel) (by decide +kernel)
set_option maxRecDepth 20000 in
theorem gv_X12_comes_X12_no_89 : GoodIn vsX12_comes (wsV RX12 89 RX12 yX12_no vsX12_no) := goodIn_app (goodIn_of _ (by decide +kernel)) gw_X12_comes_X12_no
noncomputable def vsX11_say : List Cond := .code yX11_say cX11_say 2 (some .int) :: (([.fieldLink RX11 10 "EachOnHisCue" "play" "LEachOnHisCue$Play;", .fieldLink RX11 137 "EachOnHisCue$Play" "lines" "I", .methodLink RX11 53 yX11_refuse, .instanceMethod yX11_refuse, .selects RX11 yX11_refuse yX11_refuse, .initialized RX11, .code yX11_refuse cX11_refuse 3 (some .int), .fieldLink RX11 50 "EachOnHisCue" "refusals" "[I"] : List Cond) ++ wsX70 ++ wsX110)
theorem in_X11_say_X7 : ∀ w ∈ wsX70, w ∈ vsX11_say := fun _ h => List.mem_cons_of_mem _ (List.mem_append_left _ (List.mem_append_right _ h))
theorem in_X11_say_X11 : ∀ w ∈ wsX110, w ∈ vsX11_say := fun _ h => List.mem_cons_of_mem _ (List.mem_append_right _ h)
set_option maxRecDepth 20000 in
theorem gw_X11_say_X11_refuse : GoodIn vsX11_say vsX11_refuse := goodIn_r _ [7, 8, 21, 22, 23, 24, 25, 26, 27, 28, 29] (by decide +kernel) (by decide +kernel)
set_option maxRecDepth 20000 in
theorem gv_X11_say_X11_refuse_53 : GoodIn vsX11_say (wsV RX11 53 RX11 yX11_refuse vsX11_refuse) := goodIn_app (goodIn_of _ (by decide +kernel)) gw_X11_say_X11_refuse
noncomputable def vsX12_say : List Cond := .code yX12_say cX12_say 2 (some .int) :: (([.fieldLink RX12 79 "EachOnHisCueModel" "lines" "I", .methodLink RX12 89 yX12_no, .instanceMethod yX12_no, .selects RX12 yX12_no yX12_no, .initialized RX12, .code yX12_no cX12_no 2 (some .int), .fieldLink RX12 7 "EachOnHisCueModel" "refused" "[I"] : List Cond) ++ wsX120)
theorem in_X12_say_X12 : ∀ w ∈ wsX120, w ∈ vsX12_say := fun _ h => List.mem_cons_of_mem _ (List.mem_append_right _ h)
set_option maxRecDepth 20000 in
theorem gw_X12_say_X12_no : GoodIn vsX12_say vsX12_no := goodIn_r _ [6, 7, 8, 9, 10, 11, 12, 13, 14, 15, 16, 17, 18, 19, 20, 21, 22, 23, 24, 25, 26, 27, 28, 29, 30, 31, 32, 33, 34, 35, 36, 37, 38, 39, 40, 41, 42, 43, 44, 45] (by decide +kernel) (by decide +kernel)
set_option maxRecDepth 20000 in
theorem gv_X12_say_X12_no_89 : GoodIn vsX12_say (wsV RX12 89 RX12 yX12_no vsX12_no) := goodIn_app (goodIn_of _ (by decide +kernel)) gw_X12_say_X12_no
noncomputable def vsX9_forget : List Cond := .code yX9_forget cX9_forget 1 none :: (([.fieldLink RX9 9 "EachOnHisCue$Saying" "said" "I", .fieldLink RX9 15 "EachOnHisCue$Saying" "dead" "I", .fieldLink RX9 18 "EachOnHisCue$Saying" "latest" "I", .fieldLink RX9 21 "EachOnHisCue$Saying" "times" "I", .fieldLink RX9 24 "EachOnHisCue$Saying" "leaps" "I"] : List Cond) ++ wsX90)
theorem in_X9_forget_X9 : ∀ w ∈ wsX90, w ∈ vsX9_forget := fun _ h => List.mem_cons_of_mem _ (List.mem_append_right _ h)
noncomputable def vsX12_beginsAnew : List Cond := .code yX12_beginsAnew cX12_beginsAnew 1 none :: (([.fieldLink RX12 151 "EachOnHisCueModel" "said" "I", .fieldLink RX12 154 "EachOnHisCueModel" "dead" "I", .fieldLink RX12 41 "EachOnHisCueModel" "latest" "I", .fieldLink RX12 157 "EachOnHisCueModel" "saidMany" "I"] : List Cond) ++ wsX120)
theorem in_X12_beginsAnew_X12 : ∀ w ∈ wsX120, w ∈ vsX12_beginsAnew := fun _ h => List.mem_cons_of_mem _ (List.mem_append_right _ h)
noncomputable def vsX11_again : List Cond := .code yX11_again cX11_again 2 (some .int) :: (([.fieldLink RX11 10 "EachOnHisCue" "play" "LEachOnHisCue$Play;", .fieldLink RX11 71 "EachOnHisCue$Play" "now" "LEachOnHisCue$Saying;", .fieldLink RX11 147 "EachOnHisCue$Saying" "times" "I", .methodLink RX11 75 yX9_forget, .instanceMethod yX9_forget, .selects RX9 yX9_forget yX9_forget, .initialized RX9, .code yX9_forget cX9_forget 1 none, .fieldLink RX9 9 "EachOnHisCue$Saying" "said" "I", .fieldLink RX9 15 "EachOnHisCue$Saying" "dead" "I", .fieldLink RX9 18 "EachOnHisCue$Saying" "latest" "I", .fieldLink RX9 21 "EachOnHisCue$Saying" "times" "I", .fieldLink RX9 24 "EachOnHisCue$Saying" "leaps" "I"] : List Cond) ++ wsX70 ++ wsX90 ++ wsX110)
theorem in_X11_again_X7 : ∀ w ∈ wsX70, w ∈ vsX11_again := fun _ h => List.mem_cons_of_mem _ (List.mem_append_left _ (List.mem_append_left _ (List.mem_append_right _ h)))
theorem in_X11_again_X9 : ∀ w ∈ wsX90, w ∈ vsX11_again := fun _ h => List.mem_cons_of_mem _ (List.mem_append_left _ (List.mem_append_right _ h))
theorem in_X11_again_X11 : ∀ w ∈ wsX110, w ∈ vsX11_again := fun _ h => List.mem_cons_of_mem _ (List.mem_append_right _ h)
set_option maxRecDepth 20000 in
theorem gw_X11_again_X9_forget : GoodIn vsX11_again vsX9_forget := goodIn_r _ [8, 9, 10, 11, 12, 13, 26, 27, 28, 29, 30] (by decide +kernel) (by decide +kernel)
set_option maxRecDepth 20000 in
theorem gv_X11_again_X9_forget_75 : GoodIn vsX11_again (wsV RX11 75 RX9 yX9_forget vsX9_forget) := goodIn_app (goodIn_of _ (by decide +kernel)) gw_X11_again_X9_forget
noncomputable def vsX12_again : List Cond := .code yX12_again cX12_again 2 (some .int) :: (([.fieldLink RX12 157 "EachOnHisCueModel" "saidMany" "I", .methodLink RX12 134 yX12_beginsAnew, .instanceMethod yX12_beginsAnew, .selects RX12 yX12_beginsAnew yX12_beginsAnew, .initialized RX12, .code yX12_beginsAnew cX12_beginsAnew 1 none, .fieldLink RX12 151 "EachOnHisCueModel" "said" "I", .fieldLink RX12 154 "EachOnHisCueModel" "dead" "I", .fieldLink RX12 41 "EachOnHisCueModel" "latest" "I"] : List Cond) ++ wsX120)
theorem in_X12_again_X12 : ∀ w ∈ wsX120, w ∈ vsX12_again := fun _ h => List.mem_cons_of_mem _ (List.mem_append_right _ h)
set_option maxRecDepth 20000 in
theorem gw_X12_again_X12_beginsAnew : GoodIn vsX12_again vsX12_beginsAnew := goodIn_r _ [6, 7, 8, 9, 1, 10, 11, 12, 13, 14, 15, 16, 17, 18, 19, 20, 21, 22, 23, 24, 25, 26, 27, 28, 29, 30, 31, 32, 33, 34, 35, 36, 37, 38, 39, 40, 41, 42, 43, 44, 45, 46, 47] (by decide +kernel) (by decide +kernel)
set_option maxRecDepth 20000 in
theorem gv_X12_again_X12_beginsAnew_134 : GoodIn vsX12_again (wsV RX12 134 RX12 yX12_beginsAnew vsX12_beginsAnew) := goodIn_app (goodIn_of _ (by decide +kernel)) gw_X12_again_X12_beginsAnew
noncomputable def vsX11_night : List Cond := .code yX11_night cX11_night 3 (some .int) :: (([.fieldLink RX11 10 "EachOnHisCue" "play" "LEachOnHisCue$Play;", .fieldLink RX11 137 "EachOnHisCue$Play" "lines" "I", .methodLink RX11 53 yX11_refuse, .instanceMethod yX11_refuse, .selects RX11 yX11_refuse yX11_refuse, .initialized RX11, .code yX11_refuse cX11_refuse 3 (some .int), .fieldLink RX11 50 "EachOnHisCue" "refusals" "[I"] : List Cond) ++ wsX70 ++ wsX110)
theorem in_X11_night_X7 : ∀ w ∈ wsX70, w ∈ vsX11_night := fun _ h => List.mem_cons_of_mem _ (List.mem_append_left _ (List.mem_append_right _ h))
theorem in_X11_night_X11 : ∀ w ∈ wsX110, w ∈ vsX11_night := fun _ h => List.mem_cons_of_mem _ (List.mem_append_right _ h)
set_option maxRecDepth 20000 in
theorem gw_X11_night_X11_refuse : GoodIn vsX11_night vsX11_refuse := goodIn_r _ [7, 8, 21, 22, 23, 24, 25, 26, 27, 28, 29] (by decide +kernel) (by decide +kernel)
set_option maxRecDepth 20000 in
theorem gv_X11_night_X11_refuse_53 : GoodIn vsX11_night (wsV RX11 53 RX11 yX11_refuse vsX11_refuse) := goodIn_app (goodIn_of _ (by decide +kernel)) gw_X11_night_X11_refuse
noncomputable def vsX12_night : List Cond := .code yX12_night cX12_night 2 (some .int) :: (([.fieldLink RX12 79 "EachOnHisCueModel" "lines" "I", .methodLink RX12 89 yX12_no, .instanceMethod yX12_no, .selects RX12 yX12_no yX12_no, .initialized RX12, .code yX12_no cX12_no 2 (some .int), .fieldLink RX12 7 "EachOnHisCueModel" "refused" "[I"] : List Cond) ++ wsX120)
theorem in_X12_night_X12 : ∀ w ∈ wsX120, w ∈ vsX12_night := fun _ h => List.mem_cons_of_mem _ (List.mem_append_right _ h)
set_option maxRecDepth 20000 in
theorem gw_X12_night_X12_no : GoodIn vsX12_night vsX12_no := goodIn_r _ [6, 7, 8, 9, 10, 11, 12, 13, 14, 15, 16, 17, 18, 19, 20, 21, 22, 23, 24, 25, 26, 27, 28, 29, 30, 31, 32, 33, 34, 35, 36, 37, 38, 39, 40, 41, 42, 43, 44, 45] (by decide +kernel) (by decide +kernel)
set_option maxRecDepth 20000 in
theorem gv_X12_night_X12_no_89 : GoodIn vsX12_night (wsV RX12 89 RX12 yX12_no vsX12_no) := goodIn_app (goodIn_of _ (by decide +kernel)) gw_X12_night_X12_no
noncomputable def vsX12_isIn : List Cond := .code yX12_isIn cX12_isIn 3 (some .boolean) :: (([] : List Cond))
noncomputable def vsX11_goes : List Cond := .code yX11_goes cX11_goes 3 (some .int) :: (([.fieldLink RX11 10 "EachOnHisCue" "play" "LEachOnHisCue$Play;", .fieldLink RX11 137 "EachOnHisCue$Play" "lines" "I", .methodLink RX11 53 yX11_refuse, .instanceMethod yX11_refuse, .selects RX11 yX11_refuse yX11_refuse, .initialized RX11, .code yX11_refuse cX11_refuse 3 (some .int), .fieldLink RX11 50 "EachOnHisCue" "refusals" "[I"] : List Cond) ++ wsX70 ++ wsX110)
theorem in_X11_goes_X7 : ∀ w ∈ wsX70, w ∈ vsX11_goes := fun _ h => List.mem_cons_of_mem _ (List.mem_append_left _ (List.mem_append_right _ h))
theorem in_X11_goes_X11 : ∀ w ∈ wsX110, w ∈ vsX11_goes := fun _ h => List.mem_cons_of_mem _ (List.mem_append_right _ h)
set_option maxRecDepth 20000 in
theorem gw_X11_goes_X11_refuse : GoodIn vsX11_goes vsX11_refuse := goodIn_r _ [7, 8, 21, 22, 23, 24, 25, 26, 27, 28, 29] (by decide +kernel) (by decide +kernel)
set_option maxRecDepth 20000 in
theorem gv_X11_goes_X11_refuse_53 : GoodIn vsX11_goes (wsV RX11 53 RX11 yX11_refuse vsX11_refuse) := goodIn_app (goodIn_of _ (by decide +kernel)) gw_X11_goes_X11_refuse
noncomputable def vsX12_goes : List Cond := .code yX12_goes cX12_goes 2 (some .int) :: (([.fieldLink RX12 79 "EachOnHisCueModel" "lines" "I", .methodLink RX12 100 yX12_isIn, .static yX12_isIn, .initialized RX12, .code yX12_isIn cX12_isIn 3 (some .boolean), .methodLink RX12 89 yX12_no, .instanceMethod yX12_no, .selects RX12 yX12_no yX12_no, .code yX12_no cX12_no 2 (some .int), .fieldLink RX12 7 "EachOnHisCueModel" "refused" "[I"] : List Cond) ++ wsX120)
theorem in_X12_goes_X12 : ∀ w ∈ wsX120, w ∈ vsX12_goes := fun _ h => List.mem_cons_of_mem _ (List.mem_append_right _ h)
set_option maxRecDepth 20000 in
theorem gw_X12_goes_X12_isIn : GoodIn vsX12_goes vsX12_isIn := goodIn_r _ [5] (by decide +kernel) (by decide +kernel)
set_option maxRecDepth 20000 in
theorem gv_X12_goes_X12_isIn_100 : GoodIn vsX12_goes (va_wsS RX12 100 yX12_isIn vsX12_isIn) := goodIn_app (goodIn_of _ (by decide +kernel)) gw_X12_goes_X12_isIn
set_option maxRecDepth 20000 in
theorem gw_X12_goes_X12_no : GoodIn vsX12_goes vsX12_no := goodIn_r _ [9, 10, 11, 12, 13, 14, 15, 16, 17, 18, 19, 20, 21, 22, 23, 24, 25, 26, 27, 28, 29, 30, 31, 32, 33, 34, 35, 36, 37, 38, 39, 40, 41, 42, 43, 44, 45, 46, 47, 48] (by decide +kernel) (by decide +kernel)
set_option maxRecDepth 20000 in
theorem gv_X12_goes_X12_no_89 : GoodIn vsX12_goes (wsV RX12 89 RX12 yX12_no vsX12_no) := goodIn_app (goodIn_of _ (by decide +kernel)) gw_X12_goes_X12_no
noncomputable def vsX11_follow : List Cond := .code yX11_follow cX11_follow 2 (some .int) :: (([.fieldLink RX11 10 "EachOnHisCue" "play" "LEachOnHisCue$Play;", .methodLink RX11 103 yX7_hasLine, .instanceMethod yX7_hasLine, .selects RX7 yX7_hasLine yX7_hasLine, .initialized RX7, .code yX7_hasLine cX7_hasLine 2 (some .boolean), .fieldLink RX7 43 "EachOnHisCue$Play" "lines" "I", .methodLink RX11 53 yX11_refuse, .instanceMethod yX11_refuse, .selects RX11 yX11_refuse yX11_refuse, .initialized RX11, .code yX11_refuse cX11_refuse 3 (some .int), .fieldLink RX11 50 "EachOnHisCue" "refusals" "[I"] : List Cond) ++ wsX70 ++ wsX110)
theorem in_X11_follow_X11 : ∀ w ∈ wsX110, w ∈ vsX11_follow := fun _ h => List.mem_cons_of_mem _ (List.mem_append_right _ h)
set_option maxRecDepth 20000 in
theorem gw_X11_follow_X7_hasLine : GoodIn vsX11_follow vsX7_hasLine := goodIn_r _ [6, 7, 14, 15, 16, 17, 18, 19, 20, 21, 22, 23, 24, 25] (by decide +kernel) (by decide +kernel)
set_option maxRecDepth 20000 in
theorem gv_X11_follow_X7_hasLine_103 : GoodIn vsX11_follow (wsV RX11 103 RX7 yX7_hasLine vsX7_hasLine) := goodIn_app (goodIn_of _ (by decide +kernel)) gw_X11_follow_X7_hasLine
set_option maxRecDepth 20000 in
theorem gw_X11_follow_X11_refuse : GoodIn vsX11_follow vsX11_refuse := goodIn_r _ [12, 13, 26, 27, 28, 29, 30, 31, 32, 33, 34] (by decide +kernel) (by decide +kernel)
set_option maxRecDepth 20000 in
theorem gv_X11_follow_X11_refuse_53 : GoodIn vsX11_follow (wsV RX11 53 RX11 yX11_refuse vsX11_refuse) := goodIn_app (goodIn_of _ (by decide +kernel)) gw_X11_follow_X11_refuse
noncomputable def vsX12_follow : List Cond := .code yX12_follow cX12_follow 2 (some .int) :: (([.methodLink RX12 169 yX12_isLine, .instanceMethod yX12_isLine, .selects RX12 yX12_isLine yX12_isLine, .initialized RX12, .code yX12_isLine cX12_isLine 2 (some .boolean), .fieldLink RX12 79 "EachOnHisCueModel" "lines" "I", .methodLink RX12 89 yX12_no, .instanceMethod yX12_no, .selects RX12 yX12_no yX12_no, .code yX12_no cX12_no 2 (some .int), .fieldLink RX12 7 "EachOnHisCueModel" "refused" "[I"] : List Cond) ++ wsX120)
set_option maxRecDepth 20000 in
theorem gw_X12_follow_X12_isLine : GoodIn vsX12_follow vsX12_isLine := goodIn_r _ [5, 6, 12, 13, 14, 15, 16, 17, 18, 19, 20, 21, 22, 23, 24, 25, 26, 27, 28, 29, 30, 31, 32, 33, 34, 35, 36, 37, 38, 39, 40, 41, 42, 43, 44, 45, 46, 47, 48, 49] (by decide +kernel) (by decide +kernel)
set_option maxRecDepth 20000 in
theorem gv_X12_follow_X12_isLine_169 : GoodIn vsX12_follow (wsV RX12 169 RX12 yX12_isLine vsX12_isLine) := goodIn_app (goodIn_of _ (by decide +kernel)) gw_X12_follow_X12_isLine
set_option maxRecDepth 20000 in
theorem gw_X12_follow_X12_no : GoodIn vsX12_follow vsX12_no := goodIn_r _ [10, 11, 12, 13, 14, 15, 16, 17, 18, 19, 20, 21, 22, 23, 24, 25, 26, 27, 28, 29, 30, 31, 32, 33, 34, 35, 36, 37, 38, 39, 40, 41, 42, 43, 44, 45, 46, 47, 48, 49] (by decide +kernel) (by decide +kernel)
set_option maxRecDepth 20000 in
theorem gv_X12_follow_X12_no_89 : GoodIn vsX12_follow (wsV RX12 89 RX12 yX12_no vsX12_no) := goodIn_app (goodIn_of _ (by decide +kernel)) gw_X12_follow_X12_no
noncomputable def vsX11_net : List Cond := .code yX11_net cX11_net 2 (some .int) :: (([.fieldLink RX11 10 "EachOnHisCue" "play" "LEachOnHisCue$Play;", .fieldLink RX11 137 "EachOnHisCue$Play" "lines" "I", .methodLink RX11 53 yX11_refuse, .instanceMethod yX11_refuse, .selects RX11 yX11_refuse yX11_refuse, .initialized RX11, .code yX11_refuse cX11_refuse 3 (some .int), .fieldLink RX11 50 "EachOnHisCue" "refusals" "[I"] : List Cond) ++ wsX70 ++ wsX110)
theorem in_X11_net_X7 : ∀ w ∈ wsX70, w ∈ vsX11_net := fun _ h => List.mem_cons_of_mem _ (List.mem_append_left _ (List.mem_append_right _ h))
theorem in_X11_net_X11 : ∀ w ∈ wsX110, w ∈ vsX11_net := fun _ h => List.mem_cons_of_mem _ (List.mem_append_right _ h)
set_option maxRecDepth 20000 in
theorem gw_X11_net_X11_refuse : GoodIn vsX11_net vsX11_refuse := goodIn_r _ [7, 8, 21, 22, 23, 24, 25, 26, 27, 28, 29] (by decide +kernel) (by decide +kernel)
set_option maxRecDepth 20000 in
theorem gv_X11_net_X11_refuse_53 : GoodIn vsX11_net (wsV RX11 53 RX11 yX11_refuse vsX11_refuse) := goodIn_app (goodIn_of _ (by decide +kernel)) gw_X11_net_X11_refuse
noncomputable def vsX12_net : List Cond := .code yX12_net cX12_net 2 (some .int) :: (([.fieldLink RX12 79 "EachOnHisCueModel" "lines" "I", .methodLink RX12 100 yX12_isIn, .static yX12_isIn, .initialized RX12, .code yX12_isIn cX12_isIn 3 (some .boolean), .methodLink RX12 89 yX12_no, .instanceMethod yX12_no, .selects RX12 yX12_no yX12_no, .code yX12_no cX12_no 2 (some .int), .fieldLink RX12 7 "EachOnHisCueModel" "refused" "[I"] : List Cond) ++ wsX120)
theorem in_X12_net_X12 : ∀ w ∈ wsX120, w ∈ vsX12_net := fun _ h => List.mem_cons_of_mem _ (List.mem_append_right _ h)
set_option maxRecDepth 20000 in
theorem gw_X12_net_X12_isIn : GoodIn vsX12_net vsX12_isIn := goodIn_r _ [5] (by decide +kernel) (by decide +kernel)
set_option maxRecDepth 20000 in
theorem gv_X12_net_X12_isIn_100 : GoodIn vsX12_net (va_wsS RX12 100 yX12_isIn vsX12_isIn) := goodIn_app (goodIn_of _ (by decide +kernel)) gw_X12_net_X12_isIn
set_option maxRecDepth 20000 in
theorem gw_X12_net_X12_no : GoodIn vsX12_net vsX12_no := goodIn_r _ [9, 10, 11, 12, 13, 14, 15, 16, 17, 18, 19, 20, 21, 22, 23, 24, 25, 26, 27, 28, 29, 30, 31, 32, 33, 34, 35, 36, 37, 38, 39, 40, 41, 42, 43, 44, 45, 46, 47, 48] (by decide +kernel) (by decide +kernel)
set_option maxRecDepth 20000 in
theorem gv_X12_net_X12_no_89 : GoodIn vsX12_net (wsV RX12 89 RX12 yX12_no vsX12_no) := goodIn_app (goodIn_of _ (by decide +kernel)) gw_X12_net_X12_no
noncomputable def vsX11_mend : List Cond := .code yX11_mend cX11_mend 4 (some .int) :: (([.fieldLink RX11 10 "EachOnHisCue" "play" "LEachOnHisCue$Play;", .fieldLink RX11 137 "EachOnHisCue$Play" "lines" "I", .methodLink RX11 53 yX11_refuse, .instanceMethod yX11_refuse, .selects RX11 yX11_refuse yX11_refuse, .initialized RX11, .code yX11_refuse cX11_refuse 3 (some .int), .fieldLink RX11 50 "EachOnHisCue" "refusals" "[I"] : List Cond) ++ wsX70 ++ wsX110)
theorem in_X11_mend_X7 : ∀ w ∈ wsX70, w ∈ vsX11_mend := fun _ h => List.mem_cons_of_mem _ (List.mem_append_left _ (List.mem_append_right _ h))
theorem in_X11_mend_X11 : ∀ w ∈ wsX110, w ∈ vsX11_mend := fun _ h => List.mem_cons_of_mem _ (List.mem_append_right _ h)
set_option maxRecDepth 20000 in
theorem gw_X11_mend_X11_refuse : GoodIn vsX11_mend vsX11_refuse := goodIn_r _ [7, 8, 21, 22, 23, 24, 25, 26, 27, 28, 29] (by decide +kernel) (by decide +kernel)
set_option maxRecDepth 20000 in
theorem gv_X11_mend_X11_refuse_53 : GoodIn vsX11_mend (wsV RX11 53 RX11 yX11_refuse vsX11_refuse) := goodIn_app (goodIn_of _ (by decide +kernel)) gw_X11_mend_X11_refuse
noncomputable def vsX12_mend : List Cond := .code yX12_mend cX12_mend 3 (some .int) :: (([.fieldLink RX12 79 "EachOnHisCueModel" "lines" "I", .methodLink RX12 89 yX12_no, .instanceMethod yX12_no, .selects RX12 yX12_no yX12_no, .initialized RX12, .code yX12_no cX12_no 2 (some .int), .fieldLink RX12 7 "EachOnHisCueModel" "refused" "[I"] : List Cond) ++ wsX120)
theorem in_X12_mend_X12 : ∀ w ∈ wsX120, w ∈ vsX12_mend := fun _ h => List.mem_cons_of_mem _ (List.mem_append_right _ h)
set_option maxRecDepth 20000 in
theorem gw_X12_mend_X12_no : GoodIn vsX12_mend vsX12_no := goodIn_r _ [6, 7, 8, 9, 10, 11, 12, 13, 14, 15, 16, 17, 18, 19, 20, 21, 22, 23, 24, 25, 26, 27, 28, 29, 30, 31, 32, 33, 34, 35, 36, 37, 38, 39, 40, 41, 42, 43, 44, 45] (by decide +kernel) (by decide +kernel)
set_option maxRecDepth 20000 in
theorem gv_X12_mend_X12_no_89 : GoodIn vsX12_mend (wsV RX12 89 RX12 yX12_no vsX12_no) := goodIn_app (goodIn_of _ (by decide +kernel)) gw_X12_mend_X12_no
noncomputable def vsX11_mendOf : List Cond := .code yX11_mendOf cX11_mendOf 2 (some .int) :: (([.fieldLink RX11 10 "EachOnHisCue" "play" "LEachOnHisCue$Play;", .methodLink RX11 103 yX7_hasLine, .instanceMethod yX7_hasLine, .selects RX7 yX7_hasLine yX7_hasLine, .initialized RX7, .code yX7_hasLine cX7_hasLine 2 (some .boolean), .fieldLink RX7 43 "EachOnHisCue$Play" "lines" "I", .methodLink RX11 53 yX11_refuse, .instanceMethod yX11_refuse, .selects RX11 yX11_refuse yX11_refuse, .initialized RX11, .code yX11_refuse cX11_refuse 3 (some .int), .fieldLink RX11 50 "EachOnHisCue" "refusals" "[I"] : List Cond) ++ wsX70 ++ wsX110)
theorem in_X11_mendOf_X11 : ∀ w ∈ wsX110, w ∈ vsX11_mendOf := fun _ h => List.mem_cons_of_mem _ (List.mem_append_right _ h)
set_option maxRecDepth 20000 in
theorem gw_X11_mendOf_X7_hasLine : GoodIn vsX11_mendOf vsX7_hasLine := goodIn_r _ [6, 7, 14, 15, 16, 17, 18, 19, 20, 21, 22, 23, 24, 25] (by decide +kernel) (by decide +kernel)
set_option maxRecDepth 20000 in
theorem gv_X11_mendOf_X7_hasLine_103 : GoodIn vsX11_mendOf (wsV RX11 103 RX7 yX7_hasLine vsX7_hasLine) := goodIn_app (goodIn_of _ (by decide +kernel)) gw_X11_mendOf_X7_hasLine
set_option maxRecDepth 20000 in
theorem gw_X11_mendOf_X11_refuse : GoodIn vsX11_mendOf vsX11_refuse := goodIn_r _ [12, 13, 26, 27, 28, 29, 30, 31, 32, 33, 34] (by decide +kernel) (by decide +kernel)
set_option maxRecDepth 20000 in
theorem gv_X11_mendOf_X11_refuse_53 : GoodIn vsX11_mendOf (wsV RX11 53 RX11 yX11_refuse vsX11_refuse) := goodIn_app (goodIn_of _ (by decide +kernel)) gw_X11_mendOf_X11_refuse
noncomputable def vsX12_mendOf : List Cond := .code yX12_mendOf cX12_mendOf 2 (some .int) :: (([.methodLink RX12 169 yX12_isLine, .instanceMethod yX12_isLine, .selects RX12 yX12_isLine yX12_isLine, .initialized RX12, .code yX12_isLine cX12_isLine 2 (some .boolean), .fieldLink RX12 79 "EachOnHisCueModel" "lines" "I", .methodLink RX12 89 yX12_no, .instanceMethod yX12_no, .selects RX12 yX12_no yX12_no, .code yX12_no cX12_no 2 (some .int), .fieldLink RX12 7 "EachOnHisCueModel" "refused" "[I"] : List Cond) ++ wsX120)
set_option maxRecDepth 20000 in
theorem gw_X12_mendOf_X12_isLine : GoodIn vsX12_mendOf vsX12_isLine := goodIn_r _ [5, 6, 12, 13, 14, 15, 16, 17, 18, 19, 20, 21, 22, 23, 24, 25, 26, 27, 28, 29, 30, 31, 32, 33, 34, 35, 36, 37, 38, 39, 40, 41, 42, 43, 44, 45, 46, 47, 48, 49] (by decide +kernel) (by decide +kernel)
set_option maxRecDepth 20000 in
theorem gv_X12_mendOf_X12_isLine_169 : GoodIn vsX12_mendOf (wsV RX12 169 RX12 yX12_isLine vsX12_isLine) := goodIn_app (goodIn_of _ (by decide +kernel)) gw_X12_mendOf_X12_isLine
set_option maxRecDepth 20000 in
theorem gw_X12_mendOf_X12_no : GoodIn vsX12_mendOf vsX12_no := goodIn_r _ [10, 11, 12, 13, 14, 15, 16, 17, 18, 19, 20, 21, 22, 23, 24, 25, 26, 27, 28, 29, 30, 31, 32, 33, 34, 35, 36, 37, 38, 39, 40, 41, 42, 43, 44, 45, 46, 47, 48, 49] (by decide +kernel) (by decide +kernel)
set_option maxRecDepth 20000 in
theorem gv_X12_mendOf_X12_no_89 : GoodIn vsX12_mendOf (wsV RX12 89 RX12 yX12_no vsX12_no) := goodIn_app (goodIn_of _ (by decide +kernel)) gw_X12_mendOf_X12_no
noncomputable def vsX11_prompted : List Cond := .code yX11_prompted cX11_prompted 1 (some .int) :: (([.fieldLink RX11 10 "EachOnHisCue" "play" "LEachOnHisCue$Play;", .fieldLink RX11 137 "EachOnHisCue$Play" "lines" "I", .methodLink RX11 53 yX11_refuse, .instanceMethod yX11_refuse, .selects RX11 yX11_refuse yX11_refuse, .initialized RX11, .code yX11_refuse cX11_refuse 3 (some .int), .fieldLink RX11 50 "EachOnHisCue" "refusals" "[I"] : List Cond) ++ wsX70 ++ wsX110)
theorem in_X11_prompted_X7 : ∀ w ∈ wsX70, w ∈ vsX11_prompted := fun _ h => List.mem_cons_of_mem _ (List.mem_append_left _ (List.mem_append_right _ h))
theorem in_X11_prompted_X11 : ∀ w ∈ wsX110, w ∈ vsX11_prompted := fun _ h => List.mem_cons_of_mem _ (List.mem_append_right _ h)
set_option maxRecDepth 20000 in
theorem gw_X11_prompted_X11_refuse : GoodIn vsX11_prompted vsX11_refuse := goodIn_r _ [7, 8, 21, 22, 23, 24, 25, 26, 27, 28, 29] (by decide +kernel) (by decide +kernel)
set_option maxRecDepth 20000 in
theorem gv_X11_prompted_X11_refuse_53 : GoodIn vsX11_prompted (wsV RX11 53 RX11 yX11_refuse vsX11_refuse) := goodIn_app (goodIn_of _ (by decide +kernel)) gw_X11_prompted_X11_refuse
noncomputable def vsX12_prompted : List Cond := .code yX12_prompted cX12_prompted 3 (some .int) :: (([.fieldLink RX12 79 "EachOnHisCueModel" "lines" "I", .methodLink RX12 89 yX12_no, .instanceMethod yX12_no, .selects RX12 yX12_no yX12_no, .initialized RX12, .code yX12_no cX12_no 2 (some .int), .fieldLink RX12 7 "EachOnHisCueModel" "refused" "[I"] : List Cond) ++ wsX120)
theorem in_X12_prompted_X12 : ∀ w ∈ wsX120, w ∈ vsX12_prompted := fun _ h => List.mem_cons_of_mem _ (List.mem_append_right _ h)
set_option maxRecDepth 20000 in
theorem gw_X12_prompted_X12_no : GoodIn vsX12_prompted vsX12_no := goodIn_r _ [6, 7, 8, 9, 10, 11, 12, 13, 14, 15, 16, 17, 18, 19, 20, 21, 22, 23, 24, 25, 26, 27, 28, 29, 30, 31, 32, 33, 34, 35, 36, 37, 38, 39, 40, 41, 42, 43, 44, 45] (by decide +kernel) (by decide +kernel)
set_option maxRecDepth 20000 in
theorem gv_X12_prompted_X12_no_89 : GoodIn vsX12_prompted (wsV RX12 89 RX12 yX12_no vsX12_no) := goodIn_app (goodIn_of _ (by decide +kernel)) gw_X12_prompted_X12_no
noncomputable def vsX12_lowest : List Cond := .code yX12_lowest cX12_lowest 2 (some .long) :: (([.fieldLink RX12 7 "EachOnHisCueModel" "refused" "[I", .constantLong RX12 74 (4000000000000000000)] : List Cond) ++ wsX120)
theorem in_X12_lowest_X12 : ∀ w ∈ wsX120, w ∈ vsX12_lowest := fun _ h => List.mem_cons_of_mem _ (List.mem_append_right _ h)
noncomputable def vsX11_home : List Cond := .code yX11_home cX11_home 4 (some .long) :: (([.constantLong RX11 194 (4000000000000000000), .fieldLink RX11 10 "EachOnHisCue" "play" "LEachOnHisCue$Play;", .fieldLink RX11 137 "EachOnHisCue$Play" "lines" "I", .methodLink RX11 53 yX11_refuse, .instanceMethod yX11_refuse, .selects RX11 yX11_refuse yX11_refuse, .initialized RX11, .code yX11_refuse cX11_refuse 3 (some .int), .fieldLink RX11 50 "EachOnHisCue" "refusals" "[I"] : List Cond) ++ wsX70 ++ wsX110)
theorem in_X11_home_X7 : ∀ w ∈ wsX70, w ∈ vsX11_home := fun _ h => List.mem_cons_of_mem _ (List.mem_append_left _ (List.mem_append_right _ h))
theorem in_X11_home_X11 : ∀ w ∈ wsX110, w ∈ vsX11_home := fun _ h => List.mem_cons_of_mem _ (List.mem_append_right _ h)
set_option maxRecDepth 20000 in
theorem gw_X11_home_X11_refuse : GoodIn vsX11_home vsX11_refuse := goodIn_r _ [8, 9, 22, 23, 24, 25, 26, 27, 28, 29, 30] (by decide +kernel) (by decide +kernel)
set_option maxRecDepth 20000 in
theorem gv_X11_home_X11_refuse_53 : GoodIn vsX11_home (wsV RX11 53 RX11 yX11_refuse vsX11_refuse) := goodIn_app (goodIn_of _ (by decide +kernel)) gw_X11_home_X11_refuse
noncomputable def vsX12_home : List Cond := .code yX12_home cX12_home 7 (some .long) :: (([.fieldLink RX12 79 "EachOnHisCueModel" "lines" "I", .methodLink RX12 100 yX12_isIn, .static yX12_isIn, .initialized RX12, .code yX12_isIn cX12_isIn 3 (some .boolean), .methodLink RX12 244 yX12_lowest, .instanceMethod yX12_lowest, .selects RX12 yX12_lowest yX12_lowest, .code yX12_lowest cX12_lowest 2 (some .long), .fieldLink RX12 7 "EachOnHisCueModel" "refused" "[I", .constantLong RX12 74 (4000000000000000000)] : List Cond) ++ wsX120)
theorem in_X12_home_X12 : ∀ w ∈ wsX120, w ∈ vsX12_home := fun _ h => List.mem_cons_of_mem _ (List.mem_append_right _ h)
set_option maxRecDepth 20000 in
theorem gw_X12_home_X12_isIn : GoodIn vsX12_home vsX12_isIn := goodIn_r _ [5] (by decide +kernel) (by decide +kernel)
set_option maxRecDepth 20000 in
theorem gv_X12_home_X12_isIn_100 : GoodIn vsX12_home (va_wsS RX12 100 yX12_isIn vsX12_isIn) := goodIn_app (goodIn_of _ (by decide +kernel)) gw_X12_home_X12_isIn
set_option maxRecDepth 20000 in
theorem gw_X12_home_X12_lowest : GoodIn vsX12_home vsX12_lowest := goodIn_r _ [9, 10, 11, 12, 13, 14, 15, 16, 17, 18, 19, 20, 21, 22, 23, 24, 25, 26, 27, 28, 29, 30, 31, 32, 33, 34, 35, 36, 37, 38, 39, 40, 41, 42, 43, 44, 45, 46, 47, 48, 49] (by decide +kernel) (by decide +kernel)
set_option maxRecDepth 20000 in
theorem gv_X12_home_X12_lowest_244 : GoodIn vsX12_home (wsV RX12 244 RX12 yX12_lowest vsX12_lowest) := goodIn_app (goodIn_of _ (by decide +kernel)) gw_X12_home_X12_lowest
noncomputable def vsX11_without : List Cond := .code yX11_without cX11_without 2 (some .int) :: (([.fieldLink RX11 10 "EachOnHisCue" "play" "LEachOnHisCue$Play;", .methodLink RX11 80 yX7_hasPlayer, .instanceMethod yX7_hasPlayer, .selects RX7 yX7_hasPlayer yX7_hasPlayer, .initialized RX7, .code yX7_hasPlayer cX7_hasPlayer 2 (some .boolean), .fieldLink RX7 24 "EachOnHisCue$Play" "players" "I", .methodLink RX11 53 yX11_refuse, .instanceMethod yX11_refuse, .selects RX11 yX11_refuse yX11_refuse, .initialized RX11, .code yX11_refuse cX11_refuse 3 (some .int), .fieldLink RX11 50 "EachOnHisCue" "refusals" "[I"] : List Cond) ++ wsX70 ++ wsX110)
theorem in_X11_without_X11 : ∀ w ∈ wsX110, w ∈ vsX11_without := fun _ h => List.mem_cons_of_mem _ (List.mem_append_right _ h)
set_option maxRecDepth 20000 in
theorem gw_X11_without_X7_hasPlayer : GoodIn vsX11_without vsX7_hasPlayer := goodIn_r _ [6, 7, 14, 15, 16, 17, 18, 19, 20, 21, 22, 23, 24, 25] (by decide +kernel) (by decide +kernel)
set_option maxRecDepth 20000 in
theorem gv_X11_without_X7_hasPlayer_80 : GoodIn vsX11_without (wsV RX11 80 RX7 yX7_hasPlayer vsX7_hasPlayer) := goodIn_app (goodIn_of _ (by decide +kernel)) gw_X11_without_X7_hasPlayer
set_option maxRecDepth 20000 in
theorem gw_X11_without_X11_refuse : GoodIn vsX11_without vsX11_refuse := goodIn_r _ [12, 13, 26, 27, 28, 29, 30, 31, 32, 33, 34] (by decide +kernel) (by decide +kernel)
set_option maxRecDepth 20000 in
theorem gv_X11_without_X11_refuse_53 : GoodIn vsX11_without (wsV RX11 53 RX11 yX11_refuse vsX11_refuse) := goodIn_app (goodIn_of _ (by decide +kernel)) gw_X11_without_X11_refuse
noncomputable def vsX12_without : List Cond := .code yX12_without cX12_without 2 (some .int) :: (([.methodLink RX12 117 yX12_isPlayer, .instanceMethod yX12_isPlayer, .selects RX12 yX12_isPlayer yX12_isPlayer, .initialized RX12, .code yX12_isPlayer cX12_isPlayer 2 (some .boolean), .fieldLink RX12 76 "EachOnHisCueModel" "players" "I", .methodLink RX12 89 yX12_no, .instanceMethod yX12_no, .selects RX12 yX12_no yX12_no, .code yX12_no cX12_no 2 (some .int), .fieldLink RX12 7 "EachOnHisCueModel" "refused" "[I"] : List Cond) ++ wsX120)
set_option maxRecDepth 20000 in
theorem gw_X12_without_X12_isPlayer : GoodIn vsX12_without vsX12_isPlayer := goodIn_r _ [5, 6, 12, 13, 14, 15, 16, 17, 18, 19, 20, 21, 22, 23, 24, 25, 26, 27, 28, 29, 30, 31, 32, 33, 34, 35, 36, 37, 38, 39, 40, 41, 42, 43, 44, 45, 46, 47, 48, 49] (by decide +kernel) (by decide +kernel)
set_option maxRecDepth 20000 in
theorem gv_X12_without_X12_isPlayer_117 : GoodIn vsX12_without (wsV RX12 117 RX12 yX12_isPlayer vsX12_isPlayer) := goodIn_app (goodIn_of _ (by decide +kernel)) gw_X12_without_X12_isPlayer
set_option maxRecDepth 20000 in
theorem gw_X12_without_X12_no : GoodIn vsX12_without vsX12_no := goodIn_r _ [10, 11, 12, 13, 14, 15, 16, 17, 18, 19, 20, 21, 22, 23, 24, 25, 26, 27, 28, 29, 30, 31, 32, 33, 34, 35, 36, 37, 38, 39, 40, 41, 42, 43, 44, 45, 46, 47, 48, 49] (by decide +kernel) (by decide +kernel)
set_option maxRecDepth 20000 in
theorem gv_X12_without_X12_no_89 : GoodIn vsX12_without (wsV RX12 89 RX12 yX12_no vsX12_no) := goodIn_app (goodIn_of _ (by decide +kernel)) gw_X12_without_X12_no
noncomputable def vsX11_leastHarm : List Cond := .code yX11_leastHarm cX11_leastHarm 5 (some .int) :: (([.fieldLink RX11 10 "EachOnHisCue" "play" "LEachOnHisCue$Play;", .fieldLink RX11 137 "EachOnHisCue$Play" "lines" "I", .methodLink RX11 53 yX11_refuse, .instanceMethod yX11_refuse, .selects RX11 yX11_refuse yX11_refuse, .initialized RX11, .code yX11_refuse cX11_refuse 3 (some .int), .fieldLink RX11 50 "EachOnHisCue" "refusals" "[I"] : List Cond) ++ wsX70 ++ wsX110)
theorem in_X11_leastHarm_X7 : ∀ w ∈ wsX70, w ∈ vsX11_leastHarm := fun _ h => List.mem_cons_of_mem _ (List.mem_append_left _ (List.mem_append_right _ h))
theorem in_X11_leastHarm_X11 : ∀ w ∈ wsX110, w ∈ vsX11_leastHarm := fun _ h => List.mem_cons_of_mem _ (List.mem_append_right _ h)
set_option maxRecDepth 20000 in
theorem gw_X11_leastHarm_X11_refuse : GoodIn vsX11_leastHarm vsX11_refuse := goodIn_r _ [7, 8, 21, 22, 23, 24, 25, 26, 27, 28, 29] (by decide +kernel) (by decide +kernel)
set_option maxRecDepth 20000 in
theorem gv_X11_leastHarm_X11_refuse_53 : GoodIn vsX11_leastHarm (wsV RX11 53 RX11 yX11_refuse vsX11_refuse) := goodIn_app (goodIn_of _ (by decide +kernel)) gw_X11_leastHarm_X11_refuse
noncomputable def vsX12_leastHarm : List Cond := .code yX12_leastHarm cX12_leastHarm 5 (some .int) :: (([.fieldLink RX12 79 "EachOnHisCueModel" "lines" "I", .methodLink RX12 89 yX12_no, .instanceMethod yX12_no, .selects RX12 yX12_no yX12_no, .initialized RX12, .code yX12_no cX12_no 2 (some .int), .fieldLink RX12 7 "EachOnHisCueModel" "refused" "[I"] : List Cond) ++ wsX120)
theorem in_X12_leastHarm_X12 : ∀ w ∈ wsX120, w ∈ vsX12_leastHarm := fun _ h => List.mem_cons_of_mem _ (List.mem_append_right _ h)
set_option maxRecDepth 20000 in
theorem gw_X12_leastHarm_X12_no : GoodIn vsX12_leastHarm vsX12_no := goodIn_r _ [6, 7, 8, 9, 10, 11, 12, 13, 14, 15, 16, 17, 18, 19, 20, 21, 22, 23, 24, 25, 26, 27, 28, 29, 30, 31, 32, 33, 34, 35, 36, 37, 38, 39, 40, 41, 42, 43, 44, 45] (by decide +kernel) (by decide +kernel)
set_option maxRecDepth 20000 in
theorem gv_X12_leastHarm_X12_no_89 : GoodIn vsX12_leastHarm (wsV RX12 89 RX12 yX12_no vsX12_no) := goodIn_app (goodIn_of _ (by decide +kernel)) gw_X12_leastHarm_X12_no
noncomputable def vsX11_joke : List Cond := .code yX11_joke cX11_joke 3 (some .int) :: (([.fieldLink RX11 10 "EachOnHisCue" "play" "LEachOnHisCue$Play;", .methodLink RX11 103 yX7_hasLine, .instanceMethod yX7_hasLine, .selects RX7 yX7_hasLine yX7_hasLine, .initialized RX7, .code yX7_hasLine cX7_hasLine 2 (some .boolean), .fieldLink RX7 43 "EachOnHisCue$Play" "lines" "I", .methodLink RX11 53 yX11_refuse, .instanceMethod yX11_refuse, .selects RX11 yX11_refuse yX11_refuse, .initialized RX11, .code yX11_refuse cX11_refuse 3 (some .int), .fieldLink RX11 50 "EachOnHisCue" "refusals" "[I"] : List Cond) ++ wsX70 ++ wsX110)
theorem in_X11_joke_X11 : ∀ w ∈ wsX110, w ∈ vsX11_joke := fun _ h => List.mem_cons_of_mem _ (List.mem_append_right _ h)
set_option maxRecDepth 20000 in
theorem gw_X11_joke_X7_hasLine : GoodIn vsX11_joke vsX7_hasLine := goodIn_r _ [6, 7, 14, 15, 16, 17, 18, 19, 20, 21, 22, 23, 24, 25] (by decide +kernel) (by decide +kernel)
set_option maxRecDepth 20000 in
theorem gv_X11_joke_X7_hasLine_103 : GoodIn vsX11_joke (wsV RX11 103 RX7 yX7_hasLine vsX7_hasLine) := goodIn_app (goodIn_of _ (by decide +kernel)) gw_X11_joke_X7_hasLine
set_option maxRecDepth 20000 in
theorem gw_X11_joke_X11_refuse : GoodIn vsX11_joke vsX11_refuse := goodIn_r _ [12, 13, 26, 27, 28, 29, 30, 31, 32, 33, 34] (by decide +kernel) (by decide +kernel)
set_option maxRecDepth 20000 in
theorem gv_X11_joke_X11_refuse_53 : GoodIn vsX11_joke (wsV RX11 53 RX11 yX11_refuse vsX11_refuse) := goodIn_app (goodIn_of _ (by decide +kernel)) gw_X11_joke_X11_refuse
noncomputable def vsX12_joke : List Cond := .code yX12_joke cX12_joke 4 (some .int) :: (([.methodLink RX12 169 yX12_isLine, .instanceMethod yX12_isLine, .selects RX12 yX12_isLine yX12_isLine, .initialized RX12, .code yX12_isLine cX12_isLine 2 (some .boolean), .fieldLink RX12 79 "EachOnHisCueModel" "lines" "I", .methodLink RX12 89 yX12_no, .instanceMethod yX12_no, .selects RX12 yX12_no yX12_no, .code yX12_no cX12_no 2 (some .int), .fieldLink RX12 7 "EachOnHisCueModel" "refused" "[I"] : List Cond) ++ wsX120)
set_option maxRecDepth 20000 in
theorem gw_X12_joke_X12_isLine : GoodIn vsX12_joke vsX12_isLine := goodIn_r _ [5, 6, 12, 13, 14, 15, 16, 17, 18, 19, 20, 21, 22, 23, 24, 25, 26, 27, 28, 29, 30, 31, 32, 33, 34, 35, 36, 37, 38, 39, 40, 41, 42, 43, 44, 45, 46, 47, 48, 49] (by decide +kernel) (by decide +kernel)
set_option maxRecDepth 20000 in
theorem gv_X12_joke_X12_isLine_169 : GoodIn vsX12_joke (wsV RX12 169 RX12 yX12_isLine vsX12_isLine) := goodIn_app (goodIn_of _ (by decide +kernel)) gw_X12_joke_X12_isLine
set_option maxRecDepth 20000 in
theorem gw_X12_joke_X12_no : GoodIn vsX12_joke vsX12_no := goodIn_r _ [10, 11, 12, 13, 14, 15, 16, 17, 18, 19, 20, 21, 22, 23, 24, 25, 26, 27, 28, 29, 30, 31, 32, 33, 34, 35, 36, 37, 38, 39, 40, 41, 42, 43, 44, 45, 46, 47, 48, 49] (by decide +kernel) (by decide +kernel)
set_option maxRecDepth 20000 in
theorem gv_X12_joke_X12_no_89 : GoodIn vsX12_joke (wsV RX12 89 RX12 yX12_no vsX12_no) := goodIn_app (goodIn_of _ (by decide +kernel)) gw_X12_joke_X12_no
noncomputable def vsX11_stretched : List Cond := .code yX11_stretched cX11_stretched 2 (some .int) :: (([.fieldLink RX11 10 "EachOnHisCue" "play" "LEachOnHisCue$Play;", .fieldLink RX11 137 "EachOnHisCue$Play" "lines" "I", .methodLink RX11 53 yX11_refuse, .instanceMethod yX11_refuse, .selects RX11 yX11_refuse yX11_refuse, .initialized RX11, .code yX11_refuse cX11_refuse 3 (some .int), .fieldLink RX11 50 "EachOnHisCue" "refusals" "[I"] : List Cond) ++ wsX70 ++ wsX110)
theorem in_X11_stretched_X7 : ∀ w ∈ wsX70, w ∈ vsX11_stretched := fun _ h => List.mem_cons_of_mem _ (List.mem_append_left _ (List.mem_append_right _ h))
theorem in_X11_stretched_X11 : ∀ w ∈ wsX110, w ∈ vsX11_stretched := fun _ h => List.mem_cons_of_mem _ (List.mem_append_right _ h)
set_option maxRecDepth 20000 in
theorem gw_X11_stretched_X11_refuse : GoodIn vsX11_stretched vsX11_refuse := goodIn_r _ [7, 8, 21, 22, 23, 24, 25, 26, 27, 28, 29] (by decide +kernel) (by decide +kernel)
set_option maxRecDepth 20000 in
theorem gv_X11_stretched_X11_refuse_53 : GoodIn vsX11_stretched (wsV RX11 53 RX11 yX11_refuse vsX11_refuse) := goodIn_app (goodIn_of _ (by decide +kernel)) gw_X11_stretched_X11_refuse
noncomputable def vsX12_stretched : List Cond := .code yX12_stretched cX12_stretched 4 (some .int) :: (([.fieldLink RX12 79 "EachOnHisCueModel" "lines" "I", .methodLink RX12 82 yX12_bound, .static yX12_bound, .initialized RX12, .code yX12_bound cX12_bound 3 (some .int), .methodLink RX12 89 yX12_no, .instanceMethod yX12_no, .selects RX12 yX12_no yX12_no, .code yX12_no cX12_no 2 (some .int), .fieldLink RX12 7 "EachOnHisCueModel" "refused" "[I"] : List Cond) ++ wsX120)
theorem in_X12_stretched_X12 : ∀ w ∈ wsX120, w ∈ vsX12_stretched := fun _ h => List.mem_cons_of_mem _ (List.mem_append_right _ h)
set_option maxRecDepth 20000 in
theorem gw_X12_stretched_X12_bound : GoodIn vsX12_stretched vsX12_bound := goodIn_r _ [5] (by decide +kernel) (by decide +kernel)
set_option maxRecDepth 20000 in
theorem gv_X12_stretched_X12_bound_82 : GoodIn vsX12_stretched (va_wsS RX12 82 yX12_bound vsX12_bound) := goodIn_app (goodIn_of _ (by decide +kernel)) gw_X12_stretched_X12_bound
set_option maxRecDepth 20000 in
theorem gw_X12_stretched_X12_no : GoodIn vsX12_stretched vsX12_no := goodIn_r _ [9, 10, 11, 12, 13, 14, 15, 16, 17, 18, 19, 20, 21, 22, 23, 24, 25, 26, 27, 28, 29, 30, 31, 32, 33, 34, 35, 36, 37, 38, 39, 40, 41, 42, 43, 44, 45, 46, 47, 48] (by decide +kernel) (by decide +kernel)
set_option maxRecDepth 20000 in
theorem gv_X12_stretched_X12_no_89 : GoodIn vsX12_stretched (wsV RX12 89 RX12 yX12_no vsX12_no) := goodIn_app (goodIn_of _ (by decide +kernel)) gw_X12_stretched_X12_no
noncomputable def vsX11_parts : List Cond := .code yX11_parts cX11_parts 3 (some .int) :: (([.fieldLink RX11 10 "EachOnHisCue" "play" "LEachOnHisCue$Play;", .fieldLink RX11 137 "EachOnHisCue$Play" "lines" "I"] : List Cond) ++ wsX70 ++ wsX110)
theorem in_X11_parts_X7 : ∀ w ∈ wsX70, w ∈ vsX11_parts := fun _ h => List.mem_cons_of_mem _ (List.mem_append_left _ (List.mem_append_right _ h))
theorem in_X11_parts_X11 : ∀ w ∈ wsX110, w ∈ vsX11_parts := fun _ h => List.mem_cons_of_mem _ (List.mem_append_right _ h)
noncomputable def vsX12_parts : List Cond := .code yX12_parts cX12_parts 5 (some .int) :: (([.fieldLink RX12 79 "EachOnHisCueModel" "lines" "I"] : List Cond) ++ wsX120)
theorem in_X12_parts_X12 : ∀ w ∈ wsX120, w ∈ vsX12_parts := fun _ h => List.mem_cons_of_mem _ (List.mem_append_right _ h)
noncomputable def vsX12_notBooks : List Cond := .code yX12_notBooks cX12_notBooks 1 (some .int) :: (([.fieldLink RX12 79 "EachOnHisCueModel" "lines" "I"] : List Cond) ++ wsX120)
theorem in_X12_notBooks_X12 : ∀ w ∈ wsX120, w ∈ vsX12_notBooks := fun _ h => List.mem_cons_of_mem _ (List.mem_append_right _ h)
noncomputable def vsX11_books : List Cond := .code yX11_books cX11_books 1 (some .int) :: (([.fieldLink RX11 10 "EachOnHisCue" "play" "LEachOnHisCue$Play;", .fieldLink RX11 137 "EachOnHisCue$Play" "lines" "I", .methodLink RX11 53 yX11_refuse, .instanceMethod yX11_refuse, .selects RX11 yX11_refuse yX11_refuse, .initialized RX11, .code yX11_refuse cX11_refuse 3 (some .int), .fieldLink RX11 50 "EachOnHisCue" "refusals" "[I"] : List Cond) ++ wsX70 ++ wsX110)
theorem in_X11_books_X7 : ∀ w ∈ wsX70, w ∈ vsX11_books := fun _ h => List.mem_cons_of_mem _ (List.mem_append_left _ (List.mem_append_right _ h))
theorem in_X11_books_X11 : ∀ w ∈ wsX110, w ∈ vsX11_books := fun _ h => List.mem_cons_of_mem _ (List.mem_append_right _ h)
set_option maxRecDepth 20000 in
theorem gw_X11_books_X11_refuse : GoodIn vsX11_books vsX11_refuse := goodIn_r _ [7, 8, 21, 22, 23, 24, 25, 26, 27, 28, 29] (by decide +kernel) (by decide +kernel)
set_option maxRecDepth 20000 in
theorem gv_X11_books_X11_refuse_53 : GoodIn vsX11_books (wsV RX11 53 RX11 yX11_refuse vsX11_refuse) := goodIn_app (goodIn_of _ (by decide +kernel)) gw_X11_books_X11_refuse
noncomputable def vsX12_books : List Cond := .code yX12_books cX12_books 2 (some .int) :: (([.methodLink RX12 270 yX12_notBooks, .instanceMethod yX12_notBooks, .selects RX12 yX12_notBooks yX12_notBooks, .initialized RX12, .code yX12_notBooks cX12_notBooks 1 (some .int), .fieldLink RX12 79 "EachOnHisCueModel" "lines" "I", .methodLink RX12 89 yX12_no, .instanceMethod yX12_no, .selects RX12 yX12_no yX12_no, .code yX12_no cX12_no 2 (some .int), .fieldLink RX12 7 "EachOnHisCueModel" "refused" "[I"] : List Cond) ++ wsX120)
set_option maxRecDepth 20000 in
theorem gw_X12_books_X12_notBooks : GoodIn vsX12_books vsX12_notBooks := goodIn_r _ [5, 6, 12, 13, 14, 15, 16, 17, 18, 19, 20, 21, 22, 23, 24, 25, 26, 27, 28, 29, 30, 31, 32, 33, 34, 35, 36, 37, 38, 39, 40, 41, 42, 43, 44, 45, 46, 47, 48, 49] (by decide +kernel) (by decide +kernel)
set_option maxRecDepth 20000 in
theorem gv_X12_books_X12_notBooks_270 : GoodIn vsX12_books (wsV RX12 270 RX12 yX12_notBooks vsX12_notBooks) := goodIn_app (goodIn_of _ (by decide +kernel)) gw_X12_books_X12_notBooks
set_option maxRecDepth 20000 in
theorem gw_X12_books_X12_no : GoodIn vsX12_books vsX12_no := goodIn_r _ [10, 11, 12, 13, 14, 15, 16, 17, 18, 19, 20, 21, 22, 23, 24, 25, 26, 27, 28, 29, 30, 31, 32, 33, 34, 35, 36, 37, 38, 39, 40, 41, 42, 43, 44, 45, 46, 47, 48, 49] (by decide +kernel) (by decide +kernel)
set_option maxRecDepth 20000 in
theorem gv_X12_books_X12_no_89 : GoodIn vsX12_books (wsV RX12 89 RX12 yX12_no vsX12_no) := goodIn_app (goodIn_of _ (by decide +kernel)) gw_X12_books_X12_no
noncomputable def vsX11_book : List Cond := .code yX11_book cX11_book 3 (some .int) :: (([.fieldLink RX11 10 "EachOnHisCue" "play" "LEachOnHisCue$Play;", .fieldLink RX11 137 "EachOnHisCue$Play" "lines" "I", .methodLink RX11 53 yX11_refuse, .instanceMethod yX11_refuse, .selects RX11 yX11_refuse yX11_refuse, .initialized RX11, .code yX11_refuse cX11_refuse 3 (some .int), .fieldLink RX11 50 "EachOnHisCue" "refusals" "[I"] : List Cond) ++ wsX70 ++ wsX110)
theorem in_X11_book_X7 : ∀ w ∈ wsX70, w ∈ vsX11_book := fun _ h => List.mem_cons_of_mem _ (List.mem_append_left _ (List.mem_append_right _ h))
theorem in_X11_book_X11 : ∀ w ∈ wsX110, w ∈ vsX11_book := fun _ h => List.mem_cons_of_mem _ (List.mem_append_right _ h)
set_option maxRecDepth 20000 in
theorem gw_X11_book_X11_refuse : GoodIn vsX11_book vsX11_refuse := goodIn_r _ [7, 8, 21, 22, 23, 24, 25, 26, 27, 28, 29] (by decide +kernel) (by decide +kernel)
set_option maxRecDepth 20000 in
theorem gv_X11_book_X11_refuse_53 : GoodIn vsX11_book (wsV RX11 53 RX11 yX11_refuse vsX11_refuse) := goodIn_app (goodIn_of _ (by decide +kernel)) gw_X11_book_X11_refuse
noncomputable def vsX12_book : List Cond := .code yX12_book cX12_book 4 (some .int) :: (([.methodLink RX12 89 yX12_no, .instanceMethod yX12_no, .selects RX12 yX12_no yX12_no, .initialized RX12, .code yX12_no cX12_no 2 (some .int), .fieldLink RX12 7 "EachOnHisCueModel" "refused" "[I", .methodLink RX12 270 yX12_notBooks, .instanceMethod yX12_notBooks, .selects RX12 yX12_notBooks yX12_notBooks, .code yX12_notBooks cX12_notBooks 1 (some .int), .fieldLink RX12 79 "EachOnHisCueModel" "lines" "I"] : List Cond) ++ wsX120)
set_option maxRecDepth 20000 in
theorem gw_X12_book_X12_no : GoodIn vsX12_book vsX12_no := goodIn_r _ [5, 6, 12, 13, 14, 15, 16, 17, 18, 19, 20, 21, 22, 23, 24, 25, 26, 27, 28, 29, 30, 31, 32, 33, 34, 35, 36, 37, 38, 39, 40, 41, 42, 43, 44, 45, 46, 47, 48, 49] (by decide +kernel) (by decide +kernel)
set_option maxRecDepth 20000 in
theorem gv_X12_book_X12_no_89 : GoodIn vsX12_book (wsV RX12 89 RX12 yX12_no vsX12_no) := goodIn_app (goodIn_of _ (by decide +kernel)) gw_X12_book_X12_no
set_option maxRecDepth 20000 in
theorem gw_X12_book_X12_notBooks : GoodIn vsX12_book vsX12_notBooks := goodIn_r _ [10, 11, 12, 13, 14, 15, 16, 17, 18, 19, 20, 21, 22, 23, 24, 25, 26, 27, 28, 29, 30, 31, 32, 33, 34, 35, 36, 37, 38, 39, 40, 41, 42, 43, 44, 45, 46, 47, 48, 49] (by decide +kernel) (by decide +kernel)
set_option maxRecDepth 20000 in
theorem gv_X12_book_X12_notBooks_270 : GoodIn vsX12_book (wsV RX12 270 RX12 yX12_notBooks vsX12_notBooks) := goodIn_app (goodIn_of _ (by decide +kernel)) gw_X12_book_X12_notBooks
noncomputable def vsX11_row : List Cond := .code yX11_row cX11_row 2 (some .int) :: (([.fieldLink RX11 46 "EachOnHisCue" "toldSize" "I", .fieldLink RX11 42 "EachOnHisCue" "told" "[I", .methodLink RX11 53 yX11_refuse, .instanceMethod yX11_refuse, .selects RX11 yX11_refuse yX11_refuse, .initialized RX11, .code yX11_refuse cX11_refuse 3 (some .int), .fieldLink RX11 50 "EachOnHisCue" "refusals" "[I"] : List Cond) ++ wsX110)
theorem in_X11_row_X11 : ∀ w ∈ wsX110, w ∈ vsX11_row := fun _ h => List.mem_cons_of_mem _ (List.mem_append_right _ h)
set_option maxRecDepth 20000 in
theorem gw_X11_row_X11_refuse : GoodIn vsX11_row vsX11_refuse := goodIn_r _ [7, 8, 9, 10, 11, 12, 13, 14, 15, 16, 17] (by decide +kernel) (by decide +kernel)
set_option maxRecDepth 20000 in
theorem gv_X11_row_X11_refuse_53 : GoodIn vsX11_row (wsV RX11 53 RX11 yX11_refuse vsX11_refuse) := goodIn_app (goodIn_of _ (by decide +kernel)) gw_X11_row_X11_refuse
noncomputable def vsX12_row : List Cond := .code yX12_row cX12_row 3 (some .int) :: (([.fieldLink RX12 276 "EachOnHisCueModel" "rowMany" "I", .fieldLink RX12 71 "EachOnHisCueModel" "row" "[I", .methodLink RX12 82 yX12_bound, .static yX12_bound, .initialized RX12, .code yX12_bound cX12_bound 3 (some .int), .methodLink RX12 89 yX12_no, .instanceMethod yX12_no, .selects RX12 yX12_no yX12_no, .code yX12_no cX12_no 2 (some .int), .fieldLink RX12 7 "EachOnHisCueModel" "refused" "[I"] : List Cond) ++ wsX120)
theorem in_X12_row_X12 : ∀ w ∈ wsX120, w ∈ vsX12_row := fun _ h => List.mem_cons_of_mem _ (List.mem_append_right _ h)
set_option maxRecDepth 20000 in
theorem gw_X12_row_X12_bound : GoodIn vsX12_row vsX12_bound := goodIn_r _ [6] (by decide +kernel) (by decide +kernel)
set_option maxRecDepth 20000 in
theorem gv_X12_row_X12_bound_82 : GoodIn vsX12_row (va_wsS RX12 82 yX12_bound vsX12_bound) := goodIn_app (goodIn_of _ (by decide +kernel)) gw_X12_row_X12_bound
set_option maxRecDepth 20000 in
theorem gw_X12_row_X12_no : GoodIn vsX12_row vsX12_no := goodIn_r _ [10, 11, 12, 13, 14, 15, 16, 17, 18, 19, 20, 21, 22, 23, 24, 25, 26, 27, 28, 29, 30, 31, 32, 33, 34, 35, 36, 37, 38, 39, 40, 41, 42, 43, 44, 45, 46, 47, 48, 49] (by decide +kernel) (by decide +kernel)
set_option maxRecDepth 20000 in
theorem gv_X12_row_X12_no_89 : GoodIn vsX12_row (wsV RX12 89 RX12 yX12_no vsX12_no) := goodIn_app (goodIn_of _ (by decide +kernel)) gw_X12_row_X12_no
noncomputable def vsX11_judge : List Cond := .code yX11_judge cX11_judge 1 (some .int) :: (([.fieldLink RX11 10 "EachOnHisCue" "play" "LEachOnHisCue$Play;", .fieldLink RX11 137 "EachOnHisCue$Play" "lines" "I", .methodLink RX11 53 yX11_refuse, .instanceMethod yX11_refuse, .selects RX11 yX11_refuse yX11_refuse, .initialized RX11, .code yX11_refuse cX11_refuse 3 (some .int), .fieldLink RX11 50 "EachOnHisCue" "refusals" "[I"] : List Cond) ++ wsX70 ++ wsX110)
theorem in_X11_judge_X7 : ∀ w ∈ wsX70, w ∈ vsX11_judge := fun _ h => List.mem_cons_of_mem _ (List.mem_append_left _ (List.mem_append_right _ h))
theorem in_X11_judge_X11 : ∀ w ∈ wsX110, w ∈ vsX11_judge := fun _ h => List.mem_cons_of_mem _ (List.mem_append_right _ h)
set_option maxRecDepth 20000 in
theorem gw_X11_judge_X11_refuse : GoodIn vsX11_judge vsX11_refuse := goodIn_r _ [7, 8, 21, 22, 23, 24, 25, 26, 27, 28, 29] (by decide +kernel) (by decide +kernel)
set_option maxRecDepth 20000 in
theorem gv_X11_judge_X11_refuse_53 : GoodIn vsX11_judge (wsV RX11 53 RX11 yX11_refuse vsX11_refuse) := goodIn_app (goodIn_of _ (by decide +kernel)) gw_X11_judge_X11_refuse
noncomputable def vsX12_judge : List Cond := .code yX12_judge cX12_judge 2 (some .int) :: (([.fieldLink RX12 79 "EachOnHisCueModel" "lines" "I", .methodLink RX12 89 yX12_no, .instanceMethod yX12_no, .selects RX12 yX12_no yX12_no, .initialized RX12, .code yX12_no cX12_no 2 (some .int), .fieldLink RX12 7 "EachOnHisCueModel" "refused" "[I"] : List Cond) ++ wsX120)
theorem in_X12_judge_X12 : ∀ w ∈ wsX120, w ∈ vsX12_judge := fun _ h => List.mem_cons_of_mem _ (List.mem_append_right _ h)
set_option maxRecDepth 20000 in
theorem gw_X12_judge_X12_no : GoodIn vsX12_judge vsX12_no := goodIn_r _ [6, 7, 8, 9, 10, 11, 12, 13, 14, 15, 16, 17, 18, 19, 20, 21, 22, 23, 24, 25, 26, 27, 28, 29, 30, 31, 32, 33, 34, 35, 36, 37, 38, 39, 40, 41, 42, 43, 44, 45] (by decide +kernel) (by decide +kernel)
set_option maxRecDepth 20000 in
theorem gv_X12_judge_X12_no_89 : GoodIn vsX12_judge (wsV RX12 89 RX12 yX12_no vsX12_no) := goodIn_app (goodIn_of _ (by decide +kernel)) gw_X12_judge_X12_no
noncomputable def vsX5_weave : List Cond := .code yX5_weave cX5_weave 4 none :: (([.fieldLink RX5 19 "EachOnHisCue$Play" "lines" "I", .fieldLink RX5 15 "EachOnHisCue$Net" "lines" "I"] : List Cond) ++ wsX50 ++ wsX70)
theorem in_X5_weave_X5 : ∀ w ∈ wsX50, w ∈ vsX5_weave := fun _ h => List.mem_cons_of_mem _ (List.mem_append_left _ (List.mem_append_right _ h))
theorem in_X5_weave_X7 : ∀ w ∈ wsX70, w ∈ vsX5_weave := fun _ h => List.mem_cons_of_mem _ (List.mem_append_right _ h)
noncomputable def vsX7_linesOfSick : List Cond := .code yX7_linesOfSick cX7_linesOfSick 3 (some .int) :: (([.fieldLink RX7 24 "EachOnHisCue$Play" "players" "I"] : List Cond) ++ wsX70)
theorem in_X7_linesOfSick_X7 : ∀ w ∈ wsX70, w ∈ vsX7_linesOfSick := fun _ h => List.mem_cons_of_mem _ (List.mem_append_right _ h)
noncomputable def vsX5_weaveWithoutSick : List Cond := .code yX5_weaveWithoutSick cX5_weaveWithoutSick 4 none :: (([.fieldLink RX5 15 "EachOnHisCue$Net" "lines" "I", .methodLink RX5 32 yX5_weave, .instanceMethod yX5_weave, .selects RX5 yX5_weave yX5_weave, .initialized RX5, .code yX5_weave cX5_weave 4 none, .fieldLink RX5 19 "EachOnHisCue$Play" "lines" "I", .methodLink RX5 36 yX7_linesOfSick, .instanceMethod yX7_linesOfSick, .selects RX7 yX7_linesOfSick yX7_linesOfSick, .initialized RX7, .code yX7_linesOfSick cX7_linesOfSick 3 (some .int), .fieldLink RX7 24 "EachOnHisCue$Play" "players" "I"] : List Cond) ++ wsX50 ++ wsX70)
theorem in_X5_weaveWithoutSick_X5 : ∀ w ∈ wsX50, w ∈ vsX5_weaveWithoutSick := fun _ h => List.mem_cons_of_mem _ (List.mem_append_left _ (List.mem_append_right _ h))
set_option maxRecDepth 20000 in
theorem gw_X5_weaveWithoutSick_X5_weave : GoodIn vsX5_weaveWithoutSick vsX5_weave := goodIn_r _ [6, 7, 1, 14, 15, 16, 17, 18, 19, 20, 21, 22, 23, 24, 25, 26, 27] (by decide +kernel) (by decide +kernel)
set_option maxRecDepth 20000 in
theorem gv_X5_weaveWithoutSick_X5_weave_32 : GoodIn vsX5_weaveWithoutSick (wsV RX5 32 RX5 yX5_weave vsX5_weave) := goodIn_app (goodIn_of _ (by decide +kernel)) gw_X5_weaveWithoutSick_X5_weave
set_option maxRecDepth 20000 in
theorem gw_X5_weaveWithoutSick_X7_linesOfSick : GoodIn vsX5_weaveWithoutSick vsX7_linesOfSick := goodIn_r _ [12, 13, 16, 17, 18, 19, 20, 21, 22, 23, 24, 25, 26, 27] (by decide +kernel) (by decide +kernel)
set_option maxRecDepth 20000 in
theorem gv_X5_weaveWithoutSick_X7_linesOfSick_36 : GoodIn vsX5_weaveWithoutSick (wsV RX5 36 RX7 yX7_linesOfSick vsX7_linesOfSick) := goodIn_app (goodIn_of _ (by decide +kernel)) gw_X5_weaveWithoutSick_X7_linesOfSick
noncomputable def vsX5_firstThatCannotFollow : List Cond := .code yX5_firstThatCannotFollow cX5_firstThatCannotFollow 5 (some .int) :: (([] : List Cond))
noncomputable def vsX11_possible : List Cond := .code yX11_possible cX11_possible 2 (some .int) :: (([.fieldLink RX11 34 "EachOnHisCue" "web" "LEachOnHisCue$Net;", .fieldLink RX11 10 "EachOnHisCue" "play" "LEachOnHisCue$Play;", .fieldLink RX11 42 "EachOnHisCue" "told" "[I", .fieldLink RX11 46 "EachOnHisCue" "toldSize" "I", .methodLink RX11 167 yX5_weaveWithoutSick, .instanceMethod yX5_weaveWithoutSick, .selects RX5 yX5_weaveWithoutSick yX5_weaveWithoutSick, .initialized RX5, .code yX5_weaveWithoutSick cX5_weaveWithoutSick 4 none, .fieldLink RX5 15 "EachOnHisCue$Net" "lines" "I", .methodLink RX5 32 yX5_weave, .instanceMethod yX5_weave, .selects RX5 yX5_weave yX5_weave, .code yX5_weave cX5_weave 4 none, .fieldLink RX5 19 "EachOnHisCue$Play" "lines" "I", .methodLink RX5 36 yX7_linesOfSick, .instanceMethod yX7_linesOfSick, .selects RX7 yX7_linesOfSick yX7_linesOfSick, .initialized RX7, .code yX7_linesOfSick cX7_linesOfSick 3 (some .int), .fieldLink RX7 24 "EachOnHisCue$Play" "players" "I", .methodLink RX11 228 yX5_firstThatCannotFollow, .instanceMethod yX5_firstThatCannotFollow, .selects RX5 yX5_firstThatCannotFollow yX5_firstThatCannotFollow, .code yX5_firstThatCannotFollow cX5_firstThatCannotFollow 5 (some .int)] : List Cond) ++ wsX50 ++ wsX70 ++ wsX110)
theorem in_X11_possible_X11 : ∀ w ∈ wsX110, w ∈ vsX11_possible := fun _ h => List.mem_cons_of_mem _ (List.mem_append_right _ h)
set_option maxRecDepth 20000 in
theorem gw_X11_possible_X5_weaveWithoutSick : GoodIn vsX11_possible vsX5_weaveWithoutSick := goodIn_r _ [9, 10, 11, 12, 13, 8, 14, 15, 16, 17, 18, 19, 20, 21, 26, 27, 28, 29, 30, 31, 32, 33, 34, 35, 36, 37, 38, 39] (by decide +kernel) (by decide +kernel)
set_option maxRecDepth 20000 in
theorem gv_X11_possible_X5_weaveWithoutSick_167 : GoodIn vsX11_possible (wsV RX11 167 RX5 yX5_weaveWithoutSick vsX5_weaveWithoutSick) := goodIn_app (goodIn_of _ (by decide +kernel)) gw_X11_possible_X5_weaveWithoutSick
set_option maxRecDepth 20000 in
theorem gw_X11_possible_X5_firstThatCannotFollow : GoodIn vsX11_possible vsX5_firstThatCannotFollow := goodIn_r _ [25] (by decide +kernel) (by decide +kernel)
set_option maxRecDepth 20000 in
theorem gv_X11_possible_X5_firstThatCannotFollow_228 : GoodIn vsX11_possible (wsV RX11 228 RX5 yX5_firstThatCannotFollow vsX5_firstThatCannotFollow) := goodIn_app (goodIn_of _ (by decide +kernel)) gw_X11_possible_X5_firstThatCannotFollow
noncomputable def vsX12_possible : List Cond := .code yX12_possible cX12_possible 4 (some .int) :: (([.fieldLink RX12 276 "EachOnHisCueModel" "rowMany" "I"] : List Cond) ++ wsX120)
theorem in_X12_possible_X12 : ∀ w ∈ wsX120, w ∈ vsX12_possible := fun _ h => List.mem_cons_of_mem _ (List.mem_append_right _ h)
noncomputable def vsX11_lot : List Cond := .code yX11_lot cX11_lot 5 (some .int) :: (([.fieldLink RX11 10 "EachOnHisCue" "play" "LEachOnHisCue$Play;", .fieldLink RX11 137 "EachOnHisCue$Play" "lines" "I", .methodLink RX11 53 yX11_refuse, .instanceMethod yX11_refuse, .selects RX11 yX11_refuse yX11_refuse, .initialized RX11, .code yX11_refuse cX11_refuse 3 (some .int), .fieldLink RX11 50 "EachOnHisCue" "refusals" "[I"] : List Cond) ++ wsX70 ++ wsX110)
theorem in_X11_lot_X7 : ∀ w ∈ wsX70, w ∈ vsX11_lot := fun _ h => List.mem_cons_of_mem _ (List.mem_append_left _ (List.mem_append_right _ h))
theorem in_X11_lot_X11 : ∀ w ∈ wsX110, w ∈ vsX11_lot := fun _ h => List.mem_cons_of_mem _ (List.mem_append_right _ h)
set_option maxRecDepth 20000 in
theorem gw_X11_lot_X11_refuse : GoodIn vsX11_lot vsX11_refuse := goodIn_r _ [7, 8, 21, 22, 23, 24, 25, 26, 27, 28, 29] (by decide +kernel) (by decide +kernel)
set_option maxRecDepth 20000 in
theorem gv_X11_lot_X11_refuse_53 : GoodIn vsX11_lot (wsV RX11 53 RX11 yX11_refuse vsX11_refuse) := goodIn_app (goodIn_of _ (by decide +kernel)) gw_X11_lot_X11_refuse
noncomputable def vsX12_lot : List Cond := .code yX12_lot cX12_lot 7 (some .int) :: (([.fieldLink RX12 79 "EachOnHisCueModel" "lines" "I", .methodLink RX12 82 yX12_bound, .static yX12_bound, .initialized RX12, .code yX12_bound cX12_bound 3 (some .int), .methodLink RX12 89 yX12_no, .instanceMethod yX12_no, .selects RX12 yX12_no yX12_no, .code yX12_no cX12_no 2 (some .int), .fieldLink RX12 7 "EachOnHisCueModel" "refused" "[I"] : List Cond) ++ wsX120)
theorem in_X12_lot_X12 : ∀ w ∈ wsX120, w ∈ vsX12_lot := fun _ h => List.mem_cons_of_mem _ (List.mem_append_right _ h)
set_option maxRecDepth 20000 in
theorem gw_X12_lot_X12_bound : GoodIn vsX12_lot vsX12_bound := goodIn_r _ [5] (by decide +kernel) (by decide +kernel)
set_option maxRecDepth 20000 in
theorem gv_X12_lot_X12_bound_82 : GoodIn vsX12_lot (va_wsS RX12 82 yX12_bound vsX12_bound) := goodIn_app (goodIn_of _ (by decide +kernel)) gw_X12_lot_X12_bound
set_option maxRecDepth 20000 in
theorem gw_X12_lot_X12_no : GoodIn vsX12_lot vsX12_no := goodIn_r _ [9, 10, 11, 12, 13, 14, 15, 16, 17, 18, 19, 20, 21, 22, 23, 24, 25, 26, 27, 28, 29, 30, 31, 32, 33, 34, 35, 36, 37, 38, 39, 40, 41, 42, 43, 44, 45, 46, 47, 48] (by decide +kernel) (by decide +kernel)
set_option maxRecDepth 20000 in
theorem gv_X12_lot_X12_no_89 : GoodIn vsX12_lot (wsV RX12 89 RX12 yX12_no vsX12_no) := goodIn_app (goodIn_of _ (by decide +kernel)) gw_X12_lot_X12_no
noncomputable def vsX9_take : List Cond := .code yX9_take cX9_take 2 none :: (([.fieldLink RX9 9 "EachOnHisCue$Saying" "said" "I", .fieldLink RX9 15 "EachOnHisCue$Saying" "dead" "I", .fieldLink RX9 18 "EachOnHisCue$Saying" "latest" "I", .fieldLink RX9 21 "EachOnHisCue$Saying" "times" "I", .fieldLink RX9 24 "EachOnHisCue$Saying" "leaps" "I"] : List Cond) ++ wsX90)
theorem in_X9_take_X9 : ∀ w ∈ wsX90, w ∈ vsX9_take := fun _ h => List.mem_cons_of_mem _ (List.mem_append_right _ h)
noncomputable def vsX7_take : List Cond := .code yX7_take cX7_take 3 none :: (([.fieldLink RX7 11 "EachOnHisCue$Play" "cast" "[LEachOnHisCue$Next;", .fieldLink RX7 17 "EachOnHisCue$Play" "speeds" "[I", .fieldLink RX7 21 "EachOnHisCue$Play" "own" "[I", .fieldLink RX7 24 "EachOnHisCue$Play" "players" "I", .fieldLink RX7 28 "EachOnHisCue$Play" "owners" "[I", .fieldLink RX7 31 "EachOnHisCue$Play" "texts" "[I", .fieldLink RX7 34 "EachOnHisCue$Play" "sizes" "[I", .fieldLink RX7 37 "EachOnHisCue$Play" "cues" "[I", .fieldLink RX7 40 "EachOnHisCue$Play" "killing" "I", .fieldLink RX7 43 "EachOnHisCue$Play" "lines" "I", .fieldLink RX7 46 "EachOnHisCue$Play" "lost" "I", .fieldLink RX7 52 "EachOnHisCue$Play" "now" "LEachOnHisCue$Saying;", .methodLink RX7 116 yX9_take, .instanceMethod yX9_take, .selects RX9 yX9_take yX9_take, .initialized RX9, .code yX9_take cX9_take 2 none, .fieldLink RX9 9 "EachOnHisCue$Saying" "said" "I", .fieldLink RX9 15 "EachOnHisCue$Saying" "dead" "I", .fieldLink RX9 18 "EachOnHisCue$Saying" "latest" "I", .fieldLink RX9 21 "EachOnHisCue$Saying" "times" "I", .fieldLink RX9 24 "EachOnHisCue$Saying" "leaps" "I"] : List Cond) ++ wsX70 ++ wsX90)
theorem in_X7_take_X7 : ∀ w ∈ wsX70, w ∈ vsX7_take := fun _ h => List.mem_cons_of_mem _ (List.mem_append_left _ (List.mem_append_right _ h))
set_option maxRecDepth 20000 in
theorem gw_X7_take_X9_take : GoodIn vsX7_take vsX9_take := goodIn_r _ [17, 18, 19, 20, 21, 22, 35, 36, 37, 38, 39] (by decide +kernel) (by decide +kernel)
set_option maxRecDepth 20000 in
theorem gv_X7_take_X9_take_116 : GoodIn vsX7_take (wsV RX7 116 RX9 yX9_take vsX9_take) := goodIn_app (goodIn_of _ (by decide +kernel)) gw_X7_take_X9_take
noncomputable def vsX12_passes : List Cond := .code yX12_passes cX12_passes 3 none :: (([.fieldLink RX12 137 "EachOnHisCueModel" "isKeeping" "Z", .fieldLink RX12 56 "EachOnHisCueModel" "kept" "[I", .fieldLink RX12 141 "EachOnHisCueModel" "cursor" "I"] : List Cond) ++ wsX120)
theorem in_X12_passes_X12 : ∀ w ∈ wsX120, w ∈ vsX12_passes := fun _ h => List.mem_cons_of_mem _ (List.mem_append_right _ h)
noncomputable def vsX12_passOne : List Cond := .code yX12_passOne cX12_passOne 3 (some .int) :: (([.fieldLink RX12 137 "EachOnHisCueModel" "isKeeping" "Z", .fieldLink RX12 56 "EachOnHisCueModel" "kept" "[I", .fieldLink RX12 141 "EachOnHisCueModel" "cursor" "I"] : List Cond) ++ wsX120)
theorem in_X12_passOne_X12 : ∀ w ∈ wsX120, w ∈ vsX12_passOne := fun _ h => List.mem_cons_of_mem _ (List.mem_append_right _ h)
noncomputable def vsX12_passesAll : List Cond := .code yX12_passesAll cX12_passesAll 3 none :: (([.fieldLink RX12 141 "EachOnHisCueModel" "cursor" "I", .fieldLink RX12 137 "EachOnHisCueModel" "isKeeping" "Z", .fieldLink RX12 13 "EachOnHisCueModel" "kind" "[I", .fieldLink RX12 16 "EachOnHisCueModel" "figure" "[I", .fieldLink RX12 19 "EachOnHisCueModel" "speed" "[I", .fieldLink RX12 22 "EachOnHisCueModel" "whose" "[I", .fieldLink RX12 25 "EachOnHisCueModel" "many" "[I", .fieldLink RX12 28 "EachOnHisCueModel" "cue" "[I", .fieldLink RX12 31 "EachOnHisCueModel" "kills" "[I", .fieldLink RX12 34 "EachOnHisCueModel" "word" "[I", .fieldLink RX12 76 "EachOnHisCueModel" "players" "I", .fieldLink RX12 79 "EachOnHisCueModel" "lines" "I", .fieldLink RX12 37 "EachOnHisCueModel" "lose" "I", .fieldLink RX12 151 "EachOnHisCueModel" "said" "I", .fieldLink RX12 154 "EachOnHisCueModel" "dead" "I", .fieldLink RX12 41 "EachOnHisCueModel" "latest" "I", .fieldLink RX12 157 "EachOnHisCueModel" "saidMany" "I", .methodLink RX12 144 yX12_passes, .instanceMethod yX12_passes, .selects RX12 yX12_passes yX12_passes, .initialized RX12, .code yX12_passes cX12_passes 3 none, .fieldLink RX12 56 "EachOnHisCueModel" "kept" "[I", .methodLink RX12 148 yX12_passOne, .instanceMethod yX12_passOne, .selects RX12 yX12_passOne yX12_passOne, .code yX12_passOne cX12_passOne 3 (some .int)] : List Cond) ++ wsX120)
theorem in_X12_passesAll_X12 : ∀ w ∈ wsX120, w ∈ vsX12_passesAll := fun _ h => List.mem_cons_of_mem _ (List.mem_append_right _ h)
set_option maxRecDepth 20000 in
theorem gw_X12_passesAll_X12_passes : GoodIn vsX12_passesAll vsX12_passes := goodIn_r _ [22, 2, 23, 1, 28, 29, 30, 31, 32, 33, 34, 35, 36, 37, 38, 39, 40, 41, 42, 43, 44, 45, 46, 47, 48, 49, 50, 51, 52, 53, 54, 55, 56, 57, 58, 59, 60, 61, 62, 63, 64, 65] (by decide +kernel) (by decide +kernel)
set_option maxRecDepth 20000 in
theorem gv_X12_passesAll_X12_passes_144 : GoodIn vsX12_passesAll (wsV RX12 144 RX12 yX12_passes vsX12_passes) := goodIn_app (goodIn_of _ (by decide +kernel)) gw_X12_passesAll_X12_passes
set_option maxRecDepth 20000 in
theorem gw_X12_passesAll_X12_passOne : GoodIn vsX12_passesAll vsX12_passOne := goodIn_r _ [27, 2, 23, 1, 28, 29, 30, 31, 32, 33, 34, 35, 36, 37, 38, 39, 40, 41, 42, 43, 44, 45, 46, 47, 48, 49, 50, 51, 52, 53, 54, 55, 56, 57, 58, 59, 60, 61, 62, 63, 64, 65] (by decide +kernel) (by decide +kernel)
set_option maxRecDepth 20000 in
theorem gv_X12_passesAll_X12_passOne_148 : GoodIn vsX12_passesAll (wsV RX12 148 RX12 yX12_passOne vsX12_passOne) := goodIn_app (goodIn_of _ (by decide +kernel)) gw_X12_passesAll_X12_passOne
noncomputable def vsX11_image : List Cond := .code yX11_image cX11_image 1 (some .int) :: (([.fieldLink RX11 16 "EachOnHisCue" "imaged" "LEachOnHisCue$Play;", .fieldLink RX11 10 "EachOnHisCue" "play" "LEachOnHisCue$Play;", .fieldLink RX11 19 "EachOnHisCue" "hasImage" "Z", .fieldLink RX11 137 "EachOnHisCue$Play" "lines" "I", .methodLink RX11 238 yX7_take, .instanceMethod yX7_take, .selects RX7 yX7_take yX7_take, .initialized RX7, .code yX7_take cX7_take 3 none, .fieldLink RX7 11 "EachOnHisCue$Play" "cast" "[LEachOnHisCue$Next;", .fieldLink RX7 17 "EachOnHisCue$Play" "speeds" "[I", .fieldLink RX7 21 "EachOnHisCue$Play" "own" "[I", .fieldLink RX7 24 "EachOnHisCue$Play" "players" "I", .fieldLink RX7 28 "EachOnHisCue$Play" "owners" "[I", .fieldLink RX7 31 "EachOnHisCue$Play" "texts" "[I", .fieldLink RX7 34 "EachOnHisCue$Play" "sizes" "[I", .fieldLink RX7 37 "EachOnHisCue$Play" "cues" "[I", .fieldLink RX7 40 "EachOnHisCue$Play" "killing" "I", .fieldLink RX7 43 "EachOnHisCue$Play" "lines" "I", .fieldLink RX7 46 "EachOnHisCue$Play" "lost" "I", .fieldLink RX7 52 "EachOnHisCue$Play" "now" "LEachOnHisCue$Saying;", .methodLink RX7 116 yX9_take, .instanceMethod yX9_take, .selects RX9 yX9_take yX9_take, .initialized RX9, .code yX9_take cX9_take 2 none, .fieldLink RX9 9 "EachOnHisCue$Saying" "said" "I", .fieldLink RX9 15 "EachOnHisCue$Saying" "dead" "I", .fieldLink RX9 18 "EachOnHisCue$Saying" "latest" "I", .fieldLink RX9 21 "EachOnHisCue$Saying" "times" "I", .fieldLink RX9 24 "EachOnHisCue$Saying" "leaps" "I"] : List Cond) ++ wsX70 ++ wsX90 ++ wsX110)
theorem in_X11_image_X7 : ∀ w ∈ wsX70, w ∈ vsX11_image := fun _ h => List.mem_cons_of_mem _ (List.mem_append_left _ (List.mem_append_left _ (List.mem_append_right _ h)))
theorem in_X11_image_X11 : ∀ w ∈ wsX110, w ∈ vsX11_image := fun _ h => List.mem_cons_of_mem _ (List.mem_append_right _ h)
set_option maxRecDepth 20000 in
theorem gw_X11_image_X7_take : GoodIn vsX11_image vsX7_take := goodIn_r _ [9, 10, 11, 12, 13, 14, 15, 16, 17, 18, 19, 20, 21, 22, 23, 24, 25, 26, 27, 28, 29, 30, 31, 32, 33, 34, 35, 36, 37, 38, 39, 40, 41, 42, 43, 44, 45, 46, 47, 48] (by decide +kernel) (by decide +kernel)
set_option maxRecDepth 20000 in
theorem gv_X11_image_X7_take_238 : GoodIn vsX11_image (wsV RX11 238 RX7 yX7_take vsX7_take) := goodIn_app (goodIn_of _ (by decide +kernel)) gw_X11_image_X7_take
noncomputable def vsX12_image : List Cond := .code yX12_image cX12_image 1 (some .int) :: (([.fieldLink RX12 160 "EachOnHisCueModel" "hasImage" "Z", .fieldLink RX12 79 "EachOnHisCueModel" "lines" "I", .methodLink RX12 124 yX12_passesAll, .instanceMethod yX12_passesAll, .selects RX12 yX12_passesAll yX12_passesAll, .initialized RX12, .code yX12_passesAll cX12_passesAll 3 none, .fieldLink RX12 141 "EachOnHisCueModel" "cursor" "I", .fieldLink RX12 137 "EachOnHisCueModel" "isKeeping" "Z", .fieldLink RX12 13 "EachOnHisCueModel" "kind" "[I", .fieldLink RX12 16 "EachOnHisCueModel" "figure" "[I", .fieldLink RX12 19 "EachOnHisCueModel" "speed" "[I", .fieldLink RX12 22 "EachOnHisCueModel" "whose" "[I", .fieldLink RX12 25 "EachOnHisCueModel" "many" "[I", .fieldLink RX12 28 "EachOnHisCueModel" "cue" "[I", .fieldLink RX12 31 "EachOnHisCueModel" "kills" "[I", .fieldLink RX12 34 "EachOnHisCueModel" "word" "[I", .fieldLink RX12 76 "EachOnHisCueModel" "players" "I", .fieldLink RX12 37 "EachOnHisCueModel" "lose" "I", .fieldLink RX12 151 "EachOnHisCueModel" "said" "I", .fieldLink RX12 154 "EachOnHisCueModel" "dead" "I", .fieldLink RX12 41 "EachOnHisCueModel" "latest" "I", .fieldLink RX12 157 "EachOnHisCueModel" "saidMany" "I", .methodLink RX12 144 yX12_passes, .instanceMethod yX12_passes, .selects RX12 yX12_passes yX12_passes, .code yX12_passes cX12_passes 3 none, .fieldLink RX12 56 "EachOnHisCueModel" "kept" "[I", .methodLink RX12 148 yX12_passOne, .instanceMethod yX12_passOne, .selects RX12 yX12_passOne yX12_passOne, .code yX12_passOne cX12_passOne 3 (some .int)] : List Cond) ++ wsX120)
theorem in_X12_image_X12 : ∀ w ∈ wsX120, w ∈ vsX12_image := fun _ h => List.mem_cons_of_mem _ (List.mem_append_right _ h)
set_option maxRecDepth 20000 in
theorem gw_X12_image_X12_passesAll : GoodIn vsX12_image vsX12_passesAll := goodIn_r _ [7, 8, 9, 10, 11, 12, 13, 14, 15, 16, 17, 18, 2, 19, 20, 21, 22, 23, 24, 25, 26, 6, 27, 28, 29, 30, 31, 32, 33, 34, 35, 36, 37, 38, 39, 40, 41, 42, 43, 44, 45, 46, 47, 48, 49, 50, 51, 52, 53, 54, 55, 56, 57, 58, 59, 60, 61, 62, 63, 64, 65, 66, 67, 68, 69, 70] (by decide +kernel) (by decide +kernel)
set_option maxRecDepth 20000 in
theorem gv_X12_image_X12_passesAll_124 : GoodIn vsX12_image (wsV RX12 124 RX12 yX12_passesAll vsX12_passesAll) := goodIn_app (goodIn_of _ (by decide +kernel)) gw_X12_image_X12_passesAll
noncomputable def vsX11_restore : List Cond := .code yX11_restore cX11_restore 1 (some .int) :: (([.fieldLink RX11 19 "EachOnHisCue" "hasImage" "Z", .methodLink RX11 53 yX11_refuse, .instanceMethod yX11_refuse, .selects RX11 yX11_refuse yX11_refuse, .initialized RX11, .code yX11_refuse cX11_refuse 3 (some .int), .fieldLink RX11 50 "EachOnHisCue" "refusals" "[I"] : List Cond) ++ wsX110)
theorem in_X11_restore_X11 : ∀ w ∈ wsX110, w ∈ vsX11_restore := fun _ h => List.mem_cons_of_mem _ (List.mem_append_right _ h)
set_option maxRecDepth 20000 in
theorem gw_X11_restore_X11_refuse : GoodIn vsX11_restore vsX11_refuse := goodIn_r _ [6, 7, 8, 9, 10, 11, 12, 13, 14, 15, 16] (by decide +kernel) (by decide +kernel)
set_option maxRecDepth 20000 in
theorem gv_X11_restore_X11_refuse_53 : GoodIn vsX11_restore (wsV RX11 53 RX11 yX11_refuse vsX11_refuse) := goodIn_app (goodIn_of _ (by decide +kernel)) gw_X11_restore_X11_refuse
noncomputable def vsX12_restore : List Cond := .code yX12_restore cX12_restore 1 (some .int) :: (([.fieldLink RX12 160 "EachOnHisCueModel" "hasImage" "Z", .methodLink RX12 89 yX12_no, .instanceMethod yX12_no, .selects RX12 yX12_no yX12_no, .initialized RX12, .code yX12_no cX12_no 2 (some .int), .fieldLink RX12 7 "EachOnHisCueModel" "refused" "[I"] : List Cond) ++ wsX120)
theorem in_X12_restore_X12 : ∀ w ∈ wsX120, w ∈ vsX12_restore := fun _ h => List.mem_cons_of_mem _ (List.mem_append_right _ h)
set_option maxRecDepth 20000 in
theorem gw_X12_restore_X12_no : GoodIn vsX12_restore vsX12_no := goodIn_r _ [6, 7, 8, 9, 10, 11, 12, 13, 14, 15, 16, 17, 18, 19, 20, 21, 22, 23, 24, 25, 26, 27, 28, 29, 30, 31, 32, 33, 34, 35, 36, 37, 38, 39, 40, 41, 42, 43, 44, 45] (by decide +kernel) (by decide +kernel)
set_option maxRecDepth 20000 in
theorem gv_X12_restore_X12_no_89 : GoodIn vsX12_restore (wsV RX12 89 RX12 yX12_no vsX12_no) := goodIn_app (goodIn_of _ (by decide +kernel)) gw_X12_restore_X12_no
noncomputable def vsX7_allWords : List Cond := .code yX7_allWords cX7_allWords 3 (some .int) :: (([.fieldLink RX7 43 "EachOnHisCue$Play" "lines" "I"] : List Cond) ++ wsX70)
theorem in_X7_allWords_X7 : ∀ w ∈ wsX70, w ∈ vsX7_allWords := fun _ h => List.mem_cons_of_mem _ (List.mem_append_right _ h)
noncomputable def vsX11_count : List Cond := .code yX11_count cX11_count 2 (some .int) :: (([.fieldLink RX11 10 "EachOnHisCue" "play" "LEachOnHisCue$Play;", .fieldLink RX11 203 "EachOnHisCue$Play" "players" "I", .fieldLink RX11 137 "EachOnHisCue$Play" "lines" "I", .fieldLink RX11 71 "EachOnHisCue$Play" "now" "LEachOnHisCue$Saying;", .fieldLink RX11 147 "EachOnHisCue$Saying" "times" "I", .fieldLink RX11 157 "EachOnHisCue$Saying" "latest" "I", .fieldLink RX11 38 "EachOnHisCue" "letters" "LEachOnHisCue$Letters;", .fieldLink RX11 57 "EachOnHisCue$Letters" "size" "I", .fieldLink RX11 46 "EachOnHisCue" "toldSize" "I", .fieldLink RX11 124 "EachOnHisCue$Play" "lost" "I", .fieldLink RX11 50 "EachOnHisCue" "refusals" "[I", .methodLink RX11 241 yX7_allWords, .instanceMethod yX7_allWords, .selects RX7 yX7_allWords yX7_allWords, .initialized RX7, .code yX7_allWords cX7_allWords 3 (some .int), .fieldLink RX7 43 "EachOnHisCue$Play" "lines" "I"] : List Cond) ++ wsX40 ++ wsX70 ++ wsX90 ++ wsX110)
theorem in_X11_count_X4 : ∀ w ∈ wsX40, w ∈ vsX11_count := fun _ h => List.mem_cons_of_mem _ (List.mem_append_left _ (List.mem_append_left _ (List.mem_append_left _ (List.mem_append_right _ h))))
theorem in_X11_count_X7 : ∀ w ∈ wsX70, w ∈ vsX11_count := fun _ h => List.mem_cons_of_mem _ (List.mem_append_left _ (List.mem_append_left _ (List.mem_append_right _ h)))
theorem in_X11_count_X9 : ∀ w ∈ wsX90, w ∈ vsX11_count := fun _ h => List.mem_cons_of_mem _ (List.mem_append_left _ (List.mem_append_right _ h))
theorem in_X11_count_X11 : ∀ w ∈ wsX110, w ∈ vsX11_count := fun _ h => List.mem_cons_of_mem _ (List.mem_append_right _ h)
set_option maxRecDepth 20000 in
theorem gw_X11_count_X7_allWords : GoodIn vsX11_count vsX7_allWords := goodIn_r _ [16, 17, 20, 21, 22, 23, 24, 25, 26, 27, 28, 29, 30, 31] (by decide +kernel) (by decide +kernel)
set_option maxRecDepth 20000 in
theorem gv_X11_count_X7_allWords_241 : GoodIn vsX11_count (wsV RX11 241 RX7 yX7_allWords vsX7_allWords) := goodIn_app (goodIn_of _ (by decide +kernel)) gw_X11_count_X7_allWords
noncomputable def vsX12_words : List Cond := .code yX12_words cX12_words 3 (some .int) :: (([.fieldLink RX12 79 "EachOnHisCueModel" "lines" "I"] : List Cond) ++ wsX120)
theorem in_X12_words_X12 : ∀ w ∈ wsX120, w ∈ vsX12_words := fun _ h => List.mem_cons_of_mem _ (List.mem_append_right _ h)
noncomputable def vsX12_count : List Cond := .code yX12_count cX12_count 2 (some .int) :: (([.fieldLink RX12 76 "EachOnHisCueModel" "players" "I", .fieldLink RX12 79 "EachOnHisCueModel" "lines" "I", .fieldLink RX12 157 "EachOnHisCueModel" "saidMany" "I", .fieldLink RX12 41 "EachOnHisCueModel" "latest" "I", .fieldLink RX12 86 "EachOnHisCueModel" "taped" "I", .fieldLink RX12 276 "EachOnHisCueModel" "rowMany" "I", .fieldLink RX12 37 "EachOnHisCueModel" "lose" "I", .fieldLink RX12 7 "EachOnHisCueModel" "refused" "[I", .methodLink RX12 100 yX12_isIn, .static yX12_isIn, .initialized RX12, .code yX12_isIn cX12_isIn 3 (some .boolean), .methodLink RX12 294 yX12_words, .instanceMethod yX12_words, .selects RX12 yX12_words yX12_words, .code yX12_words cX12_words 3 (some .int)] : List Cond) ++ wsX120)
theorem in_X12_count_X12 : ∀ w ∈ wsX120, w ∈ vsX12_count := fun _ h => List.mem_cons_of_mem _ (List.mem_append_right _ h)
set_option maxRecDepth 20000 in
theorem gw_X12_count_X12_isIn : GoodIn vsX12_count vsX12_isIn := goodIn_r _ [12] (by decide +kernel) (by decide +kernel)
set_option maxRecDepth 20000 in
theorem gv_X12_count_X12_isIn_100 : GoodIn vsX12_count (va_wsS RX12 100 yX12_isIn vsX12_isIn) := goodIn_app (goodIn_of _ (by decide +kernel)) gw_X12_count_X12_isIn
set_option maxRecDepth 20000 in
theorem gw_X12_count_X12_words : GoodIn vsX12_count vsX12_words := goodIn_r _ [16, 2, 17, 18, 19, 20, 21, 22, 23, 24, 25, 26, 27, 28, 29, 30, 31, 32, 33, 34, 35, 36, 37, 38, 39, 40, 41, 42, 43, 44, 45, 46, 47, 48, 49, 50, 51, 52, 53, 54] (by decide +kernel) (by decide +kernel)
set_option maxRecDepth 20000 in
theorem gv_X12_count_X12_words_294 : GoodIn vsX12_count (wsV RX12 294 RX12 yX12_words vsX12_words) := goodIn_app (goodIn_of _ (by decide +kernel)) gw_X12_count_X12_words
