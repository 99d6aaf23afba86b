noncomputable def vsL_0 : List Cond := [.instantiable RX0 1, .instantiable RX1 1, .instantiable RX2 3, .instantiable RX3 1, .instantiable RX4 2, .instantiable RX5 2, .instantiable RX6 1, .instantiable RX7 12, .instantiable RX8 1, .instantiable RX9 5, .instantiable RX10 1, .instantiable RX11 9, .instantiable RX12 38, .arrayClass .int, .classLink RL 7 RX11, .initialized RX11, .methodLink RL 9 yX11_init, .instanceMethod yX11_init, .classLink RL 10 RX12, .initialized RX12, .methodLink RL 12 yX12_init, .instanceMethod yX12_init, .methodLink RL 13 yX11_feed, .instanceMethod yX11_feed, .selects RX11 yX11_feed yX11_feed, .code yX11_feed cX11_feed 2 (some .int), .fieldLink RX11 38 "EachOnHisCue" "letters" "LEachOnHisCue$Letters;", .fieldLink RX11 57 "EachOnHisCue$Letters" "size" "I", .methodLink RX11 53 yX11_refuse, .instanceMethod yX11_refuse, .selects RX11 yX11_refuse yX11_refuse, .code yX11_refuse cX11_refuse 3 (some .int), .fieldLink RX11 50 "EachOnHisCue" "refusals" "[I", .methodLink RX11 60 yX4_add, .instanceMethod yX4_add, .selects RX4 yX4_add yX4_add, .initialized RX4, .code yX4_add cX4_add 2 none, .fieldLink RX4 15 "EachOnHisCue$Letters" "size" "I", .fieldLink RX4 9 "EachOnHisCue$Letters" "row" "[I"]
noncomputable def vsL_1 : List Cond := [.methodLink RL 17 yX12_feed, .instanceMethod yX12_feed, .selects RX12 yX12_feed yX12_feed, .code yX12_feed cX12_feed 3 (some .int), .fieldLink RX12 86 "EachOnHisCueModel" "taped" "I", .fieldLink RX12 44 "EachOnHisCueModel" "tape" "[I", .methodLink RX12 82 yX12_bound, .static yX12_bound, .code yX12_bound cX12_bound 3 (some .int), .methodLink RX12 89 yX12_no, .instanceMethod yX12_no, .selects RX12 yX12_no yX12_no, .code yX12_no cX12_no 2 (some .int), .fieldLink RX12 7 "EachOnHisCueModel" "refused" "[I", .methodLink RL 18 yX11_piece, .instanceMethod yX11_piece, .selects RX11 yX11_piece yX11_piece, .code yX11_piece cX11_piece 2 (some .int), .fieldLink RX11 10 "EachOnHisCue" "play" "LEachOnHisCue$Play;", .methodLink RX11 64 yX4_firstFault, .instanceMethod yX4_firstFault, .selects RX4 yX4_firstFault yX4_firstFault, .code yX4_firstFault cX4_firstFault 3 (some .int), .methodLink RX4 23 yX4_firstWrongLetter, .instanceMethod yX4_firstWrongLetter, .selects RX4 yX4_firstWrongLetter yX4_firstWrongLetter, .code yX4_firstWrongLetter cX4_firstWrongLetter 4 (some .int), .methodLink RL 22 yX12_piece, .instanceMethod yX12_piece, .selects RX12 yX12_piece yX12_piece, .code yX12_piece cX12_piece 3 (some .int), .fieldLink RX12 93 "EachOnHisCueModel" "at" "I", .fieldLink RX12 107 "EachOnHisCueModel" "statements" "I", .methodLink RX12 120 yX12_statement, .instanceMethod yX12_statement, .selects RX12 yX12_statement yX12_statement, .code yX12_statement cX12_statement 2 (some .boolean), .methodLink RX12 96 yX12_next, .instanceMethod yX12_next, .selects RX12 yX12_next yX12_next]
noncomputable def vsL_2 : List Cond := [.code yX12_next cX12_next 1 (some .int), .methodLink RL 23 yX11_player, .instanceMethod yX11_player, .selects RX11 yX11_player yX11_player, .code yX11_player cX11_player 3 (some .int), .methodLink RX11 80 yX7_hasPlayer, .instanceMethod yX7_hasPlayer, .selects RX7 yX7_hasPlayer yX7_hasPlayer, .initialized RX7, .code yX7_hasPlayer cX7_hasPlayer 2 (some .boolean), .fieldLink RX7 24 "EachOnHisCue$Play" "players" "I", .methodLink RL 27 yX12_player, .instanceMethod yX12_player, .selects RX12 yX12_player yX12_player, .code yX12_player cX12_player 3 (some .int), .methodLink RX12 117 yX12_isPlayer, .instanceMethod yX12_isPlayer, .selects RX12 yX12_isPlayer yX12_isPlayer, .code yX12_isPlayer cX12_isPlayer 2 (some .boolean), .fieldLink RX12 76 "EachOnHisCueModel" "players" "I", .methodLink RL 28 yX11_line, .instanceMethod yX11_line, .selects RX11 yX11_line yX11_line, .code yX11_line cX11_line 3 (some .int), .methodLink RX11 103 yX7_hasLine, .instanceMethod yX7_hasLine, .selects RX7 yX7_hasLine yX7_hasLine, .code yX7_hasLine cX7_hasLine 2 (some .boolean), .fieldLink RX7 43 "EachOnHisCue$Play" "lines" "I", .methodLink RL 31 yX12_line, .instanceMethod yX12_line, .selects RX12 yX12_line yX12_line, .code yX12_line cX12_line 3 (some .int), .methodLink RX12 169 yX12_isLine, .instanceMethod yX12_isLine, .selects RX12 yX12_isLine yX12_isLine, .code yX12_isLine cX12_isLine 2 (some .boolean), .fieldLink RX12 79 "EachOnHisCueModel" "lines" "I", .methodLink RL 32 yX11_cue, .instanceMethod yX11_cue]
noncomputable def vsL_3 : List Cond := [.selects RX11 yX11_cue yX11_cue, .code yX11_cue cX11_cue 4 (some .int), .methodLink RL 35 yX12_cue, .instanceMethod yX12_cue, .selects RX12 yX12_cue yX12_cue, .code yX12_cue cX12_cue 5 (some .int), .methodLink RL 36 yX11_speed, .instanceMethod yX11_speed, .selects RX11 yX11_speed yX11_speed, .code yX11_speed cX11_speed 4 (some .int), .methodLink RL 39 yX12_speed, .instanceMethod yX12_speed, .selects RX12 yX12_speed yX12_speed, .code yX12_speed cX12_speed 5 (some .int), .methodLink RL 40 yX11_lose, .instanceMethod yX11_lose, .selects RX11 yX11_lose yX11_lose, .code yX11_lose cX11_lose 3 (some .int), .fieldLink RX11 124 "EachOnHisCue$Play" "lost" "I", .methodLink RL 43 yX12_lose, .instanceMethod yX12_lose, .selects RX12 yX12_lose yX12_lose, .code yX12_lose cX12_lose 4 (some .int), .fieldLink RX12 37 "EachOnHisCueModel" "lose" "I", .methodLink RL 44 yX11_comes, .instanceMethod yX11_comes, .selects RX11 yX11_comes yX11_comes, .code yX11_comes cX11_comes 2 (some .int), .methodLink RL 47 yX12_comes, .instanceMethod yX12_comes, .selects RX12 yX12_comes yX12_comes, .code yX12_comes cX12_comes 2 (some .int), .methodLink RL 48 yX11_say, .instanceMethod yX11_say, .selects RX11 yX11_say yX11_say, .code yX11_say cX11_say 2 (some .int), .fieldLink RX11 137 "EachOnHisCue$Play" "lines" "I", .methodLink RL 51 yX12_say, .instanceMethod yX12_say, .selects RX12 yX12_say yX12_say]
noncomputable def vsL_4 : List Cond := [.code yX12_say cX12_say 2 (some .int), .methodLink RL 52 yX11_again, .instanceMethod yX11_again, .selects RX11 yX11_again yX11_again, .code yX11_again cX11_again 2 (some .int), .fieldLink RX11 71 "EachOnHisCue$Play" "now" "LEachOnHisCue$Saying;", .fieldLink RX11 147 "EachOnHisCue$Saying" "times" "I", .methodLink RX11 75 yX9_forget, .instanceMethod yX9_forget, .selects RX9 yX9_forget yX9_forget, .initialized RX9, .code yX9_forget cX9_forget 1 none, .fieldLink RX9 9 "EachOnHisCue$Saying" "said" "I", .fieldLink RX9 15 "EachOnHisCue$Saying" "dead" "I", .fieldLink RX9 18 "EachOnHisCue$Saying" "latest" "I", .fieldLink RX9 21 "EachOnHisCue$Saying" "times" "I", .fieldLink RX9 24 "EachOnHisCue$Saying" "leaps" "I", .methodLink RL 55 yX12_again, .instanceMethod yX12_again, .selects RX12 yX12_again yX12_again, .code yX12_again cX12_again 2 (some .int), .fieldLink RX12 157 "EachOnHisCueModel" "saidMany" "I", .methodLink RX12 134 yX12_beginsAnew, .instanceMethod yX12_beginsAnew, .selects RX12 yX12_beginsAnew yX12_beginsAnew, .code yX12_beginsAnew cX12_beginsAnew 1 none, .fieldLink RX12 151 "EachOnHisCueModel" "said" "I", .fieldLink RX12 154 "EachOnHisCueModel" "dead" "I", .fieldLink RX12 41 "EachOnHisCueModel" "latest" "I", .methodLink RL 56 yX11_night, .instanceMethod yX11_night, .selects RX11 yX11_night yX11_night, .code yX11_night cX11_night 3 (some .int), .methodLink RL 59 yX12_night, .instanceMethod yX12_night, .selects RX12 yX12_night yX12_night, .code yX12_night cX12_night 2 (some .int), .methodLink RL 60 yX11_goes, .instanceMethod yX11_goes, .selects RX11 yX11_goes yX11_goes]
noncomputable def vsL_5 : List Cond := [.code yX11_goes cX11_goes 3 (some .int), .methodLink RL 63 yX12_goes, .instanceMethod yX12_goes, .selects RX12 yX12_goes yX12_goes, .code yX12_goes cX12_goes 2 (some .int), .methodLink RX12 100 yX12_isIn, .static yX12_isIn, .code yX12_isIn cX12_isIn 3 (some .boolean), .methodLink RL 64 yX11_follow, .instanceMethod yX11_follow, .selects RX11 yX11_follow yX11_follow, .code yX11_follow cX11_follow 2 (some .int), .methodLink RL 67 yX12_follow, .instanceMethod yX12_follow, .selects RX12 yX12_follow yX12_follow, .code yX12_follow cX12_follow 2 (some .int), .methodLink RL 68 yX11_net, .instanceMethod yX11_net, .selects RX11 yX11_net yX11_net, .code yX11_net cX11_net 2 (some .int), .methodLink RL 71 yX12_net, .instanceMethod yX12_net, .selects RX12 yX12_net yX12_net, .code yX12_net cX12_net 2 (some .int), .methodLink RL 72 yX11_mend, .instanceMethod yX11_mend, .selects RX11 yX11_mend yX11_mend, .code yX11_mend cX11_mend 4 (some .int), .methodLink RL 75 yX12_mend, .instanceMethod yX12_mend, .selects RX12 yX12_mend yX12_mend, .code yX12_mend cX12_mend 3 (some .int), .methodLink RL 76 yX11_mendOf, .instanceMethod yX11_mendOf, .selects RX11 yX11_mendOf yX11_mendOf, .code yX11_mendOf cX11_mendOf 2 (some .int), .methodLink RL 79 yX12_mendOf, .instanceMethod yX12_mendOf, .selects RX12 yX12_mendOf yX12_mendOf, .code yX12_mendOf cX12_mendOf 2 (some .int)]
noncomputable def vsL_6 : List Cond := [.methodLink RL 80 yX11_prompted, .instanceMethod yX11_prompted, .selects RX11 yX11_prompted yX11_prompted, .code yX11_prompted cX11_prompted 1 (some .int), .methodLink RL 83 yX12_prompted, .instanceMethod yX12_prompted, .selects RX12 yX12_prompted yX12_prompted, .code yX12_prompted cX12_prompted 3 (some .int), .methodLink RL 84 yX11_home, .instanceMethod yX11_home, .selects RX11 yX11_home yX11_home, .code yX11_home cX11_home 4 (some .long), .constantLong RX11 194 (4000000000000000000), .methodLink RL 88 yX12_home, .instanceMethod yX12_home, .selects RX12 yX12_home yX12_home, .code yX12_home cX12_home 7 (some .long), .methodLink RX12 244 yX12_lowest, .instanceMethod yX12_lowest, .selects RX12 yX12_lowest yX12_lowest, .code yX12_lowest cX12_lowest 2 (some .long), .constantLong RX12 74 (4000000000000000000), .methodLink RL 89 yX11_without, .instanceMethod yX11_without, .selects RX11 yX11_without yX11_without, .code yX11_without cX11_without 2 (some .int), .methodLink RL 92 yX12_without, .instanceMethod yX12_without, .selects RX12 yX12_without yX12_without, .code yX12_without cX12_without 2 (some .int), .methodLink RL 93 yX11_leastHarm, .instanceMethod yX11_leastHarm, .selects RX11 yX11_leastHarm yX11_leastHarm, .code yX11_leastHarm cX11_leastHarm 5 (some .int), .methodLink RL 96 yX12_leastHarm, .instanceMethod yX12_leastHarm, .selects RX12 yX12_leastHarm yX12_leastHarm, .code yX12_leastHarm cX12_leastHarm 5 (some .int), .methodLink RL 97 yX11_joke, .instanceMethod yX11_joke]
noncomputable def vsL_7 : List Cond := [.selects RX11 yX11_joke yX11_joke, .code yX11_joke cX11_joke 3 (some .int), .methodLink RL 100 yX12_joke, .instanceMethod yX12_joke, .selects RX12 yX12_joke yX12_joke, .code yX12_joke cX12_joke 4 (some .int), .methodLink RL 101 yX11_stretched, .instanceMethod yX11_stretched, .selects RX11 yX11_stretched yX11_stretched, .code yX11_stretched cX11_stretched 2 (some .int), .methodLink RL 104 yX12_stretched, .instanceMethod yX12_stretched, .selects RX12 yX12_stretched yX12_stretched, .code yX12_stretched cX12_stretched 4 (some .int), .methodLink RL 105 yX11_parts, .instanceMethod yX11_parts, .selects RX11 yX11_parts yX11_parts, .code yX11_parts cX11_parts 3 (some .int), .methodLink RL 108 yX12_parts, .instanceMethod yX12_parts, .selects RX12 yX12_parts yX12_parts, .code yX12_parts cX12_parts 5 (some .int), .methodLink RL 109 yX11_books, .instanceMethod yX11_books, .selects RX11 yX11_books yX11_books, .code yX11_books cX11_books 1 (some .int), .methodLink RL 112 yX12_books, .instanceMethod yX12_books, .selects RX12 yX12_books yX12_books, .code yX12_books cX12_books 2 (some .int), .methodLink RX12 270 yX12_notBooks, .instanceMethod yX12_notBooks, .selects RX12 yX12_notBooks yX12_notBooks, .code yX12_notBooks cX12_notBooks 1 (some .int), .methodLink RL 113 yX11_book, .instanceMethod yX11_book, .selects RX11 yX11_book yX11_book, .code yX11_book cX11_book 3 (some .int), .methodLink RL 116 yX12_book, .instanceMethod yX12_book]
noncomputable def vsL_8 : List Cond := [.selects RX12 yX12_book yX12_book, .code yX12_book cX12_book 4 (some .int), .methodLink RL 117 yX11_row, .instanceMethod yX11_row, .selects RX11 yX11_row yX11_row, .code yX11_row cX11_row 2 (some .int), .fieldLink RX11 46 "EachOnHisCue" "toldSize" "I", .fieldLink RX11 42 "EachOnHisCue" "told" "[I", .methodLink RL 120 yX12_row, .instanceMethod yX12_row, .selects RX12 yX12_row yX12_row, .code yX12_row cX12_row 3 (some .int), .fieldLink RX12 276 "EachOnHisCueModel" "rowMany" "I", .fieldLink RX12 71 "EachOnHisCueModel" "row" "[I", .methodLink RL 121 yX11_judge, .instanceMethod yX11_judge, .selects RX11 yX11_judge yX11_judge, .code yX11_judge cX11_judge 1 (some .int), .methodLink RL 124 yX12_judge, .instanceMethod yX12_judge, .selects RX12 yX12_judge yX12_judge, .code yX12_judge cX12_judge 2 (some .int), .methodLink RL 125 yX11_possible, .instanceMethod yX11_possible, .selects RX11 yX11_possible yX11_possible, .code yX11_possible cX11_possible 2 (some .int), .fieldLink RX11 34 "EachOnHisCue" "web" "LEachOnHisCue$Net;", .methodLink RX11 167 yX5_weaveWithoutSick, .instanceMethod yX5_weaveWithoutSick, .selects RX5 yX5_weaveWithoutSick yX5_weaveWithoutSick, .initialized RX5, .code yX5_weaveWithoutSick cX5_weaveWithoutSick 4 none, .fieldLink RX5 15 "EachOnHisCue$Net" "lines" "I", .methodLink RX5 32 yX5_weave, .instanceMethod yX5_weave, .selects RX5 yX5_weave yX5_weave, .code yX5_weave cX5_weave 4 none, .fieldLink RX5 19 "EachOnHisCue$Play" "lines" "I", .methodLink RX5 36 yX7_linesOfSick, .instanceMethod yX7_linesOfSick]
noncomputable def vsL_9 : List Cond := [.selects RX7 yX7_linesOfSick yX7_linesOfSick, .code yX7_linesOfSick cX7_linesOfSick 3 (some .int), .methodLink RX11 228 yX5_firstThatCannotFollow, .instanceMethod yX5_firstThatCannotFollow, .selects RX5 yX5_firstThatCannotFollow yX5_firstThatCannotFollow, .code yX5_firstThatCannotFollow cX5_firstThatCannotFollow 5 (some .int), .methodLink RL 128 yX12_possible, .instanceMethod yX12_possible, .selects RX12 yX12_possible yX12_possible, .code yX12_possible cX12_possible 4 (some .int), .methodLink RL 129 yX11_lot, .instanceMethod yX11_lot, .selects RX11 yX11_lot yX11_lot, .code yX11_lot cX11_lot 5 (some .int), .methodLink RL 132 yX12_lot, .instanceMethod yX12_lot, .selects RX12 yX12_lot yX12_lot, .code yX12_lot cX12_lot 7 (some .int), .methodLink RL 133 yX11_image, .instanceMethod yX11_image, .selects RX11 yX11_image yX11_image, .code yX11_image cX11_image 1 (some .int), .fieldLink RX11 16 "EachOnHisCue" "imaged" "LEachOnHisCue$Play;", .fieldLink RX11 19 "EachOnHisCue" "hasImage" "Z", .methodLink RX11 238 yX7_take, .instanceMethod yX7_take, .selects RX7 yX7_take yX7_take, .code yX7_take cX7_take 3 none, .fieldLink RX7 11 "EachOnHisCue$Play" "cast" "[LEachOnHisCue$Next;", .fieldLink RX7 17 "EachOnHisCue$Play" "speeds" "[I", .fieldLink RX7 21 "EachOnHisCue$Play" "own" "[I", .fieldLink RX7 28 "EachOnHisCue$Play" "owners" "[I", .fieldLink RX7 31 "EachOnHisCue$Play" "texts" "[I", .fieldLink RX7 34 "EachOnHisCue$Play" "sizes" "[I", .fieldLink RX7 37 "EachOnHisCue$Play" "cues" "[I", .fieldLink RX7 40 "EachOnHisCue$Play" "killing" "I", .fieldLink RX7 46 "EachOnHisCue$Play" "lost" "I", .fieldLink RX7 52 "EachOnHisCue$Play" "now" "LEachOnHisCue$Saying;", .methodLink RX7 116 yX9_take, .instanceMethod yX9_take]
noncomputable def vsL_10 : List Cond := [.selects RX9 yX9_take yX9_take, .code yX9_take cX9_take 2 none, .methodLink RL 136 yX12_image, .instanceMethod yX12_image, .selects RX12 yX12_image yX12_image, .code yX12_image cX12_image 1 (some .int), .fieldLink RX12 160 "EachOnHisCueModel" "hasImage" "Z", .methodLink RX12 124 yX12_passesAll, .instanceMethod yX12_passesAll, .selects RX12 yX12_passesAll yX12_passesAll, .code yX12_passesAll cX12_passesAll 3 none, .fieldLink RX12 141 "EachOnHisCueModel" "cursor" "I", .fieldLink RX12 137 "EachOnHisCueModel" "isKeeping" "Z", .fieldLink RX12 13 "EachOnHisCueModel" "kind" "[I", .fieldLink RX12 16 "EachOnHisCueModel" "figure" "[I", .fieldLink RX12 19 "EachOnHisCueModel" "speed" "[I", .fieldLink RX12 22 "EachOnHisCueModel" "whose" "[I", .fieldLink RX12 25 "EachOnHisCueModel" "many" "[I", .fieldLink RX12 28 "EachOnHisCueModel" "cue" "[I", .fieldLink RX12 31 "EachOnHisCueModel" "kills" "[I", .fieldLink RX12 34 "EachOnHisCueModel" "word" "[I", .methodLink RX12 144 yX12_passes, .instanceMethod yX12_passes, .selects RX12 yX12_passes yX12_passes, .code yX12_passes cX12_passes 3 none, .fieldLink RX12 56 "EachOnHisCueModel" "kept" "[I", .methodLink RX12 148 yX12_passOne, .instanceMethod yX12_passOne, .selects RX12 yX12_passOne yX12_passOne, .code yX12_passOne cX12_passOne 3 (some .int), .methodLink RL 137 yX11_restore, .instanceMethod yX11_restore, .selects RX11 yX11_restore yX11_restore, .code yX11_restore cX11_restore 1 (some .int), .methodLink RL 140 yX12_restore, .instanceMethod yX12_restore, .selects RX12 yX12_restore yX12_restore, .code yX12_restore cX12_restore 1 (some .int), .methodLink RL 141 yX11_count, .instanceMethod yX11_count]
noncomputable def vsL_11 : List Cond := [.selects RX11 yX11_count yX11_count, .code yX11_count cX11_count 2 (some .int), .fieldLink RX11 203 "EachOnHisCue$Play" "players" "I", .fieldLink RX11 157 "EachOnHisCue$Saying" "latest" "I", .methodLink RX11 241 yX7_allWords, .instanceMethod yX7_allWords, .selects RX7 yX7_allWords yX7_allWords, .code yX7_allWords cX7_allWords 3 (some .int), .methodLink RL 144 yX12_count, .instanceMethod yX12_count, .selects RX12 yX12_count yX12_count, .code yX12_count cX12_count 2 (some .int), .methodLink RX12 294 yX12_words, .instanceMethod yX12_words, .selects RX12 yX12_words yX12_words, .code yX12_words cX12_words 3 (some .int), .code yX11_init cX11_init 1 none, .methodLink RX11 1 objectInit, .instanceMethod objectInit, .code objectInit ⟨#[0xb1]⟩ 1 none, .classLink RX11 7 RX7, .instanceMethod yX7_init, .classLink RX11 23 RX2, .initialized RX2, .instanceMethod yX2_init, .fieldLink RX11 26 "EachOnHisCue" "evening" "LEachOnHisCue$Evening;", .fieldLink RX11 30 "EachOnHisCue$Evening" "web" "LEachOnHisCue$Net;", .classLink RX11 35 RX4, .instanceMethod yX4_init, .code yX7_init cX7_init 1 none, .methodLink RX7 3 objectInit, .classLink RX7 9 "EachOnHisCue$Next", .classLink RX7 49 RX9, .instanceMethod yX9_init, .code yX9_init cX9_init 1 none, .methodLink RX9 3 objectInit, .code yX2_init cX2_init 1 none, .methodLink RX2 3 objectInit, .classLink RX2 9 RX5, .instanceMethod yX5_init]
noncomputable def vsL_12 : List Cond := [.fieldLink RX2 12 "EachOnHisCue$Evening" "web" "LEachOnHisCue$Net;", .classLink RX2 18 RX9, .fieldLink RX2 21 "EachOnHisCue$Evening" "saying" "LEachOnHisCue$Saying;", .fieldLink RX2 25 "EachOnHisCue$Evening" "seed" "I", .code yX5_init cX5_init 1 none, .methodLink RX5 3 objectInit, .fieldLink RX5 9 "EachOnHisCue$Net" "after" "[I", .code yX4_init cX4_init 1 none, .methodLink RX4 3 objectInit, .code yX12_init cX12_init 1 none, .methodLink RX12 1 objectInit, .fieldLink RX12 47 "EachOnHisCueModel" "letter" "[I", .fieldLink RX12 50 "EachOnHisCueModel" "letterAt" "[I", .fieldLink RX12 53 "EachOnHisCueModel" "told" "[I", .fieldLink RX12 59 "EachOnHisCueModel" "joked" "I", .fieldLink RX12 62 "EachOnHisCueModel" "night" "[I", .fieldLink RX12 65 "EachOnHisCueModel" "cues" "[I", .fieldLink RX12 68 "EachOnHisCueModel" "order" "[I"]
noncomputable def vsLw : List Cond := vsL_0 ++ (vsL_1 ++ (vsL_2 ++ (vsL_3 ++ (vsL_4 ++ (vsL_5 ++ (vsL_6 ++ (vsL_7 ++ (vsL_8 ++ (vsL_9 ++ (vsL_10 ++ (vsL_11 ++ (vsL_12))))))))))))
noncomputable def vsLc : List Cond := wsX00 ++ (wsX10 ++ (wsX20 ++ (wsX30 ++ (wsX40 ++ (wsX50 ++ (wsX60 ++ (wsX70 ++ (wsX80 ++ (wsX90 ++ (wsX100 ++ (wsX110 ++ (wsX120))))))))))))
noncomputable def vsL : List Cond := vsLw ++ vsLc
theorem z_inP {big : List Cond} (ws : List Cond) (ps : List Nat) (hp : ws = ps.filterMap (fun i => big[i]?)) : ∀ w ∈ ws, w ∈ big := by
  intro w hw
  rw [hp] at hw
  obtain ⟨i, -, hi⟩ := List.mem_filterMap.mp hw
  exact List.mem_of_getElem? hi
set_option maxRecDepth 20000 in
theorem vsL_in_0 : ∀ w ∈ vsL_0, w ∈ lw_tbl := z_inP _ [315, 339, 166, 355, 202, 172, 363, 71, 331, 79, 347, 63, 773, 110, 62, 48, 64, 65, 772, 54, 774, 775, 243, 244, 245, 246, 220, 209, 247, 249, 0, 250, 223, 251, 252, 253, 53, 254, 208, 207] (by decide +kernel)
set_option maxRecDepth 20000 in
theorem vsL_in_1 : ∀ w ∈ vsL_1, w ∈ lw_tbl := z_inP _ [893, 894, 895, 896, 798, 794, 897, 898, 899, 900, 902, 1, 903, 778, 255, 256, 257, 258, 215, 259, 260, 261, 262, 263, 264, 265, 266, 904, 905, 906, 907, 799, 800, 908, 910, 2, 911, 912, 914, 3] (by decide +kernel)
set_option maxRecDepth 20000 in
theorem vsL_in_2 : ∀ w ∈ vsL_2, w ∈ lw_tbl := z_inP _ [915, 387, 388, 389, 390, 391, 380, 381, 49, 382, 116, 967, 968, 969, 970, 951, 953, 12, 954, 787, 439, 440, 441, 442, 443, 444, 445, 446, 131, 979, 980, 981, 982, 983, 985, 16, 986, 788, 447, 448] (by decide +kernel)
set_option maxRecDepth 20000 in
theorem vsL_in_3 : ∀ w ∈ vsL_3, w ∈ lw_tbl := z_inP _ [449, 450, 987, 988, 989, 990, 451, 452, 453, 454, 991, 992, 993, 994, 455, 456, 457, 458, 137, 995, 996, 997, 998, 789, 459, 460, 461, 462, 999, 1000, 1001, 1002, 530, 531, 532, 533, 134, 1026, 1027, 1028] (by decide +kernel)
set_option maxRecDepth 20000 in
theorem vsL_in_4 : ∀ w ∈ vsL_4, w ∈ lw_tbl := z_inP _ [1029, 549, 550, 551, 552, 139, 95, 383, 384, 385, 50, 386, 84, 87, 90, 93, 96, 1038, 1039, 1040, 1041, 793, 955, 957, 13, 958, 790, 791, 792, 553, 554, 555, 556, 1042, 1043, 1044, 1045, 564, 565, 566] (by decide +kernel)
set_option maxRecDepth 20000 in
theorem vsL_in_5 : ∀ w ∈ vsL_5, w ∈ lw_tbl := z_inP _ [567, 1050, 1051, 1052, 1053, 924, 925, 926, 572, 573, 574, 575, 1062, 1063, 1064, 1065, 586, 587, 588, 589, 1070, 1071, 1072, 1073, 612, 613, 614, 615, 1094, 1095, 1096, 1097, 627, 628, 629, 630, 1106, 1107, 1108, 1109] (by decide +kernel)
set_option maxRecDepth 20000 in
theorem vsL_in_6 : ∀ w ∈ vsL_6, w ∈ lw_tbl := z_inP _ [631, 632, 633, 634, 1110, 1111, 1112, 1113, 639, 640, 641, 642, 643, 1114, 1115, 1116, 1117, 1118, 1120, 35, 1121, 1122, 651, 652, 653, 654, 1127, 1128, 1129, 1130, 655, 656, 657, 658, 1135, 1136, 1137, 1138, 659, 660] (by decide +kernel)
set_option maxRecDepth 20000 in
theorem vsL_in_7 : ∀ w ∈ vsL_7, w ∈ lw_tbl := z_inP _ [661, 662, 1139, 1140, 1141, 1142, 667, 668, 669, 670, 1143, 1144, 1145, 1146, 671, 672, 673, 674, 1147, 1148, 1149, 1150, 682, 683, 684, 685, 1155, 1156, 1157, 1158, 1159, 1161, 38, 1162, 697, 698, 699, 700, 1179, 1180] (by decide +kernel)
set_option maxRecDepth 20000 in
theorem vsL_in_8 : ∀ w ∈ vsL_8, w ∈ lw_tbl := z_inP _ [1181, 1182, 705, 706, 707, 708, 222, 221, 1183, 1184, 1185, 1186, 814, 813, 709, 710, 711, 712, 1187, 1188, 1189, 1190, 717, 718, 719, 720, 219, 576, 577, 578, 52, 579, 180, 580, 464, 465, 466, 132, 581, 582] (by decide +kernel)
set_option maxRecDepth 20000 in
theorem vsL_in_9 : ∀ w ∈ vsL_9, w ∈ lw_tbl := z_inP _ [583, 584, 721, 722, 723, 724, 1191, 1192, 1193, 1194, 729, 730, 731, 732, 1195, 1196, 1197, 1198, 748, 749, 750, 751, 216, 217, 752, 753, 754, 755, 111, 112, 114, 120, 122, 124, 127, 129, 136, 138, 756, 757] (by decide +kernel)
set_option maxRecDepth 20000 in
theorem vsL_in_10 : ∀ w ∈ vsL_10, w ∈ lw_tbl := z_inP _ [758, 759, 959, 960, 961, 962, 802, 931, 933, 7, 934, 804, 803, 779, 780, 781, 782, 783, 784, 785, 786, 935, 937, 8, 938, 801, 939, 941, 9, 942, 760, 761, 762, 763, 963, 964, 965, 966, 764, 765] (by decide +kernel)
set_option maxRecDepth 20000 in
theorem vsL_in_11 : ∀ w ∈ vsL_11, w ∈ lw_tbl := z_inP _ [766, 767, 119, 92, 768, 769, 770, 771, 1214, 1215, 1216, 1217, 1218, 1220, 46, 1221, 66, 67, 68, 69, 70, 73, 165, 51, 168, 218, 189, 201, 204, 74, 75, 76, 78, 81, 82, 83, 169, 170, 171, 174] (by decide +kernel)
set_option maxRecDepth 20000 in
theorem vsL_in_12 : ∀ w ∈ vsL_12, w ∈ lw_tbl := z_inP _ [188, 186, 190, 192, 175, 176, 177, 205, 206, 776, 777, 795, 796, 797, 805, 807, 811, 812] (by decide +kernel)
theorem vsLw_in : ∀ w ∈ vsLw, w ∈ lw_tbl := List.forall_mem_append.mpr ⟨vsL_in_0, List.forall_mem_append.mpr ⟨vsL_in_1, List.forall_mem_append.mpr ⟨vsL_in_2, List.forall_mem_append.mpr ⟨vsL_in_3, List.forall_mem_append.mpr ⟨vsL_in_4, List.forall_mem_append.mpr ⟨vsL_in_5, List.forall_mem_append.mpr ⟨vsL_in_6, List.forall_mem_append.mpr ⟨vsL_in_7, List.forall_mem_append.mpr ⟨vsL_in_8, List.forall_mem_append.mpr ⟨vsL_in_9, List.forall_mem_append.mpr ⟨vsL_in_10, List.forall_mem_append.mpr ⟨vsL_in_11, vsL_in_12⟩⟩⟩⟩⟩⟩⟩⟩⟩⟩⟩⟩
set_option maxRecDepth 20000 in
theorem vsLc_in_0 : ∀ w ∈ wsX00, w ∈ lw_tbl := z_inP _ [327] (by decide +kernel)
set_option maxRecDepth 20000 in
theorem vsLc_in_1 : ∀ w ∈ wsX10, w ∈ lw_tbl := z_inP _ [344] (by decide +kernel)
set_option maxRecDepth 20000 in
theorem vsLc_in_2 : ∀ w ∈ wsX20, w ∈ lw_tbl := z_inP _ [194, 196, 198] (by decide +kernel)
set_option maxRecDepth 20000 in
theorem vsLc_in_3 : ∀ w ∈ wsX30, w ∈ lw_tbl := z_inP _ [360] (by decide +kernel)
set_option maxRecDepth 20000 in
theorem vsLc_in_4 : ∀ w ∈ wsX40, w ∈ lw_tbl := z_inP _ [210, 212] (by decide +kernel)
set_option maxRecDepth 20000 in
theorem vsLc_in_5 : ∀ w ∈ wsX50, w ∈ lw_tbl := z_inP _ [181, 183] (by decide +kernel)
set_option maxRecDepth 20000 in
theorem vsLc_in_6 : ∀ w ∈ wsX60, w ∈ lw_tbl := z_inP _ [365] (by decide +kernel)
set_option maxRecDepth 20000 in
theorem vsLc_in_7 : ∀ w ∈ wsX70, w ∈ lw_tbl := z_inP _ [140, 142, 144, 146, 148, 150, 152, 154, 156, 158, 160, 162] (by decide +kernel)
set_option maxRecDepth 20000 in
theorem vsLc_in_8 : ∀ w ∈ wsX80, w ∈ lw_tbl := z_inP _ [336] (by decide +kernel)
set_option maxRecDepth 20000 in
theorem vsLc_in_9 : ∀ w ∈ wsX90, w ∈ lw_tbl := z_inP _ [99, 101, 103, 105, 107] (by decide +kernel)
set_option maxRecDepth 20000 in
theorem vsLc_in_10 : ∀ w ∈ wsX100, w ∈ lw_tbl := z_inP _ [352] (by decide +kernel)
set_option maxRecDepth 20000 in
theorem vsLc_in_11 : ∀ w ∈ wsX110, w ∈ lw_tbl := z_inP _ [224, 226, 228, 230, 232, 234, 236, 238, 240] (by decide +kernel)
set_option maxRecDepth 20000 in
theorem vsLc_in_12 : ∀ w ∈ wsX120, w ∈ lw_tbl := z_inP _ [816, 818, 820, 822, 824, 826, 828, 830, 832, 834, 836, 838, 840, 842, 844, 846, 848, 850, 852, 854, 856, 858, 860, 862, 864, 866, 868, 870, 872, 874, 876, 878, 880, 882, 884, 886, 888, 890] (by decide +kernel)
theorem vsLc_in : ∀ w ∈ vsLc, w ∈ lw_tbl := List.forall_mem_append.mpr ⟨vsLc_in_0, List.forall_mem_append.mpr ⟨vsLc_in_1, List.forall_mem_append.mpr ⟨vsLc_in_2, List.forall_mem_append.mpr ⟨vsLc_in_3, List.forall_mem_append.mpr ⟨vsLc_in_4, List.forall_mem_append.mpr ⟨vsLc_in_5, List.forall_mem_append.mpr ⟨vsLc_in_6, List.forall_mem_append.mpr ⟨vsLc_in_7, List.forall_mem_append.mpr ⟨vsLc_in_8, List.forall_mem_append.mpr ⟨vsLc_in_9, List.forall_mem_append.mpr ⟨vsLc_in_10, List.forall_mem_append.mpr ⟨vsLc_in_11, vsLc_in_12⟩⟩⟩⟩⟩⟩⟩⟩⟩⟩⟩⟩
theorem vsL_in : ∀ w ∈ vsL, w ∈ lw_tbl := List.forall_mem_append.mpr ⟨vsLw_in, vsLc_in⟩
theorem inlX0 : ∀ w ∈ wsX00, w ∈ vsL := fun _ h => List.mem_append_right _ (List.mem_append_left _ h)
theorem inlX1 : ∀ w ∈ wsX10, w ∈ vsL := fun _ h => List.mem_append_right _ (List.mem_append_right _ (List.mem_append_left _ h))
theorem inlX2 : ∀ w ∈ wsX20, w ∈ vsL := fun _ h => List.mem_append_right _ (List.mem_append_right _ (List.mem_append_right _ (List.mem_append_left _ h)))
theorem inlX3 : ∀ w ∈ wsX30, w ∈ vsL := fun _ h => List.mem_append_right _ (List.mem_append_right _ (List.mem_append_right _ (List.mem_append_right _ (List.mem_append_left _ h))))
theorem inlX4 : ∀ w ∈ wsX40, w ∈ vsL := fun _ h => List.mem_append_right _ (List.mem_append_right _ (List.mem_append_right _ (List.mem_append_right _ (List.mem_append_right _ (List.mem_append_left _ h)))))
theorem inlX5 : ∀ w ∈ wsX50, w ∈ vsL := fun _ h => List.mem_append_right _ (List.mem_append_right _ (List.mem_append_right _ (List.mem_append_right _ (List.mem_append_right _ (List.mem_append_right _ (List.mem_append_left _ h))))))
theorem inlX6 : ∀ w ∈ wsX60, w ∈ vsL := fun _ h => List.mem_append_right _ (List.mem_append_right _ (List.mem_append_right _ (List.mem_append_right _ (List.mem_append_right _ (List.mem_append_right _ (List.mem_append_right _ (List.mem_append_left _ h)))))))
theorem inlX7 : ∀ w ∈ wsX70, w ∈ vsL := fun _ h => List.mem_append_right _ (List.mem_append_right _ (List.mem_append_right _ (List.mem_append_right _ (List.mem_append_right _ (List.mem_append_right _ (List.mem_append_right _ (List.mem_append_right _ (List.mem_append_left _ h))))))))
theorem inlX8 : ∀ w ∈ wsX80, w ∈ vsL := fun _ h => List.mem_append_right _ (List.mem_append_right _ (List.mem_append_right _ (List.mem_append_right _ (List.mem_append_right _ (List.mem_append_right _ (List.mem_append_right _ (List.mem_append_right _ (List.mem_append_right _ (List.mem_append_left _ h)))))))))
theorem inlX9 : ∀ w ∈ wsX90, w ∈ vsL := fun _ h => List.mem_append_right _ (List.mem_append_right _ (List.mem_append_right _ (List.mem_append_right _ (List.mem_append_right _ (List.mem_append_right _ (List.mem_append_right _ (List.mem_append_right _ (List.mem_append_right _ (List.mem_append_right _ (List.mem_append_left _ h))))))))))
theorem inlX10 : ∀ w ∈ wsX100, w ∈ vsL := fun _ h => List.mem_append_right _ (List.mem_append_right _ (List.mem_append_right _ (List.mem_append_right _ (List.mem_append_right _ (List.mem_append_right _ (List.mem_append_right _ (List.mem_append_right _ (List.mem_append_right _ (List.mem_append_right _ (List.mem_append_right _ (List.mem_append_left _ h)))))))))))
theorem inlX11 : ∀ w ∈ wsX110, w ∈ vsL := fun _ h => List.mem_append_right _ (List.mem_append_right _ (List.mem_append_right _ (List.mem_append_right _ (List.mem_append_right _ (List.mem_append_right _ (List.mem_append_right _ (List.mem_append_right _ (List.mem_append_right _ (List.mem_append_right _ (List.mem_append_right _ (List.mem_append_right _ (List.mem_append_left _ h))))))))))))
theorem inlX12 : ∀ w ∈ wsX120, w ∈ vsL := fun _ h => List.mem_append_right _ (List.mem_append_right _ (List.mem_append_right _ (List.mem_append_right _ (List.mem_append_right _ (List.mem_append_right _ (List.mem_append_right _ (List.mem_append_right _ (List.mem_append_right _ (List.mem_append_right _ (List.mem_append_right _ (List.mem_append_right _ (List.mem_append_right _ (h)))))))))))))
set_option maxRecDepth 20000 in
theorem gw_L_law_X11_feed : GoodIn vsL vsX11_feed := goodIn_r _ [25, 26, 27, 28, 29, 30, 15, 31, 32, 33, 34, 35, 36, 37, 38, 39, 504, 505, 528, 529, 530, 531, 532, 533, 534, 535, 536] (by decide +kernel) (by decide +kernel)
set_option maxRecDepth 20000 in
theorem gv_L_law_X11_feed_13 : GoodIn vsL (wsV RL 13 RX11 yX11_feed vsX11_feed) := goodIn_app (goodIn_of _ (by decide +kernel)) gw_L_law_X11_feed
set_option maxRecDepth 20000 in
theorem gw_L_law_X12_feed : GoodIn vsL vsX12_feed := goodIn_r _ [43, 44, 45, 46, 47, 19, 48, 49, 50, 51, 52, 53, 537, 538, 539, 540, 541, 542, 543, 544, 545, 546, 547, 548, 549, 550, 551, 552, 553, 554, 555, 556, 557, 558, 559, 560, 561, 562, 563, 564, 565, 566, 567, 568, 569, 570, 571, 572, 573, 574] (by decide +kernel) (by decide +kernel)
set_option maxRecDepth 20000 in
theorem gv_L_law_X12_feed_17 : GoodIn vsL (wsV RL 17 RX12 yX12_feed vsX12_feed) := goodIn_app (goodIn_of _ (by decide +kernel)) gw_L_law_X12_feed
set_option maxRecDepth 20000 in
theorem gw_L_law_X11_piece : GoodIn vsL vsX11_piece := goodIn_r _ [57, 26, 58, 27, 59, 60, 61, 36, 62, 63, 64, 65, 66, 38, 504, 505, 528, 529, 530, 531, 532, 533, 534, 535, 536] (by decide +kernel) (by decide +kernel)
set_option maxRecDepth 20000 in
theorem gv_L_law_X11_piece_18 : GoodIn vsL (wsV RL 18 RX11 yX11_piece vsX11_piece) := goodIn_app (goodIn_of _ (by decide +kernel)) gw_L_law_X11_piece
set_option maxRecDepth 20000 in
theorem gw_L_law_X12_piece : GoodIn vsL vsX12_piece := goodIn_r _ [70, 71, 72, 44, 73, 74, 75, 19, 76, 77, 78, 79, 80, 537, 538, 539, 540, 541, 542, 543, 544, 545, 546, 547, 548, 549, 550, 551, 552, 553, 554, 555, 556, 557, 558, 559, 560, 561, 562, 563, 564, 565, 566, 567, 568, 569, 570, 571, 572, 573, 574] (by decide +kernel) (by decide +kernel)
set_option maxRecDepth 20000 in
theorem gv_L_law_X12_piece_22 : GoodIn vsL (wsV RL 22 RX12 yX12_piece vsX12_piece) := goodIn_app (goodIn_of _ (by decide +kernel)) gw_L_law_X12_piece
set_option maxRecDepth 20000 in
theorem gw_L_law_X11_player : GoodIn vsL vsX11_player := goodIn_r _ [84, 58, 85, 86, 87, 88, 89, 90, 28, 29, 30, 15, 31, 32, 509, 510, 511, 512, 513, 514, 515, 516, 517, 518, 519, 520, 528, 529, 530, 531, 532, 533, 534, 535, 536] (by decide +kernel) (by decide +kernel)
set_option maxRecDepth 20000 in
theorem gv_L_law_X11_player_23 : GoodIn vsL (wsV RL 23 RX11 yX11_player vsX11_player) := goodIn_app (goodIn_of _ (by decide +kernel)) gw_L_law_X11_player
set_option maxRecDepth 20000 in
theorem gw_L_law_X12_player : GoodIn vsL vsX12_player := goodIn_r _ [94, 95, 96, 97, 19, 98, 99, 49, 50, 51, 52, 53, 537, 538, 539, 540, 541, 542, 543, 544, 545, 546, 547, 548, 549, 550, 551, 552, 553, 554, 555, 556, 557, 558, 559, 560, 561, 562, 563, 564, 565, 566, 567, 568, 569, 570, 571, 572, 573, 574] (by decide +kernel) (by decide +kernel)
set_option maxRecDepth 20000 in
theorem gv_L_law_X12_player_27 : GoodIn vsL (wsV RL 27 RX12 yX12_player vsX12_player) := goodIn_app (goodIn_of _ (by decide +kernel)) gw_L_law_X12_player
set_option maxRecDepth 20000 in
theorem gw_L_law_X11_line : GoodIn vsL vsX11_line := goodIn_r _ [103, 58, 104, 105, 106, 88, 107, 108, 28, 29, 30, 15, 31, 32, 509, 510, 511, 512, 513, 514, 515, 516, 517, 518, 519, 520, 528, 529, 530, 531, 532, 533, 534, 535, 536] (by decide +kernel) (by decide +kernel)
set_option maxRecDepth 20000 in
theorem gv_L_law_X11_line_28 : GoodIn vsL (wsV RL 28 RX11 yX11_line vsX11_line) := goodIn_app (goodIn_of _ (by decide +kernel)) gw_L_law_X11_line
set_option maxRecDepth 20000 in
theorem gw_L_law_X12_line : GoodIn vsL vsX12_line := goodIn_r _ [112, 113, 114, 115, 19, 116, 117, 49, 50, 51, 52, 53, 537, 538, 539, 540, 541, 542, 543, 544, 545, 546, 547, 548, 549, 550, 551, 552, 553, 554, 555, 556, 557, 558, 559, 560, 561, 562, 563, 564, 565, 566, 567, 568, 569, 570, 571, 572, 573, 574] (by decide +kernel) (by decide +kernel)
set_option maxRecDepth 20000 in
theorem gv_L_law_X12_line_31 : GoodIn vsL (wsV RL 31 RX12 yX12_line vsX12_line) := goodIn_app (goodIn_of _ (by decide +kernel)) gw_L_law_X12_line
set_option maxRecDepth 20000 in
theorem gw_L_law_X11_cue : GoodIn vsL vsX11_cue := goodIn_r _ [121, 58, 104, 105, 106, 88, 107, 108, 28, 29, 30, 15, 31, 32, 509, 510, 511, 512, 513, 514, 515, 516, 517, 518, 519, 520, 528, 529, 530, 531, 532, 533, 534, 535, 536] (by decide +kernel) (by decide +kernel)
set_option maxRecDepth 20000 in
theorem gv_L_law_X11_cue_32 : GoodIn vsL (wsV RL 32 RX11 yX11_cue vsX11_cue) := goodIn_app (goodIn_of _ (by decide +kernel)) gw_L_law_X11_cue
set_option maxRecDepth 20000 in
theorem gw_L_law_X12_cue : GoodIn vsL vsX12_cue := goodIn_r _ [125, 113, 114, 115, 19, 116, 117, 49, 50, 51, 52, 53, 537, 538, 539, 540, 541, 542, 543, 544, 545, 546, 547, 548, 549, 550, 551, 552, 553, 554, 555, 556, 557, 558, 559, 560, 561, 562, 563, 564, 565, 566, 567, 568, 569, 570, 571, 572, 573, 574] (by decide +kernel) (by decide +kernel)
set_option maxRecDepth 20000 in
theorem gv_L_law_X12_cue_35 : GoodIn vsL (wsV RL 35 RX12 yX12_cue vsX12_cue) := goodIn_app (goodIn_of _ (by decide +kernel)) gw_L_law_X12_cue
set_option maxRecDepth 20000 in
theorem gw_L_law_X11_speed : GoodIn vsL vsX11_speed := goodIn_r _ [129, 58, 85, 86, 87, 88, 89, 90, 28, 29, 30, 15, 31, 32, 509, 510, 511, 512, 513, 514, 515, 516, 517, 518, 519, 520, 528, 529, 530, 531, 532, 533, 534, 535, 536] (by decide +kernel) (by decide +kernel)
set_option maxRecDepth 20000 in
theorem gv_L_law_X11_speed_36 : GoodIn vsL (wsV RL 36 RX11 yX11_speed vsX11_speed) := goodIn_app (goodIn_of _ (by decide +kernel)) gw_L_law_X11_speed
set_option maxRecDepth 20000 in
theorem gw_L_law_X12_speed : GoodIn vsL vsX12_speed := goodIn_r _ [133, 95, 96, 97, 19, 98, 99, 49, 50, 51, 52, 53, 537, 538, 539, 540, 541, 542, 543, 544, 545, 546, 547, 548, 549, 550, 551, 552, 553, 554, 555, 556, 557, 558, 559, 560, 561, 562, 563, 564, 565, 566, 567, 568, 569, 570, 571, 572, 573, 574] (by decide +kernel) (by decide +kernel)
set_option maxRecDepth 20000 in
theorem gv_L_law_X12_speed_39 : GoodIn vsL (wsV RL 39 RX12 yX12_speed vsX12_speed) := goodIn_app (goodIn_of _ (by decide +kernel)) gw_L_law_X12_speed
set_option maxRecDepth 20000 in
theorem gw_L_law_X11_lose : GoodIn vsL vsX11_lose := goodIn_r _ [137, 58, 138, 28, 29, 30, 15, 31, 32, 509, 510, 511, 512, 513, 514, 515, 516, 517, 518, 519, 520, 528, 529, 530, 531, 532, 533, 534, 535, 536] (by decide +kernel) (by decide +kernel)
set_option maxRecDepth 20000 in
theorem gv_L_law_X11_lose_40 : GoodIn vsL (wsV RL 40 RX11 yX11_lose vsX11_lose) := goodIn_app (goodIn_of _ (by decide +kernel)) gw_L_law_X11_lose
set_option maxRecDepth 20000 in
theorem gw_L_law_X12_lose : GoodIn vsL vsX12_lose := goodIn_r _ [142, 143, 46, 47, 19, 48, 49, 50, 51, 52, 53, 537, 538, 539, 540, 541, 542, 543, 544, 545, 546, 547, 548, 549, 550, 551, 552, 553, 554, 555, 556, 557, 558, 559, 560, 561, 562, 563, 564, 565, 566, 567, 568, 569, 570, 571, 572, 573, 574] (by decide +kernel) (by decide +kernel)
set_option maxRecDepth 20000 in
theorem gv_L_law_X12_lose_43 : GoodIn vsL (wsV RL 43 RX12 yX12_lose vsX12_lose) := goodIn_app (goodIn_of _ (by decide +kernel)) gw_L_law_X12_lose
set_option maxRecDepth 20000 in
theorem gw_L_law_X11_comes : GoodIn vsL vsX11_comes := goodIn_r _ [147, 58, 85, 86, 87, 88, 89, 90, 28, 29, 30, 15, 31, 32, 509, 510, 511, 512, 513, 514, 515, 516, 517, 518, 519, 520, 528, 529, 530, 531, 532, 533, 534, 535, 536] (by decide +kernel) (by decide +kernel)
set_option maxRecDepth 20000 in
theorem gv_L_law_X11_comes_44 : GoodIn vsL (wsV RL 44 RX11 yX11_comes vsX11_comes) := goodIn_app (goodIn_of _ (by decide +kernel)) gw_L_law_X11_comes
set_option maxRecDepth 20000 in
theorem gw_L_law_X12_comes : GoodIn vsL vsX12_comes := goodIn_r _ [151, 95, 96, 97, 19, 98, 99, 49, 50, 51, 52, 53, 537, 538, 539, 540, 541, 542, 543, 544, 545, 546, 547, 548, 549, 550, 551, 552, 553, 554, 555, 556, 557, 558, 559, 560, 561, 562, 563, 564, 565, 566, 567, 568, 569, 570, 571, 572, 573, 574] (by decide +kernel) (by decide +kernel)
set_option maxRecDepth 20000 in
theorem gv_L_law_X12_comes_47 : GoodIn vsL (wsV RL 47 RX12 yX12_comes vsX12_comes) := goodIn_app (goodIn_of _ (by decide +kernel)) gw_L_law_X12_comes
set_option maxRecDepth 20000 in
theorem gw_L_law_X11_say : GoodIn vsL vsX11_say := goodIn_r _ [155, 58, 156, 28, 29, 30, 15, 31, 32, 509, 510, 511, 512, 513, 514, 515, 516, 517, 518, 519, 520, 528, 529, 530, 531, 532, 533, 534, 535, 536] (by decide +kernel) (by decide +kernel)
set_option maxRecDepth 20000 in
theorem gv_L_law_X11_say_48 : GoodIn vsL (wsV RL 48 RX11 yX11_say vsX11_say) := goodIn_app (goodIn_of _ (by decide +kernel)) gw_L_law_X11_say
set_option maxRecDepth 20000 in
theorem gw_L_law_X12_say : GoodIn vsL vsX12_say := goodIn_r _ [160, 117, 49, 50, 51, 19, 52, 53, 537, 538, 539, 540, 541, 542, 543, 544, 545, 546, 547, 548, 549, 550, 551, 552, 553, 554, 555, 556, 557, 558, 559, 560, 561, 562, 563, 564, 565, 566, 567, 568, 569, 570, 571, 572, 573, 574] (by decide +kernel) (by decide +kernel)
set_option maxRecDepth 20000 in
theorem gv_L_law_X12_say_51 : GoodIn vsL (wsV RL 51 RX12 yX12_say vsX12_say) := goodIn_app (goodIn_of _ (by decide +kernel)) gw_L_law_X12_say
set_option maxRecDepth 20000 in
theorem gw_L_law_X11_again : GoodIn vsL vsX11_again := goodIn_r _ [164, 58, 165, 166, 167, 168, 169, 170, 171, 172, 173, 174, 175, 176, 509, 510, 511, 512, 513, 514, 515, 516, 517, 518, 519, 520, 522, 523, 524, 525, 526, 528, 529, 530, 531, 532, 533, 534, 535, 536] (by decide +kernel) (by decide +kernel)
set_option maxRecDepth 20000 in
theorem gv_L_law_X11_again_52 : GoodIn vsL (wsV RL 52 RX11 yX11_again vsX11_again) := goodIn_app (goodIn_of _ (by decide +kernel)) gw_L_law_X11_again
set_option maxRecDepth 20000 in
theorem gw_L_law_X12_again : GoodIn vsL vsX12_again := goodIn_r _ [180, 181, 182, 183, 184, 19, 185, 186, 187, 188, 537, 538, 539, 540, 541, 542, 543, 544, 545, 546, 547, 548, 549, 550, 551, 552, 553, 554, 555, 556, 557, 558, 559, 560, 561, 562, 563, 564, 565, 566, 567, 568, 569, 570, 571, 572, 573, 574] (by decide +kernel) (by decide +kernel)
set_option maxRecDepth 20000 in
theorem gv_L_law_X12_again_55 : GoodIn vsL (wsV RL 55 RX12 yX12_again vsX12_again) := goodIn_app (goodIn_of _ (by decide +kernel)) gw_L_law_X12_again
set_option maxRecDepth 20000 in
theorem gw_L_law_X11_night : GoodIn vsL vsX11_night := goodIn_r _ [192, 58, 156, 28, 29, 30, 15, 31, 32, 509, 510, 511, 512, 513, 514, 515, 516, 517, 518, 519, 520, 528, 529, 530, 531, 532, 533, 534, 535, 536] (by decide +kernel) (by decide +kernel)
set_option maxRecDepth 20000 in
theorem gv_L_law_X11_night_56 : GoodIn vsL (wsV RL 56 RX11 yX11_night vsX11_night) := goodIn_app (goodIn_of _ (by decide +kernel)) gw_L_law_X11_night
set_option maxRecDepth 20000 in
theorem gw_L_law_X12_night : GoodIn vsL vsX12_night := goodIn_r _ [196, 117, 49, 50, 51, 19, 52, 53, 537, 538, 539, 540, 541, 542, 543, 544, 545, 546, 547, 548, 549, 550, 551, 552, 553, 554, 555, 556, 557, 558, 559, 560, 561, 562, 563, 564, 565, 566, 567, 568, 569, 570, 571, 572, 573, 574] (by decide +kernel) (by decide +kernel)
set_option maxRecDepth 20000 in
theorem gv_L_law_X12_night_59 : GoodIn vsL (wsV RL 59 RX12 yX12_night vsX12_night) := goodIn_app (goodIn_of _ (by decide +kernel)) gw_L_law_X12_night
set_option maxRecDepth 20000 in
theorem gw_L_law_X11_goes : GoodIn vsL vsX11_goes := goodIn_r _ [200, 58, 156, 28, 29, 30, 15, 31, 32, 509, 510, 511, 512, 513, 514, 515, 516, 517, 518, 519, 520, 528, 529, 530, 531, 532, 533, 534, 535, 536] (by decide +kernel) (by decide +kernel)
set_option maxRecDepth 20000 in
theorem gv_L_law_X11_goes_60 : GoodIn vsL (wsV RL 60 RX11 yX11_goes vsX11_goes) := goodIn_app (goodIn_of _ (by decide +kernel)) gw_L_law_X11_goes
set_option maxRecDepth 20000 in
theorem gw_L_law_X12_goes : GoodIn vsL vsX12_goes := goodIn_r _ [204, 117, 205, 206, 19, 207, 49, 50, 51, 52, 53, 537, 538, 539, 540, 541, 542, 543, 544, 545, 546, 547, 548, 549, 550, 551, 552, 553, 554, 555, 556, 557, 558, 559, 560, 561, 562, 563, 564, 565, 566, 567, 568, 569, 570, 571, 572, 573, 574] (by decide +kernel) (by decide +kernel)
set_option maxRecDepth 20000 in
theorem gv_L_law_X12_goes_63 : GoodIn vsL (wsV RL 63 RX12 yX12_goes vsX12_goes) := goodIn_app (goodIn_of _ (by decide +kernel)) gw_L_law_X12_goes
set_option maxRecDepth 20000 in
theorem gw_L_law_X11_follow : GoodIn vsL vsX11_follow := goodIn_r _ [211, 58, 104, 105, 106, 88, 107, 108, 28, 29, 30, 15, 31, 32, 509, 510, 511, 512, 513, 514, 515, 516, 517, 518, 519, 520, 528, 529, 530, 531, 532, 533, 534, 535, 536] (by decide +kernel) (by decide +kernel)
set_option maxRecDepth 20000 in
theorem gv_L_law_X11_follow_64 : GoodIn vsL (wsV RL 64 RX11 yX11_follow vsX11_follow) := goodIn_app (goodIn_of _ (by decide +kernel)) gw_L_law_X11_follow
set_option maxRecDepth 20000 in
theorem gw_L_law_X12_follow : GoodIn vsL vsX12_follow := goodIn_r _ [215, 113, 114, 115, 19, 116, 117, 49, 50, 51, 52, 53, 537, 538, 539, 540, 541, 542, 543, 544, 545, 546, 547, 548, 549, 550, 551, 552, 553, 554, 555, 556, 557, 558, 559, 560, 561, 562, 563, 564, 565, 566, 567, 568, 569, 570, 571, 572, 573, 574] (by decide +kernel) (by decide +kernel)
set_option maxRecDepth 20000 in
theorem gv_L_law_X12_follow_67 : GoodIn vsL (wsV RL 67 RX12 yX12_follow vsX12_follow) := goodIn_app (goodIn_of _ (by decide +kernel)) gw_L_law_X12_follow
set_option maxRecDepth 20000 in
theorem gw_L_law_X11_net : GoodIn vsL vsX11_net := goodIn_r _ [219, 58, 156, 28, 29, 30, 15, 31, 32, 509, 510, 511, 512, 513, 514, 515, 516, 517, 518, 519, 520, 528, 529, 530, 531, 532, 533, 534, 535, 536] (by decide +kernel) (by decide +kernel)
set_option maxRecDepth 20000 in
theorem gv_L_law_X11_net_68 : GoodIn vsL (wsV RL 68 RX11 yX11_net vsX11_net) := goodIn_app (goodIn_of _ (by decide +kernel)) gw_L_law_X11_net
set_option maxRecDepth 20000 in
theorem gw_L_law_X12_net : GoodIn vsL vsX12_net := goodIn_r _ [223, 117, 205, 206, 19, 207, 49, 50, 51, 52, 53, 537, 538, 539, 540, 541, 542, 543, 544, 545, 546, 547, 548, 549, 550, 551, 552, 553, 554, 555, 556, 557, 558, 559, 560, 561, 562, 563, 564, 565, 566, 567, 568, 569, 570, 571, 572, 573, 574] (by decide +kernel) (by decide +kernel)
set_option maxRecDepth 20000 in
theorem gv_L_law_X12_net_71 : GoodIn vsL (wsV RL 71 RX12 yX12_net vsX12_net) := goodIn_app (goodIn_of _ (by decide +kernel)) gw_L_law_X12_net
set_option maxRecDepth 20000 in
theorem gw_L_law_X11_mend : GoodIn vsL vsX11_mend := goodIn_r _ [227, 58, 156, 28, 29, 30, 15, 31, 32, 509, 510, 511, 512, 513, 514, 515, 516, 517, 518, 519, 520, 528, 529, 530, 531, 532, 533, 534, 535, 536] (by decide +kernel) (by decide +kernel)
set_option maxRecDepth 20000 in
theorem gv_L_law_X11_mend_72 : GoodIn vsL (wsV RL 72 RX11 yX11_mend vsX11_mend) := goodIn_app (goodIn_of _ (by decide +kernel)) gw_L_law_X11_mend
set_option maxRecDepth 20000 in
theorem gw_L_law_X12_mend : GoodIn vsL vsX12_mend := goodIn_r _ [231, 117, 49, 50, 51, 19, 52, 53, 537, 538, 539, 540, 541, 542, 543, 544, 545, 546, 547, 548, 549, 550, 551, 552, 553, 554, 555, 556, 557, 558, 559, 560, 561, 562, 563, 564, 565, 566, 567, 568, 569, 570, 571, 572, 573, 574] (by decide +kernel) (by decide +kernel)
set_option maxRecDepth 20000 in
theorem gv_L_law_X12_mend_75 : GoodIn vsL (wsV RL 75 RX12 yX12_mend vsX12_mend) := goodIn_app (goodIn_of _ (by decide +kernel)) gw_L_law_X12_mend
set_option maxRecDepth 20000 in
theorem gw_L_law_X11_mendOf : GoodIn vsL vsX11_mendOf := goodIn_r _ [235, 58, 104, 105, 106, 88, 107, 108, 28, 29, 30, 15, 31, 32, 509, 510, 511, 512, 513, 514, 515, 516, 517, 518, 519, 520, 528, 529, 530, 531, 532, 533, 534, 535, 536] (by decide +kernel) (by decide +kernel)
set_option maxRecDepth 20000 in
theorem gv_L_law_X11_mendOf_76 : GoodIn vsL (wsV RL 76 RX11 yX11_mendOf vsX11_mendOf) := goodIn_app (goodIn_of _ (by decide +kernel)) gw_L_law_X11_mendOf
set_option maxRecDepth 20000 in
theorem gw_L_law_X12_mendOf : GoodIn vsL vsX12_mendOf := goodIn_r _ [239, 113, 114, 115, 19, 116, 117, 49, 50, 51, 52, 53, 537, 538, 539, 540, 541, 542, 543, 544, 545, 546, 547, 548, 549, 550, 551, 552, 553, 554, 555, 556, 557, 558, 559, 560, 561, 562, 563, 564, 565, 566, 567, 568, 569, 570, 571, 572, 573, 574] (by decide +kernel) (by decide +kernel)
set_option maxRecDepth 20000 in
theorem gv_L_law_X12_mendOf_79 : GoodIn vsL (wsV RL 79 RX12 yX12_mendOf vsX12_mendOf) := goodIn_app (goodIn_of _ (by decide +kernel)) gw_L_law_X12_mendOf
set_option maxRecDepth 20000 in
theorem gw_L_law_X11_prompted : GoodIn vsL vsX11_prompted := goodIn_r _ [243, 58, 156, 28, 29, 30, 15, 31, 32, 509, 510, 511, 512, 513, 514, 515, 516, 517, 518, 519, 520, 528, 529, 530, 531, 532, 533, 534, 535, 536] (by decide +kernel) (by decide +kernel)
set_option maxRecDepth 20000 in
theorem gv_L_law_X11_prompted_80 : GoodIn vsL (wsV RL 80 RX11 yX11_prompted vsX11_prompted) := goodIn_app (goodIn_of _ (by decide +kernel)) gw_L_law_X11_prompted
set_option maxRecDepth 20000 in
theorem gw_L_law_X12_prompted : GoodIn vsL vsX12_prompted := goodIn_r _ [247, 117, 49, 50, 51, 19, 52, 53, 537, 538, 539, 540, 541, 542, 543, 544, 545, 546, 547, 548, 549, 550, 551, 552, 553, 554, 555, 556, 557, 558, 559, 560, 561, 562, 563, 564, 565, 566, 567, 568, 569, 570, 571, 572, 573, 574] (by decide +kernel) (by decide +kernel)
set_option maxRecDepth 20000 in
theorem gv_L_law_X12_prompted_83 : GoodIn vsL (wsV RL 83 RX12 yX12_prompted vsX12_prompted) := goodIn_app (goodIn_of _ (by decide +kernel)) gw_L_law_X12_prompted
set_option maxRecDepth 20000 in
theorem gw_L_law_X11_home : GoodIn vsL vsX11_home := goodIn_r _ [251, 252, 58, 156, 28, 29, 30, 15, 31, 32, 509, 510, 511, 512, 513, 514, 515, 516, 517, 518, 519, 520, 528, 529, 530, 531, 532, 533, 534, 535, 536] (by decide +kernel) (by decide +kernel)
set_option maxRecDepth 20000 in
theorem gv_L_law_X11_home_84 : GoodIn vsL (wsV RL 84 RX11 yX11_home vsX11_home) := goodIn_app (goodIn_of _ (by decide +kernel)) gw_L_law_X11_home
set_option maxRecDepth 20000 in
theorem gw_L_law_X12_home : GoodIn vsL vsX12_home := goodIn_r _ [256, 117, 205, 206, 19, 207, 257, 258, 259, 260, 53, 261, 537, 538, 539, 540, 541, 542, 543, 544, 545, 546, 547, 548, 549, 550, 551, 552, 553, 554, 555, 556, 557, 558, 559, 560, 561, 562, 563, 564, 565, 566, 567, 568, 569, 570, 571, 572, 573, 574] (by decide +kernel) (by decide +kernel)
set_option maxRecDepth 20000 in
theorem gv_L_law_X12_home_88 : GoodIn vsL (wsV RL 88 RX12 yX12_home vsX12_home) := goodIn_app (goodIn_of _ (by decide +kernel)) gw_L_law_X12_home
set_option maxRecDepth 20000 in
theorem gw_L_law_X11_without : GoodIn vsL vsX11_without := goodIn_r _ [265, 58, 85, 86, 87, 88, 89, 90, 28, 29, 30, 15, 31, 32, 509, 510, 511, 512, 513, 514, 515, 516, 517, 518, 519, 520, 528, 529, 530, 531, 532, 533, 534, 535, 536] (by decide +kernel) (by decide +kernel)
set_option maxRecDepth 20000 in
theorem gv_L_law_X11_without_89 : GoodIn vsL (wsV RL 89 RX11 yX11_without vsX11_without) := goodIn_app (goodIn_of _ (by decide +kernel)) gw_L_law_X11_without
set_option maxRecDepth 20000 in
theorem gw_L_law_X12_without : GoodIn vsL vsX12_without := goodIn_r _ [269, 95, 96, 97, 19, 98, 99, 49, 50, 51, 52, 53, 537, 538, 539, 540, 541, 542, 543, 544, 545, 546, 547, 548, 549, 550, 551, 552, 553, 554, 555, 556, 557, 558, 559, 560, 561, 562, 563, 564, 565, 566, 567, 568, 569, 570, 571, 572, 573, 574] (by decide +kernel) (by decide +kernel)
set_option maxRecDepth 20000 in
theorem gv_L_law_X12_without_92 : GoodIn vsL (wsV RL 92 RX12 yX12_without vsX12_without) := goodIn_app (goodIn_of _ (by decide +kernel)) gw_L_law_X12_without
set_option maxRecDepth 20000 in
theorem gw_L_law_X11_leastHarm : GoodIn vsL vsX11_leastHarm := goodIn_r _ [273, 58, 156, 28, 29, 30, 15, 31, 32, 509, 510, 511, 512, 513, 514, 515, 516, 517, 518, 519, 520, 528, 529, 530, 531, 532, 533, 534, 535, 536] (by decide +kernel) (by decide +kernel)
set_option maxRecDepth 20000 in
theorem gv_L_law_X11_leastHarm_93 : GoodIn vsL (wsV RL 93 RX11 yX11_leastHarm vsX11_leastHarm) := goodIn_app (goodIn_of _ (by decide +kernel)) gw_L_law_X11_leastHarm
set_option maxRecDepth 20000 in
theorem gw_L_law_X12_leastHarm : GoodIn vsL vsX12_leastHarm := goodIn_r _ [277, 117, 49, 50, 51, 19, 52, 53, 537, 538, 539, 540, 541, 542, 543, 544, 545, 546, 547, 548, 549, 550, 551, 552, 553, 554, 555, 556, 557, 558, 559, 560, 561, 562, 563, 564, 565, 566, 567, 568, 569, 570, 571, 572, 573, 574] (by decide +kernel) (by decide +kernel)
set_option maxRecDepth 20000 in
theorem gv_L_law_X12_leastHarm_96 : GoodIn vsL (wsV RL 96 RX12 yX12_leastHarm vsX12_leastHarm) := goodIn_app (goodIn_of _ (by decide +kernel)) gw_L_law_X12_leastHarm
set_option maxRecDepth 20000 in
theorem gw_L_law_X11_joke : GoodIn vsL vsX11_joke := goodIn_r _ [281, 58, 104, 105, 106, 88, 107, 108, 28, 29, 30, 15, 31, 32, 509, 510, 511, 512, 513, 514, 515, 516, 517, 518, 519, 520, 528, 529, 530, 531, 532, 533, 534, 535, 536] (by decide +kernel) (by decide +kernel)
set_option maxRecDepth 20000 in
theorem gv_L_law_X11_joke_97 : GoodIn vsL (wsV RL 97 RX11 yX11_joke vsX11_joke) := goodIn_app (goodIn_of _ (by decide +kernel)) gw_L_law_X11_joke
set_option maxRecDepth 20000 in
theorem gw_L_law_X12_joke : GoodIn vsL vsX12_joke := goodIn_r _ [285, 113, 114, 115, 19, 116, 117, 49, 50, 51, 52, 53, 537, 538, 539, 540, 541, 542, 543, 544, 545, 546, 547, 548, 549, 550, 551, 552, 553, 554, 555, 556, 557, 558, 559, 560, 561, 562, 563, 564, 565, 566, 567, 568, 569, 570, 571, 572, 573, 574] (by decide +kernel) (by decide +kernel)
set_option maxRecDepth 20000 in
theorem gv_L_law_X12_joke_100 : GoodIn vsL (wsV RL 100 RX12 yX12_joke vsX12_joke) := goodIn_app (goodIn_of _ (by decide +kernel)) gw_L_law_X12_joke
set_option maxRecDepth 20000 in
theorem gw_L_law_X11_stretched : GoodIn vsL vsX11_stretched := goodIn_r _ [289, 58, 156, 28, 29, 30, 15, 31, 32, 509, 510, 511, 512, 513, 514, 515, 516, 517, 518, 519, 520, 528, 529, 530, 531, 532, 533, 534, 535, 536] (by decide +kernel) (by decide +kernel)
set_option maxRecDepth 20000 in
theorem gv_L_law_X11_stretched_101 : GoodIn vsL (wsV RL 101 RX11 yX11_stretched vsX11_stretched) := goodIn_app (goodIn_of _ (by decide +kernel)) gw_L_law_X11_stretched
set_option maxRecDepth 20000 in
theorem gw_L_law_X12_stretched : GoodIn vsL vsX12_stretched := goodIn_r _ [293, 117, 46, 47, 19, 48, 49, 50, 51, 52, 53, 537, 538, 539, 540, 541, 542, 543, 544, 545, 546, 547, 548, 549, 550, 551, 552, 553, 554, 555, 556, 557, 558, 559, 560, 561, 562, 563, 564, 565, 566, 567, 568, 569, 570, 571, 572, 573, 574] (by decide +kernel) (by decide +kernel)
set_option maxRecDepth 20000 in
theorem gv_L_law_X12_stretched_104 : GoodIn vsL (wsV RL 104 RX12 yX12_stretched vsX12_stretched) := goodIn_app (goodIn_of _ (by decide +kernel)) gw_L_law_X12_stretched
set_option maxRecDepth 20000 in
theorem gw_L_law_X11_parts : GoodIn vsL vsX11_parts := goodIn_r _ [297, 58, 156, 509, 510, 511, 512, 513, 514, 515, 516, 517, 518, 519, 520, 528, 529, 530, 531, 532, 533, 534, 535, 536] (by decide +kernel) (by decide +kernel)
set_option maxRecDepth 20000 in
theorem gv_L_law_X11_parts_105 : GoodIn vsL (wsV RL 105 RX11 yX11_parts vsX11_parts) := goodIn_app (goodIn_of _ (by decide +kernel)) gw_L_law_X11_parts
set_option maxRecDepth 20000 in
theorem gw_L_law_X12_parts : GoodIn vsL vsX12_parts := goodIn_r _ [301, 117, 537, 538, 539, 540, 541, 542, 543, 544, 545, 546, 547, 548, 549, 550, 551, 552, 553, 554, 555, 556, 557, 558, 559, 560, 561, 562, 563, 564, 565, 566, 567, 568, 569, 570, 571, 572, 573, 574] (by decide +kernel) (by decide +kernel)
set_option maxRecDepth 20000 in
theorem gv_L_law_X12_parts_108 : GoodIn vsL (wsV RL 108 RX12 yX12_parts vsX12_parts) := goodIn_app (goodIn_of _ (by decide +kernel)) gw_L_law_X12_parts
set_option maxRecDepth 20000 in
theorem gw_L_law_X11_books : GoodIn vsL vsX11_books := goodIn_r _ [305, 58, 156, 28, 29, 30, 15, 31, 32, 509, 510, 511, 512, 513, 514, 515, 516, 517, 518, 519, 520, 528, 529, 530, 531, 532, 533, 534, 535, 536] (by decide +kernel) (by decide +kernel)
set_option maxRecDepth 20000 in
theorem gv_L_law_X11_books_109 : GoodIn vsL (wsV RL 109 RX11 yX11_books vsX11_books) := goodIn_app (goodIn_of _ (by decide +kernel)) gw_L_law_X11_books
set_option maxRecDepth 20000 in
theorem gw_L_law_X12_books : GoodIn vsL vsX12_books := goodIn_r _ [309, 310, 311, 312, 19, 313, 117, 49, 50, 51, 52, 53, 537, 538, 539, 540, 541, 542, 543, 544, 545, 546, 547, 548, 549, 550, 551, 552, 553, 554, 555, 556, 557, 558, 559, 560, 561, 562, 563, 564, 565, 566, 567, 568, 569, 570, 571, 572, 573, 574] (by decide +kernel) (by decide +kernel)
set_option maxRecDepth 20000 in
theorem gv_L_law_X12_books_112 : GoodIn vsL (wsV RL 112 RX12 yX12_books vsX12_books) := goodIn_app (goodIn_of _ (by decide +kernel)) gw_L_law_X12_books
set_option maxRecDepth 20000 in
theorem gw_L_law_X11_book : GoodIn vsL vsX11_book := goodIn_r _ [317, 58, 156, 28, 29, 30, 15, 31, 32, 509, 510, 511, 512, 513, 514, 515, 516, 517, 518, 519, 520, 528, 529, 530, 531, 532, 533, 534, 535, 536] (by decide +kernel) (by decide +kernel)
set_option maxRecDepth 20000 in
theorem gv_L_law_X11_book_113 : GoodIn vsL (wsV RL 113 RX11 yX11_book vsX11_book) := goodIn_app (goodIn_of _ (by decide +kernel)) gw_L_law_X11_book
set_option maxRecDepth 20000 in
theorem gw_L_law_X12_book : GoodIn vsL vsX12_book := goodIn_r _ [321, 49, 50, 51, 19, 52, 53, 310, 311, 312, 313, 117, 537, 538, 539, 540, 541, 542, 543, 544, 545, 546, 547, 548, 549, 550, 551, 552, 553, 554, 555, 556, 557, 558, 559, 560, 561, 562, 563, 564, 565, 566, 567, 568, 569, 570, 571, 572, 573, 574] (by decide +kernel) (by decide +kernel)
set_option maxRecDepth 20000 in
theorem gv_L_law_X12_book_116 : GoodIn vsL (wsV RL 116 RX12 yX12_book vsX12_book) := goodIn_app (goodIn_of _ (by decide +kernel)) gw_L_law_X12_book
set_option maxRecDepth 20000 in
theorem gw_L_law_X11_row : GoodIn vsL vsX11_row := goodIn_r _ [325, 326, 327, 28, 29, 30, 15, 31, 32, 528, 529, 530, 531, 532, 533, 534, 535, 536] (by decide +kernel) (by decide +kernel)
set_option maxRecDepth 20000 in
theorem gv_L_law_X11_row_117 : GoodIn vsL (wsV RL 117 RX11 yX11_row vsX11_row) := goodIn_app (goodIn_of _ (by decide +kernel)) gw_L_law_X11_row
set_option maxRecDepth 20000 in
theorem gw_L_law_X12_row : GoodIn vsL vsX12_row := goodIn_r _ [331, 332, 333, 46, 47, 19, 48, 49, 50, 51, 52, 53, 537, 538, 539, 540, 541, 542, 543, 544, 545, 546, 547, 548, 549, 550, 551, 552, 553, 554, 555, 556, 557, 558, 559, 560, 561, 562, 563, 564, 565, 566, 567, 568, 569, 570, 571, 572, 573, 574] (by decide +kernel) (by decide +kernel)
set_option maxRecDepth 20000 in
theorem gv_L_law_X12_row_120 : GoodIn vsL (wsV RL 120 RX12 yX12_row vsX12_row) := goodIn_app (goodIn_of _ (by decide +kernel)) gw_L_law_X12_row
set_option maxRecDepth 20000 in
theorem gw_L_law_X11_judge : GoodIn vsL vsX11_judge := goodIn_r _ [337, 58, 156, 28, 29, 30, 15, 31, 32, 509, 510, 511, 512, 513, 514, 515, 516, 517, 518, 519, 520, 528, 529, 530, 531, 532, 533, 534, 535, 536] (by decide +kernel) (by decide +kernel)
set_option maxRecDepth 20000 in
theorem gv_L_law_X11_judge_121 : GoodIn vsL (wsV RL 121 RX11 yX11_judge vsX11_judge) := goodIn_app (goodIn_of _ (by decide +kernel)) gw_L_law_X11_judge
set_option maxRecDepth 20000 in
theorem gw_L_law_X12_judge : GoodIn vsL vsX12_judge := goodIn_r _ [341, 117, 49, 50, 51, 19, 52, 53, 537, 538, 539, 540, 541, 542, 543, 544, 545, 546, 547, 548, 549, 550, 551, 552, 553, 554, 555, 556, 557, 558, 559, 560, 561, 562, 563, 564, 565, 566, 567, 568, 569, 570, 571, 572, 573, 574] (by decide +kernel) (by decide +kernel)
set_option maxRecDepth 20000 in
theorem gv_L_law_X12_judge_124 : GoodIn vsL (wsV RL 124 RX12 yX12_judge vsX12_judge) := goodIn_app (goodIn_of _ (by decide +kernel)) gw_L_law_X12_judge
set_option maxRecDepth 20000 in
theorem gw_L_law_X11_possible : GoodIn vsL vsX11_possible := goodIn_r _ [345, 346, 58, 327, 326, 347, 348, 349, 350, 351, 352, 353, 354, 355, 356, 357, 358, 359, 360, 88, 361, 90, 362, 363, 364, 365, 506, 507, 509, 510, 511, 512, 513, 514, 515, 516, 517, 518, 519, 520, 528, 529, 530, 531, 532, 533, 534, 535, 536] (by decide +kernel) (by decide +kernel)
set_option maxRecDepth 20000 in
theorem gv_L_law_X11_possible_125 : GoodIn vsL (wsV RL 125 RX11 yX11_possible vsX11_possible) := goodIn_app (goodIn_of _ (by decide +kernel)) gw_L_law_X11_possible
set_option maxRecDepth 20000 in
theorem gw_L_law_X12_possible : GoodIn vsL vsX12_possible := goodIn_r _ [369, 332, 537, 538, 539, 540, 541, 542, 543, 544, 545, 546, 547, 548, 549, 550, 551, 552, 553, 554, 555, 556, 557, 558, 559, 560, 561, 562, 563, 564, 565, 566, 567, 568, 569, 570, 571, 572, 573, 574] (by decide +kernel) (by decide +kernel)
set_option maxRecDepth 20000 in
theorem gv_L_law_X12_possible_128 : GoodIn vsL (wsV RL 128 RX12 yX12_possible vsX12_possible) := goodIn_app (goodIn_of _ (by decide +kernel)) gw_L_law_X12_possible
set_option maxRecDepth 20000 in
theorem gw_L_law_X11_lot : GoodIn vsL vsX11_lot := goodIn_r _ [373, 58, 156, 28, 29, 30, 15, 31, 32, 509, 510, 511, 512, 513, 514, 515, 516, 517, 518, 519, 520, 528, 529, 530, 531, 532, 533, 534, 535, 536] (by decide +kernel) (by decide +kernel)
set_option maxRecDepth 20000 in
theorem gv_L_law_X11_lot_129 : GoodIn vsL (wsV RL 129 RX11 yX11_lot vsX11_lot) := goodIn_app (goodIn_of _ (by decide +kernel)) gw_L_law_X11_lot
set_option maxRecDepth 20000 in
theorem gw_L_law_X12_lot : GoodIn vsL vsX12_lot := goodIn_r _ [377, 117, 46, 47, 19, 48, 49, 50, 51, 52, 53, 537, 538, 539, 540, 541, 542, 543, 544, 545, 546, 547, 548, 549, 550, 551, 552, 553, 554, 555, 556, 557, 558, 559, 560, 561, 562, 563, 564, 565, 566, 567, 568, 569, 570, 571, 572, 573, 574] (by decide +kernel) (by decide +kernel)
set_option maxRecDepth 20000 in
theorem gv_L_law_X12_lot_132 : GoodIn vsL (wsV RL 132 RX12 yX12_lot vsX12_lot) := goodIn_app (goodIn_of _ (by decide +kernel)) gw_L_law_X12_lot
set_option maxRecDepth 20000 in
theorem gw_L_law_X11_image : GoodIn vsL vsX11_image := goodIn_r _ [381, 382, 58, 383, 156, 384, 385, 386, 88, 387, 388, 389, 390, 90, 391, 392, 393, 394, 395, 108, 396, 397, 398, 399, 400, 170, 401, 172, 173, 174, 175, 176, 509, 510, 511, 512, 513, 514, 515, 516, 517, 518, 519, 520, 522, 523, 524, 525, 526, 528, 529, 530, 531, 532, 533, 534, 535, 536] (by decide +kernel) (by decide +kernel)
set_option maxRecDepth 20000 in
theorem gv_L_law_X11_image_133 : GoodIn vsL (wsV RL 133 RX11 yX11_image vsX11_image) := goodIn_app (goodIn_of _ (by decide +kernel)) gw_L_law_X11_image
set_option maxRecDepth 20000 in
theorem gw_L_law_X12_image : GoodIn vsL vsX12_image := goodIn_r _ [405, 406, 117, 407, 408, 409, 19, 410, 411, 412, 413, 414, 415, 416, 417, 418, 419, 420, 99, 143, 186, 187, 188, 181, 421, 422, 423, 424, 425, 426, 427, 428, 429, 537, 538, 539, 540, 541, 542, 543, 544, 545, 546, 547, 548, 549, 550, 551, 552, 553, 554, 555, 556, 557, 558, 559, 560, 561, 562, 563, 564, 565, 566, 567, 568, 569, 570, 571, 572, 573, 574] (by decide +kernel) (by decide +kernel)
set_option maxRecDepth 20000 in
theorem gv_L_law_X12_image_136 : GoodIn vsL (wsV RL 136 RX12 yX12_image vsX12_image) := goodIn_app (goodIn_of _ (by decide +kernel)) gw_L_law_X12_image
set_option maxRecDepth 20000 in
theorem gw_L_law_X11_restore : GoodIn vsL vsX11_restore := goodIn_r _ [433, 383, 28, 29, 30, 15, 31, 32, 528, 529, 530, 531, 532, 533, 534, 535, 536] (by decide +kernel) (by decide +kernel)
set_option maxRecDepth 20000 in
theorem gv_L_law_X11_restore_137 : GoodIn vsL (wsV RL 137 RX11 yX11_restore vsX11_restore) := goodIn_app (goodIn_of _ (by decide +kernel)) gw_L_law_X11_restore
set_option maxRecDepth 20000 in
theorem gw_L_law_X12_restore : GoodIn vsL vsX12_restore := goodIn_r _ [437, 406, 49, 50, 51, 19, 52, 53, 537, 538, 539, 540, 541, 542, 543, 544, 545, 546, 547, 548, 549, 550, 551, 552, 553, 554, 555, 556, 557, 558, 559, 560, 561, 562, 563, 564, 565, 566, 567, 568, 569, 570, 571, 572, 573, 574] (by decide +kernel) (by decide +kernel)
set_option maxRecDepth 20000 in
theorem gv_L_law_X12_restore_140 : GoodIn vsL (wsV RL 140 RX12 yX12_restore vsX12_restore) := goodIn_app (goodIn_of _ (by decide +kernel)) gw_L_law_X12_restore
set_option maxRecDepth 20000 in
theorem gw_L_law_X11_count : GoodIn vsL vsX11_count := goodIn_r _ [441, 58, 442, 156, 165, 166, 443, 26, 27, 326, 138, 32, 444, 445, 446, 88, 447, 108, 504, 505, 509, 510, 511, 512, 513, 514, 515, 516, 517, 518, 519, 520, 522, 523, 524, 525, 526, 528, 529, 530, 531, 532, 533, 534, 535, 536] (by decide +kernel) (by decide +kernel)
set_option maxRecDepth 20000 in
theorem gv_L_law_X11_count_141 : GoodIn vsL (wsV RL 141 RX11 yX11_count vsX11_count) := goodIn_app (goodIn_of _ (by decide +kernel)) gw_L_law_X11_count
set_option maxRecDepth 20000 in
theorem gw_L_law_X12_count : GoodIn vsL vsX12_count := goodIn_r _ [451, 99, 117, 181, 188, 44, 332, 143, 53, 205, 206, 19, 207, 452, 453, 454, 455, 537, 538, 539, 540, 541, 542, 543, 544, 545, 546, 547, 548, 549, 550, 551, 552, 553, 554, 555, 556, 557, 558, 559, 560, 561, 562, 563, 564, 565, 566, 567, 568, 569, 570, 571, 572, 573, 574] (by decide +kernel) (by decide +kernel)
set_option maxRecDepth 20000 in
theorem gv_L_law_X12_count_144 : GoodIn vsL (wsV RL 144 RX12 yX12_count vsX12_count) := goodIn_app (goodIn_of _ (by decide +kernel)) gw_L_law_X12_count
set_option maxRecDepth 20000 in
theorem gw_L_law_X11_init : GoodIn vsL vsX11_init := goodIn_r _ [456, 457, 458, 459, 460, 7, 88, 461, 58, 382, 383, 462, 2, 463, 464, 465, 466, 346, 467, 4, 36, 468, 26, 13, 327, 326, 32, 469, 470, 471, 388, 389, 390, 90, 391, 392, 393, 394, 395, 108, 396, 472, 9, 170, 473, 397, 474, 475, 172, 173, 174, 175, 176, 476, 477, 478, 5, 350, 479, 480, 481, 482, 483, 484, 485, 486, 352, 487, 488, 39, 38, 500, 501, 502, 504, 505, 506, 507, 509, 510, 511, 512, 513, 514, 515, 516, 517, 518, 519, 520, 522, 523, 524, 525, 526, 528, 529, 530, 531, 532, 533, 534, 535, 536] (by decide +kernel) (by decide +kernel)
set_option maxRecDepth 20000 in
theorem gv_L_law_X11_init_9 : GoodIn vsL (vsX11_init) := gw_L_law_X11_init
set_option maxRecDepth 20000 in
theorem gw_L_law_X12_init : GoodIn vsL vsX12_init := goodIn_r _ [489, 490, 458, 459, 13, 53, 413, 414, 415, 416, 417, 418, 419, 420, 143, 188, 45, 491, 492, 493, 425, 494, 495, 496, 497, 333, 537, 538, 539, 540, 541, 542, 543, 544, 545, 546, 547, 548, 549, 550, 551, 552, 553, 554, 555, 556, 557, 558, 559, 560, 561, 562, 563, 564, 565, 566, 567, 568, 569, 570, 571, 572, 573, 574] (by decide +kernel) (by decide +kernel)
set_option maxRecDepth 20000 in
theorem gv_L_law_X12_init_12 : GoodIn vsL (vsX12_init) := gw_L_law_X12_init
