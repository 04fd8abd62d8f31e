/-! ===== every word of TB stands in the tables ===== -/
theorem tb_in0 (w : Cond) (h : w ∈ k2_sels lw_privs) : w ∈ lw_tbl := List.mem_append_left _ h
theorem tb_in1 (w : Cond) (h : w ∈ tables_1_1) : w ∈ lw_tbl := List.mem_append_right _ (List.mem_append_left _ h)
theorem tb_in2 (w : Cond) (h : w ∈ tables_1_2) : w ∈ lw_tbl := List.mem_append_right _ (List.mem_append_right _ (List.mem_append_left _ h))
theorem tb_in3 (w : Cond) (h : w ∈ tables_1_3) : w ∈ lw_tbl := List.mem_append_right _ (List.mem_append_right _ (List.mem_append_right _ (List.mem_append_left _ h)))
theorem tb_in4 (w : Cond) (h : w ∈ tables_1_4) : w ∈ lw_tbl := List.mem_append_right _ (List.mem_append_right _ (List.mem_append_right _ (List.mem_append_right _ h)))
set_option maxRecDepth 20000 in
theorem tw0 : (.code yX2_init cX2_init 1 none : Cond) ∈ lw_tbl := tb_in1 _ (List.mem_of_getElem? (i := 27) rfl)
set_option maxRecDepth 20000 in
theorem tw1 : (.methodLink RX2 3 objectInit : Cond) ∈ lw_tbl := tb_in1 _ (List.mem_of_getElem? (i := 28) rfl)
set_option maxRecDepth 20000 in
theorem tw2 : (.instanceMethod objectInit : Cond) ∈ lw_tbl := tb_in1 _ (List.mem_of_getElem? (i := 15) rfl)
set_option maxRecDepth 20000 in
theorem tw3 : (.code objectInit ⟨#[0xb1]⟩ 1 none : Cond) ∈ lw_tbl := tb_in1 _ (List.mem_of_getElem? (i := 16) rfl)
set_option maxRecDepth 20000 in
theorem tw4 : (.arrayClass .int : Cond) ∈ lw_tbl := tb_in1 _ (List.mem_of_getElem? (i := 76) rfl)
set_option maxRecDepth 20000 in
theorem tw5 : (.fieldLink RX2 9 "ExamHalls$School" "settings" "[I" : Cond) ∈ lw_tbl := tb_in1 _ (List.mem_of_getElem? (i := 29) rfl)
set_option maxRecDepth 20000 in
theorem tw6 : (.fieldLink RX2 15 "ExamHalls$School" "starts" "[I" : Cond) ∈ lw_tbl := tb_in1 _ (List.mem_of_getElem? (i := 32) rfl)
set_option maxRecDepth 20000 in
theorem tw7 : (.fieldLink RX2 18 "ExamHalls$School" "minutes" "[I" : Cond) ∈ lw_tbl := tb_in1 _ (List.mem_of_getElem? (i := 35) rfl)
set_option maxRecDepth 20000 in
theorem tw8 : (.fieldLink RX2 21 "ExamHalls$School" "papers" "[I" : Cond) ∈ lw_tbl := tb_in1 _ (List.mem_of_getElem? (i := 37) rfl)
set_option maxRecDepth 20000 in
theorem tw9 : (.fieldLink RX2 24 "ExamHalls$School" "extras" "[I" : Cond) ∈ lw_tbl := tb_in1 _ (List.mem_of_getElem? (i := 39) rfl)
set_option maxRecDepth 20000 in
theorem tw10 : (.arrayClass .boolean : Cond) ∈ lw_tbl := tb_in1 _ (List.mem_of_getElem? (i := 77) rfl)
set_option maxRecDepth 20000 in
theorem tw11 : (.fieldLink RX2 27 "ExamHalls$School" "readers" "[Z" : Cond) ∈ lw_tbl := tb_in1 _ (List.mem_of_getElem? (i := 41) rfl)
set_option maxRecDepth 20000 in
theorem tw12 : (.fieldLink RX2 31 "ExamHalls$School" "rows" "[I" : Cond) ∈ lw_tbl := tb_in1 _ (List.mem_of_getElem? (i := 44) rfl)
set_option maxRecDepth 20000 in
theorem tw13 : (.fieldLink RX2 34 "ExamHalls$School" "columns" "[I" : Cond) ∈ lw_tbl := tb_in1 _ (List.mem_of_getElem? (i := 47) rfl)
set_option maxRecDepth 20000 in
theorem tw14 : (.fieldLink RX2 37 "ExamHalls$School" "pupils" "I" : Cond) ∈ lw_tbl := tb_in1 _ (List.mem_of_getElem? (i := 50) rfl)
set_option maxRecDepth 20000 in
theorem tw15 : (.fieldLink RX2 41 "ExamHalls$School" "openHalls" "I" : Cond) ∈ lw_tbl := tb_in1 _ (List.mem_of_getElem? (i := 53) rfl)
set_option maxRecDepth 20000 in
theorem tw16 : (.code yX0_init cX0_init 2 none : Cond) ∈ lw_tbl := tb_in1 _ (List.mem_of_getElem? (i := 158) rfl)
set_option maxRecDepth 20000 in
theorem tw17 : (.methodLink RX0 3 objectInit : Cond) ∈ lw_tbl := tb_in1 _ (List.mem_of_getElem? (i := 159) rfl)
set_option maxRecDepth 20000 in
theorem tw18 : (.classLink RX0 9 RX2 : Cond) ∈ lw_tbl := tb_in1 _ (List.mem_of_getElem? (i := 160) rfl)
set_option maxRecDepth 20000 in
theorem tw19 : (.fieldLink RX0 11 "ExamHalls$History" "states" "[LExamHalls$School;" : Cond) ∈ lw_tbl := tb_in1 _ (List.mem_of_getElem? (i := 163) rfl)
set_option maxRecDepth 20000 in
theorem tw20 : (.fieldLink RX0 17 "ExamHalls$History" "size" "I" : Cond) ∈ lw_tbl := tb_in1 _ (List.mem_of_getElem? (i := 164) rfl)
set_option maxRecDepth 20000 in
theorem tw21 : (.instantiable RX2 10 : Cond) ∈ lw_tbl := tb_in1 _ (List.mem_of_getElem? (i := 24) rfl)
set_option maxRecDepth 20000 in
theorem tw22 : (.initialized RX2 : Cond) ∈ lw_tbl := tb_in1 _ (List.mem_of_getElem? (i := 3) rfl)
set_option maxRecDepth 20000 in
theorem tw23 : (.instanceMethod yX2_init : Cond) ∈ lw_tbl := tb_in1 _ (List.mem_of_getElem? (i := 26) rfl)
set_option maxRecDepth 20000 in
theorem tw24 : (.code yX0_dropOldest cX0_dropOldest 3 none : Cond) ∈ lw_tbl := tb_in2 _ (List.mem_of_getElem? (i := 34) rfl)
set_option maxRecDepth 20000 in
theorem tw25 : (.code yX2_copyFrom cX2_copyFrom 3 none : Cond) ∈ lw_tbl := tb_in2 _ (List.mem_of_getElem? (i := 38) rfl)
set_option maxRecDepth 20000 in
theorem tw26 : (.code yX0_remember cX0_remember 2 none : Cond) ∈ lw_tbl := tb_in2 _ (List.mem_of_getElem? (i := 30) rfl)
set_option maxRecDepth 20000 in
theorem tw27 : (.methodLink RX0 22 yX0_dropOldest : Cond) ∈ lw_tbl := tb_in2 _ (List.mem_of_getElem? (i := 31) rfl)
set_option maxRecDepth 20000 in
theorem tw28 : (.instanceMethod yX0_dropOldest : Cond) ∈ lw_tbl := tb_in2 _ (List.mem_of_getElem? (i := 33) rfl)
set_option maxRecDepth 20000 in
theorem tw29 : (.selects RX0 yX0_dropOldest yX0_dropOldest : Cond) ∈ lw_tbl := tb_in0 _ (List.mem_of_getElem? (i := 7) rfl)
set_option maxRecDepth 20000 in
theorem tw30 : (.initialized RX0 : Cond) ∈ lw_tbl := tb_in1 _ (List.mem_of_getElem? (i := 5) rfl)
set_option maxRecDepth 20000 in
theorem tw31 : (.methodLink RX0 25 yX2_copyFrom : Cond) ∈ lw_tbl := tb_in2 _ (List.mem_of_getElem? (i := 35) rfl)
set_option maxRecDepth 20000 in
theorem tw32 : (.instanceMethod yX2_copyFrom : Cond) ∈ lw_tbl := tb_in2 _ (List.mem_of_getElem? (i := 36) rfl)
set_option maxRecDepth 20000 in
theorem tw33 : (.selects RX2 yX2_copyFrom yX2_copyFrom : Cond) ∈ lw_tbl := tb_in2 _ (List.mem_of_getElem? (i := 37) rfl)
set_option maxRecDepth 20000 in
theorem tw34 : (.code yX0_takeBack cX0_takeBack 2 none : Cond) ∈ lw_tbl := tb_in3 _ (List.mem_of_getElem? (i := 78) rfl)
set_option maxRecDepth 20000 in
theorem tw35 : (.code yX1_init cX1_init 1 none : Cond) ∈ lw_tbl := tb_in1 _ (List.mem_of_getElem? (i := 116) rfl)
set_option maxRecDepth 20000 in
theorem tw36 : (.methodLink RX1 3 objectInit : Cond) ∈ lw_tbl := tb_in1 _ (List.mem_of_getElem? (i := 117) rfl)
set_option maxRecDepth 20000 in
theorem tw37 : (.fieldLink RX1 9 "ExamHalls$Pad" "signs" "[I" : Cond) ∈ lw_tbl := tb_in1 _ (List.mem_of_getElem? (i := 118) rfl)
set_option maxRecDepth 20000 in
theorem tw38 : (.fieldLink RX1 15 "ExamHalls$Pad" "length" "I" : Cond) ∈ lw_tbl := tb_in1 _ (List.mem_of_getElem? (i := 119) rfl)
set_option maxRecDepth 20000 in
theorem tw39 : (.fieldLink RX1 19 "ExamHalls$Pad" "foundPapers" "[I" : Cond) ∈ lw_tbl := tb_in1 _ (List.mem_of_getElem? (i := 121) rfl)
set_option maxRecDepth 20000 in
theorem tw40 : (.fieldLink RX1 22 "ExamHalls$Pad" "foundExtras" "[I" : Cond) ∈ lw_tbl := tb_in1 _ (List.mem_of_getElem? (i := 123) rfl)
set_option maxRecDepth 20000 in
theorem tw41 : (.fieldLink RX1 25 "ExamHalls$Pad" "foundReaders" "[Z" : Cond) ∈ lw_tbl := tb_in1 _ (List.mem_of_getElem? (i := 125) rfl)
set_option maxRecDepth 20000 in
theorem tw42 : (.fieldLink RX1 29 "ExamHalls$Pad" "found" "I" : Cond) ∈ lw_tbl := tb_in1 _ (List.mem_of_getElem? (i := 127) rfl)
set_option maxRecDepth 20000 in
theorem tw43 : (.fieldLink RX1 32 "ExamHalls$Pad" "state" "I" : Cond) ∈ lw_tbl := tb_in1 _ (List.mem_of_getElem? (i := 129) rfl)
set_option maxRecDepth 20000 in
theorem tw44 : (.fieldLink RX1 35 "ExamHalls$Pad" "papers" "I" : Cond) ∈ lw_tbl := tb_in1 _ (List.mem_of_getElem? (i := 130) rfl)
set_option maxRecDepth 20000 in
theorem tw45 : (.fieldLink RX1 38 "ExamHalls$Pad" "extra" "I" : Cond) ∈ lw_tbl := tb_in1 _ (List.mem_of_getElem? (i := 131) rfl)
set_option maxRecDepth 20000 in
theorem tw46 : (.fieldLink RX1 41 "ExamHalls$Pad" "needsReader" "Z" : Cond) ∈ lw_tbl := tb_in1 _ (List.mem_of_getElem? (i := 132) rfl)
set_option maxRecDepth 20000 in
theorem tw47 : (.code yX1_append cX1_append 5 none : Cond) ∈ lw_tbl := tb_in3 _ (List.mem_of_getElem? (i := 61) rfl)
set_option maxRecDepth 20000 in
theorem tw48 : (.constantLong RX1 45 (255) : Cond) ∈ lw_tbl := tb_in3 _ (List.mem_of_getElem? (i := 62) rfl)
set_option maxRecDepth 20000 in
theorem tw49 : (.code yX1_beginPupil cX1_beginPupil 1 none : Cond) ∈ lw_tbl := tb_in2 _ (List.mem_of_getElem? (i := 75) rfl)
set_option maxRecDepth 20000 in
theorem tw50 : (.code yX1_mayEnd cX1_mayEnd 1 (some .boolean) : Cond) ∈ lw_tbl := tb_in2 _ (List.mem_of_getElem? (i := 87) rfl)
set_option maxRecDepth 20000 in
theorem tw51 : (.code yX1_endPupil cX1_endPupil 1 none : Cond) ∈ lw_tbl := tb_in2 _ (List.mem_of_getElem? (i := 91) rfl)
set_option maxRecDepth 20000 in
theorem tw52 : (.code yX1_takesSemicolon cX1_takesSemicolon 1 (some .boolean) : Cond) ∈ lw_tbl := tb_in2 _ (List.mem_of_getElem? (i := 83) rfl)
set_option maxRecDepth 20000 in
theorem tw53 : (.methodLink RX1 54 yX1_mayEnd : Cond) ∈ lw_tbl := tb_in2 _ (List.mem_of_getElem? (i := 84) rfl)
set_option maxRecDepth 20000 in
theorem tw54 : (.instanceMethod yX1_mayEnd : Cond) ∈ lw_tbl := tb_in2 _ (List.mem_of_getElem? (i := 86) rfl)
set_option maxRecDepth 20000 in
theorem tw55 : (.selects RX1 yX1_mayEnd yX1_mayEnd : Cond) ∈ lw_tbl := tb_in0 _ (List.mem_of_getElem? (i := 11) rfl)
set_option maxRecDepth 20000 in
theorem tw56 : (.initialized RX1 : Cond) ∈ lw_tbl := tb_in1 _ (List.mem_of_getElem? (i := 4) rfl)
set_option maxRecDepth 20000 in
theorem tw57 : (.methodLink RX1 58 yX1_endPupil : Cond) ∈ lw_tbl := tb_in2 _ (List.mem_of_getElem? (i := 88) rfl)
set_option maxRecDepth 20000 in
theorem tw58 : (.instanceMethod yX1_endPupil : Cond) ∈ lw_tbl := tb_in2 _ (List.mem_of_getElem? (i := 90) rfl)
set_option maxRecDepth 20000 in
theorem tw59 : (.selects RX1 yX1_endPupil yX1_endPupil : Cond) ∈ lw_tbl := tb_in0 _ (List.mem_of_getElem? (i := 12) rfl)
set_option maxRecDepth 20000 in
theorem tw60 : (.methodLink RX1 47 yX1_beginPupil : Cond) ∈ lw_tbl := tb_in2 _ (List.mem_of_getElem? (i := 72) rfl)
set_option maxRecDepth 20000 in
theorem tw61 : (.instanceMethod yX1_beginPupil : Cond) ∈ lw_tbl := tb_in2 _ (List.mem_of_getElem? (i := 74) rfl)
set_option maxRecDepth 20000 in
theorem tw62 : (.selects RX1 yX1_beginPupil yX1_beginPupil : Cond) ∈ lw_tbl := tb_in0 _ (List.mem_of_getElem? (i := 8) rfl)
set_option maxRecDepth 20000 in
theorem tw63 : (.code yX1_takesPlus cX1_takesPlus 1 (some .boolean) : Cond) ∈ lw_tbl := tb_in2 _ (List.mem_of_getElem? (i := 95) rfl)
set_option maxRecDepth 20000 in
theorem tw64 : (.code yX1_takesReader cX1_takesReader 1 (some .boolean) : Cond) ∈ lw_tbl := tb_in2 _ (List.mem_of_getElem? (i := 99) rfl)
set_option maxRecDepth 20000 in
theorem tw65 : (.code yX4_isWithin cX4_isWithin 3 (some .boolean) : Cond) ∈ lw_tbl := tb_in2 _ (List.mem_of_getElem? (i := 24) rfl)
set_option maxRecDepth 20000 in
theorem tw66 : (.code yX1_takesDigit cX1_takesDigit 3 (some .boolean) : Cond) ∈ lw_tbl := tb_in2 _ (List.mem_of_getElem? (i := 104) rfl)
set_option maxRecDepth 20000 in
theorem tw67 : (.static yX4_isWithin : Cond) ∈ lw_tbl := tb_in2 _ (List.mem_of_getElem? (i := 23) rfl)
set_option maxRecDepth 20000 in
theorem tw68 : (.initialized RX4 : Cond) ∈ lw_tbl := tb_in1 _ (List.mem_of_getElem? (i := 1) rfl)
set_option maxRecDepth 20000 in
theorem tw69 : (.code yX4_isPaper cX4_isPaper 1 (some .boolean) : Cond) ∈ lw_tbl := tb_in2 _ (List.mem_of_getElem? (i := 45) rfl)
set_option maxRecDepth 20000 in
theorem tw70 : (.methodLink RX4 55 yX4_isWithin : Cond) ∈ lw_tbl := tb_in2 _ (List.mem_of_getElem? (i := 22) rfl)
set_option maxRecDepth 20000 in
theorem tw71 : (.code yX1_takesLetter cX1_takesLetter 2 (some .boolean) : Cond) ∈ lw_tbl := tb_in2 _ (List.mem_of_getElem? (i := 108) rfl)
set_option maxRecDepth 20000 in
theorem tw72 : (.static yX4_isPaper : Cond) ∈ lw_tbl := tb_in2 _ (List.mem_of_getElem? (i := 44) rfl)
set_option maxRecDepth 20000 in
theorem tw73 : (.methodLink RX1 61 yX1_takesSemicolon : Cond) ∈ lw_tbl := tb_in2 _ (List.mem_of_getElem? (i := 80) rfl)
set_option maxRecDepth 20000 in
theorem tw74 : (.instanceMethod yX1_takesSemicolon : Cond) ∈ lw_tbl := tb_in2 _ (List.mem_of_getElem? (i := 82) rfl)
set_option maxRecDepth 20000 in
theorem tw75 : (.selects RX1 yX1_takesSemicolon yX1_takesSemicolon : Cond) ∈ lw_tbl := tb_in0 _ (List.mem_of_getElem? (i := 10) rfl)
set_option maxRecDepth 20000 in
theorem tw76 : (.methodLink RX1 64 yX1_takesPlus : Cond) ∈ lw_tbl := tb_in2 _ (List.mem_of_getElem? (i := 92) rfl)
set_option maxRecDepth 20000 in
theorem tw77 : (.instanceMethod yX1_takesPlus : Cond) ∈ lw_tbl := tb_in2 _ (List.mem_of_getElem? (i := 94) rfl)
set_option maxRecDepth 20000 in
theorem tw78 : (.selects RX1 yX1_takesPlus yX1_takesPlus : Cond) ∈ lw_tbl := tb_in0 _ (List.mem_of_getElem? (i := 13) rfl)
set_option maxRecDepth 20000 in
theorem tw79 : (.methodLink RX1 67 yX1_takesReader : Cond) ∈ lw_tbl := tb_in2 _ (List.mem_of_getElem? (i := 96) rfl)
set_option maxRecDepth 20000 in
theorem tw80 : (.instanceMethod yX1_takesReader : Cond) ∈ lw_tbl := tb_in2 _ (List.mem_of_getElem? (i := 98) rfl)
set_option maxRecDepth 20000 in
theorem tw81 : (.selects RX1 yX1_takesReader yX1_takesReader : Cond) ∈ lw_tbl := tb_in0 _ (List.mem_of_getElem? (i := 14) rfl)
set_option maxRecDepth 20000 in
theorem tw82 : (.methodLink RX1 74 yX1_takesDigit : Cond) ∈ lw_tbl := tb_in2 _ (List.mem_of_getElem? (i := 101) rfl)
set_option maxRecDepth 20000 in
theorem tw83 : (.instanceMethod yX1_takesDigit : Cond) ∈ lw_tbl := tb_in2 _ (List.mem_of_getElem? (i := 103) rfl)
set_option maxRecDepth 20000 in
theorem tw84 : (.selects RX1 yX1_takesDigit yX1_takesDigit : Cond) ∈ lw_tbl := tb_in0 _ (List.mem_of_getElem? (i := 15) rfl)
set_option maxRecDepth 20000 in
theorem tw85 : (.methodLink RX1 77 yX1_takesLetter : Cond) ∈ lw_tbl := tb_in2 _ (List.mem_of_getElem? (i := 105) rfl)
set_option maxRecDepth 20000 in
theorem tw86 : (.instanceMethod yX1_takesLetter : Cond) ∈ lw_tbl := tb_in2 _ (List.mem_of_getElem? (i := 107) rfl)
set_option maxRecDepth 20000 in
theorem tw87 : (.selects RX1 yX1_takesLetter yX1_takesLetter : Cond) ∈ lw_tbl := tb_in0 _ (List.mem_of_getElem? (i := 16) rfl)
set_option maxRecDepth 20000 in
theorem tw88 : (.code yX1_takes cX1_takes 2 (some .boolean) : Cond) ∈ lw_tbl := tb_in2 _ (List.mem_of_getElem? (i := 79) rfl)
set_option maxRecDepth 20000 in
theorem tw89 : (.methodLink RX1 50 yX1_takes : Cond) ∈ lw_tbl := tb_in2 _ (List.mem_of_getElem? (i := 76) rfl)
set_option maxRecDepth 20000 in
theorem tw90 : (.instanceMethod yX1_takes : Cond) ∈ lw_tbl := tb_in2 _ (List.mem_of_getElem? (i := 78) rfl)
set_option maxRecDepth 20000 in
theorem tw91 : (.selects RX1 yX1_takes yX1_takes : Cond) ∈ lw_tbl := tb_in0 _ (List.mem_of_getElem? (i := 9) rfl)
set_option maxRecDepth 20000 in
theorem tw92 : (.code yX1_findFault cX1_findFault 2 (some .int) : Cond) ∈ lw_tbl := tb_in2 _ (List.mem_of_getElem? (i := 71) rfl)
set_option maxRecDepth 20000 in
theorem tw93 : (.code yX2_writePupil cX2_writePupil 5 none : Cond) ∈ lw_tbl := tb_in2 _ (List.mem_of_getElem? (i := 63) rfl)
set_option maxRecDepth 20000 in
theorem tw94 : (.code yX2_addPupil cX2_addPupil 4 none : Cond) ∈ lw_tbl := tb_in2 _ (List.mem_of_getElem? (i := 59) rfl)
set_option maxRecDepth 20000 in
theorem tw95 : (.methodLink RX2 44 yX2_writePupil : Cond) ∈ lw_tbl := tb_in2 _ (List.mem_of_getElem? (i := 60) rfl)
set_option maxRecDepth 20000 in
theorem tw96 : (.instanceMethod yX2_writePupil : Cond) ∈ lw_tbl := tb_in2 _ (List.mem_of_getElem? (i := 61) rfl)
set_option maxRecDepth 20000 in
theorem tw97 : (.selects RX2 yX2_writePupil yX2_writePupil : Cond) ∈ lw_tbl := tb_in2 _ (List.mem_of_getElem? (i := 62) rfl)
set_option maxRecDepth 20000 in
theorem tw98 : (.code yX2_removePupil cX2_removePupil 3 none : Cond) ∈ lw_tbl := tb_in2 _ (List.mem_of_getElem? (i := 142) rfl)
set_option maxRecDepth 20000 in
theorem tw99 : (.code yX4_contains cX4_contains 2 (some .boolean) : Cond) ∈ lw_tbl := tb_in1 _ (List.mem_of_getElem? (i := 191) rfl)
set_option maxRecDepth 20000 in
theorem tw100 : (.code yX2_sits cX2_sits 3 (some .boolean) : Cond) ∈ lw_tbl := tb_in1 _ (List.mem_of_getElem? (i := 188) rfl)
set_option maxRecDepth 20000 in
theorem tw101 : (.static yX4_contains : Cond) ∈ lw_tbl := tb_in1 _ (List.mem_of_getElem? (i := 190) rfl)
set_option maxRecDepth 20000 in
theorem tw102 : (.code yX2_beginOf cX2_beginOf 2 (some .int) : Cond) ∈ lw_tbl := tb_in1 _ (List.mem_of_getElem? (i := 203) rfl)
set_option maxRecDepth 20000 in
theorem tw103 : (.code yX2_lengthOf cX2_lengthOf 3 (some .int) : Cond) ∈ lw_tbl := tb_in1 _ (List.mem_of_getElem? (i := 215) rfl)
set_option maxRecDepth 20000 in
theorem tw104 : (.code yX2_endOf cX2_endOf 3 (some .int) : Cond) ∈ lw_tbl := tb_in1 _ (List.mem_of_getElem? (i := 210) rfl)
set_option maxRecDepth 20000 in
theorem tw105 : (.methodLink RX2 52 yX2_beginOf : Cond) ∈ lw_tbl := tb_in1 _ (List.mem_of_getElem? (i := 211) rfl)
set_option maxRecDepth 20000 in
theorem tw106 : (.instanceMethod yX2_beginOf : Cond) ∈ lw_tbl := tb_in1 _ (List.mem_of_getElem? (i := 201) rfl)
set_option maxRecDepth 20000 in
theorem tw107 : (.selects RX2 yX2_beginOf yX2_beginOf : Cond) ∈ lw_tbl := tb_in1 _ (List.mem_of_getElem? (i := 202) rfl)
set_option maxRecDepth 20000 in
theorem tw108 : (.methodLink RX2 56 yX2_lengthOf : Cond) ∈ lw_tbl := tb_in1 _ (List.mem_of_getElem? (i := 212) rfl)
set_option maxRecDepth 20000 in
theorem tw109 : (.instanceMethod yX2_lengthOf : Cond) ∈ lw_tbl := tb_in1 _ (List.mem_of_getElem? (i := 213) rfl)
set_option maxRecDepth 20000 in
theorem tw110 : (.selects RX2 yX2_lengthOf yX2_lengthOf : Cond) ∈ lw_tbl := tb_in1 _ (List.mem_of_getElem? (i := 214) rfl)
set_option maxRecDepth 20000 in
theorem tw111 : (.code yX2_isSatAt cX2_isSatAt 4 (some .boolean) : Cond) ∈ lw_tbl := tb_in2 _ (List.mem_of_getElem? (i := 230) rfl)
set_option maxRecDepth 20000 in
theorem tw112 : (.methodLink RX2 60 yX2_endOf : Cond) ∈ lw_tbl := tb_in2 _ (List.mem_of_getElem? (i := 128) rfl)
set_option maxRecDepth 20000 in
theorem tw113 : (.instanceMethod yX2_endOf : Cond) ∈ lw_tbl := tb_in1 _ (List.mem_of_getElem? (i := 208) rfl)
set_option maxRecDepth 20000 in
theorem tw114 : (.selects RX2 yX2_endOf yX2_endOf : Cond) ∈ lw_tbl := tb_in1 _ (List.mem_of_getElem? (i := 209) rfl)
set_option maxRecDepth 20000 in
theorem tw115 : (.code yJ6_bitCount_0f7a4 cJ6_bitCount_0f7a4 1 (some .int) : Cond) ∈ lw_tbl := tb_in2 _ (List.mem_of_getElem? (i := 131) rfl)
set_option maxRecDepth 20000 in
theorem tw116 : (.constant RJ6 265 (1431655765) : Cond) ∈ lw_tbl := tb_in2 _ (List.mem_of_getElem? (i := 132) rfl)
set_option maxRecDepth 20000 in
theorem tw117 : (.constant RJ6 266 (858993459) : Cond) ∈ lw_tbl := tb_in2 _ (List.mem_of_getElem? (i := 133) rfl)
set_option maxRecDepth 20000 in
theorem tw118 : (.constant RJ6 267 (252645135) : Cond) ∈ lw_tbl := tb_in2 _ (List.mem_of_getElem? (i := 134) rfl)
set_option maxRecDepth 20000 in
theorem tw119 : (.code yX2_sittings cX2_sittings 3 (some .int) : Cond) ∈ lw_tbl := tb_in2 _ (List.mem_of_getElem? (i := 239) rfl)
set_option maxRecDepth 20000 in
theorem tw120 : (.methodLink RX2 63 yJ6_bitCount_0f7a4 : Cond) ∈ lw_tbl := tb_in2 _ (List.mem_of_getElem? (i := 129) rfl)
set_option maxRecDepth 20000 in
theorem tw121 : (.static yJ6_bitCount_0f7a4 : Cond) ∈ lw_tbl := tb_in2 _ (List.mem_of_getElem? (i := 130) rfl)
set_option maxRecDepth 20000 in
theorem tw122 : (.initialized RJ6 : Cond) ∈ lw_tbl := tb_in1 _ (List.mem_of_getElem? (i := 7) rfl)
set_option maxRecDepth 20000 in
theorem tw123 : (.code yX2_minutesOf cX2_minutesOf 4 (some .int) : Cond) ∈ lw_tbl := tb_in2 _ (List.mem_of_getElem? (i := 174) rfl)
set_option maxRecDepth 20000 in
theorem tw124 : (.methodLink RX2 68 yX2_sits : Cond) ∈ lw_tbl := tb_in2 _ (List.mem_of_getElem? (i := 123) rfl)
set_option maxRecDepth 20000 in
theorem tw125 : (.instanceMethod yX2_sits : Cond) ∈ lw_tbl := tb_in1 _ (List.mem_of_getElem? (i := 186) rfl)
set_option maxRecDepth 20000 in
theorem tw126 : (.selects RX2 yX2_sits yX2_sits : Cond) ∈ lw_tbl := tb_in1 _ (List.mem_of_getElem? (i := 187) rfl)
set_option maxRecDepth 20000 in
theorem tw127 : (.code yX2_pupilsOf cX2_pupilsOf 4 (some .int) : Cond) ∈ lw_tbl := tb_in2 _ (List.mem_of_getElem? (i := 182) rfl)
set_option maxRecDepth 20000 in
theorem tw128 : (.code yX2_clashingPapers cX2_clashingPapers 5 (some .int) : Cond) ∈ lw_tbl := tb_in2 _ (List.mem_of_getElem? (i := 127) rfl)
set_option maxRecDepth 20000 in
theorem tw129 : (.methodLink RX2 71 yX2_clashingPapers : Cond) ∈ lw_tbl := tb_in2 _ (List.mem_of_getElem? (i := 124) rfl)
set_option maxRecDepth 20000 in
theorem tw130 : (.instanceMethod yX2_clashingPapers : Cond) ∈ lw_tbl := tb_in2 _ (List.mem_of_getElem? (i := 125) rfl)
set_option maxRecDepth 20000 in
theorem tw131 : (.selects RX2 yX2_clashingPapers yX2_clashingPapers : Cond) ∈ lw_tbl := tb_in2 _ (List.mem_of_getElem? (i := 126) rfl)
set_option maxRecDepth 20000 in
theorem tw132 : (.code yX2_clashesOf cX2_clashesOf 4 (some .int) : Cond) ∈ lw_tbl := tb_in2 _ (List.mem_of_getElem? (i := 122) rfl)
set_option maxRecDepth 20000 in
theorem tw133 : (.methodLink RX2 74 yX2_clashesOf : Cond) ∈ lw_tbl := tb_in3 _ (List.mem_of_getElem? (i := 4) rfl)
set_option maxRecDepth 20000 in
theorem tw134 : (.instanceMethod yX2_clashesOf : Cond) ∈ lw_tbl := tb_in2 _ (List.mem_of_getElem? (i := 120) rfl)
set_option maxRecDepth 20000 in
theorem tw135 : (.selects RX2 yX2_clashesOf yX2_clashesOf : Cond) ∈ lw_tbl := tb_in2 _ (List.mem_of_getElem? (i := 121) rfl)
set_option maxRecDepth 20000 in
theorem tw136 : (.code yX2_clashes cX2_clashes 3 (some .int) : Cond) ∈ lw_tbl := tb_in3 _ (List.mem_of_getElem? (i := 3) rfl)
set_option maxRecDepth 20000 in
theorem tw137 : (.methodLink RX2 77 Lib.Math.max.name : Cond) ∈ lw_tbl := tb_in2 _ (List.mem_of_getElem? (i := 187) rfl)
set_option maxRecDepth 20000 in
theorem tw138 : (.static Lib.Math.max.name : Cond) ∈ lw_tbl := tb_in2 _ (List.mem_of_getElem? (i := 188) rfl)
set_option maxRecDepth 20000 in
theorem tw139 : (.initialized "java/lang/Math" : Cond) ∈ lw_tbl := tb_in1 _ (List.mem_of_getElem? (i := 8) rfl)
set_option maxRecDepth 20000 in
theorem tw140 : (.code Lib.Math.max.name Lib.Math.max.code 2 (some .int) : Cond) ∈ lw_tbl := tb_in2 _ (List.mem_of_getElem? (i := 189) rfl)
set_option maxRecDepth 20000 in
theorem tw141 : (.code yX2_lastEndOf cX2_lastEndOf 4 (some .int) : Cond) ∈ lw_tbl := tb_in2 _ (List.mem_of_getElem? (i := 186) rfl)
set_option maxRecDepth 20000 in
theorem tw142 : (.methodLink RX2 82 yX2_lastEndOf : Cond) ∈ lw_tbl := tb_in3 _ (List.mem_of_getElem? (i := 24) rfl)
set_option maxRecDepth 20000 in
theorem tw143 : (.instanceMethod yX2_lastEndOf : Cond) ∈ lw_tbl := tb_in2 _ (List.mem_of_getElem? (i := 184) rfl)
set_option maxRecDepth 20000 in
theorem tw144 : (.selects RX2 yX2_lastEndOf yX2_lastEndOf : Cond) ∈ lw_tbl := tb_in2 _ (List.mem_of_getElem? (i := 185) rfl)
set_option maxRecDepth 20000 in
theorem tw145 : (.code yX2_lastEnd cX2_lastEnd 3 (some .int) : Cond) ∈ lw_tbl := tb_in3 _ (List.mem_of_getElem? (i := 23) rfl)
set_option maxRecDepth 20000 in
theorem tw146 : (.methodLink RX2 88 yX2_isSatAt : Cond) ∈ lw_tbl := tb_in3 _ (List.mem_of_getElem? (i := 19) rfl)
set_option maxRecDepth 20000 in
theorem tw147 : (.instanceMethod yX2_isSatAt : Cond) ∈ lw_tbl := tb_in2 _ (List.mem_of_getElem? (i := 228) rfl)
set_option maxRecDepth 20000 in
theorem tw148 : (.selects RX2 yX2_isSatAt yX2_isSatAt : Cond) ∈ lw_tbl := tb_in2 _ (List.mem_of_getElem? (i := 229) rfl)
set_option maxRecDepth 20000 in
theorem tw149 : (.code yX2_readersAt cX2_readersAt 5 (some .int) : Cond) ∈ lw_tbl := tb_in3 _ (List.mem_of_getElem? (i := 18) rfl)
set_option maxRecDepth 20000 in
theorem tw150 : (.methodLink RX2 85 yX2_readersAt : Cond) ∈ lw_tbl := tb_in3 _ (List.mem_of_getElem? (i := 15) rfl)
set_option maxRecDepth 20000 in
theorem tw151 : (.instanceMethod yX2_readersAt : Cond) ∈ lw_tbl := tb_in3 _ (List.mem_of_getElem? (i := 16) rfl)
set_option maxRecDepth 20000 in
theorem tw152 : (.selects RX2 yX2_readersAt yX2_readersAt : Cond) ∈ lw_tbl := tb_in3 _ (List.mem_of_getElem? (i := 17) rfl)
set_option maxRecDepth 20000 in
theorem tw153 : (.code yX2_mostReaders cX2_mostReaders 3 (some .int) : Cond) ∈ lw_tbl := tb_in3 _ (List.mem_of_getElem? (i := 14) rfl)
set_option maxRecDepth 20000 in
theorem tw154 : (.code yX2_isOpen cX2_isOpen 2 (some .boolean) : Cond) ∈ lw_tbl := tb_in1 _ (List.mem_of_getElem? (i := 223) rfl)
set_option maxRecDepth 20000 in
theorem tw155 : (.code yX2_desksOf cX2_desksOf 2 (some .int) : Cond) ∈ lw_tbl := tb_in2 _ (List.mem_of_getElem? (i := 153) rfl)
set_option maxRecDepth 20000 in
theorem tw156 : (.code yX2_openDesks cX2_openDesks 3 (some .int) : Cond) ∈ lw_tbl := tb_in3 _ (List.mem_of_getElem? (i := 8) rfl)
set_option maxRecDepth 20000 in
theorem tw157 : (.methodLink RX2 92 yX2_isOpen : Cond) ∈ lw_tbl := tb_in3 _ (List.mem_of_getElem? (i := 9) rfl)
set_option maxRecDepth 20000 in
theorem tw158 : (.instanceMethod yX2_isOpen : Cond) ∈ lw_tbl := tb_in1 _ (List.mem_of_getElem? (i := 221) rfl)
set_option maxRecDepth 20000 in
theorem tw159 : (.selects RX2 yX2_isOpen yX2_isOpen : Cond) ∈ lw_tbl := tb_in1 _ (List.mem_of_getElem? (i := 222) rfl)
set_option maxRecDepth 20000 in
theorem tw160 : (.methodLink RX2 96 yX2_desksOf : Cond) ∈ lw_tbl := tb_in3 _ (List.mem_of_getElem? (i := 10) rfl)
set_option maxRecDepth 20000 in
theorem tw161 : (.instanceMethod yX2_desksOf : Cond) ∈ lw_tbl := tb_in2 _ (List.mem_of_getElem? (i := 151) rfl)
set_option maxRecDepth 20000 in
theorem tw162 : (.selects RX2 yX2_desksOf yX2_desksOf : Cond) ∈ lw_tbl := tb_in2 _ (List.mem_of_getElem? (i := 152) rfl)
set_option maxRecDepth 20000 in
theorem tw163 : (.methodLink RX3 3 objectInit : Cond) ∈ lw_tbl := tb_in1 _ (List.mem_of_getElem? (i := 22) rfl)
set_option maxRecDepth 20000 in
theorem tw164 : (.classLink RX3 9 RX2 : Cond) ∈ lw_tbl := tb_in1 _ (List.mem_of_getElem? (i := 23) rfl)
set_option maxRecDepth 20000 in
theorem tw165 : (.fieldLink RX3 12 "ExamHalls$Seating" "school" "LExamHalls$School;" : Cond) ∈ lw_tbl := tb_in1 _ (List.mem_of_getElem? (i := 78) rfl)
set_option maxRecDepth 20000 in
theorem tw166 : (.fieldLink RX3 18 "ExamHalls$Seating" "halls" "[I" : Cond) ∈ lw_tbl := tb_in1 _ (List.mem_of_getElem? (i := 80) rfl)
set_option maxRecDepth 20000 in
theorem tw167 : (.fieldLink RX3 22 "ExamHalls$Seating" "desks" "[I" : Cond) ∈ lw_tbl := tb_in1 _ (List.mem_of_getElem? (i := 82) rfl)
set_option maxRecDepth 20000 in
theorem tw168 : (.fieldLink RX3 25 "ExamHalls$Seating" "rooms" "[I" : Cond) ∈ lw_tbl := tb_in1 _ (List.mem_of_getElem? (i := 84) rfl)
set_option maxRecDepth 20000 in
theorem tw169 : (.fieldLink RX3 28 "ExamHalls$Seating" "unplaced" "I" : Cond) ∈ lw_tbl := tb_in1 _ (List.mem_of_getElem? (i := 86) rfl)
set_option maxRecDepth 20000 in
theorem tw170 : (.fieldLink RX3 32 "ExamHalls$Seating" "unplacedReaders" "I" : Cond) ∈ lw_tbl := tb_in1 _ (List.mem_of_getElem? (i := 88) rfl)
set_option maxRecDepth 20000 in
theorem tw171 : (.fieldLink RX3 35 "ExamHalls$Seating" "deskEnds" "[I" : Cond) ∈ lw_tbl := tb_in1 _ (List.mem_of_getElem? (i := 90) rfl)
set_option maxRecDepth 20000 in
theorem tw172 : (.fieldLink RX3 38 "ExamHalls$Seating" "deskPapers" "[I" : Cond) ∈ lw_tbl := tb_in1 _ (List.mem_of_getElem? (i := 91) rfl)
set_option maxRecDepth 20000 in
theorem tw173 : (.fieldLink RX3 41 "ExamHalls$Seating" "roomEnds" "[I" : Cond) ∈ lw_tbl := tb_in1 _ (List.mem_of_getElem? (i := 92) rfl)
set_option maxRecDepth 20000 in
theorem tw174 : (.code yX3_init cX3_init 1 none : Cond) ∈ lw_tbl := tb_in1 _ (List.mem_of_getElem? (i := 21) rfl)
set_option maxRecDepth 20000 in
theorem tw175 : (.code yX3_clear cX3_clear 2 none : Cond) ∈ lw_tbl := tb_in1 _ (List.mem_of_getElem? (i := 180) rfl)
set_option maxRecDepth 20000 in
theorem tw176 : (.code yX3_isEarlyEnough cX3_isEarlyEnough 3 (some .boolean) : Cond) ∈ lw_tbl := tb_in1 _ (List.mem_of_getElem? (i := 199) rfl)
set_option maxRecDepth 20000 in
theorem tw177 : (.fieldLink RX3 72 "ExamHalls$School" "settings" "[I" : Cond) ∈ lw_tbl := tb_in1 _ (List.mem_of_getElem? (i := 31) rfl)
set_option maxRecDepth 20000 in
theorem tw178 : (.methodLink RX3 102 yX2_beginOf : Cond) ∈ lw_tbl := tb_in1 _ (List.mem_of_getElem? (i := 200) rfl)
set_option maxRecDepth 20000 in
theorem tw179 : (.code yX4_sittingNumber cX4_sittingNumber 2 (some .int) : Cond) ∈ lw_tbl := tb_in1 _ (List.mem_of_getElem? (i := 206) rfl)
set_option maxRecDepth 20000 in
theorem tw180 : (.methodLink RX3 75 yX3_isEarlyEnough : Cond) ∈ lw_tbl := tb_in1 _ (List.mem_of_getElem? (i := 196) rfl)
set_option maxRecDepth 20000 in
theorem tw181 : (.instanceMethod yX3_isEarlyEnough : Cond) ∈ lw_tbl := tb_in1 _ (List.mem_of_getElem? (i := 198) rfl)
set_option maxRecDepth 20000 in
theorem tw182 : (.selects RX3 yX3_isEarlyEnough yX3_isEarlyEnough : Cond) ∈ lw_tbl := tb_in0 _ (List.mem_of_getElem? (i := 3) rfl)
set_option maxRecDepth 20000 in
theorem tw183 : (.initialized RX3 : Cond) ∈ lw_tbl := tb_in1 _ (List.mem_of_getElem? (i := 2) rfl)
set_option maxRecDepth 20000 in
theorem tw184 : (.static yX4_sittingNumber : Cond) ∈ lw_tbl := tb_in1 _ (List.mem_of_getElem? (i := 205) rfl)
set_option maxRecDepth 20000 in
theorem tw185 : (.methodLink RX3 82 yX2_endOf : Cond) ∈ lw_tbl := tb_in1 _ (List.mem_of_getElem? (i := 207) rfl)
set_option maxRecDepth 20000 in
theorem tw186 : (.code yX3_seatInRoom cX3_seatInRoom 4 none : Cond) ∈ lw_tbl := tb_in1 _ (List.mem_of_getElem? (i := 195) rfl)
set_option maxRecDepth 20000 in
theorem tw187 : (.code yX3_isBeside cX3_isBeside 7 (some .boolean) : Cond) ∈ lw_tbl := tb_in1 _ (List.mem_of_getElem? (i := 231) rfl)
set_option maxRecDepth 20000 in
theorem tw188 : (.fieldLink RX3 95 "ExamHalls$School" "columns" "[I" : Cond) ∈ lw_tbl := tb_in1 _ (List.mem_of_getElem? (i := 48) rfl)
set_option maxRecDepth 20000 in
theorem tw189 : (.fieldLink RX3 92 "ExamHalls$School" "rows" "[I" : Cond) ∈ lw_tbl := tb_in1 _ (List.mem_of_getElem? (i := 45) rfl)
set_option maxRecDepth 20000 in
theorem tw190 : (.code yX3_firstDesk cX3_firstDesk 6 (some .int) : Cond) ∈ lw_tbl := tb_in1 _ (List.mem_of_getElem? (i := 227) rfl)
set_option maxRecDepth 20000 in
theorem tw191 : (.methodLink RX3 98 yX3_isBeside : Cond) ∈ lw_tbl := tb_in1 _ (List.mem_of_getElem? (i := 228) rfl)
set_option maxRecDepth 20000 in
theorem tw192 : (.instanceMethod yX3_isBeside : Cond) ∈ lw_tbl := tb_in1 _ (List.mem_of_getElem? (i := 230) rfl)
set_option maxRecDepth 20000 in
theorem tw193 : (.selects RX3 yX3_isBeside yX3_isBeside : Cond) ∈ lw_tbl := tb_in0 _ (List.mem_of_getElem? (i := 6) rfl)
set_option maxRecDepth 20000 in
theorem tw194 : (.methodLink RX3 85 yX2_isOpen : Cond) ∈ lw_tbl := tb_in1 _ (List.mem_of_getElem? (i := 220) rfl)
set_option maxRecDepth 20000 in
theorem tw195 : (.methodLink RX3 89 yX3_firstDesk : Cond) ∈ lw_tbl := tb_in1 _ (List.mem_of_getElem? (i := 224) rfl)
set_option maxRecDepth 20000 in
theorem tw196 : (.instanceMethod yX3_firstDesk : Cond) ∈ lw_tbl := tb_in1 _ (List.mem_of_getElem? (i := 226) rfl)
set_option maxRecDepth 20000 in
theorem tw197 : (.selects RX3 yX3_firstDesk yX3_firstDesk : Cond) ∈ lw_tbl := tb_in0 _ (List.mem_of_getElem? (i := 5) rfl)
set_option maxRecDepth 20000 in
theorem tw198 : (.code yX3_seatAtDesk cX3_seatAtDesk 6 none : Cond) ∈ lw_tbl := tb_in1 _ (List.mem_of_getElem? (i := 219) rfl)
set_option maxRecDepth 20000 in
theorem tw199 : (.fieldLink RX3 54 "ExamHalls$School" "pupils" "I" : Cond) ∈ lw_tbl := tb_in1 _ (List.mem_of_getElem? (i := 51) rfl)
set_option maxRecDepth 20000 in
theorem tw200 : (.fieldLink RX3 61 "ExamHalls$School" "readers" "[Z" : Cond) ∈ lw_tbl := tb_in1 _ (List.mem_of_getElem? (i := 42) rfl)
set_option maxRecDepth 20000 in
theorem tw201 : (.methodLink RX3 57 yX2_sits : Cond) ∈ lw_tbl := tb_in1 _ (List.mem_of_getElem? (i := 185) rfl)
set_option maxRecDepth 20000 in
theorem tw202 : (.methodLink RX3 65 yX3_seatInRoom : Cond) ∈ lw_tbl := tb_in1 _ (List.mem_of_getElem? (i := 192) rfl)
set_option maxRecDepth 20000 in
theorem tw203 : (.instanceMethod yX3_seatInRoom : Cond) ∈ lw_tbl := tb_in1 _ (List.mem_of_getElem? (i := 194) rfl)
set_option maxRecDepth 20000 in
theorem tw204 : (.selects RX3 yX3_seatInRoom yX3_seatInRoom : Cond) ∈ lw_tbl := tb_in0 _ (List.mem_of_getElem? (i := 2) rfl)
set_option maxRecDepth 20000 in
theorem tw205 : (.methodLink RX3 69 yX3_seatAtDesk : Cond) ∈ lw_tbl := tb_in1 _ (List.mem_of_getElem? (i := 216) rfl)
set_option maxRecDepth 20000 in
theorem tw206 : (.instanceMethod yX3_seatAtDesk : Cond) ∈ lw_tbl := tb_in1 _ (List.mem_of_getElem? (i := 218) rfl)
set_option maxRecDepth 20000 in
theorem tw207 : (.selects RX3 yX3_seatAtDesk yX3_seatAtDesk : Cond) ∈ lw_tbl := tb_in0 _ (List.mem_of_getElem? (i := 4) rfl)
set_option maxRecDepth 20000 in
theorem tw208 : (.code yX3_seatPupils cX3_seatPupils 3 none : Cond) ∈ lw_tbl := tb_in1 _ (List.mem_of_getElem? (i := 184) rfl)
set_option maxRecDepth 20000 in
theorem tw209 : (.fieldLink RX3 47 "ExamHalls$School" "starts" "[I" : Cond) ∈ lw_tbl := tb_in1 _ (List.mem_of_getElem? (i := 33) rfl)
set_option maxRecDepth 20000 in
theorem tw210 : (.methodLink RX3 44 yX3_clear : Cond) ∈ lw_tbl := tb_in1 _ (List.mem_of_getElem? (i := 177) rfl)
set_option maxRecDepth 20000 in
theorem tw211 : (.instanceMethod yX3_clear : Cond) ∈ lw_tbl := tb_in1 _ (List.mem_of_getElem? (i := 179) rfl)
set_option maxRecDepth 20000 in
theorem tw212 : (.selects RX3 yX3_clear yX3_clear : Cond) ∈ lw_tbl := tb_in0 _ (List.mem_of_getElem? (i := 0) rfl)
set_option maxRecDepth 20000 in
theorem tw213 : (.methodLink RX3 50 yX3_seatPupils : Cond) ∈ lw_tbl := tb_in1 _ (List.mem_of_getElem? (i := 181) rfl)
set_option maxRecDepth 20000 in
theorem tw214 : (.instanceMethod yX3_seatPupils : Cond) ∈ lw_tbl := tb_in1 _ (List.mem_of_getElem? (i := 183) rfl)
set_option maxRecDepth 20000 in
theorem tw215 : (.selects RX3 yX3_seatPupils yX3_seatPupils : Cond) ∈ lw_tbl := tb_in0 _ (List.mem_of_getElem? (i := 1) rfl)
set_option maxRecDepth 20000 in
theorem tw216 : (.code yX3_seatAll cX3_seatAll 3 none : Cond) ∈ lw_tbl := tb_in1 _ (List.mem_of_getElem? (i := 176) rfl)
set_option maxRecDepth 20000 in
theorem tw217 : (.code yX3_isUnplaced cX3_isUnplaced 4 (some .boolean) : Cond) ∈ lw_tbl := tb_in2 _ (List.mem_of_getElem? (i := 170) rfl)
set_option maxRecDepth 20000 in
theorem tw218 : (.code yX3_unplacedPapersOf cX3_unplacedPapersOf 4 (some .int) : Cond) ∈ lw_tbl := tb_in2 _ (List.mem_of_getElem? (i := 166) rfl)
set_option maxRecDepth 20000 in
theorem tw219 : (.methodLink RX3 109 yX3_isUnplaced : Cond) ∈ lw_tbl := tb_in2 _ (List.mem_of_getElem? (i := 167) rfl)
set_option maxRecDepth 20000 in
theorem tw220 : (.instanceMethod yX3_isUnplaced : Cond) ∈ lw_tbl := tb_in2 _ (List.mem_of_getElem? (i := 168) rfl)
set_option maxRecDepth 20000 in
theorem tw221 : (.selects RX3 yX3_isUnplaced yX3_isUnplaced : Cond) ∈ lw_tbl := tb_in2 _ (List.mem_of_getElem? (i := 169) rfl)
set_option maxRecDepth 20000 in
theorem tw222 : (.code yX3_unplacedOf cX3_unplacedOf 4 (some .int) : Cond) ∈ lw_tbl := tb_in2 _ (List.mem_of_getElem? (i := 193) rfl)
set_option maxRecDepth 20000 in
theorem tw223 : (.code yX3_hallsOf cX3_hallsOf 5 (some .int) : Cond) ∈ lw_tbl := tb_in2 _ (List.mem_of_getElem? (i := 197) rfl)
set_option maxRecDepth 20000 in
theorem tw224 : (.code yX3_seatedIn cX3_seatedIn 4 (some .int) : Cond) ∈ lw_tbl := tb_in2 _ (List.mem_of_getElem? (i := 214) rfl)
set_option maxRecDepth 20000 in
theorem tw225 : (.code yX3_isNow cX3_isNow 3 (some .boolean) : Cond) ∈ lw_tbl := tb_in2 _ (List.mem_of_getElem? (i := 226) rfl)
set_option maxRecDepth 20000 in
theorem tw226 : (.methodLink RX3 123 yX2_isSatAt : Cond) ∈ lw_tbl := tb_in2 _ (List.mem_of_getElem? (i := 227) rfl)
set_option maxRecDepth 20000 in
theorem tw227 : (.methodLink RX3 120 yX3_isNow : Cond) ∈ lw_tbl := tb_in2 _ (List.mem_of_getElem? (i := 223) rfl)
set_option maxRecDepth 20000 in
theorem tw228 : (.instanceMethod yX3_isNow : Cond) ∈ lw_tbl := tb_in2 _ (List.mem_of_getElem? (i := 225) rfl)
set_option maxRecDepth 20000 in
theorem tw229 : (.selects RX3 yX3_isNow yX3_isNow : Cond) ∈ lw_tbl := tb_in0 _ (List.mem_of_getElem? (i := 19) rfl)
set_option maxRecDepth 20000 in
theorem tw230 : (.code yX3_takenIn cX3_takenIn 5 (some .int) : Cond) ∈ lw_tbl := tb_in2 _ (List.mem_of_getElem? (i := 222) rfl)
set_option maxRecDepth 20000 in
theorem tw231 : (.methodLink RX3 115 Lib.Math.max.name : Cond) ∈ lw_tbl := tb_in2 _ (List.mem_of_getElem? (i := 231) rfl)
set_option maxRecDepth 20000 in
theorem tw232 : (.methodLink RX3 112 yX3_takenIn : Cond) ∈ lw_tbl := tb_in2 _ (List.mem_of_getElem? (i := 219) rfl)
set_option maxRecDepth 20000 in
theorem tw233 : (.instanceMethod yX3_takenIn : Cond) ∈ lw_tbl := tb_in2 _ (List.mem_of_getElem? (i := 221) rfl)
set_option maxRecDepth 20000 in
theorem tw234 : (.selects RX3 yX3_takenIn yX3_takenIn : Cond) ∈ lw_tbl := tb_in0 _ (List.mem_of_getElem? (i := 18) rfl)
set_option maxRecDepth 20000 in
theorem tw235 : (.code yX3_mostTakenIn cX3_mostTakenIn 4 (some .int) : Cond) ∈ lw_tbl := tb_in2 _ (List.mem_of_getElem? (i := 218) rfl)
set_option maxRecDepth 20000 in
theorem tw236 : (.code yX3_sittingAt cX3_sittingAt 5 (some .int) : Cond) ∈ lw_tbl := tb_in3 _ (List.mem_of_getElem? (i := 32) rfl)
set_option maxRecDepth 20000 in
theorem tw237 : (.methodLink RX4 3 objectInit : Cond) ∈ lw_tbl := tb_in1 _ (List.mem_of_getElem? (i := 14) rfl)
set_option maxRecDepth 20000 in
theorem tw238 : (.classLink RX4 9 RX3 : Cond) ∈ lw_tbl := tb_in1 _ (List.mem_of_getElem? (i := 17) rfl)
set_option maxRecDepth 20000 in
theorem tw239 : (.instantiable RX3 9 : Cond) ∈ lw_tbl := tb_in1 _ (List.mem_of_getElem? (i := 18) rfl)
set_option maxRecDepth 20000 in
theorem tw240 : (.fieldLink RX4 12 "ExamHalls" "seating" "LExamHalls$Seating;" : Cond) ∈ lw_tbl := tb_in1 _ (List.mem_of_getElem? (i := 233) rfl)
set_option maxRecDepth 20000 in
theorem tw241 : (.fieldLink RX4 16 "ExamHalls$Seating" "school" "LExamHalls$School;" : Cond) ∈ lw_tbl := tb_in1 _ (List.mem_of_getElem? (i := 79) rfl)
set_option maxRecDepth 20000 in
theorem tw242 : (.fieldLink RX4 20 "ExamHalls" "school" "LExamHalls$School;" : Cond) ∈ lw_tbl := tb_in1 _ (List.mem_of_getElem? (i := 234) rfl)
set_option maxRecDepth 20000 in
theorem tw243 : (.fieldLink RX4 21 "ExamHalls" "trialSeating" "LExamHalls$Seating;" : Cond) ∈ lw_tbl := tb_in1 _ (List.mem_of_getElem? (i := 235) rfl)
set_option maxRecDepth 20000 in
theorem tw244 : (.fieldLink RX4 24 "ExamHalls" "trial" "LExamHalls$School;" : Cond) ∈ lw_tbl := tb_in1 _ (List.mem_of_getElem? (i := 236) rfl)
set_option maxRecDepth 20000 in
theorem tw245 : (.classLink RX4 27 RX1 : Cond) ∈ lw_tbl := tb_in1 _ (List.mem_of_getElem? (i := 112) rfl)
set_option maxRecDepth 20000 in
theorem tw246 : (.instantiable RX1 10 : Cond) ∈ lw_tbl := tb_in1 _ (List.mem_of_getElem? (i := 113) rfl)
set_option maxRecDepth 20000 in
theorem tw247 : (.fieldLink RX4 30 "ExamHalls" "pad" "LExamHalls$Pad;" : Cond) ∈ lw_tbl := tb_in1 _ (List.mem_of_getElem? (i := 237) rfl)
set_option maxRecDepth 20000 in
theorem tw248 : (.classLink RX4 34 RX0 : Cond) ∈ lw_tbl := tb_in1 _ (List.mem_of_getElem? (i := 154) rfl)
set_option maxRecDepth 20000 in
theorem tw249 : (.instantiable RX0 2 : Cond) ∈ lw_tbl := tb_in1 _ (List.mem_of_getElem? (i := 155) rfl)
set_option maxRecDepth 20000 in
theorem tw250 : (.fieldLink RX4 37 "ExamHalls" "history" "LExamHalls$History;" : Cond) ∈ lw_tbl := tb_in1 _ (List.mem_of_getElem? (i := 238) rfl)
set_option maxRecDepth 20000 in
theorem tw251 : (.classLink RX4 41 RX2 : Cond) ∈ lw_tbl := tb_in1 _ (List.mem_of_getElem? (i := 171) rfl)
set_option maxRecDepth 20000 in
theorem tw252 : (.fieldLink RX4 44 "ExamHalls" "slots" "[LExamHalls$School;" : Cond) ∈ lw_tbl := tb_in1 _ (List.mem_of_getElem? (i := 239) rfl)
set_option maxRecDepth 20000 in
theorem tw253 : (.fieldLink RX4 48 "ExamHalls" "slotIsUsed" "[Z" : Cond) ∈ lw_tbl := tb_in2 _ (List.mem_of_getElem? (i := 0) rfl)
set_option maxRecDepth 20000 in
theorem tw254 : (.instanceMethod yX3_init : Cond) ∈ lw_tbl := tb_in1 _ (List.mem_of_getElem? (i := 20) rfl)
set_option maxRecDepth 20000 in
theorem tw255 : (.instanceMethod yX1_init : Cond) ∈ lw_tbl := tb_in1 _ (List.mem_of_getElem? (i := 115) rfl)
set_option maxRecDepth 20000 in
theorem tw256 : (.methodLink RX4 36 yX0_init : Cond) ∈ lw_tbl := tb_in1 _ (List.mem_of_getElem? (i := 156) rfl)
set_option maxRecDepth 20000 in
theorem tw257 : (.instanceMethod yX0_init : Cond) ∈ lw_tbl := tb_in1 _ (List.mem_of_getElem? (i := 157) rfl)
set_option maxRecDepth 20000 in
theorem tw258 : (.methodLink RX4 52 yX3_seatAll : Cond) ∈ lw_tbl := tb_in1 _ (List.mem_of_getElem? (i := 173) rfl)
set_option maxRecDepth 20000 in
theorem tw259 : (.instanceMethod yX3_seatAll : Cond) ∈ lw_tbl := tb_in1 _ (List.mem_of_getElem? (i := 174) rfl)
set_option maxRecDepth 20000 in
theorem tw260 : (.selects RX3 yX3_seatAll yX3_seatAll : Cond) ∈ lw_tbl := tb_in1 _ (List.mem_of_getElem? (i := 175) rfl)
set_option maxRecDepth 20000 in
theorem tw261 : (.code yX4_init cX4_init 1 none : Cond) ∈ lw_tbl := tb_in1 _ (List.mem_of_getElem? (i := 13) rfl)
set_option maxRecDepth 20000 in
theorem tw262 : (.fieldLink RX4 59 "ExamHalls" "HIGHEST_SETTINGS" "[I" : Cond) ∈ lw_tbl := tb_in2 _ (List.mem_of_getElem? (i := 25) rfl)
set_option maxRecDepth 20000 in
theorem tw263 : (.fieldLink RX4 63 "ExamHalls$School" "settings" "[I" : Cond) ∈ lw_tbl := tb_in1 _ (List.mem_of_getElem? (i := 30) rfl)
set_option maxRecDepth 20000 in
theorem tw264 : (.methodLink RX4 66 yX0_remember : Cond) ∈ lw_tbl := tb_in2 _ (List.mem_of_getElem? (i := 27) rfl)
set_option maxRecDepth 20000 in
theorem tw265 : (.instanceMethod yX0_remember : Cond) ∈ lw_tbl := tb_in2 _ (List.mem_of_getElem? (i := 28) rfl)
set_option maxRecDepth 20000 in
theorem tw266 : (.selects RX0 yX0_remember yX0_remember : Cond) ∈ lw_tbl := tb_in2 _ (List.mem_of_getElem? (i := 29) rfl)
set_option maxRecDepth 20000 in
theorem tw267 : (.code yX4_set cX4_set 4 (some .int) : Cond) ∈ lw_tbl := tb_in2 _ (List.mem_of_getElem? (i := 21) rfl)
set_option maxRecDepth 20000 in
theorem tw268 : (.code yX4_isStart cX4_isStart 1 (some .boolean) : Cond) ∈ lw_tbl := tb_in2 _ (List.mem_of_getElem? (i := 48) rfl)
set_option maxRecDepth 20000 in
theorem tw269 : (.fieldLink RX4 77 "ExamHalls$School" "starts" "[I" : Cond) ∈ lw_tbl := tb_in1 _ (List.mem_of_getElem? (i := 34) rfl)
set_option maxRecDepth 20000 in
theorem tw270 : (.fieldLink RX4 80 "ExamHalls$School" "minutes" "[I" : Cond) ∈ lw_tbl := tb_in1 _ (List.mem_of_getElem? (i := 36) rfl)
set_option maxRecDepth 20000 in
theorem tw271 : (.methodLink RX4 70 yX4_isPaper : Cond) ∈ lw_tbl := tb_in2 _ (List.mem_of_getElem? (i := 43) rfl)
set_option maxRecDepth 20000 in
theorem tw272 : (.methodLink RX4 74 yX4_isStart : Cond) ∈ lw_tbl := tb_in2 _ (List.mem_of_getElem? (i := 46) rfl)
set_option maxRecDepth 20000 in
theorem tw273 : (.static yX4_isStart : Cond) ∈ lw_tbl := tb_in2 _ (List.mem_of_getElem? (i := 47) rfl)
set_option maxRecDepth 20000 in
theorem tw274 : (.code yX4_paper cX4_paper 5 (some .int) : Cond) ∈ lw_tbl := tb_in2 _ (List.mem_of_getElem? (i := 42) rfl)
set_option maxRecDepth 20000 in
theorem tw275 : (.code yX4_isPupilData cX4_isPupilData 2 (some .boolean) : Cond) ∈ lw_tbl := tb_in2 _ (List.mem_of_getElem? (i := 55) rfl)
set_option maxRecDepth 20000 in
theorem tw276 : (.fieldLink RX4 87 "ExamHalls$School" "pupils" "I" : Cond) ∈ lw_tbl := tb_in1 _ (List.mem_of_getElem? (i := 52) rfl)
set_option maxRecDepth 20000 in
theorem tw277 : (.methodLink RX4 83 yX4_isPupilData : Cond) ∈ lw_tbl := tb_in2 _ (List.mem_of_getElem? (i := 53) rfl)
set_option maxRecDepth 20000 in
theorem tw278 : (.static yX4_isPupilData : Cond) ∈ lw_tbl := tb_in2 _ (List.mem_of_getElem? (i := 54) rfl)
set_option maxRecDepth 20000 in
theorem tw279 : (.methodLink RX4 91 yX2_addPupil : Cond) ∈ lw_tbl := tb_in2 _ (List.mem_of_getElem? (i := 56) rfl)
set_option maxRecDepth 20000 in
theorem tw280 : (.instanceMethod yX2_addPupil : Cond) ∈ lw_tbl := tb_in2 _ (List.mem_of_getElem? (i := 57) rfl)
set_option maxRecDepth 20000 in
theorem tw281 : (.selects RX2 yX2_addPupil yX2_addPupil : Cond) ∈ lw_tbl := tb_in2 _ (List.mem_of_getElem? (i := 58) rfl)
set_option maxRecDepth 20000 in
theorem tw282 : (.code yX4_pupil cX4_pupil 5 (some .int) : Cond) ∈ lw_tbl := tb_in2 _ (List.mem_of_getElem? (i := 52) rfl)
set_option maxRecDepth 20000 in
theorem tw283 : (.fieldLink RX4 99 "ExamHalls$Pad" "found" "I" : Cond) ∈ lw_tbl := tb_in1 _ (List.mem_of_getElem? (i := 128) rfl)
set_option maxRecDepth 20000 in
theorem tw284 : (.fieldLink RX4 102 "ExamHalls$Pad" "foundPapers" "[I" : Cond) ∈ lw_tbl := tb_in1 _ (List.mem_of_getElem? (i := 122) rfl)
set_option maxRecDepth 20000 in
theorem tw285 : (.fieldLink RX4 105 "ExamHalls$Pad" "foundExtras" "[I" : Cond) ∈ lw_tbl := tb_in1 _ (List.mem_of_getElem? (i := 124) rfl)
set_option maxRecDepth 20000 in
theorem tw286 : (.fieldLink RX4 108 "ExamHalls$Pad" "foundReaders" "[Z" : Cond) ∈ lw_tbl := tb_in1 _ (List.mem_of_getElem? (i := 126) rfl)
set_option maxRecDepth 20000 in
theorem tw287 : (.fieldLink RX4 111 "ExamHalls$Pad" "length" "I" : Cond) ∈ lw_tbl := tb_in1 _ (List.mem_of_getElem? (i := 120) rfl)
set_option maxRecDepth 20000 in
theorem tw288 : (.methodLink RX4 95 yX1_findFault : Cond) ∈ lw_tbl := tb_in2 _ (List.mem_of_getElem? (i := 68) rfl)
set_option maxRecDepth 20000 in
theorem tw289 : (.instanceMethod yX1_findFault : Cond) ∈ lw_tbl := tb_in2 _ (List.mem_of_getElem? (i := 69) rfl)
set_option maxRecDepth 20000 in
theorem tw290 : (.selects RX1 yX1_findFault yX1_findFault : Cond) ∈ lw_tbl := tb_in2 _ (List.mem_of_getElem? (i := 70) rfl)
set_option maxRecDepth 20000 in
theorem tw291 : (.code yX4_read cX4_read 2 (some .int) : Cond) ∈ lw_tbl := tb_in2 _ (List.mem_of_getElem? (i := 67) rfl)
set_option maxRecDepth 20000 in
theorem tw292 : (.code yX4_isPupil cX4_isPupil 2 (some .boolean) : Cond) ∈ lw_tbl := tb_in2 _ (List.mem_of_getElem? (i := 117) rfl)
set_option maxRecDepth 20000 in
theorem tw293 : (.methodLink RX4 114 yX4_isPupil : Cond) ∈ lw_tbl := tb_in2 _ (List.mem_of_getElem? (i := 114) rfl)
set_option maxRecDepth 20000 in
theorem tw294 : (.instanceMethod yX4_isPupil : Cond) ∈ lw_tbl := tb_in2 _ (List.mem_of_getElem? (i := 116) rfl)
set_option maxRecDepth 20000 in
theorem tw295 : (.selects RX4 yX4_isPupil yX4_isPupil : Cond) ∈ lw_tbl := tb_in0 _ (List.mem_of_getElem? (i := 17) rfl)
set_option maxRecDepth 20000 in
theorem tw296 : (.methodLink RX4 117 yX2_writePupil : Cond) ∈ lw_tbl := tb_in2 _ (List.mem_of_getElem? (i := 118) rfl)
set_option maxRecDepth 20000 in
theorem tw297 : (.methodLink RX4 121 yX2_clashesOf : Cond) ∈ lw_tbl := tb_in2 _ (List.mem_of_getElem? (i := 119) rfl)
set_option maxRecDepth 20000 in
theorem tw298 : (.code yX4_change cX4_change 5 (some .int) : Cond) ∈ lw_tbl := tb_in2 _ (List.mem_of_getElem? (i := 113) rfl)
set_option maxRecDepth 20000 in
theorem tw299 : (.fieldLink RX4 125 "ExamHalls$School" "papers" "[I" : Cond) ∈ lw_tbl := tb_in1 _ (List.mem_of_getElem? (i := 38) rfl)
set_option maxRecDepth 20000 in
theorem tw300 : (.methodLink RX4 128 yX2_removePupil : Cond) ∈ lw_tbl := tb_in2 _ (List.mem_of_getElem? (i := 139) rfl)
set_option maxRecDepth 20000 in
theorem tw301 : (.instanceMethod yX2_removePupil : Cond) ∈ lw_tbl := tb_in2 _ (List.mem_of_getElem? (i := 140) rfl)
set_option maxRecDepth 20000 in
theorem tw302 : (.selects RX2 yX2_removePupil yX2_removePupil : Cond) ∈ lw_tbl := tb_in2 _ (List.mem_of_getElem? (i := 141) rfl)
set_option maxRecDepth 20000 in
theorem tw303 : (.code yX4_leave cX4_leave 3 (some .int) : Cond) ∈ lw_tbl := tb_in2 _ (List.mem_of_getElem? (i := 138) rfl)
set_option maxRecDepth 20000 in
theorem tw304 : (.code yX4_isHall cX4_isHall 1 (some .boolean) : Cond) ∈ lw_tbl := tb_in2 _ (List.mem_of_getElem? (i := 149) rfl)
set_option maxRecDepth 20000 in
theorem tw305 : (.fieldLink RX4 138 "ExamHalls$School" "rows" "[I" : Cond) ∈ lw_tbl := tb_in1 _ (List.mem_of_getElem? (i := 46) rfl)
set_option maxRecDepth 20000 in
theorem tw306 : (.fieldLink RX4 141 "ExamHalls$School" "columns" "[I" : Cond) ∈ lw_tbl := tb_in1 _ (List.mem_of_getElem? (i := 49) rfl)
set_option maxRecDepth 20000 in
theorem tw307 : (.methodLink RX4 132 yX4_isHall : Cond) ∈ lw_tbl := tb_in2 _ (List.mem_of_getElem? (i := 147) rfl)
set_option maxRecDepth 20000 in
theorem tw308 : (.static yX4_isHall : Cond) ∈ lw_tbl := tb_in2 _ (List.mem_of_getElem? (i := 148) rfl)
set_option maxRecDepth 20000 in
theorem tw309 : (.methodLink RX4 135 yX2_desksOf : Cond) ∈ lw_tbl := tb_in2 _ (List.mem_of_getElem? (i := 150) rfl)
set_option maxRecDepth 20000 in
theorem tw310 : (.code yX4_hall cX4_hall 5 (some .int) : Cond) ∈ lw_tbl := tb_in2 _ (List.mem_of_getElem? (i := 146) rfl)
set_option maxRecDepth 20000 in
theorem tw311 : (.fieldLink RX4 147 "ExamHalls$School" "openHalls" "I" : Cond) ∈ lw_tbl := tb_in1 _ (List.mem_of_getElem? (i := 54) rfl)
set_option maxRecDepth 20000 in
theorem tw312 : (.fieldLink RX4 150 "ExamHalls$Seating" "unplaced" "I" : Cond) ∈ lw_tbl := tb_in1 _ (List.mem_of_getElem? (i := 87) rfl)
set_option maxRecDepth 20000 in
theorem tw313 : (.methodLink RX4 144 yX2_isOpen : Cond) ∈ lw_tbl := tb_in2 _ (List.mem_of_getElem? (i := 158) rfl)
set_option maxRecDepth 20000 in
theorem tw314 : (.code yX4_open cX4_open 3 (some .int) : Cond) ∈ lw_tbl := tb_in2 _ (List.mem_of_getElem? (i := 157) rfl)
set_option maxRecDepth 20000 in
theorem tw315 : (.fieldLink RX4 153 "ExamHalls$School" "extras" "[I" : Cond) ∈ lw_tbl := tb_in1 _ (List.mem_of_getElem? (i := 40) rfl)
set_option maxRecDepth 20000 in
theorem tw316 : (.fieldLink RX4 156 "ExamHalls$School" "readers" "[Z" : Cond) ∈ lw_tbl := tb_in1 _ (List.mem_of_getElem? (i := 43) rfl)
set_option maxRecDepth 20000 in
theorem tw317 : (.methodLink RX4 159 yX3_unplacedPapersOf : Cond) ∈ lw_tbl := tb_in2 _ (List.mem_of_getElem? (i := 163) rfl)
set_option maxRecDepth 20000 in
theorem tw318 : (.instanceMethod yX3_unplacedPapersOf : Cond) ∈ lw_tbl := tb_in2 _ (List.mem_of_getElem? (i := 164) rfl)
set_option maxRecDepth 20000 in
theorem tw319 : (.selects RX3 yX3_unplacedPapersOf yX3_unplacedPapersOf : Cond) ∈ lw_tbl := tb_in2 _ (List.mem_of_getElem? (i := 165) rfl)
set_option maxRecDepth 20000 in
theorem tw320 : (.methodLink RX4 162 yX2_minutesOf : Cond) ∈ lw_tbl := tb_in2 _ (List.mem_of_getElem? (i := 171) rfl)
set_option maxRecDepth 20000 in
theorem tw321 : (.instanceMethod yX2_minutesOf : Cond) ∈ lw_tbl := tb_in2 _ (List.mem_of_getElem? (i := 172) rfl)
set_option maxRecDepth 20000 in
theorem tw322 : (.selects RX2 yX2_minutesOf yX2_minutesOf : Cond) ∈ lw_tbl := tb_in2 _ (List.mem_of_getElem? (i := 173) rfl)
set_option maxRecDepth 20000 in
theorem tw323 : (.code yX4_pupilOf cX4_pupilOf 3 (some .int) : Cond) ∈ lw_tbl := tb_in2 _ (List.mem_of_getElem? (i := 162) rfl)
set_option maxRecDepth 20000 in
theorem tw324 : (.methodLink RX4 165 yX2_pupilsOf : Cond) ∈ lw_tbl := tb_in2 _ (List.mem_of_getElem? (i := 179) rfl)
set_option maxRecDepth 20000 in
theorem tw325 : (.instanceMethod yX2_pupilsOf : Cond) ∈ lw_tbl := tb_in2 _ (List.mem_of_getElem? (i := 180) rfl)
set_option maxRecDepth 20000 in
theorem tw326 : (.selects RX2 yX2_pupilsOf yX2_pupilsOf : Cond) ∈ lw_tbl := tb_in2 _ (List.mem_of_getElem? (i := 181) rfl)
set_option maxRecDepth 20000 in
theorem tw327 : (.methodLink RX4 168 yX2_lastEndOf : Cond) ∈ lw_tbl := tb_in2 _ (List.mem_of_getElem? (i := 183) rfl)
set_option maxRecDepth 20000 in
theorem tw328 : (.methodLink RX4 171 yX3_unplacedOf : Cond) ∈ lw_tbl := tb_in2 _ (List.mem_of_getElem? (i := 190) rfl)
set_option maxRecDepth 20000 in
theorem tw329 : (.instanceMethod yX3_unplacedOf : Cond) ∈ lw_tbl := tb_in2 _ (List.mem_of_getElem? (i := 191) rfl)
set_option maxRecDepth 20000 in
theorem tw330 : (.selects RX3 yX3_unplacedOf yX3_unplacedOf : Cond) ∈ lw_tbl := tb_in2 _ (List.mem_of_getElem? (i := 192) rfl)
set_option maxRecDepth 20000 in
theorem tw331 : (.methodLink RX4 174 yX3_hallsOf : Cond) ∈ lw_tbl := tb_in2 _ (List.mem_of_getElem? (i := 194) rfl)
set_option maxRecDepth 20000 in
theorem tw332 : (.instanceMethod yX3_hallsOf : Cond) ∈ lw_tbl := tb_in2 _ (List.mem_of_getElem? (i := 195) rfl)
set_option maxRecDepth 20000 in
theorem tw333 : (.selects RX3 yX3_hallsOf yX3_hallsOf : Cond) ∈ lw_tbl := tb_in2 _ (List.mem_of_getElem? (i := 196) rfl)
set_option maxRecDepth 20000 in
theorem tw334 : (.code yX4_paperOf cX4_paperOf 3 (some .int) : Cond) ∈ lw_tbl := tb_in2 _ (List.mem_of_getElem? (i := 178) rfl)
set_option maxRecDepth 20000 in
theorem tw335 : (.fieldLink RX4 190 "ExamHalls$Seating" "halls" "[I" : Cond) ∈ lw_tbl := tb_in1 _ (List.mem_of_getElem? (i := 81) rfl)
set_option maxRecDepth 20000 in
theorem tw336 : (.fieldLink RX4 193 "ExamHalls$Seating" "desks" "[I" : Cond) ∈ lw_tbl := tb_in1 _ (List.mem_of_getElem? (i := 83) rfl)
set_option maxRecDepth 20000 in
theorem tw337 : (.fieldLink RX4 196 "ExamHalls$Seating" "rooms" "[I" : Cond) ∈ lw_tbl := tb_in1 _ (List.mem_of_getElem? (i := 85) rfl)
set_option maxRecDepth 20000 in
theorem tw338 : (.methodLink RX4 177 yX2_sits : Cond) ∈ lw_tbl := tb_in2 _ (List.mem_of_getElem? (i := 202) rfl)
set_option maxRecDepth 20000 in
theorem tw339 : (.methodLink RX4 180 yX4_sittingNumber : Cond) ∈ lw_tbl := tb_in2 _ (List.mem_of_getElem? (i := 203) rfl)
set_option maxRecDepth 20000 in
theorem tw340 : (.methodLink RX4 184 yX2_beginOf : Cond) ∈ lw_tbl := tb_in2 _ (List.mem_of_getElem? (i := 204) rfl)
set_option maxRecDepth 20000 in
theorem tw341 : (.methodLink RX4 187 yX2_endOf : Cond) ∈ lw_tbl := tb_in2 _ (List.mem_of_getElem? (i := 205) rfl)
set_option maxRecDepth 20000 in
theorem tw342 : (.methodLink RX4 199 yX2_clashingPapers : Cond) ∈ lw_tbl := tb_in2 _ (List.mem_of_getElem? (i := 206) rfl)
set_option maxRecDepth 20000 in
theorem tw343 : (.code yX4_sitting cX4_sitting 5 (some .int) : Cond) ∈ lw_tbl := tb_in2 _ (List.mem_of_getElem? (i := 201) rfl)
set_option maxRecDepth 20000 in
theorem tw344 : (.methodLink RX4 202 yX3_seatedIn : Cond) ∈ lw_tbl := tb_in2 _ (List.mem_of_getElem? (i := 211) rfl)
set_option maxRecDepth 20000 in
theorem tw345 : (.instanceMethod yX3_seatedIn : Cond) ∈ lw_tbl := tb_in2 _ (List.mem_of_getElem? (i := 212) rfl)
set_option maxRecDepth 20000 in
theorem tw346 : (.selects RX3 yX3_seatedIn yX3_seatedIn : Cond) ∈ lw_tbl := tb_in2 _ (List.mem_of_getElem? (i := 213) rfl)
set_option maxRecDepth 20000 in
theorem tw347 : (.methodLink RX4 205 yX3_mostTakenIn : Cond) ∈ lw_tbl := tb_in2 _ (List.mem_of_getElem? (i := 215) rfl)
set_option maxRecDepth 20000 in
theorem tw348 : (.instanceMethod yX3_mostTakenIn : Cond) ∈ lw_tbl := tb_in2 _ (List.mem_of_getElem? (i := 216) rfl)
set_option maxRecDepth 20000 in
theorem tw349 : (.selects RX3 yX3_mostTakenIn yX3_mostTakenIn : Cond) ∈ lw_tbl := tb_in2 _ (List.mem_of_getElem? (i := 217) rfl)
set_option maxRecDepth 20000 in
theorem tw350 : (.code yX4_hallOf cX4_hallOf 3 (some .int) : Cond) ∈ lw_tbl := tb_in2 _ (List.mem_of_getElem? (i := 210) rfl)
set_option maxRecDepth 20000 in
theorem tw351 : (.fieldLink RX4 223 "ExamHalls$History" "size" "I" : Cond) ∈ lw_tbl := tb_in1 _ (List.mem_of_getElem? (i := 165) rfl)
set_option maxRecDepth 20000 in
theorem tw352 : (.methodLink RX4 208 yX2_sittings : Cond) ∈ lw_tbl := tb_in2 _ (List.mem_of_getElem? (i := 236) rfl)
set_option maxRecDepth 20000 in
theorem tw353 : (.instanceMethod yX2_sittings : Cond) ∈ lw_tbl := tb_in2 _ (List.mem_of_getElem? (i := 237) rfl)
set_option maxRecDepth 20000 in
theorem tw354 : (.selects RX2 yX2_sittings yX2_sittings : Cond) ∈ lw_tbl := tb_in2 _ (List.mem_of_getElem? (i := 238) rfl)
set_option maxRecDepth 20000 in
theorem tw355 : (.methodLink RX4 211 yX2_clashes : Cond) ∈ lw_tbl := tb_in3 _ (List.mem_of_getElem? (i := 0) rfl)
set_option maxRecDepth 20000 in
theorem tw356 : (.instanceMethod yX2_clashes : Cond) ∈ lw_tbl := tb_in3 _ (List.mem_of_getElem? (i := 1) rfl)
set_option maxRecDepth 20000 in
theorem tw357 : (.selects RX2 yX2_clashes yX2_clashes : Cond) ∈ lw_tbl := tb_in3 _ (List.mem_of_getElem? (i := 2) rfl)
set_option maxRecDepth 20000 in
theorem tw358 : (.methodLink RX4 214 yX2_openDesks : Cond) ∈ lw_tbl := tb_in3 _ (List.mem_of_getElem? (i := 5) rfl)
set_option maxRecDepth 20000 in
theorem tw359 : (.instanceMethod yX2_openDesks : Cond) ∈ lw_tbl := tb_in3 _ (List.mem_of_getElem? (i := 6) rfl)
set_option maxRecDepth 20000 in
theorem tw360 : (.selects RX2 yX2_openDesks yX2_openDesks : Cond) ∈ lw_tbl := tb_in3 _ (List.mem_of_getElem? (i := 7) rfl)
set_option maxRecDepth 20000 in
theorem tw361 : (.methodLink RX4 217 yX2_mostReaders : Cond) ∈ lw_tbl := tb_in3 _ (List.mem_of_getElem? (i := 11) rfl)
set_option maxRecDepth 20000 in
theorem tw362 : (.instanceMethod yX2_mostReaders : Cond) ∈ lw_tbl := tb_in3 _ (List.mem_of_getElem? (i := 12) rfl)
set_option maxRecDepth 20000 in
theorem tw363 : (.selects RX2 yX2_mostReaders yX2_mostReaders : Cond) ∈ lw_tbl := tb_in3 _ (List.mem_of_getElem? (i := 13) rfl)
set_option maxRecDepth 20000 in
theorem tw364 : (.methodLink RX4 220 yX2_lastEnd : Cond) ∈ lw_tbl := tb_in3 _ (List.mem_of_getElem? (i := 20) rfl)
set_option maxRecDepth 20000 in
theorem tw365 : (.instanceMethod yX2_lastEnd : Cond) ∈ lw_tbl := tb_in3 _ (List.mem_of_getElem? (i := 21) rfl)
set_option maxRecDepth 20000 in
theorem tw366 : (.selects RX2 yX2_lastEnd yX2_lastEnd : Cond) ∈ lw_tbl := tb_in3 _ (List.mem_of_getElem? (i := 22) rfl)
set_option maxRecDepth 20000 in
theorem tw367 : (.code yX4_count cX4_count 2 (some .int) : Cond) ∈ lw_tbl := tb_in2 _ (List.mem_of_getElem? (i := 235) rfl)
set_option maxRecDepth 20000 in
theorem tw368 : (.methodLink RX4 226 yX3_sittingAt : Cond) ∈ lw_tbl := tb_in3 _ (List.mem_of_getElem? (i := 29) rfl)
set_option maxRecDepth 20000 in
theorem tw369 : (.instanceMethod yX3_sittingAt : Cond) ∈ lw_tbl := tb_in3 _ (List.mem_of_getElem? (i := 30) rfl)
set_option maxRecDepth 20000 in
theorem tw370 : (.selects RX3 yX3_sittingAt yX3_sittingAt : Cond) ∈ lw_tbl := tb_in3 _ (List.mem_of_getElem? (i := 31) rfl)
set_option maxRecDepth 20000 in
theorem tw371 : (.code yX4_at cX4_at 4 (some .int) : Cond) ∈ lw_tbl := tb_in3 _ (List.mem_of_getElem? (i := 28) rfl)
set_option maxRecDepth 20000 in
theorem tw372 : (.methodLink RX4 230 yX2_copyFrom : Cond) ∈ lw_tbl := tb_in3 _ (List.mem_of_getElem? (i := 37) rfl)
set_option maxRecDepth 20000 in
theorem tw373 : (.code yX4_ifStart cX4_ifStart 4 (some .int) : Cond) ∈ lw_tbl := tb_in3 _ (List.mem_of_getElem? (i := 36) rfl)
set_option maxRecDepth 20000 in
theorem tw374 : (.code yX4_bestStart cX4_bestStart 7 (some .int) : Cond) ∈ lw_tbl := tb_in3 _ (List.mem_of_getElem? (i := 41) rfl)
set_option maxRecDepth 20000 in
theorem tw375 : (.code yX4_bestHalls cX4_bestHalls 8 (some .int) : Cond) ∈ lw_tbl := tb_in3 _ (List.mem_of_getElem? (i := 45) rfl)
set_option maxRecDepth 20000 in
theorem tw376 : (.fieldLink RX4 233 "ExamHalls$Seating" "unplacedReaders" "I" : Cond) ∈ lw_tbl := tb_in1 _ (List.mem_of_getElem? (i := 89) rfl)
set_option maxRecDepth 20000 in
theorem tw377 : (.code yX4_leastRooms cX4_leastRooms 2 (some .int) : Cond) ∈ lw_tbl := tb_in3 _ (List.mem_of_getElem? (i := 49) rfl)
set_option maxRecDepth 20000 in
theorem tw378 : (.code yX4_charactersIn cX4_charactersIn 5 (some .int) : Cond) ∈ lw_tbl := tb_in3 _ (List.mem_of_getElem? (i := 56) rfl)
set_option maxRecDepth 20000 in
theorem tw379 : (.constantLong RX4 250 (255) : Cond) ∈ lw_tbl := tb_in3 _ (List.mem_of_getElem? (i := 57) rfl)
set_option maxRecDepth 20000 in
theorem tw380 : (.code yX4_put cX4_put 4 (some .int) : Cond) ∈ lw_tbl := tb_in3 _ (List.mem_of_getElem? (i := 53) rfl)
set_option maxRecDepth 20000 in
theorem tw381 : (.methodLink RX4 236 yX4_charactersIn : Cond) ∈ lw_tbl := tb_in3 _ (List.mem_of_getElem? (i := 54) rfl)
set_option maxRecDepth 20000 in
theorem tw382 : (.static yX4_charactersIn : Cond) ∈ lw_tbl := tb_in3 _ (List.mem_of_getElem? (i := 55) rfl)
set_option maxRecDepth 20000 in
theorem tw383 : (.methodLink RX4 240 yX1_append : Cond) ∈ lw_tbl := tb_in3 _ (List.mem_of_getElem? (i := 58) rfl)
set_option maxRecDepth 20000 in
theorem tw384 : (.instanceMethod yX1_append : Cond) ∈ lw_tbl := tb_in3 _ (List.mem_of_getElem? (i := 59) rfl)
set_option maxRecDepth 20000 in
theorem tw385 : (.selects RX1 yX1_append yX1_append : Cond) ∈ lw_tbl := tb_in3 _ (List.mem_of_getElem? (i := 60) rfl)
set_option maxRecDepth 20000 in
theorem tw386 : (.code yX4_wipe cX4_wipe 2 (some .int) : Cond) ∈ lw_tbl := tb_in3 _ (List.mem_of_getElem? (i := 66) rfl)
set_option maxRecDepth 20000 in
theorem tw387 : (.code yX4_fault cX4_fault 1 (some .int) : Cond) ∈ lw_tbl := tb_in3 _ (List.mem_of_getElem? (i := 70) rfl)
set_option maxRecDepth 20000 in
theorem tw388 : (.methodLink RX4 244 yX0_takeBack : Cond) ∈ lw_tbl := tb_in3 _ (List.mem_of_getElem? (i := 75) rfl)
set_option maxRecDepth 20000 in
theorem tw389 : (.instanceMethod yX0_takeBack : Cond) ∈ lw_tbl := tb_in3 _ (List.mem_of_getElem? (i := 76) rfl)
set_option maxRecDepth 20000 in
theorem tw390 : (.selects RX0 yX0_takeBack yX0_takeBack : Cond) ∈ lw_tbl := tb_in3 _ (List.mem_of_getElem? (i := 77) rfl)
set_option maxRecDepth 20000 in
theorem tw391 : (.code yX4_undo cX4_undo 1 (some .int) : Cond) ∈ lw_tbl := tb_in3 _ (List.mem_of_getElem? (i := 74) rfl)
set_option maxRecDepth 20000 in
theorem tw392 : (.code yX4_isSlot cX4_isSlot 1 (some .boolean) : Cond) ∈ lw_tbl := tb_in3 _ (List.mem_of_getElem? (i := 85) rfl)
set_option maxRecDepth 20000 in
theorem tw393 : (.methodLink RX4 247 yX4_isSlot : Cond) ∈ lw_tbl := tb_in3 _ (List.mem_of_getElem? (i := 83) rfl)
set_option maxRecDepth 20000 in
theorem tw394 : (.static yX4_isSlot : Cond) ∈ lw_tbl := tb_in3 _ (List.mem_of_getElem? (i := 84) rfl)
set_option maxRecDepth 20000 in
theorem tw395 : (.code yX4_save cX4_save 2 (some .int) : Cond) ∈ lw_tbl := tb_in3 _ (List.mem_of_getElem? (i := 82) rfl)
set_option maxRecDepth 20000 in
theorem tw396 : (.code yX4_restore cX4_restore 2 (some .int) : Cond) ∈ lw_tbl := tb_in3 _ (List.mem_of_getElem? (i := 89) rfl)
set_option maxRecDepth 20000 in
theorem tw397 : (.code yX5_init cX5_init 2 none : Cond) ∈ lw_tbl := tb_in3 _ (List.mem_of_getElem? (i := 94) rfl)
set_option maxRecDepth 20000 in
theorem tw398 : (.methodLink RX5 1 objectInit : Cond) ∈ lw_tbl := tb_in3 _ (List.mem_of_getElem? (i := 95) rfl)
set_option maxRecDepth 20000 in
theorem tw399 : (.fieldLink RX5 7 "ExamHallsModel" "s" "[I" : Cond) ∈ lw_tbl := tb_in3 _ (List.mem_of_getElem? (i := 96) rfl)
set_option maxRecDepth 20000 in
theorem tw400 : (.fieldLink RX5 13 "ExamHallsModel" "spare" "[I" : Cond) ∈ lw_tbl := tb_in3 _ (List.mem_of_getElem? (i := 97) rfl)
set_option maxRecDepth 20000 in
theorem tw401 : (.fieldLink RX5 16 "ExamHallsModel" "trial" "[I" : Cond) ∈ lw_tbl := tb_in3 _ (List.mem_of_getElem? (i := 98) rfl)
set_option maxRecDepth 20000 in
theorem tw402 : (.fieldLink RX5 19 "ExamHallsModel" "before" "[I" : Cond) ∈ lw_tbl := tb_in3 _ (List.mem_of_getElem? (i := 99) rfl)
set_option maxRecDepth 20000 in
theorem tw403 : (.fieldLink RX5 22 "ExamHallsModel" "saved" "[I" : Cond) ∈ lw_tbl := tb_in3 _ (List.mem_of_getElem? (i := 100) rfl)
set_option maxRecDepth 20000 in
theorem tw404 : (.fieldLink RX5 25 "ExamHallsModel" "isSaved" "[Z" : Cond) ∈ lw_tbl := tb_in3 _ (List.mem_of_getElem? (i := 101) rfl)
set_option maxRecDepth 20000 in
theorem tw405 : (.fieldLink RX5 29 "ExamHallsModel" "seat" "[I" : Cond) ∈ lw_tbl := tb_in3 _ (List.mem_of_getElem? (i := 102) rfl)
set_option maxRecDepth 20000 in
theorem tw406 : (.fieldLink RX5 32 "ExamHallsModel" "read" "[I" : Cond) ∈ lw_tbl := tb_in3 _ (List.mem_of_getElem? (i := 103) rfl)
set_option maxRecDepth 20000 in
theorem tw407 : (.arrayClass .char : Cond) ∈ lw_tbl := tb_in3 _ (List.mem_of_getElem? (i := 139) rfl)
set_option maxRecDepth 20000 in
theorem tw408 : (.fieldLink RX5 35 "ExamHallsModel" "pad" "[C" : Cond) ∈ lw_tbl := tb_in3 _ (List.mem_of_getElem? (i := 104) rfl)
set_option maxRecDepth 20000 in
theorem tw409 : (.code yX5_in cX5_in 3 (some .boolean) : Cond) ∈ lw_tbl := tb_in3 _ (List.mem_of_getElem? (i := 146) rfl)
set_option maxRecDepth 20000 in
theorem tw410 : (.code yX5_p cX5_p 1 (some .int) : Cond) ∈ lw_tbl := tb_in3 _ (List.mem_of_getElem? (i := 172) rfl)
set_option maxRecDepth 20000 in
theorem tw411 : (.code yX5_h cX5_h 1 (some .int) : Cond) ∈ lw_tbl := tb_in3 _ (List.mem_of_getElem? (i := 222) rfl)
set_option maxRecDepth 20000 in
theorem tw412 : (.code yX5_isPaper cX5_isPaper 1 (some .boolean) : Cond) ∈ lw_tbl := tb_in3 _ (List.mem_of_getElem? (i := 161) rfl)
set_option maxRecDepth 20000 in
theorem tw413 : (.methodLink RX5 39 yX5_in : Cond) ∈ lw_tbl := tb_in3 _ (List.mem_of_getElem? (i := 144) rfl)
set_option maxRecDepth 20000 in
theorem tw414 : (.static yX5_in : Cond) ∈ lw_tbl := tb_in3 _ (List.mem_of_getElem? (i := 145) rfl)
set_option maxRecDepth 20000 in
theorem tw415 : (.initialized RX5 : Cond) ∈ lw_tbl := tb_in1 _ (List.mem_of_getElem? (i := 6) rfl)
set_option maxRecDepth 20000 in
theorem tw416 : (.code yX5_isHall cX5_isHall 1 (some .boolean) : Cond) ∈ lw_tbl := tb_in3 _ (List.mem_of_getElem? (i := 215) rfl)
set_option maxRecDepth 20000 in
theorem tw417 : (.code yX5_isPupil cX5_isPupil 2 (some .boolean) : Cond) ∈ lw_tbl := tb_in3 _ (List.mem_of_getElem? (i := 180) rfl)
set_option maxRecDepth 20000 in
theorem tw418 : (.code yX5_hold cX5_hold 2 none : Cond) ∈ lw_tbl := tb_in3 _ (List.mem_of_getElem? (i := 150) rfl)
set_option maxRecDepth 20000 in
theorem tw419 : (.fieldLink RX5 43 "ExamHallsModel" "isSeated" "Z" : Cond) ∈ lw_tbl := tb_in3 _ (List.mem_of_getElem? (i := 105) rfl)
set_option maxRecDepth 20000 in
theorem tw420 : (.code yX5_recorded cX5_recorded 3 (some .int) : Cond) ∈ lw_tbl := tb_in3 _ (List.mem_of_getElem? (i := 154) rfl)
set_option maxRecDepth 20000 in
theorem tw421 : (.fieldLink RX5 47 "ExamHallsModel" "states" "I" : Cond) ∈ lw_tbl := tb_in3 _ (List.mem_of_getElem? (i := 107) rfl)
set_option maxRecDepth 20000 in
theorem tw422 : (.code yX5_keepTrial cX5_keepTrial 2 none : Cond) ∈ lw_tbl := tb_in4 _ (List.mem_of_getElem? (i := 144) rfl)
set_option maxRecDepth 20000 in
theorem tw423 : (.code yX5_putBack cX5_putBack 2 none : Cond) ∈ lw_tbl := tb_in4 _ (List.mem_of_getElem? (i := 148) rfl)
set_option maxRecDepth 20000 in
theorem tw424 : (.code yX5_isSitting cX5_isSitting 2 (some .boolean) : Cond) ∈ lw_tbl := tb_in3 _ (List.mem_of_getElem? (i := 188) rfl)
set_option maxRecDepth 20000 in
theorem tw425 : (.methodLink RX5 51 yX5_p : Cond) ∈ lw_tbl := tb_in3 _ (List.mem_of_getElem? (i := 170) rfl)
set_option maxRecDepth 20000 in
theorem tw426 : (.static yX5_p : Cond) ∈ lw_tbl := tb_in3 _ (List.mem_of_getElem? (i := 171) rfl)
set_option maxRecDepth 20000 in
theorem tw427 : (.code yX5_begins cX5_begins 2 (some .int) : Cond) ∈ lw_tbl := tb_in3 _ (List.mem_of_getElem? (i := 200) rfl)
set_option maxRecDepth 20000 in
theorem tw428 : (.code yX5_minutes cX5_minutes 2 (some .int) : Cond) ∈ lw_tbl := tb_in3 _ (List.mem_of_getElem? (i := 204) rfl)
set_option maxRecDepth 20000 in
theorem tw429 : (.code yX5_ends cX5_ends 2 (some .int) : Cond) ∈ lw_tbl := tb_in3 _ (List.mem_of_getElem? (i := 196) rfl)
set_option maxRecDepth 20000 in
theorem tw430 : (.methodLink RX5 55 yX5_begins : Cond) ∈ lw_tbl := tb_in3 _ (List.mem_of_getElem? (i := 197) rfl)
set_option maxRecDepth 20000 in
theorem tw431 : (.instanceMethod yX5_begins : Cond) ∈ lw_tbl := tb_in3 _ (List.mem_of_getElem? (i := 199) rfl)
set_option maxRecDepth 20000 in
theorem tw432 : (.selects RX5 yX5_begins yX5_begins : Cond) ∈ lw_tbl := tb_in0 _ (List.mem_of_getElem? (i := 28) rfl)
set_option maxRecDepth 20000 in
theorem tw433 : (.methodLink RX5 58 yX5_minutes : Cond) ∈ lw_tbl := tb_in3 _ (List.mem_of_getElem? (i := 201) rfl)
set_option maxRecDepth 20000 in
theorem tw434 : (.instanceMethod yX5_minutes : Cond) ∈ lw_tbl := tb_in3 _ (List.mem_of_getElem? (i := 203) rfl)
set_option maxRecDepth 20000 in
theorem tw435 : (.selects RX5 yX5_minutes yX5_minutes : Cond) ∈ lw_tbl := tb_in0 _ (List.mem_of_getElem? (i := 29) rfl)
set_option maxRecDepth 20000 in
theorem tw436 : (.code yX5_needsReader cX5_needsReader 2 (some .boolean) : Cond) ∈ lw_tbl := tb_in3 _ (List.mem_of_getElem? (i := 238) rfl)
set_option maxRecDepth 20000 in
theorem tw437 : (.code yX5_clash cX5_clash 3 (some .boolean) : Cond) ∈ lw_tbl := tb_in3 _ (List.mem_of_getElem? (i := 192) rfl)
set_option maxRecDepth 20000 in
theorem tw438 : (.methodLink RX5 61 yX5_ends : Cond) ∈ lw_tbl := tb_in3 _ (List.mem_of_getElem? (i := 193) rfl)
set_option maxRecDepth 20000 in
theorem tw439 : (.instanceMethod yX5_ends : Cond) ∈ lw_tbl := tb_in3 _ (List.mem_of_getElem? (i := 195) rfl)
set_option maxRecDepth 20000 in
theorem tw440 : (.selects RX5 yX5_ends yX5_ends : Cond) ∈ lw_tbl := tb_in0 _ (List.mem_of_getElem? (i := 27) rfl)
set_option maxRecDepth 20000 in
theorem tw441 : (.code yX5_isFree cX5_isFree 6 (some .boolean) : Cond) ∈ lw_tbl := tb_in4 _ (List.mem_of_getElem? (i := 6) rfl)
set_option maxRecDepth 20000 in
theorem tw442 : (.code yX5_has cX5_has 5 (some .boolean) : Cond) ∈ lw_tbl := tb_in4 _ (List.mem_of_getElem? (i := 22) rfl)
set_option maxRecDepth 20000 in
theorem tw443 : (.code yX5_isAlone cX5_isAlone 11 (some .boolean) : Cond) ∈ lw_tbl := tb_in4 _ (List.mem_of_getElem? (i := 18) rfl)
set_option maxRecDepth 20000 in
theorem tw444 : (.methodLink RX5 64 yX5_h : Cond) ∈ lw_tbl := tb_in3 _ (List.mem_of_getElem? (i := 220) rfl)
set_option maxRecDepth 20000 in
theorem tw445 : (.static yX5_h : Cond) ∈ lw_tbl := tb_in3 _ (List.mem_of_getElem? (i := 221) rfl)
set_option maxRecDepth 20000 in
theorem tw446 : (.methodLink RX5 67 yX5_has : Cond) ∈ lw_tbl := tb_in4 _ (List.mem_of_getElem? (i := 19) rfl)
set_option maxRecDepth 20000 in
theorem tw447 : (.instanceMethod yX5_has : Cond) ∈ lw_tbl := tb_in4 _ (List.mem_of_getElem? (i := 21) rfl)
set_option maxRecDepth 20000 in
theorem tw448 : (.selects RX5 yX5_has yX5_has : Cond) ∈ lw_tbl := tb_in0 _ (List.mem_of_getElem? (i := 39) rfl)
set_option maxRecDepth 20000 in
theorem tw449 : (.code yX5_desks cX5_desks 2 (some .int) : Cond) ∈ lw_tbl := tb_in3 _ (List.mem_of_getElem? (i := 219) rfl)
set_option maxRecDepth 20000 in
theorem tw450 : (.code yX5_desksAt cX5_desksAt 3 (some .int) : Cond) ∈ lw_tbl := tb_in4 _ (List.mem_of_getElem? (i := 14) rfl)
set_option maxRecDepth 20000 in
theorem tw451 : (.methodLink RX5 71 yX5_desks : Cond) ∈ lw_tbl := tb_in3 _ (List.mem_of_getElem? (i := 216) rfl)
set_option maxRecDepth 20000 in
theorem tw452 : (.instanceMethod yX5_desks : Cond) ∈ lw_tbl := tb_in3 _ (List.mem_of_getElem? (i := 218) rfl)
set_option maxRecDepth 20000 in
theorem tw453 : (.selects RX5 yX5_desks yX5_desks : Cond) ∈ lw_tbl := tb_in0 _ (List.mem_of_getElem? (i := 30) rfl)
set_option maxRecDepth 20000 in
theorem tw454 : (.methodLink RX5 74 yX5_desksAt : Cond) ∈ lw_tbl := tb_in4 _ (List.mem_of_getElem? (i := 11) rfl)
set_option maxRecDepth 20000 in
theorem tw455 : (.instanceMethod yX5_desksAt : Cond) ∈ lw_tbl := tb_in4 _ (List.mem_of_getElem? (i := 13) rfl)
set_option maxRecDepth 20000 in
theorem tw456 : (.selects RX5 yX5_desksAt yX5_desksAt : Cond) ∈ lw_tbl := tb_in0 _ (List.mem_of_getElem? (i := 37) rfl)
set_option maxRecDepth 20000 in
theorem tw457 : (.methodLink RX5 78 yX5_isFree : Cond) ∈ lw_tbl := tb_in4 _ (List.mem_of_getElem? (i := 3) rfl)
set_option maxRecDepth 20000 in
theorem tw458 : (.instanceMethod yX5_isFree : Cond) ∈ lw_tbl := tb_in4 _ (List.mem_of_getElem? (i := 5) rfl)
set_option maxRecDepth 20000 in
theorem tw459 : (.selects RX5 yX5_isFree yX5_isFree : Cond) ∈ lw_tbl := tb_in0 _ (List.mem_of_getElem? (i := 35) rfl)
set_option maxRecDepth 20000 in
theorem tw460 : (.methodLink RX5 81 yX5_isAlone : Cond) ∈ lw_tbl := tb_in4 _ (List.mem_of_getElem? (i := 15) rfl)
set_option maxRecDepth 20000 in
theorem tw461 : (.instanceMethod yX5_isAlone : Cond) ∈ lw_tbl := tb_in4 _ (List.mem_of_getElem? (i := 17) rfl)
set_option maxRecDepth 20000 in
theorem tw462 : (.selects RX5 yX5_isAlone yX5_isAlone : Cond) ∈ lw_tbl := tb_in0 _ (List.mem_of_getElem? (i := 38) rfl)
set_option maxRecDepth 20000 in
theorem tw463 : (.code yX5_deskFor cX5_deskFor 5 (some .int) : Cond) ∈ lw_tbl := tb_in4 _ (List.mem_of_getElem? (i := 10) rfl)
set_option maxRecDepth 20000 in
theorem tw464 : (.code yX5_roomFor cX5_roomFor 3 (some .int) : Cond) ∈ lw_tbl := tb_in4 _ (List.mem_of_getElem? (i := 2) rfl)
set_option maxRecDepth 20000 in
theorem tw465 : (.methodLink RX5 84 yX5_isSitting : Cond) ∈ lw_tbl := tb_in3 _ (List.mem_of_getElem? (i := 185) rfl)
set_option maxRecDepth 20000 in
theorem tw466 : (.instanceMethod yX5_isSitting : Cond) ∈ lw_tbl := tb_in3 _ (List.mem_of_getElem? (i := 187) rfl)
set_option maxRecDepth 20000 in
theorem tw467 : (.selects RX5 yX5_isSitting yX5_isSitting : Cond) ∈ lw_tbl := tb_in0 _ (List.mem_of_getElem? (i := 25) rfl)
set_option maxRecDepth 20000 in
theorem tw468 : (.methodLink RX5 88 yX5_needsReader : Cond) ∈ lw_tbl := tb_in3 _ (List.mem_of_getElem? (i := 235) rfl)
set_option maxRecDepth 20000 in
theorem tw469 : (.instanceMethod yX5_needsReader : Cond) ∈ lw_tbl := tb_in3 _ (List.mem_of_getElem? (i := 237) rfl)
set_option maxRecDepth 20000 in
theorem tw470 : (.selects RX5 yX5_needsReader yX5_needsReader : Cond) ∈ lw_tbl := tb_in0 _ (List.mem_of_getElem? (i := 33) rfl)
set_option maxRecDepth 20000 in
theorem tw471 : (.methodLink RX5 91 yX5_roomFor : Cond) ∈ lw_tbl := tb_in3 _ (List.mem_of_getElem? (i := 239) rfl)
set_option maxRecDepth 20000 in
theorem tw472 : (.instanceMethod yX5_roomFor : Cond) ∈ lw_tbl := tb_in4 _ (List.mem_of_getElem? (i := 1) rfl)
set_option maxRecDepth 20000 in
theorem tw473 : (.selects RX5 yX5_roomFor yX5_roomFor : Cond) ∈ lw_tbl := tb_in0 _ (List.mem_of_getElem? (i := 34) rfl)
set_option maxRecDepth 20000 in
theorem tw474 : (.methodLink RX5 94 yX5_deskFor : Cond) ∈ lw_tbl := tb_in4 _ (List.mem_of_getElem? (i := 7) rfl)
set_option maxRecDepth 20000 in
theorem tw475 : (.instanceMethod yX5_deskFor : Cond) ∈ lw_tbl := tb_in4 _ (List.mem_of_getElem? (i := 9) rfl)
set_option maxRecDepth 20000 in
theorem tw476 : (.selects RX5 yX5_deskFor yX5_deskFor : Cond) ∈ lw_tbl := tb_in0 _ (List.mem_of_getElem? (i := 36) rfl)
set_option maxRecDepth 20000 in
theorem tw477 : (.code yX5_seats cX5_seats 3 none : Cond) ∈ lw_tbl := tb_in3 _ (List.mem_of_getElem? (i := 234) rfl)
set_option maxRecDepth 20000 in
theorem tw478 : (.methodLink RX5 97 yX5_seats : Cond) ∈ lw_tbl := tb_in3 _ (List.mem_of_getElem? (i := 231) rfl)
set_option maxRecDepth 20000 in
theorem tw479 : (.instanceMethod yX5_seats : Cond) ∈ lw_tbl := tb_in3 _ (List.mem_of_getElem? (i := 233) rfl)
set_option maxRecDepth 20000 in
theorem tw480 : (.selects RX5 yX5_seats yX5_seats : Cond) ∈ lw_tbl := tb_in0 _ (List.mem_of_getElem? (i := 32) rfl)
set_option maxRecDepth 20000 in
theorem tw481 : (.code yX5_without cX5_without 4 (some .int) : Cond) ∈ lw_tbl := tb_in3 _ (List.mem_of_getElem? (i := 230) rfl)
set_option maxRecDepth 20000 in
theorem tw482 : (.methodLink RX5 100 yX5_clash : Cond) ∈ lw_tbl := tb_in3 _ (List.mem_of_getElem? (i := 189) rfl)
set_option maxRecDepth 20000 in
theorem tw483 : (.instanceMethod yX5_clash : Cond) ∈ lw_tbl := tb_in3 _ (List.mem_of_getElem? (i := 191) rfl)
set_option maxRecDepth 20000 in
theorem tw484 : (.selects RX5 yX5_clash yX5_clash : Cond) ∈ lw_tbl := tb_in0 _ (List.mem_of_getElem? (i := 26) rfl)
set_option maxRecDepth 20000 in
theorem tw485 : (.code yX5_clashesOf cX5_clashesOf 6 (some .int) : Cond) ∈ lw_tbl := tb_in3 _ (List.mem_of_getElem? (i := 184) rfl)
set_option maxRecDepth 20000 in
theorem tw486 : (.methodLink RX5 103 yX5_clashesOf : Cond) ∈ lw_tbl := tb_in3 _ (List.mem_of_getElem? (i := 181) rfl)
set_option maxRecDepth 20000 in
theorem tw487 : (.instanceMethod yX5_clashesOf : Cond) ∈ lw_tbl := tb_in3 _ (List.mem_of_getElem? (i := 183) rfl)
set_option maxRecDepth 20000 in
theorem tw488 : (.selects RX5 yX5_clashesOf yX5_clashesOf : Cond) ∈ lw_tbl := tb_in0 _ (List.mem_of_getElem? (i := 24) rfl)
set_option maxRecDepth 20000 in
theorem tw489 : (.code yX5_clashes cX5_clashes 3 (some .int) : Cond) ∈ lw_tbl := tb_in4 _ (List.mem_of_getElem? (i := 110) rfl)
set_option maxRecDepth 20000 in
theorem tw490 : (.code yX5_lastEnd cX5_lastEnd 3 (some .int) : Cond) ∈ lw_tbl := tb_in4 _ (List.mem_of_getElem? (i := 122) rfl)
set_option maxRecDepth 20000 in
theorem tw491 : (.code yX5_set cX5_set 5 (some .int) : Cond) ∈ lw_tbl := tb_in3 _ (List.mem_of_getElem? (i := 143) rfl)
set_option maxRecDepth 20000 in
theorem tw492 : (.methodLink RX5 106 yX5_hold : Cond) ∈ lw_tbl := tb_in3 _ (List.mem_of_getElem? (i := 147) rfl)
set_option maxRecDepth 20000 in
theorem tw493 : (.instanceMethod yX5_hold : Cond) ∈ lw_tbl := tb_in3 _ (List.mem_of_getElem? (i := 149) rfl)
set_option maxRecDepth 20000 in
theorem tw494 : (.selects RX5 yX5_hold yX5_hold : Cond) ∈ lw_tbl := tb_in0 _ (List.mem_of_getElem? (i := 20) rfl)
set_option maxRecDepth 20000 in
theorem tw495 : (.methodLink RX5 109 yX5_recorded : Cond) ∈ lw_tbl := tb_in3 _ (List.mem_of_getElem? (i := 151) rfl)
set_option maxRecDepth 20000 in
theorem tw496 : (.instanceMethod yX5_recorded : Cond) ∈ lw_tbl := tb_in3 _ (List.mem_of_getElem? (i := 153) rfl)
set_option maxRecDepth 20000 in
theorem tw497 : (.selects RX5 yX5_recorded yX5_recorded : Cond) ∈ lw_tbl := tb_in0 _ (List.mem_of_getElem? (i := 21) rfl)
set_option maxRecDepth 20000 in
theorem tw498 : (.code yX5_paper cX5_paper 5 (some .int) : Cond) ∈ lw_tbl := tb_in3 _ (List.mem_of_getElem? (i := 158) rfl)
set_option maxRecDepth 20000 in
theorem tw499 : (.methodLink RX5 112 yX5_isPaper : Cond) ∈ lw_tbl := tb_in3 _ (List.mem_of_getElem? (i := 159) rfl)
set_option maxRecDepth 20000 in
theorem tw500 : (.static yX5_isPaper : Cond) ∈ lw_tbl := tb_in3 _ (List.mem_of_getElem? (i := 160) rfl)
set_option maxRecDepth 20000 in
theorem tw501 : (.code yX5_puts cX5_puts 5 none : Cond) ∈ lw_tbl := tb_in3 _ (List.mem_of_getElem? (i := 169) rfl)
set_option maxRecDepth 20000 in
theorem tw502 : (.code yX5_pupil cX5_pupil 5 (some .int) : Cond) ∈ lw_tbl := tb_in3 _ (List.mem_of_getElem? (i := 165) rfl)
set_option maxRecDepth 20000 in
theorem tw503 : (.methodLink RX5 115 yX5_puts : Cond) ∈ lw_tbl := tb_in3 _ (List.mem_of_getElem? (i := 166) rfl)
set_option maxRecDepth 20000 in
theorem tw504 : (.instanceMethod yX5_puts : Cond) ∈ lw_tbl := tb_in3 _ (List.mem_of_getElem? (i := 168) rfl)
set_option maxRecDepth 20000 in
theorem tw505 : (.selects RX5 yX5_puts yX5_puts : Cond) ∈ lw_tbl := tb_in0 _ (List.mem_of_getElem? (i := 22) rfl)
set_option maxRecDepth 20000 in
theorem tw506 : (.methodLink RX5 119 yX5_isPupil : Cond) ∈ lw_tbl := tb_in3 _ (List.mem_of_getElem? (i := 177) rfl)
set_option maxRecDepth 20000 in
theorem tw507 : (.instanceMethod yX5_isPupil : Cond) ∈ lw_tbl := tb_in3 _ (List.mem_of_getElem? (i := 179) rfl)
set_option maxRecDepth 20000 in
theorem tw508 : (.selects RX5 yX5_isPupil yX5_isPupil : Cond) ∈ lw_tbl := tb_in0 _ (List.mem_of_getElem? (i := 23) rfl)
set_option maxRecDepth 20000 in
theorem tw509 : (.code yX5_change cX5_change 5 (some .int) : Cond) ∈ lw_tbl := tb_in3 _ (List.mem_of_getElem? (i := 176) rfl)
set_option maxRecDepth 20000 in
theorem tw510 : (.code yX5_leave cX5_leave 4 (some .int) : Cond) ∈ lw_tbl := tb_in3 _ (List.mem_of_getElem? (i := 208) rfl)
set_option maxRecDepth 20000 in
theorem tw511 : (.methodLink RX5 122 yX5_isHall : Cond) ∈ lw_tbl := tb_in3 _ (List.mem_of_getElem? (i := 213) rfl)
set_option maxRecDepth 20000 in
theorem tw512 : (.static yX5_isHall : Cond) ∈ lw_tbl := tb_in3 _ (List.mem_of_getElem? (i := 214) rfl)
set_option maxRecDepth 20000 in
theorem tw513 : (.code yX5_hall cX5_hall 5 (some .int) : Cond) ∈ lw_tbl := tb_in3 _ (List.mem_of_getElem? (i := 212) rfl)
set_option maxRecDepth 20000 in
theorem tw514 : (.methodLink RX5 125 yX5_without : Cond) ∈ lw_tbl := tb_in3 _ (List.mem_of_getElem? (i := 227) rfl)
set_option maxRecDepth 20000 in
theorem tw515 : (.instanceMethod yX5_without : Cond) ∈ lw_tbl := tb_in3 _ (List.mem_of_getElem? (i := 229) rfl)
set_option maxRecDepth 20000 in
theorem tw516 : (.selects RX5 yX5_without yX5_without : Cond) ∈ lw_tbl := tb_in0 _ (List.mem_of_getElem? (i := 31) rfl)
set_option maxRecDepth 20000 in
theorem tw517 : (.code yX5_open cX5_open 3 (some .int) : Cond) ∈ lw_tbl := tb_in3 _ (List.mem_of_getElem? (i := 226) rfl)
set_option maxRecDepth 20000 in
theorem tw518 : (.code yX5_isSign cX5_isSign 3 (some .boolean) : Cond) ∈ lw_tbl := tb_in4 _ (List.mem_of_getElem? (i := 42) rfl)
set_option maxRecDepth 20000 in
theorem tw519 : (.fieldLink RX5 128 "ExamHallsModel" "at" "I" : Cond) ∈ lw_tbl := tb_in3 _ (List.mem_of_getElem? (i := 109) rfl)
set_option maxRecDepth 20000 in
theorem tw520 : (.fieldLink RX5 131 "ExamHallsModel" "length" "I" : Cond) ∈ lw_tbl := tb_in3 _ (List.mem_of_getElem? (i := 106) rfl)
set_option maxRecDepth 20000 in
theorem tw521 : (.code yX5_accepts cX5_accepts 3 (some .boolean) : Cond) ∈ lw_tbl := tb_in4 _ (List.mem_of_getElem? (i := 46) rfl)
set_option maxRecDepth 20000 in
theorem tw522 : (.methodLink RX5 134 yX5_isSign : Cond) ∈ lw_tbl := tb_in4 _ (List.mem_of_getElem? (i := 39) rfl)
set_option maxRecDepth 20000 in
theorem tw523 : (.instanceMethod yX5_isSign : Cond) ∈ lw_tbl := tb_in4 _ (List.mem_of_getElem? (i := 41) rfl)
set_option maxRecDepth 20000 in
theorem tw524 : (.selects RX5 yX5_isSign yX5_isSign : Cond) ∈ lw_tbl := tb_in0 _ (List.mem_of_getElem? (i := 43) rfl)
set_option maxRecDepth 20000 in
theorem tw525 : (.code yX5_letters cX5_letters 2 (some .int) : Cond) ∈ lw_tbl := tb_in4 _ (List.mem_of_getElem? (i := 38) rfl)
set_option maxRecDepth 20000 in
theorem tw526 : (.code yX5_number cX5_number 2 (some .int) : Cond) ∈ lw_tbl := tb_in4 _ (List.mem_of_getElem? (i := 50) rfl)
set_option maxRecDepth 20000 in
theorem tw527 : (.code yX5_readsPupil cX5_readsPupil 3 (some .boolean) : Cond) ∈ lw_tbl := tb_in4 _ (List.mem_of_getElem? (i := 34) rfl)
set_option maxRecDepth 20000 in
theorem tw528 : (.fieldLink RX5 149 "ExamHallsModel" "told" "I" : Cond) ∈ lw_tbl := tb_in3 _ (List.mem_of_getElem? (i := 108) rfl)
set_option maxRecDepth 20000 in
theorem tw529 : (.methodLink RX5 138 yX5_letters : Cond) ∈ lw_tbl := tb_in4 _ (List.mem_of_getElem? (i := 35) rfl)
set_option maxRecDepth 20000 in
theorem tw530 : (.instanceMethod yX5_letters : Cond) ∈ lw_tbl := tb_in4 _ (List.mem_of_getElem? (i := 37) rfl)
set_option maxRecDepth 20000 in
theorem tw531 : (.selects RX5 yX5_letters yX5_letters : Cond) ∈ lw_tbl := tb_in0 _ (List.mem_of_getElem? (i := 42) rfl)
set_option maxRecDepth 20000 in
theorem tw532 : (.methodLink RX5 142 yX5_accepts : Cond) ∈ lw_tbl := tb_in4 _ (List.mem_of_getElem? (i := 43) rfl)
set_option maxRecDepth 20000 in
theorem tw533 : (.instanceMethod yX5_accepts : Cond) ∈ lw_tbl := tb_in4 _ (List.mem_of_getElem? (i := 45) rfl)
set_option maxRecDepth 20000 in
theorem tw534 : (.selects RX5 yX5_accepts yX5_accepts : Cond) ∈ lw_tbl := tb_in0 _ (List.mem_of_getElem? (i := 44) rfl)
set_option maxRecDepth 20000 in
theorem tw535 : (.methodLink RX5 146 yX5_number : Cond) ∈ lw_tbl := tb_in4 _ (List.mem_of_getElem? (i := 47) rfl)
set_option maxRecDepth 20000 in
theorem tw536 : (.instanceMethod yX5_number : Cond) ∈ lw_tbl := tb_in4 _ (List.mem_of_getElem? (i := 49) rfl)
set_option maxRecDepth 20000 in
theorem tw537 : (.selects RX5 yX5_number yX5_number : Cond) ∈ lw_tbl := tb_in0 _ (List.mem_of_getElem? (i := 45) rfl)
set_option maxRecDepth 20000 in
theorem tw538 : (.methodLink RX5 152 yX5_readsPupil : Cond) ∈ lw_tbl := tb_in4 _ (List.mem_of_getElem? (i := 31) rfl)
set_option maxRecDepth 20000 in
theorem tw539 : (.instanceMethod yX5_readsPupil : Cond) ∈ lw_tbl := tb_in4 _ (List.mem_of_getElem? (i := 33) rfl)
set_option maxRecDepth 20000 in
theorem tw540 : (.selects RX5 yX5_readsPupil yX5_readsPupil : Cond) ∈ lw_tbl := tb_in0 _ (List.mem_of_getElem? (i := 41) rfl)
set_option maxRecDepth 20000 in
theorem tw541 : (.code yX5_faultOf cX5_faultOf 2 (some .int) : Cond) ∈ lw_tbl := tb_in4 _ (List.mem_of_getElem? (i := 30) rfl)
set_option maxRecDepth 20000 in
theorem tw542 : (.methodLink RX5 156 yX5_faultOf : Cond) ∈ lw_tbl := tb_in4 _ (List.mem_of_getElem? (i := 27) rfl)
set_option maxRecDepth 20000 in
theorem tw543 : (.instanceMethod yX5_faultOf : Cond) ∈ lw_tbl := tb_in4 _ (List.mem_of_getElem? (i := 29) rfl)
set_option maxRecDepth 20000 in
theorem tw544 : (.selects RX5 yX5_faultOf yX5_faultOf : Cond) ∈ lw_tbl := tb_in0 _ (List.mem_of_getElem? (i := 40) rfl)
set_option maxRecDepth 20000 in
theorem tw545 : (.code yX5_read cX5_read 2 (some .int) : Cond) ∈ lw_tbl := tb_in4 _ (List.mem_of_getElem? (i := 26) rfl)
set_option maxRecDepth 20000 in
theorem tw546 : (.code yX5_unseated cX5_unseated 4 (some .int) : Cond) ∈ lw_tbl := tb_in4 _ (List.mem_of_getElem? (i := 58) rfl)
set_option maxRecDepth 20000 in
theorem tw547 : (.code yX5_allMinutes cX5_allMinutes 4 (some .int) : Cond) ∈ lw_tbl := tb_in4 _ (List.mem_of_getElem? (i := 62) rfl)
set_option maxRecDepth 20000 in
theorem tw548 : (.methodLink RX5 159 yX5_unseated : Cond) ∈ lw_tbl := tb_in4 _ (List.mem_of_getElem? (i := 55) rfl)
set_option maxRecDepth 20000 in
theorem tw549 : (.instanceMethod yX5_unseated : Cond) ∈ lw_tbl := tb_in4 _ (List.mem_of_getElem? (i := 57) rfl)
set_option maxRecDepth 20000 in
theorem tw550 : (.selects RX5 yX5_unseated yX5_unseated : Cond) ∈ lw_tbl := tb_in0 _ (List.mem_of_getElem? (i := 46) rfl)
set_option maxRecDepth 20000 in
theorem tw551 : (.methodLink RX5 162 yX5_allMinutes : Cond) ∈ lw_tbl := tb_in4 _ (List.mem_of_getElem? (i := 59) rfl)
set_option maxRecDepth 20000 in
theorem tw552 : (.instanceMethod yX5_allMinutes : Cond) ∈ lw_tbl := tb_in4 _ (List.mem_of_getElem? (i := 61) rfl)
set_option maxRecDepth 20000 in
theorem tw553 : (.selects RX5 yX5_allMinutes yX5_allMinutes : Cond) ∈ lw_tbl := tb_in0 _ (List.mem_of_getElem? (i := 47) rfl)
set_option maxRecDepth 20000 in
theorem tw554 : (.code yX5_pupilOf cX5_pupilOf 3 (some .int) : Cond) ∈ lw_tbl := tb_in4 _ (List.mem_of_getElem? (i := 54) rfl)
set_option maxRecDepth 20000 in
theorem tw555 : (.code yX5_ofSittings cX5_ofSittings 9 (some .int) : Cond) ∈ lw_tbl := tb_in4 _ (List.mem_of_getElem? (i := 70) rfl)
set_option maxRecDepth 20000 in
theorem tw556 : (.methodLink RX5 165 yX5_ofSittings : Cond) ∈ lw_tbl := tb_in4 _ (List.mem_of_getElem? (i := 67) rfl)
set_option maxRecDepth 20000 in
theorem tw557 : (.instanceMethod yX5_ofSittings : Cond) ∈ lw_tbl := tb_in4 _ (List.mem_of_getElem? (i := 69) rfl)
set_option maxRecDepth 20000 in
theorem tw558 : (.selects RX5 yX5_ofSittings yX5_ofSittings : Cond) ∈ lw_tbl := tb_in0 _ (List.mem_of_getElem? (i := 48) rfl)
set_option maxRecDepth 20000 in
theorem tw559 : (.code yX5_paperOf cX5_paperOf 3 (some .int) : Cond) ∈ lw_tbl := tb_in4 _ (List.mem_of_getElem? (i := 66) rfl)
set_option maxRecDepth 20000 in
theorem tw560 : (.code yX5_clashesWith cX5_clashesWith 5 (some .int) : Cond) ∈ lw_tbl := tb_in4 _ (List.mem_of_getElem? (i := 78) rfl)
set_option maxRecDepth 20000 in
theorem tw561 : (.methodLink RX5 169 yX5_clashesWith : Cond) ∈ lw_tbl := tb_in4 _ (List.mem_of_getElem? (i := 75) rfl)
set_option maxRecDepth 20000 in
theorem tw562 : (.instanceMethod yX5_clashesWith : Cond) ∈ lw_tbl := tb_in4 _ (List.mem_of_getElem? (i := 77) rfl)
set_option maxRecDepth 20000 in
theorem tw563 : (.selects RX5 yX5_clashesWith yX5_clashesWith : Cond) ∈ lw_tbl := tb_in0 _ (List.mem_of_getElem? (i := 49) rfl)
set_option maxRecDepth 20000 in
theorem tw564 : (.code yX5_sitting cX5_sitting 6 (some .int) : Cond) ∈ lw_tbl := tb_in4 _ (List.mem_of_getElem? (i := 74) rfl)
set_option maxRecDepth 20000 in
theorem tw565 : (.code yX5_isIn cX5_isIn 3 (some .boolean) : Cond) ∈ lw_tbl := tb_in4 _ (List.mem_of_getElem? (i := 90) rfl)
set_option maxRecDepth 20000 in
theorem tw566 : (.methodLink RX5 172 yX5_isIn : Cond) ∈ lw_tbl := tb_in4 _ (List.mem_of_getElem? (i := 87) rfl)
set_option maxRecDepth 20000 in
theorem tw567 : (.instanceMethod yX5_isIn : Cond) ∈ lw_tbl := tb_in4 _ (List.mem_of_getElem? (i := 89) rfl)
set_option maxRecDepth 20000 in
theorem tw568 : (.selects RX5 yX5_isIn yX5_isIn : Cond) ∈ lw_tbl := tb_in0 _ (List.mem_of_getElem? (i := 51) rfl)
set_option maxRecDepth 20000 in
theorem tw569 : (.code yX5_atMinute cX5_atMinute 6 (some .int) : Cond) ∈ lw_tbl := tb_in4 _ (List.mem_of_getElem? (i := 98) rfl)
set_option maxRecDepth 20000 in
theorem tw570 : (.methodLink RX5 175 yX5_atMinute : Cond) ∈ lw_tbl := tb_in4 _ (List.mem_of_getElem? (i := 95) rfl)
set_option maxRecDepth 20000 in
theorem tw571 : (.instanceMethod yX5_atMinute : Cond) ∈ lw_tbl := tb_in4 _ (List.mem_of_getElem? (i := 97) rfl)
set_option maxRecDepth 20000 in
theorem tw572 : (.selects RX5 yX5_atMinute yX5_atMinute : Cond) ∈ lw_tbl := tb_in0 _ (List.mem_of_getElem? (i := 53) rfl)
set_option maxRecDepth 20000 in
theorem tw573 : (.code yX5_most cX5_most 5 (some .int) : Cond) ∈ lw_tbl := tb_in4 _ (List.mem_of_getElem? (i := 94) rfl)
set_option maxRecDepth 20000 in
theorem tw574 : (.code yX5_seatedIn cX5_seatedIn 4 (some .int) : Cond) ∈ lw_tbl := tb_in4 _ (List.mem_of_getElem? (i := 86) rfl)
set_option maxRecDepth 20000 in
theorem tw575 : (.methodLink RX5 178 yX5_seatedIn : Cond) ∈ lw_tbl := tb_in4 _ (List.mem_of_getElem? (i := 83) rfl)
set_option maxRecDepth 20000 in
theorem tw576 : (.instanceMethod yX5_seatedIn : Cond) ∈ lw_tbl := tb_in4 _ (List.mem_of_getElem? (i := 85) rfl)
set_option maxRecDepth 20000 in
theorem tw577 : (.selects RX5 yX5_seatedIn yX5_seatedIn : Cond) ∈ lw_tbl := tb_in0 _ (List.mem_of_getElem? (i := 50) rfl)
set_option maxRecDepth 20000 in
theorem tw578 : (.methodLink RX5 181 yX5_most : Cond) ∈ lw_tbl := tb_in4 _ (List.mem_of_getElem? (i := 91) rfl)
set_option maxRecDepth 20000 in
theorem tw579 : (.instanceMethod yX5_most : Cond) ∈ lw_tbl := tb_in4 _ (List.mem_of_getElem? (i := 93) rfl)
set_option maxRecDepth 20000 in
theorem tw580 : (.selects RX5 yX5_most yX5_most : Cond) ∈ lw_tbl := tb_in0 _ (List.mem_of_getElem? (i := 52) rfl)
set_option maxRecDepth 20000 in
theorem tw581 : (.code yX5_hallOf cX5_hallOf 3 (some .int) : Cond) ∈ lw_tbl := tb_in4 _ (List.mem_of_getElem? (i := 82) rfl)
set_option maxRecDepth 20000 in
theorem tw582 : (.code yX5_sittings cX5_sittings 3 (some .int) : Cond) ∈ lw_tbl := tb_in4 _ (List.mem_of_getElem? (i := 106) rfl)
set_option maxRecDepth 20000 in
theorem tw583 : (.code yX5_openHalls cX5_openHalls 3 (some .int) : Cond) ∈ lw_tbl := tb_in4 _ (List.mem_of_getElem? (i := 114) rfl)
set_option maxRecDepth 20000 in
theorem tw584 : (.code yX5_desksOf cX5_desksOf 4 (some .int) : Cond) ∈ lw_tbl := tb_in4 _ (List.mem_of_getElem? (i := 118) rfl)
set_option maxRecDepth 20000 in
theorem tw585 : (.methodLink RX5 184 yX5_sittings : Cond) ∈ lw_tbl := tb_in4 _ (List.mem_of_getElem? (i := 103) rfl)
set_option maxRecDepth 20000 in
theorem tw586 : (.instanceMethod yX5_sittings : Cond) ∈ lw_tbl := tb_in4 _ (List.mem_of_getElem? (i := 105) rfl)
set_option maxRecDepth 20000 in
theorem tw587 : (.selects RX5 yX5_sittings yX5_sittings : Cond) ∈ lw_tbl := tb_in0 _ (List.mem_of_getElem? (i := 54) rfl)
set_option maxRecDepth 20000 in
theorem tw588 : (.methodLink RX5 187 yX5_clashes : Cond) ∈ lw_tbl := tb_in4 _ (List.mem_of_getElem? (i := 107) rfl)
set_option maxRecDepth 20000 in
theorem tw589 : (.instanceMethod yX5_clashes : Cond) ∈ lw_tbl := tb_in4 _ (List.mem_of_getElem? (i := 109) rfl)
set_option maxRecDepth 20000 in
theorem tw590 : (.selects RX5 yX5_clashes yX5_clashes : Cond) ∈ lw_tbl := tb_in0 _ (List.mem_of_getElem? (i := 55) rfl)
set_option maxRecDepth 20000 in
theorem tw591 : (.methodLink RX5 190 yX5_openHalls : Cond) ∈ lw_tbl := tb_in4 _ (List.mem_of_getElem? (i := 111) rfl)
set_option maxRecDepth 20000 in
theorem tw592 : (.instanceMethod yX5_openHalls : Cond) ∈ lw_tbl := tb_in4 _ (List.mem_of_getElem? (i := 113) rfl)
set_option maxRecDepth 20000 in
theorem tw593 : (.selects RX5 yX5_openHalls yX5_openHalls : Cond) ∈ lw_tbl := tb_in0 _ (List.mem_of_getElem? (i := 56) rfl)
set_option maxRecDepth 20000 in
theorem tw594 : (.methodLink RX5 193 yX5_desksOf : Cond) ∈ lw_tbl := tb_in4 _ (List.mem_of_getElem? (i := 115) rfl)
set_option maxRecDepth 20000 in
theorem tw595 : (.instanceMethod yX5_desksOf : Cond) ∈ lw_tbl := tb_in4 _ (List.mem_of_getElem? (i := 117) rfl)
set_option maxRecDepth 20000 in
theorem tw596 : (.selects RX5 yX5_desksOf yX5_desksOf : Cond) ∈ lw_tbl := tb_in0 _ (List.mem_of_getElem? (i := 57) rfl)
set_option maxRecDepth 20000 in
theorem tw597 : (.methodLink RX5 196 yX5_lastEnd : Cond) ∈ lw_tbl := tb_in4 _ (List.mem_of_getElem? (i := 119) rfl)
set_option maxRecDepth 20000 in
theorem tw598 : (.instanceMethod yX5_lastEnd : Cond) ∈ lw_tbl := tb_in4 _ (List.mem_of_getElem? (i := 121) rfl)
set_option maxRecDepth 20000 in
theorem tw599 : (.selects RX5 yX5_lastEnd yX5_lastEnd : Cond) ∈ lw_tbl := tb_in0 _ (List.mem_of_getElem? (i := 58) rfl)
set_option maxRecDepth 20000 in
theorem tw600 : (.code yX5_count cX5_count 2 (some .int) : Cond) ∈ lw_tbl := tb_in4 _ (List.mem_of_getElem? (i := 102) rfl)
set_option maxRecDepth 20000 in
theorem tw601 : (.code yX5_at cX5_at 6 (some .int) : Cond) ∈ lw_tbl := tb_in4 _ (List.mem_of_getElem? (i := 126) rfl)
set_option maxRecDepth 20000 in
theorem tw602 : (.code yX5_ifStart cX5_ifStart 6 (some .int) : Cond) ∈ lw_tbl := tb_in4 _ (List.mem_of_getElem? (i := 130) rfl)
set_option maxRecDepth 20000 in
theorem tw603 : (.constant RX5 199 (1000000) : Cond) ∈ lw_tbl := tb_in4 _ (List.mem_of_getElem? (i := 135) rfl)
set_option maxRecDepth 20000 in
theorem tw604 : (.methodLink RX5 200 yX5_ifStart : Cond) ∈ lw_tbl := tb_in4 _ (List.mem_of_getElem? (i := 136) rfl)
set_option maxRecDepth 20000 in
theorem tw605 : (.instanceMethod yX5_ifStart : Cond) ∈ lw_tbl := tb_in4 _ (List.mem_of_getElem? (i := 128) rfl)
set_option maxRecDepth 20000 in
theorem tw606 : (.selects RX5 yX5_ifStart yX5_ifStart : Cond) ∈ lw_tbl := tb_in4 _ (List.mem_of_getElem? (i := 129) rfl)
set_option maxRecDepth 20000 in
theorem tw607 : (.code yX5_bestStart cX5_bestStart 6 (some .int) : Cond) ∈ lw_tbl := tb_in4 _ (List.mem_of_getElem? (i := 134) rfl)
set_option maxRecDepth 20000 in
theorem tw608 : (.methodLink RX5 204 yX5_keepTrial : Cond) ∈ lw_tbl := tb_in4 _ (List.mem_of_getElem? (i := 141) rfl)
set_option maxRecDepth 20000 in
theorem tw609 : (.instanceMethod yX5_keepTrial : Cond) ∈ lw_tbl := tb_in4 _ (List.mem_of_getElem? (i := 143) rfl)
set_option maxRecDepth 20000 in
theorem tw610 : (.selects RX5 yX5_keepTrial yX5_keepTrial : Cond) ∈ lw_tbl := tb_in0 _ (List.mem_of_getElem? (i := 59) rfl)
set_option maxRecDepth 20000 in
theorem tw611 : (.methodLink RX5 207 yX5_putBack : Cond) ∈ lw_tbl := tb_in4 _ (List.mem_of_getElem? (i := 145) rfl)
set_option maxRecDepth 20000 in
theorem tw612 : (.instanceMethod yX5_putBack : Cond) ∈ lw_tbl := tb_in4 _ (List.mem_of_getElem? (i := 147) rfl)
set_option maxRecDepth 20000 in
theorem tw613 : (.selects RX5 yX5_putBack yX5_putBack : Cond) ∈ lw_tbl := tb_in0 _ (List.mem_of_getElem? (i := 60) rfl)
set_option maxRecDepth 20000 in
theorem tw614 : (.code yX5_bestHalls cX5_bestHalls 6 (some .int) : Cond) ∈ lw_tbl := tb_in4 _ (List.mem_of_getElem? (i := 140) rfl)
set_option maxRecDepth 20000 in
theorem tw615 : (.code yX5_leastRooms cX5_leastRooms 4 (some .int) : Cond) ∈ lw_tbl := tb_in4 _ (List.mem_of_getElem? (i := 152) rfl)
set_option maxRecDepth 20000 in
theorem tw616 : (.code yX5_put cX5_put 8 (some .int) : Cond) ∈ lw_tbl := tb_in4 _ (List.mem_of_getElem? (i := 156) rfl)
set_option maxRecDepth 20000 in
theorem tw617 : (.constantLong RX5 210 (255) : Cond) ∈ lw_tbl := tb_in4 _ (List.mem_of_getElem? (i := 157) rfl)
set_option maxRecDepth 20000 in
theorem tw618 : (.constantLong RX5 212 (33) : Cond) ∈ lw_tbl := tb_in4 _ (List.mem_of_getElem? (i := 158) rfl)
set_option maxRecDepth 20000 in
theorem tw619 : (.constantLong RX5 214 (126) : Cond) ∈ lw_tbl := tb_in4 _ (List.mem_of_getElem? (i := 159) rfl)
set_option maxRecDepth 20000 in
theorem tw620 : (.code yX5_wipe cX5_wipe 2 (some .int) : Cond) ∈ lw_tbl := tb_in4 _ (List.mem_of_getElem? (i := 163) rfl)
set_option maxRecDepth 20000 in
theorem tw621 : (.code yX5_fault cX5_fault 2 (some .int) : Cond) ∈ lw_tbl := tb_in4 _ (List.mem_of_getElem? (i := 167) rfl)
set_option maxRecDepth 20000 in
theorem tw622 : (.code yX5_undo cX5_undo 2 (some .int) : Cond) ∈ lw_tbl := tb_in4 _ (List.mem_of_getElem? (i := 171) rfl)
set_option maxRecDepth 20000 in
theorem tw623 : (.code yX5_save cX5_save 3 (some .int) : Cond) ∈ lw_tbl := tb_in4 _ (List.mem_of_getElem? (i := 175) rfl)
set_option maxRecDepth 20000 in
theorem tw624 : (.code yX5_restore cX5_restore 3 (some .int) : Cond) ∈ lw_tbl := tb_in4 _ (List.mem_of_getElem? (i := 179) rfl)
set_option maxRecDepth 20000 in
theorem tw625 : (.code yJ9_max_7cf53 cJ9_max_7cf53 2 (some .int) : Cond) ∈ lw_tbl := tb_in2 _ (List.mem_of_getElem? (i := 189) rfl)
set_option maxRecDepth 20000 in
theorem tw626 : (.classLink RL 7 RX4 : Cond) ∈ lw_tbl := tb_in1 _ (List.mem_of_getElem? (i := 9) rfl)
set_option maxRecDepth 20000 in
theorem tw627 : (.instantiable RX4 8 : Cond) ∈ lw_tbl := tb_in1 _ (List.mem_of_getElem? (i := 10) rfl)
set_option maxRecDepth 20000 in
theorem tw628 : (.classLink RL 10 RX5 : Cond) ∈ lw_tbl := tb_in3 _ (List.mem_of_getElem? (i := 90) rfl)
set_option maxRecDepth 20000 in
theorem tw629 : (.instantiable RX5 14 : Cond) ∈ lw_tbl := tb_in3 _ (List.mem_of_getElem? (i := 91) rfl)
set_option maxRecDepth 20000 in
theorem tw630 : (.constantLong RL 92 (4294967295) : Cond) ∈ lw_tbl := tb_in4 _ (List.mem_of_getElem? (i := 180) rfl)
set_option maxRecDepth 20000 in
theorem tw631 : (.methodLink RL 9 yX4_init : Cond) ∈ lw_tbl := tb_in1 _ (List.mem_of_getElem? (i := 11) rfl)
set_option maxRecDepth 20000 in
theorem tw632 : (.instanceMethod yX4_init : Cond) ∈ lw_tbl := tb_in1 _ (List.mem_of_getElem? (i := 12) rfl)
set_option maxRecDepth 20000 in
theorem tw633 : (.methodLink RL 12 yX5_init : Cond) ∈ lw_tbl := tb_in3 _ (List.mem_of_getElem? (i := 92) rfl)
set_option maxRecDepth 20000 in
theorem tw634 : (.instanceMethod yX5_init : Cond) ∈ lw_tbl := tb_in3 _ (List.mem_of_getElem? (i := 93) rfl)
set_option maxRecDepth 20000 in
theorem tw635 : (.methodLink RL 13 yX4_set : Cond) ∈ lw_tbl := tb_in2 _ (List.mem_of_getElem? (i := 18) rfl)
set_option maxRecDepth 20000 in
theorem tw636 : (.instanceMethod yX4_set : Cond) ∈ lw_tbl := tb_in2 _ (List.mem_of_getElem? (i := 19) rfl)
set_option maxRecDepth 20000 in
theorem tw637 : (.selects RX4 yX4_set yX4_set : Cond) ∈ lw_tbl := tb_in2 _ (List.mem_of_getElem? (i := 20) rfl)
set_option maxRecDepth 20000 in
theorem tw638 : (.methodLink RL 17 yX5_set : Cond) ∈ lw_tbl := tb_in3 _ (List.mem_of_getElem? (i := 140) rfl)
set_option maxRecDepth 20000 in
theorem tw639 : (.instanceMethod yX5_set : Cond) ∈ lw_tbl := tb_in3 _ (List.mem_of_getElem? (i := 141) rfl)
set_option maxRecDepth 20000 in
theorem tw640 : (.selects RX5 yX5_set yX5_set : Cond) ∈ lw_tbl := tb_in3 _ (List.mem_of_getElem? (i := 142) rfl)
set_option maxRecDepth 20000 in
theorem tw641 : (.methodLink RL 18 yX4_paper : Cond) ∈ lw_tbl := tb_in2 _ (List.mem_of_getElem? (i := 39) rfl)
set_option maxRecDepth 20000 in
theorem tw642 : (.instanceMethod yX4_paper : Cond) ∈ lw_tbl := tb_in2 _ (List.mem_of_getElem? (i := 40) rfl)
set_option maxRecDepth 20000 in
theorem tw643 : (.selects RX4 yX4_paper yX4_paper : Cond) ∈ lw_tbl := tb_in2 _ (List.mem_of_getElem? (i := 41) rfl)
set_option maxRecDepth 20000 in
theorem tw644 : (.methodLink RL 22 yX5_paper : Cond) ∈ lw_tbl := tb_in3 _ (List.mem_of_getElem? (i := 155) rfl)
set_option maxRecDepth 20000 in
theorem tw645 : (.instanceMethod yX5_paper : Cond) ∈ lw_tbl := tb_in3 _ (List.mem_of_getElem? (i := 156) rfl)
set_option maxRecDepth 20000 in
theorem tw646 : (.selects RX5 yX5_paper yX5_paper : Cond) ∈ lw_tbl := tb_in3 _ (List.mem_of_getElem? (i := 157) rfl)
set_option maxRecDepth 20000 in
theorem tw647 : (.methodLink RL 23 yX4_pupil : Cond) ∈ lw_tbl := tb_in2 _ (List.mem_of_getElem? (i := 49) rfl)
set_option maxRecDepth 20000 in
theorem tw648 : (.instanceMethod yX4_pupil : Cond) ∈ lw_tbl := tb_in2 _ (List.mem_of_getElem? (i := 50) rfl)
set_option maxRecDepth 20000 in
theorem tw649 : (.selects RX4 yX4_pupil yX4_pupil : Cond) ∈ lw_tbl := tb_in2 _ (List.mem_of_getElem? (i := 51) rfl)
set_option maxRecDepth 20000 in
theorem tw650 : (.methodLink RL 27 yX5_pupil : Cond) ∈ lw_tbl := tb_in3 _ (List.mem_of_getElem? (i := 162) rfl)
set_option maxRecDepth 20000 in
theorem tw651 : (.instanceMethod yX5_pupil : Cond) ∈ lw_tbl := tb_in3 _ (List.mem_of_getElem? (i := 163) rfl)
set_option maxRecDepth 20000 in
theorem tw652 : (.selects RX5 yX5_pupil yX5_pupil : Cond) ∈ lw_tbl := tb_in3 _ (List.mem_of_getElem? (i := 164) rfl)
set_option maxRecDepth 20000 in
theorem tw653 : (.methodLink RL 28 yX4_read : Cond) ∈ lw_tbl := tb_in2 _ (List.mem_of_getElem? (i := 64) rfl)
set_option maxRecDepth 20000 in
theorem tw654 : (.instanceMethod yX4_read : Cond) ∈ lw_tbl := tb_in2 _ (List.mem_of_getElem? (i := 65) rfl)
set_option maxRecDepth 20000 in
theorem tw655 : (.selects RX4 yX4_read yX4_read : Cond) ∈ lw_tbl := tb_in2 _ (List.mem_of_getElem? (i := 66) rfl)
set_option maxRecDepth 20000 in
theorem tw656 : (.methodLink RL 32 yX5_read : Cond) ∈ lw_tbl := tb_in4 _ (List.mem_of_getElem? (i := 23) rfl)
set_option maxRecDepth 20000 in
theorem tw657 : (.instanceMethod yX5_read : Cond) ∈ lw_tbl := tb_in4 _ (List.mem_of_getElem? (i := 24) rfl)
set_option maxRecDepth 20000 in
theorem tw658 : (.selects RX5 yX5_read yX5_read : Cond) ∈ lw_tbl := tb_in4 _ (List.mem_of_getElem? (i := 25) rfl)
set_option maxRecDepth 20000 in
theorem tw659 : (.methodLink RL 33 yX4_change : Cond) ∈ lw_tbl := tb_in2 _ (List.mem_of_getElem? (i := 110) rfl)
set_option maxRecDepth 20000 in
theorem tw660 : (.instanceMethod yX4_change : Cond) ∈ lw_tbl := tb_in2 _ (List.mem_of_getElem? (i := 111) rfl)
set_option maxRecDepth 20000 in
theorem tw661 : (.selects RX4 yX4_change yX4_change : Cond) ∈ lw_tbl := tb_in2 _ (List.mem_of_getElem? (i := 112) rfl)
set_option maxRecDepth 20000 in
theorem tw662 : (.methodLink RL 37 yX5_change : Cond) ∈ lw_tbl := tb_in3 _ (List.mem_of_getElem? (i := 173) rfl)
set_option maxRecDepth 20000 in
theorem tw663 : (.instanceMethod yX5_change : Cond) ∈ lw_tbl := tb_in3 _ (List.mem_of_getElem? (i := 174) rfl)
set_option maxRecDepth 20000 in
theorem tw664 : (.selects RX5 yX5_change yX5_change : Cond) ∈ lw_tbl := tb_in3 _ (List.mem_of_getElem? (i := 175) rfl)
set_option maxRecDepth 20000 in
theorem tw665 : (.methodLink RL 38 yX4_leave : Cond) ∈ lw_tbl := tb_in2 _ (List.mem_of_getElem? (i := 135) rfl)
set_option maxRecDepth 20000 in
theorem tw666 : (.instanceMethod yX4_leave : Cond) ∈ lw_tbl := tb_in2 _ (List.mem_of_getElem? (i := 136) rfl)
set_option maxRecDepth 20000 in
theorem tw667 : (.selects RX4 yX4_leave yX4_leave : Cond) ∈ lw_tbl := tb_in2 _ (List.mem_of_getElem? (i := 137) rfl)
set_option maxRecDepth 20000 in
theorem tw668 : (.methodLink RL 42 yX5_leave : Cond) ∈ lw_tbl := tb_in3 _ (List.mem_of_getElem? (i := 205) rfl)
set_option maxRecDepth 20000 in
theorem tw669 : (.instanceMethod yX5_leave : Cond) ∈ lw_tbl := tb_in3 _ (List.mem_of_getElem? (i := 206) rfl)
set_option maxRecDepth 20000 in
theorem tw670 : (.selects RX5 yX5_leave yX5_leave : Cond) ∈ lw_tbl := tb_in3 _ (List.mem_of_getElem? (i := 207) rfl)
set_option maxRecDepth 20000 in
theorem tw671 : (.methodLink RL 43 yX4_hall : Cond) ∈ lw_tbl := tb_in2 _ (List.mem_of_getElem? (i := 143) rfl)
set_option maxRecDepth 20000 in
theorem tw672 : (.instanceMethod yX4_hall : Cond) ∈ lw_tbl := tb_in2 _ (List.mem_of_getElem? (i := 144) rfl)
set_option maxRecDepth 20000 in
theorem tw673 : (.selects RX4 yX4_hall yX4_hall : Cond) ∈ lw_tbl := tb_in2 _ (List.mem_of_getElem? (i := 145) rfl)
set_option maxRecDepth 20000 in
theorem tw674 : (.methodLink RL 46 yX5_hall : Cond) ∈ lw_tbl := tb_in3 _ (List.mem_of_getElem? (i := 209) rfl)
set_option maxRecDepth 20000 in
theorem tw675 : (.instanceMethod yX5_hall : Cond) ∈ lw_tbl := tb_in3 _ (List.mem_of_getElem? (i := 210) rfl)
set_option maxRecDepth 20000 in
theorem tw676 : (.selects RX5 yX5_hall yX5_hall : Cond) ∈ lw_tbl := tb_in3 _ (List.mem_of_getElem? (i := 211) rfl)
set_option maxRecDepth 20000 in
theorem tw677 : (.methodLink RL 47 yX4_open : Cond) ∈ lw_tbl := tb_in2 _ (List.mem_of_getElem? (i := 154) rfl)
set_option maxRecDepth 20000 in
theorem tw678 : (.instanceMethod yX4_open : Cond) ∈ lw_tbl := tb_in2 _ (List.mem_of_getElem? (i := 155) rfl)
set_option maxRecDepth 20000 in
theorem tw679 : (.selects RX4 yX4_open yX4_open : Cond) ∈ lw_tbl := tb_in2 _ (List.mem_of_getElem? (i := 156) rfl)
set_option maxRecDepth 20000 in
theorem tw680 : (.methodLink RL 51 yX5_open : Cond) ∈ lw_tbl := tb_in3 _ (List.mem_of_getElem? (i := 223) rfl)
set_option maxRecDepth 20000 in
theorem tw681 : (.instanceMethod yX5_open : Cond) ∈ lw_tbl := tb_in3 _ (List.mem_of_getElem? (i := 224) rfl)
set_option maxRecDepth 20000 in
theorem tw682 : (.selects RX5 yX5_open yX5_open : Cond) ∈ lw_tbl := tb_in3 _ (List.mem_of_getElem? (i := 225) rfl)
set_option maxRecDepth 20000 in
theorem tw683 : (.methodLink RL 52 yX4_pupilOf : Cond) ∈ lw_tbl := tb_in2 _ (List.mem_of_getElem? (i := 159) rfl)
set_option maxRecDepth 20000 in
theorem tw684 : (.instanceMethod yX4_pupilOf : Cond) ∈ lw_tbl := tb_in2 _ (List.mem_of_getElem? (i := 160) rfl)
set_option maxRecDepth 20000 in
theorem tw685 : (.selects RX4 yX4_pupilOf yX4_pupilOf : Cond) ∈ lw_tbl := tb_in2 _ (List.mem_of_getElem? (i := 161) rfl)
set_option maxRecDepth 20000 in
theorem tw686 : (.methodLink RL 55 yX5_pupilOf : Cond) ∈ lw_tbl := tb_in4 _ (List.mem_of_getElem? (i := 51) rfl)
set_option maxRecDepth 20000 in
theorem tw687 : (.instanceMethod yX5_pupilOf : Cond) ∈ lw_tbl := tb_in4 _ (List.mem_of_getElem? (i := 52) rfl)
set_option maxRecDepth 20000 in
theorem tw688 : (.selects RX5 yX5_pupilOf yX5_pupilOf : Cond) ∈ lw_tbl := tb_in4 _ (List.mem_of_getElem? (i := 53) rfl)
set_option maxRecDepth 20000 in
theorem tw689 : (.methodLink RL 56 yX4_paperOf : Cond) ∈ lw_tbl := tb_in2 _ (List.mem_of_getElem? (i := 175) rfl)
set_option maxRecDepth 20000 in
theorem tw690 : (.instanceMethod yX4_paperOf : Cond) ∈ lw_tbl := tb_in2 _ (List.mem_of_getElem? (i := 176) rfl)
set_option maxRecDepth 20000 in
theorem tw691 : (.selects RX4 yX4_paperOf yX4_paperOf : Cond) ∈ lw_tbl := tb_in2 _ (List.mem_of_getElem? (i := 177) rfl)
set_option maxRecDepth 20000 in
theorem tw692 : (.methodLink RL 59 yX5_paperOf : Cond) ∈ lw_tbl := tb_in4 _ (List.mem_of_getElem? (i := 63) rfl)
set_option maxRecDepth 20000 in
theorem tw693 : (.instanceMethod yX5_paperOf : Cond) ∈ lw_tbl := tb_in4 _ (List.mem_of_getElem? (i := 64) rfl)
set_option maxRecDepth 20000 in
theorem tw694 : (.selects RX5 yX5_paperOf yX5_paperOf : Cond) ∈ lw_tbl := tb_in4 _ (List.mem_of_getElem? (i := 65) rfl)
set_option maxRecDepth 20000 in
theorem tw695 : (.methodLink RL 60 yX4_sitting : Cond) ∈ lw_tbl := tb_in2 _ (List.mem_of_getElem? (i := 198) rfl)
set_option maxRecDepth 20000 in
theorem tw696 : (.instanceMethod yX4_sitting : Cond) ∈ lw_tbl := tb_in2 _ (List.mem_of_getElem? (i := 199) rfl)
set_option maxRecDepth 20000 in
theorem tw697 : (.selects RX4 yX4_sitting yX4_sitting : Cond) ∈ lw_tbl := tb_in2 _ (List.mem_of_getElem? (i := 200) rfl)
set_option maxRecDepth 20000 in
theorem tw698 : (.methodLink RL 63 yX5_sitting : Cond) ∈ lw_tbl := tb_in4 _ (List.mem_of_getElem? (i := 71) rfl)
set_option maxRecDepth 20000 in
theorem tw699 : (.instanceMethod yX5_sitting : Cond) ∈ lw_tbl := tb_in4 _ (List.mem_of_getElem? (i := 72) rfl)
set_option maxRecDepth 20000 in
theorem tw700 : (.selects RX5 yX5_sitting yX5_sitting : Cond) ∈ lw_tbl := tb_in4 _ (List.mem_of_getElem? (i := 73) rfl)
set_option maxRecDepth 20000 in
theorem tw701 : (.methodLink RL 64 yX4_hallOf : Cond) ∈ lw_tbl := tb_in2 _ (List.mem_of_getElem? (i := 207) rfl)
set_option maxRecDepth 20000 in
theorem tw702 : (.instanceMethod yX4_hallOf : Cond) ∈ lw_tbl := tb_in2 _ (List.mem_of_getElem? (i := 208) rfl)
set_option maxRecDepth 20000 in
theorem tw703 : (.selects RX4 yX4_hallOf yX4_hallOf : Cond) ∈ lw_tbl := tb_in2 _ (List.mem_of_getElem? (i := 209) rfl)
set_option maxRecDepth 20000 in
theorem tw704 : (.methodLink RL 67 yX5_hallOf : Cond) ∈ lw_tbl := tb_in4 _ (List.mem_of_getElem? (i := 79) rfl)
set_option maxRecDepth 20000 in
theorem tw705 : (.instanceMethod yX5_hallOf : Cond) ∈ lw_tbl := tb_in4 _ (List.mem_of_getElem? (i := 80) rfl)
set_option maxRecDepth 20000 in
theorem tw706 : (.selects RX5 yX5_hallOf yX5_hallOf : Cond) ∈ lw_tbl := tb_in4 _ (List.mem_of_getElem? (i := 81) rfl)
set_option maxRecDepth 20000 in
theorem tw707 : (.methodLink RL 68 yX4_count : Cond) ∈ lw_tbl := tb_in2 _ (List.mem_of_getElem? (i := 232) rfl)
set_option maxRecDepth 20000 in
theorem tw708 : (.instanceMethod yX4_count : Cond) ∈ lw_tbl := tb_in2 _ (List.mem_of_getElem? (i := 233) rfl)
set_option maxRecDepth 20000 in
theorem tw709 : (.selects RX4 yX4_count yX4_count : Cond) ∈ lw_tbl := tb_in2 _ (List.mem_of_getElem? (i := 234) rfl)
set_option maxRecDepth 20000 in
theorem tw710 : (.methodLink RL 71 yX5_count : Cond) ∈ lw_tbl := tb_in4 _ (List.mem_of_getElem? (i := 99) rfl)
set_option maxRecDepth 20000 in
theorem tw711 : (.instanceMethod yX5_count : Cond) ∈ lw_tbl := tb_in4 _ (List.mem_of_getElem? (i := 100) rfl)
set_option maxRecDepth 20000 in
theorem tw712 : (.selects RX5 yX5_count yX5_count : Cond) ∈ lw_tbl := tb_in4 _ (List.mem_of_getElem? (i := 101) rfl)
set_option maxRecDepth 20000 in
theorem tw713 : (.methodLink RL 72 yX4_at : Cond) ∈ lw_tbl := tb_in3 _ (List.mem_of_getElem? (i := 25) rfl)
set_option maxRecDepth 20000 in
theorem tw714 : (.instanceMethod yX4_at : Cond) ∈ lw_tbl := tb_in3 _ (List.mem_of_getElem? (i := 26) rfl)
set_option maxRecDepth 20000 in
theorem tw715 : (.selects RX4 yX4_at yX4_at : Cond) ∈ lw_tbl := tb_in3 _ (List.mem_of_getElem? (i := 27) rfl)
set_option maxRecDepth 20000 in
theorem tw716 : (.methodLink RL 75 yX5_at : Cond) ∈ lw_tbl := tb_in4 _ (List.mem_of_getElem? (i := 123) rfl)
set_option maxRecDepth 20000 in
theorem tw717 : (.instanceMethod yX5_at : Cond) ∈ lw_tbl := tb_in4 _ (List.mem_of_getElem? (i := 124) rfl)
set_option maxRecDepth 20000 in
theorem tw718 : (.selects RX5 yX5_at yX5_at : Cond) ∈ lw_tbl := tb_in4 _ (List.mem_of_getElem? (i := 125) rfl)
set_option maxRecDepth 20000 in
theorem tw719 : (.methodLink RL 76 yX4_ifStart : Cond) ∈ lw_tbl := tb_in3 _ (List.mem_of_getElem? (i := 33) rfl)
set_option maxRecDepth 20000 in
theorem tw720 : (.instanceMethod yX4_ifStart : Cond) ∈ lw_tbl := tb_in3 _ (List.mem_of_getElem? (i := 34) rfl)
set_option maxRecDepth 20000 in
theorem tw721 : (.selects RX4 yX4_ifStart yX4_ifStart : Cond) ∈ lw_tbl := tb_in3 _ (List.mem_of_getElem? (i := 35) rfl)
set_option maxRecDepth 20000 in
theorem tw722 : (.methodLink RL 79 yX5_ifStart : Cond) ∈ lw_tbl := tb_in4 _ (List.mem_of_getElem? (i := 127) rfl)
set_option maxRecDepth 20000 in
theorem tw723 : (.methodLink RL 80 yX4_bestStart : Cond) ∈ lw_tbl := tb_in3 _ (List.mem_of_getElem? (i := 38) rfl)
set_option maxRecDepth 20000 in
theorem tw724 : (.instanceMethod yX4_bestStart : Cond) ∈ lw_tbl := tb_in3 _ (List.mem_of_getElem? (i := 39) rfl)
set_option maxRecDepth 20000 in
theorem tw725 : (.selects RX4 yX4_bestStart yX4_bestStart : Cond) ∈ lw_tbl := tb_in3 _ (List.mem_of_getElem? (i := 40) rfl)
set_option maxRecDepth 20000 in
theorem tw726 : (.methodLink RL 83 yX5_bestStart : Cond) ∈ lw_tbl := tb_in4 _ (List.mem_of_getElem? (i := 131) rfl)
set_option maxRecDepth 20000 in
theorem tw727 : (.instanceMethod yX5_bestStart : Cond) ∈ lw_tbl := tb_in4 _ (List.mem_of_getElem? (i := 132) rfl)
set_option maxRecDepth 20000 in
theorem tw728 : (.selects RX5 yX5_bestStart yX5_bestStart : Cond) ∈ lw_tbl := tb_in4 _ (List.mem_of_getElem? (i := 133) rfl)
set_option maxRecDepth 20000 in
theorem tw729 : (.methodLink RL 84 yX4_bestHalls : Cond) ∈ lw_tbl := tb_in3 _ (List.mem_of_getElem? (i := 42) rfl)
set_option maxRecDepth 20000 in
theorem tw730 : (.instanceMethod yX4_bestHalls : Cond) ∈ lw_tbl := tb_in3 _ (List.mem_of_getElem? (i := 43) rfl)
set_option maxRecDepth 20000 in
theorem tw731 : (.selects RX4 yX4_bestHalls yX4_bestHalls : Cond) ∈ lw_tbl := tb_in3 _ (List.mem_of_getElem? (i := 44) rfl)
set_option maxRecDepth 20000 in
theorem tw732 : (.methodLink RL 87 yX5_bestHalls : Cond) ∈ lw_tbl := tb_in4 _ (List.mem_of_getElem? (i := 137) rfl)
set_option maxRecDepth 20000 in
theorem tw733 : (.instanceMethod yX5_bestHalls : Cond) ∈ lw_tbl := tb_in4 _ (List.mem_of_getElem? (i := 138) rfl)
set_option maxRecDepth 20000 in
theorem tw734 : (.selects RX5 yX5_bestHalls yX5_bestHalls : Cond) ∈ lw_tbl := tb_in4 _ (List.mem_of_getElem? (i := 139) rfl)
set_option maxRecDepth 20000 in
theorem tw735 : (.methodLink RL 88 yX4_leastRooms : Cond) ∈ lw_tbl := tb_in3 _ (List.mem_of_getElem? (i := 46) rfl)
set_option maxRecDepth 20000 in
theorem tw736 : (.instanceMethod yX4_leastRooms : Cond) ∈ lw_tbl := tb_in3 _ (List.mem_of_getElem? (i := 47) rfl)
set_option maxRecDepth 20000 in
theorem tw737 : (.selects RX4 yX4_leastRooms yX4_leastRooms : Cond) ∈ lw_tbl := tb_in3 _ (List.mem_of_getElem? (i := 48) rfl)
set_option maxRecDepth 20000 in
theorem tw738 : (.methodLink RL 91 yX5_leastRooms : Cond) ∈ lw_tbl := tb_in4 _ (List.mem_of_getElem? (i := 149) rfl)
set_option maxRecDepth 20000 in
theorem tw739 : (.instanceMethod yX5_leastRooms : Cond) ∈ lw_tbl := tb_in4 _ (List.mem_of_getElem? (i := 150) rfl)
set_option maxRecDepth 20000 in
theorem tw740 : (.selects RX5 yX5_leastRooms yX5_leastRooms : Cond) ∈ lw_tbl := tb_in4 _ (List.mem_of_getElem? (i := 151) rfl)
set_option maxRecDepth 20000 in
theorem tw741 : (.methodLink RL 94 yX4_put : Cond) ∈ lw_tbl := tb_in3 _ (List.mem_of_getElem? (i := 50) rfl)
set_option maxRecDepth 20000 in
theorem tw742 : (.instanceMethod yX4_put : Cond) ∈ lw_tbl := tb_in3 _ (List.mem_of_getElem? (i := 51) rfl)
set_option maxRecDepth 20000 in
theorem tw743 : (.selects RX4 yX4_put yX4_put : Cond) ∈ lw_tbl := tb_in3 _ (List.mem_of_getElem? (i := 52) rfl)
set_option maxRecDepth 20000 in
theorem tw744 : (.methodLink RL 98 yX5_put : Cond) ∈ lw_tbl := tb_in4 _ (List.mem_of_getElem? (i := 153) rfl)
set_option maxRecDepth 20000 in
theorem tw745 : (.instanceMethod yX5_put : Cond) ∈ lw_tbl := tb_in4 _ (List.mem_of_getElem? (i := 154) rfl)
set_option maxRecDepth 20000 in
theorem tw746 : (.selects RX5 yX5_put yX5_put : Cond) ∈ lw_tbl := tb_in4 _ (List.mem_of_getElem? (i := 155) rfl)
set_option maxRecDepth 20000 in
theorem tw747 : (.methodLink RL 99 yX4_wipe : Cond) ∈ lw_tbl := tb_in3 _ (List.mem_of_getElem? (i := 63) rfl)
set_option maxRecDepth 20000 in
theorem tw748 : (.instanceMethod yX4_wipe : Cond) ∈ lw_tbl := tb_in3 _ (List.mem_of_getElem? (i := 64) rfl)
set_option maxRecDepth 20000 in
theorem tw749 : (.selects RX4 yX4_wipe yX4_wipe : Cond) ∈ lw_tbl := tb_in3 _ (List.mem_of_getElem? (i := 65) rfl)
set_option maxRecDepth 20000 in
theorem tw750 : (.methodLink RL 102 yX5_wipe : Cond) ∈ lw_tbl := tb_in4 _ (List.mem_of_getElem? (i := 160) rfl)
set_option maxRecDepth 20000 in
theorem tw751 : (.instanceMethod yX5_wipe : Cond) ∈ lw_tbl := tb_in4 _ (List.mem_of_getElem? (i := 161) rfl)
set_option maxRecDepth 20000 in
theorem tw752 : (.selects RX5 yX5_wipe yX5_wipe : Cond) ∈ lw_tbl := tb_in4 _ (List.mem_of_getElem? (i := 162) rfl)
set_option maxRecDepth 20000 in
theorem tw753 : (.methodLink RL 103 yX4_fault : Cond) ∈ lw_tbl := tb_in3 _ (List.mem_of_getElem? (i := 67) rfl)
set_option maxRecDepth 20000 in
theorem tw754 : (.instanceMethod yX4_fault : Cond) ∈ lw_tbl := tb_in3 _ (List.mem_of_getElem? (i := 68) rfl)
set_option maxRecDepth 20000 in
theorem tw755 : (.selects RX4 yX4_fault yX4_fault : Cond) ∈ lw_tbl := tb_in3 _ (List.mem_of_getElem? (i := 69) rfl)
set_option maxRecDepth 20000 in
theorem tw756 : (.methodLink RL 106 yX5_fault : Cond) ∈ lw_tbl := tb_in4 _ (List.mem_of_getElem? (i := 164) rfl)
set_option maxRecDepth 20000 in
theorem tw757 : (.instanceMethod yX5_fault : Cond) ∈ lw_tbl := tb_in4 _ (List.mem_of_getElem? (i := 165) rfl)
set_option maxRecDepth 20000 in
theorem tw758 : (.selects RX5 yX5_fault yX5_fault : Cond) ∈ lw_tbl := tb_in4 _ (List.mem_of_getElem? (i := 166) rfl)
set_option maxRecDepth 20000 in
theorem tw759 : (.methodLink RL 107 yX4_undo : Cond) ∈ lw_tbl := tb_in3 _ (List.mem_of_getElem? (i := 71) rfl)
set_option maxRecDepth 20000 in
theorem tw760 : (.instanceMethod yX4_undo : Cond) ∈ lw_tbl := tb_in3 _ (List.mem_of_getElem? (i := 72) rfl)
set_option maxRecDepth 20000 in
theorem tw761 : (.selects RX4 yX4_undo yX4_undo : Cond) ∈ lw_tbl := tb_in3 _ (List.mem_of_getElem? (i := 73) rfl)
set_option maxRecDepth 20000 in
theorem tw762 : (.methodLink RL 110 yX5_undo : Cond) ∈ lw_tbl := tb_in4 _ (List.mem_of_getElem? (i := 168) rfl)
set_option maxRecDepth 20000 in
theorem tw763 : (.instanceMethod yX5_undo : Cond) ∈ lw_tbl := tb_in4 _ (List.mem_of_getElem? (i := 169) rfl)
set_option maxRecDepth 20000 in
theorem tw764 : (.selects RX5 yX5_undo yX5_undo : Cond) ∈ lw_tbl := tb_in4 _ (List.mem_of_getElem? (i := 170) rfl)
set_option maxRecDepth 20000 in
theorem tw765 : (.methodLink RL 111 yX4_save : Cond) ∈ lw_tbl := tb_in3 _ (List.mem_of_getElem? (i := 79) rfl)
set_option maxRecDepth 20000 in
theorem tw766 : (.instanceMethod yX4_save : Cond) ∈ lw_tbl := tb_in3 _ (List.mem_of_getElem? (i := 80) rfl)
set_option maxRecDepth 20000 in
theorem tw767 : (.selects RX4 yX4_save yX4_save : Cond) ∈ lw_tbl := tb_in3 _ (List.mem_of_getElem? (i := 81) rfl)
set_option maxRecDepth 20000 in
theorem tw768 : (.methodLink RL 114 yX5_save : Cond) ∈ lw_tbl := tb_in4 _ (List.mem_of_getElem? (i := 172) rfl)
set_option maxRecDepth 20000 in
theorem tw769 : (.instanceMethod yX5_save : Cond) ∈ lw_tbl := tb_in4 _ (List.mem_of_getElem? (i := 173) rfl)
set_option maxRecDepth 20000 in
theorem tw770 : (.selects RX5 yX5_save yX5_save : Cond) ∈ lw_tbl := tb_in4 _ (List.mem_of_getElem? (i := 174) rfl)
set_option maxRecDepth 20000 in
theorem tw771 : (.methodLink RL 115 yX4_restore : Cond) ∈ lw_tbl := tb_in3 _ (List.mem_of_getElem? (i := 86) rfl)
set_option maxRecDepth 20000 in
theorem tw772 : (.instanceMethod yX4_restore : Cond) ∈ lw_tbl := tb_in3 _ (List.mem_of_getElem? (i := 87) rfl)
set_option maxRecDepth 20000 in
theorem tw773 : (.selects RX4 yX4_restore yX4_restore : Cond) ∈ lw_tbl := tb_in3 _ (List.mem_of_getElem? (i := 88) rfl)
set_option maxRecDepth 20000 in
theorem tw774 : (.methodLink RL 118 yX5_restore : Cond) ∈ lw_tbl := tb_in4 _ (List.mem_of_getElem? (i := 176) rfl)
set_option maxRecDepth 20000 in
theorem tw775 : (.instanceMethod yX5_restore : Cond) ∈ lw_tbl := tb_in4 _ (List.mem_of_getElem? (i := 177) rfl)
set_option maxRecDepth 20000 in
theorem tw776 : (.selects RX5 yX5_restore yX5_restore : Cond) ∈ lw_tbl := tb_in4 _ (List.mem_of_getElem? (i := 178) rfl)
theorem tbc0 : ∀ w ∈ TB0, w ∈ lw_tbl := List.forall_mem_cons.mpr ⟨tw0, List.forall_mem_cons.mpr ⟨tw1, List.forall_mem_cons.mpr ⟨tw2, List.forall_mem_cons.mpr ⟨tw3, List.forall_mem_cons.mpr ⟨tw4, List.forall_mem_cons.mpr ⟨tw5, List.forall_mem_cons.mpr ⟨tw6, List.forall_mem_cons.mpr ⟨tw7, List.forall_mem_cons.mpr ⟨tw8, List.forall_mem_cons.mpr ⟨tw9, List.forall_mem_cons.mpr ⟨tw10, List.forall_mem_cons.mpr ⟨tw11, List.forall_mem_cons.mpr ⟨tw12, List.forall_mem_cons.mpr ⟨tw13, List.forall_mem_cons.mpr ⟨tw14, List.forall_mem_cons.mpr ⟨tw15, List.forall_mem_cons.mpr ⟨tw16, List.forall_mem_cons.mpr ⟨tw17, List.forall_mem_cons.mpr ⟨tw18, List.forall_mem_cons.mpr ⟨tw19, List.forall_mem_cons.mpr ⟨tw20, List.forall_mem_cons.mpr ⟨tw21, List.forall_mem_cons.mpr ⟨tw22, List.forall_mem_cons.mpr ⟨tw23, List.forall_mem_cons.mpr ⟨tw24, List.forall_mem_cons.mpr ⟨tw25, List.forall_mem_cons.mpr ⟨tw26, List.forall_mem_cons.mpr ⟨tw27, List.forall_mem_cons.mpr ⟨tw28, List.forall_mem_cons.mpr ⟨tw29, List.forall_mem_cons.mpr ⟨tw30, List.forall_mem_cons.mpr ⟨tw31, List.forall_mem_cons.mpr ⟨tw32, List.forall_mem_cons.mpr ⟨tw33, List.forall_mem_cons.mpr ⟨tw34, List.forall_mem_cons.mpr ⟨tw35, List.forall_mem_cons.mpr ⟨tw36, List.forall_mem_cons.mpr ⟨tw37, List.forall_mem_cons.mpr ⟨tw38, List.forall_mem_cons.mpr ⟨tw39, (fun _ h => absurd h List.not_mem_nil)⟩⟩⟩⟩⟩⟩⟩⟩⟩⟩⟩⟩⟩⟩⟩⟩⟩⟩⟩⟩⟩⟩⟩⟩⟩⟩⟩⟩⟩⟩⟩⟩⟩⟩⟩⟩⟩⟩⟩⟩
theorem tbc1 : ∀ w ∈ TB1, w ∈ lw_tbl := List.forall_mem_cons.mpr ⟨tw40, List.forall_mem_cons.mpr ⟨tw41, List.forall_mem_cons.mpr ⟨tw42, List.forall_mem_cons.mpr ⟨tw43, List.forall_mem_cons.mpr ⟨tw44, List.forall_mem_cons.mpr ⟨tw45, List.forall_mem_cons.mpr ⟨tw46, List.forall_mem_cons.mpr ⟨tw47, List.forall_mem_cons.mpr ⟨tw48, List.forall_mem_cons.mpr ⟨tw49, List.forall_mem_cons.mpr ⟨tw50, List.forall_mem_cons.mpr ⟨tw51, List.forall_mem_cons.mpr ⟨tw52, List.forall_mem_cons.mpr ⟨tw53, List.forall_mem_cons.mpr ⟨tw54, List.forall_mem_cons.mpr ⟨tw55, List.forall_mem_cons.mpr ⟨tw56, List.forall_mem_cons.mpr ⟨tw57, List.forall_mem_cons.mpr ⟨tw58, List.forall_mem_cons.mpr ⟨tw59, List.forall_mem_cons.mpr ⟨tw60, List.forall_mem_cons.mpr ⟨tw61, List.forall_mem_cons.mpr ⟨tw62, List.forall_mem_cons.mpr ⟨tw63, List.forall_mem_cons.mpr ⟨tw64, List.forall_mem_cons.mpr ⟨tw65, List.forall_mem_cons.mpr ⟨tw66, List.forall_mem_cons.mpr ⟨tw67, List.forall_mem_cons.mpr ⟨tw68, List.forall_mem_cons.mpr ⟨tw69, List.forall_mem_cons.mpr ⟨tw70, List.forall_mem_cons.mpr ⟨tw71, List.forall_mem_cons.mpr ⟨tw72, List.forall_mem_cons.mpr ⟨tw73, List.forall_mem_cons.mpr ⟨tw74, List.forall_mem_cons.mpr ⟨tw75, List.forall_mem_cons.mpr ⟨tw76, List.forall_mem_cons.mpr ⟨tw77, List.forall_mem_cons.mpr ⟨tw78, List.forall_mem_cons.mpr ⟨tw79, (fun _ h => absurd h List.not_mem_nil)⟩⟩⟩⟩⟩⟩⟩⟩⟩⟩⟩⟩⟩⟩⟩⟩⟩⟩⟩⟩⟩⟩⟩⟩⟩⟩⟩⟩⟩⟩⟩⟩⟩⟩⟩⟩⟩⟩⟩⟩
theorem tbc2 : ∀ w ∈ TB2, w ∈ lw_tbl := List.forall_mem_cons.mpr ⟨tw80, List.forall_mem_cons.mpr ⟨tw81, List.forall_mem_cons.mpr ⟨tw82, List.forall_mem_cons.mpr ⟨tw83, List.forall_mem_cons.mpr ⟨tw84, List.forall_mem_cons.mpr ⟨tw85, List.forall_mem_cons.mpr ⟨tw86, List.forall_mem_cons.mpr ⟨tw87, List.forall_mem_cons.mpr ⟨tw88, List.forall_mem_cons.mpr ⟨tw89, List.forall_mem_cons.mpr ⟨tw90, List.forall_mem_cons.mpr ⟨tw91, List.forall_mem_cons.mpr ⟨tw92, List.forall_mem_cons.mpr ⟨tw93, List.forall_mem_cons.mpr ⟨tw94, List.forall_mem_cons.mpr ⟨tw95, List.forall_mem_cons.mpr ⟨tw96, List.forall_mem_cons.mpr ⟨tw97, List.forall_mem_cons.mpr ⟨tw98, List.forall_mem_cons.mpr ⟨tw99, List.forall_mem_cons.mpr ⟨tw100, List.forall_mem_cons.mpr ⟨tw101, List.forall_mem_cons.mpr ⟨tw102, List.forall_mem_cons.mpr ⟨tw103, List.forall_mem_cons.mpr ⟨tw104, List.forall_mem_cons.mpr ⟨tw105, List.forall_mem_cons.mpr ⟨tw106, List.forall_mem_cons.mpr ⟨tw107, List.forall_mem_cons.mpr ⟨tw108, List.forall_mem_cons.mpr ⟨tw109, List.forall_mem_cons.mpr ⟨tw110, List.forall_mem_cons.mpr ⟨tw111, List.forall_mem_cons.mpr ⟨tw112, List.forall_mem_cons.mpr ⟨tw113, List.forall_mem_cons.mpr ⟨tw114, List.forall_mem_cons.mpr ⟨tw115, List.forall_mem_cons.mpr ⟨tw116, List.forall_mem_cons.mpr ⟨tw117, List.forall_mem_cons.mpr ⟨tw118, List.forall_mem_cons.mpr ⟨tw119, (fun _ h => absurd h List.not_mem_nil)⟩⟩⟩⟩⟩⟩⟩⟩⟩⟩⟩⟩⟩⟩⟩⟩⟩⟩⟩⟩⟩⟩⟩⟩⟩⟩⟩⟩⟩⟩⟩⟩⟩⟩⟩⟩⟩⟩⟩⟩
theorem tbc3 : ∀ w ∈ TB3, w ∈ lw_tbl := List.forall_mem_cons.mpr ⟨tw120, List.forall_mem_cons.mpr ⟨tw121, List.forall_mem_cons.mpr ⟨tw122, List.forall_mem_cons.mpr ⟨tw123, List.forall_mem_cons.mpr ⟨tw124, List.forall_mem_cons.mpr ⟨tw125, List.forall_mem_cons.mpr ⟨tw126, List.forall_mem_cons.mpr ⟨tw127, List.forall_mem_cons.mpr ⟨tw128, List.forall_mem_cons.mpr ⟨tw129, List.forall_mem_cons.mpr ⟨tw130, List.forall_mem_cons.mpr ⟨tw131, List.forall_mem_cons.mpr ⟨tw132, List.forall_mem_cons.mpr ⟨tw133, List.forall_mem_cons.mpr ⟨tw134, List.forall_mem_cons.mpr ⟨tw135, List.forall_mem_cons.mpr ⟨tw136, List.forall_mem_cons.mpr ⟨tw137, List.forall_mem_cons.mpr ⟨tw138, List.forall_mem_cons.mpr ⟨tw139, List.forall_mem_cons.mpr ⟨tw140, List.forall_mem_cons.mpr ⟨tw141, List.forall_mem_cons.mpr ⟨tw142, List.forall_mem_cons.mpr ⟨tw143, List.forall_mem_cons.mpr ⟨tw144, List.forall_mem_cons.mpr ⟨tw145, List.forall_mem_cons.mpr ⟨tw146, List.forall_mem_cons.mpr ⟨tw147, List.forall_mem_cons.mpr ⟨tw148, List.forall_mem_cons.mpr ⟨tw149, List.forall_mem_cons.mpr ⟨tw150, List.forall_mem_cons.mpr ⟨tw151, List.forall_mem_cons.mpr ⟨tw152, List.forall_mem_cons.mpr ⟨tw153, List.forall_mem_cons.mpr ⟨tw154, List.forall_mem_cons.mpr ⟨tw155, List.forall_mem_cons.mpr ⟨tw156, List.forall_mem_cons.mpr ⟨tw157, List.forall_mem_cons.mpr ⟨tw158, List.forall_mem_cons.mpr ⟨tw159, (fun _ h => absurd h List.not_mem_nil)⟩⟩⟩⟩⟩⟩⟩⟩⟩⟩⟩⟩⟩⟩⟩⟩⟩⟩⟩⟩⟩⟩⟩⟩⟩⟩⟩⟩⟩⟩⟩⟩⟩⟩⟩⟩⟩⟩⟩⟩
theorem tbc4 : ∀ w ∈ TB4, w ∈ lw_tbl := List.forall_mem_cons.mpr ⟨tw160, List.forall_mem_cons.mpr ⟨tw161, List.forall_mem_cons.mpr ⟨tw162, List.forall_mem_cons.mpr ⟨tw163, List.forall_mem_cons.mpr ⟨tw164, List.forall_mem_cons.mpr ⟨tw165, List.forall_mem_cons.mpr ⟨tw166, List.forall_mem_cons.mpr ⟨tw167, List.forall_mem_cons.mpr ⟨tw168, List.forall_mem_cons.mpr ⟨tw169, List.forall_mem_cons.mpr ⟨tw170, List.forall_mem_cons.mpr ⟨tw171, List.forall_mem_cons.mpr ⟨tw172, List.forall_mem_cons.mpr ⟨tw173, List.forall_mem_cons.mpr ⟨tw174, List.forall_mem_cons.mpr ⟨tw175, List.forall_mem_cons.mpr ⟨tw176, List.forall_mem_cons.mpr ⟨tw177, List.forall_mem_cons.mpr ⟨tw178, List.forall_mem_cons.mpr ⟨tw179, List.forall_mem_cons.mpr ⟨tw180, List.forall_mem_cons.mpr ⟨tw181, List.forall_mem_cons.mpr ⟨tw182, List.forall_mem_cons.mpr ⟨tw183, List.forall_mem_cons.mpr ⟨tw184, List.forall_mem_cons.mpr ⟨tw185, List.forall_mem_cons.mpr ⟨tw186, List.forall_mem_cons.mpr ⟨tw187, List.forall_mem_cons.mpr ⟨tw188, List.forall_mem_cons.mpr ⟨tw189, List.forall_mem_cons.mpr ⟨tw190, List.forall_mem_cons.mpr ⟨tw191, List.forall_mem_cons.mpr ⟨tw192, List.forall_mem_cons.mpr ⟨tw193, List.forall_mem_cons.mpr ⟨tw194, List.forall_mem_cons.mpr ⟨tw195, List.forall_mem_cons.mpr ⟨tw196, List.forall_mem_cons.mpr ⟨tw197, List.forall_mem_cons.mpr ⟨tw198, List.forall_mem_cons.mpr ⟨tw199, (fun _ h => absurd h List.not_mem_nil)⟩⟩⟩⟩⟩⟩⟩⟩⟩⟩⟩⟩⟩⟩⟩⟩⟩⟩⟩⟩⟩⟩⟩⟩⟩⟩⟩⟩⟩⟩⟩⟩⟩⟩⟩⟩⟩⟩⟩⟩
theorem tbc5 : ∀ w ∈ TB5, w ∈ lw_tbl := List.forall_mem_cons.mpr ⟨tw200, List.forall_mem_cons.mpr ⟨tw201, List.forall_mem_cons.mpr ⟨tw202, List.forall_mem_cons.mpr ⟨tw203, List.forall_mem_cons.mpr ⟨tw204, List.forall_mem_cons.mpr ⟨tw205, List.forall_mem_cons.mpr ⟨tw206, List.forall_mem_cons.mpr ⟨tw207, List.forall_mem_cons.mpr ⟨tw208, List.forall_mem_cons.mpr ⟨tw209, List.forall_mem_cons.mpr ⟨tw210, List.forall_mem_cons.mpr ⟨tw211, List.forall_mem_cons.mpr ⟨tw212, List.forall_mem_cons.mpr ⟨tw213, List.forall_mem_cons.mpr ⟨tw214, List.forall_mem_cons.mpr ⟨tw215, List.forall_mem_cons.mpr ⟨tw216, List.forall_mem_cons.mpr ⟨tw217, List.forall_mem_cons.mpr ⟨tw218, List.forall_mem_cons.mpr ⟨tw219, List.forall_mem_cons.mpr ⟨tw220, List.forall_mem_cons.mpr ⟨tw221, List.forall_mem_cons.mpr ⟨tw222, List.forall_mem_cons.mpr ⟨tw223, List.forall_mem_cons.mpr ⟨tw224, List.forall_mem_cons.mpr ⟨tw225, List.forall_mem_cons.mpr ⟨tw226, List.forall_mem_cons.mpr ⟨tw227, List.forall_mem_cons.mpr ⟨tw228, List.forall_mem_cons.mpr ⟨tw229, List.forall_mem_cons.mpr ⟨tw230, List.forall_mem_cons.mpr ⟨tw231, List.forall_mem_cons.mpr ⟨tw232, List.forall_mem_cons.mpr ⟨tw233, List.forall_mem_cons.mpr ⟨tw234, List.forall_mem_cons.mpr ⟨tw235, List.forall_mem_cons.mpr ⟨tw236, List.forall_mem_cons.mpr ⟨tw237, List.forall_mem_cons.mpr ⟨tw238, List.forall_mem_cons.mpr ⟨tw239, (fun _ h => absurd h List.not_mem_nil)⟩⟩⟩⟩⟩⟩⟩⟩⟩⟩⟩⟩⟩⟩⟩⟩⟩⟩⟩⟩⟩⟩⟩⟩⟩⟩⟩⟩⟩⟩⟩⟩⟩⟩⟩⟩⟩⟩⟩⟩
theorem tbc6 : ∀ w ∈ TB6, w ∈ lw_tbl := List.forall_mem_cons.mpr ⟨tw240, List.forall_mem_cons.mpr ⟨tw241, List.forall_mem_cons.mpr ⟨tw242, List.forall_mem_cons.mpr ⟨tw243, List.forall_mem_cons.mpr ⟨tw244, List.forall_mem_cons.mpr ⟨tw245, List.forall_mem_cons.mpr ⟨tw246, List.forall_mem_cons.mpr ⟨tw247, List.forall_mem_cons.mpr ⟨tw248, List.forall_mem_cons.mpr ⟨tw249, List.forall_mem_cons.mpr ⟨tw250, List.forall_mem_cons.mpr ⟨tw251, List.forall_mem_cons.mpr ⟨tw252, List.forall_mem_cons.mpr ⟨tw253, List.forall_mem_cons.mpr ⟨tw254, List.forall_mem_cons.mpr ⟨tw255, List.forall_mem_cons.mpr ⟨tw256, List.forall_mem_cons.mpr ⟨tw257, List.forall_mem_cons.mpr ⟨tw258, List.forall_mem_cons.mpr ⟨tw259, List.forall_mem_cons.mpr ⟨tw260, List.forall_mem_cons.mpr ⟨tw261, List.forall_mem_cons.mpr ⟨tw262, List.forall_mem_cons.mpr ⟨tw263, List.forall_mem_cons.mpr ⟨tw264, List.forall_mem_cons.mpr ⟨tw265, List.forall_mem_cons.mpr ⟨tw266, List.forall_mem_cons.mpr ⟨tw267, List.forall_mem_cons.mpr ⟨tw268, List.forall_mem_cons.mpr ⟨tw269, List.forall_mem_cons.mpr ⟨tw270, List.forall_mem_cons.mpr ⟨tw271, List.forall_mem_cons.mpr ⟨tw272, List.forall_mem_cons.mpr ⟨tw273, List.forall_mem_cons.mpr ⟨tw274, List.forall_mem_cons.mpr ⟨tw275, List.forall_mem_cons.mpr ⟨tw276, List.forall_mem_cons.mpr ⟨tw277, List.forall_mem_cons.mpr ⟨tw278, List.forall_mem_cons.mpr ⟨tw279, (fun _ h => absurd h List.not_mem_nil)⟩⟩⟩⟩⟩⟩⟩⟩⟩⟩⟩⟩⟩⟩⟩⟩⟩⟩⟩⟩⟩⟩⟩⟩⟩⟩⟩⟩⟩⟩⟩⟩⟩⟩⟩⟩⟩⟩⟩⟩
theorem tbc7 : ∀ w ∈ TB7, w ∈ lw_tbl := List.forall_mem_cons.mpr ⟨tw280, List.forall_mem_cons.mpr ⟨tw281, List.forall_mem_cons.mpr ⟨tw282, List.forall_mem_cons.mpr ⟨tw283, List.forall_mem_cons.mpr ⟨tw284, List.forall_mem_cons.mpr ⟨tw285, List.forall_mem_cons.mpr ⟨tw286, List.forall_mem_cons.mpr ⟨tw287, List.forall_mem_cons.mpr ⟨tw288, List.forall_mem_cons.mpr ⟨tw289, List.forall_mem_cons.mpr ⟨tw290, List.forall_mem_cons.mpr ⟨tw291, List.forall_mem_cons.mpr ⟨tw292, List.forall_mem_cons.mpr ⟨tw293, List.forall_mem_cons.mpr ⟨tw294, List.forall_mem_cons.mpr ⟨tw295, List.forall_mem_cons.mpr ⟨tw296, List.forall_mem_cons.mpr ⟨tw297, List.forall_mem_cons.mpr ⟨tw298, List.forall_mem_cons.mpr ⟨tw299, List.forall_mem_cons.mpr ⟨tw300, List.forall_mem_cons.mpr ⟨tw301, List.forall_mem_cons.mpr ⟨tw302, List.forall_mem_cons.mpr ⟨tw303, List.forall_mem_cons.mpr ⟨tw304, List.forall_mem_cons.mpr ⟨tw305, List.forall_mem_cons.mpr ⟨tw306, List.forall_mem_cons.mpr ⟨tw307, List.forall_mem_cons.mpr ⟨tw308, List.forall_mem_cons.mpr ⟨tw309, List.forall_mem_cons.mpr ⟨tw310, List.forall_mem_cons.mpr ⟨tw311, List.forall_mem_cons.mpr ⟨tw312, List.forall_mem_cons.mpr ⟨tw313, List.forall_mem_cons.mpr ⟨tw314, List.forall_mem_cons.mpr ⟨tw315, List.forall_mem_cons.mpr ⟨tw316, List.forall_mem_cons.mpr ⟨tw317, List.forall_mem_cons.mpr ⟨tw318, List.forall_mem_cons.mpr ⟨tw319, (fun _ h => absurd h List.not_mem_nil)⟩⟩⟩⟩⟩⟩⟩⟩⟩⟩⟩⟩⟩⟩⟩⟩⟩⟩⟩⟩⟩⟩⟩⟩⟩⟩⟩⟩⟩⟩⟩⟩⟩⟩⟩⟩⟩⟩⟩⟩
theorem tbc8 : ∀ w ∈ TB8, w ∈ lw_tbl := List.forall_mem_cons.mpr ⟨tw320, List.forall_mem_cons.mpr ⟨tw321, List.forall_mem_cons.mpr ⟨tw322, List.forall_mem_cons.mpr ⟨tw323, List.forall_mem_cons.mpr ⟨tw324, List.forall_mem_cons.mpr ⟨tw325, List.forall_mem_cons.mpr ⟨tw326, List.forall_mem_cons.mpr ⟨tw327, List.forall_mem_cons.mpr ⟨tw328, List.forall_mem_cons.mpr ⟨tw329, List.forall_mem_cons.mpr ⟨tw330, List.forall_mem_cons.mpr ⟨tw331, List.forall_mem_cons.mpr ⟨tw332, List.forall_mem_cons.mpr ⟨tw333, List.forall_mem_cons.mpr ⟨tw334, List.forall_mem_cons.mpr ⟨tw335, List.forall_mem_cons.mpr ⟨tw336, List.forall_mem_cons.mpr ⟨tw337, List.forall_mem_cons.mpr ⟨tw338, List.forall_mem_cons.mpr ⟨tw339, List.forall_mem_cons.mpr ⟨tw340, List.forall_mem_cons.mpr ⟨tw341, List.forall_mem_cons.mpr ⟨tw342, List.forall_mem_cons.mpr ⟨tw343, List.forall_mem_cons.mpr ⟨tw344, List.forall_mem_cons.mpr ⟨tw345, List.forall_mem_cons.mpr ⟨tw346, List.forall_mem_cons.mpr ⟨tw347, List.forall_mem_cons.mpr ⟨tw348, List.forall_mem_cons.mpr ⟨tw349, List.forall_mem_cons.mpr ⟨tw350, List.forall_mem_cons.mpr ⟨tw351, List.forall_mem_cons.mpr ⟨tw352, List.forall_mem_cons.mpr ⟨tw353, List.forall_mem_cons.mpr ⟨tw354, List.forall_mem_cons.mpr ⟨tw355, List.forall_mem_cons.mpr ⟨tw356, List.forall_mem_cons.mpr ⟨tw357, List.forall_mem_cons.mpr ⟨tw358, List.forall_mem_cons.mpr ⟨tw359, (fun _ h => absurd h List.not_mem_nil)⟩⟩⟩⟩⟩⟩⟩⟩⟩⟩⟩⟩⟩⟩⟩⟩⟩⟩⟩⟩⟩⟩⟩⟩⟩⟩⟩⟩⟩⟩⟩⟩⟩⟩⟩⟩⟩⟩⟩⟩
theorem tbc9 : ∀ w ∈ TB9, w ∈ lw_tbl := List.forall_mem_cons.mpr ⟨tw360, List.forall_mem_cons.mpr ⟨tw361, List.forall_mem_cons.mpr ⟨tw362, List.forall_mem_cons.mpr ⟨tw363, List.forall_mem_cons.mpr ⟨tw364, List.forall_mem_cons.mpr ⟨tw365, List.forall_mem_cons.mpr ⟨tw366, List.forall_mem_cons.mpr ⟨tw367, List.forall_mem_cons.mpr ⟨tw368, List.forall_mem_cons.mpr ⟨tw369, List.forall_mem_cons.mpr ⟨tw370, List.forall_mem_cons.mpr ⟨tw371, List.forall_mem_cons.mpr ⟨tw372, List.forall_mem_cons.mpr ⟨tw373, List.forall_mem_cons.mpr ⟨tw374, List.forall_mem_cons.mpr ⟨tw375, List.forall_mem_cons.mpr ⟨tw376, List.forall_mem_cons.mpr ⟨tw377, List.forall_mem_cons.mpr ⟨tw378, List.forall_mem_cons.mpr ⟨tw379, List.forall_mem_cons.mpr ⟨tw380, List.forall_mem_cons.mpr ⟨tw381, List.forall_mem_cons.mpr ⟨tw382, List.forall_mem_cons.mpr ⟨tw383, List.forall_mem_cons.mpr ⟨tw384, List.forall_mem_cons.mpr ⟨tw385, List.forall_mem_cons.mpr ⟨tw386, List.forall_mem_cons.mpr ⟨tw387, List.forall_mem_cons.mpr ⟨tw388, List.forall_mem_cons.mpr ⟨tw389, List.forall_mem_cons.mpr ⟨tw390, List.forall_mem_cons.mpr ⟨tw391, List.forall_mem_cons.mpr ⟨tw392, List.forall_mem_cons.mpr ⟨tw393, List.forall_mem_cons.mpr ⟨tw394, List.forall_mem_cons.mpr ⟨tw395, List.forall_mem_cons.mpr ⟨tw396, List.forall_mem_cons.mpr ⟨tw397, List.forall_mem_cons.mpr ⟨tw398, List.forall_mem_cons.mpr ⟨tw399, (fun _ h => absurd h List.not_mem_nil)⟩⟩⟩⟩⟩⟩⟩⟩⟩⟩⟩⟩⟩⟩⟩⟩⟩⟩⟩⟩⟩⟩⟩⟩⟩⟩⟩⟩⟩⟩⟩⟩⟩⟩⟩⟩⟩⟩⟩⟩
theorem tbc10 : ∀ w ∈ TB10, w ∈ lw_tbl := List.forall_mem_cons.mpr ⟨tw400, List.forall_mem_cons.mpr ⟨tw401, List.forall_mem_cons.mpr ⟨tw402, List.forall_mem_cons.mpr ⟨tw403, List.forall_mem_cons.mpr ⟨tw404, List.forall_mem_cons.mpr ⟨tw405, List.forall_mem_cons.mpr ⟨tw406, List.forall_mem_cons.mpr ⟨tw407, List.forall_mem_cons.mpr ⟨tw408, List.forall_mem_cons.mpr ⟨tw409, List.forall_mem_cons.mpr ⟨tw410, List.forall_mem_cons.mpr ⟨tw411, List.forall_mem_cons.mpr ⟨tw412, List.forall_mem_cons.mpr ⟨tw413, List.forall_mem_cons.mpr ⟨tw414, List.forall_mem_cons.mpr ⟨tw415, List.forall_mem_cons.mpr ⟨tw416, List.forall_mem_cons.mpr ⟨tw417, List.forall_mem_cons.mpr ⟨tw418, List.forall_mem_cons.mpr ⟨tw419, List.forall_mem_cons.mpr ⟨tw420, List.forall_mem_cons.mpr ⟨tw421, List.forall_mem_cons.mpr ⟨tw422, List.forall_mem_cons.mpr ⟨tw423, List.forall_mem_cons.mpr ⟨tw424, List.forall_mem_cons.mpr ⟨tw425, List.forall_mem_cons.mpr ⟨tw426, List.forall_mem_cons.mpr ⟨tw427, List.forall_mem_cons.mpr ⟨tw428, List.forall_mem_cons.mpr ⟨tw429, List.forall_mem_cons.mpr ⟨tw430, List.forall_mem_cons.mpr ⟨tw431, List.forall_mem_cons.mpr ⟨tw432, List.forall_mem_cons.mpr ⟨tw433, List.forall_mem_cons.mpr ⟨tw434, List.forall_mem_cons.mpr ⟨tw435, List.forall_mem_cons.mpr ⟨tw436, List.forall_mem_cons.mpr ⟨tw437, List.forall_mem_cons.mpr ⟨tw438, List.forall_mem_cons.mpr ⟨tw439, (fun _ h => absurd h List.not_mem_nil)⟩⟩⟩⟩⟩⟩⟩⟩⟩⟩⟩⟩⟩⟩⟩⟩⟩⟩⟩⟩⟩⟩⟩⟩⟩⟩⟩⟩⟩⟩⟩⟩⟩⟩⟩⟩⟩⟩⟩⟩
theorem tbc11 : ∀ w ∈ TB11, w ∈ lw_tbl := List.forall_mem_cons.mpr ⟨tw440, List.forall_mem_cons.mpr ⟨tw441, List.forall_mem_cons.mpr ⟨tw442, List.forall_mem_cons.mpr ⟨tw443, List.forall_mem_cons.mpr ⟨tw444, List.forall_mem_cons.mpr ⟨tw445, List.forall_mem_cons.mpr ⟨tw446, List.forall_mem_cons.mpr ⟨tw447, List.forall_mem_cons.mpr ⟨tw448, List.forall_mem_cons.mpr ⟨tw449, List.forall_mem_cons.mpr ⟨tw450, List.forall_mem_cons.mpr ⟨tw451, List.forall_mem_cons.mpr ⟨tw452, List.forall_mem_cons.mpr ⟨tw453, List.forall_mem_cons.mpr ⟨tw454, List.forall_mem_cons.mpr ⟨tw455, List.forall_mem_cons.mpr ⟨tw456, List.forall_mem_cons.mpr ⟨tw457, List.forall_mem_cons.mpr ⟨tw458, List.forall_mem_cons.mpr ⟨tw459, List.forall_mem_cons.mpr ⟨tw460, List.forall_mem_cons.mpr ⟨tw461, List.forall_mem_cons.mpr ⟨tw462, List.forall_mem_cons.mpr ⟨tw463, List.forall_mem_cons.mpr ⟨tw464, List.forall_mem_cons.mpr ⟨tw465, List.forall_mem_cons.mpr ⟨tw466, List.forall_mem_cons.mpr ⟨tw467, List.forall_mem_cons.mpr ⟨tw468, List.forall_mem_cons.mpr ⟨tw469, List.forall_mem_cons.mpr ⟨tw470, List.forall_mem_cons.mpr ⟨tw471, List.forall_mem_cons.mpr ⟨tw472, List.forall_mem_cons.mpr ⟨tw473, List.forall_mem_cons.mpr ⟨tw474, List.forall_mem_cons.mpr ⟨tw475, List.forall_mem_cons.mpr ⟨tw476, List.forall_mem_cons.mpr ⟨tw477, List.forall_mem_cons.mpr ⟨tw478, List.forall_mem_cons.mpr ⟨tw479, (fun _ h => absurd h List.not_mem_nil)⟩⟩⟩⟩⟩⟩⟩⟩⟩⟩⟩⟩⟩⟩⟩⟩⟩⟩⟩⟩⟩⟩⟩⟩⟩⟩⟩⟩⟩⟩⟩⟩⟩⟩⟩⟩⟩⟩⟩⟩
theorem tbc12 : ∀ w ∈ TB12, w ∈ lw_tbl := List.forall_mem_cons.mpr ⟨tw480, List.forall_mem_cons.mpr ⟨tw481, List.forall_mem_cons.mpr ⟨tw482, List.forall_mem_cons.mpr ⟨tw483, List.forall_mem_cons.mpr ⟨tw484, List.forall_mem_cons.mpr ⟨tw485, List.forall_mem_cons.mpr ⟨tw486, List.forall_mem_cons.mpr ⟨tw487, List.forall_mem_cons.mpr ⟨tw488, List.forall_mem_cons.mpr ⟨tw489, List.forall_mem_cons.mpr ⟨tw490, List.forall_mem_cons.mpr ⟨tw491, List.forall_mem_cons.mpr ⟨tw492, List.forall_mem_cons.mpr ⟨tw493, List.forall_mem_cons.mpr ⟨tw494, List.forall_mem_cons.mpr ⟨tw495, List.forall_mem_cons.mpr ⟨tw496, List.forall_mem_cons.mpr ⟨tw497, List.forall_mem_cons.mpr ⟨tw498, List.forall_mem_cons.mpr ⟨tw499, List.forall_mem_cons.mpr ⟨tw500, List.forall_mem_cons.mpr ⟨tw501, List.forall_mem_cons.mpr ⟨tw502, List.forall_mem_cons.mpr ⟨tw503, List.forall_mem_cons.mpr ⟨tw504, List.forall_mem_cons.mpr ⟨tw505, List.forall_mem_cons.mpr ⟨tw506, List.forall_mem_cons.mpr ⟨tw507, List.forall_mem_cons.mpr ⟨tw508, List.forall_mem_cons.mpr ⟨tw509, List.forall_mem_cons.mpr ⟨tw510, List.forall_mem_cons.mpr ⟨tw511, List.forall_mem_cons.mpr ⟨tw512, List.forall_mem_cons.mpr ⟨tw513, List.forall_mem_cons.mpr ⟨tw514, List.forall_mem_cons.mpr ⟨tw515, List.forall_mem_cons.mpr ⟨tw516, List.forall_mem_cons.mpr ⟨tw517, List.forall_mem_cons.mpr ⟨tw518, List.forall_mem_cons.mpr ⟨tw519, (fun _ h => absurd h List.not_mem_nil)⟩⟩⟩⟩⟩⟩⟩⟩⟩⟩⟩⟩⟩⟩⟩⟩⟩⟩⟩⟩⟩⟩⟩⟩⟩⟩⟩⟩⟩⟩⟩⟩⟩⟩⟩⟩⟩⟩⟩⟩
theorem tbc13 : ∀ w ∈ TB13, w ∈ lw_tbl := List.forall_mem_cons.mpr ⟨tw520, List.forall_mem_cons.mpr ⟨tw521, List.forall_mem_cons.mpr ⟨tw522, List.forall_mem_cons.mpr ⟨tw523, List.forall_mem_cons.mpr ⟨tw524, List.forall_mem_cons.mpr ⟨tw525, List.forall_mem_cons.mpr ⟨tw526, List.forall_mem_cons.mpr ⟨tw527, List.forall_mem_cons.mpr ⟨tw528, List.forall_mem_cons.mpr ⟨tw529, List.forall_mem_cons.mpr ⟨tw530, List.forall_mem_cons.mpr ⟨tw531, List.forall_mem_cons.mpr ⟨tw532, List.forall_mem_cons.mpr ⟨tw533, List.forall_mem_cons.mpr ⟨tw534, List.forall_mem_cons.mpr ⟨tw535, List.forall_mem_cons.mpr ⟨tw536, List.forall_mem_cons.mpr ⟨tw537, List.forall_mem_cons.mpr ⟨tw538, List.forall_mem_cons.mpr ⟨tw539, List.forall_mem_cons.mpr ⟨tw540, List.forall_mem_cons.mpr ⟨tw541, List.forall_mem_cons.mpr ⟨tw542, List.forall_mem_cons.mpr ⟨tw543, List.forall_mem_cons.mpr ⟨tw544, List.forall_mem_cons.mpr ⟨tw545, List.forall_mem_cons.mpr ⟨tw546, List.forall_mem_cons.mpr ⟨tw547, List.forall_mem_cons.mpr ⟨tw548, List.forall_mem_cons.mpr ⟨tw549, List.forall_mem_cons.mpr ⟨tw550, List.forall_mem_cons.mpr ⟨tw551, List.forall_mem_cons.mpr ⟨tw552, List.forall_mem_cons.mpr ⟨tw553, List.forall_mem_cons.mpr ⟨tw554, List.forall_mem_cons.mpr ⟨tw555, List.forall_mem_cons.mpr ⟨tw556, List.forall_mem_cons.mpr ⟨tw557, List.forall_mem_cons.mpr ⟨tw558, List.forall_mem_cons.mpr ⟨tw559, (fun _ h => absurd h List.not_mem_nil)⟩⟩⟩⟩⟩⟩⟩⟩⟩⟩⟩⟩⟩⟩⟩⟩⟩⟩⟩⟩⟩⟩⟩⟩⟩⟩⟩⟩⟩⟩⟩⟩⟩⟩⟩⟩⟩⟩⟩⟩
theorem tbc14 : ∀ w ∈ TB14, w ∈ lw_tbl := List.forall_mem_cons.mpr ⟨tw560, List.forall_mem_cons.mpr ⟨tw561, List.forall_mem_cons.mpr ⟨tw562, List.forall_mem_cons.mpr ⟨tw563, List.forall_mem_cons.mpr ⟨tw564, List.forall_mem_cons.mpr ⟨tw565, List.forall_mem_cons.mpr ⟨tw566, List.forall_mem_cons.mpr ⟨tw567, List.forall_mem_cons.mpr ⟨tw568, List.forall_mem_cons.mpr ⟨tw569, List.forall_mem_cons.mpr ⟨tw570, List.forall_mem_cons.mpr ⟨tw571, List.forall_mem_cons.mpr ⟨tw572, List.forall_mem_cons.mpr ⟨tw573, List.forall_mem_cons.mpr ⟨tw574, List.forall_mem_cons.mpr ⟨tw575, List.forall_mem_cons.mpr ⟨tw576, List.forall_mem_cons.mpr ⟨tw577, List.forall_mem_cons.mpr ⟨tw578, List.forall_mem_cons.mpr ⟨tw579, List.forall_mem_cons.mpr ⟨tw580, List.forall_mem_cons.mpr ⟨tw581, List.forall_mem_cons.mpr ⟨tw582, List.forall_mem_cons.mpr ⟨tw583, List.forall_mem_cons.mpr ⟨tw584, List.forall_mem_cons.mpr ⟨tw585, List.forall_mem_cons.mpr ⟨tw586, List.forall_mem_cons.mpr ⟨tw587, List.forall_mem_cons.mpr ⟨tw588, List.forall_mem_cons.mpr ⟨tw589, List.forall_mem_cons.mpr ⟨tw590, List.forall_mem_cons.mpr ⟨tw591, List.forall_mem_cons.mpr ⟨tw592, List.forall_mem_cons.mpr ⟨tw593, List.forall_mem_cons.mpr ⟨tw594, List.forall_mem_cons.mpr ⟨tw595, List.forall_mem_cons.mpr ⟨tw596, List.forall_mem_cons.mpr ⟨tw597, List.forall_mem_cons.mpr ⟨tw598, List.forall_mem_cons.mpr ⟨tw599, (fun _ h => absurd h List.not_mem_nil)⟩⟩⟩⟩⟩⟩⟩⟩⟩⟩⟩⟩⟩⟩⟩⟩⟩⟩⟩⟩⟩⟩⟩⟩⟩⟩⟩⟩⟩⟩⟩⟩⟩⟩⟩⟩⟩⟩⟩⟩
theorem tbc15 : ∀ w ∈ TB15, w ∈ lw_tbl := List.forall_mem_cons.mpr ⟨tw600, List.forall_mem_cons.mpr ⟨tw601, List.forall_mem_cons.mpr ⟨tw602, List.forall_mem_cons.mpr ⟨tw603, List.forall_mem_cons.mpr ⟨tw604, List.forall_mem_cons.mpr ⟨tw605, List.forall_mem_cons.mpr ⟨tw606, List.forall_mem_cons.mpr ⟨tw607, List.forall_mem_cons.mpr ⟨tw608, List.forall_mem_cons.mpr ⟨tw609, List.forall_mem_cons.mpr ⟨tw610, List.forall_mem_cons.mpr ⟨tw611, List.forall_mem_cons.mpr ⟨tw612, List.forall_mem_cons.mpr ⟨tw613, List.forall_mem_cons.mpr ⟨tw614, List.forall_mem_cons.mpr ⟨tw615, List.forall_mem_cons.mpr ⟨tw616, List.forall_mem_cons.mpr ⟨tw617, List.forall_mem_cons.mpr ⟨tw618, List.forall_mem_cons.mpr ⟨tw619, List.forall_mem_cons.mpr ⟨tw620, List.forall_mem_cons.mpr ⟨tw621, List.forall_mem_cons.mpr ⟨tw622, List.forall_mem_cons.mpr ⟨tw623, List.forall_mem_cons.mpr ⟨tw624, List.forall_mem_cons.mpr ⟨tw625, List.forall_mem_cons.mpr ⟨tw626, List.forall_mem_cons.mpr ⟨tw627, List.forall_mem_cons.mpr ⟨tw628, List.forall_mem_cons.mpr ⟨tw629, List.forall_mem_cons.mpr ⟨tw630, List.forall_mem_cons.mpr ⟨tw631, List.forall_mem_cons.mpr ⟨tw632, List.forall_mem_cons.mpr ⟨tw633, List.forall_mem_cons.mpr ⟨tw634, List.forall_mem_cons.mpr ⟨tw635, List.forall_mem_cons.mpr ⟨tw636, List.forall_mem_cons.mpr ⟨tw637, List.forall_mem_cons.mpr ⟨tw638, List.forall_mem_cons.mpr ⟨tw639, (fun _ h => absurd h List.not_mem_nil)⟩⟩⟩⟩⟩⟩⟩⟩⟩⟩⟩⟩⟩⟩⟩⟩⟩⟩⟩⟩⟩⟩⟩⟩⟩⟩⟩⟩⟩⟩⟩⟩⟩⟩⟩⟩⟩⟩⟩⟩
theorem tbc16 : ∀ w ∈ TB16, w ∈ lw_tbl := List.forall_mem_cons.mpr ⟨tw640, List.forall_mem_cons.mpr ⟨tw641, List.forall_mem_cons.mpr ⟨tw642, List.forall_mem_cons.mpr ⟨tw643, List.forall_mem_cons.mpr ⟨tw644, List.forall_mem_cons.mpr ⟨tw645, List.forall_mem_cons.mpr ⟨tw646, List.forall_mem_cons.mpr ⟨tw647, List.forall_mem_cons.mpr ⟨tw648, List.forall_mem_cons.mpr ⟨tw649, List.forall_mem_cons.mpr ⟨tw650, List.forall_mem_cons.mpr ⟨tw651, List.forall_mem_cons.mpr ⟨tw652, List.forall_mem_cons.mpr ⟨tw653, List.forall_mem_cons.mpr ⟨tw654, List.forall_mem_cons.mpr ⟨tw655, List.forall_mem_cons.mpr ⟨tw656, List.forall_mem_cons.mpr ⟨tw657, List.forall_mem_cons.mpr ⟨tw658, List.forall_mem_cons.mpr ⟨tw659, List.forall_mem_cons.mpr ⟨tw660, List.forall_mem_cons.mpr ⟨tw661, List.forall_mem_cons.mpr ⟨tw662, List.forall_mem_cons.mpr ⟨tw663, List.forall_mem_cons.mpr ⟨tw664, List.forall_mem_cons.mpr ⟨tw665, List.forall_mem_cons.mpr ⟨tw666, List.forall_mem_cons.mpr ⟨tw667, List.forall_mem_cons.mpr ⟨tw668, List.forall_mem_cons.mpr ⟨tw669, List.forall_mem_cons.mpr ⟨tw670, List.forall_mem_cons.mpr ⟨tw671, List.forall_mem_cons.mpr ⟨tw672, List.forall_mem_cons.mpr ⟨tw673, List.forall_mem_cons.mpr ⟨tw674, List.forall_mem_cons.mpr ⟨tw675, List.forall_mem_cons.mpr ⟨tw676, List.forall_mem_cons.mpr ⟨tw677, List.forall_mem_cons.mpr ⟨tw678, List.forall_mem_cons.mpr ⟨tw679, (fun _ h => absurd h List.not_mem_nil)⟩⟩⟩⟩⟩⟩⟩⟩⟩⟩⟩⟩⟩⟩⟩⟩⟩⟩⟩⟩⟩⟩⟩⟩⟩⟩⟩⟩⟩⟩⟩⟩⟩⟩⟩⟩⟩⟩⟩⟩
theorem tbc17 : ∀ w ∈ TB17, w ∈ lw_tbl := List.forall_mem_cons.mpr ⟨tw680, List.forall_mem_cons.mpr ⟨tw681, List.forall_mem_cons.mpr ⟨tw682, List.forall_mem_cons.mpr ⟨tw683, List.forall_mem_cons.mpr ⟨tw684, List.forall_mem_cons.mpr ⟨tw685, List.forall_mem_cons.mpr ⟨tw686, List.forall_mem_cons.mpr ⟨tw687, List.forall_mem_cons.mpr ⟨tw688, List.forall_mem_cons.mpr ⟨tw689, List.forall_mem_cons.mpr ⟨tw690, List.forall_mem_cons.mpr ⟨tw691, List.forall_mem_cons.mpr ⟨tw692, List.forall_mem_cons.mpr ⟨tw693, List.forall_mem_cons.mpr ⟨tw694, List.forall_mem_cons.mpr ⟨tw695, List.forall_mem_cons.mpr ⟨tw696, List.forall_mem_cons.mpr ⟨tw697, List.forall_mem_cons.mpr ⟨tw698, List.forall_mem_cons.mpr ⟨tw699, List.forall_mem_cons.mpr ⟨tw700, List.forall_mem_cons.mpr ⟨tw701, List.forall_mem_cons.mpr ⟨tw702, List.forall_mem_cons.mpr ⟨tw703, List.forall_mem_cons.mpr ⟨tw704, List.forall_mem_cons.mpr ⟨tw705, List.forall_mem_cons.mpr ⟨tw706, List.forall_mem_cons.mpr ⟨tw707, List.forall_mem_cons.mpr ⟨tw708, List.forall_mem_cons.mpr ⟨tw709, List.forall_mem_cons.mpr ⟨tw710, List.forall_mem_cons.mpr ⟨tw711, List.forall_mem_cons.mpr ⟨tw712, List.forall_mem_cons.mpr ⟨tw713, List.forall_mem_cons.mpr ⟨tw714, List.forall_mem_cons.mpr ⟨tw715, List.forall_mem_cons.mpr ⟨tw716, List.forall_mem_cons.mpr ⟨tw717, List.forall_mem_cons.mpr ⟨tw718, List.forall_mem_cons.mpr ⟨tw719, (fun _ h => absurd h List.not_mem_nil)⟩⟩⟩⟩⟩⟩⟩⟩⟩⟩⟩⟩⟩⟩⟩⟩⟩⟩⟩⟩⟩⟩⟩⟩⟩⟩⟩⟩⟩⟩⟩⟩⟩⟩⟩⟩⟩⟩⟩⟩
theorem tbc18 : ∀ w ∈ TB18, w ∈ lw_tbl := List.forall_mem_cons.mpr ⟨tw720, List.forall_mem_cons.mpr ⟨tw721, List.forall_mem_cons.mpr ⟨tw722, List.forall_mem_cons.mpr ⟨tw723, List.forall_mem_cons.mpr ⟨tw724, List.forall_mem_cons.mpr ⟨tw725, List.forall_mem_cons.mpr ⟨tw726, List.forall_mem_cons.mpr ⟨tw727, List.forall_mem_cons.mpr ⟨tw728, List.forall_mem_cons.mpr ⟨tw729, List.forall_mem_cons.mpr ⟨tw730, List.forall_mem_cons.mpr ⟨tw731, List.forall_mem_cons.mpr ⟨tw732, List.forall_mem_cons.mpr ⟨tw733, List.forall_mem_cons.mpr ⟨tw734, List.forall_mem_cons.mpr ⟨tw735, List.forall_mem_cons.mpr ⟨tw736, List.forall_mem_cons.mpr ⟨tw737, List.forall_mem_cons.mpr ⟨tw738, List.forall_mem_cons.mpr ⟨tw739, List.forall_mem_cons.mpr ⟨tw740, List.forall_mem_cons.mpr ⟨tw741, List.forall_mem_cons.mpr ⟨tw742, List.forall_mem_cons.mpr ⟨tw743, List.forall_mem_cons.mpr ⟨tw744, List.forall_mem_cons.mpr ⟨tw745, List.forall_mem_cons.mpr ⟨tw746, List.forall_mem_cons.mpr ⟨tw747, List.forall_mem_cons.mpr ⟨tw748, List.forall_mem_cons.mpr ⟨tw749, List.forall_mem_cons.mpr ⟨tw750, List.forall_mem_cons.mpr ⟨tw751, List.forall_mem_cons.mpr ⟨tw752, List.forall_mem_cons.mpr ⟨tw753, List.forall_mem_cons.mpr ⟨tw754, List.forall_mem_cons.mpr ⟨tw755, List.forall_mem_cons.mpr ⟨tw756, List.forall_mem_cons.mpr ⟨tw757, List.forall_mem_cons.mpr ⟨tw758, List.forall_mem_cons.mpr ⟨tw759, (fun _ h => absurd h List.not_mem_nil)⟩⟩⟩⟩⟩⟩⟩⟩⟩⟩⟩⟩⟩⟩⟩⟩⟩⟩⟩⟩⟩⟩⟩⟩⟩⟩⟩⟩⟩⟩⟩⟩⟩⟩⟩⟩⟩⟩⟩⟩
theorem tbc19 : ∀ w ∈ TB19, w ∈ lw_tbl := List.forall_mem_cons.mpr ⟨tw760, List.forall_mem_cons.mpr ⟨tw761, List.forall_mem_cons.mpr ⟨tw762, List.forall_mem_cons.mpr ⟨tw763, List.forall_mem_cons.mpr ⟨tw764, List.forall_mem_cons.mpr ⟨tw765, List.forall_mem_cons.mpr ⟨tw766, List.forall_mem_cons.mpr ⟨tw767, List.forall_mem_cons.mpr ⟨tw768, List.forall_mem_cons.mpr ⟨tw769, List.forall_mem_cons.mpr ⟨tw770, List.forall_mem_cons.mpr ⟨tw771, List.forall_mem_cons.mpr ⟨tw772, List.forall_mem_cons.mpr ⟨tw773, List.forall_mem_cons.mpr ⟨tw774, List.forall_mem_cons.mpr ⟨tw775, List.forall_mem_cons.mpr ⟨tw776, (fun _ h => absurd h List.not_mem_nil)⟩⟩⟩⟩⟩⟩⟩⟩⟩⟩⟩⟩⟩⟩⟩⟩⟩
set_option maxRecDepth 20000 in
theorem tbx0 : ∀ w ∈ wsX00, w ∈ lw_tbl := by decide +kernel
set_option maxRecDepth 20000 in
theorem tbx1 : ∀ w ∈ wsX10, w ∈ lw_tbl := by decide +kernel
set_option maxRecDepth 20000 in
theorem tbx2 : ∀ w ∈ wsX20, w ∈ lw_tbl := by decide +kernel
set_option maxRecDepth 20000 in
theorem tbx3 : ∀ w ∈ wsX30, w ∈ lw_tbl := by decide +kernel
set_option maxRecDepth 20000 in
theorem tbx4 : ∀ w ∈ wsX40, w ∈ lw_tbl := by decide +kernel
set_option maxRecDepth 20000 in
theorem tbx5 : ∀ w ∈ wsX50, w ∈ lw_tbl := by decide +kernel
theorem TB_tbl : ∀ w ∈ TB, w ∈ lw_tbl := by
  unfold TB
  exact List.forall_mem_append.mpr ⟨tbc0, List.forall_mem_append.mpr ⟨tbc1, List.forall_mem_append.mpr ⟨tbc2, List.forall_mem_append.mpr ⟨tbc3, List.forall_mem_append.mpr ⟨tbc4, List.forall_mem_append.mpr ⟨tbc5, List.forall_mem_append.mpr ⟨tbc6, List.forall_mem_append.mpr ⟨tbc7, List.forall_mem_append.mpr ⟨tbc8, List.forall_mem_append.mpr ⟨tbc9, List.forall_mem_append.mpr ⟨tbc10, List.forall_mem_append.mpr ⟨tbc11, List.forall_mem_append.mpr ⟨tbc12, List.forall_mem_append.mpr ⟨tbc13, List.forall_mem_append.mpr ⟨tbc14, List.forall_mem_append.mpr ⟨tbc15, List.forall_mem_append.mpr ⟨tbc16, List.forall_mem_append.mpr ⟨tbc17, List.forall_mem_append.mpr ⟨tbc18, List.forall_mem_append.mpr ⟨tbc19, List.forall_mem_append.mpr ⟨tbx0, List.forall_mem_append.mpr ⟨tbx1, List.forall_mem_append.mpr ⟨tbx2, List.forall_mem_append.mpr ⟨tbx3, List.forall_mem_append.mpr ⟨tbx4, tbx5⟩⟩⟩⟩⟩⟩⟩⟩⟩⟩⟩⟩⟩⟩⟩⟩⟩⟩⟩⟩⟩⟩⟩⟩⟩
