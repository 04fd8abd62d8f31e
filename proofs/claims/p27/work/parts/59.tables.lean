/-! ===== every word of TB stands in the tables ===== -/
theorem tb_in0 (w : Cond) (h : w ∈ k2_sels lw_privs) : w ∈ lw_tbl := List.mem_append_left _ h
theorem tb_in1 (w : Cond) (h : w ∈ tables_1_1) : w ∈ lw_tbl := List.mem_append_right _ (List.mem_append_left _ h)
theorem tb_in2 (w : Cond) (h : w ∈ tables_1_2) : w ∈ lw_tbl := List.mem_append_right _ (List.mem_append_right _ (List.mem_append_left _ h))
theorem tb_in3 (w : Cond) (h : w ∈ tables_1_3) : w ∈ lw_tbl := List.mem_append_right _ (List.mem_append_right _ (List.mem_append_right _ h))
set_option maxRecDepth 20000 in
theorem tw0 : (.code yX2_init cX2_init 1 none : Cond) ∈ lw_tbl := tb_in1 _ (List.mem_of_getElem? (i := 26) rfl)
set_option maxRecDepth 20000 in
theorem tw1 : (.methodLink RX2 3 objectInit : Cond) ∈ lw_tbl := tb_in1 _ (List.mem_of_getElem? (i := 27) rfl)
set_option maxRecDepth 20000 in
theorem tw2 : (.instanceMethod objectInit : Cond) ∈ lw_tbl := tb_in1 _ (List.mem_of_getElem? (i := 14) rfl)
set_option maxRecDepth 20000 in
theorem tw3 : (.code objectInit ⟨#[0xb1]⟩ 1 none : Cond) ∈ lw_tbl := tb_in1 _ (List.mem_of_getElem? (i := 15) rfl)
set_option maxRecDepth 20000 in
theorem tw4 : (.arrayClass .int : Cond) ∈ lw_tbl := tb_in1 _ (List.mem_of_getElem? (i := 75) rfl)
set_option maxRecDepth 20000 in
theorem tw5 : (.fieldLink RX2 9 "ExamHalls$School" "settings" "[I" : Cond) ∈ lw_tbl := tb_in1 _ (List.mem_of_getElem? (i := 28) rfl)
set_option maxRecDepth 20000 in
theorem tw6 : (.fieldLink RX2 15 "ExamHalls$School" "starts" "[I" : Cond) ∈ lw_tbl := tb_in1 _ (List.mem_of_getElem? (i := 31) rfl)
set_option maxRecDepth 20000 in
theorem tw7 : (.fieldLink RX2 18 "ExamHalls$School" "minutes" "[I" : Cond) ∈ lw_tbl := tb_in1 _ (List.mem_of_getElem? (i := 34) rfl)
set_option maxRecDepth 20000 in
theorem tw8 : (.fieldLink RX2 21 "ExamHalls$School" "papers" "[I" : Cond) ∈ lw_tbl := tb_in1 _ (List.mem_of_getElem? (i := 36) rfl)
set_option maxRecDepth 20000 in
theorem tw9 : (.fieldLink RX2 24 "ExamHalls$School" "extras" "[I" : Cond) ∈ lw_tbl := tb_in1 _ (List.mem_of_getElem? (i := 38) rfl)
set_option maxRecDepth 20000 in
theorem tw10 : (.arrayClass .boolean : Cond) ∈ lw_tbl := tb_in1 _ (List.mem_of_getElem? (i := 76) rfl)
set_option maxRecDepth 20000 in
theorem tw11 : (.fieldLink RX2 27 "ExamHalls$School" "readers" "[Z" : Cond) ∈ lw_tbl := tb_in1 _ (List.mem_of_getElem? (i := 40) rfl)
set_option maxRecDepth 20000 in
theorem tw12 : (.fieldLink RX2 31 "ExamHalls$School" "rows" "[I" : Cond) ∈ lw_tbl := tb_in1 _ (List.mem_of_getElem? (i := 43) rfl)
set_option maxRecDepth 20000 in
theorem tw13 : (.fieldLink RX2 34 "ExamHalls$School" "columns" "[I" : Cond) ∈ lw_tbl := tb_in1 _ (List.mem_of_getElem? (i := 46) rfl)
set_option maxRecDepth 20000 in
theorem tw14 : (.fieldLink RX2 37 "ExamHalls$School" "pupils" "I" : Cond) ∈ lw_tbl := tb_in1 _ (List.mem_of_getElem? (i := 49) rfl)
set_option maxRecDepth 20000 in
theorem tw15 : (.fieldLink RX2 41 "ExamHalls$School" "openHalls" "I" : Cond) ∈ lw_tbl := tb_in1 _ (List.mem_of_getElem? (i := 52) rfl)
set_option maxRecDepth 20000 in
theorem tw16 : (.code yX0_init cX0_init 2 none : Cond) ∈ lw_tbl := tb_in1 _ (List.mem_of_getElem? (i := 153) rfl)
set_option maxRecDepth 20000 in
theorem tw17 : (.methodLink RX0 3 objectInit : Cond) ∈ lw_tbl := tb_in1 _ (List.mem_of_getElem? (i := 154) rfl)
set_option maxRecDepth 20000 in
theorem tw18 : (.classLink RX0 9 RX2 : Cond) ∈ lw_tbl := tb_in1 _ (List.mem_of_getElem? (i := 155) rfl)
set_option maxRecDepth 20000 in
theorem tw19 : (.fieldLink RX0 11 "ExamHalls$History" "states" "[LExamHalls$School;" : Cond) ∈ lw_tbl := tb_in1 _ (List.mem_of_getElem? (i := 158) rfl)
set_option maxRecDepth 20000 in
theorem tw20 : (.fieldLink RX0 17 "ExamHalls$History" "size" "I" : Cond) ∈ lw_tbl := tb_in1 _ (List.mem_of_getElem? (i := 159) rfl)
set_option maxRecDepth 20000 in
theorem tw21 : (.instantiable RX2 10 : Cond) ∈ lw_tbl := tb_in1 _ (List.mem_of_getElem? (i := 23) rfl)
set_option maxRecDepth 20000 in
theorem tw22 : (.initialized RX2 : Cond) ∈ lw_tbl := tb_in1 _ (List.mem_of_getElem? (i := 3) rfl)
set_option maxRecDepth 20000 in
theorem tw23 : (.instanceMethod yX2_init : Cond) ∈ lw_tbl := tb_in1 _ (List.mem_of_getElem? (i := 25) rfl)
set_option maxRecDepth 20000 in
theorem tw24 : (.code yX0_dropOldest cX0_dropOldest 3 none : Cond) ∈ lw_tbl := tb_in2 _ (List.mem_of_getElem? (i := 122) rfl)
set_option maxRecDepth 20000 in
theorem tw25 : (.code yX2_copyFrom cX2_copyFrom 3 none : Cond) ∈ lw_tbl := tb_in2 _ (List.mem_of_getElem? (i := 86) rfl)
set_option maxRecDepth 20000 in
theorem tw26 : (.code yX0_remember cX0_remember 2 none : Cond) ∈ lw_tbl := tb_in2 _ (List.mem_of_getElem? (i := 118) rfl)
set_option maxRecDepth 20000 in
theorem tw27 : (.methodLink RX0 22 yX0_dropOldest : Cond) ∈ lw_tbl := tb_in2 _ (List.mem_of_getElem? (i := 119) rfl)
set_option maxRecDepth 20000 in
theorem tw28 : (.instanceMethod yX0_dropOldest : Cond) ∈ lw_tbl := tb_in2 _ (List.mem_of_getElem? (i := 121) rfl)
set_option maxRecDepth 20000 in
theorem tw29 : (.selects RX0 yX0_dropOldest yX0_dropOldest : Cond) ∈ lw_tbl := tb_in0 _ (List.mem_of_getElem? (i := 7) rfl)
set_option maxRecDepth 20000 in
theorem tw30 : (.initialized RX0 : Cond) ∈ lw_tbl := tb_in1 _ (List.mem_of_getElem? (i := 5) rfl)
set_option maxRecDepth 20000 in
theorem tw31 : (.methodLink RX0 25 yX2_copyFrom : Cond) ∈ lw_tbl := tb_in2 _ (List.mem_of_getElem? (i := 103) rfl)
set_option maxRecDepth 20000 in
theorem tw32 : (.instanceMethod yX2_copyFrom : Cond) ∈ lw_tbl := tb_in2 _ (List.mem_of_getElem? (i := 84) rfl)
set_option maxRecDepth 20000 in
theorem tw33 : (.selects RX2 yX2_copyFrom yX2_copyFrom : Cond) ∈ lw_tbl := tb_in2 _ (List.mem_of_getElem? (i := 85) rfl)
set_option maxRecDepth 20000 in
theorem tw34 : (.code yX0_takeBack cX0_takeBack 2 none : Cond) ∈ lw_tbl := tb_in2 _ (List.mem_of_getElem? (i := 102) rfl)
set_option maxRecDepth 20000 in
theorem tw35 : (.code yX1_init cX1_init 1 none : Cond) ∈ lw_tbl := tb_in1 _ (List.mem_of_getElem? (i := 115) rfl)
set_option maxRecDepth 20000 in
theorem tw36 : (.methodLink RX1 3 objectInit : Cond) ∈ lw_tbl := tb_in1 _ (List.mem_of_getElem? (i := 116) rfl)
set_option maxRecDepth 20000 in
theorem tw37 : (.fieldLink RX1 9 "ExamHalls$Pad" "signs" "[I" : Cond) ∈ lw_tbl := tb_in1 _ (List.mem_of_getElem? (i := 117) rfl)
set_option maxRecDepth 20000 in
theorem tw38 : (.fieldLink RX1 15 "ExamHalls$Pad" "length" "I" : Cond) ∈ lw_tbl := tb_in1 _ (List.mem_of_getElem? (i := 118) rfl)
set_option maxRecDepth 20000 in
theorem tw39 : (.fieldLink RX1 19 "ExamHalls$Pad" "foundPapers" "[I" : Cond) ∈ lw_tbl := tb_in1 _ (List.mem_of_getElem? (i := 120) rfl)
set_option maxRecDepth 20000 in
theorem tw40 : (.fieldLink RX1 22 "ExamHalls$Pad" "foundExtras" "[I" : Cond) ∈ lw_tbl := tb_in1 _ (List.mem_of_getElem? (i := 121) rfl)
set_option maxRecDepth 20000 in
theorem tw41 : (.fieldLink RX1 25 "ExamHalls$Pad" "foundReaders" "[Z" : Cond) ∈ lw_tbl := tb_in1 _ (List.mem_of_getElem? (i := 122) rfl)
set_option maxRecDepth 20000 in
theorem tw42 : (.fieldLink RX1 29 "ExamHalls$Pad" "found" "I" : Cond) ∈ lw_tbl := tb_in1 _ (List.mem_of_getElem? (i := 123) rfl)
set_option maxRecDepth 20000 in
theorem tw43 : (.fieldLink RX1 32 "ExamHalls$Pad" "state" "I" : Cond) ∈ lw_tbl := tb_in1 _ (List.mem_of_getElem? (i := 124) rfl)
set_option maxRecDepth 20000 in
theorem tw44 : (.fieldLink RX1 35 "ExamHalls$Pad" "papers" "I" : Cond) ∈ lw_tbl := tb_in1 _ (List.mem_of_getElem? (i := 125) rfl)
set_option maxRecDepth 20000 in
theorem tw45 : (.fieldLink RX1 38 "ExamHalls$Pad" "extra" "I" : Cond) ∈ lw_tbl := tb_in1 _ (List.mem_of_getElem? (i := 126) rfl)
set_option maxRecDepth 20000 in
theorem tw46 : (.fieldLink RX1 41 "ExamHalls$Pad" "needsReader" "Z" : Cond) ∈ lw_tbl := tb_in1 _ (List.mem_of_getElem? (i := 127) rfl)
set_option maxRecDepth 20000 in
theorem tw47 : (.code yX2_writePupil cX2_writePupil 5 none : Cond) ∈ lw_tbl := tb_in3 _ (List.mem_of_getElem? (i := 5) rfl)
set_option maxRecDepth 20000 in
theorem tw48 : (.code yX2_addPupil cX2_addPupil 4 none : Cond) ∈ lw_tbl := tb_in3 _ (List.mem_of_getElem? (i := 1) rfl)
set_option maxRecDepth 20000 in
theorem tw49 : (.methodLink RX2 44 yX2_writePupil : Cond) ∈ lw_tbl := tb_in3 _ (List.mem_of_getElem? (i := 2) rfl)
set_option maxRecDepth 20000 in
theorem tw50 : (.instanceMethod yX2_writePupil : Cond) ∈ lw_tbl := tb_in3 _ (List.mem_of_getElem? (i := 3) rfl)
set_option maxRecDepth 20000 in
theorem tw51 : (.selects RX2 yX2_writePupil yX2_writePupil : Cond) ∈ lw_tbl := tb_in3 _ (List.mem_of_getElem? (i := 4) rfl)
set_option maxRecDepth 20000 in
theorem tw52 : (.code yX2_removePupil cX2_removePupil 3 none : Cond) ∈ lw_tbl := tb_in3 _ (List.mem_of_getElem? (i := 18) rfl)
set_option maxRecDepth 20000 in
theorem tw53 : (.code yX4_contains cX4_contains 2 (some .boolean) : Cond) ∈ lw_tbl := tb_in1 _ (List.mem_of_getElem? (i := 186) rfl)
set_option maxRecDepth 20000 in
theorem tw54 : (.code yX2_sits cX2_sits 3 (some .boolean) : Cond) ∈ lw_tbl := tb_in1 _ (List.mem_of_getElem? (i := 183) rfl)
set_option maxRecDepth 20000 in
theorem tw55 : (.static yX4_contains : Cond) ∈ lw_tbl := tb_in1 _ (List.mem_of_getElem? (i := 185) rfl)
set_option maxRecDepth 20000 in
theorem tw56 : (.initialized RX4 : Cond) ∈ lw_tbl := tb_in1 _ (List.mem_of_getElem? (i := 1) rfl)
set_option maxRecDepth 20000 in
theorem tw57 : (.code yX2_beginOf cX2_beginOf 2 (some .int) : Cond) ∈ lw_tbl := tb_in1 _ (List.mem_of_getElem? (i := 198) rfl)
set_option maxRecDepth 20000 in
theorem tw58 : (.code yX2_lengthOf cX2_lengthOf 3 (some .int) : Cond) ∈ lw_tbl := tb_in1 _ (List.mem_of_getElem? (i := 210) rfl)
set_option maxRecDepth 20000 in
theorem tw59 : (.code yX2_endOf cX2_endOf 3 (some .int) : Cond) ∈ lw_tbl := tb_in1 _ (List.mem_of_getElem? (i := 205) rfl)
set_option maxRecDepth 20000 in
theorem tw60 : (.methodLink RX2 52 yX2_beginOf : Cond) ∈ lw_tbl := tb_in1 _ (List.mem_of_getElem? (i := 206) rfl)
set_option maxRecDepth 20000 in
theorem tw61 : (.instanceMethod yX2_beginOf : Cond) ∈ lw_tbl := tb_in1 _ (List.mem_of_getElem? (i := 196) rfl)
set_option maxRecDepth 20000 in
theorem tw62 : (.selects RX2 yX2_beginOf yX2_beginOf : Cond) ∈ lw_tbl := tb_in1 _ (List.mem_of_getElem? (i := 197) rfl)
set_option maxRecDepth 20000 in
theorem tw63 : (.methodLink RX2 56 yX2_lengthOf : Cond) ∈ lw_tbl := tb_in1 _ (List.mem_of_getElem? (i := 207) rfl)
set_option maxRecDepth 20000 in
theorem tw64 : (.instanceMethod yX2_lengthOf : Cond) ∈ lw_tbl := tb_in1 _ (List.mem_of_getElem? (i := 208) rfl)
set_option maxRecDepth 20000 in
theorem tw65 : (.selects RX2 yX2_lengthOf yX2_lengthOf : Cond) ∈ lw_tbl := tb_in1 _ (List.mem_of_getElem? (i := 209) rfl)
set_option maxRecDepth 20000 in
theorem tw66 : (.code yX2_isSatAt cX2_isSatAt 4 (some .boolean) : Cond) ∈ lw_tbl := tb_in2 _ (List.mem_of_getElem? (i := 61) rfl)
set_option maxRecDepth 20000 in
theorem tw67 : (.methodLink RX2 60 yX2_endOf : Cond) ∈ lw_tbl := tb_in2 _ (List.mem_of_getElem? (i := 40) rfl)
set_option maxRecDepth 20000 in
theorem tw68 : (.instanceMethod yX2_endOf : Cond) ∈ lw_tbl := tb_in1 _ (List.mem_of_getElem? (i := 203) rfl)
set_option maxRecDepth 20000 in
theorem tw69 : (.selects RX2 yX2_endOf yX2_endOf : Cond) ∈ lw_tbl := tb_in1 _ (List.mem_of_getElem? (i := 204) rfl)
set_option maxRecDepth 20000 in
theorem tw70 : (.code yJ6_bitCount_0f7a4 cJ6_bitCount_0f7a4 1 (some .int) : Cond) ∈ lw_tbl := tb_in2 _ (List.mem_of_getElem? (i := 23) rfl)
set_option maxRecDepth 20000 in
theorem tw71 : (.constant RJ6 265 (1431655765) : Cond) ∈ lw_tbl := tb_in2 _ (List.mem_of_getElem? (i := 24) rfl)
set_option maxRecDepth 20000 in
theorem tw72 : (.constant RJ6 266 (858993459) : Cond) ∈ lw_tbl := tb_in2 _ (List.mem_of_getElem? (i := 25) rfl)
set_option maxRecDepth 20000 in
theorem tw73 : (.constant RJ6 267 (252645135) : Cond) ∈ lw_tbl := tb_in2 _ (List.mem_of_getElem? (i := 26) rfl)
set_option maxRecDepth 20000 in
theorem tw74 : (.code yX2_sittings cX2_sittings 3 (some .int) : Cond) ∈ lw_tbl := tb_in2 _ (List.mem_of_getElem? (i := 20) rfl)
set_option maxRecDepth 20000 in
theorem tw75 : (.methodLink RX2 63 yJ6_bitCount_0f7a4 : Cond) ∈ lw_tbl := tb_in2 _ (List.mem_of_getElem? (i := 21) rfl)
set_option maxRecDepth 20000 in
theorem tw76 : (.static yJ6_bitCount_0f7a4 : Cond) ∈ lw_tbl := tb_in2 _ (List.mem_of_getElem? (i := 22) rfl)
set_option maxRecDepth 20000 in
theorem tw77 : (.initialized RJ6 : Cond) ∈ lw_tbl := tb_in1 _ (List.mem_of_getElem? (i := 6) rfl)
set_option maxRecDepth 20000 in
theorem tw78 : (.code yX2_minutesOf cX2_minutesOf 4 (some .int) : Cond) ∈ lw_tbl := tb_in2 _ (List.mem_of_getElem? (i := 218) rfl)
set_option maxRecDepth 20000 in
theorem tw79 : (.methodLink RX2 68 yX2_sits : Cond) ∈ lw_tbl := tb_in2 _ (List.mem_of_getElem? (i := 35) rfl)
set_option maxRecDepth 20000 in
theorem tw80 : (.instanceMethod yX2_sits : Cond) ∈ lw_tbl := tb_in1 _ (List.mem_of_getElem? (i := 181) rfl)
set_option maxRecDepth 20000 in
theorem tw81 : (.selects RX2 yX2_sits yX2_sits : Cond) ∈ lw_tbl := tb_in1 _ (List.mem_of_getElem? (i := 182) rfl)
set_option maxRecDepth 20000 in
theorem tw82 : (.code yX2_pupilsOf cX2_pupilsOf 4 (some .int) : Cond) ∈ lw_tbl := tb_in2 _ (List.mem_of_getElem? (i := 183) rfl)
set_option maxRecDepth 20000 in
theorem tw83 : (.code yX2_clashingPapers cX2_clashingPapers 5 (some .int) : Cond) ∈ lw_tbl := tb_in2 _ (List.mem_of_getElem? (i := 39) rfl)
set_option maxRecDepth 20000 in
theorem tw84 : (.methodLink RX2 71 yX2_clashingPapers : Cond) ∈ lw_tbl := tb_in2 _ (List.mem_of_getElem? (i := 36) rfl)
set_option maxRecDepth 20000 in
theorem tw85 : (.instanceMethod yX2_clashingPapers : Cond) ∈ lw_tbl := tb_in2 _ (List.mem_of_getElem? (i := 37) rfl)
set_option maxRecDepth 20000 in
theorem tw86 : (.selects RX2 yX2_clashingPapers yX2_clashingPapers : Cond) ∈ lw_tbl := tb_in2 _ (List.mem_of_getElem? (i := 38) rfl)
set_option maxRecDepth 20000 in
theorem tw87 : (.code yX2_clashesOf cX2_clashesOf 4 (some .int) : Cond) ∈ lw_tbl := tb_in2 _ (List.mem_of_getElem? (i := 34) rfl)
set_option maxRecDepth 20000 in
theorem tw88 : (.methodLink RX2 74 yX2_clashesOf : Cond) ∈ lw_tbl := tb_in2 _ (List.mem_of_getElem? (i := 31) rfl)
set_option maxRecDepth 20000 in
theorem tw89 : (.instanceMethod yX2_clashesOf : Cond) ∈ lw_tbl := tb_in2 _ (List.mem_of_getElem? (i := 32) rfl)
set_option maxRecDepth 20000 in
theorem tw90 : (.selects RX2 yX2_clashesOf yX2_clashesOf : Cond) ∈ lw_tbl := tb_in2 _ (List.mem_of_getElem? (i := 33) rfl)
set_option maxRecDepth 20000 in
theorem tw91 : (.code yX2_clashes cX2_clashes 3 (some .int) : Cond) ∈ lw_tbl := tb_in2 _ (List.mem_of_getElem? (i := 30) rfl)
set_option maxRecDepth 20000 in
theorem tw92 : (.methodLink RX2 77 Lib.Math.max.name : Cond) ∈ lw_tbl := tb_in2 _ (List.mem_of_getElem? (i := 62) rfl)
set_option maxRecDepth 20000 in
theorem tw93 : (.static Lib.Math.max.name : Cond) ∈ lw_tbl := tb_in2 _ (List.mem_of_getElem? (i := 63) rfl)
set_option maxRecDepth 20000 in
theorem tw94 : (.initialized "java/lang/Math" : Cond) ∈ lw_tbl := tb_in1 _ (List.mem_of_getElem? (i := 7) rfl)
set_option maxRecDepth 20000 in
theorem tw95 : (.code Lib.Math.max.name Lib.Math.max.code 2 (some .int) : Cond) ∈ lw_tbl := tb_in2 _ (List.mem_of_getElem? (i := 64) rfl)
set_option maxRecDepth 20000 in
theorem tw96 : (.code yX2_lastEndOf cX2_lastEndOf 4 (some .int) : Cond) ∈ lw_tbl := tb_in2 _ (List.mem_of_getElem? (i := 72) rfl)
set_option maxRecDepth 20000 in
theorem tw97 : (.methodLink RX2 82 yX2_lastEndOf : Cond) ∈ lw_tbl := tb_in2 _ (List.mem_of_getElem? (i := 69) rfl)
set_option maxRecDepth 20000 in
theorem tw98 : (.instanceMethod yX2_lastEndOf : Cond) ∈ lw_tbl := tb_in2 _ (List.mem_of_getElem? (i := 70) rfl)
set_option maxRecDepth 20000 in
theorem tw99 : (.selects RX2 yX2_lastEndOf yX2_lastEndOf : Cond) ∈ lw_tbl := tb_in2 _ (List.mem_of_getElem? (i := 71) rfl)
set_option maxRecDepth 20000 in
theorem tw100 : (.code yX2_lastEnd cX2_lastEnd 3 (some .int) : Cond) ∈ lw_tbl := tb_in2 _ (List.mem_of_getElem? (i := 68) rfl)
set_option maxRecDepth 20000 in
theorem tw101 : (.methodLink RX2 88 yX2_isSatAt : Cond) ∈ lw_tbl := tb_in2 _ (List.mem_of_getElem? (i := 58) rfl)
set_option maxRecDepth 20000 in
theorem tw102 : (.instanceMethod yX2_isSatAt : Cond) ∈ lw_tbl := tb_in2 _ (List.mem_of_getElem? (i := 59) rfl)
set_option maxRecDepth 20000 in
theorem tw103 : (.selects RX2 yX2_isSatAt yX2_isSatAt : Cond) ∈ lw_tbl := tb_in2 _ (List.mem_of_getElem? (i := 60) rfl)
set_option maxRecDepth 20000 in
theorem tw104 : (.code yX2_readersAt cX2_readersAt 5 (some .int) : Cond) ∈ lw_tbl := tb_in2 _ (List.mem_of_getElem? (i := 57) rfl)
set_option maxRecDepth 20000 in
theorem tw105 : (.methodLink RX2 85 yX2_readersAt : Cond) ∈ lw_tbl := tb_in2 _ (List.mem_of_getElem? (i := 54) rfl)
set_option maxRecDepth 20000 in
theorem tw106 : (.instanceMethod yX2_readersAt : Cond) ∈ lw_tbl := tb_in2 _ (List.mem_of_getElem? (i := 55) rfl)
set_option maxRecDepth 20000 in
theorem tw107 : (.selects RX2 yX2_readersAt yX2_readersAt : Cond) ∈ lw_tbl := tb_in2 _ (List.mem_of_getElem? (i := 56) rfl)
set_option maxRecDepth 20000 in
theorem tw108 : (.code yX2_mostReaders cX2_mostReaders 3 (some .int) : Cond) ∈ lw_tbl := tb_in2 _ (List.mem_of_getElem? (i := 53) rfl)
set_option maxRecDepth 20000 in
theorem tw109 : (.code yX2_isOpen cX2_isOpen 2 (some .boolean) : Cond) ∈ lw_tbl := tb_in1 _ (List.mem_of_getElem? (i := 218) rfl)
set_option maxRecDepth 20000 in
theorem tw110 : (.code yX2_desksOf cX2_desksOf 2 (some .int) : Cond) ∈ lw_tbl := tb_in2 _ (List.mem_of_getElem? (i := 49) rfl)
set_option maxRecDepth 20000 in
theorem tw111 : (.code yX2_openDesks cX2_openDesks 3 (some .int) : Cond) ∈ lw_tbl := tb_in2 _ (List.mem_of_getElem? (i := 44) rfl)
set_option maxRecDepth 20000 in
theorem tw112 : (.methodLink RX2 92 yX2_isOpen : Cond) ∈ lw_tbl := tb_in2 _ (List.mem_of_getElem? (i := 45) rfl)
set_option maxRecDepth 20000 in
theorem tw113 : (.instanceMethod yX2_isOpen : Cond) ∈ lw_tbl := tb_in1 _ (List.mem_of_getElem? (i := 216) rfl)
set_option maxRecDepth 20000 in
theorem tw114 : (.selects RX2 yX2_isOpen yX2_isOpen : Cond) ∈ lw_tbl := tb_in1 _ (List.mem_of_getElem? (i := 217) rfl)
set_option maxRecDepth 20000 in
theorem tw115 : (.methodLink RX2 96 yX2_desksOf : Cond) ∈ lw_tbl := tb_in2 _ (List.mem_of_getElem? (i := 46) rfl)
set_option maxRecDepth 20000 in
theorem tw116 : (.instanceMethod yX2_desksOf : Cond) ∈ lw_tbl := tb_in2 _ (List.mem_of_getElem? (i := 47) rfl)
set_option maxRecDepth 20000 in
theorem tw117 : (.selects RX2 yX2_desksOf yX2_desksOf : Cond) ∈ lw_tbl := tb_in2 _ (List.mem_of_getElem? (i := 48) rfl)
set_option maxRecDepth 20000 in
theorem tw118 : (.methodLink RX3 3 objectInit : Cond) ∈ lw_tbl := tb_in1 _ (List.mem_of_getElem? (i := 21) rfl)
set_option maxRecDepth 20000 in
theorem tw119 : (.classLink RX3 9 RX2 : Cond) ∈ lw_tbl := tb_in1 _ (List.mem_of_getElem? (i := 22) rfl)
set_option maxRecDepth 20000 in
theorem tw120 : (.fieldLink RX3 12 "ExamHalls$Seating" "school" "LExamHalls$School;" : Cond) ∈ lw_tbl := tb_in1 _ (List.mem_of_getElem? (i := 77) rfl)
set_option maxRecDepth 20000 in
theorem tw121 : (.fieldLink RX3 18 "ExamHalls$Seating" "halls" "[I" : Cond) ∈ lw_tbl := tb_in1 _ (List.mem_of_getElem? (i := 79) rfl)
set_option maxRecDepth 20000 in
theorem tw122 : (.fieldLink RX3 22 "ExamHalls$Seating" "desks" "[I" : Cond) ∈ lw_tbl := tb_in1 _ (List.mem_of_getElem? (i := 81) rfl)
set_option maxRecDepth 20000 in
theorem tw123 : (.fieldLink RX3 25 "ExamHalls$Seating" "rooms" "[I" : Cond) ∈ lw_tbl := tb_in1 _ (List.mem_of_getElem? (i := 83) rfl)
set_option maxRecDepth 20000 in
theorem tw124 : (.fieldLink RX3 28 "ExamHalls$Seating" "unplaced" "I" : Cond) ∈ lw_tbl := tb_in1 _ (List.mem_of_getElem? (i := 85) rfl)
set_option maxRecDepth 20000 in
theorem tw125 : (.fieldLink RX3 32 "ExamHalls$Seating" "unplacedReaders" "I" : Cond) ∈ lw_tbl := tb_in1 _ (List.mem_of_getElem? (i := 87) rfl)
set_option maxRecDepth 20000 in
theorem tw126 : (.fieldLink RX3 35 "ExamHalls$Seating" "deskEnds" "[I" : Cond) ∈ lw_tbl := tb_in1 _ (List.mem_of_getElem? (i := 89) rfl)
set_option maxRecDepth 20000 in
theorem tw127 : (.fieldLink RX3 38 "ExamHalls$Seating" "deskPapers" "[I" : Cond) ∈ lw_tbl := tb_in1 _ (List.mem_of_getElem? (i := 90) rfl)
set_option maxRecDepth 20000 in
theorem tw128 : (.fieldLink RX3 41 "ExamHalls$Seating" "roomEnds" "[I" : Cond) ∈ lw_tbl := tb_in1 _ (List.mem_of_getElem? (i := 91) rfl)
set_option maxRecDepth 20000 in
theorem tw129 : (.code yX3_init cX3_init 1 none : Cond) ∈ lw_tbl := tb_in1 _ (List.mem_of_getElem? (i := 20) rfl)
set_option maxRecDepth 20000 in
theorem tw130 : (.code yX3_clear cX3_clear 2 none : Cond) ∈ lw_tbl := tb_in1 _ (List.mem_of_getElem? (i := 175) rfl)
set_option maxRecDepth 20000 in
theorem tw131 : (.code yX3_isEarlyEnough cX3_isEarlyEnough 3 (some .boolean) : Cond) ∈ lw_tbl := tb_in1 _ (List.mem_of_getElem? (i := 194) rfl)
set_option maxRecDepth 20000 in
theorem tw132 : (.fieldLink RX3 72 "ExamHalls$School" "settings" "[I" : Cond) ∈ lw_tbl := tb_in1 _ (List.mem_of_getElem? (i := 30) rfl)
set_option maxRecDepth 20000 in
theorem tw133 : (.methodLink RX3 102 yX2_beginOf : Cond) ∈ lw_tbl := tb_in1 _ (List.mem_of_getElem? (i := 195) rfl)
set_option maxRecDepth 20000 in
theorem tw134 : (.code yX4_sittingNumber cX4_sittingNumber 2 (some .int) : Cond) ∈ lw_tbl := tb_in1 _ (List.mem_of_getElem? (i := 201) rfl)
set_option maxRecDepth 20000 in
theorem tw135 : (.methodLink RX3 75 yX3_isEarlyEnough : Cond) ∈ lw_tbl := tb_in1 _ (List.mem_of_getElem? (i := 191) rfl)
set_option maxRecDepth 20000 in
theorem tw136 : (.instanceMethod yX3_isEarlyEnough : Cond) ∈ lw_tbl := tb_in1 _ (List.mem_of_getElem? (i := 193) rfl)
set_option maxRecDepth 20000 in
theorem tw137 : (.selects RX3 yX3_isEarlyEnough yX3_isEarlyEnough : Cond) ∈ lw_tbl := tb_in0 _ (List.mem_of_getElem? (i := 3) rfl)
set_option maxRecDepth 20000 in
theorem tw138 : (.initialized RX3 : Cond) ∈ lw_tbl := tb_in1 _ (List.mem_of_getElem? (i := 2) rfl)
set_option maxRecDepth 20000 in
theorem tw139 : (.static yX4_sittingNumber : Cond) ∈ lw_tbl := tb_in1 _ (List.mem_of_getElem? (i := 200) rfl)
set_option maxRecDepth 20000 in
theorem tw140 : (.methodLink RX3 82 yX2_endOf : Cond) ∈ lw_tbl := tb_in1 _ (List.mem_of_getElem? (i := 202) rfl)
set_option maxRecDepth 20000 in
theorem tw141 : (.code yX3_seatInRoom cX3_seatInRoom 4 none : Cond) ∈ lw_tbl := tb_in1 _ (List.mem_of_getElem? (i := 190) rfl)
set_option maxRecDepth 20000 in
theorem tw142 : (.code yX3_isBeside cX3_isBeside 7 (some .boolean) : Cond) ∈ lw_tbl := tb_in1 _ (List.mem_of_getElem? (i := 226) rfl)
set_option maxRecDepth 20000 in
theorem tw143 : (.fieldLink RX3 95 "ExamHalls$School" "columns" "[I" : Cond) ∈ lw_tbl := tb_in1 _ (List.mem_of_getElem? (i := 47) rfl)
set_option maxRecDepth 20000 in
theorem tw144 : (.fieldLink RX3 92 "ExamHalls$School" "rows" "[I" : Cond) ∈ lw_tbl := tb_in1 _ (List.mem_of_getElem? (i := 44) rfl)
set_option maxRecDepth 20000 in
theorem tw145 : (.code yX3_firstDesk cX3_firstDesk 6 (some .int) : Cond) ∈ lw_tbl := tb_in1 _ (List.mem_of_getElem? (i := 222) rfl)
set_option maxRecDepth 20000 in
theorem tw146 : (.methodLink RX3 98 yX3_isBeside : Cond) ∈ lw_tbl := tb_in1 _ (List.mem_of_getElem? (i := 223) rfl)
set_option maxRecDepth 20000 in
theorem tw147 : (.instanceMethod yX3_isBeside : Cond) ∈ lw_tbl := tb_in1 _ (List.mem_of_getElem? (i := 225) rfl)
set_option maxRecDepth 20000 in
theorem tw148 : (.selects RX3 yX3_isBeside yX3_isBeside : Cond) ∈ lw_tbl := tb_in0 _ (List.mem_of_getElem? (i := 6) rfl)
set_option maxRecDepth 20000 in
theorem tw149 : (.methodLink RX3 85 yX2_isOpen : Cond) ∈ lw_tbl := tb_in1 _ (List.mem_of_getElem? (i := 215) rfl)
set_option maxRecDepth 20000 in
theorem tw150 : (.methodLink RX3 89 yX3_firstDesk : Cond) ∈ lw_tbl := tb_in1 _ (List.mem_of_getElem? (i := 219) rfl)
set_option maxRecDepth 20000 in
theorem tw151 : (.instanceMethod yX3_firstDesk : Cond) ∈ lw_tbl := tb_in1 _ (List.mem_of_getElem? (i := 221) rfl)
set_option maxRecDepth 20000 in
theorem tw152 : (.selects RX3 yX3_firstDesk yX3_firstDesk : Cond) ∈ lw_tbl := tb_in0 _ (List.mem_of_getElem? (i := 5) rfl)
set_option maxRecDepth 20000 in
theorem tw153 : (.code yX3_seatAtDesk cX3_seatAtDesk 6 none : Cond) ∈ lw_tbl := tb_in1 _ (List.mem_of_getElem? (i := 214) rfl)
set_option maxRecDepth 20000 in
theorem tw154 : (.fieldLink RX3 54 "ExamHalls$School" "pupils" "I" : Cond) ∈ lw_tbl := tb_in1 _ (List.mem_of_getElem? (i := 50) rfl)
set_option maxRecDepth 20000 in
theorem tw155 : (.fieldLink RX3 61 "ExamHalls$School" "readers" "[Z" : Cond) ∈ lw_tbl := tb_in1 _ (List.mem_of_getElem? (i := 41) rfl)
set_option maxRecDepth 20000 in
theorem tw156 : (.methodLink RX3 57 yX2_sits : Cond) ∈ lw_tbl := tb_in1 _ (List.mem_of_getElem? (i := 180) rfl)
set_option maxRecDepth 20000 in
theorem tw157 : (.methodLink RX3 65 yX3_seatInRoom : Cond) ∈ lw_tbl := tb_in1 _ (List.mem_of_getElem? (i := 187) rfl)
set_option maxRecDepth 20000 in
theorem tw158 : (.instanceMethod yX3_seatInRoom : Cond) ∈ lw_tbl := tb_in1 _ (List.mem_of_getElem? (i := 189) rfl)
set_option maxRecDepth 20000 in
theorem tw159 : (.selects RX3 yX3_seatInRoom yX3_seatInRoom : Cond) ∈ lw_tbl := tb_in0 _ (List.mem_of_getElem? (i := 2) rfl)
set_option maxRecDepth 20000 in
theorem tw160 : (.methodLink RX3 69 yX3_seatAtDesk : Cond) ∈ lw_tbl := tb_in1 _ (List.mem_of_getElem? (i := 211) rfl)
set_option maxRecDepth 20000 in
theorem tw161 : (.instanceMethod yX3_seatAtDesk : Cond) ∈ lw_tbl := tb_in1 _ (List.mem_of_getElem? (i := 213) rfl)
set_option maxRecDepth 20000 in
theorem tw162 : (.selects RX3 yX3_seatAtDesk yX3_seatAtDesk : Cond) ∈ lw_tbl := tb_in0 _ (List.mem_of_getElem? (i := 4) rfl)
set_option maxRecDepth 20000 in
theorem tw163 : (.code yX3_seatPupils cX3_seatPupils 3 none : Cond) ∈ lw_tbl := tb_in1 _ (List.mem_of_getElem? (i := 179) rfl)
set_option maxRecDepth 20000 in
theorem tw164 : (.fieldLink RX3 47 "ExamHalls$School" "starts" "[I" : Cond) ∈ lw_tbl := tb_in1 _ (List.mem_of_getElem? (i := 32) rfl)
set_option maxRecDepth 20000 in
theorem tw165 : (.methodLink RX3 44 yX3_clear : Cond) ∈ lw_tbl := tb_in1 _ (List.mem_of_getElem? (i := 172) rfl)
set_option maxRecDepth 20000 in
theorem tw166 : (.instanceMethod yX3_clear : Cond) ∈ lw_tbl := tb_in1 _ (List.mem_of_getElem? (i := 174) rfl)
set_option maxRecDepth 20000 in
theorem tw167 : (.selects RX3 yX3_clear yX3_clear : Cond) ∈ lw_tbl := tb_in0 _ (List.mem_of_getElem? (i := 0) rfl)
set_option maxRecDepth 20000 in
theorem tw168 : (.methodLink RX3 50 yX3_seatPupils : Cond) ∈ lw_tbl := tb_in1 _ (List.mem_of_getElem? (i := 176) rfl)
set_option maxRecDepth 20000 in
theorem tw169 : (.instanceMethod yX3_seatPupils : Cond) ∈ lw_tbl := tb_in1 _ (List.mem_of_getElem? (i := 178) rfl)
set_option maxRecDepth 20000 in
theorem tw170 : (.selects RX3 yX3_seatPupils yX3_seatPupils : Cond) ∈ lw_tbl := tb_in0 _ (List.mem_of_getElem? (i := 1) rfl)
set_option maxRecDepth 20000 in
theorem tw171 : (.code yX3_seatAll cX3_seatAll 3 none : Cond) ∈ lw_tbl := tb_in1 _ (List.mem_of_getElem? (i := 171) rfl)
set_option maxRecDepth 20000 in
theorem tw172 : (.code yX3_isUnplaced cX3_isUnplaced 4 (some .boolean) : Cond) ∈ lw_tbl := tb_in2 _ (List.mem_of_getElem? (i := 192) rfl)
set_option maxRecDepth 20000 in
theorem tw173 : (.code yX3_unplacedPapersOf cX3_unplacedPapersOf 4 (some .int) : Cond) ∈ lw_tbl := tb_in2 _ (List.mem_of_getElem? (i := 214) rfl)
set_option maxRecDepth 20000 in
theorem tw174 : (.methodLink RX3 109 yX3_isUnplaced : Cond) ∈ lw_tbl := tb_in2 _ (List.mem_of_getElem? (i := 189) rfl)
set_option maxRecDepth 20000 in
theorem tw175 : (.instanceMethod yX3_isUnplaced : Cond) ∈ lw_tbl := tb_in2 _ (List.mem_of_getElem? (i := 190) rfl)
set_option maxRecDepth 20000 in
theorem tw176 : (.selects RX3 yX3_isUnplaced yX3_isUnplaced : Cond) ∈ lw_tbl := tb_in2 _ (List.mem_of_getElem? (i := 191) rfl)
set_option maxRecDepth 20000 in
theorem tw177 : (.code yX3_unplacedOf cX3_unplacedOf 4 (some .int) : Cond) ∈ lw_tbl := tb_in2 _ (List.mem_of_getElem? (i := 188) rfl)
set_option maxRecDepth 20000 in
theorem tw178 : (.code yX3_hallsOf cX3_hallsOf 5 (some .int) : Cond) ∈ lw_tbl := tb_in2 _ (List.mem_of_getElem? (i := 196) rfl)
set_option maxRecDepth 20000 in
theorem tw179 : (.code yX3_seatedIn cX3_seatedIn 4 (some .int) : Cond) ∈ lw_tbl := tb_in2 _ (List.mem_of_getElem? (i := 161) rfl)
set_option maxRecDepth 20000 in
theorem tw180 : (.code yX3_isNow cX3_isNow 3 (some .boolean) : Cond) ∈ lw_tbl := tb_in2 _ (List.mem_of_getElem? (i := 173) rfl)
set_option maxRecDepth 20000 in
theorem tw181 : (.methodLink RX3 123 yX2_isSatAt : Cond) ∈ lw_tbl := tb_in2 _ (List.mem_of_getElem? (i := 174) rfl)
set_option maxRecDepth 20000 in
theorem tw182 : (.methodLink RX3 120 yX3_isNow : Cond) ∈ lw_tbl := tb_in2 _ (List.mem_of_getElem? (i := 170) rfl)
set_option maxRecDepth 20000 in
theorem tw183 : (.instanceMethod yX3_isNow : Cond) ∈ lw_tbl := tb_in2 _ (List.mem_of_getElem? (i := 172) rfl)
set_option maxRecDepth 20000 in
theorem tw184 : (.selects RX3 yX3_isNow yX3_isNow : Cond) ∈ lw_tbl := tb_in0 _ (List.mem_of_getElem? (i := 10) rfl)
set_option maxRecDepth 20000 in
theorem tw185 : (.code yX3_takenIn cX3_takenIn 5 (some .int) : Cond) ∈ lw_tbl := tb_in2 _ (List.mem_of_getElem? (i := 169) rfl)
set_option maxRecDepth 20000 in
theorem tw186 : (.methodLink RX3 115 Lib.Math.max.name : Cond) ∈ lw_tbl := tb_in2 _ (List.mem_of_getElem? (i := 175) rfl)
set_option maxRecDepth 20000 in
theorem tw187 : (.methodLink RX3 112 yX3_takenIn : Cond) ∈ lw_tbl := tb_in2 _ (List.mem_of_getElem? (i := 166) rfl)
set_option maxRecDepth 20000 in
theorem tw188 : (.instanceMethod yX3_takenIn : Cond) ∈ lw_tbl := tb_in2 _ (List.mem_of_getElem? (i := 168) rfl)
set_option maxRecDepth 20000 in
theorem tw189 : (.selects RX3 yX3_takenIn yX3_takenIn : Cond) ∈ lw_tbl := tb_in0 _ (List.mem_of_getElem? (i := 9) rfl)
set_option maxRecDepth 20000 in
theorem tw190 : (.code yX3_mostTakenIn cX3_mostTakenIn 4 (some .int) : Cond) ∈ lw_tbl := tb_in2 _ (List.mem_of_getElem? (i := 165) rfl)
set_option maxRecDepth 20000 in
theorem tw191 : (.code yX3_sittingAt cX3_sittingAt 5 (some .int) : Cond) ∈ lw_tbl := tb_in2 _ (List.mem_of_getElem? (i := 205) rfl)
set_option maxRecDepth 20000 in
theorem tw192 : (.methodLink RX4 3 objectInit : Cond) ∈ lw_tbl := tb_in1 _ (List.mem_of_getElem? (i := 13) rfl)
set_option maxRecDepth 20000 in
theorem tw193 : (.classLink RX4 9 RX3 : Cond) ∈ lw_tbl := tb_in1 _ (List.mem_of_getElem? (i := 16) rfl)
set_option maxRecDepth 20000 in
theorem tw194 : (.instantiable RX3 9 : Cond) ∈ lw_tbl := tb_in1 _ (List.mem_of_getElem? (i := 17) rfl)
set_option maxRecDepth 20000 in
theorem tw195 : (.fieldLink RX4 12 "ExamHalls" "seating" "LExamHalls$Seating;" : Cond) ∈ lw_tbl := tb_in1 _ (List.mem_of_getElem? (i := 228) rfl)
set_option maxRecDepth 20000 in
theorem tw196 : (.fieldLink RX4 16 "ExamHalls$Seating" "school" "LExamHalls$School;" : Cond) ∈ lw_tbl := tb_in1 _ (List.mem_of_getElem? (i := 78) rfl)
set_option maxRecDepth 20000 in
theorem tw197 : (.fieldLink RX4 20 "ExamHalls" "school" "LExamHalls$School;" : Cond) ∈ lw_tbl := tb_in1 _ (List.mem_of_getElem? (i := 229) rfl)
set_option maxRecDepth 20000 in
theorem tw198 : (.fieldLink RX4 21 "ExamHalls" "trialSeating" "LExamHalls$Seating;" : Cond) ∈ lw_tbl := tb_in1 _ (List.mem_of_getElem? (i := 230) rfl)
set_option maxRecDepth 20000 in
theorem tw199 : (.fieldLink RX4 24 "ExamHalls" "trial" "LExamHalls$School;" : Cond) ∈ lw_tbl := tb_in1 _ (List.mem_of_getElem? (i := 231) rfl)
set_option maxRecDepth 20000 in
theorem tw200 : (.classLink RX4 27 RX1 : Cond) ∈ lw_tbl := tb_in1 _ (List.mem_of_getElem? (i := 111) rfl)
set_option maxRecDepth 20000 in
theorem tw201 : (.instantiable RX1 10 : Cond) ∈ lw_tbl := tb_in1 _ (List.mem_of_getElem? (i := 112) rfl)
set_option maxRecDepth 20000 in
theorem tw202 : (.initialized RX1 : Cond) ∈ lw_tbl := tb_in1 _ (List.mem_of_getElem? (i := 4) rfl)
set_option maxRecDepth 20000 in
theorem tw203 : (.fieldLink RX4 30 "ExamHalls" "pad" "LExamHalls$Pad;" : Cond) ∈ lw_tbl := tb_in1 _ (List.mem_of_getElem? (i := 232) rfl)
set_option maxRecDepth 20000 in
theorem tw204 : (.classLink RX4 34 RX0 : Cond) ∈ lw_tbl := tb_in1 _ (List.mem_of_getElem? (i := 149) rfl)
set_option maxRecDepth 20000 in
theorem tw205 : (.instantiable RX0 2 : Cond) ∈ lw_tbl := tb_in1 _ (List.mem_of_getElem? (i := 150) rfl)
set_option maxRecDepth 20000 in
theorem tw206 : (.fieldLink RX4 37 "ExamHalls" "history" "LExamHalls$History;" : Cond) ∈ lw_tbl := tb_in1 _ (List.mem_of_getElem? (i := 233) rfl)
set_option maxRecDepth 20000 in
theorem tw207 : (.classLink RX4 41 RX2 : Cond) ∈ lw_tbl := tb_in1 _ (List.mem_of_getElem? (i := 166) rfl)
set_option maxRecDepth 20000 in
theorem tw208 : (.fieldLink RX4 44 "ExamHalls" "slots" "[LExamHalls$School;" : Cond) ∈ lw_tbl := tb_in1 _ (List.mem_of_getElem? (i := 234) rfl)
set_option maxRecDepth 20000 in
theorem tw209 : (.fieldLink RX4 48 "ExamHalls" "slotIsUsed" "[Z" : Cond) ∈ lw_tbl := tb_in1 _ (List.mem_of_getElem? (i := 235) rfl)
set_option maxRecDepth 20000 in
theorem tw210 : (.instanceMethod yX3_init : Cond) ∈ lw_tbl := tb_in1 _ (List.mem_of_getElem? (i := 19) rfl)
set_option maxRecDepth 20000 in
theorem tw211 : (.instanceMethod yX1_init : Cond) ∈ lw_tbl := tb_in1 _ (List.mem_of_getElem? (i := 114) rfl)
set_option maxRecDepth 20000 in
theorem tw212 : (.methodLink RX4 36 yX0_init : Cond) ∈ lw_tbl := tb_in1 _ (List.mem_of_getElem? (i := 151) rfl)
set_option maxRecDepth 20000 in
theorem tw213 : (.instanceMethod yX0_init : Cond) ∈ lw_tbl := tb_in1 _ (List.mem_of_getElem? (i := 152) rfl)
set_option maxRecDepth 20000 in
theorem tw214 : (.methodLink RX4 52 yX3_seatAll : Cond) ∈ lw_tbl := tb_in1 _ (List.mem_of_getElem? (i := 168) rfl)
set_option maxRecDepth 20000 in
theorem tw215 : (.instanceMethod yX3_seatAll : Cond) ∈ lw_tbl := tb_in1 _ (List.mem_of_getElem? (i := 169) rfl)
set_option maxRecDepth 20000 in
theorem tw216 : (.selects RX3 yX3_seatAll yX3_seatAll : Cond) ∈ lw_tbl := tb_in1 _ (List.mem_of_getElem? (i := 170) rfl)
set_option maxRecDepth 20000 in
theorem tw217 : (.code yX4_init cX4_init 1 none : Cond) ∈ lw_tbl := tb_in1 _ (List.mem_of_getElem? (i := 12) rfl)
set_option maxRecDepth 20000 in
theorem tw218 : (.code yX4_isWithin cX4_isWithin 3 (some .boolean) : Cond) ∈ lw_tbl := tb_in2 _ (List.mem_of_getElem? (i := 82) rfl)
set_option maxRecDepth 20000 in
theorem tw219 : (.fieldLink RX4 59 "ExamHalls" "HIGHEST_SETTINGS" "[I" : Cond) ∈ lw_tbl := tb_in3 _ (List.mem_of_getElem? (i := 42) rfl)
set_option maxRecDepth 20000 in
theorem tw220 : (.fieldLink RX4 63 "ExamHalls$School" "settings" "[I" : Cond) ∈ lw_tbl := tb_in1 _ (List.mem_of_getElem? (i := 29) rfl)
set_option maxRecDepth 20000 in
theorem tw221 : (.methodLink RX4 55 yX4_isWithin : Cond) ∈ lw_tbl := tb_in2 _ (List.mem_of_getElem? (i := 80) rfl)
set_option maxRecDepth 20000 in
theorem tw222 : (.static yX4_isWithin : Cond) ∈ lw_tbl := tb_in2 _ (List.mem_of_getElem? (i := 81) rfl)
set_option maxRecDepth 20000 in
theorem tw223 : (.methodLink RX4 66 yX0_remember : Cond) ∈ lw_tbl := tb_in2 _ (List.mem_of_getElem? (i := 115) rfl)
set_option maxRecDepth 20000 in
theorem tw224 : (.instanceMethod yX0_remember : Cond) ∈ lw_tbl := tb_in2 _ (List.mem_of_getElem? (i := 116) rfl)
set_option maxRecDepth 20000 in
theorem tw225 : (.selects RX0 yX0_remember yX0_remember : Cond) ∈ lw_tbl := tb_in2 _ (List.mem_of_getElem? (i := 117) rfl)
set_option maxRecDepth 20000 in
theorem tw226 : (.code yX4_set cX4_set 4 (some .int) : Cond) ∈ lw_tbl := tb_in3 _ (List.mem_of_getElem? (i := 41) rfl)
set_option maxRecDepth 20000 in
theorem tw227 : (.code yX4_isPaper cX4_isPaper 1 (some .boolean) : Cond) ∈ lw_tbl := tb_in2 _ (List.mem_of_getElem? (i := 79) rfl)
set_option maxRecDepth 20000 in
theorem tw228 : (.code yX4_isStart cX4_isStart 1 (some .boolean) : Cond) ∈ lw_tbl := tb_in3 _ (List.mem_of_getElem? (i := 25) rfl)
set_option maxRecDepth 20000 in
theorem tw229 : (.fieldLink RX4 77 "ExamHalls$School" "starts" "[I" : Cond) ∈ lw_tbl := tb_in1 _ (List.mem_of_getElem? (i := 33) rfl)
set_option maxRecDepth 20000 in
theorem tw230 : (.fieldLink RX4 80 "ExamHalls$School" "minutes" "[I" : Cond) ∈ lw_tbl := tb_in1 _ (List.mem_of_getElem? (i := 35) rfl)
set_option maxRecDepth 20000 in
theorem tw231 : (.methodLink RX4 70 yX4_isPaper : Cond) ∈ lw_tbl := tb_in2 _ (List.mem_of_getElem? (i := 77) rfl)
set_option maxRecDepth 20000 in
theorem tw232 : (.static yX4_isPaper : Cond) ∈ lw_tbl := tb_in2 _ (List.mem_of_getElem? (i := 78) rfl)
set_option maxRecDepth 20000 in
theorem tw233 : (.methodLink RX4 74 yX4_isStart : Cond) ∈ lw_tbl := tb_in3 _ (List.mem_of_getElem? (i := 23) rfl)
set_option maxRecDepth 20000 in
theorem tw234 : (.static yX4_isStart : Cond) ∈ lw_tbl := tb_in3 _ (List.mem_of_getElem? (i := 24) rfl)
set_option maxRecDepth 20000 in
theorem tw235 : (.code yX4_paper cX4_paper 5 (some .int) : Cond) ∈ lw_tbl := tb_in3 _ (List.mem_of_getElem? (i := 29) rfl)
set_option maxRecDepth 20000 in
theorem tw236 : (.code yX4_isPupilData cX4_isPupilData 2 (some .boolean) : Cond) ∈ lw_tbl := tb_in2 _ (List.mem_of_getElem? (i := 237) rfl)
set_option maxRecDepth 20000 in
theorem tw237 : (.fieldLink RX4 87 "ExamHalls$School" "pupils" "I" : Cond) ∈ lw_tbl := tb_in1 _ (List.mem_of_getElem? (i := 51) rfl)
set_option maxRecDepth 20000 in
theorem tw238 : (.methodLink RX4 83 yX4_isPupilData : Cond) ∈ lw_tbl := tb_in2 _ (List.mem_of_getElem? (i := 235) rfl)
set_option maxRecDepth 20000 in
theorem tw239 : (.static yX4_isPupilData : Cond) ∈ lw_tbl := tb_in2 _ (List.mem_of_getElem? (i := 236) rfl)
set_option maxRecDepth 20000 in
theorem tw240 : (.methodLink RX4 91 yX2_addPupil : Cond) ∈ lw_tbl := tb_in2 _ (List.mem_of_getElem? (i := 238) rfl)
set_option maxRecDepth 20000 in
theorem tw241 : (.instanceMethod yX2_addPupil : Cond) ∈ lw_tbl := tb_in2 _ (List.mem_of_getElem? (i := 239) rfl)
set_option maxRecDepth 20000 in
theorem tw242 : (.selects RX2 yX2_addPupil yX2_addPupil : Cond) ∈ lw_tbl := tb_in3 _ (List.mem_of_getElem? (i := 0) rfl)
set_option maxRecDepth 20000 in
theorem tw243 : (.code yX4_pupil cX4_pupil 5 (some .int) : Cond) ∈ lw_tbl := tb_in2 _ (List.mem_of_getElem? (i := 234) rfl)
set_option maxRecDepth 20000 in
theorem tw244 : (.code yX4_isPupil cX4_isPupil 2 (some .boolean) : Cond) ∈ lw_tbl := tb_in2 _ (List.mem_of_getElem? (i := 141) rfl)
set_option maxRecDepth 20000 in
theorem tw245 : (.methodLink RX4 114 yX4_isPupil : Cond) ∈ lw_tbl := tb_in2 _ (List.mem_of_getElem? (i := 138) rfl)
set_option maxRecDepth 20000 in
theorem tw246 : (.instanceMethod yX4_isPupil : Cond) ∈ lw_tbl := tb_in2 _ (List.mem_of_getElem? (i := 140) rfl)
set_option maxRecDepth 20000 in
theorem tw247 : (.selects RX4 yX4_isPupil yX4_isPupil : Cond) ∈ lw_tbl := tb_in0 _ (List.mem_of_getElem? (i := 8) rfl)
set_option maxRecDepth 20000 in
theorem tw248 : (.methodLink RX4 117 yX2_writePupil : Cond) ∈ lw_tbl := tb_in3 _ (List.mem_of_getElem? (i := 10) rfl)
set_option maxRecDepth 20000 in
theorem tw249 : (.methodLink RX4 121 yX2_clashesOf : Cond) ∈ lw_tbl := tb_in2 _ (List.mem_of_getElem? (i := 210) rfl)
set_option maxRecDepth 20000 in
theorem tw250 : (.code yX4_change cX4_change 5 (some .int) : Cond) ∈ lw_tbl := tb_in3 _ (List.mem_of_getElem? (i := 9) rfl)
set_option maxRecDepth 20000 in
theorem tw251 : (.fieldLink RX4 125 "ExamHalls$School" "papers" "[I" : Cond) ∈ lw_tbl := tb_in1 _ (List.mem_of_getElem? (i := 37) rfl)
set_option maxRecDepth 20000 in
theorem tw252 : (.methodLink RX4 128 yX2_removePupil : Cond) ∈ lw_tbl := tb_in3 _ (List.mem_of_getElem? (i := 15) rfl)
set_option maxRecDepth 20000 in
theorem tw253 : (.instanceMethod yX2_removePupil : Cond) ∈ lw_tbl := tb_in3 _ (List.mem_of_getElem? (i := 16) rfl)
set_option maxRecDepth 20000 in
theorem tw254 : (.selects RX2 yX2_removePupil yX2_removePupil : Cond) ∈ lw_tbl := tb_in3 _ (List.mem_of_getElem? (i := 17) rfl)
set_option maxRecDepth 20000 in
theorem tw255 : (.code yX4_leave cX4_leave 3 (some .int) : Cond) ∈ lw_tbl := tb_in3 _ (List.mem_of_getElem? (i := 14) rfl)
set_option maxRecDepth 20000 in
theorem tw256 : (.code yX4_isHall cX4_isHall 1 (some .boolean) : Cond) ∈ lw_tbl := tb_in2 _ (List.mem_of_getElem? (i := 156) rfl)
set_option maxRecDepth 20000 in
theorem tw257 : (.fieldLink RX4 138 "ExamHalls$School" "rows" "[I" : Cond) ∈ lw_tbl := tb_in1 _ (List.mem_of_getElem? (i := 45) rfl)
set_option maxRecDepth 20000 in
theorem tw258 : (.fieldLink RX4 141 "ExamHalls$School" "columns" "[I" : Cond) ∈ lw_tbl := tb_in1 _ (List.mem_of_getElem? (i := 48) rfl)
set_option maxRecDepth 20000 in
theorem tw259 : (.methodLink RX4 132 yX4_isHall : Cond) ∈ lw_tbl := tb_in2 _ (List.mem_of_getElem? (i := 154) rfl)
set_option maxRecDepth 20000 in
theorem tw260 : (.static yX4_isHall : Cond) ∈ lw_tbl := tb_in2 _ (List.mem_of_getElem? (i := 155) rfl)
set_option maxRecDepth 20000 in
theorem tw261 : (.methodLink RX4 135 yX2_desksOf : Cond) ∈ lw_tbl := tb_in2 _ (List.mem_of_getElem? (i := 201) rfl)
set_option maxRecDepth 20000 in
theorem tw262 : (.code yX4_hall cX4_hall 5 (some .int) : Cond) ∈ lw_tbl := tb_in3 _ (List.mem_of_getElem? (i := 33) rfl)
set_option maxRecDepth 20000 in
theorem tw263 : (.fieldLink RX4 147 "ExamHalls$School" "openHalls" "I" : Cond) ∈ lw_tbl := tb_in1 _ (List.mem_of_getElem? (i := 53) rfl)
set_option maxRecDepth 20000 in
theorem tw264 : (.fieldLink RX4 150 "ExamHalls$Seating" "unplaced" "I" : Cond) ∈ lw_tbl := tb_in1 _ (List.mem_of_getElem? (i := 86) rfl)
set_option maxRecDepth 20000 in
theorem tw265 : (.methodLink RX4 144 yX2_isOpen : Cond) ∈ lw_tbl := tb_in2 _ (List.mem_of_getElem? (i := 157) rfl)
set_option maxRecDepth 20000 in
theorem tw266 : (.code yX4_open cX4_open 3 (some .int) : Cond) ∈ lw_tbl := tb_in3 _ (List.mem_of_getElem? (i := 37) rfl)
set_option maxRecDepth 20000 in
theorem tw267 : (.fieldLink RX4 153 "ExamHalls$School" "extras" "[I" : Cond) ∈ lw_tbl := tb_in1 _ (List.mem_of_getElem? (i := 39) rfl)
set_option maxRecDepth 20000 in
theorem tw268 : (.fieldLink RX4 156 "ExamHalls$School" "readers" "[Z" : Cond) ∈ lw_tbl := tb_in1 _ (List.mem_of_getElem? (i := 42) rfl)
set_option maxRecDepth 20000 in
theorem tw269 : (.methodLink RX4 159 yX3_unplacedPapersOf : Cond) ∈ lw_tbl := tb_in2 _ (List.mem_of_getElem? (i := 211) rfl)
set_option maxRecDepth 20000 in
theorem tw270 : (.instanceMethod yX3_unplacedPapersOf : Cond) ∈ lw_tbl := tb_in2 _ (List.mem_of_getElem? (i := 212) rfl)
set_option maxRecDepth 20000 in
theorem tw271 : (.selects RX3 yX3_unplacedPapersOf yX3_unplacedPapersOf : Cond) ∈ lw_tbl := tb_in2 _ (List.mem_of_getElem? (i := 213) rfl)
set_option maxRecDepth 20000 in
theorem tw272 : (.methodLink RX4 162 yX2_minutesOf : Cond) ∈ lw_tbl := tb_in2 _ (List.mem_of_getElem? (i := 215) rfl)
set_option maxRecDepth 20000 in
theorem tw273 : (.instanceMethod yX2_minutesOf : Cond) ∈ lw_tbl := tb_in2 _ (List.mem_of_getElem? (i := 216) rfl)
set_option maxRecDepth 20000 in
theorem tw274 : (.selects RX2 yX2_minutesOf yX2_minutesOf : Cond) ∈ lw_tbl := tb_in2 _ (List.mem_of_getElem? (i := 217) rfl)
set_option maxRecDepth 20000 in
theorem tw275 : (.code yX4_pupilOf cX4_pupilOf 3 (some .int) : Cond) ∈ lw_tbl := tb_in2 _ (List.mem_of_getElem? (i := 209) rfl)
set_option maxRecDepth 20000 in
theorem tw276 : (.methodLink RX4 165 yX2_pupilsOf : Cond) ∈ lw_tbl := tb_in2 _ (List.mem_of_getElem? (i := 180) rfl)
set_option maxRecDepth 20000 in
theorem tw277 : (.instanceMethod yX2_pupilsOf : Cond) ∈ lw_tbl := tb_in2 _ (List.mem_of_getElem? (i := 181) rfl)
set_option maxRecDepth 20000 in
theorem tw278 : (.selects RX2 yX2_pupilsOf yX2_pupilsOf : Cond) ∈ lw_tbl := tb_in2 _ (List.mem_of_getElem? (i := 182) rfl)
set_option maxRecDepth 20000 in
theorem tw279 : (.methodLink RX4 168 yX2_lastEndOf : Cond) ∈ lw_tbl := tb_in2 _ (List.mem_of_getElem? (i := 184) rfl)
set_option maxRecDepth 20000 in
theorem tw280 : (.methodLink RX4 171 yX3_unplacedOf : Cond) ∈ lw_tbl := tb_in2 _ (List.mem_of_getElem? (i := 185) rfl)
set_option maxRecDepth 20000 in
theorem tw281 : (.instanceMethod yX3_unplacedOf : Cond) ∈ lw_tbl := tb_in2 _ (List.mem_of_getElem? (i := 186) rfl)
set_option maxRecDepth 20000 in
theorem tw282 : (.selects RX3 yX3_unplacedOf yX3_unplacedOf : Cond) ∈ lw_tbl := tb_in2 _ (List.mem_of_getElem? (i := 187) rfl)
set_option maxRecDepth 20000 in
theorem tw283 : (.methodLink RX4 174 yX3_hallsOf : Cond) ∈ lw_tbl := tb_in2 _ (List.mem_of_getElem? (i := 193) rfl)
set_option maxRecDepth 20000 in
theorem tw284 : (.instanceMethod yX3_hallsOf : Cond) ∈ lw_tbl := tb_in2 _ (List.mem_of_getElem? (i := 194) rfl)
set_option maxRecDepth 20000 in
theorem tw285 : (.selects RX3 yX3_hallsOf yX3_hallsOf : Cond) ∈ lw_tbl := tb_in2 _ (List.mem_of_getElem? (i := 195) rfl)
set_option maxRecDepth 20000 in
theorem tw286 : (.code yX4_paperOf cX4_paperOf 3 (some .int) : Cond) ∈ lw_tbl := tb_in2 _ (List.mem_of_getElem? (i := 179) rfl)
set_option maxRecDepth 20000 in
theorem tw287 : (.fieldLink RX4 190 "ExamHalls$Seating" "halls" "[I" : Cond) ∈ lw_tbl := tb_in1 _ (List.mem_of_getElem? (i := 80) rfl)
set_option maxRecDepth 20000 in
theorem tw288 : (.fieldLink RX4 193 "ExamHalls$Seating" "desks" "[I" : Cond) ∈ lw_tbl := tb_in1 _ (List.mem_of_getElem? (i := 82) rfl)
set_option maxRecDepth 20000 in
theorem tw289 : (.fieldLink RX4 196 "ExamHalls$Seating" "rooms" "[I" : Cond) ∈ lw_tbl := tb_in1 _ (List.mem_of_getElem? (i := 84) rfl)
set_option maxRecDepth 20000 in
theorem tw290 : (.methodLink RX4 177 yX2_sits : Cond) ∈ lw_tbl := tb_in2 _ (List.mem_of_getElem? (i := 142) rfl)
set_option maxRecDepth 20000 in
theorem tw291 : (.methodLink RX4 180 yX4_sittingNumber : Cond) ∈ lw_tbl := tb_in2 _ (List.mem_of_getElem? (i := 143) rfl)
set_option maxRecDepth 20000 in
theorem tw292 : (.methodLink RX4 184 yX2_beginOf : Cond) ∈ lw_tbl := tb_in2 _ (List.mem_of_getElem? (i := 144) rfl)
set_option maxRecDepth 20000 in
theorem tw293 : (.methodLink RX4 187 yX2_endOf : Cond) ∈ lw_tbl := tb_in2 _ (List.mem_of_getElem? (i := 145) rfl)
set_option maxRecDepth 20000 in
theorem tw294 : (.methodLink RX4 199 yX2_clashingPapers : Cond) ∈ lw_tbl := tb_in2 _ (List.mem_of_getElem? (i := 146) rfl)
set_option maxRecDepth 20000 in
theorem tw295 : (.code yX4_sitting cX4_sitting 5 (some .int) : Cond) ∈ lw_tbl := tb_in2 _ (List.mem_of_getElem? (i := 137) rfl)
set_option maxRecDepth 20000 in
theorem tw296 : (.methodLink RX4 202 yX3_seatedIn : Cond) ∈ lw_tbl := tb_in2 _ (List.mem_of_getElem? (i := 158) rfl)
set_option maxRecDepth 20000 in
theorem tw297 : (.instanceMethod yX3_seatedIn : Cond) ∈ lw_tbl := tb_in2 _ (List.mem_of_getElem? (i := 159) rfl)
set_option maxRecDepth 20000 in
theorem tw298 : (.selects RX3 yX3_seatedIn yX3_seatedIn : Cond) ∈ lw_tbl := tb_in2 _ (List.mem_of_getElem? (i := 160) rfl)
set_option maxRecDepth 20000 in
theorem tw299 : (.methodLink RX4 205 yX3_mostTakenIn : Cond) ∈ lw_tbl := tb_in2 _ (List.mem_of_getElem? (i := 162) rfl)
set_option maxRecDepth 20000 in
theorem tw300 : (.instanceMethod yX3_mostTakenIn : Cond) ∈ lw_tbl := tb_in2 _ (List.mem_of_getElem? (i := 163) rfl)
set_option maxRecDepth 20000 in
theorem tw301 : (.selects RX3 yX3_mostTakenIn yX3_mostTakenIn : Cond) ∈ lw_tbl := tb_in2 _ (List.mem_of_getElem? (i := 164) rfl)
set_option maxRecDepth 20000 in
theorem tw302 : (.code yX4_hallOf cX4_hallOf 3 (some .int) : Cond) ∈ lw_tbl := tb_in2 _ (List.mem_of_getElem? (i := 153) rfl)
set_option maxRecDepth 20000 in
theorem tw303 : (.fieldLink RX4 111 "ExamHalls$Pad" "length" "I" : Cond) ∈ lw_tbl := tb_in1 _ (List.mem_of_getElem? (i := 119) rfl)
set_option maxRecDepth 20000 in
theorem tw304 : (.fieldLink RX4 223 "ExamHalls$History" "size" "I" : Cond) ∈ lw_tbl := tb_in1 _ (List.mem_of_getElem? (i := 160) rfl)
set_option maxRecDepth 20000 in
theorem tw305 : (.methodLink RX4 208 yX2_sittings : Cond) ∈ lw_tbl := tb_in2 _ (List.mem_of_getElem? (i := 17) rfl)
set_option maxRecDepth 20000 in
theorem tw306 : (.instanceMethod yX2_sittings : Cond) ∈ lw_tbl := tb_in2 _ (List.mem_of_getElem? (i := 18) rfl)
set_option maxRecDepth 20000 in
theorem tw307 : (.selects RX2 yX2_sittings yX2_sittings : Cond) ∈ lw_tbl := tb_in2 _ (List.mem_of_getElem? (i := 19) rfl)
set_option maxRecDepth 20000 in
theorem tw308 : (.methodLink RX4 211 yX2_clashes : Cond) ∈ lw_tbl := tb_in2 _ (List.mem_of_getElem? (i := 27) rfl)
set_option maxRecDepth 20000 in
theorem tw309 : (.instanceMethod yX2_clashes : Cond) ∈ lw_tbl := tb_in2 _ (List.mem_of_getElem? (i := 28) rfl)
set_option maxRecDepth 20000 in
theorem tw310 : (.selects RX2 yX2_clashes yX2_clashes : Cond) ∈ lw_tbl := tb_in2 _ (List.mem_of_getElem? (i := 29) rfl)
set_option maxRecDepth 20000 in
theorem tw311 : (.methodLink RX4 214 yX2_openDesks : Cond) ∈ lw_tbl := tb_in2 _ (List.mem_of_getElem? (i := 41) rfl)
set_option maxRecDepth 20000 in
theorem tw312 : (.instanceMethod yX2_openDesks : Cond) ∈ lw_tbl := tb_in2 _ (List.mem_of_getElem? (i := 42) rfl)
set_option maxRecDepth 20000 in
theorem tw313 : (.selects RX2 yX2_openDesks yX2_openDesks : Cond) ∈ lw_tbl := tb_in2 _ (List.mem_of_getElem? (i := 43) rfl)
set_option maxRecDepth 20000 in
theorem tw314 : (.methodLink RX4 217 yX2_mostReaders : Cond) ∈ lw_tbl := tb_in2 _ (List.mem_of_getElem? (i := 50) rfl)
set_option maxRecDepth 20000 in
theorem tw315 : (.instanceMethod yX2_mostReaders : Cond) ∈ lw_tbl := tb_in2 _ (List.mem_of_getElem? (i := 51) rfl)
set_option maxRecDepth 20000 in
theorem tw316 : (.selects RX2 yX2_mostReaders yX2_mostReaders : Cond) ∈ lw_tbl := tb_in2 _ (List.mem_of_getElem? (i := 52) rfl)
set_option maxRecDepth 20000 in
theorem tw317 : (.methodLink RX4 220 yX2_lastEnd : Cond) ∈ lw_tbl := tb_in2 _ (List.mem_of_getElem? (i := 65) rfl)
set_option maxRecDepth 20000 in
theorem tw318 : (.instanceMethod yX2_lastEnd : Cond) ∈ lw_tbl := tb_in2 _ (List.mem_of_getElem? (i := 66) rfl)
set_option maxRecDepth 20000 in
theorem tw319 : (.selects RX2 yX2_lastEnd yX2_lastEnd : Cond) ∈ lw_tbl := tb_in2 _ (List.mem_of_getElem? (i := 67) rfl)
set_option maxRecDepth 20000 in
theorem tw320 : (.code yX4_count cX4_count 2 (some .int) : Cond) ∈ lw_tbl := tb_in2 _ (List.mem_of_getElem? (i := 16) rfl)
set_option maxRecDepth 20000 in
theorem tw321 : (.methodLink RX4 226 yX3_sittingAt : Cond) ∈ lw_tbl := tb_in2 _ (List.mem_of_getElem? (i := 202) rfl)
set_option maxRecDepth 20000 in
theorem tw322 : (.instanceMethod yX3_sittingAt : Cond) ∈ lw_tbl := tb_in2 _ (List.mem_of_getElem? (i := 203) rfl)
set_option maxRecDepth 20000 in
theorem tw323 : (.selects RX3 yX3_sittingAt yX3_sittingAt : Cond) ∈ lw_tbl := tb_in2 _ (List.mem_of_getElem? (i := 204) rfl)
set_option maxRecDepth 20000 in
theorem tw324 : (.code yX4_at cX4_at 4 (some .int) : Cond) ∈ lw_tbl := tb_in2 _ (List.mem_of_getElem? (i := 200) rfl)
set_option maxRecDepth 20000 in
theorem tw325 : (.methodLink RX4 230 yX2_copyFrom : Cond) ∈ lw_tbl := tb_in2 _ (List.mem_of_getElem? (i := 83) rfl)
set_option maxRecDepth 20000 in
theorem tw326 : (.code yX4_ifStart cX4_ifStart 4 (some .int) : Cond) ∈ lw_tbl := tb_in3 _ (List.mem_of_getElem? (i := 22) rfl)
set_option maxRecDepth 20000 in
theorem tw327 : (.code yX4_bestStart cX4_bestStart 7 (some .int) : Cond) ∈ lw_tbl := tb_in2 _ (List.mem_of_getElem? (i := 76) rfl)
set_option maxRecDepth 20000 in
theorem tw328 : (.code yX4_bestHalls cX4_bestHalls 8 (some .int) : Cond) ∈ lw_tbl := tb_in2 _ (List.mem_of_getElem? (i := 90) rfl)
set_option maxRecDepth 20000 in
theorem tw329 : (.fieldLink RX4 233 "ExamHalls$Seating" "unplacedReaders" "I" : Cond) ∈ lw_tbl := tb_in1 _ (List.mem_of_getElem? (i := 88) rfl)
set_option maxRecDepth 20000 in
theorem tw330 : (.code yX4_leastRooms cX4_leastRooms 2 (some .int) : Cond) ∈ lw_tbl := tb_in2 _ (List.mem_of_getElem? (i := 94) rfl)
set_option maxRecDepth 20000 in
theorem tw331 : (.methodLink RX4 244 yX0_takeBack : Cond) ∈ lw_tbl := tb_in2 _ (List.mem_of_getElem? (i := 99) rfl)
set_option maxRecDepth 20000 in
theorem tw332 : (.instanceMethod yX0_takeBack : Cond) ∈ lw_tbl := tb_in2 _ (List.mem_of_getElem? (i := 100) rfl)
set_option maxRecDepth 20000 in
theorem tw333 : (.selects RX0 yX0_takeBack yX0_takeBack : Cond) ∈ lw_tbl := tb_in2 _ (List.mem_of_getElem? (i := 101) rfl)
set_option maxRecDepth 20000 in
theorem tw334 : (.code yX4_undo cX4_undo 1 (some .int) : Cond) ∈ lw_tbl := tb_in2 _ (List.mem_of_getElem? (i := 98) rfl)
set_option maxRecDepth 20000 in
theorem tw335 : (.code yX4_isSlot cX4_isSlot 1 (some .boolean) : Cond) ∈ lw_tbl := tb_in2 _ (List.mem_of_getElem? (i := 110) rfl)
set_option maxRecDepth 20000 in
theorem tw336 : (.methodLink RX4 247 yX4_isSlot : Cond) ∈ lw_tbl := tb_in2 _ (List.mem_of_getElem? (i := 108) rfl)
set_option maxRecDepth 20000 in
theorem tw337 : (.static yX4_isSlot : Cond) ∈ lw_tbl := tb_in2 _ (List.mem_of_getElem? (i := 109) rfl)
set_option maxRecDepth 20000 in
theorem tw338 : (.code yX4_save cX4_save 2 (some .int) : Cond) ∈ lw_tbl := tb_in2 _ (List.mem_of_getElem? (i := 107) rfl)
set_option maxRecDepth 20000 in
theorem tw339 : (.code yX4_restore cX4_restore 2 (some .int) : Cond) ∈ lw_tbl := tb_in2 _ (List.mem_of_getElem? (i := 114) rfl)
set_option maxRecDepth 20000 in
theorem tw340 : (.code yJ9_max_7cf53 cJ9_max_7cf53 2 (some .int) : Cond) ∈ lw_tbl := tb_in2 _ (List.mem_of_getElem? (i := 64) rfl)
set_option maxRecDepth 20000 in
theorem tw341 : (.code yL_cell cL_cell 2 (some .int) : Cond) ∈ lw_tbl := tb_in2 _ (List.mem_of_getElem? (i := 125) rfl)
set_option maxRecDepth 20000 in
theorem tw342 : (.constant RL 7 (15485959) : Cond) ∈ lw_tbl := tb_in2 _ (List.mem_of_getElem? (i := 126) rfl)
set_option maxRecDepth 20000 in
theorem tw343 : (.constant RL 8 (2147483647) : Cond) ∈ lw_tbl := tb_in2 _ (List.mem_of_getElem? (i := 127) rfl)
set_option maxRecDepth 20000 in
theorem tw344 : (.code yL_bits cL_bits 3 (some .int) : Cond) ∈ lw_tbl := tb_in2 _ (List.mem_of_getElem? (i := 227) rfl)
set_option maxRecDepth 20000 in
theorem tw345 : (.methodLink RL 9 yX4_sitting : Cond) ∈ lw_tbl := tb_in2 _ (List.mem_of_getElem? (i := 134) rfl)
set_option maxRecDepth 20000 in
theorem tw346 : (.instanceMethod yX4_sitting : Cond) ∈ lw_tbl := tb_in2 _ (List.mem_of_getElem? (i := 135) rfl)
set_option maxRecDepth 20000 in
theorem tw347 : (.selects RX4 yX4_sitting yX4_sitting : Cond) ∈ lw_tbl := tb_in2 _ (List.mem_of_getElem? (i := 136) rfl)
set_option maxRecDepth 20000 in
theorem tw348 : (.code yL_place cL_place 4 (some .int) : Cond) ∈ lw_tbl := tb_in2 _ (List.mem_of_getElem? (i := 133) rfl)
set_option maxRecDepth 20000 in
theorem tw349 : (.code yL_at cL_at 3 (some .int) : Cond) ∈ lw_tbl := tb_in2 _ (List.mem_of_getElem? (i := 221) rfl)
set_option maxRecDepth 20000 in
theorem tw350 : (.methodLink RL 15 yX4_hallOf : Cond) ∈ lw_tbl := tb_in2 _ (List.mem_of_getElem? (i := 150) rfl)
set_option maxRecDepth 20000 in
theorem tw351 : (.instanceMethod yX4_hallOf : Cond) ∈ lw_tbl := tb_in2 _ (List.mem_of_getElem? (i := 151) rfl)
set_option maxRecDepth 20000 in
theorem tw352 : (.selects RX4 yX4_hallOf yX4_hallOf : Cond) ∈ lw_tbl := tb_in2 _ (List.mem_of_getElem? (i := 152) rfl)
set_option maxRecDepth 20000 in
theorem tw353 : (.methodLink RL 19 yX4_paperOf : Cond) ∈ lw_tbl := tb_in2 _ (List.mem_of_getElem? (i := 176) rfl)
set_option maxRecDepth 20000 in
theorem tw354 : (.instanceMethod yX4_paperOf : Cond) ∈ lw_tbl := tb_in2 _ (List.mem_of_getElem? (i := 177) rfl)
set_option maxRecDepth 20000 in
theorem tw355 : (.selects RX4 yX4_paperOf yX4_paperOf : Cond) ∈ lw_tbl := tb_in2 _ (List.mem_of_getElem? (i := 178) rfl)
set_option maxRecDepth 20000 in
theorem tw356 : (.methodLink RL 22 yX4_at : Cond) ∈ lw_tbl := tb_in2 _ (List.mem_of_getElem? (i := 197) rfl)
set_option maxRecDepth 20000 in
theorem tw357 : (.instanceMethod yX4_at : Cond) ∈ lw_tbl := tb_in2 _ (List.mem_of_getElem? (i := 198) rfl)
set_option maxRecDepth 20000 in
theorem tw358 : (.selects RX4 yX4_at yX4_at : Cond) ∈ lw_tbl := tb_in2 _ (List.mem_of_getElem? (i := 199) rfl)
set_option maxRecDepth 20000 in
theorem tw359 : (.methodLink RL 25 yX4_pupilOf : Cond) ∈ lw_tbl := tb_in2 _ (List.mem_of_getElem? (i := 206) rfl)
set_option maxRecDepth 20000 in
theorem tw360 : (.instanceMethod yX4_pupilOf : Cond) ∈ lw_tbl := tb_in2 _ (List.mem_of_getElem? (i := 207) rfl)
set_option maxRecDepth 20000 in
theorem tw361 : (.selects RX4 yX4_pupilOf yX4_pupilOf : Cond) ∈ lw_tbl := tb_in2 _ (List.mem_of_getElem? (i := 208) rfl)
set_option maxRecDepth 20000 in
theorem tw362 : (.methodLink RL 28 yX4_count : Cond) ∈ lw_tbl := tb_in2 _ (List.mem_of_getElem? (i := 13) rfl)
set_option maxRecDepth 20000 in
theorem tw363 : (.instanceMethod yX4_count : Cond) ∈ lw_tbl := tb_in2 _ (List.mem_of_getElem? (i := 14) rfl)
set_option maxRecDepth 20000 in
theorem tw364 : (.selects RX4 yX4_count yX4_count : Cond) ∈ lw_tbl := tb_in2 _ (List.mem_of_getElem? (i := 15) rfl)
set_option maxRecDepth 20000 in
theorem tw365 : (.code yL_isSitting cL_isSitting 5 (some .boolean) : Cond) ∈ lw_tbl := tb_in2 _ (List.mem_of_getElem? (i := 149) rfl)
set_option maxRecDepth 20000 in
theorem tw366 : (.methodLink RL 32 yL_place : Cond) ∈ lw_tbl := tb_in2 _ (List.mem_of_getElem? (i := 131) rfl)
set_option maxRecDepth 20000 in
theorem tw367 : (.static yL_place : Cond) ∈ lw_tbl := tb_in2 _ (List.mem_of_getElem? (i := 132) rfl)
set_option maxRecDepth 20000 in
theorem tw368 : (.initialized RL : Cond) ∈ lw_tbl := tb_in1 _ (List.mem_of_getElem? (i := 0) rfl)
set_option maxRecDepth 20000 in
theorem tw369 : (.methodLink RL 38 yL_isSitting : Cond) ∈ lw_tbl := tb_in2 _ (List.mem_of_getElem? (i := 147) rfl)
set_option maxRecDepth 20000 in
theorem tw370 : (.static yL_isSitting : Cond) ∈ lw_tbl := tb_in2 _ (List.mem_of_getElem? (i := 148) rfl)
set_option maxRecDepth 20000 in
theorem tw371 : (.methodLink RL 42 yL_at : Cond) ∈ lw_tbl := tb_in2 _ (List.mem_of_getElem? (i := 219) rfl)
set_option maxRecDepth 20000 in
theorem tw372 : (.static yL_at : Cond) ∈ lw_tbl := tb_in2 _ (List.mem_of_getElem? (i := 220) rfl)
set_option maxRecDepth 20000 in
theorem tw373 : (.code yL_areSeated cL_areSeated 16 (some .boolean) : Cond) ∈ lw_tbl := tb_in2 _ (List.mem_of_getElem? (i := 130) rfl)
set_option maxRecDepth 20000 in
theorem tw374 : (.methodLink RL 45 yL_bits : Cond) ∈ lw_tbl := tb_in2 _ (List.mem_of_getElem? (i := 225) rfl)
set_option maxRecDepth 20000 in
theorem tw375 : (.static yL_bits : Cond) ∈ lw_tbl := tb_in2 _ (List.mem_of_getElem? (i := 226) rfl)
set_option maxRecDepth 20000 in
theorem tw376 : (.code yL_areSums cL_areSums 15 (some .boolean) : Cond) ∈ lw_tbl := tb_in2 _ (List.mem_of_getElem? (i := 224) rfl)
set_option maxRecDepth 20000 in
theorem tw377 : (.methodLink RL 48 yX4_pupil : Cond) ∈ lw_tbl := tb_in2 _ (List.mem_of_getElem? (i := 231) rfl)
set_option maxRecDepth 20000 in
theorem tw378 : (.instanceMethod yX4_pupil : Cond) ∈ lw_tbl := tb_in2 _ (List.mem_of_getElem? (i := 232) rfl)
set_option maxRecDepth 20000 in
theorem tw379 : (.selects RX4 yX4_pupil yX4_pupil : Cond) ∈ lw_tbl := tb_in2 _ (List.mem_of_getElem? (i := 233) rfl)
set_option maxRecDepth 20000 in
theorem tw380 : (.methodLink RL 52 yX4_change : Cond) ∈ lw_tbl := tb_in3 _ (List.mem_of_getElem? (i := 6) rfl)
set_option maxRecDepth 20000 in
theorem tw381 : (.instanceMethod yX4_change : Cond) ∈ lw_tbl := tb_in3 _ (List.mem_of_getElem? (i := 7) rfl)
set_option maxRecDepth 20000 in
theorem tw382 : (.selects RX4 yX4_change yX4_change : Cond) ∈ lw_tbl := tb_in3 _ (List.mem_of_getElem? (i := 8) rfl)
set_option maxRecDepth 20000 in
theorem tw383 : (.methodLink RL 56 yX4_leave : Cond) ∈ lw_tbl := tb_in3 _ (List.mem_of_getElem? (i := 11) rfl)
set_option maxRecDepth 20000 in
theorem tw384 : (.instanceMethod yX4_leave : Cond) ∈ lw_tbl := tb_in3 _ (List.mem_of_getElem? (i := 12) rfl)
set_option maxRecDepth 20000 in
theorem tw385 : (.selects RX4 yX4_leave yX4_leave : Cond) ∈ lw_tbl := tb_in3 _ (List.mem_of_getElem? (i := 13) rfl)
set_option maxRecDepth 20000 in
theorem tw386 : (.methodLink RL 59 yX4_ifStart : Cond) ∈ lw_tbl := tb_in3 _ (List.mem_of_getElem? (i := 19) rfl)
set_option maxRecDepth 20000 in
theorem tw387 : (.instanceMethod yX4_ifStart : Cond) ∈ lw_tbl := tb_in3 _ (List.mem_of_getElem? (i := 20) rfl)
set_option maxRecDepth 20000 in
theorem tw388 : (.selects RX4 yX4_ifStart yX4_ifStart : Cond) ∈ lw_tbl := tb_in3 _ (List.mem_of_getElem? (i := 21) rfl)
set_option maxRecDepth 20000 in
theorem tw389 : (.methodLink RL 62 yX4_paper : Cond) ∈ lw_tbl := tb_in3 _ (List.mem_of_getElem? (i := 26) rfl)
set_option maxRecDepth 20000 in
theorem tw390 : (.instanceMethod yX4_paper : Cond) ∈ lw_tbl := tb_in3 _ (List.mem_of_getElem? (i := 27) rfl)
set_option maxRecDepth 20000 in
theorem tw391 : (.selects RX4 yX4_paper yX4_paper : Cond) ∈ lw_tbl := tb_in3 _ (List.mem_of_getElem? (i := 28) rfl)
set_option maxRecDepth 20000 in
theorem tw392 : (.methodLink RL 65 yX4_hall : Cond) ∈ lw_tbl := tb_in3 _ (List.mem_of_getElem? (i := 30) rfl)
set_option maxRecDepth 20000 in
theorem tw393 : (.instanceMethod yX4_hall : Cond) ∈ lw_tbl := tb_in3 _ (List.mem_of_getElem? (i := 31) rfl)
set_option maxRecDepth 20000 in
theorem tw394 : (.selects RX4 yX4_hall yX4_hall : Cond) ∈ lw_tbl := tb_in3 _ (List.mem_of_getElem? (i := 32) rfl)
set_option maxRecDepth 20000 in
theorem tw395 : (.methodLink RL 68 yX4_open : Cond) ∈ lw_tbl := tb_in3 _ (List.mem_of_getElem? (i := 34) rfl)
set_option maxRecDepth 20000 in
theorem tw396 : (.instanceMethod yX4_open : Cond) ∈ lw_tbl := tb_in3 _ (List.mem_of_getElem? (i := 35) rfl)
set_option maxRecDepth 20000 in
theorem tw397 : (.selects RX4 yX4_open yX4_open : Cond) ∈ lw_tbl := tb_in3 _ (List.mem_of_getElem? (i := 36) rfl)
set_option maxRecDepth 20000 in
theorem tw398 : (.methodLink RL 72 yX4_set : Cond) ∈ lw_tbl := tb_in3 _ (List.mem_of_getElem? (i := 38) rfl)
set_option maxRecDepth 20000 in
theorem tw399 : (.instanceMethod yX4_set : Cond) ∈ lw_tbl := tb_in3 _ (List.mem_of_getElem? (i := 39) rfl)
set_option maxRecDepth 20000 in
theorem tw400 : (.selects RX4 yX4_set yX4_set : Cond) ∈ lw_tbl := tb_in3 _ (List.mem_of_getElem? (i := 40) rfl)
set_option maxRecDepth 20000 in
theorem tw401 : (.code yL_acts cL_acts 27 (some .boolean) : Cond) ∈ lw_tbl := tb_in2 _ (List.mem_of_getElem? (i := 230) rfl)
set_option maxRecDepth 20000 in
theorem tw402 : (.methodLink RL 75 yX4_bestHalls : Cond) ∈ lw_tbl := tb_in2 _ (List.mem_of_getElem? (i := 87) rfl)
set_option maxRecDepth 20000 in
theorem tw403 : (.instanceMethod yX4_bestHalls : Cond) ∈ lw_tbl := tb_in2 _ (List.mem_of_getElem? (i := 88) rfl)
set_option maxRecDepth 20000 in
theorem tw404 : (.selects RX4 yX4_bestHalls yX4_bestHalls : Cond) ∈ lw_tbl := tb_in2 _ (List.mem_of_getElem? (i := 89) rfl)
set_option maxRecDepth 20000 in
theorem tw405 : (.methodLink RL 78 yX4_leastRooms : Cond) ∈ lw_tbl := tb_in2 _ (List.mem_of_getElem? (i := 91) rfl)
set_option maxRecDepth 20000 in
theorem tw406 : (.instanceMethod yX4_leastRooms : Cond) ∈ lw_tbl := tb_in2 _ (List.mem_of_getElem? (i := 92) rfl)
set_option maxRecDepth 20000 in
theorem tw407 : (.selects RX4 yX4_leastRooms yX4_leastRooms : Cond) ∈ lw_tbl := tb_in2 _ (List.mem_of_getElem? (i := 93) rfl)
set_option maxRecDepth 20000 in
theorem tw408 : (.code yL_areBest cL_areBest 7 (some .boolean) : Cond) ∈ lw_tbl := tb_in3 _ (List.mem_of_getElem? (i := 46) rfl)
set_option maxRecDepth 20000 in
theorem tw409 : (.classLink RL 10 RX4 : Cond) ∈ lw_tbl := tb_in1 _ (List.mem_of_getElem? (i := 8) rfl)
set_option maxRecDepth 20000 in
theorem tw410 : (.instantiable RX4 8 : Cond) ∈ lw_tbl := tb_in1 _ (List.mem_of_getElem? (i := 9) rfl)
set_option maxRecDepth 20000 in
theorem tw411 : (.methodLink RL 82 yX4_init : Cond) ∈ lw_tbl := tb_in1 _ (List.mem_of_getElem? (i := 10) rfl)
set_option maxRecDepth 20000 in
theorem tw412 : (.instanceMethod yX4_init : Cond) ∈ lw_tbl := tb_in1 _ (List.mem_of_getElem? (i := 11) rfl)
set_option maxRecDepth 20000 in
theorem tw413 : (.methodLink RL 83 yX4_undo : Cond) ∈ lw_tbl := tb_in2 _ (List.mem_of_getElem? (i := 95) rfl)
set_option maxRecDepth 20000 in
theorem tw414 : (.instanceMethod yX4_undo : Cond) ∈ lw_tbl := tb_in2 _ (List.mem_of_getElem? (i := 96) rfl)
set_option maxRecDepth 20000 in
theorem tw415 : (.selects RX4 yX4_undo yX4_undo : Cond) ∈ lw_tbl := tb_in2 _ (List.mem_of_getElem? (i := 97) rfl)
set_option maxRecDepth 20000 in
theorem tw416 : (.methodLink RL 86 yX4_restore : Cond) ∈ lw_tbl := tb_in2 _ (List.mem_of_getElem? (i := 111) rfl)
set_option maxRecDepth 20000 in
theorem tw417 : (.instanceMethod yX4_restore : Cond) ∈ lw_tbl := tb_in2 _ (List.mem_of_getElem? (i := 112) rfl)
set_option maxRecDepth 20000 in
theorem tw418 : (.selects RX4 yX4_restore yX4_restore : Cond) ∈ lw_tbl := tb_in2 _ (List.mem_of_getElem? (i := 113) rfl)
set_option maxRecDepth 20000 in
theorem tw419 : (.methodLink RL 89 yX4_bestStart : Cond) ∈ lw_tbl := tb_in2 _ (List.mem_of_getElem? (i := 73) rfl)
set_option maxRecDepth 20000 in
theorem tw420 : (.instanceMethod yX4_bestStart : Cond) ∈ lw_tbl := tb_in2 _ (List.mem_of_getElem? (i := 74) rfl)
set_option maxRecDepth 20000 in
theorem tw421 : (.selects RX4 yX4_bestStart yX4_bestStart : Cond) ∈ lw_tbl := tb_in2 _ (List.mem_of_getElem? (i := 75) rfl)
set_option maxRecDepth 20000 in
theorem tw422 : (.methodLink RL 92 yL_cell : Cond) ∈ lw_tbl := tb_in2 _ (List.mem_of_getElem? (i := 123) rfl)
set_option maxRecDepth 20000 in
theorem tw423 : (.static yL_cell : Cond) ∈ lw_tbl := tb_in2 _ (List.mem_of_getElem? (i := 124) rfl)
set_option maxRecDepth 20000 in
theorem tw424 : (.methodLink RL 96 yL_acts : Cond) ∈ lw_tbl := tb_in2 _ (List.mem_of_getElem? (i := 228) rfl)
set_option maxRecDepth 20000 in
theorem tw425 : (.static yL_acts : Cond) ∈ lw_tbl := tb_in2 _ (List.mem_of_getElem? (i := 229) rfl)
set_option maxRecDepth 20000 in
theorem tw426 : (.methodLink RL 100 yL_areSeated : Cond) ∈ lw_tbl := tb_in2 _ (List.mem_of_getElem? (i := 128) rfl)
set_option maxRecDepth 20000 in
theorem tw427 : (.static yL_areSeated : Cond) ∈ lw_tbl := tb_in2 _ (List.mem_of_getElem? (i := 129) rfl)
set_option maxRecDepth 20000 in
theorem tw428 : (.methodLink RL 104 yL_areSums : Cond) ∈ lw_tbl := tb_in2 _ (List.mem_of_getElem? (i := 222) rfl)
set_option maxRecDepth 20000 in
theorem tw429 : (.static yL_areSums : Cond) ∈ lw_tbl := tb_in2 _ (List.mem_of_getElem? (i := 223) rfl)
set_option maxRecDepth 20000 in
theorem tw430 : (.methodLink RL 107 yX4_save : Cond) ∈ lw_tbl := tb_in2 _ (List.mem_of_getElem? (i := 104) rfl)
set_option maxRecDepth 20000 in
theorem tw431 : (.instanceMethod yX4_save : Cond) ∈ lw_tbl := tb_in2 _ (List.mem_of_getElem? (i := 105) rfl)
set_option maxRecDepth 20000 in
theorem tw432 : (.selects RX4 yX4_save yX4_save : Cond) ∈ lw_tbl := tb_in2 _ (List.mem_of_getElem? (i := 106) rfl)
set_option maxRecDepth 20000 in
theorem tw433 : (.methodLink RL 110 yL_areBest : Cond) ∈ lw_tbl := tb_in3 _ (List.mem_of_getElem? (i := 44) rfl)
set_option maxRecDepth 20000 in
theorem tw434 : (.static yL_areBest : Cond) ∈ lw_tbl := tb_in3 _ (List.mem_of_getElem? (i := 45) rfl)
theorem tbc0 : ∀ w ∈ TB0, w ∈ lw_tbl := List.forall_mem_cons.mpr ⟨tw0, List.forall_mem_cons.mpr ⟨tw1, List.forall_mem_cons.mpr ⟨tw2, List.forall_mem_cons.mpr ⟨tw3, List.forall_mem_cons.mpr ⟨tw4, List.forall_mem_cons.mpr ⟨tw5, List.forall_mem_cons.mpr ⟨tw6, List.forall_mem_cons.mpr ⟨tw7, List.forall_mem_cons.mpr ⟨tw8, List.forall_mem_cons.mpr ⟨tw9, List.forall_mem_cons.mpr ⟨tw10, List.forall_mem_cons.mpr ⟨tw11, List.forall_mem_cons.mpr ⟨tw12, List.forall_mem_cons.mpr ⟨tw13, List.forall_mem_cons.mpr ⟨tw14, List.forall_mem_cons.mpr ⟨tw15, List.forall_mem_cons.mpr ⟨tw16, List.forall_mem_cons.mpr ⟨tw17, List.forall_mem_cons.mpr ⟨tw18, List.forall_mem_cons.mpr ⟨tw19, List.forall_mem_cons.mpr ⟨tw20, List.forall_mem_cons.mpr ⟨tw21, List.forall_mem_cons.mpr ⟨tw22, List.forall_mem_cons.mpr ⟨tw23, List.forall_mem_cons.mpr ⟨tw24, List.forall_mem_cons.mpr ⟨tw25, List.forall_mem_cons.mpr ⟨tw26, List.forall_mem_cons.mpr ⟨tw27, List.forall_mem_cons.mpr ⟨tw28, List.forall_mem_cons.mpr ⟨tw29, List.forall_mem_cons.mpr ⟨tw30, List.forall_mem_cons.mpr ⟨tw31, List.forall_mem_cons.mpr ⟨tw32, List.forall_mem_cons.mpr ⟨tw33, List.forall_mem_cons.mpr ⟨tw34, List.forall_mem_cons.mpr ⟨tw35, List.forall_mem_cons.mpr ⟨tw36, List.forall_mem_cons.mpr ⟨tw37, List.forall_mem_cons.mpr ⟨tw38, List.forall_mem_cons.mpr ⟨tw39, (fun _ h => absurd h List.not_mem_nil)⟩⟩⟩⟩⟩⟩⟩⟩⟩⟩⟩⟩⟩⟩⟩⟩⟩⟩⟩⟩⟩⟩⟩⟩⟩⟩⟩⟩⟩⟩⟩⟩⟩⟩⟩⟩⟩⟩⟩⟩
theorem tbc1 : ∀ w ∈ TB1, w ∈ lw_tbl := List.forall_mem_cons.mpr ⟨tw40, List.forall_mem_cons.mpr ⟨tw41, List.forall_mem_cons.mpr ⟨tw42, List.forall_mem_cons.mpr ⟨tw43, List.forall_mem_cons.mpr ⟨tw44, List.forall_mem_cons.mpr ⟨tw45, List.forall_mem_cons.mpr ⟨tw46, List.forall_mem_cons.mpr ⟨tw47, List.forall_mem_cons.mpr ⟨tw48, List.forall_mem_cons.mpr ⟨tw49, List.forall_mem_cons.mpr ⟨tw50, List.forall_mem_cons.mpr ⟨tw51, List.forall_mem_cons.mpr ⟨tw52, List.forall_mem_cons.mpr ⟨tw53, List.forall_mem_cons.mpr ⟨tw54, List.forall_mem_cons.mpr ⟨tw55, List.forall_mem_cons.mpr ⟨tw56, List.forall_mem_cons.mpr ⟨tw57, List.forall_mem_cons.mpr ⟨tw58, List.forall_mem_cons.mpr ⟨tw59, List.forall_mem_cons.mpr ⟨tw60, List.forall_mem_cons.mpr ⟨tw61, List.forall_mem_cons.mpr ⟨tw62, List.forall_mem_cons.mpr ⟨tw63, List.forall_mem_cons.mpr ⟨tw64, List.forall_mem_cons.mpr ⟨tw65, List.forall_mem_cons.mpr ⟨tw66, List.forall_mem_cons.mpr ⟨tw67, List.forall_mem_cons.mpr ⟨tw68, List.forall_mem_cons.mpr ⟨tw69, List.forall_mem_cons.mpr ⟨tw70, List.forall_mem_cons.mpr ⟨tw71, List.forall_mem_cons.mpr ⟨tw72, List.forall_mem_cons.mpr ⟨tw73, List.forall_mem_cons.mpr ⟨tw74, List.forall_mem_cons.mpr ⟨tw75, List.forall_mem_cons.mpr ⟨tw76, List.forall_mem_cons.mpr ⟨tw77, List.forall_mem_cons.mpr ⟨tw78, List.forall_mem_cons.mpr ⟨tw79, (fun _ h => absurd h List.not_mem_nil)⟩⟩⟩⟩⟩⟩⟩⟩⟩⟩⟩⟩⟩⟩⟩⟩⟩⟩⟩⟩⟩⟩⟩⟩⟩⟩⟩⟩⟩⟩⟩⟩⟩⟩⟩⟩⟩⟩⟩⟩
theorem tbc2 : ∀ w ∈ TB2, w ∈ lw_tbl := List.forall_mem_cons.mpr ⟨tw80, List.forall_mem_cons.mpr ⟨tw81, List.forall_mem_cons.mpr ⟨tw82, List.forall_mem_cons.mpr ⟨tw83, List.forall_mem_cons.mpr ⟨tw84, List.forall_mem_cons.mpr ⟨tw85, List.forall_mem_cons.mpr ⟨tw86, List.forall_mem_cons.mpr ⟨tw87, List.forall_mem_cons.mpr ⟨tw88, List.forall_mem_cons.mpr ⟨tw89, List.forall_mem_cons.mpr ⟨tw90, List.forall_mem_cons.mpr ⟨tw91, List.forall_mem_cons.mpr ⟨tw92, List.forall_mem_cons.mpr ⟨tw93, List.forall_mem_cons.mpr ⟨tw94, List.forall_mem_cons.mpr ⟨tw95, List.forall_mem_cons.mpr ⟨tw96, List.forall_mem_cons.mpr ⟨tw97, List.forall_mem_cons.mpr ⟨tw98, List.forall_mem_cons.mpr ⟨tw99, List.forall_mem_cons.mpr ⟨tw100, List.forall_mem_cons.mpr ⟨tw101, List.forall_mem_cons.mpr ⟨tw102, List.forall_mem_cons.mpr ⟨tw103, List.forall_mem_cons.mpr ⟨tw104, List.forall_mem_cons.mpr ⟨tw105, List.forall_mem_cons.mpr ⟨tw106, List.forall_mem_cons.mpr ⟨tw107, List.forall_mem_cons.mpr ⟨tw108, List.forall_mem_cons.mpr ⟨tw109, List.forall_mem_cons.mpr ⟨tw110, List.forall_mem_cons.mpr ⟨tw111, List.forall_mem_cons.mpr ⟨tw112, List.forall_mem_cons.mpr ⟨tw113, List.forall_mem_cons.mpr ⟨tw114, List.forall_mem_cons.mpr ⟨tw115, List.forall_mem_cons.mpr ⟨tw116, List.forall_mem_cons.mpr ⟨tw117, List.forall_mem_cons.mpr ⟨tw118, List.forall_mem_cons.mpr ⟨tw119, (fun _ h => absurd h List.not_mem_nil)⟩⟩⟩⟩⟩⟩⟩⟩⟩⟩⟩⟩⟩⟩⟩⟩⟩⟩⟩⟩⟩⟩⟩⟩⟩⟩⟩⟩⟩⟩⟩⟩⟩⟩⟩⟩⟩⟩⟩⟩
theorem tbc3 : ∀ w ∈ TB3, w ∈ lw_tbl := List.forall_mem_cons.mpr ⟨tw120, List.forall_mem_cons.mpr ⟨tw121, List.forall_mem_cons.mpr ⟨tw122, List.forall_mem_cons.mpr ⟨tw123, List.forall_mem_cons.mpr ⟨tw124, List.forall_mem_cons.mpr ⟨tw125, List.forall_mem_cons.mpr ⟨tw126, List.forall_mem_cons.mpr ⟨tw127, List.forall_mem_cons.mpr ⟨tw128, List.forall_mem_cons.mpr ⟨tw129, List.forall_mem_cons.mpr ⟨tw130, List.forall_mem_cons.mpr ⟨tw131, List.forall_mem_cons.mpr ⟨tw132, List.forall_mem_cons.mpr ⟨tw133, List.forall_mem_cons.mpr ⟨tw134, List.forall_mem_cons.mpr ⟨tw135, List.forall_mem_cons.mpr ⟨tw136, List.forall_mem_cons.mpr ⟨tw137, List.forall_mem_cons.mpr ⟨tw138, List.forall_mem_cons.mpr ⟨tw139, List.forall_mem_cons.mpr ⟨tw140, List.forall_mem_cons.mpr ⟨tw141, List.forall_mem_cons.mpr ⟨tw142, List.forall_mem_cons.mpr ⟨tw143, List.forall_mem_cons.mpr ⟨tw144, List.forall_mem_cons.mpr ⟨tw145, List.forall_mem_cons.mpr ⟨tw146, List.forall_mem_cons.mpr ⟨tw147, List.forall_mem_cons.mpr ⟨tw148, List.forall_mem_cons.mpr ⟨tw149, List.forall_mem_cons.mpr ⟨tw150, List.forall_mem_cons.mpr ⟨tw151, List.forall_mem_cons.mpr ⟨tw152, List.forall_mem_cons.mpr ⟨tw153, List.forall_mem_cons.mpr ⟨tw154, List.forall_mem_cons.mpr ⟨tw155, List.forall_mem_cons.mpr ⟨tw156, List.forall_mem_cons.mpr ⟨tw157, List.forall_mem_cons.mpr ⟨tw158, List.forall_mem_cons.mpr ⟨tw159, (fun _ h => absurd h List.not_mem_nil)⟩⟩⟩⟩⟩⟩⟩⟩⟩⟩⟩⟩⟩⟩⟩⟩⟩⟩⟩⟩⟩⟩⟩⟩⟩⟩⟩⟩⟩⟩⟩⟩⟩⟩⟩⟩⟩⟩⟩⟩
theorem tbc4 : ∀ w ∈ TB4, w ∈ lw_tbl := List.forall_mem_cons.mpr ⟨tw160, List.forall_mem_cons.mpr ⟨tw161, List.forall_mem_cons.mpr ⟨tw162, List.forall_mem_cons.mpr ⟨tw163, List.forall_mem_cons.mpr ⟨tw164, List.forall_mem_cons.mpr ⟨tw165, List.forall_mem_cons.mpr ⟨tw166, List.forall_mem_cons.mpr ⟨tw167, List.forall_mem_cons.mpr ⟨tw168, List.forall_mem_cons.mpr ⟨tw169, List.forall_mem_cons.mpr ⟨tw170, List.forall_mem_cons.mpr ⟨tw171, List.forall_mem_cons.mpr ⟨tw172, List.forall_mem_cons.mpr ⟨tw173, List.forall_mem_cons.mpr ⟨tw174, List.forall_mem_cons.mpr ⟨tw175, List.forall_mem_cons.mpr ⟨tw176, List.forall_mem_cons.mpr ⟨tw177, List.forall_mem_cons.mpr ⟨tw178, List.forall_mem_cons.mpr ⟨tw179, List.forall_mem_cons.mpr ⟨tw180, List.forall_mem_cons.mpr ⟨tw181, List.forall_mem_cons.mpr ⟨tw182, List.forall_mem_cons.mpr ⟨tw183, List.forall_mem_cons.mpr ⟨tw184, List.forall_mem_cons.mpr ⟨tw185, List.forall_mem_cons.mpr ⟨tw186, List.forall_mem_cons.mpr ⟨tw187, List.forall_mem_cons.mpr ⟨tw188, List.forall_mem_cons.mpr ⟨tw189, List.forall_mem_cons.mpr ⟨tw190, List.forall_mem_cons.mpr ⟨tw191, List.forall_mem_cons.mpr ⟨tw192, List.forall_mem_cons.mpr ⟨tw193, List.forall_mem_cons.mpr ⟨tw194, List.forall_mem_cons.mpr ⟨tw195, List.forall_mem_cons.mpr ⟨tw196, List.forall_mem_cons.mpr ⟨tw197, List.forall_mem_cons.mpr ⟨tw198, List.forall_mem_cons.mpr ⟨tw199, (fun _ h => absurd h List.not_mem_nil)⟩⟩⟩⟩⟩⟩⟩⟩⟩⟩⟩⟩⟩⟩⟩⟩⟩⟩⟩⟩⟩⟩⟩⟩⟩⟩⟩⟩⟩⟩⟩⟩⟩⟩⟩⟩⟩⟩⟩⟩
theorem tbc5 : ∀ w ∈ TB5, w ∈ lw_tbl := List.forall_mem_cons.mpr ⟨tw200, List.forall_mem_cons.mpr ⟨tw201, List.forall_mem_cons.mpr ⟨tw202, List.forall_mem_cons.mpr ⟨tw203, List.forall_mem_cons.mpr ⟨tw204, List.forall_mem_cons.mpr ⟨tw205, List.forall_mem_cons.mpr ⟨tw206, List.forall_mem_cons.mpr ⟨tw207, List.forall_mem_cons.mpr ⟨tw208, List.forall_mem_cons.mpr ⟨tw209, List.forall_mem_cons.mpr ⟨tw210, List.forall_mem_cons.mpr ⟨tw211, List.forall_mem_cons.mpr ⟨tw212, List.forall_mem_cons.mpr ⟨tw213, List.forall_mem_cons.mpr ⟨tw214, List.forall_mem_cons.mpr ⟨tw215, List.forall_mem_cons.mpr ⟨tw216, List.forall_mem_cons.mpr ⟨tw217, List.forall_mem_cons.mpr ⟨tw218, List.forall_mem_cons.mpr ⟨tw219, List.forall_mem_cons.mpr ⟨tw220, List.forall_mem_cons.mpr ⟨tw221, List.forall_mem_cons.mpr ⟨tw222, List.forall_mem_cons.mpr ⟨tw223, List.forall_mem_cons.mpr ⟨tw224, List.forall_mem_cons.mpr ⟨tw225, List.forall_mem_cons.mpr ⟨tw226, List.forall_mem_cons.mpr ⟨tw227, List.forall_mem_cons.mpr ⟨tw228, List.forall_mem_cons.mpr ⟨tw229, List.forall_mem_cons.mpr ⟨tw230, List.forall_mem_cons.mpr ⟨tw231, List.forall_mem_cons.mpr ⟨tw232, List.forall_mem_cons.mpr ⟨tw233, List.forall_mem_cons.mpr ⟨tw234, List.forall_mem_cons.mpr ⟨tw235, List.forall_mem_cons.mpr ⟨tw236, List.forall_mem_cons.mpr ⟨tw237, List.forall_mem_cons.mpr ⟨tw238, List.forall_mem_cons.mpr ⟨tw239, (fun _ h => absurd h List.not_mem_nil)⟩⟩⟩⟩⟩⟩⟩⟩⟩⟩⟩⟩⟩⟩⟩⟩⟩⟩⟩⟩⟩⟩⟩⟩⟩⟩⟩⟩⟩⟩⟩⟩⟩⟩⟩⟩⟩⟩⟩⟩
theorem tbc6 : ∀ w ∈ TB6, w ∈ lw_tbl := List.forall_mem_cons.mpr ⟨tw240, List.forall_mem_cons.mpr ⟨tw241, List.forall_mem_cons.mpr ⟨tw242, List.forall_mem_cons.mpr ⟨tw243, List.forall_mem_cons.mpr ⟨tw244, List.forall_mem_cons.mpr ⟨tw245, List.forall_mem_cons.mpr ⟨tw246, List.forall_mem_cons.mpr ⟨tw247, List.forall_mem_cons.mpr ⟨tw248, List.forall_mem_cons.mpr ⟨tw249, List.forall_mem_cons.mpr ⟨tw250, List.forall_mem_cons.mpr ⟨tw251, List.forall_mem_cons.mpr ⟨tw252, List.forall_mem_cons.mpr ⟨tw253, List.forall_mem_cons.mpr ⟨tw254, List.forall_mem_cons.mpr ⟨tw255, List.forall_mem_cons.mpr ⟨tw256, List.forall_mem_cons.mpr ⟨tw257, List.forall_mem_cons.mpr ⟨tw258, List.forall_mem_cons.mpr ⟨tw259, List.forall_mem_cons.mpr ⟨tw260, List.forall_mem_cons.mpr ⟨tw261, List.forall_mem_cons.mpr ⟨tw262, List.forall_mem_cons.mpr ⟨tw263, List.forall_mem_cons.mpr ⟨tw264, List.forall_mem_cons.mpr ⟨tw265, List.forall_mem_cons.mpr ⟨tw266, List.forall_mem_cons.mpr ⟨tw267, List.forall_mem_cons.mpr ⟨tw268, List.forall_mem_cons.mpr ⟨tw269, List.forall_mem_cons.mpr ⟨tw270, List.forall_mem_cons.mpr ⟨tw271, List.forall_mem_cons.mpr ⟨tw272, List.forall_mem_cons.mpr ⟨tw273, List.forall_mem_cons.mpr ⟨tw274, List.forall_mem_cons.mpr ⟨tw275, List.forall_mem_cons.mpr ⟨tw276, List.forall_mem_cons.mpr ⟨tw277, List.forall_mem_cons.mpr ⟨tw278, List.forall_mem_cons.mpr ⟨tw279, (fun _ h => absurd h List.not_mem_nil)⟩⟩⟩⟩⟩⟩⟩⟩⟩⟩⟩⟩⟩⟩⟩⟩⟩⟩⟩⟩⟩⟩⟩⟩⟩⟩⟩⟩⟩⟩⟩⟩⟩⟩⟩⟩⟩⟩⟩⟩
theorem tbc7 : ∀ w ∈ TB7, w ∈ lw_tbl := List.forall_mem_cons.mpr ⟨tw280, List.forall_mem_cons.mpr ⟨tw281, List.forall_mem_cons.mpr ⟨tw282, List.forall_mem_cons.mpr ⟨tw283, List.forall_mem_cons.mpr ⟨tw284, List.forall_mem_cons.mpr ⟨tw285, List.forall_mem_cons.mpr ⟨tw286, List.forall_mem_cons.mpr ⟨tw287, List.forall_mem_cons.mpr ⟨tw288, List.forall_mem_cons.mpr ⟨tw289, List.forall_mem_cons.mpr ⟨tw290, List.forall_mem_cons.mpr ⟨tw291, List.forall_mem_cons.mpr ⟨tw292, List.forall_mem_cons.mpr ⟨tw293, List.forall_mem_cons.mpr ⟨tw294, List.forall_mem_cons.mpr ⟨tw295, List.forall_mem_cons.mpr ⟨tw296, List.forall_mem_cons.mpr ⟨tw297, List.forall_mem_cons.mpr ⟨tw298, List.forall_mem_cons.mpr ⟨tw299, List.forall_mem_cons.mpr ⟨tw300, List.forall_mem_cons.mpr ⟨tw301, List.forall_mem_cons.mpr ⟨tw302, List.forall_mem_cons.mpr ⟨tw303, List.forall_mem_cons.mpr ⟨tw304, List.forall_mem_cons.mpr ⟨tw305, List.forall_mem_cons.mpr ⟨tw306, List.forall_mem_cons.mpr ⟨tw307, List.forall_mem_cons.mpr ⟨tw308, List.forall_mem_cons.mpr ⟨tw309, List.forall_mem_cons.mpr ⟨tw310, List.forall_mem_cons.mpr ⟨tw311, List.forall_mem_cons.mpr ⟨tw312, List.forall_mem_cons.mpr ⟨tw313, List.forall_mem_cons.mpr ⟨tw314, List.forall_mem_cons.mpr ⟨tw315, List.forall_mem_cons.mpr ⟨tw316, List.forall_mem_cons.mpr ⟨tw317, List.forall_mem_cons.mpr ⟨tw318, List.forall_mem_cons.mpr ⟨tw319, (fun _ h => absurd h List.not_mem_nil)⟩⟩⟩⟩⟩⟩⟩⟩⟩⟩⟩⟩⟩⟩⟩⟩⟩⟩⟩⟩⟩⟩⟩⟩⟩⟩⟩⟩⟩⟩⟩⟩⟩⟩⟩⟩⟩⟩⟩⟩
theorem tbc8 : ∀ w ∈ TB8, w ∈ lw_tbl := List.forall_mem_cons.mpr ⟨tw320, List.forall_mem_cons.mpr ⟨tw321, List.forall_mem_cons.mpr ⟨tw322, List.forall_mem_cons.mpr ⟨tw323, List.forall_mem_cons.mpr ⟨tw324, List.forall_mem_cons.mpr ⟨tw325, List.forall_mem_cons.mpr ⟨tw326, List.forall_mem_cons.mpr ⟨tw327, List.forall_mem_cons.mpr ⟨tw328, List.forall_mem_cons.mpr ⟨tw329, List.forall_mem_cons.mpr ⟨tw330, List.forall_mem_cons.mpr ⟨tw331, List.forall_mem_cons.mpr ⟨tw332, List.forall_mem_cons.mpr ⟨tw333, List.forall_mem_cons.mpr ⟨tw334, List.forall_mem_cons.mpr ⟨tw335, List.forall_mem_cons.mpr ⟨tw336, List.forall_mem_cons.mpr ⟨tw337, List.forall_mem_cons.mpr ⟨tw338, List.forall_mem_cons.mpr ⟨tw339, List.forall_mem_cons.mpr ⟨tw340, List.forall_mem_cons.mpr ⟨tw341, List.forall_mem_cons.mpr ⟨tw342, List.forall_mem_cons.mpr ⟨tw343, List.forall_mem_cons.mpr ⟨tw344, List.forall_mem_cons.mpr ⟨tw345, List.forall_mem_cons.mpr ⟨tw346, List.forall_mem_cons.mpr ⟨tw347, List.forall_mem_cons.mpr ⟨tw348, List.forall_mem_cons.mpr ⟨tw349, List.forall_mem_cons.mpr ⟨tw350, List.forall_mem_cons.mpr ⟨tw351, List.forall_mem_cons.mpr ⟨tw352, List.forall_mem_cons.mpr ⟨tw353, List.forall_mem_cons.mpr ⟨tw354, List.forall_mem_cons.mpr ⟨tw355, List.forall_mem_cons.mpr ⟨tw356, List.forall_mem_cons.mpr ⟨tw357, List.forall_mem_cons.mpr ⟨tw358, List.forall_mem_cons.mpr ⟨tw359, (fun _ h => absurd h List.not_mem_nil)⟩⟩⟩⟩⟩⟩⟩⟩⟩⟩⟩⟩⟩⟩⟩⟩⟩⟩⟩⟩⟩⟩⟩⟩⟩⟩⟩⟩⟩⟩⟩⟩⟩⟩⟩⟩⟩⟩⟩⟩
theorem tbc9 : ∀ w ∈ TB9, w ∈ lw_tbl := List.forall_mem_cons.mpr ⟨tw360, List.forall_mem_cons.mpr ⟨tw361, List.forall_mem_cons.mpr ⟨tw362, List.forall_mem_cons.mpr ⟨tw363, List.forall_mem_cons.mpr ⟨tw364, List.forall_mem_cons.mpr ⟨tw365, List.forall_mem_cons.mpr ⟨tw366, List.forall_mem_cons.mpr ⟨tw367, List.forall_mem_cons.mpr ⟨tw368, List.forall_mem_cons.mpr ⟨tw369, List.forall_mem_cons.mpr ⟨tw370, List.forall_mem_cons.mpr ⟨tw371, List.forall_mem_cons.mpr ⟨tw372, List.forall_mem_cons.mpr ⟨tw373, List.forall_mem_cons.mpr ⟨tw374, List.forall_mem_cons.mpr ⟨tw375, List.forall_mem_cons.mpr ⟨tw376, List.forall_mem_cons.mpr ⟨tw377, List.forall_mem_cons.mpr ⟨tw378, List.forall_mem_cons.mpr ⟨tw379, List.forall_mem_cons.mpr ⟨tw380, List.forall_mem_cons.mpr ⟨tw381, List.forall_mem_cons.mpr ⟨tw382, List.forall_mem_cons.mpr ⟨tw383, List.forall_mem_cons.mpr ⟨tw384, List.forall_mem_cons.mpr ⟨tw385, List.forall_mem_cons.mpr ⟨tw386, List.forall_mem_cons.mpr ⟨tw387, List.forall_mem_cons.mpr ⟨tw388, List.forall_mem_cons.mpr ⟨tw389, List.forall_mem_cons.mpr ⟨tw390, List.forall_mem_cons.mpr ⟨tw391, List.forall_mem_cons.mpr ⟨tw392, List.forall_mem_cons.mpr ⟨tw393, List.forall_mem_cons.mpr ⟨tw394, List.forall_mem_cons.mpr ⟨tw395, List.forall_mem_cons.mpr ⟨tw396, List.forall_mem_cons.mpr ⟨tw397, List.forall_mem_cons.mpr ⟨tw398, List.forall_mem_cons.mpr ⟨tw399, (fun _ h => absurd h List.not_mem_nil)⟩⟩⟩⟩⟩⟩⟩⟩⟩⟩⟩⟩⟩⟩⟩⟩⟩⟩⟩⟩⟩⟩⟩⟩⟩⟩⟩⟩⟩⟩⟩⟩⟩⟩⟩⟩⟩⟩⟩⟩
theorem tbc10 : ∀ w ∈ TB10, w ∈ lw_tbl := List.forall_mem_cons.mpr ⟨tw400, List.forall_mem_cons.mpr ⟨tw401, List.forall_mem_cons.mpr ⟨tw402, List.forall_mem_cons.mpr ⟨tw403, List.forall_mem_cons.mpr ⟨tw404, List.forall_mem_cons.mpr ⟨tw405, List.forall_mem_cons.mpr ⟨tw406, List.forall_mem_cons.mpr ⟨tw407, List.forall_mem_cons.mpr ⟨tw408, List.forall_mem_cons.mpr ⟨tw409, List.forall_mem_cons.mpr ⟨tw410, List.forall_mem_cons.mpr ⟨tw411, List.forall_mem_cons.mpr ⟨tw412, List.forall_mem_cons.mpr ⟨tw413, List.forall_mem_cons.mpr ⟨tw414, List.forall_mem_cons.mpr ⟨tw415, List.forall_mem_cons.mpr ⟨tw416, List.forall_mem_cons.mpr ⟨tw417, List.forall_mem_cons.mpr ⟨tw418, List.forall_mem_cons.mpr ⟨tw419, List.forall_mem_cons.mpr ⟨tw420, List.forall_mem_cons.mpr ⟨tw421, List.forall_mem_cons.mpr ⟨tw422, List.forall_mem_cons.mpr ⟨tw423, List.forall_mem_cons.mpr ⟨tw424, List.forall_mem_cons.mpr ⟨tw425, List.forall_mem_cons.mpr ⟨tw426, List.forall_mem_cons.mpr ⟨tw427, List.forall_mem_cons.mpr ⟨tw428, List.forall_mem_cons.mpr ⟨tw429, List.forall_mem_cons.mpr ⟨tw430, List.forall_mem_cons.mpr ⟨tw431, List.forall_mem_cons.mpr ⟨tw432, List.forall_mem_cons.mpr ⟨tw433, List.forall_mem_cons.mpr ⟨tw434, (fun _ h => absurd h List.not_mem_nil)⟩⟩⟩⟩⟩⟩⟩⟩⟩⟩⟩⟩⟩⟩⟩⟩⟩⟩⟩⟩⟩⟩⟩⟩⟩⟩⟩⟩⟩⟩⟩⟩⟩⟩⟩
set_option maxRecDepth 20000 in
theorem tbx0 : ∀ w ∈ wsX00, w ∈ lw_tbl := by decide +kernel
set_option maxRecDepth 20000 in
theorem tbx1 : ∀ w ∈ wsX10, w ∈ lw_tbl := by decide +kernel
set_option maxRecDepth 20000 in
theorem tbx2 : ∀ w ∈ wsX20, w ∈ lw_tbl := by decide +kernel
set_option maxRecDepth 20000 in
theorem tbx3 : ∀ w ∈ wsX30, w ∈ lw_tbl := by decide +kernel
set_option maxRecDepth 20000 in
theorem tbx4 : ∀ w ∈ wsX40, w ∈ lw_tbl := by decide +kernel
theorem TB_tbl : ∀ w ∈ TB, w ∈ lw_tbl := by
  unfold TB
  exact List.forall_mem_append.mpr ⟨tbc0, List.forall_mem_append.mpr ⟨tbc1, List.forall_mem_append.mpr ⟨tbc2, List.forall_mem_append.mpr ⟨tbc3, List.forall_mem_append.mpr ⟨tbc4, List.forall_mem_append.mpr ⟨tbc5, List.forall_mem_append.mpr ⟨tbc6, List.forall_mem_append.mpr ⟨tbc7, List.forall_mem_append.mpr ⟨tbc8, List.forall_mem_append.mpr ⟨tbc9, List.forall_mem_append.mpr ⟨tbc10, List.forall_mem_append.mpr ⟨tbx0, List.forall_mem_append.mpr ⟨tbx1, List.forall_mem_append.mpr ⟨tbx2, List.forall_mem_append.mpr ⟨tbx3, tbx4⟩⟩⟩⟩⟩⟩⟩⟩⟩⟩⟩⟩⟩⟩⟩
