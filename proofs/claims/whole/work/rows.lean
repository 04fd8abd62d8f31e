section
-- ===== PART A: goes FIRST, ahead of the names: the tables' words, and 'selects' of the private methods out of them =====
/-- a private method of a class that the tables say can be made, by its rows of tables_1 -/
def lw_okq (q : MethodName × Nat) : Prop := (q.1.cls ≠ "java/lang/invoke/MethodHandle" ∧ q.1.cls ≠ "java/lang/invoke/VarHandle") ∧ Cond.instantiable q.1.cls q.2 ∈ tables_1 ∧ Cond.privateMethod q.1 ∈ tables_1 ∧ Cond.instanceMethod q.1 ∈ tables_1
theorem lw_p0 : lw_okq (⟨"ExamHalls$Seating", "clear", "()V"⟩, 9) := ⟨⟨by decide +kernel, by decide +kernel⟩, List.mem_of_getElem? (i := 18) (by decide +kernel), List.mem_of_getElem? (i := 178) (by decide +kernel), List.mem_of_getElem? (i := 179) (by decide +kernel)⟩
theorem lw_p1 : lw_okq (⟨"ExamHalls$Seating", "seatPupils", "(I)V"⟩, 9) := ⟨⟨by decide +kernel, by decide +kernel⟩, List.mem_of_getElem? (i := 18) (by decide +kernel), List.mem_of_getElem? (i := 182) (by decide +kernel), List.mem_of_getElem? (i := 183) (by decide +kernel)⟩
theorem lw_p2 : lw_okq (⟨"ExamHalls$Seating", "seatInRoom", "(II)V"⟩, 9) := ⟨⟨by decide +kernel, by decide +kernel⟩, List.mem_of_getElem? (i := 18) (by decide +kernel), List.mem_of_getElem? (i := 193) (by decide +kernel), List.mem_of_getElem? (i := 194) (by decide +kernel)⟩
theorem lw_p3 : lw_okq (⟨"ExamHalls$Seating", "isEarlyEnough", "(II)Z"⟩, 9) := ⟨⟨by decide +kernel, by decide +kernel⟩, List.mem_of_getElem? (i := 18) (by decide +kernel), List.mem_of_getElem? (i := 197) (by decide +kernel), List.mem_of_getElem? (i := 198) (by decide +kernel)⟩
theorem lw_p4 : lw_okq (⟨"ExamHalls$Seating", "seatAtDesk", "(II)V"⟩, 9) := ⟨⟨by decide +kernel, by decide +kernel⟩, List.mem_of_getElem? (i := 18) (by decide +kernel), List.mem_of_getElem? (i := 217) (by decide +kernel), List.mem_of_getElem? (i := 218) (by decide +kernel)⟩
theorem lw_p5 : lw_okq (⟨"ExamHalls$Seating", "firstDesk", "(II)I"⟩, 9) := ⟨⟨by decide +kernel, by decide +kernel⟩, List.mem_of_getElem? (i := 18) (by decide +kernel), List.mem_of_getElem? (i := 225) (by decide +kernel), List.mem_of_getElem? (i := 226) (by decide +kernel)⟩
theorem lw_p6 : lw_okq (⟨"ExamHalls$Seating", "isBeside", "(IIII)Z"⟩, 9) := ⟨⟨by decide +kernel, by decide +kernel⟩, List.mem_of_getElem? (i := 18) (by decide +kernel), List.mem_of_getElem? (i := 229) (by decide +kernel), List.mem_of_getElem? (i := 230) (by decide +kernel)⟩
theorem lw_p7 : lw_okq (⟨"ExamHalls$History", "dropOldest", "()V"⟩, 2) := ⟨⟨by decide +kernel, by decide +kernel⟩, List.mem_of_getElem? (i := 155) (by decide +kernel), List.mem_of_getElem? (i := 272) (by decide +kernel), List.mem_of_getElem? (i := 273) (by decide +kernel)⟩
theorem lw_p8 : lw_okq (⟨"ExamHalls$Pad", "beginPupil", "()V"⟩, 10) := ⟨⟨by decide +kernel, by decide +kernel⟩, List.mem_of_getElem? (i := 113) (by decide +kernel), List.mem_of_getElem? (i := 313) (by decide +kernel), List.mem_of_getElem? (i := 314) (by decide +kernel)⟩
theorem lw_p9 : lw_okq (⟨"ExamHalls$Pad", "takes", "(I)Z"⟩, 10) := ⟨⟨by decide +kernel, by decide +kernel⟩, List.mem_of_getElem? (i := 113) (by decide +kernel), List.mem_of_getElem? (i := 317) (by decide +kernel), List.mem_of_getElem? (i := 318) (by decide +kernel)⟩
theorem lw_p10 : lw_okq (⟨"ExamHalls$Pad", "takesSemicolon", "()Z"⟩, 10) := ⟨⟨by decide +kernel, by decide +kernel⟩, List.mem_of_getElem? (i := 113) (by decide +kernel), List.mem_of_getElem? (i := 321) (by decide +kernel), List.mem_of_getElem? (i := 322) (by decide +kernel)⟩
theorem lw_p11 : lw_okq (⟨"ExamHalls$Pad", "mayEnd", "()Z"⟩, 10) := ⟨⟨by decide +kernel, by decide +kernel⟩, List.mem_of_getElem? (i := 113) (by decide +kernel), List.mem_of_getElem? (i := 325) (by decide +kernel), List.mem_of_getElem? (i := 326) (by decide +kernel)⟩
theorem lw_p12 : lw_okq (⟨"ExamHalls$Pad", "endPupil", "()V"⟩, 10) := ⟨⟨by decide +kernel, by decide +kernel⟩, List.mem_of_getElem? (i := 113) (by decide +kernel), List.mem_of_getElem? (i := 329) (by decide +kernel), List.mem_of_getElem? (i := 330) (by decide +kernel)⟩
theorem lw_p13 : lw_okq (⟨"ExamHalls$Pad", "takesPlus", "()Z"⟩, 10) := ⟨⟨by decide +kernel, by decide +kernel⟩, List.mem_of_getElem? (i := 113) (by decide +kernel), List.mem_of_getElem? (i := 333) (by decide +kernel), List.mem_of_getElem? (i := 334) (by decide +kernel)⟩
theorem lw_p14 : lw_okq (⟨"ExamHalls$Pad", "takesReader", "()Z"⟩, 10) := ⟨⟨by decide +kernel, by decide +kernel⟩, List.mem_of_getElem? (i := 113) (by decide +kernel), List.mem_of_getElem? (i := 337) (by decide +kernel), List.mem_of_getElem? (i := 338) (by decide +kernel)⟩
theorem lw_p15 : lw_okq (⟨"ExamHalls$Pad", "takesDigit", "(I)Z"⟩, 10) := ⟨⟨by decide +kernel, by decide +kernel⟩, List.mem_of_getElem? (i := 113) (by decide +kernel), List.mem_of_getElem? (i := 342) (by decide +kernel), List.mem_of_getElem? (i := 343) (by decide +kernel)⟩
def lw_privs_1 : List (MethodName × Nat) := [(⟨"ExamHalls$Seating", "clear", "()V"⟩, 9), (⟨"ExamHalls$Seating", "seatPupils", "(I)V"⟩, 9), (⟨"ExamHalls$Seating", "seatInRoom", "(II)V"⟩, 9), (⟨"ExamHalls$Seating", "isEarlyEnough", "(II)Z"⟩, 9), (⟨"ExamHalls$Seating", "seatAtDesk", "(II)V"⟩, 9), (⟨"ExamHalls$Seating", "firstDesk", "(II)I"⟩, 9), (⟨"ExamHalls$Seating", "isBeside", "(IIII)Z"⟩, 9), (⟨"ExamHalls$History", "dropOldest", "()V"⟩, 2), (⟨"ExamHalls$Pad", "beginPupil", "()V"⟩, 10), (⟨"ExamHalls$Pad", "takes", "(I)Z"⟩, 10), (⟨"ExamHalls$Pad", "takesSemicolon", "()Z"⟩, 10), (⟨"ExamHalls$Pad", "mayEnd", "()Z"⟩, 10), (⟨"ExamHalls$Pad", "endPupil", "()V"⟩, 10), (⟨"ExamHalls$Pad", "takesPlus", "()Z"⟩, 10), (⟨"ExamHalls$Pad", "takesReader", "()Z"⟩, 10), (⟨"ExamHalls$Pad", "takesDigit", "(I)Z"⟩, 10)]
theorem lw_r1 : ∀ q ∈ lw_privs_1, lw_okq q := List.forall_mem_cons.mpr ⟨lw_p0, List.forall_mem_cons.mpr ⟨lw_p1, List.forall_mem_cons.mpr ⟨lw_p2, List.forall_mem_cons.mpr ⟨lw_p3, List.forall_mem_cons.mpr ⟨lw_p4, List.forall_mem_cons.mpr ⟨lw_p5, List.forall_mem_cons.mpr ⟨lw_p6, List.forall_mem_cons.mpr ⟨lw_p7, List.forall_mem_cons.mpr ⟨lw_p8, List.forall_mem_cons.mpr ⟨lw_p9, List.forall_mem_cons.mpr ⟨lw_p10, List.forall_mem_cons.mpr ⟨lw_p11, List.forall_mem_cons.mpr ⟨lw_p12, List.forall_mem_cons.mpr ⟨lw_p13, List.forall_mem_cons.mpr ⟨lw_p14, List.forall_mem_cons.mpr ⟨lw_p15, fun _ h => absurd h List.not_mem_nil⟩⟩⟩⟩⟩⟩⟩⟩⟩⟩⟩⟩⟩⟩⟩⟩
theorem lw_p16 : lw_okq (⟨"ExamHalls$Pad", "takesLetter", "(I)Z"⟩, 10) := ⟨⟨by decide +kernel, by decide +kernel⟩, List.mem_of_getElem? (i := 113) (by decide +kernel), List.mem_of_getElem? (i := 346) (by decide +kernel), List.mem_of_getElem? (i := 347) (by decide +kernel)⟩
theorem lw_p17 : lw_okq (⟨"ExamHalls", "isPupil", "(I)Z"⟩, 8) := ⟨⟨by decide +kernel, by decide +kernel⟩, List.mem_of_getElem? (i := 10) (by decide +kernel), List.mem_of_getElem? (i := 355) (by decide +kernel), List.mem_of_getElem? (i := 356) (by decide +kernel)⟩
theorem lw_p18 : lw_okq (⟨"ExamHalls$Seating", "takenIn", "(II)I"⟩, 9) := ⟨⟨by decide +kernel, by decide +kernel⟩, List.mem_of_getElem? (i := 18) (by decide +kernel), List.mem_of_getElem? (i := 460) (by decide +kernel), List.mem_of_getElem? (i := 461) (by decide +kernel)⟩
theorem lw_p19 : lw_okq (⟨"ExamHalls$Seating", "isNow", "(II)Z"⟩, 9) := ⟨⟨by decide +kernel, by decide +kernel⟩, List.mem_of_getElem? (i := 18) (by decide +kernel), List.mem_of_getElem? (i := 464) (by decide +kernel), List.mem_of_getElem? (i := 465) (by decide +kernel)⟩
theorem lw_p20 : lw_okq (⟨"ExamHallsModel", "hold", "()V"⟩, 14) := ⟨⟨by decide +kernel, by decide +kernel⟩, List.mem_of_getElem? (i := 571) (by decide +kernel), List.mem_of_getElem? (i := 628) (by decide +kernel), List.mem_of_getElem? (i := 629) (by decide +kernel)⟩
theorem lw_p21 : lw_okq (⟨"ExamHallsModel", "recorded", "(I)I"⟩, 14) := ⟨⟨by decide +kernel, by decide +kernel⟩, List.mem_of_getElem? (i := 571) (by decide +kernel), List.mem_of_getElem? (i := 632) (by decide +kernel), List.mem_of_getElem? (i := 633) (by decide +kernel)⟩
theorem lw_p22 : lw_okq (⟨"ExamHallsModel", "puts", "(IIII)V"⟩, 14) := ⟨⟨by decide +kernel, by decide +kernel⟩, List.mem_of_getElem? (i := 571) (by decide +kernel), List.mem_of_getElem? (i := 647) (by decide +kernel), List.mem_of_getElem? (i := 648) (by decide +kernel)⟩
theorem lw_p23 : lw_okq (⟨"ExamHallsModel", "isPupil", "(I)Z"⟩, 14) := ⟨⟨by decide +kernel, by decide +kernel⟩, List.mem_of_getElem? (i := 571) (by decide +kernel), List.mem_of_getElem? (i := 658) (by decide +kernel), List.mem_of_getElem? (i := 659) (by decide +kernel)⟩
theorem lw_p24 : lw_okq (⟨"ExamHallsModel", "clashesOf", "(I)I"⟩, 14) := ⟨⟨by decide +kernel, by decide +kernel⟩, List.mem_of_getElem? (i := 571) (by decide +kernel), List.mem_of_getElem? (i := 662) (by decide +kernel), List.mem_of_getElem? (i := 663) (by decide +kernel)⟩
theorem lw_p25 : lw_okq (⟨"ExamHallsModel", "isSitting", "(I)Z"⟩, 14) := ⟨⟨by decide +kernel, by decide +kernel⟩, List.mem_of_getElem? (i := 571) (by decide +kernel), List.mem_of_getElem? (i := 666) (by decide +kernel), List.mem_of_getElem? (i := 667) (by decide +kernel)⟩
theorem lw_p26 : lw_okq (⟨"ExamHallsModel", "clash", "(II)Z"⟩, 14) := ⟨⟨by decide +kernel, by decide +kernel⟩, List.mem_of_getElem? (i := 571) (by decide +kernel), List.mem_of_getElem? (i := 670) (by decide +kernel), List.mem_of_getElem? (i := 671) (by decide +kernel)⟩
theorem lw_p27 : lw_okq (⟨"ExamHallsModel", "ends", "(I)I"⟩, 14) := ⟨⟨by decide +kernel, by decide +kernel⟩, List.mem_of_getElem? (i := 571) (by decide +kernel), List.mem_of_getElem? (i := 674) (by decide +kernel), List.mem_of_getElem? (i := 675) (by decide +kernel)⟩
theorem lw_p28 : lw_okq (⟨"ExamHallsModel", "begins", "(I)I"⟩, 14) := ⟨⟨by decide +kernel, by decide +kernel⟩, List.mem_of_getElem? (i := 571) (by decide +kernel), List.mem_of_getElem? (i := 678) (by decide +kernel), List.mem_of_getElem? (i := 679) (by decide +kernel)⟩
theorem lw_p29 : lw_okq (⟨"ExamHallsModel", "minutes", "(I)I"⟩, 14) := ⟨⟨by decide +kernel, by decide +kernel⟩, List.mem_of_getElem? (i := 571) (by decide +kernel), List.mem_of_getElem? (i := 682) (by decide +kernel), List.mem_of_getElem? (i := 683) (by decide +kernel)⟩
theorem lw_p30 : lw_okq (⟨"ExamHallsModel", "desks", "(I)I"⟩, 14) := ⟨⟨by decide +kernel, by decide +kernel⟩, List.mem_of_getElem? (i := 571) (by decide +kernel), List.mem_of_getElem? (i := 697) (by decide +kernel), List.mem_of_getElem? (i := 698) (by decide +kernel)⟩
theorem lw_p31 : lw_okq (⟨"ExamHallsModel", "without", "(I)I"⟩, 14) := ⟨⟨by decide +kernel, by decide +kernel⟩, List.mem_of_getElem? (i := 571) (by decide +kernel), List.mem_of_getElem? (i := 708) (by decide +kernel), List.mem_of_getElem? (i := 709) (by decide +kernel)⟩
def lw_privs_2 : List (MethodName × Nat) := [(⟨"ExamHalls$Pad", "takesLetter", "(I)Z"⟩, 10), (⟨"ExamHalls", "isPupil", "(I)Z"⟩, 8), (⟨"ExamHalls$Seating", "takenIn", "(II)I"⟩, 9), (⟨"ExamHalls$Seating", "isNow", "(II)Z"⟩, 9), (⟨"ExamHallsModel", "hold", "()V"⟩, 14), (⟨"ExamHallsModel", "recorded", "(I)I"⟩, 14), (⟨"ExamHallsModel", "puts", "(IIII)V"⟩, 14), (⟨"ExamHallsModel", "isPupil", "(I)Z"⟩, 14), (⟨"ExamHallsModel", "clashesOf", "(I)I"⟩, 14), (⟨"ExamHallsModel", "isSitting", "(I)Z"⟩, 14), (⟨"ExamHallsModel", "clash", "(II)Z"⟩, 14), (⟨"ExamHallsModel", "ends", "(I)I"⟩, 14), (⟨"ExamHallsModel", "begins", "(I)I"⟩, 14), (⟨"ExamHallsModel", "minutes", "(I)I"⟩, 14), (⟨"ExamHallsModel", "desks", "(I)I"⟩, 14), (⟨"ExamHallsModel", "without", "(I)I"⟩, 14)]
theorem lw_r2 : ∀ q ∈ lw_privs_2, lw_okq q := List.forall_mem_cons.mpr ⟨lw_p16, List.forall_mem_cons.mpr ⟨lw_p17, List.forall_mem_cons.mpr ⟨lw_p18, List.forall_mem_cons.mpr ⟨lw_p19, List.forall_mem_cons.mpr ⟨lw_p20, List.forall_mem_cons.mpr ⟨lw_p21, List.forall_mem_cons.mpr ⟨lw_p22, List.forall_mem_cons.mpr ⟨lw_p23, List.forall_mem_cons.mpr ⟨lw_p24, List.forall_mem_cons.mpr ⟨lw_p25, List.forall_mem_cons.mpr ⟨lw_p26, List.forall_mem_cons.mpr ⟨lw_p27, List.forall_mem_cons.mpr ⟨lw_p28, List.forall_mem_cons.mpr ⟨lw_p29, List.forall_mem_cons.mpr ⟨lw_p30, List.forall_mem_cons.mpr ⟨lw_p31, fun _ h => absurd h List.not_mem_nil⟩⟩⟩⟩⟩⟩⟩⟩⟩⟩⟩⟩⟩⟩⟩⟩
theorem lw_p32 : lw_okq (⟨"ExamHallsModel", "seats", "()V"⟩, 14) := ⟨⟨by decide +kernel, by decide +kernel⟩, List.mem_of_getElem? (i := 571) (by decide +kernel), List.mem_of_getElem? (i := 712) (by decide +kernel), List.mem_of_getElem? (i := 713) (by decide +kernel)⟩
theorem lw_p33 : lw_okq (⟨"ExamHallsModel", "needsReader", "(I)Z"⟩, 14) := ⟨⟨by decide +kernel, by decide +kernel⟩, List.mem_of_getElem? (i := 571) (by decide +kernel), List.mem_of_getElem? (i := 716) (by decide +kernel), List.mem_of_getElem? (i := 717) (by decide +kernel)⟩
theorem lw_p34 : lw_okq (⟨"ExamHallsModel", "roomFor", "(I)I"⟩, 14) := ⟨⟨by decide +kernel, by decide +kernel⟩, List.mem_of_getElem? (i := 571) (by decide +kernel), List.mem_of_getElem? (i := 720) (by decide +kernel), List.mem_of_getElem? (i := 721) (by decide +kernel)⟩
theorem lw_p35 : lw_okq (⟨"ExamHallsModel", "isFree", "(II)Z"⟩, 14) := ⟨⟨by decide +kernel, by decide +kernel⟩, List.mem_of_getElem? (i := 571) (by decide +kernel), List.mem_of_getElem? (i := 724) (by decide +kernel), List.mem_of_getElem? (i := 725) (by decide +kernel)⟩
theorem lw_p36 : lw_okq (⟨"ExamHallsModel", "deskFor", "(I)I"⟩, 14) := ⟨⟨by decide +kernel, by decide +kernel⟩, List.mem_of_getElem? (i := 571) (by decide +kernel), List.mem_of_getElem? (i := 728) (by decide +kernel), List.mem_of_getElem? (i := 729) (by decide +kernel)⟩
theorem lw_p37 : lw_okq (⟨"ExamHallsModel", "desksAt", "(IZ)I"⟩, 14) := ⟨⟨by decide +kernel, by decide +kernel⟩, List.mem_of_getElem? (i := 571) (by decide +kernel), List.mem_of_getElem? (i := 732) (by decide +kernel), List.mem_of_getElem? (i := 733) (by decide +kernel)⟩
theorem lw_p38 : lw_okq (⟨"ExamHallsModel", "isAlone", "(III)Z"⟩, 14) := ⟨⟨by decide +kernel, by decide +kernel⟩, List.mem_of_getElem? (i := 571) (by decide +kernel), List.mem_of_getElem? (i := 736) (by decide +kernel), List.mem_of_getElem? (i := 737) (by decide +kernel)⟩
theorem lw_p39 : lw_okq (⟨"ExamHallsModel", "has", "(II)Z"⟩, 14) := ⟨⟨by decide +kernel, by decide +kernel⟩, List.mem_of_getElem? (i := 571) (by decide +kernel), List.mem_of_getElem? (i := 740) (by decide +kernel), List.mem_of_getElem? (i := 741) (by decide +kernel)⟩
theorem lw_p40 : lw_okq (⟨"ExamHallsModel", "faultOf", "()I"⟩, 14) := ⟨⟨by decide +kernel, by decide +kernel⟩, List.mem_of_getElem? (i := 571) (by decide +kernel), List.mem_of_getElem? (i := 748) (by decide +kernel), List.mem_of_getElem? (i := 749) (by decide +kernel)⟩
theorem lw_p41 : lw_okq (⟨"ExamHallsModel", "readsPupil", "()Z"⟩, 14) := ⟨⟨by decide +kernel, by decide +kernel⟩, List.mem_of_getElem? (i := 571) (by decide +kernel), List.mem_of_getElem? (i := 752) (by decide +kernel), List.mem_of_getElem? (i := 753) (by decide +kernel)⟩
theorem lw_p42 : lw_okq (⟨"ExamHallsModel", "letters", "()I"⟩, 14) := ⟨⟨by decide +kernel, by decide +kernel⟩, List.mem_of_getElem? (i := 571) (by decide +kernel), List.mem_of_getElem? (i := 756) (by decide +kernel), List.mem_of_getElem? (i := 757) (by decide +kernel)⟩
theorem lw_p43 : lw_okq (⟨"ExamHallsModel", "isSign", "(CC)Z"⟩, 14) := ⟨⟨by decide +kernel, by decide +kernel⟩, List.mem_of_getElem? (i := 571) (by decide +kernel), List.mem_of_getElem? (i := 760) (by decide +kernel), List.mem_of_getElem? (i := 761) (by decide +kernel)⟩
theorem lw_p44 : lw_okq (⟨"ExamHallsModel", "accepts", "(C)Z"⟩, 14) := ⟨⟨by decide +kernel, by decide +kernel⟩, List.mem_of_getElem? (i := 571) (by decide +kernel), List.mem_of_getElem? (i := 764) (by decide +kernel), List.mem_of_getElem? (i := 765) (by decide +kernel)⟩
theorem lw_p45 : lw_okq (⟨"ExamHallsModel", "number", "()I"⟩, 14) := ⟨⟨by decide +kernel, by decide +kernel⟩, List.mem_of_getElem? (i := 571) (by decide +kernel), List.mem_of_getElem? (i := 768) (by decide +kernel), List.mem_of_getElem? (i := 769) (by decide +kernel)⟩
theorem lw_p46 : lw_okq (⟨"ExamHallsModel", "unseated", "(I)I"⟩, 14) := ⟨⟨by decide +kernel, by decide +kernel⟩, List.mem_of_getElem? (i := 571) (by decide +kernel), List.mem_of_getElem? (i := 776) (by decide +kernel), List.mem_of_getElem? (i := 777) (by decide +kernel)⟩
theorem lw_p47 : lw_okq (⟨"ExamHallsModel", "allMinutes", "(I)I"⟩, 14) := ⟨⟨by decide +kernel, by decide +kernel⟩, List.mem_of_getElem? (i := 571) (by decide +kernel), List.mem_of_getElem? (i := 780) (by decide +kernel), List.mem_of_getElem? (i := 781) (by decide +kernel)⟩
def lw_privs_3 : List (MethodName × Nat) := [(⟨"ExamHallsModel", "seats", "()V"⟩, 14), (⟨"ExamHallsModel", "needsReader", "(I)Z"⟩, 14), (⟨"ExamHallsModel", "roomFor", "(I)I"⟩, 14), (⟨"ExamHallsModel", "isFree", "(II)Z"⟩, 14), (⟨"ExamHallsModel", "deskFor", "(I)I"⟩, 14), (⟨"ExamHallsModel", "desksAt", "(IZ)I"⟩, 14), (⟨"ExamHallsModel", "isAlone", "(III)Z"⟩, 14), (⟨"ExamHallsModel", "has", "(II)Z"⟩, 14), (⟨"ExamHallsModel", "faultOf", "()I"⟩, 14), (⟨"ExamHallsModel", "readsPupil", "()Z"⟩, 14), (⟨"ExamHallsModel", "letters", "()I"⟩, 14), (⟨"ExamHallsModel", "isSign", "(CC)Z"⟩, 14), (⟨"ExamHallsModel", "accepts", "(C)Z"⟩, 14), (⟨"ExamHallsModel", "number", "()I"⟩, 14), (⟨"ExamHallsModel", "unseated", "(I)I"⟩, 14), (⟨"ExamHallsModel", "allMinutes", "(I)I"⟩, 14)]
theorem lw_r3 : ∀ q ∈ lw_privs_3, lw_okq q := List.forall_mem_cons.mpr ⟨lw_p32, List.forall_mem_cons.mpr ⟨lw_p33, List.forall_mem_cons.mpr ⟨lw_p34, List.forall_mem_cons.mpr ⟨lw_p35, List.forall_mem_cons.mpr ⟨lw_p36, List.forall_mem_cons.mpr ⟨lw_p37, List.forall_mem_cons.mpr ⟨lw_p38, List.forall_mem_cons.mpr ⟨lw_p39, List.forall_mem_cons.mpr ⟨lw_p40, List.forall_mem_cons.mpr ⟨lw_p41, List.forall_mem_cons.mpr ⟨lw_p42, List.forall_mem_cons.mpr ⟨lw_p43, List.forall_mem_cons.mpr ⟨lw_p44, List.forall_mem_cons.mpr ⟨lw_p45, List.forall_mem_cons.mpr ⟨lw_p46, List.forall_mem_cons.mpr ⟨lw_p47, fun _ h => absurd h List.not_mem_nil⟩⟩⟩⟩⟩⟩⟩⟩⟩⟩⟩⟩⟩⟩⟩⟩
theorem lw_p48 : lw_okq (⟨"ExamHallsModel", "ofSittings", "(II)I"⟩, 14) := ⟨⟨by decide +kernel, by decide +kernel⟩, List.mem_of_getElem? (i := 571) (by decide +kernel), List.mem_of_getElem? (i := 788) (by decide +kernel), List.mem_of_getElem? (i := 789) (by decide +kernel)⟩
theorem lw_p49 : lw_okq (⟨"ExamHallsModel", "clashesWith", "(I)I"⟩, 14) := ⟨⟨by decide +kernel, by decide +kernel⟩, List.mem_of_getElem? (i := 571) (by decide +kernel), List.mem_of_getElem? (i := 796) (by decide +kernel), List.mem_of_getElem? (i := 797) (by decide +kernel)⟩
theorem lw_p50 : lw_okq (⟨"ExamHallsModel", "seatedIn", "(I)I"⟩, 14) := ⟨⟨by decide +kernel, by decide +kernel⟩, List.mem_of_getElem? (i := 571) (by decide +kernel), List.mem_of_getElem? (i := 804) (by decide +kernel), List.mem_of_getElem? (i := 805) (by decide +kernel)⟩
theorem lw_p51 : lw_okq (⟨"ExamHallsModel", "isIn", "(II)Z"⟩, 14) := ⟨⟨by decide +kernel, by decide +kernel⟩, List.mem_of_getElem? (i := 571) (by decide +kernel), List.mem_of_getElem? (i := 808) (by decide +kernel), List.mem_of_getElem? (i := 809) (by decide +kernel)⟩
theorem lw_p52 : lw_okq (⟨"ExamHallsModel", "most", "(I)I"⟩, 14) := ⟨⟨by decide +kernel, by decide +kernel⟩, List.mem_of_getElem? (i := 571) (by decide +kernel), List.mem_of_getElem? (i := 812) (by decide +kernel), List.mem_of_getElem? (i := 813) (by decide +kernel)⟩
theorem lw_p53 : lw_okq (⟨"ExamHallsModel", "atMinute", "(II)I"⟩, 14) := ⟨⟨by decide +kernel, by decide +kernel⟩, List.mem_of_getElem? (i := 571) (by decide +kernel), List.mem_of_getElem? (i := 816) (by decide +kernel), List.mem_of_getElem? (i := 817) (by decide +kernel)⟩
theorem lw_p54 : lw_okq (⟨"ExamHallsModel", "sittings", "()I"⟩, 14) := ⟨⟨by decide +kernel, by decide +kernel⟩, List.mem_of_getElem? (i := 571) (by decide +kernel), List.mem_of_getElem? (i := 824) (by decide +kernel), List.mem_of_getElem? (i := 825) (by decide +kernel)⟩
theorem lw_p55 : lw_okq (⟨"ExamHallsModel", "clashes", "()I"⟩, 14) := ⟨⟨by decide +kernel, by decide +kernel⟩, List.mem_of_getElem? (i := 571) (by decide +kernel), List.mem_of_getElem? (i := 828) (by decide +kernel), List.mem_of_getElem? (i := 829) (by decide +kernel)⟩
theorem lw_p56 : lw_okq (⟨"ExamHallsModel", "openHalls", "()I"⟩, 14) := ⟨⟨by decide +kernel, by decide +kernel⟩, List.mem_of_getElem? (i := 571) (by decide +kernel), List.mem_of_getElem? (i := 832) (by decide +kernel), List.mem_of_getElem? (i := 833) (by decide +kernel)⟩
theorem lw_p57 : lw_okq (⟨"ExamHallsModel", "desksOf", "(I)I"⟩, 14) := ⟨⟨by decide +kernel, by decide +kernel⟩, List.mem_of_getElem? (i := 571) (by decide +kernel), List.mem_of_getElem? (i := 836) (by decide +kernel), List.mem_of_getElem? (i := 837) (by decide +kernel)⟩
theorem lw_p58 : lw_okq (⟨"ExamHallsModel", "lastEnd", "()I"⟩, 14) := ⟨⟨by decide +kernel, by decide +kernel⟩, List.mem_of_getElem? (i := 571) (by decide +kernel), List.mem_of_getElem? (i := 840) (by decide +kernel), List.mem_of_getElem? (i := 841) (by decide +kernel)⟩
theorem lw_p59 : lw_okq (⟨"ExamHallsModel", "keepTrial", "()V"⟩, 14) := ⟨⟨by decide +kernel, by decide +kernel⟩, List.mem_of_getElem? (i := 571) (by decide +kernel), List.mem_of_getElem? (i := 862) (by decide +kernel), List.mem_of_getElem? (i := 863) (by decide +kernel)⟩
theorem lw_p60 : lw_okq (⟨"ExamHallsModel", "putBack", "()V"⟩, 14) := ⟨⟨by decide +kernel, by decide +kernel⟩, List.mem_of_getElem? (i := 571) (by decide +kernel), List.mem_of_getElem? (i := 866) (by decide +kernel), List.mem_of_getElem? (i := 867) (by decide +kernel)⟩
def lw_privs_4 : List (MethodName × Nat) := [(⟨"ExamHallsModel", "ofSittings", "(II)I"⟩, 14), (⟨"ExamHallsModel", "clashesWith", "(I)I"⟩, 14), (⟨"ExamHallsModel", "seatedIn", "(I)I"⟩, 14), (⟨"ExamHallsModel", "isIn", "(II)Z"⟩, 14), (⟨"ExamHallsModel", "most", "(I)I"⟩, 14), (⟨"ExamHallsModel", "atMinute", "(II)I"⟩, 14), (⟨"ExamHallsModel", "sittings", "()I"⟩, 14), (⟨"ExamHallsModel", "clashes", "()I"⟩, 14), (⟨"ExamHallsModel", "openHalls", "()I"⟩, 14), (⟨"ExamHallsModel", "desksOf", "(I)I"⟩, 14), (⟨"ExamHallsModel", "lastEnd", "()I"⟩, 14), (⟨"ExamHallsModel", "keepTrial", "()V"⟩, 14), (⟨"ExamHallsModel", "putBack", "()V"⟩, 14)]
theorem lw_r4 : ∀ q ∈ lw_privs_4, lw_okq q := List.forall_mem_cons.mpr ⟨lw_p48, List.forall_mem_cons.mpr ⟨lw_p49, List.forall_mem_cons.mpr ⟨lw_p50, List.forall_mem_cons.mpr ⟨lw_p51, List.forall_mem_cons.mpr ⟨lw_p52, List.forall_mem_cons.mpr ⟨lw_p53, List.forall_mem_cons.mpr ⟨lw_p54, List.forall_mem_cons.mpr ⟨lw_p55, List.forall_mem_cons.mpr ⟨lw_p56, List.forall_mem_cons.mpr ⟨lw_p57, List.forall_mem_cons.mpr ⟨lw_p58, List.forall_mem_cons.mpr ⟨lw_p59, List.forall_mem_cons.mpr ⟨lw_p60, fun _ h => absurd h List.not_mem_nil⟩⟩⟩⟩⟩⟩⟩⟩⟩⟩⟩⟩⟩
def lw_privs : List (MethodName × Nat) := lw_privs_1 ++ (lw_privs_2 ++ (lw_privs_3 ++ (lw_privs_4)))
def lw_tbl : List Cond := k2_sels lw_privs ++ tables_1
theorem lw_privs_ok : ∀ q ∈ lw_privs, lw_okq q := by
  show ∀ q ∈ lw_privs_1 ++ (lw_privs_2 ++ (lw_privs_3 ++ (lw_privs_4))), lw_okq q
  exact List.forall_mem_append.mpr ⟨lw_r1, List.forall_mem_append.mpr ⟨lw_r2, List.forall_mem_append.mpr ⟨lw_r3, lw_r4⟩⟩⟩
def RX0 : String := "ExamHalls$History"
def TX0 : u_T := fun k => match k with
  | 0 => ("ExamHalls$History", "states", "[LExamHalls$School;", true)
  | _ => ("ExamHalls$History", "size", "I", false)
def tyX0 : Nat → FieldType := fun k => match k with
  | 0 => .array (.object "ExamHalls$School")
  | _ => .int
abbrev wsX00 : List Cond := u_ws RX0 TX0 2
theorem nmX0 : ∀ a, a < 2 → ∀ b, b < 2 → a ≠ b → (TX0 a).2.1 ≠ (TX0 b).2.1 := by decide +kernel
theorem tyX0_ok : ∀ k, k < 2 → parseFieldDescriptor (TX0 k).2.2.1 = some (tyX0 k) := by decide +kernel
abbrev cX0_init : ByteArray := prog_2_method_1_code
def yX0_init : MethodName := ⟨RX0, "<init>", "()V"⟩
abbrev cX0_remember : ByteArray := prog_2_method_2_code
def yX0_remember : MethodName := ⟨RX0, "remember", "(LExamHalls$School;)V"⟩
abbrev cX0_dropOldest : ByteArray := prog_2_method_3_code
def yX0_dropOldest : MethodName := ⟨RX0, "dropOldest", "()V"⟩
abbrev cX0_takeBack : ByteArray := prog_2_method_4_code
def yX0_takeBack : MethodName := ⟨RX0, "takeBack", "(LExamHalls$School;)V"⟩
def RX1 : String := "ExamHalls$Pad"
def TX1 : u_T := fun k => match k with
  | 0 => ("ExamHalls$Pad", "signs", "[I", true)
  | 1 => ("ExamHalls$Pad", "length", "I", false)
  | 2 => ("ExamHalls$Pad", "foundPapers", "[I", true)
  | 3 => ("ExamHalls$Pad", "foundExtras", "[I", true)
  | 4 => ("ExamHalls$Pad", "foundReaders", "[Z", true)
  | 5 => ("ExamHalls$Pad", "found", "I", false)
  | 6 => ("ExamHalls$Pad", "state", "I", false)
  | 7 => ("ExamHalls$Pad", "papers", "I", false)
  | 8 => ("ExamHalls$Pad", "extra", "I", false)
  | _ => ("ExamHalls$Pad", "needsReader", "Z", false)
def tyX1 : Nat → FieldType := fun k => match k with
  | 0 => .array .int
  | 1 => .int
  | 2 => .array .int
  | 3 => .array .int
  | 4 => .array .boolean
  | 5 => .int
  | 6 => .int
  | 7 => .int
  | 8 => .int
  | _ => .boolean
abbrev wsX10 : List Cond := u_ws RX1 TX1 10
theorem nmX1 : ∀ a, a < 10 → ∀ b, b < 10 → a ≠ b → (TX1 a).2.1 ≠ (TX1 b).2.1 := by decide +kernel
theorem tyX1_ok : ∀ k, k < 10 → parseFieldDescriptor (TX1 k).2.2.1 = some (tyX1 k) := by decide +kernel
abbrev cX1_init : ByteArray := prog_3_method_1_code
def yX1_init : MethodName := ⟨RX1, "<init>", "()V"⟩
abbrev cX1_append : ByteArray := prog_3_method_2_code
def yX1_append : MethodName := ⟨RX1, "append", "(JI)V"⟩
abbrev cX1_findFault : ByteArray := prog_3_method_3_code
def yX1_findFault : MethodName := ⟨RX1, "findFault", "()I"⟩
abbrev cX1_beginPupil : ByteArray := prog_3_method_4_code
def yX1_beginPupil : MethodName := ⟨RX1, "beginPupil", "()V"⟩
abbrev cX1_endPupil : ByteArray := prog_3_method_5_code
def yX1_endPupil : MethodName := ⟨RX1, "endPupil", "()V"⟩
abbrev cX1_takes : ByteArray := prog_3_method_6_code
def yX1_takes : MethodName := ⟨RX1, "takes", "(I)Z"⟩
abbrev cX1_mayEnd : ByteArray := prog_3_method_7_code
def yX1_mayEnd : MethodName := ⟨RX1, "mayEnd", "()Z"⟩
abbrev cX1_takesSemicolon : ByteArray := prog_3_method_8_code
def yX1_takesSemicolon : MethodName := ⟨RX1, "takesSemicolon", "()Z"⟩
abbrev cX1_takesPlus : ByteArray := prog_3_method_9_code
def yX1_takesPlus : MethodName := ⟨RX1, "takesPlus", "()Z"⟩
abbrev cX1_takesReader : ByteArray := prog_3_method_10_code
def yX1_takesReader : MethodName := ⟨RX1, "takesReader", "()Z"⟩
abbrev cX1_takesDigit : ByteArray := prog_3_method_11_code
def yX1_takesDigit : MethodName := ⟨RX1, "takesDigit", "(I)Z"⟩
abbrev cX1_takesLetter : ByteArray := prog_3_method_12_code
def yX1_takesLetter : MethodName := ⟨RX1, "takesLetter", "(I)Z"⟩
def RX2 : String := "ExamHalls$School"
def TX2 : u_T := fun k => match k with
  | 0 => ("ExamHalls$School", "settings", "[I", true)
  | 1 => ("ExamHalls$School", "starts", "[I", true)
  | 2 => ("ExamHalls$School", "minutes", "[I", true)
  | 3 => ("ExamHalls$School", "papers", "[I", true)
  | 4 => ("ExamHalls$School", "extras", "[I", true)
  | 5 => ("ExamHalls$School", "readers", "[Z", true)
  | 6 => ("ExamHalls$School", "rows", "[I", true)
  | 7 => ("ExamHalls$School", "columns", "[I", true)
  | 8 => ("ExamHalls$School", "pupils", "I", false)
  | _ => ("ExamHalls$School", "openHalls", "I", false)
def tyX2 : Nat → FieldType := fun k => match k with
  | 0 => .array .int
  | 1 => .array .int
  | 2 => .array .int
  | 3 => .array .int
  | 4 => .array .int
  | 5 => .array .boolean
  | 6 => .array .int
  | 7 => .array .int
  | 8 => .int
  | _ => .int
abbrev wsX20 : List Cond := u_ws RX2 TX2 10
theorem nmX2 : ∀ a, a < 10 → ∀ b, b < 10 → a ≠ b → (TX2 a).2.1 ≠ (TX2 b).2.1 := by decide +kernel
theorem tyX2_ok : ∀ k, k < 10 → parseFieldDescriptor (TX2 k).2.2.1 = some (tyX2 k) := by decide +kernel
abbrev cX2_init : ByteArray := prog_4_method_1_code
def yX2_init : MethodName := ⟨RX2, "<init>", "()V"⟩
abbrev cX2_copyFrom : ByteArray := prog_4_method_2_code
def yX2_copyFrom : MethodName := ⟨RX2, "copyFrom", "(LExamHalls$School;)V"⟩
abbrev cX2_addPupil : ByteArray := prog_4_method_3_code
def yX2_addPupil : MethodName := ⟨RX2, "addPupil", "(IIZ)V"⟩
abbrev cX2_writePupil : ByteArray := prog_4_method_4_code
def yX2_writePupil : MethodName := ⟨RX2, "writePupil", "(IIIZ)V"⟩
abbrev cX2_removePupil : ByteArray := prog_4_method_5_code
def yX2_removePupil : MethodName := ⟨RX2, "removePupil", "(I)V"⟩
abbrev cX2_sits : ByteArray := prog_4_method_6_code
def yX2_sits : MethodName := ⟨RX2, "sits", "(II)Z"⟩
abbrev cX2_beginOf : ByteArray := prog_4_method_7_code
def yX2_beginOf : MethodName := ⟨RX2, "beginOf", "(I)I"⟩
abbrev cX2_lengthOf : ByteArray := prog_4_method_8_code
def yX2_lengthOf : MethodName := ⟨RX2, "lengthOf", "(II)I"⟩
abbrev cX2_endOf : ByteArray := prog_4_method_9_code
def yX2_endOf : MethodName := ⟨RX2, "endOf", "(II)I"⟩
abbrev cX2_isSatAt : ByteArray := prog_4_method_10_code
def yX2_isSatAt : MethodName := ⟨RX2, "isSatAt", "(III)Z"⟩
abbrev cX2_sittings : ByteArray := prog_4_method_11_code
def yX2_sittings : MethodName := ⟨RX2, "sittings", "()I"⟩
abbrev cX2_minutesOf : ByteArray := prog_4_method_12_code
def yX2_minutesOf : MethodName := ⟨RX2, "minutesOf", "(I)I"⟩
abbrev cX2_pupilsOf : ByteArray := prog_4_method_13_code
def yX2_pupilsOf : MethodName := ⟨RX2, "pupilsOf", "(I)I"⟩
abbrev cX2_clashingPapers : ByteArray := prog_4_method_14_code
def yX2_clashingPapers : MethodName := ⟨RX2, "clashingPapers", "(II)I"⟩
abbrev cX2_clashesOf : ByteArray := prog_4_method_15_code
def yX2_clashesOf : MethodName := ⟨RX2, "clashesOf", "(I)I"⟩
abbrev cX2_clashes : ByteArray := prog_4_method_16_code
def yX2_clashes : MethodName := ⟨RX2, "clashes", "()I"⟩
abbrev cX2_lastEndOf : ByteArray := prog_4_method_17_code
def yX2_lastEndOf : MethodName := ⟨RX2, "lastEndOf", "(I)I"⟩
abbrev cX2_lastEnd : ByteArray := prog_4_method_18_code
def yX2_lastEnd : MethodName := ⟨RX2, "lastEnd", "()I"⟩
abbrev cX2_mostReaders : ByteArray := prog_4_method_19_code
def yX2_mostReaders : MethodName := ⟨RX2, "mostReaders", "()I"⟩
abbrev cX2_readersAt : ByteArray := prog_4_method_20_code
def yX2_readersAt : MethodName := ⟨RX2, "readersAt", "(I)I"⟩
abbrev cX2_isOpen : ByteArray := prog_4_method_21_code
def yX2_isOpen : MethodName := ⟨RX2, "isOpen", "(I)Z"⟩
abbrev cX2_desksOf : ByteArray := prog_4_method_22_code
def yX2_desksOf : MethodName := ⟨RX2, "desksOf", "(I)I"⟩
abbrev cX2_openDesks : ByteArray := prog_4_method_23_code
def yX2_openDesks : MethodName := ⟨RX2, "openDesks", "()I"⟩
def RX3 : String := "ExamHalls$Seating"
def TX3 : u_T := fun k => match k with
  | 0 => ("ExamHalls$Seating", "school", "LExamHalls$School;", true)
  | 1 => ("ExamHalls$Seating", "halls", "[I", true)
  | 2 => ("ExamHalls$Seating", "desks", "[I", true)
  | 3 => ("ExamHalls$Seating", "rooms", "[I", true)
  | 4 => ("ExamHalls$Seating", "unplaced", "I", false)
  | 5 => ("ExamHalls$Seating", "unplacedReaders", "I", false)
  | 6 => ("ExamHalls$Seating", "deskEnds", "[I", true)
  | 7 => ("ExamHalls$Seating", "deskPapers", "[I", true)
  | _ => ("ExamHalls$Seating", "roomEnds", "[I", true)
def tyX3 : Nat → FieldType := fun k => match k with
  | 0 => .object "ExamHalls$School"
  | 1 => .array .int
  | 2 => .array .int
  | 3 => .array .int
  | 4 => .int
  | 5 => .int
  | 6 => .array .int
  | 7 => .array .int
  | _ => .array .int
abbrev wsX30 : List Cond := u_ws RX3 TX3 9
theorem nmX3 : ∀ a, a < 9 → ∀ b, b < 9 → a ≠ b → (TX3 a).2.1 ≠ (TX3 b).2.1 := by decide +kernel
theorem tyX3_ok : ∀ k, k < 9 → parseFieldDescriptor (TX3 k).2.2.1 = some (tyX3 k) := by decide +kernel
abbrev cX3_init : ByteArray := prog_5_method_1_code
def yX3_init : MethodName := ⟨RX3, "<init>", "()V"⟩
abbrev cX3_seatAll : ByteArray := prog_5_method_2_code
def yX3_seatAll : MethodName := ⟨RX3, "seatAll", "()V"⟩
abbrev cX3_clear : ByteArray := prog_5_method_3_code
def yX3_clear : MethodName := ⟨RX3, "clear", "()V"⟩
abbrev cX3_seatPupils : ByteArray := prog_5_method_4_code
def yX3_seatPupils : MethodName := ⟨RX3, "seatPupils", "(I)V"⟩
abbrev cX3_seatInRoom : ByteArray := prog_5_method_5_code
def yX3_seatInRoom : MethodName := ⟨RX3, "seatInRoom", "(II)V"⟩
abbrev cX3_seatAtDesk : ByteArray := prog_5_method_6_code
def yX3_seatAtDesk : MethodName := ⟨RX3, "seatAtDesk", "(II)V"⟩
abbrev cX3_firstDesk : ByteArray := prog_5_method_7_code
def yX3_firstDesk : MethodName := ⟨RX3, "firstDesk", "(II)I"⟩
abbrev cX3_isEarlyEnough : ByteArray := prog_5_method_8_code
def yX3_isEarlyEnough : MethodName := ⟨RX3, "isEarlyEnough", "(II)Z"⟩
abbrev cX3_isBeside : ByteArray := prog_5_method_9_code
def yX3_isBeside : MethodName := ⟨RX3, "isBeside", "(IIII)Z"⟩
abbrev cX3_isUnplaced : ByteArray := prog_5_method_10_code
def yX3_isUnplaced : MethodName := ⟨RX3, "isUnplaced", "(II)Z"⟩
abbrev cX3_unplacedPapersOf : ByteArray := prog_5_method_11_code
def yX3_unplacedPapersOf : MethodName := ⟨RX3, "unplacedPapersOf", "(I)I"⟩
abbrev cX3_unplacedOf : ByteArray := prog_5_method_12_code
def yX3_unplacedOf : MethodName := ⟨RX3, "unplacedOf", "(I)I"⟩
abbrev cX3_hallsOf : ByteArray := prog_5_method_13_code
def yX3_hallsOf : MethodName := ⟨RX3, "hallsOf", "(I)I"⟩
abbrev cX3_seatedIn : ByteArray := prog_5_method_14_code
def yX3_seatedIn : MethodName := ⟨RX3, "seatedIn", "(I)I"⟩
abbrev cX3_mostTakenIn : ByteArray := prog_5_method_15_code
def yX3_mostTakenIn : MethodName := ⟨RX3, "mostTakenIn", "(I)I"⟩
abbrev cX3_takenIn : ByteArray := prog_5_method_16_code
def yX3_takenIn : MethodName := ⟨RX3, "takenIn", "(II)I"⟩
abbrev cX3_sittingAt : ByteArray := prog_5_method_17_code
def yX3_sittingAt : MethodName := ⟨RX3, "sittingAt", "(III)I"⟩
abbrev cX3_isNow : ByteArray := prog_5_method_18_code
def yX3_isNow : MethodName := ⟨RX3, "isNow", "(II)Z"⟩
def RX4 : String := "ExamHalls"
def TX4 : u_T := fun k => match k with
  | 0 => ("ExamHalls", "seating", "LExamHalls$Seating;", true)
  | 1 => ("ExamHalls", "school", "LExamHalls$School;", true)
  | 2 => ("ExamHalls", "trialSeating", "LExamHalls$Seating;", true)
  | 3 => ("ExamHalls", "trial", "LExamHalls$School;", true)
  | 4 => ("ExamHalls", "pad", "LExamHalls$Pad;", true)
  | 5 => ("ExamHalls", "history", "LExamHalls$History;", true)
  | 6 => ("ExamHalls", "slots", "[LExamHalls$School;", true)
  | _ => ("ExamHalls", "slotIsUsed", "[Z", true)
def tyX4 : Nat → FieldType := fun k => match k with
  | 0 => .object "ExamHalls$Seating"
  | 1 => .object "ExamHalls$School"
  | 2 => .object "ExamHalls$Seating"
  | 3 => .object "ExamHalls$School"
  | 4 => .object "ExamHalls$Pad"
  | 5 => .object "ExamHalls$History"
  | 6 => .array (.object "ExamHalls$School")
  | _ => .array .boolean
abbrev wsX40 : List Cond := u_ws RX4 TX4 8
theorem nmX4 : ∀ a, a < 8 → ∀ b, b < 8 → a ≠ b → (TX4 a).2.1 ≠ (TX4 b).2.1 := by decide +kernel
theorem tyX4_ok : ∀ k, k < 8 → parseFieldDescriptor (TX4 k).2.2.1 = some (tyX4 k) := by decide +kernel
abbrev cX4_init : ByteArray := prog_1_method_1_code
def yX4_init : MethodName := ⟨RX4, "<init>", "()V"⟩
abbrev cX4_set : ByteArray := prog_1_method_2_code
def yX4_set : MethodName := ⟨RX4, "set", "(II)I"⟩
abbrev cX4_paper : ByteArray := prog_1_method_3_code
def yX4_paper : MethodName := ⟨RX4, "paper", "(III)I"⟩
abbrev cX4_pupil : ByteArray := prog_1_method_4_code
def yX4_pupil : MethodName := ⟨RX4, "pupil", "(IIZ)I"⟩
abbrev cX4_read : ByteArray := prog_1_method_5_code
def yX4_read : MethodName := ⟨RX4, "read", "()I"⟩
abbrev cX4_change : ByteArray := prog_1_method_6_code
def yX4_change : MethodName := ⟨RX4, "change", "(IIIZ)I"⟩
abbrev cX4_leave : ByteArray := prog_1_method_7_code
def yX4_leave : MethodName := ⟨RX4, "leave", "(I)I"⟩
abbrev cX4_hall : ByteArray := prog_1_method_8_code
def yX4_hall : MethodName := ⟨RX4, "hall", "(III)I"⟩
abbrev cX4_open : ByteArray := prog_1_method_9_code
def yX4_open : MethodName := ⟨RX4, "open", "(IZ)I"⟩
abbrev cX4_pupilOf : ByteArray := prog_1_method_10_code
def yX4_pupilOf : MethodName := ⟨RX4, "pupilOf", "(II)I"⟩
abbrev cX4_paperOf : ByteArray := prog_1_method_11_code
def yX4_paperOf : MethodName := ⟨RX4, "paperOf", "(II)I"⟩
abbrev cX4_sitting : ByteArray := prog_1_method_12_code
def yX4_sitting : MethodName := ⟨RX4, "sitting", "(III)I"⟩
abbrev cX4_hallOf : ByteArray := prog_1_method_13_code
def yX4_hallOf : MethodName := ⟨RX4, "hallOf", "(II)I"⟩
abbrev cX4_count : ByteArray := prog_1_method_14_code
def yX4_count : MethodName := ⟨RX4, "count", "(I)I"⟩
abbrev cX4_at : ByteArray := prog_1_method_15_code
def yX4_at : MethodName := ⟨RX4, "at", "(III)I"⟩
abbrev cX4_ifStart : ByteArray := prog_1_method_16_code
def yX4_ifStart : MethodName := ⟨RX4, "ifStart", "(III)I"⟩
abbrev cX4_bestStart : ByteArray := prog_1_method_17_code
def yX4_bestStart : MethodName := ⟨RX4, "bestStart", "(I)I"⟩
abbrev cX4_bestHalls : ByteArray := prog_1_method_18_code
def yX4_bestHalls : MethodName := ⟨RX4, "bestHalls", "(I)I"⟩
abbrev cX4_leastRooms : ByteArray := prog_1_method_19_code
def yX4_leastRooms : MethodName := ⟨RX4, "leastRooms", "()I"⟩
abbrev cX4_put : ByteArray := prog_1_method_20_code
def yX4_put : MethodName := ⟨RX4, "put", "(J)I"⟩
abbrev cX4_wipe : ByteArray := prog_1_method_21_code
def yX4_wipe : MethodName := ⟨RX4, "wipe", "()I"⟩
abbrev cX4_fault : ByteArray := prog_1_method_22_code
def yX4_fault : MethodName := ⟨RX4, "fault", "()I"⟩
abbrev cX4_undo : ByteArray := prog_1_method_23_code
def yX4_undo : MethodName := ⟨RX4, "undo", "()I"⟩
abbrev cX4_save : ByteArray := prog_1_method_24_code
def yX4_save : MethodName := ⟨RX4, "save", "(I)I"⟩
abbrev cX4_restore : ByteArray := prog_1_method_25_code
def yX4_restore : MethodName := ⟨RX4, "restore", "(I)I"⟩
abbrev cX4_isWithin : ByteArray := prog_1_method_26_code
def yX4_isWithin : MethodName := ⟨RX4, "isWithin", "(III)Z"⟩
abbrev cX4_isPaper : ByteArray := prog_1_method_27_code
def yX4_isPaper : MethodName := ⟨RX4, "isPaper", "(I)Z"⟩
abbrev cX4_isStart : ByteArray := prog_1_method_28_code
def yX4_isStart : MethodName := ⟨RX4, "isStart", "(I)Z"⟩
abbrev cX4_isHall : ByteArray := prog_1_method_29_code
def yX4_isHall : MethodName := ⟨RX4, "isHall", "(I)Z"⟩
abbrev cX4_isSlot : ByteArray := prog_1_method_30_code
def yX4_isSlot : MethodName := ⟨RX4, "isSlot", "(I)Z"⟩
abbrev cX4_isPupilData : ByteArray := prog_1_method_31_code
def yX4_isPupilData : MethodName := ⟨RX4, "isPupilData", "(II)Z"⟩
abbrev cX4_isPupil : ByteArray := prog_1_method_32_code
def yX4_isPupil : MethodName := ⟨RX4, "isPupil", "(I)Z"⟩
abbrev cX4_charactersIn : ByteArray := prog_1_method_33_code
def yX4_charactersIn : MethodName := ⟨RX4, "charactersIn", "(J)I"⟩
abbrev cX4_sittingNumber : ByteArray := prog_1_method_34_code
def yX4_sittingNumber : MethodName := ⟨RX4, "sittingNumber", "(II)I"⟩
abbrev cX4_contains : ByteArray := prog_1_method_35_code
def yX4_contains : MethodName := ⟨RX4, "contains", "(II)Z"⟩
def RX5 : String := "ExamHallsModel"
def TX5 : u_T := fun k => match k with
  | 0 => ("ExamHallsModel", "s", "[I", true)
  | 1 => ("ExamHallsModel", "spare", "[I", true)
  | 2 => ("ExamHallsModel", "trial", "[I", true)
  | 3 => ("ExamHallsModel", "before", "[I", true)
  | 4 => ("ExamHallsModel", "saved", "[I", true)
  | 5 => ("ExamHallsModel", "isSaved", "[Z", true)
  | 6 => ("ExamHallsModel", "seat", "[I", true)
  | 7 => ("ExamHallsModel", "read", "[I", true)
  | 8 => ("ExamHallsModel", "pad", "[C", true)
  | 9 => ("ExamHallsModel", "isSeated", "Z", false)
  | 10 => ("ExamHallsModel", "length", "I", false)
  | 11 => ("ExamHallsModel", "states", "I", false)
  | 12 => ("ExamHallsModel", "told", "I", false)
  | _ => ("ExamHallsModel", "at", "I", false)
def tyX5 : Nat → FieldType := fun k => match k with
  | 0 => .array .int
  | 1 => .array .int
  | 2 => .array .int
  | 3 => .array .int
  | 4 => .array .int
  | 5 => .array .boolean
  | 6 => .array .int
  | 7 => .array .int
  | 8 => .array .char
  | 9 => .boolean
  | 10 => .int
  | 11 => .int
  | 12 => .int
  | _ => .int
abbrev wsX50 : List Cond := u_ws RX5 TX5 14
theorem nmX5 : ∀ a, a < 14 → ∀ b, b < 14 → a ≠ b → (TX5 a).2.1 ≠ (TX5 b).2.1 := by decide +kernel
theorem tyX5_ok : ∀ k, k < 14 → parseFieldDescriptor (TX5 k).2.2.1 = some (tyX5 k) := by decide +kernel
abbrev cX5_init : ByteArray := prog_7_method_1_code
def yX5_init : MethodName := ⟨RX5, "<init>", "()V"⟩
abbrev cX5_in : ByteArray := prog_7_method_2_code
def yX5_in : MethodName := ⟨RX5, "in", "(III)Z"⟩
abbrev cX5_p : ByteArray := prog_7_method_3_code
def yX5_p : MethodName := ⟨RX5, "p", "(I)I"⟩
abbrev cX5_h : ByteArray := prog_7_method_4_code
def yX5_h : MethodName := ⟨RX5, "h", "(I)I"⟩
abbrev cX5_isPaper : ByteArray := prog_7_method_5_code
def yX5_isPaper : MethodName := ⟨RX5, "isPaper", "(I)Z"⟩
abbrev cX5_isHall : ByteArray := prog_7_method_6_code
def yX5_isHall : MethodName := ⟨RX5, "isHall", "(I)Z"⟩
abbrev cX5_isPupil : ByteArray := prog_7_method_7_code
def yX5_isPupil : MethodName := ⟨RX5, "isPupil", "(I)Z"⟩
abbrev cX5_hold : ByteArray := prog_7_method_8_code
def yX5_hold : MethodName := ⟨RX5, "hold", "()V"⟩
abbrev cX5_recorded : ByteArray := prog_7_method_9_code
def yX5_recorded : MethodName := ⟨RX5, "recorded", "(I)I"⟩
abbrev cX5_keepTrial : ByteArray := prog_7_method_10_code
def yX5_keepTrial : MethodName := ⟨RX5, "keepTrial", "()V"⟩
abbrev cX5_putBack : ByteArray := prog_7_method_11_code
def yX5_putBack : MethodName := ⟨RX5, "putBack", "()V"⟩
abbrev cX5_isSitting : ByteArray := prog_7_method_12_code
def yX5_isSitting : MethodName := ⟨RX5, "isSitting", "(I)Z"⟩
abbrev cX5_begins : ByteArray := prog_7_method_13_code
def yX5_begins : MethodName := ⟨RX5, "begins", "(I)I"⟩
abbrev cX5_minutes : ByteArray := prog_7_method_14_code
def yX5_minutes : MethodName := ⟨RX5, "minutes", "(I)I"⟩
abbrev cX5_ends : ByteArray := prog_7_method_15_code
def yX5_ends : MethodName := ⟨RX5, "ends", "(I)I"⟩
abbrev cX5_needsReader : ByteArray := prog_7_method_16_code
def yX5_needsReader : MethodName := ⟨RX5, "needsReader", "(I)Z"⟩
abbrev cX5_clash : ByteArray := prog_7_method_17_code
def yX5_clash : MethodName := ⟨RX5, "clash", "(II)Z"⟩
abbrev cX5_isFree : ByteArray := prog_7_method_18_code
def yX5_isFree : MethodName := ⟨RX5, "isFree", "(II)Z"⟩
abbrev cX5_has : ByteArray := prog_7_method_19_code
def yX5_has : MethodName := ⟨RX5, "has", "(II)Z"⟩
abbrev cX5_isAlone : ByteArray := prog_7_method_20_code
def yX5_isAlone : MethodName := ⟨RX5, "isAlone", "(III)Z"⟩
abbrev cX5_desks : ByteArray := prog_7_method_21_code
def yX5_desks : MethodName := ⟨RX5, "desks", "(I)I"⟩
abbrev cX5_desksAt : ByteArray := prog_7_method_22_code
def yX5_desksAt : MethodName := ⟨RX5, "desksAt", "(IZ)I"⟩
abbrev cX5_deskFor : ByteArray := prog_7_method_23_code
def yX5_deskFor : MethodName := ⟨RX5, "deskFor", "(I)I"⟩
abbrev cX5_roomFor : ByteArray := prog_7_method_24_code
def yX5_roomFor : MethodName := ⟨RX5, "roomFor", "(I)I"⟩
abbrev cX5_seats : ByteArray := prog_7_method_25_code
def yX5_seats : MethodName := ⟨RX5, "seats", "()V"⟩
abbrev cX5_without : ByteArray := prog_7_method_26_code
def yX5_without : MethodName := ⟨RX5, "without", "(I)I"⟩
abbrev cX5_clashesOf : ByteArray := prog_7_method_27_code
def yX5_clashesOf : MethodName := ⟨RX5, "clashesOf", "(I)I"⟩
abbrev cX5_clashes : ByteArray := prog_7_method_28_code
def yX5_clashes : MethodName := ⟨RX5, "clashes", "()I"⟩
abbrev cX5_lastEnd : ByteArray := prog_7_method_29_code
def yX5_lastEnd : MethodName := ⟨RX5, "lastEnd", "()I"⟩
abbrev cX5_set : ByteArray := prog_7_method_30_code
def yX5_set : MethodName := ⟨RX5, "set", "(II)I"⟩
abbrev cX5_paper : ByteArray := prog_7_method_31_code
def yX5_paper : MethodName := ⟨RX5, "paper", "(III)I"⟩
abbrev cX5_puts : ByteArray := prog_7_method_32_code
def yX5_puts : MethodName := ⟨RX5, "puts", "(IIII)V"⟩
abbrev cX5_pupil : ByteArray := prog_7_method_33_code
def yX5_pupil : MethodName := ⟨RX5, "pupil", "(IIZ)I"⟩
abbrev cX5_change : ByteArray := prog_7_method_34_code
def yX5_change : MethodName := ⟨RX5, "change", "(IIIZ)I"⟩
abbrev cX5_leave : ByteArray := prog_7_method_35_code
def yX5_leave : MethodName := ⟨RX5, "leave", "(I)I"⟩
abbrev cX5_hall : ByteArray := prog_7_method_36_code
def yX5_hall : MethodName := ⟨RX5, "hall", "(III)I"⟩
abbrev cX5_open : ByteArray := prog_7_method_37_code
def yX5_open : MethodName := ⟨RX5, "open", "(IZ)I"⟩
abbrev cX5_isSign : ByteArray := prog_7_method_38_code
def yX5_isSign : MethodName := ⟨RX5, "isSign", "(CC)Z"⟩
abbrev cX5_accepts : ByteArray := prog_7_method_39_code
def yX5_accepts : MethodName := ⟨RX5, "accepts", "(C)Z"⟩
abbrev cX5_letters : ByteArray := prog_7_method_40_code
def yX5_letters : MethodName := ⟨RX5, "letters", "()I"⟩
abbrev cX5_number : ByteArray := prog_7_method_41_code
def yX5_number : MethodName := ⟨RX5, "number", "()I"⟩
abbrev cX5_readsPupil : ByteArray := prog_7_method_42_code
def yX5_readsPupil : MethodName := ⟨RX5, "readsPupil", "()Z"⟩
abbrev cX5_faultOf : ByteArray := prog_7_method_43_code
def yX5_faultOf : MethodName := ⟨RX5, "faultOf", "()I"⟩
abbrev cX5_read : ByteArray := prog_7_method_44_code
def yX5_read : MethodName := ⟨RX5, "read", "()I"⟩
abbrev cX5_unseated : ByteArray := prog_7_method_45_code
def yX5_unseated : MethodName := ⟨RX5, "unseated", "(I)I"⟩
abbrev cX5_allMinutes : ByteArray := prog_7_method_46_code
def yX5_allMinutes : MethodName := ⟨RX5, "allMinutes", "(I)I"⟩
abbrev cX5_pupilOf : ByteArray := prog_7_method_47_code
def yX5_pupilOf : MethodName := ⟨RX5, "pupilOf", "(II)I"⟩
abbrev cX5_ofSittings : ByteArray := prog_7_method_48_code
def yX5_ofSittings : MethodName := ⟨RX5, "ofSittings", "(II)I"⟩
abbrev cX5_paperOf : ByteArray := prog_7_method_49_code
def yX5_paperOf : MethodName := ⟨RX5, "paperOf", "(II)I"⟩
abbrev cX5_clashesWith : ByteArray := prog_7_method_50_code
def yX5_clashesWith : MethodName := ⟨RX5, "clashesWith", "(I)I"⟩
abbrev cX5_sitting : ByteArray := prog_7_method_51_code
def yX5_sitting : MethodName := ⟨RX5, "sitting", "(III)I"⟩
abbrev cX5_isIn : ByteArray := prog_7_method_52_code
def yX5_isIn : MethodName := ⟨RX5, "isIn", "(II)Z"⟩
abbrev cX5_atMinute : ByteArray := prog_7_method_53_code
def yX5_atMinute : MethodName := ⟨RX5, "atMinute", "(II)I"⟩
abbrev cX5_most : ByteArray := prog_7_method_54_code
def yX5_most : MethodName := ⟨RX5, "most", "(I)I"⟩
abbrev cX5_seatedIn : ByteArray := prog_7_method_55_code
def yX5_seatedIn : MethodName := ⟨RX5, "seatedIn", "(I)I"⟩
abbrev cX5_hallOf : ByteArray := prog_7_method_56_code
def yX5_hallOf : MethodName := ⟨RX5, "hallOf", "(II)I"⟩
abbrev cX5_sittings : ByteArray := prog_7_method_57_code
def yX5_sittings : MethodName := ⟨RX5, "sittings", "()I"⟩
abbrev cX5_openHalls : ByteArray := prog_7_method_58_code
def yX5_openHalls : MethodName := ⟨RX5, "openHalls", "()I"⟩
abbrev cX5_desksOf : ByteArray := prog_7_method_59_code
def yX5_desksOf : MethodName := ⟨RX5, "desksOf", "(I)I"⟩
abbrev cX5_count : ByteArray := prog_7_method_60_code
def yX5_count : MethodName := ⟨RX5, "count", "(I)I"⟩
abbrev cX5_at : ByteArray := prog_7_method_61_code
def yX5_at : MethodName := ⟨RX5, "at", "(III)I"⟩
abbrev cX5_ifStart : ByteArray := prog_7_method_62_code
def yX5_ifStart : MethodName := ⟨RX5, "ifStart", "(III)I"⟩
abbrev cX5_bestStart : ByteArray := prog_7_method_63_code
def yX5_bestStart : MethodName := ⟨RX5, "bestStart", "(I)I"⟩
abbrev cX5_bestHalls : ByteArray := prog_7_method_64_code
def yX5_bestHalls : MethodName := ⟨RX5, "bestHalls", "(I)I"⟩
abbrev cX5_leastRooms : ByteArray := prog_7_method_65_code
def yX5_leastRooms : MethodName := ⟨RX5, "leastRooms", "()I"⟩
abbrev cX5_put : ByteArray := prog_7_method_66_code
def yX5_put : MethodName := ⟨RX5, "put", "(J)I"⟩
abbrev cX5_wipe : ByteArray := prog_7_method_67_code
def yX5_wipe : MethodName := ⟨RX5, "wipe", "()I"⟩
abbrev cX5_fault : ByteArray := prog_7_method_68_code
def yX5_fault : MethodName := ⟨RX5, "fault", "()I"⟩
abbrev cX5_undo : ByteArray := prog_7_method_69_code
def yX5_undo : MethodName := ⟨RX5, "undo", "()I"⟩
abbrev cX5_save : ByteArray := prog_7_method_70_code
def yX5_save : MethodName := ⟨RX5, "save", "(I)I"⟩
abbrev cX5_restore : ByteArray := prog_7_method_71_code
def yX5_restore : MethodName := ⟨RX5, "restore", "(I)I"⟩
def RJ6 : String := "java/lang/Integer"
def TJ6 : u_T := fun k => match k with
  | _ => ("", "", "", false)
def tyJ6 : Nat → FieldType := fun k => match k with
  | _ => .int
abbrev wsJ60 : List Cond := u_ws RJ6 TJ6 0
theorem nmJ6 : ∀ a, a < 0 → ∀ b, b < 0 → a ≠ b → (TJ6 a).2.1 ≠ (TJ6 b).2.1 := by decide +kernel
theorem tyJ6_ok : ∀ k, k < 0 → parseFieldDescriptor (TJ6 k).2.2.1 = some (tyJ6 k) := by decide +kernel
abbrev cJ6_bitCount_0f7a4 : ByteArray := prog_8_method_49_code
def yJ6_bitCount_0f7a4 : MethodName := ⟨RJ6, "bitCount", "(I)I"⟩
def RJ9 : String := "java/lang/Math"
def TJ9 : u_T := fun k => match k with
  | _ => ("", "", "", false)
def tyJ9 : Nat → FieldType := fun k => match k with
  | _ => .int
abbrev wsJ90 : List Cond := u_ws RJ9 TJ9 0
theorem nmJ9 : ∀ a, a < 0 → ∀ b, b < 0 → a ≠ b → (TJ9 a).2.1 ≠ (TJ9 b).2.1 := by decide +kernel
theorem tyJ9_ok : ∀ k, k < 0 → parseFieldDescriptor (TJ9 k).2.2.1 = some (tyJ9 k) := by decide +kernel
abbrev cJ9_max_7cf53 : ByteArray := prog_9_method_65_code
def yJ9_max_7cf53 : MethodName := ⟨RJ9, "max", "(II)I"⟩
def RL : String := "ExamHallsLaw"
abbrev cL_law : ByteArray := code
def yL_law : MethodName := ⟨RL, "law", "([I)Z"⟩
abbrev vwCl : List vw_C := [(RX0, TX0, 2), (RX1, TX1, 10), (RX2, TX2, 10), (RX3, TX3, 9), (RX4, TX4, 8), (RX5, TX5, 14)]
end
section
def TB0 : List Cond := [.code yX2_init cX2_init 1 none, .methodLink RX2 3 objectInit, .instanceMethod objectInit, .code objectInit ⟨#[0xb1]⟩ 1 none, .arrayClass .int, .fieldLink RX2 9 "ExamHalls$School" "settings" "[I", .fieldLink RX2 15 "ExamHalls$School" "starts" "[I", .fieldLink RX2 18 "ExamHalls$School" "minutes" "[I", .fieldLink RX2 21 "ExamHalls$School" "papers" "[I", .fieldLink RX2 24 "ExamHalls$School" "extras" "[I", .arrayClass .boolean, .fieldLink RX2 27 "ExamHalls$School" "readers" "[Z", .fieldLink RX2 31 "ExamHalls$School" "rows" "[I", .fieldLink RX2 34 "ExamHalls$School" "columns" "[I", .fieldLink RX2 37 "ExamHalls$School" "pupils" "I", .fieldLink RX2 41 "ExamHalls$School" "openHalls" "I", .code yX0_init cX0_init 2 none, .methodLink RX0 3 objectInit, .classLink RX0 9 RX2, .fieldLink RX0 11 "ExamHalls$History" "states" "[LExamHalls$School;", .fieldLink RX0 17 "ExamHalls$History" "size" "I", .instantiable RX2 10, .initialized RX2, .instanceMethod yX2_init, .code yX0_dropOldest cX0_dropOldest 3 none, .code yX2_copyFrom cX2_copyFrom 3 none, .code yX0_remember cX0_remember 2 none, .methodLink RX0 22 yX0_dropOldest, .instanceMethod yX0_dropOldest, .selects RX0 yX0_dropOldest yX0_dropOldest, .initialized RX0, .methodLink RX0 25 yX2_copyFrom, .instanceMethod yX2_copyFrom, .selects RX2 yX2_copyFrom yX2_copyFrom, .code yX0_takeBack cX0_takeBack 2 none, .code yX1_init cX1_init 1 none, .methodLink RX1 3 objectInit, .fieldLink RX1 9 "ExamHalls$Pad" "signs" "[I", .fieldLink RX1 15 "ExamHalls$Pad" "length" "I", .fieldLink RX1 19 "ExamHalls$Pad" "foundPapers" "[I"]
def TB1 : List Cond := [.fieldLink RX1 22 "ExamHalls$Pad" "foundExtras" "[I", .fieldLink RX1 25 "ExamHalls$Pad" "foundReaders" "[Z", .fieldLink RX1 29 "ExamHalls$Pad" "found" "I", .fieldLink RX1 32 "ExamHalls$Pad" "state" "I", .fieldLink RX1 35 "ExamHalls$Pad" "papers" "I", .fieldLink RX1 38 "ExamHalls$Pad" "extra" "I", .fieldLink RX1 41 "ExamHalls$Pad" "needsReader" "Z", .code yX1_append cX1_append 5 none, .constantLong RX1 45 (255), .code yX1_beginPupil cX1_beginPupil 1 none, .code yX1_mayEnd cX1_mayEnd 1 (some .boolean), .code yX1_endPupil cX1_endPupil 1 none, .code yX1_takesSemicolon cX1_takesSemicolon 1 (some .boolean), .methodLink RX1 54 yX1_mayEnd, .instanceMethod yX1_mayEnd, .selects RX1 yX1_mayEnd yX1_mayEnd, .initialized RX1, .methodLink RX1 58 yX1_endPupil, .instanceMethod yX1_endPupil, .selects RX1 yX1_endPupil yX1_endPupil, .methodLink RX1 47 yX1_beginPupil, .instanceMethod yX1_beginPupil, .selects RX1 yX1_beginPupil yX1_beginPupil, .code yX1_takesPlus cX1_takesPlus 1 (some .boolean), .code yX1_takesReader cX1_takesReader 1 (some .boolean), .code yX4_isWithin cX4_isWithin 3 (some .boolean), .code yX1_takesDigit cX1_takesDigit 3 (some .boolean), .static yX4_isWithin, .initialized RX4, .code yX4_isPaper cX4_isPaper 1 (some .boolean), .methodLink RX4 55 yX4_isWithin, .code yX1_takesLetter cX1_takesLetter 2 (some .boolean), .static yX4_isPaper, .methodLink RX1 61 yX1_takesSemicolon, .instanceMethod yX1_takesSemicolon, .selects RX1 yX1_takesSemicolon yX1_takesSemicolon, .methodLink RX1 64 yX1_takesPlus, .instanceMethod yX1_takesPlus, .selects RX1 yX1_takesPlus yX1_takesPlus, .methodLink RX1 67 yX1_takesReader]
def TB2 : List Cond := [.instanceMethod yX1_takesReader, .selects RX1 yX1_takesReader yX1_takesReader, .methodLink RX1 74 yX1_takesDigit, .instanceMethod yX1_takesDigit, .selects RX1 yX1_takesDigit yX1_takesDigit, .methodLink RX1 77 yX1_takesLetter, .instanceMethod yX1_takesLetter, .selects RX1 yX1_takesLetter yX1_takesLetter, .code yX1_takes cX1_takes 2 (some .boolean), .methodLink RX1 50 yX1_takes, .instanceMethod yX1_takes, .selects RX1 yX1_takes yX1_takes, .code yX1_findFault cX1_findFault 2 (some .int), .code yX2_writePupil cX2_writePupil 5 none, .code yX2_addPupil cX2_addPupil 4 none, .methodLink RX2 44 yX2_writePupil, .instanceMethod yX2_writePupil, .selects RX2 yX2_writePupil yX2_writePupil, .code yX2_removePupil cX2_removePupil 3 none, .code yX4_contains cX4_contains 2 (some .boolean), .code yX2_sits cX2_sits 3 (some .boolean), .static yX4_contains, .code yX2_beginOf cX2_beginOf 2 (some .int), .code yX2_lengthOf cX2_lengthOf 3 (some .int), .code yX2_endOf cX2_endOf 3 (some .int), .methodLink RX2 52 yX2_beginOf, .instanceMethod yX2_beginOf, .selects RX2 yX2_beginOf yX2_beginOf, .methodLink RX2 56 yX2_lengthOf, .instanceMethod yX2_lengthOf, .selects RX2 yX2_lengthOf yX2_lengthOf, .code yX2_isSatAt cX2_isSatAt 4 (some .boolean), .methodLink RX2 60 yX2_endOf, .instanceMethod yX2_endOf, .selects RX2 yX2_endOf yX2_endOf, .code yJ6_bitCount_0f7a4 cJ6_bitCount_0f7a4 1 (some .int), .constant RJ6 265 (1431655765), .constant RJ6 266 (858993459), .constant RJ6 267 (252645135), .code yX2_sittings cX2_sittings 3 (some .int)]
def TB3 : List Cond := [.methodLink RX2 63 yJ6_bitCount_0f7a4, .static yJ6_bitCount_0f7a4, .initialized RJ6, .code yX2_minutesOf cX2_minutesOf 4 (some .int), .methodLink RX2 68 yX2_sits, .instanceMethod yX2_sits, .selects RX2 yX2_sits yX2_sits, .code yX2_pupilsOf cX2_pupilsOf 4 (some .int), .code yX2_clashingPapers cX2_clashingPapers 5 (some .int), .methodLink RX2 71 yX2_clashingPapers, .instanceMethod yX2_clashingPapers, .selects RX2 yX2_clashingPapers yX2_clashingPapers, .code yX2_clashesOf cX2_clashesOf 4 (some .int), .methodLink RX2 74 yX2_clashesOf, .instanceMethod yX2_clashesOf, .selects RX2 yX2_clashesOf yX2_clashesOf, .code yX2_clashes cX2_clashes 3 (some .int), .methodLink RX2 77 Lib.Math.max.name, .static Lib.Math.max.name, .initialized "java/lang/Math", .code Lib.Math.max.name Lib.Math.max.code 2 (some .int), .code yX2_lastEndOf cX2_lastEndOf 4 (some .int), .methodLink RX2 82 yX2_lastEndOf, .instanceMethod yX2_lastEndOf, .selects RX2 yX2_lastEndOf yX2_lastEndOf, .code yX2_lastEnd cX2_lastEnd 3 (some .int), .methodLink RX2 88 yX2_isSatAt, .instanceMethod yX2_isSatAt, .selects RX2 yX2_isSatAt yX2_isSatAt, .code yX2_readersAt cX2_readersAt 5 (some .int), .methodLink RX2 85 yX2_readersAt, .instanceMethod yX2_readersAt, .selects RX2 yX2_readersAt yX2_readersAt, .code yX2_mostReaders cX2_mostReaders 3 (some .int), .code yX2_isOpen cX2_isOpen 2 (some .boolean), .code yX2_desksOf cX2_desksOf 2 (some .int), .code yX2_openDesks cX2_openDesks 3 (some .int), .methodLink RX2 92 yX2_isOpen, .instanceMethod yX2_isOpen, .selects RX2 yX2_isOpen yX2_isOpen]
def TB4 : List Cond := [.methodLink RX2 96 yX2_desksOf, .instanceMethod yX2_desksOf, .selects RX2 yX2_desksOf yX2_desksOf, .methodLink RX3 3 objectInit, .classLink RX3 9 RX2, .fieldLink RX3 12 "ExamHalls$Seating" "school" "LExamHalls$School;", .fieldLink RX3 18 "ExamHalls$Seating" "halls" "[I", .fieldLink RX3 22 "ExamHalls$Seating" "desks" "[I", .fieldLink RX3 25 "ExamHalls$Seating" "rooms" "[I", .fieldLink RX3 28 "ExamHalls$Seating" "unplaced" "I", .fieldLink RX3 32 "ExamHalls$Seating" "unplacedReaders" "I", .fieldLink RX3 35 "ExamHalls$Seating" "deskEnds" "[I", .fieldLink RX3 38 "ExamHalls$Seating" "deskPapers" "[I", .fieldLink RX3 41 "ExamHalls$Seating" "roomEnds" "[I", .code yX3_init cX3_init 1 none, .code yX3_clear cX3_clear 2 none, .code yX3_isEarlyEnough cX3_isEarlyEnough 3 (some .boolean), .fieldLink RX3 72 "ExamHalls$School" "settings" "[I", .methodLink RX3 102 yX2_beginOf, .code yX4_sittingNumber cX4_sittingNumber 2 (some .int), .methodLink RX3 75 yX3_isEarlyEnough, .instanceMethod yX3_isEarlyEnough, .selects RX3 yX3_isEarlyEnough yX3_isEarlyEnough, .initialized RX3, .static yX4_sittingNumber, .methodLink RX3 82 yX2_endOf, .code yX3_seatInRoom cX3_seatInRoom 4 none, .code yX3_isBeside cX3_isBeside 7 (some .boolean), .fieldLink RX3 95 "ExamHalls$School" "columns" "[I", .fieldLink RX3 92 "ExamHalls$School" "rows" "[I", .code yX3_firstDesk cX3_firstDesk 6 (some .int), .methodLink RX3 98 yX3_isBeside, .instanceMethod yX3_isBeside, .selects RX3 yX3_isBeside yX3_isBeside, .methodLink RX3 85 yX2_isOpen, .methodLink RX3 89 yX3_firstDesk, .instanceMethod yX3_firstDesk, .selects RX3 yX3_firstDesk yX3_firstDesk, .code yX3_seatAtDesk cX3_seatAtDesk 6 none, .fieldLink RX3 54 "ExamHalls$School" "pupils" "I"]
def TB5 : List Cond := [.fieldLink RX3 61 "ExamHalls$School" "readers" "[Z", .methodLink RX3 57 yX2_sits, .methodLink RX3 65 yX3_seatInRoom, .instanceMethod yX3_seatInRoom, .selects RX3 yX3_seatInRoom yX3_seatInRoom, .methodLink RX3 69 yX3_seatAtDesk, .instanceMethod yX3_seatAtDesk, .selects RX3 yX3_seatAtDesk yX3_seatAtDesk, .code yX3_seatPupils cX3_seatPupils 3 none, .fieldLink RX3 47 "ExamHalls$School" "starts" "[I", .methodLink RX3 44 yX3_clear, .instanceMethod yX3_clear, .selects RX3 yX3_clear yX3_clear, .methodLink RX3 50 yX3_seatPupils, .instanceMethod yX3_seatPupils, .selects RX3 yX3_seatPupils yX3_seatPupils, .code yX3_seatAll cX3_seatAll 3 none, .code yX3_isUnplaced cX3_isUnplaced 4 (some .boolean), .code yX3_unplacedPapersOf cX3_unplacedPapersOf 4 (some .int), .methodLink RX3 109 yX3_isUnplaced, .instanceMethod yX3_isUnplaced, .selects RX3 yX3_isUnplaced yX3_isUnplaced, .code yX3_unplacedOf cX3_unplacedOf 4 (some .int), .code yX3_hallsOf cX3_hallsOf 5 (some .int), .code yX3_seatedIn cX3_seatedIn 4 (some .int), .code yX3_isNow cX3_isNow 3 (some .boolean), .methodLink RX3 123 yX2_isSatAt, .methodLink RX3 120 yX3_isNow, .instanceMethod yX3_isNow, .selects RX3 yX3_isNow yX3_isNow, .code yX3_takenIn cX3_takenIn 5 (some .int), .methodLink RX3 115 Lib.Math.max.name, .methodLink RX3 112 yX3_takenIn, .instanceMethod yX3_takenIn, .selects RX3 yX3_takenIn yX3_takenIn, .code yX3_mostTakenIn cX3_mostTakenIn 4 (some .int), .code yX3_sittingAt cX3_sittingAt 5 (some .int), .methodLink RX4 3 objectInit, .classLink RX4 9 RX3, .instantiable RX3 9]
def TB6 : List Cond := [.fieldLink RX4 12 "ExamHalls" "seating" "LExamHalls$Seating;", .fieldLink RX4 16 "ExamHalls$Seating" "school" "LExamHalls$School;", .fieldLink RX4 20 "ExamHalls" "school" "LExamHalls$School;", .fieldLink RX4 21 "ExamHalls" "trialSeating" "LExamHalls$Seating;", .fieldLink RX4 24 "ExamHalls" "trial" "LExamHalls$School;", .classLink RX4 27 RX1, .instantiable RX1 10, .fieldLink RX4 30 "ExamHalls" "pad" "LExamHalls$Pad;", .classLink RX4 34 RX0, .instantiable RX0 2, .fieldLink RX4 37 "ExamHalls" "history" "LExamHalls$History;", .classLink RX4 41 RX2, .fieldLink RX4 44 "ExamHalls" "slots" "[LExamHalls$School;", .fieldLink RX4 48 "ExamHalls" "slotIsUsed" "[Z", .instanceMethod yX3_init, .instanceMethod yX1_init, .methodLink RX4 36 yX0_init, .instanceMethod yX0_init, .methodLink RX4 52 yX3_seatAll, .instanceMethod yX3_seatAll, .selects RX3 yX3_seatAll yX3_seatAll, .code yX4_init cX4_init 1 none, .fieldLink RX4 59 "ExamHalls" "HIGHEST_SETTINGS" "[I", .fieldLink RX4 63 "ExamHalls$School" "settings" "[I", .methodLink RX4 66 yX0_remember, .instanceMethod yX0_remember, .selects RX0 yX0_remember yX0_remember, .code yX4_set cX4_set 4 (some .int), .code yX4_isStart cX4_isStart 1 (some .boolean), .fieldLink RX4 77 "ExamHalls$School" "starts" "[I", .fieldLink RX4 80 "ExamHalls$School" "minutes" "[I", .methodLink RX4 70 yX4_isPaper, .methodLink RX4 74 yX4_isStart, .static yX4_isStart, .code yX4_paper cX4_paper 5 (some .int), .code yX4_isPupilData cX4_isPupilData 2 (some .boolean), .fieldLink RX4 87 "ExamHalls$School" "pupils" "I", .methodLink RX4 83 yX4_isPupilData, .static yX4_isPupilData, .methodLink RX4 91 yX2_addPupil]
def TB7 : List Cond := [.instanceMethod yX2_addPupil, .selects RX2 yX2_addPupil yX2_addPupil, .code yX4_pupil cX4_pupil 5 (some .int), .fieldLink RX4 99 "ExamHalls$Pad" "found" "I", .fieldLink RX4 102 "ExamHalls$Pad" "foundPapers" "[I", .fieldLink RX4 105 "ExamHalls$Pad" "foundExtras" "[I", .fieldLink RX4 108 "ExamHalls$Pad" "foundReaders" "[Z", .fieldLink RX4 111 "ExamHalls$Pad" "length" "I", .methodLink RX4 95 yX1_findFault, .instanceMethod yX1_findFault, .selects RX1 yX1_findFault yX1_findFault, .code yX4_read cX4_read 2 (some .int), .code yX4_isPupil cX4_isPupil 2 (some .boolean), .methodLink RX4 114 yX4_isPupil, .instanceMethod yX4_isPupil, .selects RX4 yX4_isPupil yX4_isPupil, .methodLink RX4 117 yX2_writePupil, .methodLink RX4 121 yX2_clashesOf, .code yX4_change cX4_change 5 (some .int), .fieldLink RX4 125 "ExamHalls$School" "papers" "[I", .methodLink RX4 128 yX2_removePupil, .instanceMethod yX2_removePupil, .selects RX2 yX2_removePupil yX2_removePupil, .code yX4_leave cX4_leave 3 (some .int), .code yX4_isHall cX4_isHall 1 (some .boolean), .fieldLink RX4 138 "ExamHalls$School" "rows" "[I", .fieldLink RX4 141 "ExamHalls$School" "columns" "[I", .methodLink RX4 132 yX4_isHall, .static yX4_isHall, .methodLink RX4 135 yX2_desksOf, .code yX4_hall cX4_hall 5 (some .int), .fieldLink RX4 147 "ExamHalls$School" "openHalls" "I", .fieldLink RX4 150 "ExamHalls$Seating" "unplaced" "I", .methodLink RX4 144 yX2_isOpen, .code yX4_open cX4_open 3 (some .int), .fieldLink RX4 153 "ExamHalls$School" "extras" "[I", .fieldLink RX4 156 "ExamHalls$School" "readers" "[Z", .methodLink RX4 159 yX3_unplacedPapersOf, .instanceMethod yX3_unplacedPapersOf, .selects RX3 yX3_unplacedPapersOf yX3_unplacedPapersOf]
def TB8 : List Cond := [.methodLink RX4 162 yX2_minutesOf, .instanceMethod yX2_minutesOf, .selects RX2 yX2_minutesOf yX2_minutesOf, .code yX4_pupilOf cX4_pupilOf 3 (some .int), .methodLink RX4 165 yX2_pupilsOf, .instanceMethod yX2_pupilsOf, .selects RX2 yX2_pupilsOf yX2_pupilsOf, .methodLink RX4 168 yX2_lastEndOf, .methodLink RX4 171 yX3_unplacedOf, .instanceMethod yX3_unplacedOf, .selects RX3 yX3_unplacedOf yX3_unplacedOf, .methodLink RX4 174 yX3_hallsOf, .instanceMethod yX3_hallsOf, .selects RX3 yX3_hallsOf yX3_hallsOf, .code yX4_paperOf cX4_paperOf 3 (some .int), .fieldLink RX4 190 "ExamHalls$Seating" "halls" "[I", .fieldLink RX4 193 "ExamHalls$Seating" "desks" "[I", .fieldLink RX4 196 "ExamHalls$Seating" "rooms" "[I", .methodLink RX4 177 yX2_sits, .methodLink RX4 180 yX4_sittingNumber, .methodLink RX4 184 yX2_beginOf, .methodLink RX4 187 yX2_endOf, .methodLink RX4 199 yX2_clashingPapers, .code yX4_sitting cX4_sitting 5 (some .int), .methodLink RX4 202 yX3_seatedIn, .instanceMethod yX3_seatedIn, .selects RX3 yX3_seatedIn yX3_seatedIn, .methodLink RX4 205 yX3_mostTakenIn, .instanceMethod yX3_mostTakenIn, .selects RX3 yX3_mostTakenIn yX3_mostTakenIn, .code yX4_hallOf cX4_hallOf 3 (some .int), .fieldLink RX4 223 "ExamHalls$History" "size" "I", .methodLink RX4 208 yX2_sittings, .instanceMethod yX2_sittings, .selects RX2 yX2_sittings yX2_sittings, .methodLink RX4 211 yX2_clashes, .instanceMethod yX2_clashes, .selects RX2 yX2_clashes yX2_clashes, .methodLink RX4 214 yX2_openDesks, .instanceMethod yX2_openDesks]
def TB9 : List Cond := [.selects RX2 yX2_openDesks yX2_openDesks, .methodLink RX4 217 yX2_mostReaders, .instanceMethod yX2_mostReaders, .selects RX2 yX2_mostReaders yX2_mostReaders, .methodLink RX4 220 yX2_lastEnd, .instanceMethod yX2_lastEnd, .selects RX2 yX2_lastEnd yX2_lastEnd, .code yX4_count cX4_count 2 (some .int), .methodLink RX4 226 yX3_sittingAt, .instanceMethod yX3_sittingAt, .selects RX3 yX3_sittingAt yX3_sittingAt, .code yX4_at cX4_at 4 (some .int), .methodLink RX4 230 yX2_copyFrom, .code yX4_ifStart cX4_ifStart 4 (some .int), .code yX4_bestStart cX4_bestStart 7 (some .int), .code yX4_bestHalls cX4_bestHalls 8 (some .int), .fieldLink RX4 233 "ExamHalls$Seating" "unplacedReaders" "I", .code yX4_leastRooms cX4_leastRooms 2 (some .int), .code yX4_charactersIn cX4_charactersIn 5 (some .int), .constantLong RX4 250 (255), .code yX4_put cX4_put 4 (some .int), .methodLink RX4 236 yX4_charactersIn, .static yX4_charactersIn, .methodLink RX4 240 yX1_append, .instanceMethod yX1_append, .selects RX1 yX1_append yX1_append, .code yX4_wipe cX4_wipe 2 (some .int), .code yX4_fault cX4_fault 1 (some .int), .methodLink RX4 244 yX0_takeBack, .instanceMethod yX0_takeBack, .selects RX0 yX0_takeBack yX0_takeBack, .code yX4_undo cX4_undo 1 (some .int), .code yX4_isSlot cX4_isSlot 1 (some .boolean), .methodLink RX4 247 yX4_isSlot, .static yX4_isSlot, .code yX4_save cX4_save 2 (some .int), .code yX4_restore cX4_restore 2 (some .int), .code yX5_init cX5_init 2 none, .methodLink RX5 1 objectInit, .fieldLink RX5 7 "ExamHallsModel" "s" "[I"]
def TB10 : List Cond := [.fieldLink RX5 13 "ExamHallsModel" "spare" "[I", .fieldLink RX5 16 "ExamHallsModel" "trial" "[I", .fieldLink RX5 19 "ExamHallsModel" "before" "[I", .fieldLink RX5 22 "ExamHallsModel" "saved" "[I", .fieldLink RX5 25 "ExamHallsModel" "isSaved" "[Z", .fieldLink RX5 29 "ExamHallsModel" "seat" "[I", .fieldLink RX5 32 "ExamHallsModel" "read" "[I", .arrayClass .char, .fieldLink RX5 35 "ExamHallsModel" "pad" "[C", .code yX5_in cX5_in 3 (some .boolean), .code yX5_p cX5_p 1 (some .int), .code yX5_h cX5_h 1 (some .int), .code yX5_isPaper cX5_isPaper 1 (some .boolean), .methodLink RX5 39 yX5_in, .static yX5_in, .initialized RX5, .code yX5_isHall cX5_isHall 1 (some .boolean), .code yX5_isPupil cX5_isPupil 2 (some .boolean), .code yX5_hold cX5_hold 2 none, .fieldLink RX5 43 "ExamHallsModel" "isSeated" "Z", .code yX5_recorded cX5_recorded 3 (some .int), .fieldLink RX5 47 "ExamHallsModel" "states" "I", .code yX5_keepTrial cX5_keepTrial 2 none, .code yX5_putBack cX5_putBack 2 none, .code yX5_isSitting cX5_isSitting 2 (some .boolean), .methodLink RX5 51 yX5_p, .static yX5_p, .code yX5_begins cX5_begins 2 (some .int), .code yX5_minutes cX5_minutes 2 (some .int), .code yX5_ends cX5_ends 2 (some .int), .methodLink RX5 55 yX5_begins, .instanceMethod yX5_begins, .selects RX5 yX5_begins yX5_begins, .methodLink RX5 58 yX5_minutes, .instanceMethod yX5_minutes, .selects RX5 yX5_minutes yX5_minutes, .code yX5_needsReader cX5_needsReader 2 (some .boolean), .code yX5_clash cX5_clash 3 (some .boolean), .methodLink RX5 61 yX5_ends, .instanceMethod yX5_ends]
def TB11 : List Cond := [.selects RX5 yX5_ends yX5_ends, .code yX5_isFree cX5_isFree 6 (some .boolean), .code yX5_has cX5_has 5 (some .boolean), .code yX5_isAlone cX5_isAlone 11 (some .boolean), .methodLink RX5 64 yX5_h, .static yX5_h, .methodLink RX5 67 yX5_has, .instanceMethod yX5_has, .selects RX5 yX5_has yX5_has, .code yX5_desks cX5_desks 2 (some .int), .code yX5_desksAt cX5_desksAt 3 (some .int), .methodLink RX5 71 yX5_desks, .instanceMethod yX5_desks, .selects RX5 yX5_desks yX5_desks, .methodLink RX5 74 yX5_desksAt, .instanceMethod yX5_desksAt, .selects RX5 yX5_desksAt yX5_desksAt, .methodLink RX5 78 yX5_isFree, .instanceMethod yX5_isFree, .selects RX5 yX5_isFree yX5_isFree, .methodLink RX5 81 yX5_isAlone, .instanceMethod yX5_isAlone, .selects RX5 yX5_isAlone yX5_isAlone, .code yX5_deskFor cX5_deskFor 5 (some .int), .code yX5_roomFor cX5_roomFor 3 (some .int), .methodLink RX5 84 yX5_isSitting, .instanceMethod yX5_isSitting, .selects RX5 yX5_isSitting yX5_isSitting, .methodLink RX5 88 yX5_needsReader, .instanceMethod yX5_needsReader, .selects RX5 yX5_needsReader yX5_needsReader, .methodLink RX5 91 yX5_roomFor, .instanceMethod yX5_roomFor, .selects RX5 yX5_roomFor yX5_roomFor, .methodLink RX5 94 yX5_deskFor, .instanceMethod yX5_deskFor, .selects RX5 yX5_deskFor yX5_deskFor, .code yX5_seats cX5_seats 3 none, .methodLink RX5 97 yX5_seats, .instanceMethod yX5_seats]
def TB12 : List Cond := [.selects RX5 yX5_seats yX5_seats, .code yX5_without cX5_without 4 (some .int), .methodLink RX5 100 yX5_clash, .instanceMethod yX5_clash, .selects RX5 yX5_clash yX5_clash, .code yX5_clashesOf cX5_clashesOf 6 (some .int), .methodLink RX5 103 yX5_clashesOf, .instanceMethod yX5_clashesOf, .selects RX5 yX5_clashesOf yX5_clashesOf, .code yX5_clashes cX5_clashes 3 (some .int), .code yX5_lastEnd cX5_lastEnd 3 (some .int), .code yX5_set cX5_set 5 (some .int), .methodLink RX5 106 yX5_hold, .instanceMethod yX5_hold, .selects RX5 yX5_hold yX5_hold, .methodLink RX5 109 yX5_recorded, .instanceMethod yX5_recorded, .selects RX5 yX5_recorded yX5_recorded, .code yX5_paper cX5_paper 5 (some .int), .methodLink RX5 112 yX5_isPaper, .static yX5_isPaper, .code yX5_puts cX5_puts 5 none, .code yX5_pupil cX5_pupil 5 (some .int), .methodLink RX5 115 yX5_puts, .instanceMethod yX5_puts, .selects RX5 yX5_puts yX5_puts, .methodLink RX5 119 yX5_isPupil, .instanceMethod yX5_isPupil, .selects RX5 yX5_isPupil yX5_isPupil, .code yX5_change cX5_change 5 (some .int), .code yX5_leave cX5_leave 4 (some .int), .methodLink RX5 122 yX5_isHall, .static yX5_isHall, .code yX5_hall cX5_hall 5 (some .int), .methodLink RX5 125 yX5_without, .instanceMethod yX5_without, .selects RX5 yX5_without yX5_without, .code yX5_open cX5_open 3 (some .int), .code yX5_isSign cX5_isSign 3 (some .boolean), .fieldLink RX5 128 "ExamHallsModel" "at" "I"]
def TB13 : List Cond := [.fieldLink RX5 131 "ExamHallsModel" "length" "I", .code yX5_accepts cX5_accepts 3 (some .boolean), .methodLink RX5 134 yX5_isSign, .instanceMethod yX5_isSign, .selects RX5 yX5_isSign yX5_isSign, .code yX5_letters cX5_letters 2 (some .int), .code yX5_number cX5_number 2 (some .int), .code yX5_readsPupil cX5_readsPupil 3 (some .boolean), .fieldLink RX5 149 "ExamHallsModel" "told" "I", .methodLink RX5 138 yX5_letters, .instanceMethod yX5_letters, .selects RX5 yX5_letters yX5_letters, .methodLink RX5 142 yX5_accepts, .instanceMethod yX5_accepts, .selects RX5 yX5_accepts yX5_accepts, .methodLink RX5 146 yX5_number, .instanceMethod yX5_number, .selects RX5 yX5_number yX5_number, .methodLink RX5 152 yX5_readsPupil, .instanceMethod yX5_readsPupil, .selects RX5 yX5_readsPupil yX5_readsPupil, .code yX5_faultOf cX5_faultOf 2 (some .int), .methodLink RX5 156 yX5_faultOf, .instanceMethod yX5_faultOf, .selects RX5 yX5_faultOf yX5_faultOf, .code yX5_read cX5_read 2 (some .int), .code yX5_unseated cX5_unseated 4 (some .int), .code yX5_allMinutes cX5_allMinutes 4 (some .int), .methodLink RX5 159 yX5_unseated, .instanceMethod yX5_unseated, .selects RX5 yX5_unseated yX5_unseated, .methodLink RX5 162 yX5_allMinutes, .instanceMethod yX5_allMinutes, .selects RX5 yX5_allMinutes yX5_allMinutes, .code yX5_pupilOf cX5_pupilOf 3 (some .int), .code yX5_ofSittings cX5_ofSittings 9 (some .int), .methodLink RX5 165 yX5_ofSittings, .instanceMethod yX5_ofSittings, .selects RX5 yX5_ofSittings yX5_ofSittings, .code yX5_paperOf cX5_paperOf 3 (some .int)]
def TB14 : List Cond := [.code yX5_clashesWith cX5_clashesWith 5 (some .int), .methodLink RX5 169 yX5_clashesWith, .instanceMethod yX5_clashesWith, .selects RX5 yX5_clashesWith yX5_clashesWith, .code yX5_sitting cX5_sitting 6 (some .int), .code yX5_isIn cX5_isIn 3 (some .boolean), .methodLink RX5 172 yX5_isIn, .instanceMethod yX5_isIn, .selects RX5 yX5_isIn yX5_isIn, .code yX5_atMinute cX5_atMinute 6 (some .int), .methodLink RX5 175 yX5_atMinute, .instanceMethod yX5_atMinute, .selects RX5 yX5_atMinute yX5_atMinute, .code yX5_most cX5_most 5 (some .int), .code yX5_seatedIn cX5_seatedIn 4 (some .int), .methodLink RX5 178 yX5_seatedIn, .instanceMethod yX5_seatedIn, .selects RX5 yX5_seatedIn yX5_seatedIn, .methodLink RX5 181 yX5_most, .instanceMethod yX5_most, .selects RX5 yX5_most yX5_most, .code yX5_hallOf cX5_hallOf 3 (some .int), .code yX5_sittings cX5_sittings 3 (some .int), .code yX5_openHalls cX5_openHalls 3 (some .int), .code yX5_desksOf cX5_desksOf 4 (some .int), .methodLink RX5 184 yX5_sittings, .instanceMethod yX5_sittings, .selects RX5 yX5_sittings yX5_sittings, .methodLink RX5 187 yX5_clashes, .instanceMethod yX5_clashes, .selects RX5 yX5_clashes yX5_clashes, .methodLink RX5 190 yX5_openHalls, .instanceMethod yX5_openHalls, .selects RX5 yX5_openHalls yX5_openHalls, .methodLink RX5 193 yX5_desksOf, .instanceMethod yX5_desksOf, .selects RX5 yX5_desksOf yX5_desksOf, .methodLink RX5 196 yX5_lastEnd, .instanceMethod yX5_lastEnd, .selects RX5 yX5_lastEnd yX5_lastEnd]
def TB15 : List Cond := [.code yX5_count cX5_count 2 (some .int), .code yX5_at cX5_at 6 (some .int), .code yX5_ifStart cX5_ifStart 6 (some .int), .constant RX5 199 (1000000), .methodLink RX5 200 yX5_ifStart, .instanceMethod yX5_ifStart, .selects RX5 yX5_ifStart yX5_ifStart, .code yX5_bestStart cX5_bestStart 6 (some .int), .methodLink RX5 204 yX5_keepTrial, .instanceMethod yX5_keepTrial, .selects RX5 yX5_keepTrial yX5_keepTrial, .methodLink RX5 207 yX5_putBack, .instanceMethod yX5_putBack, .selects RX5 yX5_putBack yX5_putBack, .code yX5_bestHalls cX5_bestHalls 6 (some .int), .code yX5_leastRooms cX5_leastRooms 4 (some .int), .code yX5_put cX5_put 8 (some .int), .constantLong RX5 210 (255), .constantLong RX5 212 (33), .constantLong RX5 214 (126), .code yX5_wipe cX5_wipe 2 (some .int), .code yX5_fault cX5_fault 2 (some .int), .code yX5_undo cX5_undo 2 (some .int), .code yX5_save cX5_save 3 (some .int), .code yX5_restore cX5_restore 3 (some .int), .code yJ9_max_7cf53 cJ9_max_7cf53 2 (some .int), .classLink RL 7 RX4, .instantiable RX4 8, .classLink RL 10 RX5, .instantiable RX5 14, .constantLong RL 92 (4294967295), .methodLink RL 9 yX4_init, .instanceMethod yX4_init, .methodLink RL 12 yX5_init, .instanceMethod yX5_init, .methodLink RL 13 yX4_set, .instanceMethod yX4_set, .selects RX4 yX4_set yX4_set, .methodLink RL 17 yX5_set, .instanceMethod yX5_set]
def TB16 : List Cond := [.selects RX5 yX5_set yX5_set, .methodLink RL 18 yX4_paper, .instanceMethod yX4_paper, .selects RX4 yX4_paper yX4_paper, .methodLink RL 22 yX5_paper, .instanceMethod yX5_paper, .selects RX5 yX5_paper yX5_paper, .methodLink RL 23 yX4_pupil, .instanceMethod yX4_pupil, .selects RX4 yX4_pupil yX4_pupil, .methodLink RL 27 yX5_pupil, .instanceMethod yX5_pupil, .selects RX5 yX5_pupil yX5_pupil, .methodLink RL 28 yX4_read, .instanceMethod yX4_read, .selects RX4 yX4_read yX4_read, .methodLink RL 32 yX5_read, .instanceMethod yX5_read, .selects RX5 yX5_read yX5_read, .methodLink RL 33 yX4_change, .instanceMethod yX4_change, .selects RX4 yX4_change yX4_change, .methodLink RL 37 yX5_change, .instanceMethod yX5_change, .selects RX5 yX5_change yX5_change, .methodLink RL 38 yX4_leave, .instanceMethod yX4_leave, .selects RX4 yX4_leave yX4_leave, .methodLink RL 42 yX5_leave, .instanceMethod yX5_leave, .selects RX5 yX5_leave yX5_leave, .methodLink RL 43 yX4_hall, .instanceMethod yX4_hall, .selects RX4 yX4_hall yX4_hall, .methodLink RL 46 yX5_hall, .instanceMethod yX5_hall, .selects RX5 yX5_hall yX5_hall, .methodLink RL 47 yX4_open, .instanceMethod yX4_open, .selects RX4 yX4_open yX4_open]
def TB17 : List Cond := [.methodLink RL 51 yX5_open, .instanceMethod yX5_open, .selects RX5 yX5_open yX5_open, .methodLink RL 52 yX4_pupilOf, .instanceMethod yX4_pupilOf, .selects RX4 yX4_pupilOf yX4_pupilOf, .methodLink RL 55 yX5_pupilOf, .instanceMethod yX5_pupilOf, .selects RX5 yX5_pupilOf yX5_pupilOf, .methodLink RL 56 yX4_paperOf, .instanceMethod yX4_paperOf, .selects RX4 yX4_paperOf yX4_paperOf, .methodLink RL 59 yX5_paperOf, .instanceMethod yX5_paperOf, .selects RX5 yX5_paperOf yX5_paperOf, .methodLink RL 60 yX4_sitting, .instanceMethod yX4_sitting, .selects RX4 yX4_sitting yX4_sitting, .methodLink RL 63 yX5_sitting, .instanceMethod yX5_sitting, .selects RX5 yX5_sitting yX5_sitting, .methodLink RL 64 yX4_hallOf, .instanceMethod yX4_hallOf, .selects RX4 yX4_hallOf yX4_hallOf, .methodLink RL 67 yX5_hallOf, .instanceMethod yX5_hallOf, .selects RX5 yX5_hallOf yX5_hallOf, .methodLink RL 68 yX4_count, .instanceMethod yX4_count, .selects RX4 yX4_count yX4_count, .methodLink RL 71 yX5_count, .instanceMethod yX5_count, .selects RX5 yX5_count yX5_count, .methodLink RL 72 yX4_at, .instanceMethod yX4_at, .selects RX4 yX4_at yX4_at, .methodLink RL 75 yX5_at, .instanceMethod yX5_at, .selects RX5 yX5_at yX5_at, .methodLink RL 76 yX4_ifStart]
def TB18 : List Cond := [.instanceMethod yX4_ifStart, .selects RX4 yX4_ifStart yX4_ifStart, .methodLink RL 79 yX5_ifStart, .methodLink RL 80 yX4_bestStart, .instanceMethod yX4_bestStart, .selects RX4 yX4_bestStart yX4_bestStart, .methodLink RL 83 yX5_bestStart, .instanceMethod yX5_bestStart, .selects RX5 yX5_bestStart yX5_bestStart, .methodLink RL 84 yX4_bestHalls, .instanceMethod yX4_bestHalls, .selects RX4 yX4_bestHalls yX4_bestHalls, .methodLink RL 87 yX5_bestHalls, .instanceMethod yX5_bestHalls, .selects RX5 yX5_bestHalls yX5_bestHalls, .methodLink RL 88 yX4_leastRooms, .instanceMethod yX4_leastRooms, .selects RX4 yX4_leastRooms yX4_leastRooms, .methodLink RL 91 yX5_leastRooms, .instanceMethod yX5_leastRooms, .selects RX5 yX5_leastRooms yX5_leastRooms, .methodLink RL 94 yX4_put, .instanceMethod yX4_put, .selects RX4 yX4_put yX4_put, .methodLink RL 98 yX5_put, .instanceMethod yX5_put, .selects RX5 yX5_put yX5_put, .methodLink RL 99 yX4_wipe, .instanceMethod yX4_wipe, .selects RX4 yX4_wipe yX4_wipe, .methodLink RL 102 yX5_wipe, .instanceMethod yX5_wipe, .selects RX5 yX5_wipe yX5_wipe, .methodLink RL 103 yX4_fault, .instanceMethod yX4_fault, .selects RX4 yX4_fault yX4_fault, .methodLink RL 106 yX5_fault, .instanceMethod yX5_fault, .selects RX5 yX5_fault yX5_fault, .methodLink RL 107 yX4_undo]
def TB19 : List Cond := [.instanceMethod yX4_undo, .selects RX4 yX4_undo yX4_undo, .methodLink RL 110 yX5_undo, .instanceMethod yX5_undo, .selects RX5 yX5_undo yX5_undo, .methodLink RL 111 yX4_save, .instanceMethod yX4_save, .selects RX4 yX4_save yX4_save, .methodLink RL 114 yX5_save, .instanceMethod yX5_save, .selects RX5 yX5_save yX5_save, .methodLink RL 115 yX4_restore, .instanceMethod yX4_restore, .selects RX4 yX4_restore yX4_restore, .methodLink RL 118 yX5_restore, .instanceMethod yX5_restore, .selects RX5 yX5_restore yX5_restore]
/-- the words that every contract takes along -/
def TB : List Cond := TB0 ++ (TB1 ++ (TB2 ++ (TB3 ++ (TB4 ++ (TB5 ++ (TB6 ++ (TB7 ++ (TB8 ++ (TB9 ++ (TB10 ++ (TB11 ++ (TB12 ++ (TB13 ++ (TB14 ++ (TB15 ++ (TB16 ++ (TB17 ++ (TB18 ++ (TB19 ++ (wsX00 ++ (wsX10 ++ (wsX20 ++ (wsX30 ++ (wsX40 ++ (wsX50)))))))))))))))))))))))))
theorem TB_good : TB.all goodWord = true := by decide +kernel
theorem TB_c0 (w : Cond) (h : w ∈ TB0) : w ∈ TB := List.mem_append_left _ h
theorem TB_c1 (w : Cond) (h : w ∈ TB1) : w ∈ TB := List.mem_append_right _ (List.mem_append_left _ h)
theorem TB_c2 (w : Cond) (h : w ∈ TB2) : w ∈ TB := List.mem_append_right _ (List.mem_append_right _ (List.mem_append_left _ h))
theorem TB_c3 (w : Cond) (h : w ∈ TB3) : w ∈ TB := List.mem_append_right _ (List.mem_append_right _ (List.mem_append_right _ (List.mem_append_left _ h)))
theorem TB_c4 (w : Cond) (h : w ∈ TB4) : w ∈ TB := List.mem_append_right _ (List.mem_append_right _ (List.mem_append_right _ (List.mem_append_right _ (List.mem_append_left _ h))))
theorem TB_c5 (w : Cond) (h : w ∈ TB5) : w ∈ TB := List.mem_append_right _ (List.mem_append_right _ (List.mem_append_right _ (List.mem_append_right _ (List.mem_append_right _ (List.mem_append_left _ h)))))
theorem TB_c6 (w : Cond) (h : w ∈ TB6) : w ∈ TB := List.mem_append_right _ (List.mem_append_right _ (List.mem_append_right _ (List.mem_append_right _ (List.mem_append_right _ (List.mem_append_right _ (List.mem_append_left _ h))))))
theorem TB_c7 (w : Cond) (h : w ∈ TB7) : w ∈ TB := List.mem_append_right _ (List.mem_append_right _ (List.mem_append_right _ (List.mem_append_right _ (List.mem_append_right _ (List.mem_append_right _ (List.mem_append_right _ (List.mem_append_left _ h)))))))
theorem TB_c8 (w : Cond) (h : w ∈ TB8) : w ∈ TB := List.mem_append_right _ (List.mem_append_right _ (List.mem_append_right _ (List.mem_append_right _ (List.mem_append_right _ (List.mem_append_right _ (List.mem_append_right _ (List.mem_append_right _ (List.mem_append_left _ h))))))))
theorem TB_c9 (w : Cond) (h : w ∈ TB9) : w ∈ TB := List.mem_append_right _ (List.mem_append_right _ (List.mem_append_right _ (List.mem_append_right _ (List.mem_append_right _ (List.mem_append_right _ (List.mem_append_right _ (List.mem_append_right _ (List.mem_append_right _ (List.mem_append_left _ h)))))))))
theorem TB_c10 (w : Cond) (h : w ∈ TB10) : w ∈ TB := List.mem_append_right _ (List.mem_append_right _ (List.mem_append_right _ (List.mem_append_right _ (List.mem_append_right _ (List.mem_append_right _ (List.mem_append_right _ (List.mem_append_right _ (List.mem_append_right _ (List.mem_append_right _ (List.mem_append_left _ h))))))))))
theorem TB_c11 (w : Cond) (h : w ∈ TB11) : w ∈ TB := List.mem_append_right _ (List.mem_append_right _ (List.mem_append_right _ (List.mem_append_right _ (List.mem_append_right _ (List.mem_append_right _ (List.mem_append_right _ (List.mem_append_right _ (List.mem_append_right _ (List.mem_append_right _ (List.mem_append_right _ (List.mem_append_left _ h)))))))))))
theorem TB_c12 (w : Cond) (h : w ∈ TB12) : w ∈ TB := List.mem_append_right _ (List.mem_append_right _ (List.mem_append_right _ (List.mem_append_right _ (List.mem_append_right _ (List.mem_append_right _ (List.mem_append_right _ (List.mem_append_right _ (List.mem_append_right _ (List.mem_append_right _ (List.mem_append_right _ (List.mem_append_right _ (List.mem_append_left _ h))))))))))))
theorem TB_c13 (w : Cond) (h : w ∈ TB13) : w ∈ TB := List.mem_append_right _ (List.mem_append_right _ (List.mem_append_right _ (List.mem_append_right _ (List.mem_append_right _ (List.mem_append_right _ (List.mem_append_right _ (List.mem_append_right _ (List.mem_append_right _ (List.mem_append_right _ (List.mem_append_right _ (List.mem_append_right _ (List.mem_append_right _ (List.mem_append_left _ h)))))))))))))
theorem TB_c14 (w : Cond) (h : w ∈ TB14) : w ∈ TB := List.mem_append_right _ (List.mem_append_right _ (List.mem_append_right _ (List.mem_append_right _ (List.mem_append_right _ (List.mem_append_right _ (List.mem_append_right _ (List.mem_append_right _ (List.mem_append_right _ (List.mem_append_right _ (List.mem_append_right _ (List.mem_append_right _ (List.mem_append_right _ (List.mem_append_right _ (List.mem_append_left _ h))))))))))))))
theorem TB_c15 (w : Cond) (h : w ∈ TB15) : w ∈ TB := List.mem_append_right _ (List.mem_append_right _ (List.mem_append_right _ (List.mem_append_right _ (List.mem_append_right _ (List.mem_append_right _ (List.mem_append_right _ (List.mem_append_right _ (List.mem_append_right _ (List.mem_append_right _ (List.mem_append_right _ (List.mem_append_right _ (List.mem_append_right _ (List.mem_append_right _ (List.mem_append_right _ (List.mem_append_left _ h)))))))))))))))
theorem TB_c16 (w : Cond) (h : w ∈ TB16) : w ∈ TB := List.mem_append_right _ (List.mem_append_right _ (List.mem_append_right _ (List.mem_append_right _ (List.mem_append_right _ (List.mem_append_right _ (List.mem_append_right _ (List.mem_append_right _ (List.mem_append_right _ (List.mem_append_right _ (List.mem_append_right _ (List.mem_append_right _ (List.mem_append_right _ (List.mem_append_right _ (List.mem_append_right _ (List.mem_append_right _ (List.mem_append_left _ h))))))))))))))))
theorem TB_c17 (w : Cond) (h : w ∈ TB17) : w ∈ TB := List.mem_append_right _ (List.mem_append_right _ (List.mem_append_right _ (List.mem_append_right _ (List.mem_append_right _ (List.mem_append_right _ (List.mem_append_right _ (List.mem_append_right _ (List.mem_append_right _ (List.mem_append_right _ (List.mem_append_right _ (List.mem_append_right _ (List.mem_append_right _ (List.mem_append_right _ (List.mem_append_right _ (List.mem_append_right _ (List.mem_append_right _ (List.mem_append_left _ h)))))))))))))))))
theorem TB_c18 (w : Cond) (h : w ∈ TB18) : w ∈ TB := List.mem_append_right _ (List.mem_append_right _ (List.mem_append_right _ (List.mem_append_right _ (List.mem_append_right _ (List.mem_append_right _ (List.mem_append_right _ (List.mem_append_right _ (List.mem_append_right _ (List.mem_append_right _ (List.mem_append_right _ (List.mem_append_right _ (List.mem_append_right _ (List.mem_append_right _ (List.mem_append_right _ (List.mem_append_right _ (List.mem_append_right _ (List.mem_append_right _ (List.mem_append_left _ h))))))))))))))))))
theorem TB_c19 (w : Cond) (h : w ∈ TB19) : w ∈ TB := List.mem_append_right _ (List.mem_append_right _ (List.mem_append_right _ (List.mem_append_right _ (List.mem_append_right _ (List.mem_append_right _ (List.mem_append_right _ (List.mem_append_right _ (List.mem_append_right _ (List.mem_append_right _ (List.mem_append_right _ (List.mem_append_right _ (List.mem_append_right _ (List.mem_append_right _ (List.mem_append_right _ (List.mem_append_right _ (List.mem_append_right _ (List.mem_append_right _ (List.mem_append_right _ (List.mem_append_left _ h)))))))))))))))))))
theorem TB_l0 (w : Cond) (h : w ∈ wsX00) : w ∈ TB := List.mem_append_right _ (List.mem_append_right _ (List.mem_append_right _ (List.mem_append_right _ (List.mem_append_right _ (List.mem_append_right _ (List.mem_append_right _ (List.mem_append_right _ (List.mem_append_right _ (List.mem_append_right _ (List.mem_append_right _ (List.mem_append_right _ (List.mem_append_right _ (List.mem_append_right _ (List.mem_append_right _ (List.mem_append_right _ (List.mem_append_right _ (List.mem_append_right _ (List.mem_append_right _ (List.mem_append_right _ (List.mem_append_left _ h))))))))))))))))))))
theorem TB_l1 (w : Cond) (h : w ∈ wsX10) : w ∈ TB := List.mem_append_right _ (List.mem_append_right _ (List.mem_append_right _ (List.mem_append_right _ (List.mem_append_right _ (List.mem_append_right _ (List.mem_append_right _ (List.mem_append_right _ (List.mem_append_right _ (List.mem_append_right _ (List.mem_append_right _ (List.mem_append_right _ (List.mem_append_right _ (List.mem_append_right _ (List.mem_append_right _ (List.mem_append_right _ (List.mem_append_right _ (List.mem_append_right _ (List.mem_append_right _ (List.mem_append_right _ (List.mem_append_right _ (List.mem_append_left _ h)))))))))))))))))))))
theorem TB_l2 (w : Cond) (h : w ∈ wsX20) : w ∈ TB := List.mem_append_right _ (List.mem_append_right _ (List.mem_append_right _ (List.mem_append_right _ (List.mem_append_right _ (List.mem_append_right _ (List.mem_append_right _ (List.mem_append_right _ (List.mem_append_right _ (List.mem_append_right _ (List.mem_append_right _ (List.mem_append_right _ (List.mem_append_right _ (List.mem_append_right _ (List.mem_append_right _ (List.mem_append_right _ (List.mem_append_right _ (List.mem_append_right _ (List.mem_append_right _ (List.mem_append_right _ (List.mem_append_right _ (List.mem_append_right _ (List.mem_append_left _ h))))))))))))))))))))))
theorem TB_l3 (w : Cond) (h : w ∈ wsX30) : w ∈ TB := List.mem_append_right _ (List.mem_append_right _ (List.mem_append_right _ (List.mem_append_right _ (List.mem_append_right _ (List.mem_append_right _ (List.mem_append_right _ (List.mem_append_right _ (List.mem_append_right _ (List.mem_append_right _ (List.mem_append_right _ (List.mem_append_right _ (List.mem_append_right _ (List.mem_append_right _ (List.mem_append_right _ (List.mem_append_right _ (List.mem_append_right _ (List.mem_append_right _ (List.mem_append_right _ (List.mem_append_right _ (List.mem_append_right _ (List.mem_append_right _ (List.mem_append_right _ (List.mem_append_left _ h)))))))))))))))))))))))
theorem TB_l4 (w : Cond) (h : w ∈ wsX40) : w ∈ TB := List.mem_append_right _ (List.mem_append_right _ (List.mem_append_right _ (List.mem_append_right _ (List.mem_append_right _ (List.mem_append_right _ (List.mem_append_right _ (List.mem_append_right _ (List.mem_append_right _ (List.mem_append_right _ (List.mem_append_right _ (List.mem_append_right _ (List.mem_append_right _ (List.mem_append_right _ (List.mem_append_right _ (List.mem_append_right _ (List.mem_append_right _ (List.mem_append_right _ (List.mem_append_right _ (List.mem_append_right _ (List.mem_append_right _ (List.mem_append_right _ (List.mem_append_right _ (List.mem_append_right _ (List.mem_append_left _ h))))))))))))))))))))))))
theorem TB_l5 (w : Cond) (h : w ∈ wsX50) : w ∈ TB := List.mem_append_right _ (List.mem_append_right _ (List.mem_append_right _ (List.mem_append_right _ (List.mem_append_right _ (List.mem_append_right _ (List.mem_append_right _ (List.mem_append_right _ (List.mem_append_right _ (List.mem_append_right _ (List.mem_append_right _ (List.mem_append_right _ (List.mem_append_right _ (List.mem_append_right _ (List.mem_append_right _ (List.mem_append_right _ (List.mem_append_right _ (List.mem_append_right _ (List.mem_append_right _ (List.mem_append_right _ (List.mem_append_right _ (List.mem_append_right _ (List.mem_append_right _ (List.mem_append_right _ (List.mem_append_right _ (h)))))))))))))))))))))))))
theorem k0 : (.code yX2_init cX2_init 1 none : Cond) ∈ TB := TB_c0 _ (List.mem_of_getElem? (i := 0) rfl)
theorem k1 : (.methodLink RX2 3 objectInit : Cond) ∈ TB := TB_c0 _ (List.mem_of_getElem? (i := 1) rfl)
theorem k2 : (.instanceMethod objectInit : Cond) ∈ TB := TB_c0 _ (List.mem_of_getElem? (i := 2) rfl)
theorem k3 : (.code objectInit ⟨#[0xb1]⟩ 1 none : Cond) ∈ TB := TB_c0 _ (List.mem_of_getElem? (i := 3) rfl)
theorem k4 : (.arrayClass .int : Cond) ∈ TB := TB_c0 _ (List.mem_of_getElem? (i := 4) rfl)
theorem k5 : (.fieldLink RX2 9 "ExamHalls$School" "settings" "[I" : Cond) ∈ TB := TB_c0 _ (List.mem_of_getElem? (i := 5) rfl)
theorem k6 : (.fieldLink RX2 15 "ExamHalls$School" "starts" "[I" : Cond) ∈ TB := TB_c0 _ (List.mem_of_getElem? (i := 6) rfl)
theorem k7 : (.fieldLink RX2 18 "ExamHalls$School" "minutes" "[I" : Cond) ∈ TB := TB_c0 _ (List.mem_of_getElem? (i := 7) rfl)
theorem k8 : (.fieldLink RX2 21 "ExamHalls$School" "papers" "[I" : Cond) ∈ TB := TB_c0 _ (List.mem_of_getElem? (i := 8) rfl)
theorem k9 : (.fieldLink RX2 24 "ExamHalls$School" "extras" "[I" : Cond) ∈ TB := TB_c0 _ (List.mem_of_getElem? (i := 9) rfl)
theorem k10 : (.arrayClass .boolean : Cond) ∈ TB := TB_c0 _ (List.mem_of_getElem? (i := 10) rfl)
theorem k11 : (.fieldLink RX2 27 "ExamHalls$School" "readers" "[Z" : Cond) ∈ TB := TB_c0 _ (List.mem_of_getElem? (i := 11) rfl)
theorem k12 : (.fieldLink RX2 31 "ExamHalls$School" "rows" "[I" : Cond) ∈ TB := TB_c0 _ (List.mem_of_getElem? (i := 12) rfl)
theorem k13 : (.fieldLink RX2 34 "ExamHalls$School" "columns" "[I" : Cond) ∈ TB := TB_c0 _ (List.mem_of_getElem? (i := 13) rfl)
theorem k14 : (.fieldLink RX2 37 "ExamHalls$School" "pupils" "I" : Cond) ∈ TB := TB_c0 _ (List.mem_of_getElem? (i := 14) rfl)
theorem k15 : (.fieldLink RX2 41 "ExamHalls$School" "openHalls" "I" : Cond) ∈ TB := TB_c0 _ (List.mem_of_getElem? (i := 15) rfl)
theorem k16 : (.code yX0_init cX0_init 2 none : Cond) ∈ TB := TB_c0 _ (List.mem_of_getElem? (i := 16) rfl)
theorem k17 : (.methodLink RX0 3 objectInit : Cond) ∈ TB := TB_c0 _ (List.mem_of_getElem? (i := 17) rfl)
theorem k18 : (.classLink RX0 9 RX2 : Cond) ∈ TB := TB_c0 _ (List.mem_of_getElem? (i := 18) rfl)
theorem k19 : (.fieldLink RX0 11 "ExamHalls$History" "states" "[LExamHalls$School;" : Cond) ∈ TB := TB_c0 _ (List.mem_of_getElem? (i := 19) rfl)
theorem k20 : (.fieldLink RX0 17 "ExamHalls$History" "size" "I" : Cond) ∈ TB := TB_c0 _ (List.mem_of_getElem? (i := 20) rfl)
theorem k21 : (.instantiable RX2 10 : Cond) ∈ TB := TB_c0 _ (List.mem_of_getElem? (i := 21) rfl)
theorem k22 : (.initialized RX2 : Cond) ∈ TB := TB_c0 _ (List.mem_of_getElem? (i := 22) rfl)
theorem k23 : (.instanceMethod yX2_init : Cond) ∈ TB := TB_c0 _ (List.mem_of_getElem? (i := 23) rfl)
theorem k24 : (.code yX0_dropOldest cX0_dropOldest 3 none : Cond) ∈ TB := TB_c0 _ (List.mem_of_getElem? (i := 24) rfl)
theorem k25 : (.code yX2_copyFrom cX2_copyFrom 3 none : Cond) ∈ TB := TB_c0 _ (List.mem_of_getElem? (i := 25) rfl)
theorem k26 : (.code yX0_remember cX0_remember 2 none : Cond) ∈ TB := TB_c0 _ (List.mem_of_getElem? (i := 26) rfl)
theorem k27 : (.methodLink RX0 22 yX0_dropOldest : Cond) ∈ TB := TB_c0 _ (List.mem_of_getElem? (i := 27) rfl)
theorem k28 : (.instanceMethod yX0_dropOldest : Cond) ∈ TB := TB_c0 _ (List.mem_of_getElem? (i := 28) rfl)
theorem k29 : (.selects RX0 yX0_dropOldest yX0_dropOldest : Cond) ∈ TB := TB_c0 _ (List.mem_of_getElem? (i := 29) rfl)
theorem k30 : (.initialized RX0 : Cond) ∈ TB := TB_c0 _ (List.mem_of_getElem? (i := 30) rfl)
theorem k31 : (.methodLink RX0 25 yX2_copyFrom : Cond) ∈ TB := TB_c0 _ (List.mem_of_getElem? (i := 31) rfl)
theorem k32 : (.instanceMethod yX2_copyFrom : Cond) ∈ TB := TB_c0 _ (List.mem_of_getElem? (i := 32) rfl)
theorem k33 : (.selects RX2 yX2_copyFrom yX2_copyFrom : Cond) ∈ TB := TB_c0 _ (List.mem_of_getElem? (i := 33) rfl)
theorem k34 : (.code yX0_takeBack cX0_takeBack 2 none : Cond) ∈ TB := TB_c0 _ (List.mem_of_getElem? (i := 34) rfl)
theorem k35 : (.code yX1_init cX1_init 1 none : Cond) ∈ TB := TB_c0 _ (List.mem_of_getElem? (i := 35) rfl)
theorem k36 : (.methodLink RX1 3 objectInit : Cond) ∈ TB := TB_c0 _ (List.mem_of_getElem? (i := 36) rfl)
theorem k37 : (.fieldLink RX1 9 "ExamHalls$Pad" "signs" "[I" : Cond) ∈ TB := TB_c0 _ (List.mem_of_getElem? (i := 37) rfl)
theorem k38 : (.fieldLink RX1 15 "ExamHalls$Pad" "length" "I" : Cond) ∈ TB := TB_c0 _ (List.mem_of_getElem? (i := 38) rfl)
theorem k39 : (.fieldLink RX1 19 "ExamHalls$Pad" "foundPapers" "[I" : Cond) ∈ TB := TB_c0 _ (List.mem_of_getElem? (i := 39) rfl)
theorem k40 : (.fieldLink RX1 22 "ExamHalls$Pad" "foundExtras" "[I" : Cond) ∈ TB := TB_c1 _ (List.mem_of_getElem? (i := 0) rfl)
theorem k41 : (.fieldLink RX1 25 "ExamHalls$Pad" "foundReaders" "[Z" : Cond) ∈ TB := TB_c1 _ (List.mem_of_getElem? (i := 1) rfl)
theorem k42 : (.fieldLink RX1 29 "ExamHalls$Pad" "found" "I" : Cond) ∈ TB := TB_c1 _ (List.mem_of_getElem? (i := 2) rfl)
theorem k43 : (.fieldLink RX1 32 "ExamHalls$Pad" "state" "I" : Cond) ∈ TB := TB_c1 _ (List.mem_of_getElem? (i := 3) rfl)
theorem k44 : (.fieldLink RX1 35 "ExamHalls$Pad" "papers" "I" : Cond) ∈ TB := TB_c1 _ (List.mem_of_getElem? (i := 4) rfl)
theorem k45 : (.fieldLink RX1 38 "ExamHalls$Pad" "extra" "I" : Cond) ∈ TB := TB_c1 _ (List.mem_of_getElem? (i := 5) rfl)
theorem k46 : (.fieldLink RX1 41 "ExamHalls$Pad" "needsReader" "Z" : Cond) ∈ TB := TB_c1 _ (List.mem_of_getElem? (i := 6) rfl)
theorem k47 : (.code yX1_append cX1_append 5 none : Cond) ∈ TB := TB_c1 _ (List.mem_of_getElem? (i := 7) rfl)
theorem k48 : (.constantLong RX1 45 (255) : Cond) ∈ TB := TB_c1 _ (List.mem_of_getElem? (i := 8) rfl)
theorem k49 : (.code yX1_beginPupil cX1_beginPupil 1 none : Cond) ∈ TB := TB_c1 _ (List.mem_of_getElem? (i := 9) rfl)
theorem k50 : (.code yX1_mayEnd cX1_mayEnd 1 (some .boolean) : Cond) ∈ TB := TB_c1 _ (List.mem_of_getElem? (i := 10) rfl)
theorem k51 : (.code yX1_endPupil cX1_endPupil 1 none : Cond) ∈ TB := TB_c1 _ (List.mem_of_getElem? (i := 11) rfl)
theorem k52 : (.code yX1_takesSemicolon cX1_takesSemicolon 1 (some .boolean) : Cond) ∈ TB := TB_c1 _ (List.mem_of_getElem? (i := 12) rfl)
theorem k53 : (.methodLink RX1 54 yX1_mayEnd : Cond) ∈ TB := TB_c1 _ (List.mem_of_getElem? (i := 13) rfl)
theorem k54 : (.instanceMethod yX1_mayEnd : Cond) ∈ TB := TB_c1 _ (List.mem_of_getElem? (i := 14) rfl)
theorem k55 : (.selects RX1 yX1_mayEnd yX1_mayEnd : Cond) ∈ TB := TB_c1 _ (List.mem_of_getElem? (i := 15) rfl)
theorem k56 : (.initialized RX1 : Cond) ∈ TB := TB_c1 _ (List.mem_of_getElem? (i := 16) rfl)
theorem k57 : (.methodLink RX1 58 yX1_endPupil : Cond) ∈ TB := TB_c1 _ (List.mem_of_getElem? (i := 17) rfl)
theorem k58 : (.instanceMethod yX1_endPupil : Cond) ∈ TB := TB_c1 _ (List.mem_of_getElem? (i := 18) rfl)
theorem k59 : (.selects RX1 yX1_endPupil yX1_endPupil : Cond) ∈ TB := TB_c1 _ (List.mem_of_getElem? (i := 19) rfl)
theorem k60 : (.methodLink RX1 47 yX1_beginPupil : Cond) ∈ TB := TB_c1 _ (List.mem_of_getElem? (i := 20) rfl)
theorem k61 : (.instanceMethod yX1_beginPupil : Cond) ∈ TB := TB_c1 _ (List.mem_of_getElem? (i := 21) rfl)
theorem k62 : (.selects RX1 yX1_beginPupil yX1_beginPupil : Cond) ∈ TB := TB_c1 _ (List.mem_of_getElem? (i := 22) rfl)
theorem k63 : (.code yX1_takesPlus cX1_takesPlus 1 (some .boolean) : Cond) ∈ TB := TB_c1 _ (List.mem_of_getElem? (i := 23) rfl)
theorem k64 : (.code yX1_takesReader cX1_takesReader 1 (some .boolean) : Cond) ∈ TB := TB_c1 _ (List.mem_of_getElem? (i := 24) rfl)
theorem k65 : (.code yX4_isWithin cX4_isWithin 3 (some .boolean) : Cond) ∈ TB := TB_c1 _ (List.mem_of_getElem? (i := 25) rfl)
theorem k66 : (.code yX1_takesDigit cX1_takesDigit 3 (some .boolean) : Cond) ∈ TB := TB_c1 _ (List.mem_of_getElem? (i := 26) rfl)
theorem k67 : (.static yX4_isWithin : Cond) ∈ TB := TB_c1 _ (List.mem_of_getElem? (i := 27) rfl)
theorem k68 : (.initialized RX4 : Cond) ∈ TB := TB_c1 _ (List.mem_of_getElem? (i := 28) rfl)
theorem k69 : (.code yX4_isPaper cX4_isPaper 1 (some .boolean) : Cond) ∈ TB := TB_c1 _ (List.mem_of_getElem? (i := 29) rfl)
theorem k70 : (.methodLink RX4 55 yX4_isWithin : Cond) ∈ TB := TB_c1 _ (List.mem_of_getElem? (i := 30) rfl)
theorem k71 : (.code yX1_takesLetter cX1_takesLetter 2 (some .boolean) : Cond) ∈ TB := TB_c1 _ (List.mem_of_getElem? (i := 31) rfl)
theorem k72 : (.static yX4_isPaper : Cond) ∈ TB := TB_c1 _ (List.mem_of_getElem? (i := 32) rfl)
theorem k73 : (.methodLink RX1 61 yX1_takesSemicolon : Cond) ∈ TB := TB_c1 _ (List.mem_of_getElem? (i := 33) rfl)
theorem k74 : (.instanceMethod yX1_takesSemicolon : Cond) ∈ TB := TB_c1 _ (List.mem_of_getElem? (i := 34) rfl)
theorem k75 : (.selects RX1 yX1_takesSemicolon yX1_takesSemicolon : Cond) ∈ TB := TB_c1 _ (List.mem_of_getElem? (i := 35) rfl)
theorem k76 : (.methodLink RX1 64 yX1_takesPlus : Cond) ∈ TB := TB_c1 _ (List.mem_of_getElem? (i := 36) rfl)
theorem k77 : (.instanceMethod yX1_takesPlus : Cond) ∈ TB := TB_c1 _ (List.mem_of_getElem? (i := 37) rfl)
theorem k78 : (.selects RX1 yX1_takesPlus yX1_takesPlus : Cond) ∈ TB := TB_c1 _ (List.mem_of_getElem? (i := 38) rfl)
theorem k79 : (.methodLink RX1 67 yX1_takesReader : Cond) ∈ TB := TB_c1 _ (List.mem_of_getElem? (i := 39) rfl)
theorem k80 : (.instanceMethod yX1_takesReader : Cond) ∈ TB := TB_c2 _ (List.mem_of_getElem? (i := 0) rfl)
theorem k81 : (.selects RX1 yX1_takesReader yX1_takesReader : Cond) ∈ TB := TB_c2 _ (List.mem_of_getElem? (i := 1) rfl)
theorem k82 : (.methodLink RX1 74 yX1_takesDigit : Cond) ∈ TB := TB_c2 _ (List.mem_of_getElem? (i := 2) rfl)
theorem k83 : (.instanceMethod yX1_takesDigit : Cond) ∈ TB := TB_c2 _ (List.mem_of_getElem? (i := 3) rfl)
theorem k84 : (.selects RX1 yX1_takesDigit yX1_takesDigit : Cond) ∈ TB := TB_c2 _ (List.mem_of_getElem? (i := 4) rfl)
theorem k85 : (.methodLink RX1 77 yX1_takesLetter : Cond) ∈ TB := TB_c2 _ (List.mem_of_getElem? (i := 5) rfl)
theorem k86 : (.instanceMethod yX1_takesLetter : Cond) ∈ TB := TB_c2 _ (List.mem_of_getElem? (i := 6) rfl)
theorem k87 : (.selects RX1 yX1_takesLetter yX1_takesLetter : Cond) ∈ TB := TB_c2 _ (List.mem_of_getElem? (i := 7) rfl)
theorem k88 : (.code yX1_takes cX1_takes 2 (some .boolean) : Cond) ∈ TB := TB_c2 _ (List.mem_of_getElem? (i := 8) rfl)
theorem k89 : (.methodLink RX1 50 yX1_takes : Cond) ∈ TB := TB_c2 _ (List.mem_of_getElem? (i := 9) rfl)
theorem k90 : (.instanceMethod yX1_takes : Cond) ∈ TB := TB_c2 _ (List.mem_of_getElem? (i := 10) rfl)
theorem k91 : (.selects RX1 yX1_takes yX1_takes : Cond) ∈ TB := TB_c2 _ (List.mem_of_getElem? (i := 11) rfl)
theorem k92 : (.code yX1_findFault cX1_findFault 2 (some .int) : Cond) ∈ TB := TB_c2 _ (List.mem_of_getElem? (i := 12) rfl)
theorem k93 : (.code yX2_writePupil cX2_writePupil 5 none : Cond) ∈ TB := TB_c2 _ (List.mem_of_getElem? (i := 13) rfl)
theorem k94 : (.code yX2_addPupil cX2_addPupil 4 none : Cond) ∈ TB := TB_c2 _ (List.mem_of_getElem? (i := 14) rfl)
theorem k95 : (.methodLink RX2 44 yX2_writePupil : Cond) ∈ TB := TB_c2 _ (List.mem_of_getElem? (i := 15) rfl)
theorem k96 : (.instanceMethod yX2_writePupil : Cond) ∈ TB := TB_c2 _ (List.mem_of_getElem? (i := 16) rfl)
theorem k97 : (.selects RX2 yX2_writePupil yX2_writePupil : Cond) ∈ TB := TB_c2 _ (List.mem_of_getElem? (i := 17) rfl)
theorem k98 : (.code yX2_removePupil cX2_removePupil 3 none : Cond) ∈ TB := TB_c2 _ (List.mem_of_getElem? (i := 18) rfl)
theorem k99 : (.code yX4_contains cX4_contains 2 (some .boolean) : Cond) ∈ TB := TB_c2 _ (List.mem_of_getElem? (i := 19) rfl)
theorem k100 : (.code yX2_sits cX2_sits 3 (some .boolean) : Cond) ∈ TB := TB_c2 _ (List.mem_of_getElem? (i := 20) rfl)
theorem k101 : (.static yX4_contains : Cond) ∈ TB := TB_c2 _ (List.mem_of_getElem? (i := 21) rfl)
theorem k102 : (.code yX2_beginOf cX2_beginOf 2 (some .int) : Cond) ∈ TB := TB_c2 _ (List.mem_of_getElem? (i := 22) rfl)
theorem k103 : (.code yX2_lengthOf cX2_lengthOf 3 (some .int) : Cond) ∈ TB := TB_c2 _ (List.mem_of_getElem? (i := 23) rfl)
theorem k104 : (.code yX2_endOf cX2_endOf 3 (some .int) : Cond) ∈ TB := TB_c2 _ (List.mem_of_getElem? (i := 24) rfl)
theorem k105 : (.methodLink RX2 52 yX2_beginOf : Cond) ∈ TB := TB_c2 _ (List.mem_of_getElem? (i := 25) rfl)
theorem k106 : (.instanceMethod yX2_beginOf : Cond) ∈ TB := TB_c2 _ (List.mem_of_getElem? (i := 26) rfl)
theorem k107 : (.selects RX2 yX2_beginOf yX2_beginOf : Cond) ∈ TB := TB_c2 _ (List.mem_of_getElem? (i := 27) rfl)
theorem k108 : (.methodLink RX2 56 yX2_lengthOf : Cond) ∈ TB := TB_c2 _ (List.mem_of_getElem? (i := 28) rfl)
theorem k109 : (.instanceMethod yX2_lengthOf : Cond) ∈ TB := TB_c2 _ (List.mem_of_getElem? (i := 29) rfl)
theorem k110 : (.selects RX2 yX2_lengthOf yX2_lengthOf : Cond) ∈ TB := TB_c2 _ (List.mem_of_getElem? (i := 30) rfl)
theorem k111 : (.code yX2_isSatAt cX2_isSatAt 4 (some .boolean) : Cond) ∈ TB := TB_c2 _ (List.mem_of_getElem? (i := 31) rfl)
theorem k112 : (.methodLink RX2 60 yX2_endOf : Cond) ∈ TB := TB_c2 _ (List.mem_of_getElem? (i := 32) rfl)
theorem k113 : (.instanceMethod yX2_endOf : Cond) ∈ TB := TB_c2 _ (List.mem_of_getElem? (i := 33) rfl)
theorem k114 : (.selects RX2 yX2_endOf yX2_endOf : Cond) ∈ TB := TB_c2 _ (List.mem_of_getElem? (i := 34) rfl)
theorem k115 : (.code yJ6_bitCount_0f7a4 cJ6_bitCount_0f7a4 1 (some .int) : Cond) ∈ TB := TB_c2 _ (List.mem_of_getElem? (i := 35) rfl)
theorem k116 : (.constant RJ6 265 (1431655765) : Cond) ∈ TB := TB_c2 _ (List.mem_of_getElem? (i := 36) rfl)
theorem k117 : (.constant RJ6 266 (858993459) : Cond) ∈ TB := TB_c2 _ (List.mem_of_getElem? (i := 37) rfl)
theorem k118 : (.constant RJ6 267 (252645135) : Cond) ∈ TB := TB_c2 _ (List.mem_of_getElem? (i := 38) rfl)
theorem k119 : (.code yX2_sittings cX2_sittings 3 (some .int) : Cond) ∈ TB := TB_c2 _ (List.mem_of_getElem? (i := 39) rfl)
theorem k120 : (.methodLink RX2 63 yJ6_bitCount_0f7a4 : Cond) ∈ TB := TB_c3 _ (List.mem_of_getElem? (i := 0) rfl)
theorem k121 : (.static yJ6_bitCount_0f7a4 : Cond) ∈ TB := TB_c3 _ (List.mem_of_getElem? (i := 1) rfl)
theorem k122 : (.initialized RJ6 : Cond) ∈ TB := TB_c3 _ (List.mem_of_getElem? (i := 2) rfl)
theorem k123 : (.code yX2_minutesOf cX2_minutesOf 4 (some .int) : Cond) ∈ TB := TB_c3 _ (List.mem_of_getElem? (i := 3) rfl)
theorem k124 : (.methodLink RX2 68 yX2_sits : Cond) ∈ TB := TB_c3 _ (List.mem_of_getElem? (i := 4) rfl)
theorem k125 : (.instanceMethod yX2_sits : Cond) ∈ TB := TB_c3 _ (List.mem_of_getElem? (i := 5) rfl)
theorem k126 : (.selects RX2 yX2_sits yX2_sits : Cond) ∈ TB := TB_c3 _ (List.mem_of_getElem? (i := 6) rfl)
theorem k127 : (.code yX2_pupilsOf cX2_pupilsOf 4 (some .int) : Cond) ∈ TB := TB_c3 _ (List.mem_of_getElem? (i := 7) rfl)
theorem k128 : (.code yX2_clashingPapers cX2_clashingPapers 5 (some .int) : Cond) ∈ TB := TB_c3 _ (List.mem_of_getElem? (i := 8) rfl)
theorem k129 : (.methodLink RX2 71 yX2_clashingPapers : Cond) ∈ TB := TB_c3 _ (List.mem_of_getElem? (i := 9) rfl)
theorem k130 : (.instanceMethod yX2_clashingPapers : Cond) ∈ TB := TB_c3 _ (List.mem_of_getElem? (i := 10) rfl)
theorem k131 : (.selects RX2 yX2_clashingPapers yX2_clashingPapers : Cond) ∈ TB := TB_c3 _ (List.mem_of_getElem? (i := 11) rfl)
theorem k132 : (.code yX2_clashesOf cX2_clashesOf 4 (some .int) : Cond) ∈ TB := TB_c3 _ (List.mem_of_getElem? (i := 12) rfl)
theorem k133 : (.methodLink RX2 74 yX2_clashesOf : Cond) ∈ TB := TB_c3 _ (List.mem_of_getElem? (i := 13) rfl)
theorem k134 : (.instanceMethod yX2_clashesOf : Cond) ∈ TB := TB_c3 _ (List.mem_of_getElem? (i := 14) rfl)
theorem k135 : (.selects RX2 yX2_clashesOf yX2_clashesOf : Cond) ∈ TB := TB_c3 _ (List.mem_of_getElem? (i := 15) rfl)
theorem k136 : (.code yX2_clashes cX2_clashes 3 (some .int) : Cond) ∈ TB := TB_c3 _ (List.mem_of_getElem? (i := 16) rfl)
theorem k137 : (.methodLink RX2 77 Lib.Math.max.name : Cond) ∈ TB := TB_c3 _ (List.mem_of_getElem? (i := 17) rfl)
theorem k138 : (.static Lib.Math.max.name : Cond) ∈ TB := TB_c3 _ (List.mem_of_getElem? (i := 18) rfl)
theorem k139 : (.initialized "java/lang/Math" : Cond) ∈ TB := TB_c3 _ (List.mem_of_getElem? (i := 19) rfl)
theorem k140 : (.code Lib.Math.max.name Lib.Math.max.code 2 (some .int) : Cond) ∈ TB := TB_c3 _ (List.mem_of_getElem? (i := 20) rfl)
theorem k141 : (.code yX2_lastEndOf cX2_lastEndOf 4 (some .int) : Cond) ∈ TB := TB_c3 _ (List.mem_of_getElem? (i := 21) rfl)
theorem k142 : (.methodLink RX2 82 yX2_lastEndOf : Cond) ∈ TB := TB_c3 _ (List.mem_of_getElem? (i := 22) rfl)
theorem k143 : (.instanceMethod yX2_lastEndOf : Cond) ∈ TB := TB_c3 _ (List.mem_of_getElem? (i := 23) rfl)
theorem k144 : (.selects RX2 yX2_lastEndOf yX2_lastEndOf : Cond) ∈ TB := TB_c3 _ (List.mem_of_getElem? (i := 24) rfl)
theorem k145 : (.code yX2_lastEnd cX2_lastEnd 3 (some .int) : Cond) ∈ TB := TB_c3 _ (List.mem_of_getElem? (i := 25) rfl)
theorem k146 : (.methodLink RX2 88 yX2_isSatAt : Cond) ∈ TB := TB_c3 _ (List.mem_of_getElem? (i := 26) rfl)
theorem k147 : (.instanceMethod yX2_isSatAt : Cond) ∈ TB := TB_c3 _ (List.mem_of_getElem? (i := 27) rfl)
theorem k148 : (.selects RX2 yX2_isSatAt yX2_isSatAt : Cond) ∈ TB := TB_c3 _ (List.mem_of_getElem? (i := 28) rfl)
theorem k149 : (.code yX2_readersAt cX2_readersAt 5 (some .int) : Cond) ∈ TB := TB_c3 _ (List.mem_of_getElem? (i := 29) rfl)
theorem k150 : (.methodLink RX2 85 yX2_readersAt : Cond) ∈ TB := TB_c3 _ (List.mem_of_getElem? (i := 30) rfl)
theorem k151 : (.instanceMethod yX2_readersAt : Cond) ∈ TB := TB_c3 _ (List.mem_of_getElem? (i := 31) rfl)
theorem k152 : (.selects RX2 yX2_readersAt yX2_readersAt : Cond) ∈ TB := TB_c3 _ (List.mem_of_getElem? (i := 32) rfl)
theorem k153 : (.code yX2_mostReaders cX2_mostReaders 3 (some .int) : Cond) ∈ TB := TB_c3 _ (List.mem_of_getElem? (i := 33) rfl)
theorem k154 : (.code yX2_isOpen cX2_isOpen 2 (some .boolean) : Cond) ∈ TB := TB_c3 _ (List.mem_of_getElem? (i := 34) rfl)
theorem k155 : (.code yX2_desksOf cX2_desksOf 2 (some .int) : Cond) ∈ TB := TB_c3 _ (List.mem_of_getElem? (i := 35) rfl)
theorem k156 : (.code yX2_openDesks cX2_openDesks 3 (some .int) : Cond) ∈ TB := TB_c3 _ (List.mem_of_getElem? (i := 36) rfl)
theorem k157 : (.methodLink RX2 92 yX2_isOpen : Cond) ∈ TB := TB_c3 _ (List.mem_of_getElem? (i := 37) rfl)
theorem k158 : (.instanceMethod yX2_isOpen : Cond) ∈ TB := TB_c3 _ (List.mem_of_getElem? (i := 38) rfl)
theorem k159 : (.selects RX2 yX2_isOpen yX2_isOpen : Cond) ∈ TB := TB_c3 _ (List.mem_of_getElem? (i := 39) rfl)
theorem k160 : (.methodLink RX2 96 yX2_desksOf : Cond) ∈ TB := TB_c4 _ (List.mem_of_getElem? (i := 0) rfl)
theorem k161 : (.instanceMethod yX2_desksOf : Cond) ∈ TB := TB_c4 _ (List.mem_of_getElem? (i := 1) rfl)
theorem k162 : (.selects RX2 yX2_desksOf yX2_desksOf : Cond) ∈ TB := TB_c4 _ (List.mem_of_getElem? (i := 2) rfl)
theorem k163 : (.methodLink RX3 3 objectInit : Cond) ∈ TB := TB_c4 _ (List.mem_of_getElem? (i := 3) rfl)
theorem k164 : (.classLink RX3 9 RX2 : Cond) ∈ TB := TB_c4 _ (List.mem_of_getElem? (i := 4) rfl)
theorem k165 : (.fieldLink RX3 12 "ExamHalls$Seating" "school" "LExamHalls$School;" : Cond) ∈ TB := TB_c4 _ (List.mem_of_getElem? (i := 5) rfl)
theorem k166 : (.fieldLink RX3 18 "ExamHalls$Seating" "halls" "[I" : Cond) ∈ TB := TB_c4 _ (List.mem_of_getElem? (i := 6) rfl)
theorem k167 : (.fieldLink RX3 22 "ExamHalls$Seating" "desks" "[I" : Cond) ∈ TB := TB_c4 _ (List.mem_of_getElem? (i := 7) rfl)
theorem k168 : (.fieldLink RX3 25 "ExamHalls$Seating" "rooms" "[I" : Cond) ∈ TB := TB_c4 _ (List.mem_of_getElem? (i := 8) rfl)
theorem k169 : (.fieldLink RX3 28 "ExamHalls$Seating" "unplaced" "I" : Cond) ∈ TB := TB_c4 _ (List.mem_of_getElem? (i := 9) rfl)
theorem k170 : (.fieldLink RX3 32 "ExamHalls$Seating" "unplacedReaders" "I" : Cond) ∈ TB := TB_c4 _ (List.mem_of_getElem? (i := 10) rfl)
theorem k171 : (.fieldLink RX3 35 "ExamHalls$Seating" "deskEnds" "[I" : Cond) ∈ TB := TB_c4 _ (List.mem_of_getElem? (i := 11) rfl)
theorem k172 : (.fieldLink RX3 38 "ExamHalls$Seating" "deskPapers" "[I" : Cond) ∈ TB := TB_c4 _ (List.mem_of_getElem? (i := 12) rfl)
theorem k173 : (.fieldLink RX3 41 "ExamHalls$Seating" "roomEnds" "[I" : Cond) ∈ TB := TB_c4 _ (List.mem_of_getElem? (i := 13) rfl)
theorem k174 : (.code yX3_init cX3_init 1 none : Cond) ∈ TB := TB_c4 _ (List.mem_of_getElem? (i := 14) rfl)
theorem k175 : (.code yX3_clear cX3_clear 2 none : Cond) ∈ TB := TB_c4 _ (List.mem_of_getElem? (i := 15) rfl)
theorem k176 : (.code yX3_isEarlyEnough cX3_isEarlyEnough 3 (some .boolean) : Cond) ∈ TB := TB_c4 _ (List.mem_of_getElem? (i := 16) rfl)
theorem k177 : (.fieldLink RX3 72 "ExamHalls$School" "settings" "[I" : Cond) ∈ TB := TB_c4 _ (List.mem_of_getElem? (i := 17) rfl)
theorem k178 : (.methodLink RX3 102 yX2_beginOf : Cond) ∈ TB := TB_c4 _ (List.mem_of_getElem? (i := 18) rfl)
theorem k179 : (.code yX4_sittingNumber cX4_sittingNumber 2 (some .int) : Cond) ∈ TB := TB_c4 _ (List.mem_of_getElem? (i := 19) rfl)
theorem k180 : (.methodLink RX3 75 yX3_isEarlyEnough : Cond) ∈ TB := TB_c4 _ (List.mem_of_getElem? (i := 20) rfl)
theorem k181 : (.instanceMethod yX3_isEarlyEnough : Cond) ∈ TB := TB_c4 _ (List.mem_of_getElem? (i := 21) rfl)
theorem k182 : (.selects RX3 yX3_isEarlyEnough yX3_isEarlyEnough : Cond) ∈ TB := TB_c4 _ (List.mem_of_getElem? (i := 22) rfl)
theorem k183 : (.initialized RX3 : Cond) ∈ TB := TB_c4 _ (List.mem_of_getElem? (i := 23) rfl)
theorem k184 : (.static yX4_sittingNumber : Cond) ∈ TB := TB_c4 _ (List.mem_of_getElem? (i := 24) rfl)
theorem k185 : (.methodLink RX3 82 yX2_endOf : Cond) ∈ TB := TB_c4 _ (List.mem_of_getElem? (i := 25) rfl)
theorem k186 : (.code yX3_seatInRoom cX3_seatInRoom 4 none : Cond) ∈ TB := TB_c4 _ (List.mem_of_getElem? (i := 26) rfl)
theorem k187 : (.code yX3_isBeside cX3_isBeside 7 (some .boolean) : Cond) ∈ TB := TB_c4 _ (List.mem_of_getElem? (i := 27) rfl)
theorem k188 : (.fieldLink RX3 95 "ExamHalls$School" "columns" "[I" : Cond) ∈ TB := TB_c4 _ (List.mem_of_getElem? (i := 28) rfl)
theorem k189 : (.fieldLink RX3 92 "ExamHalls$School" "rows" "[I" : Cond) ∈ TB := TB_c4 _ (List.mem_of_getElem? (i := 29) rfl)
theorem k190 : (.code yX3_firstDesk cX3_firstDesk 6 (some .int) : Cond) ∈ TB := TB_c4 _ (List.mem_of_getElem? (i := 30) rfl)
theorem k191 : (.methodLink RX3 98 yX3_isBeside : Cond) ∈ TB := TB_c4 _ (List.mem_of_getElem? (i := 31) rfl)
theorem k192 : (.instanceMethod yX3_isBeside : Cond) ∈ TB := TB_c4 _ (List.mem_of_getElem? (i := 32) rfl)
theorem k193 : (.selects RX3 yX3_isBeside yX3_isBeside : Cond) ∈ TB := TB_c4 _ (List.mem_of_getElem? (i := 33) rfl)
theorem k194 : (.methodLink RX3 85 yX2_isOpen : Cond) ∈ TB := TB_c4 _ (List.mem_of_getElem? (i := 34) rfl)
theorem k195 : (.methodLink RX3 89 yX3_firstDesk : Cond) ∈ TB := TB_c4 _ (List.mem_of_getElem? (i := 35) rfl)
theorem k196 : (.instanceMethod yX3_firstDesk : Cond) ∈ TB := TB_c4 _ (List.mem_of_getElem? (i := 36) rfl)
theorem k197 : (.selects RX3 yX3_firstDesk yX3_firstDesk : Cond) ∈ TB := TB_c4 _ (List.mem_of_getElem? (i := 37) rfl)
theorem k198 : (.code yX3_seatAtDesk cX3_seatAtDesk 6 none : Cond) ∈ TB := TB_c4 _ (List.mem_of_getElem? (i := 38) rfl)
theorem k199 : (.fieldLink RX3 54 "ExamHalls$School" "pupils" "I" : Cond) ∈ TB := TB_c4 _ (List.mem_of_getElem? (i := 39) rfl)
theorem k200 : (.fieldLink RX3 61 "ExamHalls$School" "readers" "[Z" : Cond) ∈ TB := TB_c5 _ (List.mem_of_getElem? (i := 0) rfl)
theorem k201 : (.methodLink RX3 57 yX2_sits : Cond) ∈ TB := TB_c5 _ (List.mem_of_getElem? (i := 1) rfl)
theorem k202 : (.methodLink RX3 65 yX3_seatInRoom : Cond) ∈ TB := TB_c5 _ (List.mem_of_getElem? (i := 2) rfl)
theorem k203 : (.instanceMethod yX3_seatInRoom : Cond) ∈ TB := TB_c5 _ (List.mem_of_getElem? (i := 3) rfl)
theorem k204 : (.selects RX3 yX3_seatInRoom yX3_seatInRoom : Cond) ∈ TB := TB_c5 _ (List.mem_of_getElem? (i := 4) rfl)
theorem k205 : (.methodLink RX3 69 yX3_seatAtDesk : Cond) ∈ TB := TB_c5 _ (List.mem_of_getElem? (i := 5) rfl)
theorem k206 : (.instanceMethod yX3_seatAtDesk : Cond) ∈ TB := TB_c5 _ (List.mem_of_getElem? (i := 6) rfl)
theorem k207 : (.selects RX3 yX3_seatAtDesk yX3_seatAtDesk : Cond) ∈ TB := TB_c5 _ (List.mem_of_getElem? (i := 7) rfl)
theorem k208 : (.code yX3_seatPupils cX3_seatPupils 3 none : Cond) ∈ TB := TB_c5 _ (List.mem_of_getElem? (i := 8) rfl)
theorem k209 : (.fieldLink RX3 47 "ExamHalls$School" "starts" "[I" : Cond) ∈ TB := TB_c5 _ (List.mem_of_getElem? (i := 9) rfl)
theorem k210 : (.methodLink RX3 44 yX3_clear : Cond) ∈ TB := TB_c5 _ (List.mem_of_getElem? (i := 10) rfl)
theorem k211 : (.instanceMethod yX3_clear : Cond) ∈ TB := TB_c5 _ (List.mem_of_getElem? (i := 11) rfl)
theorem k212 : (.selects RX3 yX3_clear yX3_clear : Cond) ∈ TB := TB_c5 _ (List.mem_of_getElem? (i := 12) rfl)
theorem k213 : (.methodLink RX3 50 yX3_seatPupils : Cond) ∈ TB := TB_c5 _ (List.mem_of_getElem? (i := 13) rfl)
theorem k214 : (.instanceMethod yX3_seatPupils : Cond) ∈ TB := TB_c5 _ (List.mem_of_getElem? (i := 14) rfl)
theorem k215 : (.selects RX3 yX3_seatPupils yX3_seatPupils : Cond) ∈ TB := TB_c5 _ (List.mem_of_getElem? (i := 15) rfl)
theorem k216 : (.code yX3_seatAll cX3_seatAll 3 none : Cond) ∈ TB := TB_c5 _ (List.mem_of_getElem? (i := 16) rfl)
theorem k217 : (.code yX3_isUnplaced cX3_isUnplaced 4 (some .boolean) : Cond) ∈ TB := TB_c5 _ (List.mem_of_getElem? (i := 17) rfl)
theorem k218 : (.code yX3_unplacedPapersOf cX3_unplacedPapersOf 4 (some .int) : Cond) ∈ TB := TB_c5 _ (List.mem_of_getElem? (i := 18) rfl)
theorem k219 : (.methodLink RX3 109 yX3_isUnplaced : Cond) ∈ TB := TB_c5 _ (List.mem_of_getElem? (i := 19) rfl)
theorem k220 : (.instanceMethod yX3_isUnplaced : Cond) ∈ TB := TB_c5 _ (List.mem_of_getElem? (i := 20) rfl)
theorem k221 : (.selects RX3 yX3_isUnplaced yX3_isUnplaced : Cond) ∈ TB := TB_c5 _ (List.mem_of_getElem? (i := 21) rfl)
theorem k222 : (.code yX3_unplacedOf cX3_unplacedOf 4 (some .int) : Cond) ∈ TB := TB_c5 _ (List.mem_of_getElem? (i := 22) rfl)
theorem k223 : (.code yX3_hallsOf cX3_hallsOf 5 (some .int) : Cond) ∈ TB := TB_c5 _ (List.mem_of_getElem? (i := 23) rfl)
theorem k224 : (.code yX3_seatedIn cX3_seatedIn 4 (some .int) : Cond) ∈ TB := TB_c5 _ (List.mem_of_getElem? (i := 24) rfl)
theorem k225 : (.code yX3_isNow cX3_isNow 3 (some .boolean) : Cond) ∈ TB := TB_c5 _ (List.mem_of_getElem? (i := 25) rfl)
theorem k226 : (.methodLink RX3 123 yX2_isSatAt : Cond) ∈ TB := TB_c5 _ (List.mem_of_getElem? (i := 26) rfl)
theorem k227 : (.methodLink RX3 120 yX3_isNow : Cond) ∈ TB := TB_c5 _ (List.mem_of_getElem? (i := 27) rfl)
theorem k228 : (.instanceMethod yX3_isNow : Cond) ∈ TB := TB_c5 _ (List.mem_of_getElem? (i := 28) rfl)
theorem k229 : (.selects RX3 yX3_isNow yX3_isNow : Cond) ∈ TB := TB_c5 _ (List.mem_of_getElem? (i := 29) rfl)
theorem k230 : (.code yX3_takenIn cX3_takenIn 5 (some .int) : Cond) ∈ TB := TB_c5 _ (List.mem_of_getElem? (i := 30) rfl)
theorem k231 : (.methodLink RX3 115 Lib.Math.max.name : Cond) ∈ TB := TB_c5 _ (List.mem_of_getElem? (i := 31) rfl)
theorem k232 : (.methodLink RX3 112 yX3_takenIn : Cond) ∈ TB := TB_c5 _ (List.mem_of_getElem? (i := 32) rfl)
theorem k233 : (.instanceMethod yX3_takenIn : Cond) ∈ TB := TB_c5 _ (List.mem_of_getElem? (i := 33) rfl)
theorem k234 : (.selects RX3 yX3_takenIn yX3_takenIn : Cond) ∈ TB := TB_c5 _ (List.mem_of_getElem? (i := 34) rfl)
theorem k235 : (.code yX3_mostTakenIn cX3_mostTakenIn 4 (some .int) : Cond) ∈ TB := TB_c5 _ (List.mem_of_getElem? (i := 35) rfl)
theorem k236 : (.code yX3_sittingAt cX3_sittingAt 5 (some .int) : Cond) ∈ TB := TB_c5 _ (List.mem_of_getElem? (i := 36) rfl)
theorem k237 : (.methodLink RX4 3 objectInit : Cond) ∈ TB := TB_c5 _ (List.mem_of_getElem? (i := 37) rfl)
theorem k238 : (.classLink RX4 9 RX3 : Cond) ∈ TB := TB_c5 _ (List.mem_of_getElem? (i := 38) rfl)
theorem k239 : (.instantiable RX3 9 : Cond) ∈ TB := TB_c5 _ (List.mem_of_getElem? (i := 39) rfl)
theorem k240 : (.fieldLink RX4 12 "ExamHalls" "seating" "LExamHalls$Seating;" : Cond) ∈ TB := TB_c6 _ (List.mem_of_getElem? (i := 0) rfl)
theorem k241 : (.fieldLink RX4 16 "ExamHalls$Seating" "school" "LExamHalls$School;" : Cond) ∈ TB := TB_c6 _ (List.mem_of_getElem? (i := 1) rfl)
theorem k242 : (.fieldLink RX4 20 "ExamHalls" "school" "LExamHalls$School;" : Cond) ∈ TB := TB_c6 _ (List.mem_of_getElem? (i := 2) rfl)
theorem k243 : (.fieldLink RX4 21 "ExamHalls" "trialSeating" "LExamHalls$Seating;" : Cond) ∈ TB := TB_c6 _ (List.mem_of_getElem? (i := 3) rfl)
theorem k244 : (.fieldLink RX4 24 "ExamHalls" "trial" "LExamHalls$School;" : Cond) ∈ TB := TB_c6 _ (List.mem_of_getElem? (i := 4) rfl)
theorem k245 : (.classLink RX4 27 RX1 : Cond) ∈ TB := TB_c6 _ (List.mem_of_getElem? (i := 5) rfl)
theorem k246 : (.instantiable RX1 10 : Cond) ∈ TB := TB_c6 _ (List.mem_of_getElem? (i := 6) rfl)
theorem k247 : (.fieldLink RX4 30 "ExamHalls" "pad" "LExamHalls$Pad;" : Cond) ∈ TB := TB_c6 _ (List.mem_of_getElem? (i := 7) rfl)
theorem k248 : (.classLink RX4 34 RX0 : Cond) ∈ TB := TB_c6 _ (List.mem_of_getElem? (i := 8) rfl)
theorem k249 : (.instantiable RX0 2 : Cond) ∈ TB := TB_c6 _ (List.mem_of_getElem? (i := 9) rfl)
theorem k250 : (.fieldLink RX4 37 "ExamHalls" "history" "LExamHalls$History;" : Cond) ∈ TB := TB_c6 _ (List.mem_of_getElem? (i := 10) rfl)
theorem k251 : (.classLink RX4 41 RX2 : Cond) ∈ TB := TB_c6 _ (List.mem_of_getElem? (i := 11) rfl)
theorem k252 : (.fieldLink RX4 44 "ExamHalls" "slots" "[LExamHalls$School;" : Cond) ∈ TB := TB_c6 _ (List.mem_of_getElem? (i := 12) rfl)
theorem k253 : (.fieldLink RX4 48 "ExamHalls" "slotIsUsed" "[Z" : Cond) ∈ TB := TB_c6 _ (List.mem_of_getElem? (i := 13) rfl)
theorem k254 : (.instanceMethod yX3_init : Cond) ∈ TB := TB_c6 _ (List.mem_of_getElem? (i := 14) rfl)
theorem k255 : (.instanceMethod yX1_init : Cond) ∈ TB := TB_c6 _ (List.mem_of_getElem? (i := 15) rfl)
theorem k256 : (.methodLink RX4 36 yX0_init : Cond) ∈ TB := TB_c6 _ (List.mem_of_getElem? (i := 16) rfl)
theorem k257 : (.instanceMethod yX0_init : Cond) ∈ TB := TB_c6 _ (List.mem_of_getElem? (i := 17) rfl)
theorem k258 : (.methodLink RX4 52 yX3_seatAll : Cond) ∈ TB := TB_c6 _ (List.mem_of_getElem? (i := 18) rfl)
theorem k259 : (.instanceMethod yX3_seatAll : Cond) ∈ TB := TB_c6 _ (List.mem_of_getElem? (i := 19) rfl)
theorem k260 : (.selects RX3 yX3_seatAll yX3_seatAll : Cond) ∈ TB := TB_c6 _ (List.mem_of_getElem? (i := 20) rfl)
theorem k261 : (.code yX4_init cX4_init 1 none : Cond) ∈ TB := TB_c6 _ (List.mem_of_getElem? (i := 21) rfl)
theorem k262 : (.fieldLink RX4 59 "ExamHalls" "HIGHEST_SETTINGS" "[I" : Cond) ∈ TB := TB_c6 _ (List.mem_of_getElem? (i := 22) rfl)
theorem k263 : (.fieldLink RX4 63 "ExamHalls$School" "settings" "[I" : Cond) ∈ TB := TB_c6 _ (List.mem_of_getElem? (i := 23) rfl)
theorem k264 : (.methodLink RX4 66 yX0_remember : Cond) ∈ TB := TB_c6 _ (List.mem_of_getElem? (i := 24) rfl)
theorem k265 : (.instanceMethod yX0_remember : Cond) ∈ TB := TB_c6 _ (List.mem_of_getElem? (i := 25) rfl)
theorem k266 : (.selects RX0 yX0_remember yX0_remember : Cond) ∈ TB := TB_c6 _ (List.mem_of_getElem? (i := 26) rfl)
theorem k267 : (.code yX4_set cX4_set 4 (some .int) : Cond) ∈ TB := TB_c6 _ (List.mem_of_getElem? (i := 27) rfl)
theorem k268 : (.code yX4_isStart cX4_isStart 1 (some .boolean) : Cond) ∈ TB := TB_c6 _ (List.mem_of_getElem? (i := 28) rfl)
theorem k269 : (.fieldLink RX4 77 "ExamHalls$School" "starts" "[I" : Cond) ∈ TB := TB_c6 _ (List.mem_of_getElem? (i := 29) rfl)
theorem k270 : (.fieldLink RX4 80 "ExamHalls$School" "minutes" "[I" : Cond) ∈ TB := TB_c6 _ (List.mem_of_getElem? (i := 30) rfl)
theorem k271 : (.methodLink RX4 70 yX4_isPaper : Cond) ∈ TB := TB_c6 _ (List.mem_of_getElem? (i := 31) rfl)
theorem k272 : (.methodLink RX4 74 yX4_isStart : Cond) ∈ TB := TB_c6 _ (List.mem_of_getElem? (i := 32) rfl)
theorem k273 : (.static yX4_isStart : Cond) ∈ TB := TB_c6 _ (List.mem_of_getElem? (i := 33) rfl)
theorem k274 : (.code yX4_paper cX4_paper 5 (some .int) : Cond) ∈ TB := TB_c6 _ (List.mem_of_getElem? (i := 34) rfl)
theorem k275 : (.code yX4_isPupilData cX4_isPupilData 2 (some .boolean) : Cond) ∈ TB := TB_c6 _ (List.mem_of_getElem? (i := 35) rfl)
theorem k276 : (.fieldLink RX4 87 "ExamHalls$School" "pupils" "I" : Cond) ∈ TB := TB_c6 _ (List.mem_of_getElem? (i := 36) rfl)
theorem k277 : (.methodLink RX4 83 yX4_isPupilData : Cond) ∈ TB := TB_c6 _ (List.mem_of_getElem? (i := 37) rfl)
theorem k278 : (.static yX4_isPupilData : Cond) ∈ TB := TB_c6 _ (List.mem_of_getElem? (i := 38) rfl)
theorem k279 : (.methodLink RX4 91 yX2_addPupil : Cond) ∈ TB := TB_c6 _ (List.mem_of_getElem? (i := 39) rfl)
theorem k280 : (.instanceMethod yX2_addPupil : Cond) ∈ TB := TB_c7 _ (List.mem_of_getElem? (i := 0) rfl)
theorem k281 : (.selects RX2 yX2_addPupil yX2_addPupil : Cond) ∈ TB := TB_c7 _ (List.mem_of_getElem? (i := 1) rfl)
theorem k282 : (.code yX4_pupil cX4_pupil 5 (some .int) : Cond) ∈ TB := TB_c7 _ (List.mem_of_getElem? (i := 2) rfl)
theorem k283 : (.fieldLink RX4 99 "ExamHalls$Pad" "found" "I" : Cond) ∈ TB := TB_c7 _ (List.mem_of_getElem? (i := 3) rfl)
theorem k284 : (.fieldLink RX4 102 "ExamHalls$Pad" "foundPapers" "[I" : Cond) ∈ TB := TB_c7 _ (List.mem_of_getElem? (i := 4) rfl)
theorem k285 : (.fieldLink RX4 105 "ExamHalls$Pad" "foundExtras" "[I" : Cond) ∈ TB := TB_c7 _ (List.mem_of_getElem? (i := 5) rfl)
theorem k286 : (.fieldLink RX4 108 "ExamHalls$Pad" "foundReaders" "[Z" : Cond) ∈ TB := TB_c7 _ (List.mem_of_getElem? (i := 6) rfl)
theorem k287 : (.fieldLink RX4 111 "ExamHalls$Pad" "length" "I" : Cond) ∈ TB := TB_c7 _ (List.mem_of_getElem? (i := 7) rfl)
theorem k288 : (.methodLink RX4 95 yX1_findFault : Cond) ∈ TB := TB_c7 _ (List.mem_of_getElem? (i := 8) rfl)
theorem k289 : (.instanceMethod yX1_findFault : Cond) ∈ TB := TB_c7 _ (List.mem_of_getElem? (i := 9) rfl)
theorem k290 : (.selects RX1 yX1_findFault yX1_findFault : Cond) ∈ TB := TB_c7 _ (List.mem_of_getElem? (i := 10) rfl)
theorem k291 : (.code yX4_read cX4_read 2 (some .int) : Cond) ∈ TB := TB_c7 _ (List.mem_of_getElem? (i := 11) rfl)
theorem k292 : (.code yX4_isPupil cX4_isPupil 2 (some .boolean) : Cond) ∈ TB := TB_c7 _ (List.mem_of_getElem? (i := 12) rfl)
theorem k293 : (.methodLink RX4 114 yX4_isPupil : Cond) ∈ TB := TB_c7 _ (List.mem_of_getElem? (i := 13) rfl)
theorem k294 : (.instanceMethod yX4_isPupil : Cond) ∈ TB := TB_c7 _ (List.mem_of_getElem? (i := 14) rfl)
theorem k295 : (.selects RX4 yX4_isPupil yX4_isPupil : Cond) ∈ TB := TB_c7 _ (List.mem_of_getElem? (i := 15) rfl)
theorem k296 : (.methodLink RX4 117 yX2_writePupil : Cond) ∈ TB := TB_c7 _ (List.mem_of_getElem? (i := 16) rfl)
theorem k297 : (.methodLink RX4 121 yX2_clashesOf : Cond) ∈ TB := TB_c7 _ (List.mem_of_getElem? (i := 17) rfl)
theorem k298 : (.code yX4_change cX4_change 5 (some .int) : Cond) ∈ TB := TB_c7 _ (List.mem_of_getElem? (i := 18) rfl)
theorem k299 : (.fieldLink RX4 125 "ExamHalls$School" "papers" "[I" : Cond) ∈ TB := TB_c7 _ (List.mem_of_getElem? (i := 19) rfl)
theorem k300 : (.methodLink RX4 128 yX2_removePupil : Cond) ∈ TB := TB_c7 _ (List.mem_of_getElem? (i := 20) rfl)
theorem k301 : (.instanceMethod yX2_removePupil : Cond) ∈ TB := TB_c7 _ (List.mem_of_getElem? (i := 21) rfl)
theorem k302 : (.selects RX2 yX2_removePupil yX2_removePupil : Cond) ∈ TB := TB_c7 _ (List.mem_of_getElem? (i := 22) rfl)
theorem k303 : (.code yX4_leave cX4_leave 3 (some .int) : Cond) ∈ TB := TB_c7 _ (List.mem_of_getElem? (i := 23) rfl)
theorem k304 : (.code yX4_isHall cX4_isHall 1 (some .boolean) : Cond) ∈ TB := TB_c7 _ (List.mem_of_getElem? (i := 24) rfl)
theorem k305 : (.fieldLink RX4 138 "ExamHalls$School" "rows" "[I" : Cond) ∈ TB := TB_c7 _ (List.mem_of_getElem? (i := 25) rfl)
theorem k306 : (.fieldLink RX4 141 "ExamHalls$School" "columns" "[I" : Cond) ∈ TB := TB_c7 _ (List.mem_of_getElem? (i := 26) rfl)
theorem k307 : (.methodLink RX4 132 yX4_isHall : Cond) ∈ TB := TB_c7 _ (List.mem_of_getElem? (i := 27) rfl)
theorem k308 : (.static yX4_isHall : Cond) ∈ TB := TB_c7 _ (List.mem_of_getElem? (i := 28) rfl)
theorem k309 : (.methodLink RX4 135 yX2_desksOf : Cond) ∈ TB := TB_c7 _ (List.mem_of_getElem? (i := 29) rfl)
theorem k310 : (.code yX4_hall cX4_hall 5 (some .int) : Cond) ∈ TB := TB_c7 _ (List.mem_of_getElem? (i := 30) rfl)
theorem k311 : (.fieldLink RX4 147 "ExamHalls$School" "openHalls" "I" : Cond) ∈ TB := TB_c7 _ (List.mem_of_getElem? (i := 31) rfl)
theorem k312 : (.fieldLink RX4 150 "ExamHalls$Seating" "unplaced" "I" : Cond) ∈ TB := TB_c7 _ (List.mem_of_getElem? (i := 32) rfl)
theorem k313 : (.methodLink RX4 144 yX2_isOpen : Cond) ∈ TB := TB_c7 _ (List.mem_of_getElem? (i := 33) rfl)
theorem k314 : (.code yX4_open cX4_open 3 (some .int) : Cond) ∈ TB := TB_c7 _ (List.mem_of_getElem? (i := 34) rfl)
theorem k315 : (.fieldLink RX4 153 "ExamHalls$School" "extras" "[I" : Cond) ∈ TB := TB_c7 _ (List.mem_of_getElem? (i := 35) rfl)
theorem k316 : (.fieldLink RX4 156 "ExamHalls$School" "readers" "[Z" : Cond) ∈ TB := TB_c7 _ (List.mem_of_getElem? (i := 36) rfl)
theorem k317 : (.methodLink RX4 159 yX3_unplacedPapersOf : Cond) ∈ TB := TB_c7 _ (List.mem_of_getElem? (i := 37) rfl)
theorem k318 : (.instanceMethod yX3_unplacedPapersOf : Cond) ∈ TB := TB_c7 _ (List.mem_of_getElem? (i := 38) rfl)
theorem k319 : (.selects RX3 yX3_unplacedPapersOf yX3_unplacedPapersOf : Cond) ∈ TB := TB_c7 _ (List.mem_of_getElem? (i := 39) rfl)
theorem k320 : (.methodLink RX4 162 yX2_minutesOf : Cond) ∈ TB := TB_c8 _ (List.mem_of_getElem? (i := 0) rfl)
theorem k321 : (.instanceMethod yX2_minutesOf : Cond) ∈ TB := TB_c8 _ (List.mem_of_getElem? (i := 1) rfl)
theorem k322 : (.selects RX2 yX2_minutesOf yX2_minutesOf : Cond) ∈ TB := TB_c8 _ (List.mem_of_getElem? (i := 2) rfl)
theorem k323 : (.code yX4_pupilOf cX4_pupilOf 3 (some .int) : Cond) ∈ TB := TB_c8 _ (List.mem_of_getElem? (i := 3) rfl)
theorem k324 : (.methodLink RX4 165 yX2_pupilsOf : Cond) ∈ TB := TB_c8 _ (List.mem_of_getElem? (i := 4) rfl)
theorem k325 : (.instanceMethod yX2_pupilsOf : Cond) ∈ TB := TB_c8 _ (List.mem_of_getElem? (i := 5) rfl)
theorem k326 : (.selects RX2 yX2_pupilsOf yX2_pupilsOf : Cond) ∈ TB := TB_c8 _ (List.mem_of_getElem? (i := 6) rfl)
theorem k327 : (.methodLink RX4 168 yX2_lastEndOf : Cond) ∈ TB := TB_c8 _ (List.mem_of_getElem? (i := 7) rfl)
theorem k328 : (.methodLink RX4 171 yX3_unplacedOf : Cond) ∈ TB := TB_c8 _ (List.mem_of_getElem? (i := 8) rfl)
theorem k329 : (.instanceMethod yX3_unplacedOf : Cond) ∈ TB := TB_c8 _ (List.mem_of_getElem? (i := 9) rfl)
theorem k330 : (.selects RX3 yX3_unplacedOf yX3_unplacedOf : Cond) ∈ TB := TB_c8 _ (List.mem_of_getElem? (i := 10) rfl)
theorem k331 : (.methodLink RX4 174 yX3_hallsOf : Cond) ∈ TB := TB_c8 _ (List.mem_of_getElem? (i := 11) rfl)
theorem k332 : (.instanceMethod yX3_hallsOf : Cond) ∈ TB := TB_c8 _ (List.mem_of_getElem? (i := 12) rfl)
theorem k333 : (.selects RX3 yX3_hallsOf yX3_hallsOf : Cond) ∈ TB := TB_c8 _ (List.mem_of_getElem? (i := 13) rfl)
theorem k334 : (.code yX4_paperOf cX4_paperOf 3 (some .int) : Cond) ∈ TB := TB_c8 _ (List.mem_of_getElem? (i := 14) rfl)
theorem k335 : (.fieldLink RX4 190 "ExamHalls$Seating" "halls" "[I" : Cond) ∈ TB := TB_c8 _ (List.mem_of_getElem? (i := 15) rfl)
theorem k336 : (.fieldLink RX4 193 "ExamHalls$Seating" "desks" "[I" : Cond) ∈ TB := TB_c8 _ (List.mem_of_getElem? (i := 16) rfl)
theorem k337 : (.fieldLink RX4 196 "ExamHalls$Seating" "rooms" "[I" : Cond) ∈ TB := TB_c8 _ (List.mem_of_getElem? (i := 17) rfl)
theorem k338 : (.methodLink RX4 177 yX2_sits : Cond) ∈ TB := TB_c8 _ (List.mem_of_getElem? (i := 18) rfl)
theorem k339 : (.methodLink RX4 180 yX4_sittingNumber : Cond) ∈ TB := TB_c8 _ (List.mem_of_getElem? (i := 19) rfl)
theorem k340 : (.methodLink RX4 184 yX2_beginOf : Cond) ∈ TB := TB_c8 _ (List.mem_of_getElem? (i := 20) rfl)
theorem k341 : (.methodLink RX4 187 yX2_endOf : Cond) ∈ TB := TB_c8 _ (List.mem_of_getElem? (i := 21) rfl)
theorem k342 : (.methodLink RX4 199 yX2_clashingPapers : Cond) ∈ TB := TB_c8 _ (List.mem_of_getElem? (i := 22) rfl)
theorem k343 : (.code yX4_sitting cX4_sitting 5 (some .int) : Cond) ∈ TB := TB_c8 _ (List.mem_of_getElem? (i := 23) rfl)
theorem k344 : (.methodLink RX4 202 yX3_seatedIn : Cond) ∈ TB := TB_c8 _ (List.mem_of_getElem? (i := 24) rfl)
theorem k345 : (.instanceMethod yX3_seatedIn : Cond) ∈ TB := TB_c8 _ (List.mem_of_getElem? (i := 25) rfl)
theorem k346 : (.selects RX3 yX3_seatedIn yX3_seatedIn : Cond) ∈ TB := TB_c8 _ (List.mem_of_getElem? (i := 26) rfl)
theorem k347 : (.methodLink RX4 205 yX3_mostTakenIn : Cond) ∈ TB := TB_c8 _ (List.mem_of_getElem? (i := 27) rfl)
theorem k348 : (.instanceMethod yX3_mostTakenIn : Cond) ∈ TB := TB_c8 _ (List.mem_of_getElem? (i := 28) rfl)
theorem k349 : (.selects RX3 yX3_mostTakenIn yX3_mostTakenIn : Cond) ∈ TB := TB_c8 _ (List.mem_of_getElem? (i := 29) rfl)
theorem k350 : (.code yX4_hallOf cX4_hallOf 3 (some .int) : Cond) ∈ TB := TB_c8 _ (List.mem_of_getElem? (i := 30) rfl)
theorem k351 : (.fieldLink RX4 223 "ExamHalls$History" "size" "I" : Cond) ∈ TB := TB_c8 _ (List.mem_of_getElem? (i := 31) rfl)
theorem k352 : (.methodLink RX4 208 yX2_sittings : Cond) ∈ TB := TB_c8 _ (List.mem_of_getElem? (i := 32) rfl)
theorem k353 : (.instanceMethod yX2_sittings : Cond) ∈ TB := TB_c8 _ (List.mem_of_getElem? (i := 33) rfl)
theorem k354 : (.selects RX2 yX2_sittings yX2_sittings : Cond) ∈ TB := TB_c8 _ (List.mem_of_getElem? (i := 34) rfl)
theorem k355 : (.methodLink RX4 211 yX2_clashes : Cond) ∈ TB := TB_c8 _ (List.mem_of_getElem? (i := 35) rfl)
theorem k356 : (.instanceMethod yX2_clashes : Cond) ∈ TB := TB_c8 _ (List.mem_of_getElem? (i := 36) rfl)
theorem k357 : (.selects RX2 yX2_clashes yX2_clashes : Cond) ∈ TB := TB_c8 _ (List.mem_of_getElem? (i := 37) rfl)
theorem k358 : (.methodLink RX4 214 yX2_openDesks : Cond) ∈ TB := TB_c8 _ (List.mem_of_getElem? (i := 38) rfl)
theorem k359 : (.instanceMethod yX2_openDesks : Cond) ∈ TB := TB_c8 _ (List.mem_of_getElem? (i := 39) rfl)
theorem k360 : (.selects RX2 yX2_openDesks yX2_openDesks : Cond) ∈ TB := TB_c9 _ (List.mem_of_getElem? (i := 0) rfl)
theorem k361 : (.methodLink RX4 217 yX2_mostReaders : Cond) ∈ TB := TB_c9 _ (List.mem_of_getElem? (i := 1) rfl)
theorem k362 : (.instanceMethod yX2_mostReaders : Cond) ∈ TB := TB_c9 _ (List.mem_of_getElem? (i := 2) rfl)
theorem k363 : (.selects RX2 yX2_mostReaders yX2_mostReaders : Cond) ∈ TB := TB_c9 _ (List.mem_of_getElem? (i := 3) rfl)
theorem k364 : (.methodLink RX4 220 yX2_lastEnd : Cond) ∈ TB := TB_c9 _ (List.mem_of_getElem? (i := 4) rfl)
theorem k365 : (.instanceMethod yX2_lastEnd : Cond) ∈ TB := TB_c9 _ (List.mem_of_getElem? (i := 5) rfl)
theorem k366 : (.selects RX2 yX2_lastEnd yX2_lastEnd : Cond) ∈ TB := TB_c9 _ (List.mem_of_getElem? (i := 6) rfl)
theorem k367 : (.code yX4_count cX4_count 2 (some .int) : Cond) ∈ TB := TB_c9 _ (List.mem_of_getElem? (i := 7) rfl)
theorem k368 : (.methodLink RX4 226 yX3_sittingAt : Cond) ∈ TB := TB_c9 _ (List.mem_of_getElem? (i := 8) rfl)
theorem k369 : (.instanceMethod yX3_sittingAt : Cond) ∈ TB := TB_c9 _ (List.mem_of_getElem? (i := 9) rfl)
theorem k370 : (.selects RX3 yX3_sittingAt yX3_sittingAt : Cond) ∈ TB := TB_c9 _ (List.mem_of_getElem? (i := 10) rfl)
theorem k371 : (.code yX4_at cX4_at 4 (some .int) : Cond) ∈ TB := TB_c9 _ (List.mem_of_getElem? (i := 11) rfl)
theorem k372 : (.methodLink RX4 230 yX2_copyFrom : Cond) ∈ TB := TB_c9 _ (List.mem_of_getElem? (i := 12) rfl)
theorem k373 : (.code yX4_ifStart cX4_ifStart 4 (some .int) : Cond) ∈ TB := TB_c9 _ (List.mem_of_getElem? (i := 13) rfl)
theorem k374 : (.code yX4_bestStart cX4_bestStart 7 (some .int) : Cond) ∈ TB := TB_c9 _ (List.mem_of_getElem? (i := 14) rfl)
theorem k375 : (.code yX4_bestHalls cX4_bestHalls 8 (some .int) : Cond) ∈ TB := TB_c9 _ (List.mem_of_getElem? (i := 15) rfl)
theorem k376 : (.fieldLink RX4 233 "ExamHalls$Seating" "unplacedReaders" "I" : Cond) ∈ TB := TB_c9 _ (List.mem_of_getElem? (i := 16) rfl)
theorem k377 : (.code yX4_leastRooms cX4_leastRooms 2 (some .int) : Cond) ∈ TB := TB_c9 _ (List.mem_of_getElem? (i := 17) rfl)
theorem k378 : (.code yX4_charactersIn cX4_charactersIn 5 (some .int) : Cond) ∈ TB := TB_c9 _ (List.mem_of_getElem? (i := 18) rfl)
theorem k379 : (.constantLong RX4 250 (255) : Cond) ∈ TB := TB_c9 _ (List.mem_of_getElem? (i := 19) rfl)
theorem k380 : (.code yX4_put cX4_put 4 (some .int) : Cond) ∈ TB := TB_c9 _ (List.mem_of_getElem? (i := 20) rfl)
theorem k381 : (.methodLink RX4 236 yX4_charactersIn : Cond) ∈ TB := TB_c9 _ (List.mem_of_getElem? (i := 21) rfl)
theorem k382 : (.static yX4_charactersIn : Cond) ∈ TB := TB_c9 _ (List.mem_of_getElem? (i := 22) rfl)
theorem k383 : (.methodLink RX4 240 yX1_append : Cond) ∈ TB := TB_c9 _ (List.mem_of_getElem? (i := 23) rfl)
theorem k384 : (.instanceMethod yX1_append : Cond) ∈ TB := TB_c9 _ (List.mem_of_getElem? (i := 24) rfl)
theorem k385 : (.selects RX1 yX1_append yX1_append : Cond) ∈ TB := TB_c9 _ (List.mem_of_getElem? (i := 25) rfl)
theorem k386 : (.code yX4_wipe cX4_wipe 2 (some .int) : Cond) ∈ TB := TB_c9 _ (List.mem_of_getElem? (i := 26) rfl)
theorem k387 : (.code yX4_fault cX4_fault 1 (some .int) : Cond) ∈ TB := TB_c9 _ (List.mem_of_getElem? (i := 27) rfl)
theorem k388 : (.methodLink RX4 244 yX0_takeBack : Cond) ∈ TB := TB_c9 _ (List.mem_of_getElem? (i := 28) rfl)
theorem k389 : (.instanceMethod yX0_takeBack : Cond) ∈ TB := TB_c9 _ (List.mem_of_getElem? (i := 29) rfl)
theorem k390 : (.selects RX0 yX0_takeBack yX0_takeBack : Cond) ∈ TB := TB_c9 _ (List.mem_of_getElem? (i := 30) rfl)
theorem k391 : (.code yX4_undo cX4_undo 1 (some .int) : Cond) ∈ TB := TB_c9 _ (List.mem_of_getElem? (i := 31) rfl)
theorem k392 : (.code yX4_isSlot cX4_isSlot 1 (some .boolean) : Cond) ∈ TB := TB_c9 _ (List.mem_of_getElem? (i := 32) rfl)
theorem k393 : (.methodLink RX4 247 yX4_isSlot : Cond) ∈ TB := TB_c9 _ (List.mem_of_getElem? (i := 33) rfl)
theorem k394 : (.static yX4_isSlot : Cond) ∈ TB := TB_c9 _ (List.mem_of_getElem? (i := 34) rfl)
theorem k395 : (.code yX4_save cX4_save 2 (some .int) : Cond) ∈ TB := TB_c9 _ (List.mem_of_getElem? (i := 35) rfl)
theorem k396 : (.code yX4_restore cX4_restore 2 (some .int) : Cond) ∈ TB := TB_c9 _ (List.mem_of_getElem? (i := 36) rfl)
theorem k397 : (.code yX5_init cX5_init 2 none : Cond) ∈ TB := TB_c9 _ (List.mem_of_getElem? (i := 37) rfl)
theorem k398 : (.methodLink RX5 1 objectInit : Cond) ∈ TB := TB_c9 _ (List.mem_of_getElem? (i := 38) rfl)
theorem k399 : (.fieldLink RX5 7 "ExamHallsModel" "s" "[I" : Cond) ∈ TB := TB_c9 _ (List.mem_of_getElem? (i := 39) rfl)
theorem k400 : (.fieldLink RX5 13 "ExamHallsModel" "spare" "[I" : Cond) ∈ TB := TB_c10 _ (List.mem_of_getElem? (i := 0) rfl)
theorem k401 : (.fieldLink RX5 16 "ExamHallsModel" "trial" "[I" : Cond) ∈ TB := TB_c10 _ (List.mem_of_getElem? (i := 1) rfl)
theorem k402 : (.fieldLink RX5 19 "ExamHallsModel" "before" "[I" : Cond) ∈ TB := TB_c10 _ (List.mem_of_getElem? (i := 2) rfl)
theorem k403 : (.fieldLink RX5 22 "ExamHallsModel" "saved" "[I" : Cond) ∈ TB := TB_c10 _ (List.mem_of_getElem? (i := 3) rfl)
theorem k404 : (.fieldLink RX5 25 "ExamHallsModel" "isSaved" "[Z" : Cond) ∈ TB := TB_c10 _ (List.mem_of_getElem? (i := 4) rfl)
theorem k405 : (.fieldLink RX5 29 "ExamHallsModel" "seat" "[I" : Cond) ∈ TB := TB_c10 _ (List.mem_of_getElem? (i := 5) rfl)
theorem k406 : (.fieldLink RX5 32 "ExamHallsModel" "read" "[I" : Cond) ∈ TB := TB_c10 _ (List.mem_of_getElem? (i := 6) rfl)
theorem k407 : (.arrayClass .char : Cond) ∈ TB := TB_c10 _ (List.mem_of_getElem? (i := 7) rfl)
theorem k408 : (.fieldLink RX5 35 "ExamHallsModel" "pad" "[C" : Cond) ∈ TB := TB_c10 _ (List.mem_of_getElem? (i := 8) rfl)
theorem k409 : (.code yX5_in cX5_in 3 (some .boolean) : Cond) ∈ TB := TB_c10 _ (List.mem_of_getElem? (i := 9) rfl)
theorem k410 : (.code yX5_p cX5_p 1 (some .int) : Cond) ∈ TB := TB_c10 _ (List.mem_of_getElem? (i := 10) rfl)
theorem k411 : (.code yX5_h cX5_h 1 (some .int) : Cond) ∈ TB := TB_c10 _ (List.mem_of_getElem? (i := 11) rfl)
theorem k412 : (.code yX5_isPaper cX5_isPaper 1 (some .boolean) : Cond) ∈ TB := TB_c10 _ (List.mem_of_getElem? (i := 12) rfl)
theorem k413 : (.methodLink RX5 39 yX5_in : Cond) ∈ TB := TB_c10 _ (List.mem_of_getElem? (i := 13) rfl)
theorem k414 : (.static yX5_in : Cond) ∈ TB := TB_c10 _ (List.mem_of_getElem? (i := 14) rfl)
theorem k415 : (.initialized RX5 : Cond) ∈ TB := TB_c10 _ (List.mem_of_getElem? (i := 15) rfl)
theorem k416 : (.code yX5_isHall cX5_isHall 1 (some .boolean) : Cond) ∈ TB := TB_c10 _ (List.mem_of_getElem? (i := 16) rfl)
theorem k417 : (.code yX5_isPupil cX5_isPupil 2 (some .boolean) : Cond) ∈ TB := TB_c10 _ (List.mem_of_getElem? (i := 17) rfl)
theorem k418 : (.code yX5_hold cX5_hold 2 none : Cond) ∈ TB := TB_c10 _ (List.mem_of_getElem? (i := 18) rfl)
theorem k419 : (.fieldLink RX5 43 "ExamHallsModel" "isSeated" "Z" : Cond) ∈ TB := TB_c10 _ (List.mem_of_getElem? (i := 19) rfl)
theorem k420 : (.code yX5_recorded cX5_recorded 3 (some .int) : Cond) ∈ TB := TB_c10 _ (List.mem_of_getElem? (i := 20) rfl)
theorem k421 : (.fieldLink RX5 47 "ExamHallsModel" "states" "I" : Cond) ∈ TB := TB_c10 _ (List.mem_of_getElem? (i := 21) rfl)
theorem k422 : (.code yX5_keepTrial cX5_keepTrial 2 none : Cond) ∈ TB := TB_c10 _ (List.mem_of_getElem? (i := 22) rfl)
theorem k423 : (.code yX5_putBack cX5_putBack 2 none : Cond) ∈ TB := TB_c10 _ (List.mem_of_getElem? (i := 23) rfl)
theorem k424 : (.code yX5_isSitting cX5_isSitting 2 (some .boolean) : Cond) ∈ TB := TB_c10 _ (List.mem_of_getElem? (i := 24) rfl)
theorem k425 : (.methodLink RX5 51 yX5_p : Cond) ∈ TB := TB_c10 _ (List.mem_of_getElem? (i := 25) rfl)
theorem k426 : (.static yX5_p : Cond) ∈ TB := TB_c10 _ (List.mem_of_getElem? (i := 26) rfl)
theorem k427 : (.code yX5_begins cX5_begins 2 (some .int) : Cond) ∈ TB := TB_c10 _ (List.mem_of_getElem? (i := 27) rfl)
theorem k428 : (.code yX5_minutes cX5_minutes 2 (some .int) : Cond) ∈ TB := TB_c10 _ (List.mem_of_getElem? (i := 28) rfl)
theorem k429 : (.code yX5_ends cX5_ends 2 (some .int) : Cond) ∈ TB := TB_c10 _ (List.mem_of_getElem? (i := 29) rfl)
theorem k430 : (.methodLink RX5 55 yX5_begins : Cond) ∈ TB := TB_c10 _ (List.mem_of_getElem? (i := 30) rfl)
theorem k431 : (.instanceMethod yX5_begins : Cond) ∈ TB := TB_c10 _ (List.mem_of_getElem? (i := 31) rfl)
theorem k432 : (.selects RX5 yX5_begins yX5_begins : Cond) ∈ TB := TB_c10 _ (List.mem_of_getElem? (i := 32) rfl)
theorem k433 : (.methodLink RX5 58 yX5_minutes : Cond) ∈ TB := TB_c10 _ (List.mem_of_getElem? (i := 33) rfl)
theorem k434 : (.instanceMethod yX5_minutes : Cond) ∈ TB := TB_c10 _ (List.mem_of_getElem? (i := 34) rfl)
theorem k435 : (.selects RX5 yX5_minutes yX5_minutes : Cond) ∈ TB := TB_c10 _ (List.mem_of_getElem? (i := 35) rfl)
theorem k436 : (.code yX5_needsReader cX5_needsReader 2 (some .boolean) : Cond) ∈ TB := TB_c10 _ (List.mem_of_getElem? (i := 36) rfl)
theorem k437 : (.code yX5_clash cX5_clash 3 (some .boolean) : Cond) ∈ TB := TB_c10 _ (List.mem_of_getElem? (i := 37) rfl)
theorem k438 : (.methodLink RX5 61 yX5_ends : Cond) ∈ TB := TB_c10 _ (List.mem_of_getElem? (i := 38) rfl)
theorem k439 : (.instanceMethod yX5_ends : Cond) ∈ TB := TB_c10 _ (List.mem_of_getElem? (i := 39) rfl)
theorem k440 : (.selects RX5 yX5_ends yX5_ends : Cond) ∈ TB := TB_c11 _ (List.mem_of_getElem? (i := 0) rfl)
theorem k441 : (.code yX5_isFree cX5_isFree 6 (some .boolean) : Cond) ∈ TB := TB_c11 _ (List.mem_of_getElem? (i := 1) rfl)
theorem k442 : (.code yX5_has cX5_has 5 (some .boolean) : Cond) ∈ TB := TB_c11 _ (List.mem_of_getElem? (i := 2) rfl)
theorem k443 : (.code yX5_isAlone cX5_isAlone 11 (some .boolean) : Cond) ∈ TB := TB_c11 _ (List.mem_of_getElem? (i := 3) rfl)
theorem k444 : (.methodLink RX5 64 yX5_h : Cond) ∈ TB := TB_c11 _ (List.mem_of_getElem? (i := 4) rfl)
theorem k445 : (.static yX5_h : Cond) ∈ TB := TB_c11 _ (List.mem_of_getElem? (i := 5) rfl)
theorem k446 : (.methodLink RX5 67 yX5_has : Cond) ∈ TB := TB_c11 _ (List.mem_of_getElem? (i := 6) rfl)
theorem k447 : (.instanceMethod yX5_has : Cond) ∈ TB := TB_c11 _ (List.mem_of_getElem? (i := 7) rfl)
theorem k448 : (.selects RX5 yX5_has yX5_has : Cond) ∈ TB := TB_c11 _ (List.mem_of_getElem? (i := 8) rfl)
theorem k449 : (.code yX5_desks cX5_desks 2 (some .int) : Cond) ∈ TB := TB_c11 _ (List.mem_of_getElem? (i := 9) rfl)
theorem k450 : (.code yX5_desksAt cX5_desksAt 3 (some .int) : Cond) ∈ TB := TB_c11 _ (List.mem_of_getElem? (i := 10) rfl)
theorem k451 : (.methodLink RX5 71 yX5_desks : Cond) ∈ TB := TB_c11 _ (List.mem_of_getElem? (i := 11) rfl)
theorem k452 : (.instanceMethod yX5_desks : Cond) ∈ TB := TB_c11 _ (List.mem_of_getElem? (i := 12) rfl)
theorem k453 : (.selects RX5 yX5_desks yX5_desks : Cond) ∈ TB := TB_c11 _ (List.mem_of_getElem? (i := 13) rfl)
theorem k454 : (.methodLink RX5 74 yX5_desksAt : Cond) ∈ TB := TB_c11 _ (List.mem_of_getElem? (i := 14) rfl)
theorem k455 : (.instanceMethod yX5_desksAt : Cond) ∈ TB := TB_c11 _ (List.mem_of_getElem? (i := 15) rfl)
theorem k456 : (.selects RX5 yX5_desksAt yX5_desksAt : Cond) ∈ TB := TB_c11 _ (List.mem_of_getElem? (i := 16) rfl)
theorem k457 : (.methodLink RX5 78 yX5_isFree : Cond) ∈ TB := TB_c11 _ (List.mem_of_getElem? (i := 17) rfl)
theorem k458 : (.instanceMethod yX5_isFree : Cond) ∈ TB := TB_c11 _ (List.mem_of_getElem? (i := 18) rfl)
theorem k459 : (.selects RX5 yX5_isFree yX5_isFree : Cond) ∈ TB := TB_c11 _ (List.mem_of_getElem? (i := 19) rfl)
theorem k460 : (.methodLink RX5 81 yX5_isAlone : Cond) ∈ TB := TB_c11 _ (List.mem_of_getElem? (i := 20) rfl)
theorem k461 : (.instanceMethod yX5_isAlone : Cond) ∈ TB := TB_c11 _ (List.mem_of_getElem? (i := 21) rfl)
theorem k462 : (.selects RX5 yX5_isAlone yX5_isAlone : Cond) ∈ TB := TB_c11 _ (List.mem_of_getElem? (i := 22) rfl)
theorem k463 : (.code yX5_deskFor cX5_deskFor 5 (some .int) : Cond) ∈ TB := TB_c11 _ (List.mem_of_getElem? (i := 23) rfl)
theorem k464 : (.code yX5_roomFor cX5_roomFor 3 (some .int) : Cond) ∈ TB := TB_c11 _ (List.mem_of_getElem? (i := 24) rfl)
theorem k465 : (.methodLink RX5 84 yX5_isSitting : Cond) ∈ TB := TB_c11 _ (List.mem_of_getElem? (i := 25) rfl)
theorem k466 : (.instanceMethod yX5_isSitting : Cond) ∈ TB := TB_c11 _ (List.mem_of_getElem? (i := 26) rfl)
theorem k467 : (.selects RX5 yX5_isSitting yX5_isSitting : Cond) ∈ TB := TB_c11 _ (List.mem_of_getElem? (i := 27) rfl)
theorem k468 : (.methodLink RX5 88 yX5_needsReader : Cond) ∈ TB := TB_c11 _ (List.mem_of_getElem? (i := 28) rfl)
theorem k469 : (.instanceMethod yX5_needsReader : Cond) ∈ TB := TB_c11 _ (List.mem_of_getElem? (i := 29) rfl)
theorem k470 : (.selects RX5 yX5_needsReader yX5_needsReader : Cond) ∈ TB := TB_c11 _ (List.mem_of_getElem? (i := 30) rfl)
theorem k471 : (.methodLink RX5 91 yX5_roomFor : Cond) ∈ TB := TB_c11 _ (List.mem_of_getElem? (i := 31) rfl)
theorem k472 : (.instanceMethod yX5_roomFor : Cond) ∈ TB := TB_c11 _ (List.mem_of_getElem? (i := 32) rfl)
theorem k473 : (.selects RX5 yX5_roomFor yX5_roomFor : Cond) ∈ TB := TB_c11 _ (List.mem_of_getElem? (i := 33) rfl)
theorem k474 : (.methodLink RX5 94 yX5_deskFor : Cond) ∈ TB := TB_c11 _ (List.mem_of_getElem? (i := 34) rfl)
theorem k475 : (.instanceMethod yX5_deskFor : Cond) ∈ TB := TB_c11 _ (List.mem_of_getElem? (i := 35) rfl)
theorem k476 : (.selects RX5 yX5_deskFor yX5_deskFor : Cond) ∈ TB := TB_c11 _ (List.mem_of_getElem? (i := 36) rfl)
theorem k477 : (.code yX5_seats cX5_seats 3 none : Cond) ∈ TB := TB_c11 _ (List.mem_of_getElem? (i := 37) rfl)
theorem k478 : (.methodLink RX5 97 yX5_seats : Cond) ∈ TB := TB_c11 _ (List.mem_of_getElem? (i := 38) rfl)
theorem k479 : (.instanceMethod yX5_seats : Cond) ∈ TB := TB_c11 _ (List.mem_of_getElem? (i := 39) rfl)
theorem k480 : (.selects RX5 yX5_seats yX5_seats : Cond) ∈ TB := TB_c12 _ (List.mem_of_getElem? (i := 0) rfl)
theorem k481 : (.code yX5_without cX5_without 4 (some .int) : Cond) ∈ TB := TB_c12 _ (List.mem_of_getElem? (i := 1) rfl)
theorem k482 : (.methodLink RX5 100 yX5_clash : Cond) ∈ TB := TB_c12 _ (List.mem_of_getElem? (i := 2) rfl)
theorem k483 : (.instanceMethod yX5_clash : Cond) ∈ TB := TB_c12 _ (List.mem_of_getElem? (i := 3) rfl)
theorem k484 : (.selects RX5 yX5_clash yX5_clash : Cond) ∈ TB := TB_c12 _ (List.mem_of_getElem? (i := 4) rfl)
theorem k485 : (.code yX5_clashesOf cX5_clashesOf 6 (some .int) : Cond) ∈ TB := TB_c12 _ (List.mem_of_getElem? (i := 5) rfl)
theorem k486 : (.methodLink RX5 103 yX5_clashesOf : Cond) ∈ TB := TB_c12 _ (List.mem_of_getElem? (i := 6) rfl)
theorem k487 : (.instanceMethod yX5_clashesOf : Cond) ∈ TB := TB_c12 _ (List.mem_of_getElem? (i := 7) rfl)
theorem k488 : (.selects RX5 yX5_clashesOf yX5_clashesOf : Cond) ∈ TB := TB_c12 _ (List.mem_of_getElem? (i := 8) rfl)
theorem k489 : (.code yX5_clashes cX5_clashes 3 (some .int) : Cond) ∈ TB := TB_c12 _ (List.mem_of_getElem? (i := 9) rfl)
theorem k490 : (.code yX5_lastEnd cX5_lastEnd 3 (some .int) : Cond) ∈ TB := TB_c12 _ (List.mem_of_getElem? (i := 10) rfl)
theorem k491 : (.code yX5_set cX5_set 5 (some .int) : Cond) ∈ TB := TB_c12 _ (List.mem_of_getElem? (i := 11) rfl)
theorem k492 : (.methodLink RX5 106 yX5_hold : Cond) ∈ TB := TB_c12 _ (List.mem_of_getElem? (i := 12) rfl)
theorem k493 : (.instanceMethod yX5_hold : Cond) ∈ TB := TB_c12 _ (List.mem_of_getElem? (i := 13) rfl)
theorem k494 : (.selects RX5 yX5_hold yX5_hold : Cond) ∈ TB := TB_c12 _ (List.mem_of_getElem? (i := 14) rfl)
theorem k495 : (.methodLink RX5 109 yX5_recorded : Cond) ∈ TB := TB_c12 _ (List.mem_of_getElem? (i := 15) rfl)
theorem k496 : (.instanceMethod yX5_recorded : Cond) ∈ TB := TB_c12 _ (List.mem_of_getElem? (i := 16) rfl)
theorem k497 : (.selects RX5 yX5_recorded yX5_recorded : Cond) ∈ TB := TB_c12 _ (List.mem_of_getElem? (i := 17) rfl)
theorem k498 : (.code yX5_paper cX5_paper 5 (some .int) : Cond) ∈ TB := TB_c12 _ (List.mem_of_getElem? (i := 18) rfl)
theorem k499 : (.methodLink RX5 112 yX5_isPaper : Cond) ∈ TB := TB_c12 _ (List.mem_of_getElem? (i := 19) rfl)
theorem k500 : (.static yX5_isPaper : Cond) ∈ TB := TB_c12 _ (List.mem_of_getElem? (i := 20) rfl)
theorem k501 : (.code yX5_puts cX5_puts 5 none : Cond) ∈ TB := TB_c12 _ (List.mem_of_getElem? (i := 21) rfl)
theorem k502 : (.code yX5_pupil cX5_pupil 5 (some .int) : Cond) ∈ TB := TB_c12 _ (List.mem_of_getElem? (i := 22) rfl)
theorem k503 : (.methodLink RX5 115 yX5_puts : Cond) ∈ TB := TB_c12 _ (List.mem_of_getElem? (i := 23) rfl)
theorem k504 : (.instanceMethod yX5_puts : Cond) ∈ TB := TB_c12 _ (List.mem_of_getElem? (i := 24) rfl)
theorem k505 : (.selects RX5 yX5_puts yX5_puts : Cond) ∈ TB := TB_c12 _ (List.mem_of_getElem? (i := 25) rfl)
theorem k506 : (.methodLink RX5 119 yX5_isPupil : Cond) ∈ TB := TB_c12 _ (List.mem_of_getElem? (i := 26) rfl)
theorem k507 : (.instanceMethod yX5_isPupil : Cond) ∈ TB := TB_c12 _ (List.mem_of_getElem? (i := 27) rfl)
theorem k508 : (.selects RX5 yX5_isPupil yX5_isPupil : Cond) ∈ TB := TB_c12 _ (List.mem_of_getElem? (i := 28) rfl)
theorem k509 : (.code yX5_change cX5_change 5 (some .int) : Cond) ∈ TB := TB_c12 _ (List.mem_of_getElem? (i := 29) rfl)
theorem k510 : (.code yX5_leave cX5_leave 4 (some .int) : Cond) ∈ TB := TB_c12 _ (List.mem_of_getElem? (i := 30) rfl)
theorem k511 : (.methodLink RX5 122 yX5_isHall : Cond) ∈ TB := TB_c12 _ (List.mem_of_getElem? (i := 31) rfl)
theorem k512 : (.static yX5_isHall : Cond) ∈ TB := TB_c12 _ (List.mem_of_getElem? (i := 32) rfl)
theorem k513 : (.code yX5_hall cX5_hall 5 (some .int) : Cond) ∈ TB := TB_c12 _ (List.mem_of_getElem? (i := 33) rfl)
theorem k514 : (.methodLink RX5 125 yX5_without : Cond) ∈ TB := TB_c12 _ (List.mem_of_getElem? (i := 34) rfl)
theorem k515 : (.instanceMethod yX5_without : Cond) ∈ TB := TB_c12 _ (List.mem_of_getElem? (i := 35) rfl)
theorem k516 : (.selects RX5 yX5_without yX5_without : Cond) ∈ TB := TB_c12 _ (List.mem_of_getElem? (i := 36) rfl)
theorem k517 : (.code yX5_open cX5_open 3 (some .int) : Cond) ∈ TB := TB_c12 _ (List.mem_of_getElem? (i := 37) rfl)
theorem k518 : (.code yX5_isSign cX5_isSign 3 (some .boolean) : Cond) ∈ TB := TB_c12 _ (List.mem_of_getElem? (i := 38) rfl)
theorem k519 : (.fieldLink RX5 128 "ExamHallsModel" "at" "I" : Cond) ∈ TB := TB_c12 _ (List.mem_of_getElem? (i := 39) rfl)
theorem k520 : (.fieldLink RX5 131 "ExamHallsModel" "length" "I" : Cond) ∈ TB := TB_c13 _ (List.mem_of_getElem? (i := 0) rfl)
theorem k521 : (.code yX5_accepts cX5_accepts 3 (some .boolean) : Cond) ∈ TB := TB_c13 _ (List.mem_of_getElem? (i := 1) rfl)
theorem k522 : (.methodLink RX5 134 yX5_isSign : Cond) ∈ TB := TB_c13 _ (List.mem_of_getElem? (i := 2) rfl)
theorem k523 : (.instanceMethod yX5_isSign : Cond) ∈ TB := TB_c13 _ (List.mem_of_getElem? (i := 3) rfl)
theorem k524 : (.selects RX5 yX5_isSign yX5_isSign : Cond) ∈ TB := TB_c13 _ (List.mem_of_getElem? (i := 4) rfl)
theorem k525 : (.code yX5_letters cX5_letters 2 (some .int) : Cond) ∈ TB := TB_c13 _ (List.mem_of_getElem? (i := 5) rfl)
theorem k526 : (.code yX5_number cX5_number 2 (some .int) : Cond) ∈ TB := TB_c13 _ (List.mem_of_getElem? (i := 6) rfl)
theorem k527 : (.code yX5_readsPupil cX5_readsPupil 3 (some .boolean) : Cond) ∈ TB := TB_c13 _ (List.mem_of_getElem? (i := 7) rfl)
theorem k528 : (.fieldLink RX5 149 "ExamHallsModel" "told" "I" : Cond) ∈ TB := TB_c13 _ (List.mem_of_getElem? (i := 8) rfl)
theorem k529 : (.methodLink RX5 138 yX5_letters : Cond) ∈ TB := TB_c13 _ (List.mem_of_getElem? (i := 9) rfl)
theorem k530 : (.instanceMethod yX5_letters : Cond) ∈ TB := TB_c13 _ (List.mem_of_getElem? (i := 10) rfl)
theorem k531 : (.selects RX5 yX5_letters yX5_letters : Cond) ∈ TB := TB_c13 _ (List.mem_of_getElem? (i := 11) rfl)
theorem k532 : (.methodLink RX5 142 yX5_accepts : Cond) ∈ TB := TB_c13 _ (List.mem_of_getElem? (i := 12) rfl)
theorem k533 : (.instanceMethod yX5_accepts : Cond) ∈ TB := TB_c13 _ (List.mem_of_getElem? (i := 13) rfl)
theorem k534 : (.selects RX5 yX5_accepts yX5_accepts : Cond) ∈ TB := TB_c13 _ (List.mem_of_getElem? (i := 14) rfl)
theorem k535 : (.methodLink RX5 146 yX5_number : Cond) ∈ TB := TB_c13 _ (List.mem_of_getElem? (i := 15) rfl)
theorem k536 : (.instanceMethod yX5_number : Cond) ∈ TB := TB_c13 _ (List.mem_of_getElem? (i := 16) rfl)
theorem k537 : (.selects RX5 yX5_number yX5_number : Cond) ∈ TB := TB_c13 _ (List.mem_of_getElem? (i := 17) rfl)
theorem k538 : (.methodLink RX5 152 yX5_readsPupil : Cond) ∈ TB := TB_c13 _ (List.mem_of_getElem? (i := 18) rfl)
theorem k539 : (.instanceMethod yX5_readsPupil : Cond) ∈ TB := TB_c13 _ (List.mem_of_getElem? (i := 19) rfl)
theorem k540 : (.selects RX5 yX5_readsPupil yX5_readsPupil : Cond) ∈ TB := TB_c13 _ (List.mem_of_getElem? (i := 20) rfl)
theorem k541 : (.code yX5_faultOf cX5_faultOf 2 (some .int) : Cond) ∈ TB := TB_c13 _ (List.mem_of_getElem? (i := 21) rfl)
theorem k542 : (.methodLink RX5 156 yX5_faultOf : Cond) ∈ TB := TB_c13 _ (List.mem_of_getElem? (i := 22) rfl)
theorem k543 : (.instanceMethod yX5_faultOf : Cond) ∈ TB := TB_c13 _ (List.mem_of_getElem? (i := 23) rfl)
theorem k544 : (.selects RX5 yX5_faultOf yX5_faultOf : Cond) ∈ TB := TB_c13 _ (List.mem_of_getElem? (i := 24) rfl)
theorem k545 : (.code yX5_read cX5_read 2 (some .int) : Cond) ∈ TB := TB_c13 _ (List.mem_of_getElem? (i := 25) rfl)
theorem k546 : (.code yX5_unseated cX5_unseated 4 (some .int) : Cond) ∈ TB := TB_c13 _ (List.mem_of_getElem? (i := 26) rfl)
theorem k547 : (.code yX5_allMinutes cX5_allMinutes 4 (some .int) : Cond) ∈ TB := TB_c13 _ (List.mem_of_getElem? (i := 27) rfl)
theorem k548 : (.methodLink RX5 159 yX5_unseated : Cond) ∈ TB := TB_c13 _ (List.mem_of_getElem? (i := 28) rfl)
theorem k549 : (.instanceMethod yX5_unseated : Cond) ∈ TB := TB_c13 _ (List.mem_of_getElem? (i := 29) rfl)
theorem k550 : (.selects RX5 yX5_unseated yX5_unseated : Cond) ∈ TB := TB_c13 _ (List.mem_of_getElem? (i := 30) rfl)
theorem k551 : (.methodLink RX5 162 yX5_allMinutes : Cond) ∈ TB := TB_c13 _ (List.mem_of_getElem? (i := 31) rfl)
theorem k552 : (.instanceMethod yX5_allMinutes : Cond) ∈ TB := TB_c13 _ (List.mem_of_getElem? (i := 32) rfl)
theorem k553 : (.selects RX5 yX5_allMinutes yX5_allMinutes : Cond) ∈ TB := TB_c13 _ (List.mem_of_getElem? (i := 33) rfl)
theorem k554 : (.code yX5_pupilOf cX5_pupilOf 3 (some .int) : Cond) ∈ TB := TB_c13 _ (List.mem_of_getElem? (i := 34) rfl)
theorem k555 : (.code yX5_ofSittings cX5_ofSittings 9 (some .int) : Cond) ∈ TB := TB_c13 _ (List.mem_of_getElem? (i := 35) rfl)
theorem k556 : (.methodLink RX5 165 yX5_ofSittings : Cond) ∈ TB := TB_c13 _ (List.mem_of_getElem? (i := 36) rfl)
theorem k557 : (.instanceMethod yX5_ofSittings : Cond) ∈ TB := TB_c13 _ (List.mem_of_getElem? (i := 37) rfl)
theorem k558 : (.selects RX5 yX5_ofSittings yX5_ofSittings : Cond) ∈ TB := TB_c13 _ (List.mem_of_getElem? (i := 38) rfl)
theorem k559 : (.code yX5_paperOf cX5_paperOf 3 (some .int) : Cond) ∈ TB := TB_c13 _ (List.mem_of_getElem? (i := 39) rfl)
theorem k560 : (.code yX5_clashesWith cX5_clashesWith 5 (some .int) : Cond) ∈ TB := TB_c14 _ (List.mem_of_getElem? (i := 0) rfl)
theorem k561 : (.methodLink RX5 169 yX5_clashesWith : Cond) ∈ TB := TB_c14 _ (List.mem_of_getElem? (i := 1) rfl)
theorem k562 : (.instanceMethod yX5_clashesWith : Cond) ∈ TB := TB_c14 _ (List.mem_of_getElem? (i := 2) rfl)
theorem k563 : (.selects RX5 yX5_clashesWith yX5_clashesWith : Cond) ∈ TB := TB_c14 _ (List.mem_of_getElem? (i := 3) rfl)
theorem k564 : (.code yX5_sitting cX5_sitting 6 (some .int) : Cond) ∈ TB := TB_c14 _ (List.mem_of_getElem? (i := 4) rfl)
theorem k565 : (.code yX5_isIn cX5_isIn 3 (some .boolean) : Cond) ∈ TB := TB_c14 _ (List.mem_of_getElem? (i := 5) rfl)
theorem k566 : (.methodLink RX5 172 yX5_isIn : Cond) ∈ TB := TB_c14 _ (List.mem_of_getElem? (i := 6) rfl)
theorem k567 : (.instanceMethod yX5_isIn : Cond) ∈ TB := TB_c14 _ (List.mem_of_getElem? (i := 7) rfl)
theorem k568 : (.selects RX5 yX5_isIn yX5_isIn : Cond) ∈ TB := TB_c14 _ (List.mem_of_getElem? (i := 8) rfl)
theorem k569 : (.code yX5_atMinute cX5_atMinute 6 (some .int) : Cond) ∈ TB := TB_c14 _ (List.mem_of_getElem? (i := 9) rfl)
theorem k570 : (.methodLink RX5 175 yX5_atMinute : Cond) ∈ TB := TB_c14 _ (List.mem_of_getElem? (i := 10) rfl)
theorem k571 : (.instanceMethod yX5_atMinute : Cond) ∈ TB := TB_c14 _ (List.mem_of_getElem? (i := 11) rfl)
theorem k572 : (.selects RX5 yX5_atMinute yX5_atMinute : Cond) ∈ TB := TB_c14 _ (List.mem_of_getElem? (i := 12) rfl)
theorem k573 : (.code yX5_most cX5_most 5 (some .int) : Cond) ∈ TB := TB_c14 _ (List.mem_of_getElem? (i := 13) rfl)
theorem k574 : (.code yX5_seatedIn cX5_seatedIn 4 (some .int) : Cond) ∈ TB := TB_c14 _ (List.mem_of_getElem? (i := 14) rfl)
theorem k575 : (.methodLink RX5 178 yX5_seatedIn : Cond) ∈ TB := TB_c14 _ (List.mem_of_getElem? (i := 15) rfl)
theorem k576 : (.instanceMethod yX5_seatedIn : Cond) ∈ TB := TB_c14 _ (List.mem_of_getElem? (i := 16) rfl)
theorem k577 : (.selects RX5 yX5_seatedIn yX5_seatedIn : Cond) ∈ TB := TB_c14 _ (List.mem_of_getElem? (i := 17) rfl)
theorem k578 : (.methodLink RX5 181 yX5_most : Cond) ∈ TB := TB_c14 _ (List.mem_of_getElem? (i := 18) rfl)
theorem k579 : (.instanceMethod yX5_most : Cond) ∈ TB := TB_c14 _ (List.mem_of_getElem? (i := 19) rfl)
theorem k580 : (.selects RX5 yX5_most yX5_most : Cond) ∈ TB := TB_c14 _ (List.mem_of_getElem? (i := 20) rfl)
theorem k581 : (.code yX5_hallOf cX5_hallOf 3 (some .int) : Cond) ∈ TB := TB_c14 _ (List.mem_of_getElem? (i := 21) rfl)
theorem k582 : (.code yX5_sittings cX5_sittings 3 (some .int) : Cond) ∈ TB := TB_c14 _ (List.mem_of_getElem? (i := 22) rfl)
theorem k583 : (.code yX5_openHalls cX5_openHalls 3 (some .int) : Cond) ∈ TB := TB_c14 _ (List.mem_of_getElem? (i := 23) rfl)
theorem k584 : (.code yX5_desksOf cX5_desksOf 4 (some .int) : Cond) ∈ TB := TB_c14 _ (List.mem_of_getElem? (i := 24) rfl)
theorem k585 : (.methodLink RX5 184 yX5_sittings : Cond) ∈ TB := TB_c14 _ (List.mem_of_getElem? (i := 25) rfl)
theorem k586 : (.instanceMethod yX5_sittings : Cond) ∈ TB := TB_c14 _ (List.mem_of_getElem? (i := 26) rfl)
theorem k587 : (.selects RX5 yX5_sittings yX5_sittings : Cond) ∈ TB := TB_c14 _ (List.mem_of_getElem? (i := 27) rfl)
theorem k588 : (.methodLink RX5 187 yX5_clashes : Cond) ∈ TB := TB_c14 _ (List.mem_of_getElem? (i := 28) rfl)
theorem k589 : (.instanceMethod yX5_clashes : Cond) ∈ TB := TB_c14 _ (List.mem_of_getElem? (i := 29) rfl)
theorem k590 : (.selects RX5 yX5_clashes yX5_clashes : Cond) ∈ TB := TB_c14 _ (List.mem_of_getElem? (i := 30) rfl)
theorem k591 : (.methodLink RX5 190 yX5_openHalls : Cond) ∈ TB := TB_c14 _ (List.mem_of_getElem? (i := 31) rfl)
theorem k592 : (.instanceMethod yX5_openHalls : Cond) ∈ TB := TB_c14 _ (List.mem_of_getElem? (i := 32) rfl)
theorem k593 : (.selects RX5 yX5_openHalls yX5_openHalls : Cond) ∈ TB := TB_c14 _ (List.mem_of_getElem? (i := 33) rfl)
theorem k594 : (.methodLink RX5 193 yX5_desksOf : Cond) ∈ TB := TB_c14 _ (List.mem_of_getElem? (i := 34) rfl)
theorem k595 : (.instanceMethod yX5_desksOf : Cond) ∈ TB := TB_c14 _ (List.mem_of_getElem? (i := 35) rfl)
theorem k596 : (.selects RX5 yX5_desksOf yX5_desksOf : Cond) ∈ TB := TB_c14 _ (List.mem_of_getElem? (i := 36) rfl)
theorem k597 : (.methodLink RX5 196 yX5_lastEnd : Cond) ∈ TB := TB_c14 _ (List.mem_of_getElem? (i := 37) rfl)
theorem k598 : (.instanceMethod yX5_lastEnd : Cond) ∈ TB := TB_c14 _ (List.mem_of_getElem? (i := 38) rfl)
theorem k599 : (.selects RX5 yX5_lastEnd yX5_lastEnd : Cond) ∈ TB := TB_c14 _ (List.mem_of_getElem? (i := 39) rfl)
theorem k600 : (.code yX5_count cX5_count 2 (some .int) : Cond) ∈ TB := TB_c15 _ (List.mem_of_getElem? (i := 0) rfl)
theorem k601 : (.code yX5_at cX5_at 6 (some .int) : Cond) ∈ TB := TB_c15 _ (List.mem_of_getElem? (i := 1) rfl)
theorem k602 : (.code yX5_ifStart cX5_ifStart 6 (some .int) : Cond) ∈ TB := TB_c15 _ (List.mem_of_getElem? (i := 2) rfl)
theorem k603 : (.constant RX5 199 (1000000) : Cond) ∈ TB := TB_c15 _ (List.mem_of_getElem? (i := 3) rfl)
theorem k604 : (.methodLink RX5 200 yX5_ifStart : Cond) ∈ TB := TB_c15 _ (List.mem_of_getElem? (i := 4) rfl)
theorem k605 : (.instanceMethod yX5_ifStart : Cond) ∈ TB := TB_c15 _ (List.mem_of_getElem? (i := 5) rfl)
theorem k606 : (.selects RX5 yX5_ifStart yX5_ifStart : Cond) ∈ TB := TB_c15 _ (List.mem_of_getElem? (i := 6) rfl)
theorem k607 : (.code yX5_bestStart cX5_bestStart 6 (some .int) : Cond) ∈ TB := TB_c15 _ (List.mem_of_getElem? (i := 7) rfl)
theorem k608 : (.methodLink RX5 204 yX5_keepTrial : Cond) ∈ TB := TB_c15 _ (List.mem_of_getElem? (i := 8) rfl)
theorem k609 : (.instanceMethod yX5_keepTrial : Cond) ∈ TB := TB_c15 _ (List.mem_of_getElem? (i := 9) rfl)
theorem k610 : (.selects RX5 yX5_keepTrial yX5_keepTrial : Cond) ∈ TB := TB_c15 _ (List.mem_of_getElem? (i := 10) rfl)
theorem k611 : (.methodLink RX5 207 yX5_putBack : Cond) ∈ TB := TB_c15 _ (List.mem_of_getElem? (i := 11) rfl)
theorem k612 : (.instanceMethod yX5_putBack : Cond) ∈ TB := TB_c15 _ (List.mem_of_getElem? (i := 12) rfl)
theorem k613 : (.selects RX5 yX5_putBack yX5_putBack : Cond) ∈ TB := TB_c15 _ (List.mem_of_getElem? (i := 13) rfl)
theorem k614 : (.code yX5_bestHalls cX5_bestHalls 6 (some .int) : Cond) ∈ TB := TB_c15 _ (List.mem_of_getElem? (i := 14) rfl)
theorem k615 : (.code yX5_leastRooms cX5_leastRooms 4 (some .int) : Cond) ∈ TB := TB_c15 _ (List.mem_of_getElem? (i := 15) rfl)
theorem k616 : (.code yX5_put cX5_put 8 (some .int) : Cond) ∈ TB := TB_c15 _ (List.mem_of_getElem? (i := 16) rfl)
theorem k617 : (.constantLong RX5 210 (255) : Cond) ∈ TB := TB_c15 _ (List.mem_of_getElem? (i := 17) rfl)
theorem k618 : (.constantLong RX5 212 (33) : Cond) ∈ TB := TB_c15 _ (List.mem_of_getElem? (i := 18) rfl)
theorem k619 : (.constantLong RX5 214 (126) : Cond) ∈ TB := TB_c15 _ (List.mem_of_getElem? (i := 19) rfl)
theorem k620 : (.code yX5_wipe cX5_wipe 2 (some .int) : Cond) ∈ TB := TB_c15 _ (List.mem_of_getElem? (i := 20) rfl)
theorem k621 : (.code yX5_fault cX5_fault 2 (some .int) : Cond) ∈ TB := TB_c15 _ (List.mem_of_getElem? (i := 21) rfl)
theorem k622 : (.code yX5_undo cX5_undo 2 (some .int) : Cond) ∈ TB := TB_c15 _ (List.mem_of_getElem? (i := 22) rfl)
theorem k623 : (.code yX5_save cX5_save 3 (some .int) : Cond) ∈ TB := TB_c15 _ (List.mem_of_getElem? (i := 23) rfl)
theorem k624 : (.code yX5_restore cX5_restore 3 (some .int) : Cond) ∈ TB := TB_c15 _ (List.mem_of_getElem? (i := 24) rfl)
theorem k625 : (.code yJ9_max_7cf53 cJ9_max_7cf53 2 (some .int) : Cond) ∈ TB := TB_c15 _ (List.mem_of_getElem? (i := 25) rfl)
theorem k626 : (.classLink RL 7 RX4 : Cond) ∈ TB := TB_c15 _ (List.mem_of_getElem? (i := 26) rfl)
theorem k627 : (.instantiable RX4 8 : Cond) ∈ TB := TB_c15 _ (List.mem_of_getElem? (i := 27) rfl)
theorem k628 : (.classLink RL 10 RX5 : Cond) ∈ TB := TB_c15 _ (List.mem_of_getElem? (i := 28) rfl)
theorem k629 : (.instantiable RX5 14 : Cond) ∈ TB := TB_c15 _ (List.mem_of_getElem? (i := 29) rfl)
theorem k630 : (.constantLong RL 92 (4294967295) : Cond) ∈ TB := TB_c15 _ (List.mem_of_getElem? (i := 30) rfl)
theorem k631 : (.methodLink RL 9 yX4_init : Cond) ∈ TB := TB_c15 _ (List.mem_of_getElem? (i := 31) rfl)
theorem k632 : (.instanceMethod yX4_init : Cond) ∈ TB := TB_c15 _ (List.mem_of_getElem? (i := 32) rfl)
theorem k633 : (.methodLink RL 12 yX5_init : Cond) ∈ TB := TB_c15 _ (List.mem_of_getElem? (i := 33) rfl)
theorem k634 : (.instanceMethod yX5_init : Cond) ∈ TB := TB_c15 _ (List.mem_of_getElem? (i := 34) rfl)
theorem k635 : (.methodLink RL 13 yX4_set : Cond) ∈ TB := TB_c15 _ (List.mem_of_getElem? (i := 35) rfl)
theorem k636 : (.instanceMethod yX4_set : Cond) ∈ TB := TB_c15 _ (List.mem_of_getElem? (i := 36) rfl)
theorem k637 : (.selects RX4 yX4_set yX4_set : Cond) ∈ TB := TB_c15 _ (List.mem_of_getElem? (i := 37) rfl)
theorem k638 : (.methodLink RL 17 yX5_set : Cond) ∈ TB := TB_c15 _ (List.mem_of_getElem? (i := 38) rfl)
theorem k639 : (.instanceMethod yX5_set : Cond) ∈ TB := TB_c15 _ (List.mem_of_getElem? (i := 39) rfl)
theorem k640 : (.selects RX5 yX5_set yX5_set : Cond) ∈ TB := TB_c16 _ (List.mem_of_getElem? (i := 0) rfl)
theorem k641 : (.methodLink RL 18 yX4_paper : Cond) ∈ TB := TB_c16 _ (List.mem_of_getElem? (i := 1) rfl)
theorem k642 : (.instanceMethod yX4_paper : Cond) ∈ TB := TB_c16 _ (List.mem_of_getElem? (i := 2) rfl)
theorem k643 : (.selects RX4 yX4_paper yX4_paper : Cond) ∈ TB := TB_c16 _ (List.mem_of_getElem? (i := 3) rfl)
theorem k644 : (.methodLink RL 22 yX5_paper : Cond) ∈ TB := TB_c16 _ (List.mem_of_getElem? (i := 4) rfl)
theorem k645 : (.instanceMethod yX5_paper : Cond) ∈ TB := TB_c16 _ (List.mem_of_getElem? (i := 5) rfl)
theorem k646 : (.selects RX5 yX5_paper yX5_paper : Cond) ∈ TB := TB_c16 _ (List.mem_of_getElem? (i := 6) rfl)
theorem k647 : (.methodLink RL 23 yX4_pupil : Cond) ∈ TB := TB_c16 _ (List.mem_of_getElem? (i := 7) rfl)
theorem k648 : (.instanceMethod yX4_pupil : Cond) ∈ TB := TB_c16 _ (List.mem_of_getElem? (i := 8) rfl)
theorem k649 : (.selects RX4 yX4_pupil yX4_pupil : Cond) ∈ TB := TB_c16 _ (List.mem_of_getElem? (i := 9) rfl)
theorem k650 : (.methodLink RL 27 yX5_pupil : Cond) ∈ TB := TB_c16 _ (List.mem_of_getElem? (i := 10) rfl)
theorem k651 : (.instanceMethod yX5_pupil : Cond) ∈ TB := TB_c16 _ (List.mem_of_getElem? (i := 11) rfl)
theorem k652 : (.selects RX5 yX5_pupil yX5_pupil : Cond) ∈ TB := TB_c16 _ (List.mem_of_getElem? (i := 12) rfl)
theorem k653 : (.methodLink RL 28 yX4_read : Cond) ∈ TB := TB_c16 _ (List.mem_of_getElem? (i := 13) rfl)
theorem k654 : (.instanceMethod yX4_read : Cond) ∈ TB := TB_c16 _ (List.mem_of_getElem? (i := 14) rfl)
theorem k655 : (.selects RX4 yX4_read yX4_read : Cond) ∈ TB := TB_c16 _ (List.mem_of_getElem? (i := 15) rfl)
theorem k656 : (.methodLink RL 32 yX5_read : Cond) ∈ TB := TB_c16 _ (List.mem_of_getElem? (i := 16) rfl)
theorem k657 : (.instanceMethod yX5_read : Cond) ∈ TB := TB_c16 _ (List.mem_of_getElem? (i := 17) rfl)
theorem k658 : (.selects RX5 yX5_read yX5_read : Cond) ∈ TB := TB_c16 _ (List.mem_of_getElem? (i := 18) rfl)
theorem k659 : (.methodLink RL 33 yX4_change : Cond) ∈ TB := TB_c16 _ (List.mem_of_getElem? (i := 19) rfl)
theorem k660 : (.instanceMethod yX4_change : Cond) ∈ TB := TB_c16 _ (List.mem_of_getElem? (i := 20) rfl)
theorem k661 : (.selects RX4 yX4_change yX4_change : Cond) ∈ TB := TB_c16 _ (List.mem_of_getElem? (i := 21) rfl)
theorem k662 : (.methodLink RL 37 yX5_change : Cond) ∈ TB := TB_c16 _ (List.mem_of_getElem? (i := 22) rfl)
theorem k663 : (.instanceMethod yX5_change : Cond) ∈ TB := TB_c16 _ (List.mem_of_getElem? (i := 23) rfl)
theorem k664 : (.selects RX5 yX5_change yX5_change : Cond) ∈ TB := TB_c16 _ (List.mem_of_getElem? (i := 24) rfl)
theorem k665 : (.methodLink RL 38 yX4_leave : Cond) ∈ TB := TB_c16 _ (List.mem_of_getElem? (i := 25) rfl)
theorem k666 : (.instanceMethod yX4_leave : Cond) ∈ TB := TB_c16 _ (List.mem_of_getElem? (i := 26) rfl)
theorem k667 : (.selects RX4 yX4_leave yX4_leave : Cond) ∈ TB := TB_c16 _ (List.mem_of_getElem? (i := 27) rfl)
theorem k668 : (.methodLink RL 42 yX5_leave : Cond) ∈ TB := TB_c16 _ (List.mem_of_getElem? (i := 28) rfl)
theorem k669 : (.instanceMethod yX5_leave : Cond) ∈ TB := TB_c16 _ (List.mem_of_getElem? (i := 29) rfl)
theorem k670 : (.selects RX5 yX5_leave yX5_leave : Cond) ∈ TB := TB_c16 _ (List.mem_of_getElem? (i := 30) rfl)
theorem k671 : (.methodLink RL 43 yX4_hall : Cond) ∈ TB := TB_c16 _ (List.mem_of_getElem? (i := 31) rfl)
theorem k672 : (.instanceMethod yX4_hall : Cond) ∈ TB := TB_c16 _ (List.mem_of_getElem? (i := 32) rfl)
theorem k673 : (.selects RX4 yX4_hall yX4_hall : Cond) ∈ TB := TB_c16 _ (List.mem_of_getElem? (i := 33) rfl)
theorem k674 : (.methodLink RL 46 yX5_hall : Cond) ∈ TB := TB_c16 _ (List.mem_of_getElem? (i := 34) rfl)
theorem k675 : (.instanceMethod yX5_hall : Cond) ∈ TB := TB_c16 _ (List.mem_of_getElem? (i := 35) rfl)
theorem k676 : (.selects RX5 yX5_hall yX5_hall : Cond) ∈ TB := TB_c16 _ (List.mem_of_getElem? (i := 36) rfl)
theorem k677 : (.methodLink RL 47 yX4_open : Cond) ∈ TB := TB_c16 _ (List.mem_of_getElem? (i := 37) rfl)
theorem k678 : (.instanceMethod yX4_open : Cond) ∈ TB := TB_c16 _ (List.mem_of_getElem? (i := 38) rfl)
theorem k679 : (.selects RX4 yX4_open yX4_open : Cond) ∈ TB := TB_c16 _ (List.mem_of_getElem? (i := 39) rfl)
theorem k680 : (.methodLink RL 51 yX5_open : Cond) ∈ TB := TB_c17 _ (List.mem_of_getElem? (i := 0) rfl)
theorem k681 : (.instanceMethod yX5_open : Cond) ∈ TB := TB_c17 _ (List.mem_of_getElem? (i := 1) rfl)
theorem k682 : (.selects RX5 yX5_open yX5_open : Cond) ∈ TB := TB_c17 _ (List.mem_of_getElem? (i := 2) rfl)
theorem k683 : (.methodLink RL 52 yX4_pupilOf : Cond) ∈ TB := TB_c17 _ (List.mem_of_getElem? (i := 3) rfl)
theorem k684 : (.instanceMethod yX4_pupilOf : Cond) ∈ TB := TB_c17 _ (List.mem_of_getElem? (i := 4) rfl)
theorem k685 : (.selects RX4 yX4_pupilOf yX4_pupilOf : Cond) ∈ TB := TB_c17 _ (List.mem_of_getElem? (i := 5) rfl)
theorem k686 : (.methodLink RL 55 yX5_pupilOf : Cond) ∈ TB := TB_c17 _ (List.mem_of_getElem? (i := 6) rfl)
theorem k687 : (.instanceMethod yX5_pupilOf : Cond) ∈ TB := TB_c17 _ (List.mem_of_getElem? (i := 7) rfl)
theorem k688 : (.selects RX5 yX5_pupilOf yX5_pupilOf : Cond) ∈ TB := TB_c17 _ (List.mem_of_getElem? (i := 8) rfl)
theorem k689 : (.methodLink RL 56 yX4_paperOf : Cond) ∈ TB := TB_c17 _ (List.mem_of_getElem? (i := 9) rfl)
theorem k690 : (.instanceMethod yX4_paperOf : Cond) ∈ TB := TB_c17 _ (List.mem_of_getElem? (i := 10) rfl)
theorem k691 : (.selects RX4 yX4_paperOf yX4_paperOf : Cond) ∈ TB := TB_c17 _ (List.mem_of_getElem? (i := 11) rfl)
theorem k692 : (.methodLink RL 59 yX5_paperOf : Cond) ∈ TB := TB_c17 _ (List.mem_of_getElem? (i := 12) rfl)
theorem k693 : (.instanceMethod yX5_paperOf : Cond) ∈ TB := TB_c17 _ (List.mem_of_getElem? (i := 13) rfl)
theorem k694 : (.selects RX5 yX5_paperOf yX5_paperOf : Cond) ∈ TB := TB_c17 _ (List.mem_of_getElem? (i := 14) rfl)
theorem k695 : (.methodLink RL 60 yX4_sitting : Cond) ∈ TB := TB_c17 _ (List.mem_of_getElem? (i := 15) rfl)
theorem k696 : (.instanceMethod yX4_sitting : Cond) ∈ TB := TB_c17 _ (List.mem_of_getElem? (i := 16) rfl)
theorem k697 : (.selects RX4 yX4_sitting yX4_sitting : Cond) ∈ TB := TB_c17 _ (List.mem_of_getElem? (i := 17) rfl)
theorem k698 : (.methodLink RL 63 yX5_sitting : Cond) ∈ TB := TB_c17 _ (List.mem_of_getElem? (i := 18) rfl)
theorem k699 : (.instanceMethod yX5_sitting : Cond) ∈ TB := TB_c17 _ (List.mem_of_getElem? (i := 19) rfl)
theorem k700 : (.selects RX5 yX5_sitting yX5_sitting : Cond) ∈ TB := TB_c17 _ (List.mem_of_getElem? (i := 20) rfl)
theorem k701 : (.methodLink RL 64 yX4_hallOf : Cond) ∈ TB := TB_c17 _ (List.mem_of_getElem? (i := 21) rfl)
theorem k702 : (.instanceMethod yX4_hallOf : Cond) ∈ TB := TB_c17 _ (List.mem_of_getElem? (i := 22) rfl)
theorem k703 : (.selects RX4 yX4_hallOf yX4_hallOf : Cond) ∈ TB := TB_c17 _ (List.mem_of_getElem? (i := 23) rfl)
theorem k704 : (.methodLink RL 67 yX5_hallOf : Cond) ∈ TB := TB_c17 _ (List.mem_of_getElem? (i := 24) rfl)
theorem k705 : (.instanceMethod yX5_hallOf : Cond) ∈ TB := TB_c17 _ (List.mem_of_getElem? (i := 25) rfl)
theorem k706 : (.selects RX5 yX5_hallOf yX5_hallOf : Cond) ∈ TB := TB_c17 _ (List.mem_of_getElem? (i := 26) rfl)
theorem k707 : (.methodLink RL 68 yX4_count : Cond) ∈ TB := TB_c17 _ (List.mem_of_getElem? (i := 27) rfl)
theorem k708 : (.instanceMethod yX4_count : Cond) ∈ TB := TB_c17 _ (List.mem_of_getElem? (i := 28) rfl)
theorem k709 : (.selects RX4 yX4_count yX4_count : Cond) ∈ TB := TB_c17 _ (List.mem_of_getElem? (i := 29) rfl)
theorem k710 : (.methodLink RL 71 yX5_count : Cond) ∈ TB := TB_c17 _ (List.mem_of_getElem? (i := 30) rfl)
theorem k711 : (.instanceMethod yX5_count : Cond) ∈ TB := TB_c17 _ (List.mem_of_getElem? (i := 31) rfl)
theorem k712 : (.selects RX5 yX5_count yX5_count : Cond) ∈ TB := TB_c17 _ (List.mem_of_getElem? (i := 32) rfl)
theorem k713 : (.methodLink RL 72 yX4_at : Cond) ∈ TB := TB_c17 _ (List.mem_of_getElem? (i := 33) rfl)
theorem k714 : (.instanceMethod yX4_at : Cond) ∈ TB := TB_c17 _ (List.mem_of_getElem? (i := 34) rfl)
theorem k715 : (.selects RX4 yX4_at yX4_at : Cond) ∈ TB := TB_c17 _ (List.mem_of_getElem? (i := 35) rfl)
theorem k716 : (.methodLink RL 75 yX5_at : Cond) ∈ TB := TB_c17 _ (List.mem_of_getElem? (i := 36) rfl)
theorem k717 : (.instanceMethod yX5_at : Cond) ∈ TB := TB_c17 _ (List.mem_of_getElem? (i := 37) rfl)
theorem k718 : (.selects RX5 yX5_at yX5_at : Cond) ∈ TB := TB_c17 _ (List.mem_of_getElem? (i := 38) rfl)
theorem k719 : (.methodLink RL 76 yX4_ifStart : Cond) ∈ TB := TB_c17 _ (List.mem_of_getElem? (i := 39) rfl)
theorem k720 : (.instanceMethod yX4_ifStart : Cond) ∈ TB := TB_c18 _ (List.mem_of_getElem? (i := 0) rfl)
theorem k721 : (.selects RX4 yX4_ifStart yX4_ifStart : Cond) ∈ TB := TB_c18 _ (List.mem_of_getElem? (i := 1) rfl)
theorem k722 : (.methodLink RL 79 yX5_ifStart : Cond) ∈ TB := TB_c18 _ (List.mem_of_getElem? (i := 2) rfl)
theorem k723 : (.methodLink RL 80 yX4_bestStart : Cond) ∈ TB := TB_c18 _ (List.mem_of_getElem? (i := 3) rfl)
theorem k724 : (.instanceMethod yX4_bestStart : Cond) ∈ TB := TB_c18 _ (List.mem_of_getElem? (i := 4) rfl)
theorem k725 : (.selects RX4 yX4_bestStart yX4_bestStart : Cond) ∈ TB := TB_c18 _ (List.mem_of_getElem? (i := 5) rfl)
theorem k726 : (.methodLink RL 83 yX5_bestStart : Cond) ∈ TB := TB_c18 _ (List.mem_of_getElem? (i := 6) rfl)
theorem k727 : (.instanceMethod yX5_bestStart : Cond) ∈ TB := TB_c18 _ (List.mem_of_getElem? (i := 7) rfl)
theorem k728 : (.selects RX5 yX5_bestStart yX5_bestStart : Cond) ∈ TB := TB_c18 _ (List.mem_of_getElem? (i := 8) rfl)
theorem k729 : (.methodLink RL 84 yX4_bestHalls : Cond) ∈ TB := TB_c18 _ (List.mem_of_getElem? (i := 9) rfl)
theorem k730 : (.instanceMethod yX4_bestHalls : Cond) ∈ TB := TB_c18 _ (List.mem_of_getElem? (i := 10) rfl)
theorem k731 : (.selects RX4 yX4_bestHalls yX4_bestHalls : Cond) ∈ TB := TB_c18 _ (List.mem_of_getElem? (i := 11) rfl)
theorem k732 : (.methodLink RL 87 yX5_bestHalls : Cond) ∈ TB := TB_c18 _ (List.mem_of_getElem? (i := 12) rfl)
theorem k733 : (.instanceMethod yX5_bestHalls : Cond) ∈ TB := TB_c18 _ (List.mem_of_getElem? (i := 13) rfl)
theorem k734 : (.selects RX5 yX5_bestHalls yX5_bestHalls : Cond) ∈ TB := TB_c18 _ (List.mem_of_getElem? (i := 14) rfl)
theorem k735 : (.methodLink RL 88 yX4_leastRooms : Cond) ∈ TB := TB_c18 _ (List.mem_of_getElem? (i := 15) rfl)
theorem k736 : (.instanceMethod yX4_leastRooms : Cond) ∈ TB := TB_c18 _ (List.mem_of_getElem? (i := 16) rfl)
theorem k737 : (.selects RX4 yX4_leastRooms yX4_leastRooms : Cond) ∈ TB := TB_c18 _ (List.mem_of_getElem? (i := 17) rfl)
theorem k738 : (.methodLink RL 91 yX5_leastRooms : Cond) ∈ TB := TB_c18 _ (List.mem_of_getElem? (i := 18) rfl)
theorem k739 : (.instanceMethod yX5_leastRooms : Cond) ∈ TB := TB_c18 _ (List.mem_of_getElem? (i := 19) rfl)
theorem k740 : (.selects RX5 yX5_leastRooms yX5_leastRooms : Cond) ∈ TB := TB_c18 _ (List.mem_of_getElem? (i := 20) rfl)
theorem k741 : (.methodLink RL 94 yX4_put : Cond) ∈ TB := TB_c18 _ (List.mem_of_getElem? (i := 21) rfl)
theorem k742 : (.instanceMethod yX4_put : Cond) ∈ TB := TB_c18 _ (List.mem_of_getElem? (i := 22) rfl)
theorem k743 : (.selects RX4 yX4_put yX4_put : Cond) ∈ TB := TB_c18 _ (List.mem_of_getElem? (i := 23) rfl)
theorem k744 : (.methodLink RL 98 yX5_put : Cond) ∈ TB := TB_c18 _ (List.mem_of_getElem? (i := 24) rfl)
theorem k745 : (.instanceMethod yX5_put : Cond) ∈ TB := TB_c18 _ (List.mem_of_getElem? (i := 25) rfl)
theorem k746 : (.selects RX5 yX5_put yX5_put : Cond) ∈ TB := TB_c18 _ (List.mem_of_getElem? (i := 26) rfl)
theorem k747 : (.methodLink RL 99 yX4_wipe : Cond) ∈ TB := TB_c18 _ (List.mem_of_getElem? (i := 27) rfl)
theorem k748 : (.instanceMethod yX4_wipe : Cond) ∈ TB := TB_c18 _ (List.mem_of_getElem? (i := 28) rfl)
theorem k749 : (.selects RX4 yX4_wipe yX4_wipe : Cond) ∈ TB := TB_c18 _ (List.mem_of_getElem? (i := 29) rfl)
theorem k750 : (.methodLink RL 102 yX5_wipe : Cond) ∈ TB := TB_c18 _ (List.mem_of_getElem? (i := 30) rfl)
theorem k751 : (.instanceMethod yX5_wipe : Cond) ∈ TB := TB_c18 _ (List.mem_of_getElem? (i := 31) rfl)
theorem k752 : (.selects RX5 yX5_wipe yX5_wipe : Cond) ∈ TB := TB_c18 _ (List.mem_of_getElem? (i := 32) rfl)
theorem k753 : (.methodLink RL 103 yX4_fault : Cond) ∈ TB := TB_c18 _ (List.mem_of_getElem? (i := 33) rfl)
theorem k754 : (.instanceMethod yX4_fault : Cond) ∈ TB := TB_c18 _ (List.mem_of_getElem? (i := 34) rfl)
theorem k755 : (.selects RX4 yX4_fault yX4_fault : Cond) ∈ TB := TB_c18 _ (List.mem_of_getElem? (i := 35) rfl)
theorem k756 : (.methodLink RL 106 yX5_fault : Cond) ∈ TB := TB_c18 _ (List.mem_of_getElem? (i := 36) rfl)
theorem k757 : (.instanceMethod yX5_fault : Cond) ∈ TB := TB_c18 _ (List.mem_of_getElem? (i := 37) rfl)
theorem k758 : (.selects RX5 yX5_fault yX5_fault : Cond) ∈ TB := TB_c18 _ (List.mem_of_getElem? (i := 38) rfl)
theorem k759 : (.methodLink RL 107 yX4_undo : Cond) ∈ TB := TB_c18 _ (List.mem_of_getElem? (i := 39) rfl)
theorem k760 : (.instanceMethod yX4_undo : Cond) ∈ TB := TB_c19 _ (List.mem_of_getElem? (i := 0) rfl)
theorem k761 : (.selects RX4 yX4_undo yX4_undo : Cond) ∈ TB := TB_c19 _ (List.mem_of_getElem? (i := 1) rfl)
theorem k762 : (.methodLink RL 110 yX5_undo : Cond) ∈ TB := TB_c19 _ (List.mem_of_getElem? (i := 2) rfl)
theorem k763 : (.instanceMethod yX5_undo : Cond) ∈ TB := TB_c19 _ (List.mem_of_getElem? (i := 3) rfl)
theorem k764 : (.selects RX5 yX5_undo yX5_undo : Cond) ∈ TB := TB_c19 _ (List.mem_of_getElem? (i := 4) rfl)
theorem k765 : (.methodLink RL 111 yX4_save : Cond) ∈ TB := TB_c19 _ (List.mem_of_getElem? (i := 5) rfl)
theorem k766 : (.instanceMethod yX4_save : Cond) ∈ TB := TB_c19 _ (List.mem_of_getElem? (i := 6) rfl)
theorem k767 : (.selects RX4 yX4_save yX4_save : Cond) ∈ TB := TB_c19 _ (List.mem_of_getElem? (i := 7) rfl)
theorem k768 : (.methodLink RL 114 yX5_save : Cond) ∈ TB := TB_c19 _ (List.mem_of_getElem? (i := 8) rfl)
theorem k769 : (.instanceMethod yX5_save : Cond) ∈ TB := TB_c19 _ (List.mem_of_getElem? (i := 9) rfl)
theorem k770 : (.selects RX5 yX5_save yX5_save : Cond) ∈ TB := TB_c19 _ (List.mem_of_getElem? (i := 10) rfl)
theorem k771 : (.methodLink RL 115 yX4_restore : Cond) ∈ TB := TB_c19 _ (List.mem_of_getElem? (i := 11) rfl)
theorem k772 : (.instanceMethod yX4_restore : Cond) ∈ TB := TB_c19 _ (List.mem_of_getElem? (i := 12) rfl)
theorem k773 : (.selects RX4 yX4_restore yX4_restore : Cond) ∈ TB := TB_c19 _ (List.mem_of_getElem? (i := 13) rfl)
theorem k774 : (.methodLink RL 118 yX5_restore : Cond) ∈ TB := TB_c19 _ (List.mem_of_getElem? (i := 14) rfl)
theorem k775 : (.instanceMethod yX5_restore : Cond) ∈ TB := TB_c19 _ (List.mem_of_getElem? (i := 15) rfl)
theorem k776 : (.selects RX5 yX5_restore yX5_restore : Cond) ∈ TB := TB_c19 _ (List.mem_of_getElem? (i := 16) rfl)
end
section
/-! ===== a frame over the kit: the judgement J (heap, locals and their facts hidden), contracts JM ===== -/
abbrev JG : Type := va_G × (Nat → ClassId)
def tysG (G : JG) : List (ClassId × FieldType) := [(G.2 0, .int), (G.2 1, .boolean), (G.2 2, .char), (G.2 3, .object "ExamHalls$School")]
def nestL : List Cond := [.methodLinkNest "ExamHalls" 11 ⟨"ExamHalls$Seating", "<init>", "()V"⟩ "ExamHalls", .methodLinkNest "ExamHalls$Seating" 11 ⟨"ExamHalls$School", "<init>", "()V"⟩ "ExamHalls", .methodLinkNest "ExamHalls" 29 ⟨"ExamHalls$Pad", "<init>", "()V"⟩ "ExamHalls", .methodLinkNest "ExamHalls$History" 21 ⟨"ExamHalls$School", "<init>", "()V"⟩ "ExamHalls", .methodLinkNest "ExamHalls" 43 ⟨"ExamHalls$School", "<init>", "()V"⟩ "ExamHalls", .methodLinkNest "ExamHalls$School" 48 ⟨"ExamHalls", "contains", "(II)Z"⟩ "ExamHalls", .methodLinkNest "ExamHalls$Seating" 78 ⟨"ExamHalls", "sittingNumber", "(II)I"⟩ "ExamHalls", .methodLinkNest "ExamHalls$Seating" 106 ⟨"ExamHalls", "contains", "(II)Z"⟩ "ExamHalls", .methodLinkNest "ExamHalls$Pad" 70 ⟨"ExamHalls", "isWithin", "(III)Z"⟩ "ExamHalls", .methodLinkNest "ExamHalls$Pad" 80 ⟨"ExamHalls", "isPaper", "(I)Z"⟩ "ExamHalls"]
def KK (G : JG) (U : State) : Prop := va_K G.1 vwCl (tysG G) U ∧ ∀ w ∈ nestL, va_Nw w U
theorem KK.warm {G : JG} {s U : State} (hW : s.WarmedH U.vm) (h : KK G s) : KK G U := by
  refine ⟨va_K.moved hW.alike h.1, fun w hw => ?_⟩
  have h1 := h.2 w hw
  revert h1
  revert w
  unfold nestL
  simp only [List.forall_mem_cons]
  refine ⟨?_, ?_, ?_, ?_, ?_, ?_, ?_, ?_, ?_, ?_, fun _ h => by cases h⟩ <;> exact fun h => va_Nw.warmM hW h
theorem KK.calling {G : JG} {U : State} {g : JFrame} {mk : MethodId} {a : Array Value} (h : KK G U) : KK G (U.calling g mk a) := by
  refine ⟨va_K.moved (u := U) (U := U.calling g mk a) (Vm.Alike.refl U.vm) h.1, fun w hw => ?_⟩
  have h1 := h.2 w hw
  revert h1
  revert w
  unfold nestL
  simp only [List.forall_mem_cons]
  refine ⟨?_, ?_, ?_, ?_, ?_, ?_, ?_, ?_, ?_, ?_, fun _ h => by cases h⟩ <;> exact fun h => va_Nw.same rfl (u := U) (U := U.calling g mk a) rfl h
abbrev JX : Type := Program × Env × State × MethodId × Array Value × List Frame × Method × Code × (Nat → Prop)
def J (l : Launch) (R : Room) (G : JG) (nL : Nat) (X : JX) (Q : State → Prop) (k n pc : Nat) (lv : List (Nat × Value)) (st : List Value) (ws : va_W) : Prop :=
  ∀ (H : Heap) (locs : List Loc) (ls : Array Slot), va_P G.1 vwCl ws H → va_D X.2.2.2.2.2.2.2.2 ws → va_S X.2.2.2.2.2.2.2.2 X.2.2.1.heap H locs → lv_has ls nL lv → W X.1 l X.2.1 R X.2.2.1 X.2.2.2.1 X.2.2.2.2.1 X.2.2.2.2.2.1 X.2.2.2.2.2.2.1 X.2.2.2.2.2.2.2.1 H locs k n Q (F0 X.2.2.2.1 pc ls st)
def Cx (G : JG) (nL : Nat) (X : JX) (cc : ByteArray) (own : String) (ret : Option FieldType) (tb : List (Nat × ClassFile.Instr × Nat)) : Prop :=
  X.1.tables.exec = Jvm.exec ∧ X.2.2.2.2.2.2.2.1.code = cc ∧ X.2.2.2.2.2.2.2.1.maxLocals = nL ∧ X.2.2.1.vm.findClass own = some X.2.2.2.1.cls ∧ (∀ w ∈ TB, w.before X.2.2.2.2.1 X.2.2.1 = true) ∧ KK G X.2.2.1 ∧ (∀ q, X.2.2.1.heap.size ≤ q → X.2.2.2.2.2.2.2.2 q) ∧ X.2.2.2.2.2.2.1.locks = false ∧ X.2.2.2.2.2.2.1.sig.returnType = ret ∧ ∀ q ∈ tb, decode cc q.1 = .ok q.2
def gd {α : Type} (b : Bool) (x : Option α) : Option α := if b = true then x else none
theorem gd_some {α : Type} {b : Bool} {x : Option α} {r : α} (h : gd b x = some r) : b = true ∧ x = some r := by
  unfold gd at h
  by_cases hb : b = true
  · rw [if_pos hb] at h; exact ⟨hb, h⟩
  · rw [if_neg hb] at h; cases h
theorem gd_t {α : Type} {b : Bool} {x : Option α} (h : b = true) : gd b x = x := by unfold gd; rw [if_pos h]
theorem bnd {α β : Type} {x : Option α} {f : α → Option β} {b : β} (h : x.bind f = some b) : ∃ a, x = some a ∧ f a = some b := Option.bind_eq_some_iff.mp h
def inb (i : Int32) (n : Nat) : Bool := decide (0 ≤ i) && decide (i.toNatClampNeg < n)
theorem inb_in {i : Int32} {n : Nat} (h : inb i n = true) : vp_in i n := by
  unfold inb at h
  simp only [Bool.and_eq_true, decide_eq_true_eq] at h
  unfold vp_in
  intro q
  rcases q with q | q
  · have h1 := h.1
    rw [Int32.le_iff_toInt_le] at h1
    rw [Int32.lt_iff_toInt_lt] at q
    omega
  · omega
def nz (y : Int32) : Bool := decide (¬ y = 0)
theorem nz_ne {y : Int32} (h : nz y = true) : ¬ y = 0 := of_decide_eq_true h
def isb (x : Int32) : Bool := decide (x = 0) || decide (x = 1)
theorem isb_or {x : Int32} (h : isb x = true) : x = 0 ∨ x = 1 := by
  unfold isb at h
  simpa using h
theorem isb_nar {x : Int32} (h : isb x = true) : narrow .boolean (.int x) = .int x := by
  rcases isb_or h with rfl | rfl <;> rfl
theorem isb_vnar {x : Int32} (h : isb x = true) : vp_nar .boolean x = x := by
  rcases isb_or h with rfl | rfl <;> rfl
def isc (x : Int32) : Bool := decide (vp_nar .char x = x)
theorem isc_vnar {x : Int32} (h : isc x = true) : vp_nar .char x = x := of_decide_eq_true h
/-- packed contents: field (or array) k of an object, element i -/
abbrev JV : Type := Nat → Nat → Int32
def up2 (s : JV) (k i : Nat) (v : Int32) : JV := fun a => bif Nat.beq a k then upd (s k) i v else s a
def mx (x y : Int32) : Int32 := if x < y then y else x
section JROWS
variable {l : Launch} {R : Room} {G : JG} {nL : Nat} {X : JX} {Q : State → Prop} {k n pc : Nat} {lv : List (Nat × Value)} {st : List Value} {ws : va_W} {cc : ByteArray} {own : String} {ret : Option FieldType} {tb : List (Nat × ClassFile.Instr × Nat)}
theorem Cx.d (C : Cx G nL X cc own ret tb) (j : Nat) {i : ClassFile.Instr} {len : Nat} (h : tb[j]? = some (pc, i, len)) : decode cc pc = .ok (i, len) := C.2.2.2.2.2.2.2.2.2 (pc, i, len) (List.mem_of_getElem? h)
theorem J_sub (ks : List Nat) {lv' : List (Nat × Value)} (hl : lv_pick lv ks = lv') (kk : J l R G nL X Q k n pc lv' st ws) : J l R G nL X Q k n pc lv st ws :=
  fun H locs ls hP hD hS h => kk H locs ls hP hD hS (lv_sub h ks hl)
theorem J_iload (C : Cx G nL X cc own ret tb) (j : Nat) {i : Nat} {x : Int32} (hd : tb[j]? = some (pc, .iload i, 2)) (q : Nat) (hq : lv[q]? = some (i, .int x)) (kk : J l R G nL X Q k n (pc + 2) lv (.int x :: st) ws) : J l R G nL X Q k n pc lv st ws :=
  fun H locs ls hP hD hS h => lv_iload C.1 C.2.1 (C.d j hd) (lv_at h q hq) (kk H locs ls hP hD hS h)
theorem J_iload_n (C : Cx G nL X cc own ret tb) (j : Nat) {v : Fin 4} {i : Nat} {x : Int32} (hd : tb[j]? = some (pc, .iload_n v, 1)) (q : Nat) (hi : (v : Nat) = i) (hq : lv[q]? = some (i, .int x)) (kk : J l R G nL X Q k n (pc + 1) lv (.int x :: st) ws) : J l R G nL X Q k n pc lv st ws :=
  fun H locs ls hP hD hS h => lv_iload_n C.1 C.2.1 (C.d j hd) hi (lv_at h q hq) (kk H locs ls hP hD hS h)
theorem J_aload_n (C : Cx G nL X cc own ret tb) (j : Nat) {v : Fin 4} {i : Nat} {x : Nat} (hd : tb[j]? = some (pc, .aload_n v, 1)) (q : Nat) (hi : (v : Nat) = i) (hq : lv[q]? = some (i, .ref x)) (kk : J l R G nL X Q k n (pc + 1) lv (.ref x :: st) ws) : J l R G nL X Q k n pc lv st ws :=
  fun H locs ls hP hD hS h => lv_aload_n C.1 C.2.1 (C.d j hd) hi (lv_at h q hq) (kk H locs ls hP hD hS h)
theorem J_lload (C : Cx G nL X cc own ret tb) (j : Nat) {i : Nat} {x : Int64} (hd : tb[j]? = some (pc, .lload i, 2)) (q : Nat) (hq : lv[q]? = some (i, .long x)) (kk : J l R G nL X Q k n (pc + 2) lv (.long x :: st) ws) : J l R G nL X Q k n pc lv st ws :=
  fun H locs ls hP hD hS h => lv_lload C.1 C.2.1 (C.d j hd) (lv_at h q hq) (kk H locs ls hP hD hS h)
theorem J_lload_n (C : Cx G nL X cc own ret tb) (j : Nat) {v : Fin 4} {i : Nat} {x : Int64} (hd : tb[j]? = some (pc, .lload_n v, 1)) (q : Nat) (hi : (v : Nat) = i) (hq : lv[q]? = some (i, .long x)) (kk : J l R G nL X Q k n (pc + 1) lv (.long x :: st) ws) : J l R G nL X Q k n pc lv st ws :=
  fun H locs ls hP hD hS h => lv_lload_n C.1 C.2.1 (C.d j hd) hi (lv_at h q hq) (kk H locs ls hP hD hS h)
theorem J_istore (C : Cx G nL X cc own ret tb) (j : Nat) {i : Nat} {x : Int32} {lv' : List (Nat × Value)} (hd : tb[j]? = some (pc, .istore i, 2)) (hi : i < nL) (hl : (i, Value.int x) :: lv.filter (fun q => !(q.1 == i) && !(q.1 + 1 == i && q.2.category == 2)) = lv') (kk : J l R G nL X Q k n (pc + 2) lv' st ws) : J l R G nL X Q k n pc lv (.int x :: st) ws :=
  fun H locs ls hP hD hS h => lv_istore C.1 C.2.1 (C.d j hd) h hi hl (fun ls h => kk H locs ls hP hD hS h)
theorem J_istore_n (C : Cx G nL X cc own ret tb) (j : Nat) {v : Fin 4} {i : Nat} {x : Int32} {lv' : List (Nat × Value)} (hd : tb[j]? = some (pc, .istore_n v, 1)) (hv : (v : Nat) = i) (hi : i < nL) (hl : (i, Value.int x) :: lv.filter (fun q => !(q.1 == i) && !(q.1 + 1 == i && q.2.category == 2)) = lv') (kk : J l R G nL X Q k n (pc + 1) lv' st ws) : J l R G nL X Q k n pc lv (.int x :: st) ws :=
  fun H locs ls hP hD hS h => lv_istore_n C.1 C.2.1 (C.d j hd) hv h hi hl (fun ls h => kk H locs ls hP hD hS h)
theorem J_astore_n (C : Cx G nL X cc own ret tb) (j : Nat) {v : Fin 4} {i : Nat} {x : Nat} {lv' : List (Nat × Value)} (hd : tb[j]? = some (pc, .astore_n v, 1)) (hv : (v : Nat) = i) (hi : i < nL) (hl : (i, Value.ref x) :: lv.filter (fun q => !(q.1 == i) && !(q.1 + 1 == i && q.2.category == 2)) = lv') (kk : J l R G nL X Q k n (pc + 1) lv' st ws) : J l R G nL X Q k n pc lv (.ref x :: st) ws :=
  fun H locs ls hP hD hS h => lv_astore_n C.1 C.2.1 (C.d j hd) hv h hi hl (fun ls h => kk H locs ls hP hD hS h)
theorem J_lstore (C : Cx G nL X cc own ret tb) (j : Nat) {i : Nat} {x : Int64} {lv' : List (Nat × Value)} (hd : tb[j]? = some (pc, .lstore i, 2)) (hi : i + 1 < nL) (hl : (i, Value.long x) :: lv.filter (fun q => !(q.1 == i) && (!(q.1 == i + 1) && !(q.1 + 1 == i && q.2.category == 2))) = lv') (kk : J l R G nL X Q k n (pc + 2) lv' st ws) : J l R G nL X Q k n pc lv (.long x :: st) ws :=
  fun H locs ls hP hD hS h => lv_lstore C.1 C.2.1 (C.d j hd) h hi hl (fun ls h => kk H locs ls hP hD hS h)
theorem J_lstore_n (C : Cx G nL X cc own ret tb) (j : Nat) {v : Fin 4} {i : Nat} {x : Int64} {lv' : List (Nat × Value)} (hd : tb[j]? = some (pc, .lstore_n v, 1)) (hv : (v : Nat) = i) (hi : i + 1 < nL) (hl : (i, Value.long x) :: lv.filter (fun q => !(q.1 == i) && (!(q.1 == i + 1) && !(q.1 + 1 == i && q.2.category == 2))) = lv') (kk : J l R G nL X Q k n (pc + 1) lv' st ws) : J l R G nL X Q k n pc lv (.long x :: st) ws :=
  fun H locs ls hP hD hS h => lv_lstore_n C.1 C.2.1 (C.d j hd) hv h hi hl (fun ls h => kk H locs ls hP hD hS h)
theorem J_iinc (C : Cx G nL X cc own ret tb) (j : Nat) {i : Nat} {z : Int} {x v : Int32} {lv' : List (Nat × Value)} (hd : tb[j]? = some (pc, .iinc i z, 3)) (q : Nat) (hq : lv[q]? = some (i, .int x)) (hv : x + Int32.ofInt z = v) (hi : i < nL) (hl : (i, Value.int v) :: lv.filter (fun q => !(q.1 == i) && !(q.1 + 1 == i && q.2.category == 2)) = lv') (kk : J l R G nL X Q k n (pc + 3) lv' st ws) : J l R G nL X Q k n pc lv st ws :=
  fun H locs ls hP hD hS h => lv_iinc C.1 C.2.1 (C.d j hd) h hq hv hi hl (fun ls h => kk H locs ls hP hD hS h)
theorem J_iconst (C : Cx G nL X cc own ret tb) (j : Nat) {z : Int} {v : Int32} (hd : tb[j]? = some (pc, .iconst z, 1)) (hv : Int32.ofInt z = v) (kk : J l R G nL X Q k n (pc + 1) lv (.int v :: st) ws) : J l R G nL X Q k n pc lv st ws :=
  fun H locs ls hP hD hS h => lv_iconst C.1 C.2.1 (C.d j hd) hv (kk H locs ls hP hD hS h)
theorem J_bipush (C : Cx G nL X cc own ret tb) (j : Nat) {z : Int} {v : Int32} (hd : tb[j]? = some (pc, .bipush z, 2)) (hv : (Int8.ofInt z).toInt32 = v) (kk : J l R G nL X Q k n (pc + 2) lv (.int v :: st) ws) : J l R G nL X Q k n pc lv st ws :=
  fun H locs ls hP hD hS h => lv_bipush C.1 C.2.1 (C.d j hd) hv (kk H locs ls hP hD hS h)
theorem J_sipush (C : Cx G nL X cc own ret tb) (j : Nat) {z : Int} {v : Int32} (hd : tb[j]? = some (pc, .sipush z, 3)) (hv : (Int16.ofInt z).toInt32 = v) (kk : J l R G nL X Q k n (pc + 3) lv (.int v :: st) ws) : J l R G nL X Q k n pc lv st ws :=
  fun H locs ls hP hD hS h => lv_sipush C.1 C.2.1 (C.d j hd) hv (kk H locs ls hP hD hS h)
theorem J_ldc (C : Cx G nL X cc own ret tb) (j : Nat) {i : Nat} {v : Int32} (hd : tb[j]? = some (pc, .ldc i, 2)) (hw : Cond.constant own i v ∈ TB) (kk : J l R G nL X Q k n (pc + 2) lv (.int v :: st) ws) : J l R G nL X Q k n pc lv st ws :=
  fun H locs ls hP hD hS h => W.ldc C.1 C.2.1 C.2.2.2.1 (C.2.2.2.2.1 _ hw) rfl (C.d j hd) (kk H locs ls hP hD hS h)
theorem J_ldc_w (C : Cx G nL X cc own ret tb) (j : Nat) {i : Nat} {v : Int32} (hd : tb[j]? = some (pc, .ldc_w i, 3)) (hw : Cond.constant own i v ∈ TB) (kk : J l R G nL X Q k n (pc + 3) lv (.int v :: st) ws) : J l R G nL X Q k n pc lv st ws :=
  fun H locs ls hP hD hS h => lv_ldcw C.1 C.2.1 C.2.2.2.1 (C.2.2.2.2.1 _ hw) (C.d j hd) (kk H locs ls hP hD hS h)
theorem J_ldc2 (C : Cx G nL X cc own ret tb) (j : Nat) {i : Nat} {v : Int64} (hd : tb[j]? = some (pc, .ldc2_w i, 3)) (hw : Cond.constantLong own i v ∈ TB) (kk : J l R G nL X Q k n (pc + 3) lv (.long v :: st) ws) : J l R G nL X Q k n pc lv st ws :=
  fun H locs ls hP hD hS h => lv_ldc2 C.1 C.2.1 C.2.2.2.1 (C.2.2.2.2.1 _ hw) (C.d j hd) (kk H locs ls hP hD hS h)
theorem J_lconst (C : Cx G nL X cc own ret tb) (j : Nat) {z : Fin 2} {v : Int64} (hd : tb[j]? = some (pc, .lconst z, 1)) (hv : Int64.ofNat (z : Nat) = v) (kk : J l R G nL X Q k n (pc + 1) lv (.long v :: st) ws) : J l R G nL X Q k n pc lv st ws :=
  fun H locs ls hP hD hS h => lv_lconst C.1 C.2.1 (C.d j hd) hv (kk H locs ls hP hD hS h)
theorem J_iadd (C : Cx G nL X cc own ret tb) (j : Nat) {x y : Int32} (hd : tb[j]? = some (pc, .iadd, 1)) (kk : J l R G nL X Q k n (pc + 1) lv (.int (x + y) :: st) ws) : J l R G nL X Q k n pc lv (.int y :: .int x :: st) ws :=
  fun H locs ls hP hD hS h => lv_iadd C.1 C.2.1 (C.d j hd) (kk H locs ls hP hD hS h)
theorem J_isub (C : Cx G nL X cc own ret tb) (j : Nat) {x y : Int32} (hd : tb[j]? = some (pc, .isub, 1)) (kk : J l R G nL X Q k n (pc + 1) lv (.int (x - y) :: st) ws) : J l R G nL X Q k n pc lv (.int y :: .int x :: st) ws :=
  fun H locs ls hP hD hS h => lv_isub C.1 C.2.1 (C.d j hd) (kk H locs ls hP hD hS h)
theorem J_imul (C : Cx G nL X cc own ret tb) (j : Nat) {x y : Int32} (hd : tb[j]? = some (pc, .imul, 1)) (kk : J l R G nL X Q k n (pc + 1) lv (.int (x * y) :: st) ws) : J l R G nL X Q k n pc lv (.int y :: .int x :: st) ws :=
  fun H locs ls hP hD hS h => lv_imul C.1 C.2.1 (C.d j hd) (kk H locs ls hP hD hS h)
theorem J_ishl (C : Cx G nL X cc own ret tb) (j : Nat) {x y : Int32} (hd : tb[j]? = some (pc, .ishl, 1)) (kk : J l R G nL X Q k n (pc + 1) lv (.int (x <<< (y &&& 31)) :: st) ws) : J l R G nL X Q k n pc lv (.int y :: .int x :: st) ws :=
  fun H locs ls hP hD hS h => lv_ishl C.1 C.2.1 (C.d j hd) (kk H locs ls hP hD hS h)
theorem J_ishr (C : Cx G nL X cc own ret tb) (j : Nat) {x y : Int32} (hd : tb[j]? = some (pc, .ishr, 1)) (kk : J l R G nL X Q k n (pc + 1) lv (.int (x >>> (y &&& 31)) :: st) ws) : J l R G nL X Q k n pc lv (.int y :: .int x :: st) ws :=
  fun H locs ls hP hD hS h => lv_ishr C.1 C.2.1 (C.d j hd) (kk H locs ls hP hD hS h)
theorem J_iand (C : Cx G nL X cc own ret tb) (j : Nat) {x y : Int32} (hd : tb[j]? = some (pc, .iand, 1)) (kk : J l R G nL X Q k n (pc + 1) lv (.int (x &&& y) :: st) ws) : J l R G nL X Q k n pc lv (.int y :: .int x :: st) ws :=
  fun H locs ls hP hD hS h => lv_iand C.1 C.2.1 (C.d j hd) (kk H locs ls hP hD hS h)
theorem J_ior (C : Cx G nL X cc own ret tb) (j : Nat) {x y : Int32} (hd : tb[j]? = some (pc, .ior, 1)) (kk : J l R G nL X Q k n (pc + 1) lv (.int (x ||| y) :: st) ws) : J l R G nL X Q k n pc lv (.int y :: .int x :: st) ws :=
  fun H locs ls hP hD hS h => lv_ior C.1 C.2.1 (C.d j hd) (kk H locs ls hP hD hS h)
theorem J_ixor (C : Cx G nL X cc own ret tb) (j : Nat) {x y : Int32} (hd : tb[j]? = some (pc, .ixor, 1)) (kk : J l R G nL X Q k n (pc + 1) lv (.int (x ^^^ y) :: st) ws) : J l R G nL X Q k n pc lv (.int y :: .int x :: st) ws :=
  fun H locs ls hP hD hS h => lv_ixor C.1 C.2.1 (C.d j hd) (kk H locs ls hP hD hS h)
theorem J_land (C : Cx G nL X cc own ret tb) (j : Nat) {x y : Int64} (hd : tb[j]? = some (pc, .land, 1)) (kk : J l R G nL X Q k n (pc + 1) lv (.long (x &&& y) :: st) ws) : J l R G nL X Q k n pc lv (.long y :: .long x :: st) ws :=
  fun H locs ls hP hD hS h => lv_land C.1 C.2.1 (C.d j hd) (kk H locs ls hP hD hS h)
theorem J_lor (C : Cx G nL X cc own ret tb) (j : Nat) {x y : Int64} (hd : tb[j]? = some (pc, .lor, 1)) (kk : J l R G nL X Q k n (pc + 1) lv (.long (x ||| y) :: st) ws) : J l R G nL X Q k n pc lv (.long y :: .long x :: st) ws :=
  fun H locs ls hP hD hS h => lv_lor C.1 C.2.1 (C.d j hd) (kk H locs ls hP hD hS h)
theorem J_lshl (C : Cx G nL X cc own ret tb) (j : Nat) {x : Int64} {y : Int32} (hd : tb[j]? = some (pc, .lshl, 1)) (kk : J l R G nL X Q k n (pc + 1) lv (.long (x <<< (y.toInt64 &&& 63)) :: st) ws) : J l R G nL X Q k n pc lv (.int y :: .long x :: st) ws :=
  fun H locs ls hP hD hS h => lv_lshl C.1 C.2.1 (C.d j hd) rfl (kk H locs ls hP hD hS h)
theorem J_dup2 (C : Cx G nL X cc own ret tb) (j : Nat) {v w : Value} (hd : tb[j]? = some (pc, .dup2, 1)) (hv : v.category = 1) (hw : w.category = 1) (kk : J l R G nL X Q k n (pc + 1) lv (v :: w :: v :: w :: st) ws) : J l R G nL X Q k n pc lv (v :: w :: st) ws :=
  fun H locs ls hP hD hS h => lv_dup2_11 C.1 C.2.1 (C.d j hd) hv hw (kk H locs ls hP hD hS h)
theorem J_idiv (C : Cx G nL X cc own ret tb) (j : Nat) {x y : Int32} (hd : tb[j]? = some (pc, .idiv, 1)) (hy : nz y = true) (kk : J l R G nL X Q k n (pc + 1) lv (.int (x / y) :: st) ws) : J l R G nL X Q k n pc lv (.int y :: .int x :: st) ws :=
  fun H locs ls hP hD hS h => lv_idiv C.1 C.2.1 (C.d j hd) (nz_ne hy) (kk H locs ls hP hD hS h)
theorem J_irem (C : Cx G nL X cc own ret tb) (j : Nat) {x y : Int32} (hd : tb[j]? = some (pc, .irem, 1)) (hy : nz y = true) (kk : J l R G nL X Q k n (pc + 1) lv (.int (x - x / y * y) :: st) ws) : J l R G nL X Q k n pc lv (.int y :: .int x :: st) ws :=
  fun H locs ls hP hD hS h => lv_irem C.1 C.2.1 (C.d j hd) (nz_ne hy) (kk H locs ls hP hD hS h)
theorem J_iushr (C : Cx G nL X cc own ret tb) (j : Nat) {x y : Int32} (hd : tb[j]? = some (pc, .iushr, 1)) (kk : J l R G nL X Q k n (pc + 1) lv (.int (x.toUInt32 >>> (y.toUInt32 &&& Int32.toUInt32 31)).toInt32 :: st) ws) : J l R G nL X Q k n pc lv (.int y :: .int x :: st) ws :=
  fun H locs ls hP hD hS h => lv_iushr C.1 C.2.1 (C.d j hd) rfl (kk H locs ls hP hD hS h)
theorem J_lushr (C : Cx G nL X cc own ret tb) (j : Nat) {x : Int64} {y : Int32} (hd : tb[j]? = some (pc, .lushr, 1)) (kk : J l R G nL X Q k n (pc + 1) lv (.long (x.toUInt64 >>> (y.toInt64.toUInt64 &&& Int64.toUInt64 63)).toInt64 :: st) ws) : J l R G nL X Q k n pc lv (.int y :: .long x :: st) ws :=
  fun H locs ls hP hD hS h => lv_lushr C.1 C.2.1 (C.d j hd) rfl (kk H locs ls hP hD hS h)
theorem J_i2l (C : Cx G nL X cc own ret tb) (j : Nat) {x : Int32} (hd : tb[j]? = some (pc, .i2l, 1)) (kk : J l R G nL X Q k n (pc + 1) lv (.long x.toInt64 :: st) ws) : J l R G nL X Q k n pc lv (.int x :: st) ws :=
  fun H locs ls hP hD hS h => lv_i2l C.1 C.2.1 (C.d j hd) rfl (kk H locs ls hP hD hS h)
theorem J_l2i (C : Cx G nL X cc own ret tb) (j : Nat) {x : Int64} (hd : tb[j]? = some (pc, .l2i, 1)) (kk : J l R G nL X Q k n (pc + 1) lv (.int x.toInt32 :: st) ws) : J l R G nL X Q k n pc lv (.long x :: st) ws :=
  fun H locs ls hP hD hS h => lv_l2i C.1 C.2.1 (C.d j hd) rfl (kk H locs ls hP hD hS h)
theorem J_i2c (C : Cx G nL X cc own ret tb) (j : Nat) {x : Int32} (hd : tb[j]? = some (pc, .i2c, 1)) (kk : J l R G nL X Q k n (pc + 1) lv (.int (x.toUInt32 % 65536).toInt32 :: st) ws) : J l R G nL X Q k n pc lv (.int x :: st) ws :=
  fun H locs ls hP hD hS h => lv_i2c C.1 C.2.1 (C.d j hd) rfl (kk H locs ls hP hD hS h)
theorem J_lcmp (C : Cx G nL X cc own ret tb) (j : Nat) {x y : Int64} (hd : tb[j]? = some (pc, .lcmp, 1)) (kk : J l R G nL X Q k n (pc + 1) lv (.int (lg_cmp x y) :: st) ws) : J l R G nL X Q k n pc lv (.long y :: .long x :: st) ws :=
  fun H locs ls hP hD hS h => W.lcmp C.1 C.2.1 (C.d j hd) (kk H locs ls hP hD hS h)
theorem J_dup (C : Cx G nL X cc own ret tb) (j : Nat) {v : Value} (hd : tb[j]? = some (pc, .dup, 1)) (hv : v.category = 1) (kk : J l R G nL X Q k n (pc + 1) lv (v :: v :: st) ws) : J l R G nL X Q k n pc lv (v :: st) ws :=
  fun H locs ls hP hD hS h => lv_dup C.1 C.2.1 (C.d j hd) hv (kk H locs ls hP hD hS h)
theorem J_pop (C : Cx G nL X cc own ret tb) (j : Nat) {v : Value} (hd : tb[j]? = some (pc, .pop, 1)) (hv : v.category = 1) (kk : J l R G nL X Q k n (pc + 1) lv st ws) : J l R G nL X Q k n pc lv (v :: st) ws :=
  fun H locs ls hP hD hS h => lv_pop C.1 C.2.1 (C.d j hd) hv (kk H locs ls hP hD hS h)
theorem J_goto (C : Cx G nL X cc own ret tb) (j : Nat) {z : Int} {tgt : Nat} (hd : tb[j]? = some (pc, .goto z, 3)) (ht : (pc : Int) + z = (tgt : Int)) (kk : J l R G nL X Q k n tgt lv st ws) : J l R G nL X Q k n pc lv st ws :=
  fun H locs ls hP hD hS h => lv_goto C.1 C.2.1 (C.d j hd) ht (kk H locs ls hP hD hS h)
theorem J_if_eq (C : Cx G nL X cc own ret tb) (j : Nat) {x : Int32} {z : Int} {tgt : Nat} (hd : tb[j]? = some (pc, .ifCond .eq z, 3)) (ht : (pc : Int) + z = (tgt : Int)) (kt : x = 0 → J l R G nL X Q k n tgt lv st ws) (kf : ¬ x = 0 → J l R G nL X Q k n (pc + 3) lv st ws) : J l R G nL X Q k n pc lv (.int x :: st) ws :=
  fun H locs ls hP hD hS h => lv_if_eq C.1 C.2.1 (C.d j hd) ht (fun c => kt c H locs ls hP hD hS h) (fun c => kf c H locs ls hP hD hS h)
theorem J_if_ne (C : Cx G nL X cc own ret tb) (j : Nat) {x : Int32} {z : Int} {tgt : Nat} (hd : tb[j]? = some (pc, .ifCond .ne z, 3)) (ht : (pc : Int) + z = (tgt : Int)) (kt : ¬ x = 0 → J l R G nL X Q k n tgt lv st ws) (kf : x = 0 → J l R G nL X Q k n (pc + 3) lv st ws) : J l R G nL X Q k n pc lv (.int x :: st) ws :=
  fun H locs ls hP hD hS h => lv_if_ne C.1 C.2.1 (C.d j hd) ht (fun c => kt c H locs ls hP hD hS h) (fun c => kf c H locs ls hP hD hS h)
theorem J_if_lt (C : Cx G nL X cc own ret tb) (j : Nat) {x : Int32} {z : Int} {tgt : Nat} (hd : tb[j]? = some (pc, .ifCond .lt z, 3)) (ht : (pc : Int) + z = (tgt : Int)) (kt : x < 0 → J l R G nL X Q k n tgt lv st ws) (kf : ¬ x < 0 → J l R G nL X Q k n (pc + 3) lv st ws) : J l R G nL X Q k n pc lv (.int x :: st) ws :=
  fun H locs ls hP hD hS h => lv_if_lt C.1 C.2.1 (C.d j hd) ht (fun c => kt c H locs ls hP hD hS h) (fun c => kf c H locs ls hP hD hS h)
theorem J_if_ge (C : Cx G nL X cc own ret tb) (j : Nat) {x : Int32} {z : Int} {tgt : Nat} (hd : tb[j]? = some (pc, .ifCond .ge z, 3)) (ht : (pc : Int) + z = (tgt : Int)) (kt : 0 ≤ x → J l R G nL X Q k n tgt lv st ws) (kf : ¬ 0 ≤ x → J l R G nL X Q k n (pc + 3) lv st ws) : J l R G nL X Q k n pc lv (.int x :: st) ws :=
  fun H locs ls hP hD hS h => lv_if_ge C.1 C.2.1 (C.d j hd) ht (fun c => kt c H locs ls hP hD hS h) (fun c => kf c H locs ls hP hD hS h)
theorem J_if_gt (C : Cx G nL X cc own ret tb) (j : Nat) {x : Int32} {z : Int} {tgt : Nat} (hd : tb[j]? = some (pc, .ifCond .gt z, 3)) (ht : (pc : Int) + z = (tgt : Int)) (kt : 0 < x → J l R G nL X Q k n tgt lv st ws) (kf : ¬ 0 < x → J l R G nL X Q k n (pc + 3) lv st ws) : J l R G nL X Q k n pc lv (.int x :: st) ws :=
  fun H locs ls hP hD hS h => lv_if_gt C.1 C.2.1 (C.d j hd) ht (fun c => kt c H locs ls hP hD hS h) (fun c => kf c H locs ls hP hD hS h)
theorem J_if_le (C : Cx G nL X cc own ret tb) (j : Nat) {x : Int32} {z : Int} {tgt : Nat} (hd : tb[j]? = some (pc, .ifCond .le z, 3)) (ht : (pc : Int) + z = (tgt : Int)) (kt : x ≤ 0 → J l R G nL X Q k n tgt lv st ws) (kf : ¬ x ≤ 0 → J l R G nL X Q k n (pc + 3) lv st ws) : J l R G nL X Q k n pc lv (.int x :: st) ws :=
  fun H locs ls hP hD hS h => lv_if_le C.1 C.2.1 (C.d j hd) ht (fun c => kt c H locs ls hP hD hS h) (fun c => kf c H locs ls hP hD hS h)
theorem J_icmp_eq (C : Cx G nL X cc own ret tb) (j : Nat) {x y : Int32} {z : Int} {tgt : Nat} (hd : tb[j]? = some (pc, .if_icmp .eq z, 3)) (ht : (pc : Int) + z = (tgt : Int)) (kt : x = y → J l R G nL X Q k n tgt lv st ws) (kf : ¬ x = y → J l R G nL X Q k n (pc + 3) lv st ws) : J l R G nL X Q k n pc lv (.int y :: .int x :: st) ws :=
  fun H locs ls hP hD hS h => lv_icmp_eq C.1 C.2.1 (C.d j hd) ht (fun c => kt c H locs ls hP hD hS h) (fun c => kf c H locs ls hP hD hS h)
theorem J_icmp_ne (C : Cx G nL X cc own ret tb) (j : Nat) {x y : Int32} {z : Int} {tgt : Nat} (hd : tb[j]? = some (pc, .if_icmp .ne z, 3)) (ht : (pc : Int) + z = (tgt : Int)) (kt : ¬ x = y → J l R G nL X Q k n tgt lv st ws) (kf : x = y → J l R G nL X Q k n (pc + 3) lv st ws) : J l R G nL X Q k n pc lv (.int y :: .int x :: st) ws :=
  fun H locs ls hP hD hS h => lv_icmp_ne C.1 C.2.1 (C.d j hd) ht (fun c => kt c H locs ls hP hD hS h) (fun c => kf c H locs ls hP hD hS h)
theorem J_icmp_lt (C : Cx G nL X cc own ret tb) (j : Nat) {x y : Int32} {z : Int} {tgt : Nat} (hd : tb[j]? = some (pc, .if_icmp .lt z, 3)) (ht : (pc : Int) + z = (tgt : Int)) (kt : x < y → J l R G nL X Q k n tgt lv st ws) (kf : ¬ x < y → J l R G nL X Q k n (pc + 3) lv st ws) : J l R G nL X Q k n pc lv (.int y :: .int x :: st) ws :=
  fun H locs ls hP hD hS h => lv_icmp_lt C.1 C.2.1 (C.d j hd) ht (fun c => kt c H locs ls hP hD hS h) (fun c => kf c H locs ls hP hD hS h)
theorem J_icmp_ge (C : Cx G nL X cc own ret tb) (j : Nat) {x y : Int32} {z : Int} {tgt : Nat} (hd : tb[j]? = some (pc, .if_icmp .ge z, 3)) (ht : (pc : Int) + z = (tgt : Int)) (kt : y ≤ x → J l R G nL X Q k n tgt lv st ws) (kf : ¬ y ≤ x → J l R G nL X Q k n (pc + 3) lv st ws) : J l R G nL X Q k n pc lv (.int y :: .int x :: st) ws :=
  fun H locs ls hP hD hS h => lv_icmp_ge C.1 C.2.1 (C.d j hd) ht (fun c => kt c H locs ls hP hD hS h) (fun c => kf c H locs ls hP hD hS h)
theorem J_icmp_gt (C : Cx G nL X cc own ret tb) (j : Nat) {x y : Int32} {z : Int} {tgt : Nat} (hd : tb[j]? = some (pc, .if_icmp .gt z, 3)) (ht : (pc : Int) + z = (tgt : Int)) (kt : y < x → J l R G nL X Q k n tgt lv st ws) (kf : ¬ y < x → J l R G nL X Q k n (pc + 3) lv st ws) : J l R G nL X Q k n pc lv (.int y :: .int x :: st) ws :=
  fun H locs ls hP hD hS h => lv_icmp_gt C.1 C.2.1 (C.d j hd) ht (fun c => kt c H locs ls hP hD hS h) (fun c => kf c H locs ls hP hD hS h)
theorem J_icmp_le (C : Cx G nL X cc own ret tb) (j : Nat) {x y : Int32} {z : Int} {tgt : Nat} (hd : tb[j]? = some (pc, .if_icmp .le z, 3)) (ht : (pc : Int) + z = (tgt : Int)) (kt : x ≤ y → J l R G nL X Q k n tgt lv st ws) (kf : ¬ x ≤ y → J l R G nL X Q k n (pc + 3) lv st ws) : J l R G nL X Q k n pc lv (.int y :: .int x :: st) ws :=
  fun H locs ls hP hD hS h => lv_icmp_le C.1 C.2.1 (C.d j hd) ht (fun c => kt c H locs ls hP hD hS h) (fun c => kf c H locs ls hP hD hS h)
theorem J_tabIn (C : Cx G nL X cc own ret tb) (j : Nat) {dflt lo hi : Int} {offs : Array Int} {len : Nat} {x : Int32} {off : Int} {tgt : Nat} (hd : tb[j]? = some (pc, .tableswitch dflt lo hi offs, len)) (h1 : ¬ x.toInt < lo) (h2 : ¬ hi < x.toInt) (ho : offs[(x.toInt - lo).toNat]? = some off) (ht : (pc : Int) + off = (tgt : Int)) (kk : J l R G nL X Q k n tgt lv st ws) : J l R G nL X Q k n pc lv (.int x :: st) ws :=
  fun H locs ls hP hD hS h => lv_tableIn C.1 C.2.1 (C.d j hd) h1 h2 ho ht (kk H locs ls hP hD hS h)
theorem J_tabOut (C : Cx G nL X cc own ret tb) (j : Nat) {dflt lo hi : Int} {offs : Array Int} {len : Nat} {x : Int32} {tgt : Nat} (hd : tb[j]? = some (pc, .tableswitch dflt lo hi offs, len)) (h1 : x.toInt < lo ∨ hi < x.toInt) (ht : (pc : Int) + dflt = (tgt : Int)) (kk : J l R G nL X Q k n tgt lv st ws) : J l R G nL X Q k n pc lv (.int x :: st) ws :=
  fun H locs ls hP hD hS h => lv_tableOut C.1 C.2.1 (C.d j hd) h1 ht (kk H locs ls hP hD hS h)
theorem J_look (C : Cx G nL X cc own ret tb) (j : Nat) {dflt : Int} {ps : Array (Int × Int)} {len : Nat} {x : Int32} {off : Int} {tgt : Nat} (hd : tb[j]? = some (pc, .lookupswitch dflt ps, len)) (hp : (ps.toList.zip (ps.toList.drop 1)).all (fun (a, next) => a.1 < next.1) = true) (ho : Op.lookupswitch.offset ps.toList dflt x.toInt = off) (ht : (pc : Int) + off = (tgt : Int)) (kk : J l R G nL X Q k n tgt lv st ws) : J l R G nL X Q k n pc lv (.int x :: st) ws :=
  fun H locs ls hP hD hS h => lv_lookup C.1 C.2.1 (C.d j hd) hp ho ht (kk H locs ls hP hD hS h)
end JROWS
section JMEM
variable {l : Launch} {R : Room} {G : JG} {nL : Nat} {X : JX} {Q : State → Prop} {k n pc : Nat} {lv : List (Nat × Value)} {st : List Value} {ws : va_W} {cc : ByteArray} {own : String} {ret : Option FieldType} {tb : List (Nat × ClassFile.Instr × Nat)}
theorem J_get (C : Cx G nL X cc own ret tb) (j : Nat) {ref Cn : String} {T : u_T} {N ci index a : Nat} {fs : List Value} {v : Value} (hd : tb[j]? = some (pc, .getfield index, 3)) (hin : ∀ w ∈ u_ws Cn T N, w ∈ TB) (hc : vwCl[ci]? = some (Cn, T, N)) (q0 kf : Nat) (he : ws[q0]? = some (a, .inr (ci, fs))) (hk : kf < N) (hlink : Cond.fieldLink own index ref (T kf).2.1 (T kf).2.2.1 ∈ TB) (hsame : (T kf).1 = ref) (hv : fs[kf]? = some v) (kk : J l R G nL X Q k n (pc + 3) lv (v :: st) ws) : J l R G nL X Q k n pc lv (.ref a :: st) ws :=
  fun H locs ls hP hD hS h => va_get C.1 C.2.1 C.2.2.2.2.1 hin C.2.2.2.1 C.2.2.2.2.2.1.1 hP q0 he hc kf hk (C.2.2.2.2.1 _ hlink) (fun x hx => hsame ▸ hx) hv (C.d j hd) (kk H locs ls hP hD hS h)
theorem J_put (C : Cx G nL X cc own ret tb) (j : Nat) {ref Cn : String} {T : u_T} {N ci index a : Nat} {fs : List Value} {v : Value} {ty : FieldType} {ws2 : va_W} (hd : tb[j]? = some (pc, .putfield index, 3)) (hin : ∀ w ∈ u_ws Cn T N, w ∈ TB) (ty0 : Nat → FieldType) (hty : ∀ k, k < N → parseFieldDescriptor (T k).2.2.1 = some (ty0 k)) (hnm : ∀ a, a < N → ∀ b, b < N → a ≠ b → (T a).2.1 ≠ (T b).2.1) (hc : vwCl[ci]? = some (Cn, T, N)) (q0 kf : Nat) (he : ws[q0]? = some (a, .inr (ci, fs))) (hk : kf < N) (hlink : Cond.fieldLink own index ref (T kf).2.1 (T kf).2.2.1 ∈ TB) (hsame : (T kf).1 = ref) (hfin : (T kf).2.2.2 = false) (hty2 : ty0 kf = ty) (hn : narrow ty v = v) (hfit : fits ty v = true) (hl : kf < fs.length) (h2 : ws.set q0 (a, .inr (ci, fs.set kf v)) = ws2) (kk : J l R G nL X Q k n (pc + 3) lv st ws2) : J l R G nL X Q k n pc lv (v :: .ref a :: st) ws :=
  fun H locs ls hP hD hS h => va_put C.1 C.2.1 C.2.2.2.2.1 hin ty0 hty hnm C.2.2.2.1 C.2.2.2.2.2.1.1 hP hD hS q0 he hc kf hk (C.2.2.2.2.1 _ hlink) (fun x hx => hsame ▸ hx) hfin (hty2 ▸ hty kf hk) hn hfit hl (C.d j hd) (fun H1 locs1 hP1 hD1 hS1 => kk H1 locs1 ls (h2 ▸ hP1) (h2 ▸ hD1) hS1 h)
theorem J_iald (C : Cx G nL X cc own ret tb) (j : Nat) {a N : Nat} {f : Nat → Int32} {i v : Int32} (hd : tb[j]? = some (pc, .iaload, 1)) (q0 : Nat) (he : ws[q0]? = some (a, .inl (G.2 0, N, .inl f))) (hi : inb i N = true) (hv : f i.toNatClampNeg = v) (kk : J l R G nL X Q k n (pc + 1) lv (.int v :: st) ws) : J l R G nL X Q k n pc lv (.int i :: .ref a :: st) ws :=
  fun H locs ls hP hD hS h => va_iald C.1 C.2.1 C.2.2.2.2.2.1.1 hP q0 0 he rfl (inb_in hi) (C.d j hd) (by rw [hv]; exact kk H locs ls hP hD hS h)
theorem J_zald (C : Cx G nL X cc own ret tb) (j : Nat) {a N : Nat} {f : Nat → Int32} {i v : Int32} (hd : tb[j]? = some (pc, .baload, 1)) (q0 : Nat) (he : ws[q0]? = some (a, .inl (G.2 1, N, .inl f))) (hi : inb i N = true) (hv : f i.toNatClampNeg = v) (kk : J l R G nL X Q k n (pc + 1) lv (.int v :: st) ws) : J l R G nL X Q k n pc lv (.int i :: .ref a :: st) ws :=
  fun H locs ls hP hD hS h => va_zald C.1 C.2.1 C.2.2.2.2.2.1.1 hP q0 1 he rfl (inb_in hi) (C.d j hd) (by rw [hv]; exact kk H locs ls hP hD hS h)
theorem J_cald (C : Cx G nL X cc own ret tb) (j : Nat) {a N : Nat} {f : Nat → Int32} {i v : Int32} (hd : tb[j]? = some (pc, .caload, 1)) (q0 : Nat) (he : ws[q0]? = some (a, .inl (G.2 2, N, .inl f))) (hi : inb i N = true) (hv : f i.toNatClampNeg = v) (kk : J l R G nL X Q k n (pc + 1) lv (.int v :: st) ws) : J l R G nL X Q k n pc lv (.int i :: .ref a :: st) ws :=
  fun H locs ls hP hD hS h => va_cald C.1 C.2.1 C.2.2.2.2.2.1.1 hP q0 2 he rfl (inb_in hi) (C.d j hd) (by rw [hv]; exact kk H locs ls hP hD hS h)
theorem J_aald (C : Cx G nL X cc own ret tb) (j : Nat) {a N v : Nat} {f : Nat → Option Nat} {i : Int32} (hd : tb[j]? = some (pc, .aaload, 1)) (q0 : Nat) (he : ws[q0]? = some (a, .inl (G.2 3, N, .inr (.inr (.inr (.inr f)))))) (hi : inb i N = true) (hv : f i.toNatClampNeg = some v) (kk : J l R G nL X Q k n (pc + 1) lv (.ref v :: st) ws) : J l R G nL X Q k n pc lv (.int i :: .ref a :: st) ws :=
  fun H locs ls hP hD hS h => va_aldq C.1 C.2.1 C.2.2.2.2.2.1.1 hP q0 3 he rfl (inb_in hi) (C.d j hd) (by rw [hv]; exact kk H locs ls hP hD hS h)
theorem J_iast (C : Cx G nL X cc own ret tb) (j : Nat) {a N : Nat} {f : Nat → Int32} {i x : Int32} {ws2 : va_W} (hd : tb[j]? = some (pc, .iastore, 1)) (q0 : Nat) (he : ws[q0]? = some (a, .inl (G.2 0, N, .inl f))) (hi : inb i N = true) (h2 : ws.set q0 (a, .inl (G.2 0, N, .inl (upd f i.toNatClampNeg x))) = ws2) (kk : J l R G nL X Q k n (pc + 1) lv st ws2) : J l R G nL X Q k n pc lv (.int x :: .int i :: .ref a :: st) ws :=
  fun H locs ls hP hD hS h => va_iast C.1 C.2.1 C.2.2.2.2.2.1.1 hP hD hS q0 0 he rfl (inb_in hi) (C.d j hd) (fun H1 locs1 hP1 hD1 hS1 => kk H1 locs1 ls (h2 ▸ hP1) (h2 ▸ hD1) hS1 h)
theorem J_zast (C : Cx G nL X cc own ret tb) (j : Nat) {a N : Nat} {f : Nat → Int32} {i x : Int32} {ws2 : va_W} (hd : tb[j]? = some (pc, .bastore, 1)) (q0 : Nat) (he : ws[q0]? = some (a, .inl (G.2 1, N, .inl f))) (hi : inb i N = true) (hx : isb x = true) (h2 : ws.set q0 (a, .inl (G.2 1, N, .inl (upd f i.toNatClampNeg x))) = ws2) (kk : J l R G nL X Q k n (pc + 1) lv st ws2) : J l R G nL X Q k n pc lv (.int x :: .int i :: .ref a :: st) ws :=
  fun H locs ls hP hD hS h => va_zast C.1 C.2.1 C.2.2.2.2.2.1.1 hP hD hS q0 1 he rfl (inb_in hi) (C.d j hd) (fun H1 locs1 hP1 hD1 hS1 => kk H1 locs1 ls (by rw [isb_vnar hx] at hP1; exact h2 ▸ hP1) (by rw [isb_vnar hx] at hD1; exact h2 ▸ hD1) hS1 h)
theorem J_cast (C : Cx G nL X cc own ret tb) (j : Nat) {a N : Nat} {f : Nat → Int32} {i x : Int32} {ws2 : va_W} (hd : tb[j]? = some (pc, .castore, 1)) (q0 : Nat) (he : ws[q0]? = some (a, .inl (G.2 2, N, .inl f))) (hi : inb i N = true) (hx : isc x = true) (h2 : ws.set q0 (a, .inl (G.2 2, N, .inl (upd f i.toNatClampNeg x))) = ws2) (kk : J l R G nL X Q k n (pc + 1) lv st ws2) : J l R G nL X Q k n pc lv (.int x :: .int i :: .ref a :: st) ws :=
  fun H locs ls hP hD hS h => va_cast C.1 C.2.1 C.2.2.2.2.2.1.1 hP hD hS q0 2 he rfl (inb_in hi) (C.d j hd) (fun H1 locs1 hP1 hD1 hS1 => kk H1 locs1 ls (by rw [isc_vnar hx] at hP1; exact h2 ▸ hP1) (by rw [isc_vnar hx] at hD1; exact h2 ▸ hD1) hS1 h)
theorem J_aast (C : Cx G nL X cc own ret tb) (j : Nat) {a N v : Nat} {f : Nat → Option Nat} {i : Int32} {vs : List Value} {ws2 : va_W} (hd : tb[j]? = some (pc, .aastore, 1)) (q0 qk : Nat) (he : ws[q0]? = some (a, .inl (G.2 3, N, .inr (.inr (.inr (.inr f)))))) (hv : ws[qk]? = some (v, .inr (2, vs))) (hi : inb i N = true) (h2 : ws.set q0 (a, .inl (G.2 3, N, .inr (.inr (.inr (.inr (va_up f i.toNatClampNeg (some v))))))) = ws2) (kk : J l R G nL X Q k n (pc + 1) lv st ws2) : J l R G nL X Q k n pc lv (.ref v :: .int i :: .ref a :: st) ws :=
  fun H locs ls hP hD hS h => va_astq (r := (RX2, TX2, 10)) C.1 C.2.1 C.2.2.2.2.2.1.1 hP hD hS q0 3 qk 2 he rfl hv rfl (inb_in hi) (C.d j hd) (fun H1 locs1 hP1 hD1 hS1 => kk H1 locs1 ls (h2 ▸ hP1) (h2 ▸ hD1) hS1 h)
theorem J_alen (C : Cx G nL X cc own ret tb) (j t0 : Nat) {a : Nat} {x : vp_A} {cA : ClassId} {ty : FieldType} {v : Int32} (hd : tb[j]? = some (pc, .arraylength, 1)) (q0 : Nat) (he : ws[q0]? = some (a, .inl (cA, x))) (ht : (tysG G)[t0]? = some (cA, ty)) (hv : Int32.ofNat x.1 = v) (kk : J l R G nL X Q k n (pc + 1) lv (.int v :: st) ws) : J l R G nL X Q k n pc lv (.ref a :: st) ws :=
  fun H locs ls hP hD hS h => va_alen C.1 C.2.1 C.2.2.2.2.2.1.1 hP q0 t0 he ht hv (C.d j hd) (kk H locs ls hP hD hS h)
theorem J_mmax (C : Cx G nL X cc own ret tb) (j : Nat) {index : Nat} {x y : Int32} (hd : tb[j]? = some (pc, .invokestatic index, 3)) (hl : Cond.methodLink own index Lib.Math.max.name ∈ TB) (hf : 1 ≤ R.frames) (hlo : (st.map fun v => v.category).sum + 13 ≤ R.locals) (hk : k ≤ R.cells) (hn : n ≤ R.slots) (kk : J l R G nL X Q k n (pc + 3) lv (.int (mx x y) :: st) ws) : J l R G nL X Q k n pc lv (.int y :: .int x :: st) ws :=
  fun H locs ls hP hD hS h => va_mmax C.1 C.2.1 (C.2.2.1.trans h.1.symm) C.2.2.2.1 (C.2.2.2.2.1 _ hl) (C.2.2.2.2.1 _ k138) (C.2.2.2.2.1 _ k139) (C.2.2.2.2.1 _ k140) hf hlo hk hn (C.d j hd) (kk H locs ls hP hD hS h)
/-- a method's start and end -/
def JPc (G : JG) (av : List Value) (sz : Nat) (ws : va_W) : Array Value → State → Prop := va_Pc av (fun U => U.heap.size = sz ∧ va_P G.1 vwCl ws U.heap ∧ KK G U ∧ va_D (fun _ => True) ws)
def JQ (G : JG) (r : Option Value) (ws' : va_W) (A : Nat → Prop) : Array Value → State → Outcome → State → Prop := fun _ s o t => (o = .returned r ∧ va_P G.1 vwCl ws' t.heap ∧ va_D A ws') ∧ va_F A s t
def QM (X : JX) (G : JG) (k n : Nat) (r : Option Value) (ws' : va_W) : State → Prop := MQ X.2.2.2.2.2.1 (JQ G r ws' X.2.2.2.2.2.2.2.2) X.2.2.2.2.1 X.2.2.1 k n X.2.2.2.2.2.2.2.2
/-- a contract: of a method that makes nothing -/
def JM (l : Launch) (G : JG) (y : MethodName) (b : ByteArray) (nL : Nat) (ret : Option FieldType) (fr lo : Nat) (av : List Value) (ws ws' : va_W) (r : Option Value) : Prop :=
  ∀ sz : Nat, Met l y (.code y b nL ret :: TB) { frames := fr, cells := 0, slots := 0, locals := lo } (JPc G av sz ws) (JQ G r ws' (va_A ws sz)) 0 0 (va_A ws sz)
theorem J_iret (C : Cx G nL X cc own (some .int) tb) (j : Nat) {v : Int32} (hd : tb[j]? = some (pc, .ireturn, 1)) : J l R G nL X (QM X G k n (some (.int v)) ws) k n pc lv [.int v] ws :=
  fun _ _ _ hP hD hS _ => W.iret C.1 C.2.1 C.2.2.2.2.2.2.2.2.1 (fun t ht _ => ⟨⟨rfl, by rw [ht]; exact hP, hD⟩, hS.F ht⟩) hS.2.2 (C.d j hd) C.2.2.2.2.2.2.2.1
theorem J_zret (C : Cx G nL X cc own (some .boolean) tb) (j : Nat) {v : Int32} (hd : tb[j]? = some (pc, .ireturn, 1)) (hv : isb v = true) : J l R G nL X (QM X G k n (some (.int v)) ws) k n pc lv [.int v] ws :=
  fun _ _ _ hP hD hS _ => W.zret C.1 C.2.1 C.2.2.2.2.2.2.2.2.1 (isb_nar hv) (fun t ht _ => ⟨⟨rfl, by rw [ht]; exact hP, hD⟩, hS.F ht⟩) hS.2.2 (C.d j hd) C.2.2.2.2.2.2.2.1
theorem J_vret (C : Cx G nL X cc own none tb) (j : Nat) (hd : tb[j]? = some (pc, .return_, 1)) : J l R G nL X (QM X G k n none ws) k n pc lv [] ws :=
  fun _ _ _ hP hD hS _ => W.vret C.1 C.2.1 C.2.2.2.2.2.2.2.2.1 (fun t ht _ => ⟨⟨rfl, by rw [ht]; exact hP, hD⟩, hS.F ht⟩) hS.2.2 (C.d j hd) C.2.2.2.2.2.2.2.1
theorem TB_in (y : MethodName) (b : ByteArray) (nL : Nat) (ret : Option FieldType) (h : Cond.code y b nL ret ∈ TB) : GoodIn TB (.code y b nL ret :: TB) := by
  intro w hw
  have h1 : w ∈ TB := by
    rcases List.mem_cons.mp hw with rfl | h2
    · exact h
    · exact h2
  exact ⟨h1, good_of_word (List.all_eq_true.mp TB_good w h1)⟩
theorem JM.of {y : MethodName} {b : ByteArray} {fr lo : Nat} {av : List Value} {ws' : va_W} {r : Option Value} (hy : plainName y.cls = true) (hlen : (lg_sl av).length ≤ nL) (hT : ∀ q ∈ tb, decode b q.1 = .ok q.2) (ho : y.cls = own)
    (body : ∀ X : JX, Cx G nL X b own ret tb → J l { frames := fr, cells := 0, slots := 0, locals := lo } G nL X (QM X G 0 0 r ws') 0 0 0 (lv_args 0 av) [] ws) : JM l G y b nL ret fr lo av ws ws' r := by
  intro sz
  refine Met.ofW (cc := b) (maxL := nL) (ret := ret) hy rfl ?_
  intro p e s m args below meth c s₁ B hml hv
  obtain ⟨rfl, hsz, hP, hK, hD0⟩ := hv
  have hts := atoms_spec (ws := .code y b nL ret :: TB) B.pre
  have hown : s.vm.findClass y.cls = some m.cls := findClass_of_methodNamed B.named
  rw [ho] at hown
  subst hsz
  have hD := hD0.self (sz := s.heap.size)
  have Z := body (p, e, s, m, av.toArray, below, meth, c, va_A ws s.heap.size) ⟨B.exec, B.bytes, hml, hown, fun w hw => hts w (List.mem_cons_of_mem _ hw), hK, fun q h => Or.inr h, B.notSynchronized, B.returns, hT⟩
  rw [lg_entry_eq]
  exact Z s.heap [] _ hP hD va_S.rf (lv_entry av hlen)
end JMEM
/-! ===== calls: the callee's cells, at their places, become what it leaves ===== -/
def jrepl : va_W → List Nat → va_W → va_W
  | ws, i :: is, q :: qs => jrepl (ws.set i q) is qs
  | ws, [], _ => ws
  | ws, _, [] => ws
theorem jrepl_get : ∀ (is : List Nat) (qs ws : va_W) (k : Nat) (q : Nat × va_E), is.length = qs.length → (jrepl ws is qs)[k]? = some q → (∃ j : Nat, is[j]? = some k ∧ qs[j]? = some q) ∨ (k ∉ is ∧ ws[k]? = some q) := by
  intro is
  induction is with
  | nil =>
    intro qs ws k q _ h
    refine Or.inr ⟨List.not_mem_nil, ?_⟩
    cases qs <;> exact h
  | cons i is ih =>
    intro qs ws k q hl h
    cases qs with
    | nil => cases hl
    | cons q0 qs =>
      have hl2 : is.length = qs.length := by simpa using hl
      rcases ih qs (ws.set i q0) k q hl2 h with ⟨j, h1, h2⟩ | ⟨h1, h2⟩
      · exact Or.inl ⟨j + 1, h1, h2⟩
      · by_cases hk : k = i
        · subst hk
          have hlt : k < ws.length := by
            have h3 := (List.getElem?_eq_some_iff.mp h2).1
            simpa using h3
          rw [List.getElem?_set_self hlt] at h2
          exact Or.inl ⟨0, rfl, h2⟩
        · rw [List.getElem?_set_ne (Ne.symm hk)] at h2
          exact Or.inr ⟨fun hm => by
            rcases List.mem_cons.mp hm with h3 | h3
            · exact hk h3
            · exact h1 h3, h2⟩
theorem j_place {ws wc : va_W} {isC : List Nat} (hC : isC.map (fun i => ws[i]?) = wc.map some) {j i : Nat} (hj : isC[j]? = some i) {q : Nat × va_E} (hq : wc[j]? = some q) : ws[i]? = some q := by
  have h1 : (isC.map (fun i => ws[i]?))[j]? = (wc.map some)[j]? := by rw [hC]
  rw [List.getElem?_map, List.getElem?_map, hj, hq] at h1
  exact Option.some.inj h1
theorem jrepl_D {A : Nat → Prop} {ws wc wc' : va_W} {isC : List Nat} (hD : va_D A ws) (hC : isC.map (fun i => ws[i]?) = wc.map some) (ha : wc'.map (fun q => q.1) = wc.map (fun q => q.1)) : va_D A (jrepl ws isC wc') := by
  have l1 : isC.length = wc.length := by have := congrArg List.length hC; simpa using this
  have l2 : wc'.length = wc.length := by have := congrArg List.length ha; simpa using this
  have key : ∀ (k : Nat) (q : Nat × va_E), (jrepl ws isC wc')[k]? = some q → ∃ q0, ws[k]? = some q0 ∧ q0.1 = q.1 := by
    intro k q hk
    rcases jrepl_get isC wc' ws k q (l1.trans l2.symm) hk with ⟨j, h1, h2⟩ | ⟨-, h2⟩
    · have hlt : j < wc.length := by rw [← l2]; exact (List.getElem?_eq_some_iff.mp h2).1
      have h3 : wc[j]? = some wc[j] := List.getElem?_eq_getElem hlt
      refine ⟨wc[j], j_place hC h1 h3, ?_⟩
      have h4 : (wc'.map (fun q => q.1))[j]? = (wc.map (fun q => q.1))[j]? := by rw [ha]
      rw [List.getElem?_map, List.getElem?_map, h2, h3] at h4
      exact (Option.some.inj h4).symm
    · exact ⟨q, h2, rfl⟩
  refine ⟨fun i j x y hi hj hxy => ?_, fun k q hk => ?_⟩
  · obtain ⟨x0, a1, a2⟩ := key i x hi
    obtain ⟨y0, b1, b2⟩ := key j y hj
    exact hD.1 i j x0 y0 a1 b1 (by rw [a2, b2, hxy])
  · obtain ⟨q0, a1, a2⟩ := key k q hk
    rw [← a2]
    exact hD.2 k q0 a1
theorem jrepl_P {A : Nat → Prop} {D : va_G} {cl : List vw_C} {ws wc wc' : va_W} {isC : List Nat} {H H1 : Heap} (hP : va_P D cl ws H) (hD : va_D A ws) (hC : isC.map (fun i => ws[i]?) = wc.map some) (hl : wc'.length = wc.length) (hP1 : va_P D cl wc' H1) (hk : ∀ q : Nat, q < H.size → ¬ va_A wc H.size q → H1[q]? = H[q]?) : va_P D cl (jrepl ws isC wc') H1 := by
  have l1 : isC.length = wc.length := by have := congrArg List.length hC; simpa using this
  intro k q hq
  rcases jrepl_get isC wc' ws k q (l1.trans hl.symm) hq with ⟨j, h1, h2⟩ | ⟨h1, h2⟩
  · exact hP1 j q h2
  · refine (hP k q h2).kept (hk q.1 ((hP k q h2).lt) fun hA => ?_)
    rcases hA with ⟨k2, e, h3⟩ | h3
    · have hlt : k2 < isC.length := by rw [l1]; exact (List.getElem?_eq_some_iff.mp h3).1
      have h4 : isC[k2]? = some isC[k2] := List.getElem?_eq_getElem hlt
      have h5 := j_place hC h4 h3
      have h6 := hD.1 k isC[k2] q (q.1, e) h2 h5 rfl
      exact h1 (h6 ▸ List.mem_of_getElem? h4)
    · have h4 := (hP k q h2).lt
      omega
section JCALL
variable {l : Launch} {R : Room} {G : JG} {nL : Nat} {X : JX} {Q : State → Prop} {k n pc : Nat} {lv : List (Nat × Value)} {st st2 : List Value} {ws : va_W} {cc : ByteArray} {own : String} {ret : Option FieldType} {tb : List (Nat × ClassFile.Instr × Nat)}
theorem J_core (C : Cx G nL X cc own ret tb) {r : Option Value} {a : Array Value} {wc wc' ws2 : va_W} (isC : List Nat) (hC : isC.map (fun i => ws[i]?) = wc.map some) (hn : va_nd isC = true) (ha : wc'.map (fun q => q.1) = wc.map (fun q => q.1)) (h2 : jrepl ws isC wc' = ws2) {st3 : List Value} (h3 : r.toList ++ st2 = st3)
    (hr : ∀ (H : Heap) (locs : List Loc) (ls : Array Slot), va_P G.1 vwCl ws H → va_P G.1 vwCl wc H → va_D (fun _ => True) wc → ls.size = nL → va_Run X.1 l X.2.1 R X.2.2.1 X.2.2.2.1 X.2.2.2.2.1 X.2.2.2.2.2.1 X.2.2.2.2.2.2.1 X.2.2.2.2.2.2.2.1 H locs k n 0 0 (F0 X.2.2.2.1 pc ls st) st2 (JQ G r wc' (va_A wc H.size) a) (va_A wc H.size))
    (kk : J l R G nL X Q k n (pc + 3) lv st3 ws2) : J l R G nL X Q k n pc lv st ws := by
  intro H locs ls hP hD hS h T hT XT
  have hPc : va_P G.1 vwCl wc H := by
    intro j q hq
    have l1 : isC.length = wc.length := by have := congrArg List.length hC; simpa using this
    have hlt : j < isC.length := by rw [l1]; exact (List.getElem?_eq_some_iff.mp hq).1
    exact hP _ q (j_place hC (List.getElem?_eq_getElem hlt) hq)
  have hDc : va_D X.2.2.2.2.2.2.2.2 wc := hD.sub isC hn hC
  have hF := va_free hD hS C.2.2.2.2.2.2.1 isC hC
  obtain ⟨v, st₀, t, T', L, h0, X', hL, e1, e2, ⟨⟨hv, hP1, hD1⟩, hz, hk⟩, stp⟩ := hr H locs ls hP hPc (hDc.weaken fun _ _ _ _ => trivial) h.1 T hT XT
  cases hv
  subst h3
  rw [h0] at hz hk
  have hPn : va_P G.1 vwCl ws2 T'.heap := by
    rw [← h2, e1]
    exact jrepl_P hP hD hC (by have := congrArg List.length ha; simpa using this) hP1 hk
  have hDn : va_D X.2.2.2.2.2.2.2.2 ws2 := by
    rw [← h2]
    exact jrepl_D hD hC ha
  obtain ⟨t2, a1, b1⟩ := kk T'.heap (locs ++ L) ls hPn hDn
    ⟨Nat.le_trans hS.1 (by rw [e1]; exact hz), fun q h1 h2 => by rw [e1, hk q (Nat.lt_of_lt_of_le h1 hS.1) (fun z => h2 (hF q z))]; exact hS.2.1 q h1 h2, fun q hq => by
      rcases List.mem_append.mp hq with h | h
      · exact hS.2.2 q h
      · exact hF _ (hL q h)⟩ h T' rfl X'
  exact ⟨t2, stp t2 a1, b1⟩
theorem JPc_blind {av : List Value} {sz : Nat} {wc : va_W} : FrameBlind (JPc G av sz wc) := fun a U g mk q => by
  obtain ⟨q0, q1, qP, qK, qD⟩ := q
  exact ⟨q0, q1, qP, KK.calling qK, qD⟩
theorem JPc_at {s U : State} {av : List Value} {H : Heap} {wc : va_W} (hK : KK G s) (hP : va_P G.1 vwCl wc H) (hD : va_D (fun _ => True) wc) (hU : U.heap = H) (hW : s.WarmedH U.vm) : JPc G av H.size wc av.toArray U :=
  ⟨rfl, by rw [hU], by rw [hU]; exact hP, KK.warm hW hK, hD⟩
variable {y : MethodName} {b : ByteArray} {a nc np fr lo index : Nat} {rc : Option FieldType} {As : List Value} {wc wc' ws2 : va_W} {r : Option Value}
def Vy (y : MethodName) (b : ByteArray) (nc : Nat) (rc : Option FieldType) (np : Nat) : Prop := Cond.code y b nc rc ∈ TB ∧ Cond.initialized y.cls ∈ TB ∧ (y.cls ≠ "java/lang/invoke/MethodHandle" ∧ y.cls ≠ "java/lang/invoke/VarHandle" ∧ (parseMethodDescriptor y.desc).map (fun d => d.parameters.length) = some np)
theorem J_callV (C : Cx G nL X cc own ret tb) (j : Nat) (hd : tb[j]? = some (pc, .invokevirtual index, 3)) (hM : JM l G y b nc rc fr lo (.ref a :: As) wc wc' r) (V : Vy y b nc rc np) (hl : Cond.methodLink own index y ∈ TB) (hi : Cond.instanceMethod y ∈ TB) (hs : Cond.selects y.cls y y ∈ TB)
    (hnp : As.length = np) (hst : st = As.reverse ++ .ref a :: st2) (hR : fr + 1 ≤ R.frames ∧ 8 + (nc + 11) + lo ≤ R.locals) (hcat : (st2.map fun v => v.category).sum ≤ 8) (hkn : k ≤ R.cells ∧ n ≤ R.slots) (q0 ci : Nat) {cq : vw_C} {fs : List Value} (hcl : vwCl[ci]? = some cq) (hcy : cq.1 = y.cls) (hrc : ws[q0]? = some (a, .inr (ci, fs)))
    (isC : List Nat) (hC : isC.map (fun i => ws[i]?) = wc.map some) (hn : va_nd isC = true) (ha : wc'.map (fun q => q.1) = wc.map (fun q => q.1)) (h2 : jrepl ws isC wc' = ws2) {st3 : List Value} (h3 : r.toList ++ st2 = st3)
    (kk : J l R G nL X Q k n (pc + 3) lv st3 ws2) : J l R G nL X Q k n pc lv st ws := by
  refine J_core C (a := (Value.ref a :: As).toArray) isC hC hn ha h2 h3 (fun H locs ls hP hPc hDc hls => ?_) kk
  have hcell := va_recv C.2.2.2.2.2.1.1 hP hcl hrc
  rw [hcy] at hcell
  exact va_runV (C := y.cls) (As := As) (rest := st2) ⟨C.1, C.2.1, C.2.2.1, C.2.2.2.1, C.2.2.2.2.1⟩ (hM H.size)
    ⟨callB_of np C.2.2.2.2.1 (TB_in _ _ _ _ V.1) rfl rfl rfl (C.2.2.2.2.1 _ V.2.1) (C.2.2.2.2.1 _ hl) V.2.2 hR, C.2.2.2.2.1 _ hi, C.2.2.2.2.1 _ hs⟩
    ⟨JPc_blind, hcell, fun U hU hW => JPc_at C.2.2.2.2.2.1 hPc hDc hU hW⟩ rfl hnp hls hst (lv_room hcat) (C.d j hd) hkn
theorem J_callS (C : Cx G nL X cc own ret tb) (j : Nat) (hd : tb[j]? = some (pc, .invokestatic index, 3)) (hM : JM l G y b nc rc fr lo As wc wc' r) (V : Vy y b nc rc np) (hl : Cond.methodLink own index y ∈ TB) (hi : Cond.static y ∈ TB)
    (hnp : As.length = np) (hst : st = As.reverse ++ st2) (hR : fr + 1 ≤ R.frames ∧ 8 + (nc + 11) + lo ≤ R.locals) (hcat : (st2.map fun v => v.category).sum ≤ 8) (hkn : k ≤ R.cells ∧ n ≤ R.slots)
    (isC : List Nat) (hC : isC.map (fun i => ws[i]?) = wc.map some) (hn : va_nd isC = true) (ha : wc'.map (fun q => q.1) = wc.map (fun q => q.1)) (h2 : jrepl ws isC wc' = ws2) {st3 : List Value} (h3 : r.toList ++ st2 = st3)
    (kk : J l R G nL X Q k n (pc + 3) lv st3 ws2) : J l R G nL X Q k n pc lv st ws := by
  refine J_core C (a := As.toArray) isC hC hn ha h2 h3 (fun H locs ls hP hPc hDc hls => ?_) kk
  exact va_runS (As := As) (rest := st2) ⟨C.1, C.2.1, C.2.2.1, C.2.2.2.1, C.2.2.2.2.1⟩ (hM H.size)
    ⟨callB_of np C.2.2.2.2.1 (TB_in _ _ _ _ V.1) rfl rfl rfl (C.2.2.2.2.1 _ V.2.1) (C.2.2.2.2.1 _ hl) V.2.2 hR, C.2.2.2.2.1 _ hi⟩
    ⟨JPc_blind, fun U hU hW => JPc_at C.2.2.2.2.2.1 hPc hDc hU hW⟩ rfl hnp hls hst (lv_room hcat) (C.d j hd) hkn
theorem J_callSN (C : Cx G nL X cc own ret tb) (j : Nat) {host : String} (hd : tb[j]? = some (pc, .invokestatic index, 3)) (hM : JM l G y b nc rc fr lo As wc wc' r) (V : Vy y b nc rc np) (hl : Cond.methodLinkNest own index y host ∈ nestL) (hi : Cond.static y ∈ TB)
    (hnp : As.length = np) (hst : st = As.reverse ++ st2) (hR : fr + 1 ≤ R.frames ∧ 8 + (nc + 11) + lo ≤ R.locals) (hcat : (st2.map fun v => v.category).sum ≤ 8) (hkn : k ≤ R.cells ∧ n ≤ R.slots)
    (isC : List Nat) (hC : isC.map (fun i => ws[i]?) = wc.map some) (hn : va_nd isC = true) (ha : wc'.map (fun q => q.1) = wc.map (fun q => q.1)) (h2 : jrepl ws isC wc' = ws2) {st3 : List Value} (h3 : r.toList ++ st2 = st3)
    (kk : J l R G nL X Q k n (pc + 3) lv st3 ws2) : J l R G nL X Q k n pc lv st ws := by
  refine J_core C (a := As.toArray) isC hC hn ha h2 h3 (fun H locs ls hP hPc hDc hls => ?_) kk
  exact va_runSN (As := As) (rest := st2) ⟨C.1, C.2.1, C.2.2.1, C.2.2.2.1, C.2.2.2.2.1⟩ (hM H.size)
    ⟨va_cnB np C.2.2.2.2.1 (TB_in _ _ _ _ V.1) rfl rfl rfl (C.2.2.2.2.2.1.2 _ hl) (C.2.2.2.2.1 _ V.2.1) V.2.2 hR, C.2.2.2.2.1 _ hi, trivial⟩
    ⟨JPc_blind, fun U hU hW => JPc_at C.2.2.2.2.2.1 hPc hDc hU hW⟩ rfl hnp hls hst (lv_room hcat) (C.d j hd) hkn
end JCALL
theorem no_none {α : Type} {x : Option α} {r : α} (h0 : x = none) (h : x = some r) : False := by rw [h0] at h; cases h
/-- a loop by fuel -/
def lp {A S : Type} (F : (A → Option S) → A → Option S) : Nat → A → Option S
  | 0, _ => none
  | n + 1, a => F (lp F n) a
theorem FU_ex : ∃ n : Nat, 4000 ≤ n := ⟨4000, Nat.le_refl _⟩
noncomputable def FU : Nat := Classical.choose FU_ex
theorem FU_ge : 4000 ≤ FU := Classical.choose_spec FU_ex
def up1 {α : Type} (f : Nat → α) (k : Nat) (v : α) : Nat → α := fun i => bif Nat.beq i k then v else f i
theorem isb_fit {x : Int32} (h : isb x = true) : fits .boolean (.int x) = true := by
  rcases isb_or h with rfl | rfl <;> rfl
end
section
def wSch (G : JG) (a : Nat → Nat) (s : JV) : va_W := [(a 0, .inr (2, [.ref (a 1), .ref (a 2), .ref (a 3), .ref (a 4), .ref (a 5), .ref (a 6), .ref (a 7), .ref (a 8), .int (s 8 0), .int (s 9 0)])), (a 1, .inl (G.2 0, 3, .inl (s 0))), (a 2, .inl (G.2 0, 6, .inl (s 1))), (a 3, .inl (G.2 0, 6, .inl (s 2))), (a 4, .inl (G.2 0, 16, .inl (s 3))), (a 5, .inl (G.2 0, 16, .inl (s 4))), (a 6, .inl (G.2 1, 16, .inl (s 5))), (a 7, .inl (G.2 0, 4, .inl (s 6))), (a 8, .inl (G.2 0, 4, .inl (s 7)))]
def wSeat (G : JG) (a : Nat → Nat) (h : Nat) (s : JV) : va_W := [(a 0, .inr (3, [.ref h, .ref (a 1), .ref (a 2), .ref (a 3), .int (s 4 0), .int (s 5 0), .ref (a 4), .ref (a 5), .ref (a 6)])), (a 1, .inl (G.2 0, 96, .inl (s 1))), (a 2, .inl (G.2 0, 96, .inl (s 2))), (a 3, .inl (G.2 0, 96, .inl (s 3))), (a 4, .inl (G.2 0, 64, .inl (s 6))), (a 5, .inl (G.2 0, 64, .inl (s 7))), (a 6, .inl (G.2 0, 6, .inl (s 8)))]
def wPad (G : JG) (a : Nat → Nat) (s : JV) : va_W := [(a 0, .inr (1, [.ref (a 1), .int (s 1 0), .ref (a 2), .ref (a 3), .ref (a 4), .int (s 5 0), .int (s 6 0), .int (s 7 0), .int (s 8 0), .int (s 9 0)])), (a 1, .inl (G.2 0, 60, .inl (s 0))), (a 2, .inl (G.2 0, 30, .inl (s 2))), (a 3, .inl (G.2 0, 30, .inl (s 3))), (a 4, .inl (G.2 1, 30, .inl (s 4)))]
def wMod (G : JG) (a : Nat → Nat) (s : JV) : va_W := [(a 0, .inr (5, [.ref (a 1), .ref (a 2), .ref (a 3), .ref (a 4), .ref (a 5), .ref (a 6), .ref (a 7), .ref (a 8), .ref (a 9), .int (s 9 0), .int (s 10 0), .int (s 11 0), .int (s 12 0), .int (s 13 0)])), (a 1, .inl (G.2 0, 76, .inl (s 0))), (a 2, .inl (G.2 0, 76, .inl (s 1))), (a 3, .inl (G.2 0, 76, .inl (s 2))), (a 4, .inl (G.2 0, 456, .inl (s 3))), (a 5, .inl (G.2 0, 152, .inl (s 4))), (a 6, .inl (G.2 1, 2, .inl (s 5))), (a 7, .inl (G.2 0, 96, .inl (s 6))), (a 8, .inl (G.2 0, 96, .inl (s 7))), (a 9, .inl (G.2 2, 60, .inl (s 8)))]
def wSlots (G : JG) (b : Nat) (sa : Nat → Nat → Nat) (sv : Nat → JV) : va_W := (b, .inl (G.2 3, 2, .inr (.inr (.inr (.inr (fun i => some (sa i 0))))))) :: (wSch G (sa 0) (sv 0) ++ wSch G (sa 1) (sv 1))
def wUsed (G : JG) (b : Nat) (s : JV) : va_W := [(b, .inl (G.2 1, 2, .inl (s 0)))]
def wHis (G : JG) (h : Nat → Nat) (ha : Nat → Nat → Nat) (hv : Nat → JV) (hz : JV) : va_W := (h 0, .inr (0, [.ref (h 1), .int (hz 1 0)])) :: (h 1, .inl (G.2 3, 6, .inr (.inr (.inr (.inr (fun i => some (ha i 0))))))) :: (wSch G (ha 0) (hv 0) ++ (wSch G (ha 1) (hv 1) ++ (wSch G (ha 2) (hv 2) ++ (wSch G (ha 3) (hv 3) ++ (wSch G (ha 4) (hv 4) ++ wSch G (ha 5) (hv 5))))))
def wEx (x t t2 s s2 p h b u : Nat) : va_W := [(x, .inr (4, [.ref t, .ref s, .ref t2, .ref s2, .ref p, .ref h, .ref b, .ref u]))]

def T_X4_isWithin : List (Nat × ClassFile.Instr × Nat) := [(0, .iload_n 0, 1), (1, .iload_n 1, 1), (2, .if_icmp .lt 12, 3), (5, .iload_n 0, 1), (6, .iload_n 2, 1), (7, .if_icmp .gt 7, 3), (10, .iconst 1, 1), (11, .goto 4, 3), (14, .iconst 0, 1), (15, .ireturn, 1)]
theorem D_X4_isWithin : ∀ q ∈ T_X4_isWithin, decode cX4_isWithin q.1 = .ok q.2 := by decide +kernel
theorem V_X4_isWithin : Vy yX4_isWithin cX4_isWithin 3 (some .boolean) 3 := ⟨k65, k68, by decide +kernel⟩
theorem t_X4_isWithin : Cond.static yX4_isWithin ∈ TB := k67
noncomputable def f_X4_isWithin  (x0 : Int32) (x1 : Int32) (x2 : Int32) : Option (Int32) :=
  (if x0 < x1 then some (0 : Int32) else (if x2 < x0 then some (0 : Int32) else some (1 : Int32)))
set_option maxRecDepth 100000 in
set_option maxHeartbeats 4000000 in
theorem c_X4_isWithin {l : Launch} {G : JG}   (x0 : Int32) (x1 : Int32) (x2 : Int32) {Rz : Int32} (h : f_X4_isWithin x0 x1 x2 = some Rz) : JM l G yX4_isWithin cX4_isWithin 3 (some .boolean) 0 0 [.int x0, .int x1, .int x2] ([] : va_W) ([] : va_W) (some (.int Rz)) := by
  refine JM.of (own := RX4) (tb := T_X4_isWithin) (by decide) (Nat.le_of_ble_eq_true rfl) D_X4_isWithin rfl (fun X C => ?_)
  refine J_sub (lv' := [(0, .int x0), (1, .int x1), (2, .int x2)]) [0, 1, 2] rfl ?_
  unfold f_X4_isWithin at h
  refine J_iload_n (pc := 0) C 0 rfl 0 rfl rfl ?_
  refine J_iload_n (pc := 1) C 1 rfl 1 rfl rfl ?_
  refine J_icmp_lt (pc := 2) (tgt := 14) C 2 rfl rfl (fun c1 => ?_) (fun c1 => ?_)
  · rw [if_pos c1] at h
    refine J_iconst (pc := 14) (v := (0 : Int32)) C 8 rfl rfl ?_
    cases h
    exact J_zret (pc := 15) C 9 rfl rfl
  · rw [if_neg c1] at h
    refine J_iload_n (pc := 5) C 3 rfl 0 rfl rfl ?_
    refine J_iload_n (pc := 6) C 4 rfl 2 rfl rfl ?_
    refine J_icmp_gt (pc := 7) (tgt := 14) C 5 rfl rfl (fun c2 => ?_) (fun c2 => ?_)
    · rw [if_pos c2] at h
      refine J_iconst (pc := 14) (v := (0 : Int32)) C 8 rfl rfl ?_
      cases h
      exact J_zret (pc := 15) C 9 rfl rfl
    · rw [if_neg c2] at h
      refine J_iconst (pc := 10) (v := (1 : Int32)) C 6 rfl rfl ?_
      refine J_goto (pc := 11) (tgt := 15) C 7 rfl rfl ?_
      cases h
      exact J_zret (pc := 15) C 9 rfl rfl
def T_X4_isPaper : List (Nat × ClassFile.Instr × Nat) := [(0, .iload_n 0, 1), (1, .iconst 0, 1), (2, .iconst 5, 1), (3, .invokestatic 55, 3), (6, .ireturn, 1)]
theorem D_X4_isPaper : ∀ q ∈ T_X4_isPaper, decode cX4_isPaper q.1 = .ok q.2 := by decide +kernel
theorem V_X4_isPaper : Vy yX4_isPaper cX4_isPaper 1 (some .boolean) 1 := ⟨k69, k68, by decide +kernel⟩
theorem t_X4_isPaper : Cond.static yX4_isPaper ∈ TB := k72
noncomputable def f_X4_isPaper  (x0 : Int32) : Option (Int32) :=
  (f_X4_isWithin x0 (0 : Int32) (5 : Int32)).bind (fun q1 => gd (isb q1) (some q1))
set_option maxRecDepth 100000 in
set_option maxHeartbeats 4000000 in
theorem c_X4_isPaper {l : Launch} {G : JG}   (x0 : Int32) {Rz : Int32} (h : f_X4_isPaper x0 = some Rz) : JM l G yX4_isPaper cX4_isPaper 1 (some .boolean) 1 22 [.int x0] ([] : va_W) ([] : va_W) (some (.int Rz)) := by
  refine JM.of (own := RX4) (tb := T_X4_isPaper) (by decide) (Nat.le_of_ble_eq_true rfl) D_X4_isPaper rfl (fun X C => ?_)
  refine J_sub (lv' := [(0, .int x0)]) [0] rfl ?_
  unfold f_X4_isPaper at h
  refine J_iload_n (pc := 0) C 0 rfl 0 rfl rfl ?_
  refine J_iconst (pc := 1) (v := (0 : Int32)) C 1 rfl rfl ?_
  refine J_iconst (pc := 2) (v := (5 : Int32)) C 2 rfl rfl ?_
  obtain ⟨q1, hq1, h⟩ := bnd h
  refine J_callS (pc := 3) (st2 := []) (st3 := [.int q1]) (ws2 := ([] : va_W)) C 3 rfl (c_X4_isWithin x0 (0 : Int32) (5 : Int32) hq1) V_X4_isWithin k70 t_X4_isWithin rfl rfl ⟨Nat.le_of_ble_eq_true rfl, Nat.le_of_ble_eq_true rfl⟩ (Nat.le_of_ble_eq_true rfl) ⟨Nat.le_refl _, Nat.le_refl _⟩ [] rfl rfl rfl rfl rfl ?_
  obtain ⟨g2, h⟩ := gd_some h
  cases h
  exact J_zret (pc := 6) C 4 rfl g2
def T_X4_isStart : List (Nat × ClassFile.Instr × Nat) := [(0, .iload_n 0, 1), (1, .iconst 0, 1), (2, .bipush 19, 2), (4, .invokestatic 55, 3), (7, .ireturn, 1)]
theorem D_X4_isStart : ∀ q ∈ T_X4_isStart, decode cX4_isStart q.1 = .ok q.2 := by decide +kernel
theorem V_X4_isStart : Vy yX4_isStart cX4_isStart 1 (some .boolean) 1 := ⟨k268, k68, by decide +kernel⟩
theorem t_X4_isStart : Cond.static yX4_isStart ∈ TB := k273
noncomputable def f_X4_isStart  (x0 : Int32) : Option (Int32) :=
  (f_X4_isWithin x0 (0 : Int32) (19 : Int32)).bind (fun q1 => gd (isb q1) (some q1))
set_option maxRecDepth 100000 in
set_option maxHeartbeats 4000000 in
theorem c_X4_isStart {l : Launch} {G : JG}   (x0 : Int32) {Rz : Int32} (h : f_X4_isStart x0 = some Rz) : JM l G yX4_isStart cX4_isStart 1 (some .boolean) 1 22 [.int x0] ([] : va_W) ([] : va_W) (some (.int Rz)) := by
  refine JM.of (own := RX4) (tb := T_X4_isStart) (by decide) (Nat.le_of_ble_eq_true rfl) D_X4_isStart rfl (fun X C => ?_)
  refine J_sub (lv' := [(0, .int x0)]) [0] rfl ?_
  unfold f_X4_isStart at h
  refine J_iload_n (pc := 0) C 0 rfl 0 rfl rfl ?_
  refine J_iconst (pc := 1) (v := (0 : Int32)) C 1 rfl rfl ?_
  refine J_bipush (pc := 2) (v := (19 : Int32)) C 2 rfl rfl ?_
  obtain ⟨q1, hq1, h⟩ := bnd h
  refine J_callS (pc := 4) (st2 := []) (st3 := [.int q1]) (ws2 := ([] : va_W)) C 3 rfl (c_X4_isWithin x0 (0 : Int32) (19 : Int32) hq1) V_X4_isWithin k70 t_X4_isWithin rfl rfl ⟨Nat.le_of_ble_eq_true rfl, Nat.le_of_ble_eq_true rfl⟩ (Nat.le_of_ble_eq_true rfl) ⟨Nat.le_refl _, Nat.le_refl _⟩ [] rfl rfl rfl rfl rfl ?_
  obtain ⟨g2, h⟩ := gd_some h
  cases h
  exact J_zret (pc := 7) C 4 rfl g2
def T_X4_isHall : List (Nat × ClassFile.Instr × Nat) := [(0, .iload_n 0, 1), (1, .iconst 0, 1), (2, .iconst 3, 1), (3, .invokestatic 55, 3), (6, .ireturn, 1)]
theorem D_X4_isHall : ∀ q ∈ T_X4_isHall, decode cX4_isHall q.1 = .ok q.2 := by decide +kernel
theorem V_X4_isHall : Vy yX4_isHall cX4_isHall 1 (some .boolean) 1 := ⟨k304, k68, by decide +kernel⟩
theorem t_X4_isHall : Cond.static yX4_isHall ∈ TB := k308
noncomputable def f_X4_isHall  (x0 : Int32) : Option (Int32) :=
  (f_X4_isWithin x0 (0 : Int32) (3 : Int32)).bind (fun q1 => gd (isb q1) (some q1))
set_option maxRecDepth 100000 in
set_option maxHeartbeats 4000000 in
theorem c_X4_isHall {l : Launch} {G : JG}   (x0 : Int32) {Rz : Int32} (h : f_X4_isHall x0 = some Rz) : JM l G yX4_isHall cX4_isHall 1 (some .boolean) 1 22 [.int x0] ([] : va_W) ([] : va_W) (some (.int Rz)) := by
  refine JM.of (own := RX4) (tb := T_X4_isHall) (by decide) (Nat.le_of_ble_eq_true rfl) D_X4_isHall rfl (fun X C => ?_)
  refine J_sub (lv' := [(0, .int x0)]) [0] rfl ?_
  unfold f_X4_isHall at h
  refine J_iload_n (pc := 0) C 0 rfl 0 rfl rfl ?_
  refine J_iconst (pc := 1) (v := (0 : Int32)) C 1 rfl rfl ?_
  refine J_iconst (pc := 2) (v := (3 : Int32)) C 2 rfl rfl ?_
  obtain ⟨q1, hq1, h⟩ := bnd h
  refine J_callS (pc := 3) (st2 := []) (st3 := [.int q1]) (ws2 := ([] : va_W)) C 3 rfl (c_X4_isWithin x0 (0 : Int32) (3 : Int32) hq1) V_X4_isWithin k70 t_X4_isWithin rfl rfl ⟨Nat.le_of_ble_eq_true rfl, Nat.le_of_ble_eq_true rfl⟩ (Nat.le_of_ble_eq_true rfl) ⟨Nat.le_refl _, Nat.le_refl _⟩ [] rfl rfl rfl rfl rfl ?_
  obtain ⟨g2, h⟩ := gd_some h
  cases h
  exact J_zret (pc := 6) C 4 rfl g2
def T_X4_isSlot : List (Nat × ClassFile.Instr × Nat) := [(0, .iload_n 0, 1), (1, .iconst 0, 1), (2, .iconst 1, 1), (3, .invokestatic 55, 3), (6, .ireturn, 1)]
theorem D_X4_isSlot : ∀ q ∈ T_X4_isSlot, decode cX4_isSlot q.1 = .ok q.2 := by decide +kernel
theorem V_X4_isSlot : Vy yX4_isSlot cX4_isSlot 1 (some .boolean) 1 := ⟨k392, k68, by decide +kernel⟩
theorem t_X4_isSlot : Cond.static yX4_isSlot ∈ TB := k394
noncomputable def f_X4_isSlot  (x0 : Int32) : Option (Int32) :=
  (f_X4_isWithin x0 (0 : Int32) (1 : Int32)).bind (fun q1 => gd (isb q1) (some q1))
set_option maxRecDepth 100000 in
set_option maxHeartbeats 4000000 in
theorem c_X4_isSlot {l : Launch} {G : JG}   (x0 : Int32) {Rz : Int32} (h : f_X4_isSlot x0 = some Rz) : JM l G yX4_isSlot cX4_isSlot 1 (some .boolean) 1 22 [.int x0] ([] : va_W) ([] : va_W) (some (.int Rz)) := by
  refine JM.of (own := RX4) (tb := T_X4_isSlot) (by decide) (Nat.le_of_ble_eq_true rfl) D_X4_isSlot rfl (fun X C => ?_)
  refine J_sub (lv' := [(0, .int x0)]) [0] rfl ?_
  unfold f_X4_isSlot at h
  refine J_iload_n (pc := 0) C 0 rfl 0 rfl rfl ?_
  refine J_iconst (pc := 1) (v := (0 : Int32)) C 1 rfl rfl ?_
  refine J_iconst (pc := 2) (v := (1 : Int32)) C 2 rfl rfl ?_
  obtain ⟨q1, hq1, h⟩ := bnd h
  refine J_callS (pc := 3) (st2 := []) (st3 := [.int q1]) (ws2 := ([] : va_W)) C 3 rfl (c_X4_isWithin x0 (0 : Int32) (1 : Int32) hq1) V_X4_isWithin k70 t_X4_isWithin rfl rfl ⟨Nat.le_of_ble_eq_true rfl, Nat.le_of_ble_eq_true rfl⟩ (Nat.le_of_ble_eq_true rfl) ⟨Nat.le_refl _, Nat.le_refl _⟩ [] rfl rfl rfl rfl rfl ?_
  obtain ⟨g2, h⟩ := gd_some h
  cases h
  exact J_zret (pc := 6) C 4 rfl g2
def T_X4_isPupilData : List (Nat × ClassFile.Instr × Nat) := [(0, .iload_n 0, 1), (1, .iconst 1, 1), (2, .bipush 63, 2), (4, .invokestatic 55, 3), (7, .ifCond .eq 17, 3), (10, .iload_n 1, 1), (11, .iconst 0, 1), (12, .bipush 100, 2), (14, .invokestatic 55, 3), (17, .ifCond .eq 7, 3), (20, .iconst 1, 1), (21, .goto 4, 3), (24, .iconst 0, 1), (25, .ireturn, 1)]
theorem D_X4_isPupilData : ∀ q ∈ T_X4_isPupilData, decode cX4_isPupilData q.1 = .ok q.2 := by decide +kernel
theorem V_X4_isPupilData : Vy yX4_isPupilData cX4_isPupilData 2 (some .boolean) 2 := ⟨k275, k68, by decide +kernel⟩
theorem t_X4_isPupilData : Cond.static yX4_isPupilData ∈ TB := k278
noncomputable def f_X4_isPupilData  (x0 : Int32) (x1 : Int32) : Option (Int32) :=
  (f_X4_isWithin x0 (1 : Int32) (63 : Int32)).bind (fun q1 => (if q1 = 0 then some (0 : Int32) else (f_X4_isWithin x1 (0 : Int32) (100 : Int32)).bind (fun q3 => (if q3 = 0 then some (0 : Int32) else some (1 : Int32)))))
set_option maxRecDepth 100000 in
set_option maxHeartbeats 4000000 in
theorem c_X4_isPupilData {l : Launch} {G : JG}   (x0 : Int32) (x1 : Int32) {Rz : Int32} (h : f_X4_isPupilData x0 x1 = some Rz) : JM l G yX4_isPupilData cX4_isPupilData 2 (some .boolean) 1 22 [.int x0, .int x1] ([] : va_W) ([] : va_W) (some (.int Rz)) := by
  refine JM.of (own := RX4) (tb := T_X4_isPupilData) (by decide) (Nat.le_of_ble_eq_true rfl) D_X4_isPupilData rfl (fun X C => ?_)
  refine J_sub (lv' := [(0, .int x0), (1, .int x1)]) [0, 1] rfl ?_
  unfold f_X4_isPupilData at h
  refine J_iload_n (pc := 0) C 0 rfl 0 rfl rfl ?_
  refine J_iconst (pc := 1) (v := (1 : Int32)) C 1 rfl rfl ?_
  refine J_bipush (pc := 2) (v := (63 : Int32)) C 2 rfl rfl ?_
  obtain ⟨q1, hq1, h⟩ := bnd h
  refine J_callS (pc := 4) (st2 := []) (st3 := [.int q1]) (ws2 := ([] : va_W)) C 3 rfl (c_X4_isWithin x0 (1 : Int32) (63 : Int32) hq1) V_X4_isWithin k70 t_X4_isWithin rfl rfl ⟨Nat.le_of_ble_eq_true rfl, Nat.le_of_ble_eq_true rfl⟩ (Nat.le_of_ble_eq_true rfl) ⟨Nat.le_refl _, Nat.le_refl _⟩ [] rfl rfl rfl rfl rfl ?_
  refine J_if_eq (pc := 7) (tgt := 24) C 4 rfl rfl (fun c2 => ?_) (fun c2 => ?_)
  · rw [if_pos c2] at h
    refine J_iconst (pc := 24) (v := (0 : Int32)) C 12 rfl rfl ?_
    cases h
    exact J_zret (pc := 25) C 13 rfl rfl
  · rw [if_neg c2] at h
    refine J_iload_n (pc := 10) C 5 rfl 1 rfl rfl ?_
    refine J_iconst (pc := 11) (v := (0 : Int32)) C 6 rfl rfl ?_
    refine J_bipush (pc := 12) (v := (100 : Int32)) C 7 rfl rfl ?_
    obtain ⟨q3, hq3, h⟩ := bnd h
    refine J_callS (pc := 14) (st2 := []) (st3 := [.int q3]) (ws2 := ([] : va_W)) C 8 rfl (c_X4_isWithin x1 (0 : Int32) (100 : Int32) hq3) V_X4_isWithin k70 t_X4_isWithin rfl rfl ⟨Nat.le_of_ble_eq_true rfl, Nat.le_of_ble_eq_true rfl⟩ (Nat.le_of_ble_eq_true rfl) ⟨Nat.le_refl _, Nat.le_refl _⟩ [] rfl rfl rfl rfl rfl ?_
    refine J_if_eq (pc := 17) (tgt := 24) C 9 rfl rfl (fun c4 => ?_) (fun c4 => ?_)
    · rw [if_pos c4] at h
      refine J_iconst (pc := 24) (v := (0 : Int32)) C 12 rfl rfl ?_
      cases h
      exact J_zret (pc := 25) C 13 rfl rfl
    · rw [if_neg c4] at h
      refine J_iconst (pc := 20) (v := (1 : Int32)) C 10 rfl rfl ?_
      refine J_goto (pc := 21) (tgt := 25) C 11 rfl rfl ?_
      cases h
      exact J_zret (pc := 25) C 13 rfl rfl
def T_X4_charactersIn : List (Nat × ClassFile.Instr × Nat) := [(0, .iconst 0, 1), (1, .istore_n 2, 1), (2, .iload_n 2, 1), (3, .bipush 8, 2), (5, .if_icmp .ge 42, 3), (8, .lload_n 0, 1), (9, .bipush 8, 2), (11, .iload_n 2, 1), (12, .imul, 1), (13, .lushr, 1), (14, .lstore_n 3, 1), (15, .lload_n 3, 1), (16, .lconst 0, 1), (17, .lcmp, 1), (18, .ifCond .ne 5, 3), (21, .iload_n 2, 1), (22, .ireturn, 1), (23, .lload_n 3, 1), (24, .ldc2_w 250, 3), (27, .land, 1), (28, .l2i, 1), (29, .bipush 33, 2), (31, .bipush 126, 2), (33, .invokestatic 55, 3), (36, .ifCond .ne 5, 3), (39, .iconst 0, 1), (40, .ireturn, 1), (41, .iinc 2 1, 3), (44, .goto (-42), 3), (47, .bipush 8, 2), (49, .ireturn, 1)]
theorem D_X4_charactersIn : ∀ q ∈ T_X4_charactersIn, decode cX4_charactersIn q.1 = .ok q.2 := by decide +kernel
theorem V_X4_charactersIn : Vy yX4_charactersIn cX4_charactersIn 5 (some .int) 1 := ⟨k378, k68, by decide +kernel⟩
theorem t_X4_charactersIn : Cond.static yX4_charactersIn ∈ TB := k382
noncomputable def f_X4_charactersIn_b2  (x0 : Int64) (r2 : Int32 → Option (Int32)) (x2 : Int32) : Option (Int32) :=
  (if (8 : Int32) ≤ x2 then some (8 : Int32) else (if (lg_cmp (UInt64.toInt64 (Int64.toUInt64 x0 >>> (Int64.toUInt64 (Int32.toInt64 ((8 : Int32) * x2)) &&& Int64.toUInt64 63))) (0 : Int64)) = 0 then some x2 else (f_X4_isWithin (Int64.toInt32 ((UInt64.toInt64 (Int64.toUInt64 x0 >>> (Int64.toUInt64 (Int32.toInt64 ((8 : Int32) * x2)) &&& Int64.toUInt64 63))) &&& (255 : Int64))) (33 : Int32) (126 : Int32)).bind (fun q3 => (if q3 = 0 then some (0 : Int32) else r2 (x2 + (1 : Int32))))))
noncomputable def f_X4_charactersIn_L2  (x0 : Int64) (n : Nat) (x2 : Int32) : Option (Int32) :=
  lp (fun (rec : Int32 → Option (Int32)) a => f_X4_charactersIn_b2  x0 (fun x2 => rec x2) a) n x2
noncomputable def f_X4_charactersIn  (x0 : Int64) : Option (Int32) :=
  f_X4_charactersIn_L2  x0 FU (0 : Int32)
set_option maxRecDepth 100000 in
set_option maxHeartbeats 4000000 in
theorem c_X4_charactersIn {l : Launch} {G : JG}   (x0 : Int64) {Rz : Int32} (h : f_X4_charactersIn x0 = some Rz) : JM l G yX4_charactersIn cX4_charactersIn 5 (some .int) 1 22 [.long x0] ([] : va_W) ([] : va_W) (some (.int Rz)) := by
  refine JM.of (own := RX4) (tb := T_X4_charactersIn) (by decide) (Nat.le_of_ble_eq_true rfl) D_X4_charactersIn rfl (fun X C => ?_)
  refine J_sub (lv' := [(0, .long x0)]) [0] rfl ?_
  have B2 : ∀ (x0 : Int64) (n2 : Nat) (x2 : Int32), f_X4_charactersIn_L2  x0 n2 x2 = some Rz → J l { frames := 1, cells := 0, slots := 0, locals := 22 } G 5 X (QM X G 0 0 (some (.int Rz)) ([] : va_W)) 0 0 2 [(0, .long x0), (2, .int x2)] [] ([] : va_W) := by
    intro x0 n2
    induction n2 with
    | zero =>
      intro x2 h
      exact (no_none rfl h).elim
    | succ n2 ih2 =>
      intro x2 h
      replace h : f_X4_charactersIn_b2  x0 (fun x2 => f_X4_charactersIn_L2  x0 n2 x2) x2 = some Rz := h
      unfold f_X4_charactersIn_b2 at h
      refine J_iload_n (pc := 2) C 2 rfl 1 rfl rfl ?_
      refine J_bipush (pc := 3) (v := (8 : Int32)) C 3 rfl rfl ?_
      refine J_icmp_ge (pc := 5) (tgt := 47) C 4 rfl rfl (fun c1 => ?_) (fun c1 => ?_)
      · rw [if_pos c1] at h
        refine J_bipush (pc := 47) (v := (8 : Int32)) C 29 rfl rfl ?_
        cases h
        exact J_iret (pc := 49) C 30 rfl
      · rw [if_neg c1] at h
        refine J_lload_n (pc := 8) C 5 rfl 0 rfl rfl ?_
        refine J_bipush (pc := 9) (v := (8 : Int32)) C 6 rfl rfl ?_
        refine J_iload_n (pc := 11) C 7 rfl 1 rfl rfl ?_
        refine J_imul (pc := 12) C 8 rfl  ?_
        refine J_lushr (pc := 13) C 9 rfl  ?_
        refine J_lstore_n (pc := 14) (lv' := [(3, .long (UInt64.toInt64 (Int64.toUInt64 x0 >>> (Int64.toUInt64 (Int32.toInt64 ((8 : Int32) * x2)) &&& Int64.toUInt64 63)))), (0, .long x0), (2, .int x2)]) C 10 rfl rfl (by decide) rfl ?_
        refine J_lload_n (pc := 15) C 11 rfl 0 rfl rfl ?_
        refine J_lconst (pc := 16) (v := (0 : Int64)) C 12 rfl rfl ?_
        refine J_lcmp (pc := 17) C 13 rfl  ?_
        refine J_if_ne (pc := 18) (tgt := 23) C 14 rfl rfl (fun c2 => ?_) (fun c2 => ?_)
        · rw [if_neg c2] at h
          refine J_lload_n (pc := 23) C 17 rfl 0 rfl rfl ?_
          refine J_ldc2 (pc := 24) (v := (255 : Int64)) C 18 rfl k379 ?_
          refine J_land (pc := 27) C 19 rfl  ?_
          refine J_l2i (pc := 28) C 20 rfl  ?_
          refine J_bipush (pc := 29) (v := (33 : Int32)) C 21 rfl rfl ?_
          refine J_bipush (pc := 31) (v := (126 : Int32)) C 22 rfl rfl ?_
          obtain ⟨q3, hq3, h⟩ := bnd h
          refine J_callS (pc := 33) (st2 := []) (st3 := [.int q3]) (ws2 := ([] : va_W)) C 23 rfl (c_X4_isWithin (Int64.toInt32 ((UInt64.toInt64 (Int64.toUInt64 x0 >>> (Int64.toUInt64 (Int32.toInt64 ((8 : Int32) * x2)) &&& Int64.toUInt64 63))) &&& (255 : Int64))) (33 : Int32) (126 : Int32) hq3) V_X4_isWithin k70 t_X4_isWithin rfl rfl ⟨Nat.le_of_ble_eq_true rfl, Nat.le_of_ble_eq_true rfl⟩ (Nat.le_of_ble_eq_true rfl) ⟨Nat.le_refl _, Nat.le_refl _⟩ [] rfl rfl rfl rfl rfl ?_
          refine J_if_ne (pc := 36) (tgt := 41) C 24 rfl rfl (fun c4 => ?_) (fun c4 => ?_)
          · rw [if_neg c4] at h
            refine J_iinc (pc := 41) (v := (x2 + (1 : Int32))) (lv' := [(2, .int (x2 + (1 : Int32))), (3, .long (UInt64.toInt64 (Int64.toUInt64 x0 >>> (Int64.toUInt64 (Int32.toInt64 ((8 : Int32) * x2)) &&& Int64.toUInt64 63)))), (0, .long x0)]) C 27 rfl 2 rfl rfl (by decide) rfl ?_
            refine J_goto (pc := 44) (tgt := 2) C 28 rfl rfl ?_
            exact J_sub [2, 0] rfl (ih2 (x2 + (1 : Int32)) h)
          · rw [if_pos c4] at h
            refine J_iconst (pc := 39) (v := (0 : Int32)) C 25 rfl rfl ?_
            cases h
            exact J_iret (pc := 40) C 26 rfl
        · rw [if_pos c2] at h
          refine J_iload_n (pc := 21) C 15 rfl 2 rfl rfl ?_
          cases h
          exact J_iret (pc := 22) C 16 rfl
  unfold f_X4_charactersIn at h
  refine J_iconst (pc := 0) (v := (0 : Int32)) C 0 rfl rfl ?_
  refine J_istore_n (pc := 1) (lv' := [(2, .int (0 : Int32)), (0, .long x0)]) C 1 rfl rfl (by decide) rfl ?_
  exact J_sub [1, 0] rfl (B2 x0 FU (0 : Int32) h)
def T_X4_sittingNumber : List (Nat × ClassFile.Instr × Nat) := [(0, .bipush 6, 2), (2, .iload_n 0, 1), (3, .imul, 1), (4, .iload_n 1, 1), (5, .iadd, 1), (6, .ireturn, 1)]
theorem D_X4_sittingNumber : ∀ q ∈ T_X4_sittingNumber, decode cX4_sittingNumber q.1 = .ok q.2 := by decide +kernel
theorem V_X4_sittingNumber : Vy yX4_sittingNumber cX4_sittingNumber 2 (some .int) 2 := ⟨k179, k68, by decide +kernel⟩
theorem t_X4_sittingNumber : Cond.static yX4_sittingNumber ∈ TB := k184
noncomputable def f_X4_sittingNumber  (x0 : Int32) (x1 : Int32) : Option (Int32) :=
  some (((6 : Int32) * x0) + x1)
set_option maxRecDepth 100000 in
set_option maxHeartbeats 4000000 in
theorem c_X4_sittingNumber {l : Launch} {G : JG}   (x0 : Int32) (x1 : Int32) {Rz : Int32} (h : f_X4_sittingNumber x0 x1 = some Rz) : JM l G yX4_sittingNumber cX4_sittingNumber 2 (some .int) 0 0 [.int x0, .int x1] ([] : va_W) ([] : va_W) (some (.int Rz)) := by
  refine JM.of (own := RX4) (tb := T_X4_sittingNumber) (by decide) (Nat.le_of_ble_eq_true rfl) D_X4_sittingNumber rfl (fun X C => ?_)
  refine J_sub (lv' := [(0, .int x0), (1, .int x1)]) [0, 1] rfl ?_
  unfold f_X4_sittingNumber at h
  refine J_bipush (pc := 0) (v := (6 : Int32)) C 0 rfl rfl ?_
  refine J_iload_n (pc := 2) C 1 rfl 0 rfl rfl ?_
  refine J_imul (pc := 3) C 2 rfl  ?_
  refine J_iload_n (pc := 4) C 3 rfl 1 rfl rfl ?_
  refine J_iadd (pc := 5) C 4 rfl  ?_
  cases h
  exact J_iret (pc := 6) C 5 rfl
def T_X4_contains : List (Nat × ClassFile.Instr × Nat) := [(0, .iload_n 0, 1), (1, .iload_n 1, 1), (2, .ishr, 1), (3, .iconst 1, 1), (4, .iand, 1), (5, .iconst 1, 1), (6, .if_icmp .ne 7, 3), (9, .iconst 1, 1), (10, .goto 4, 3), (13, .iconst 0, 1), (14, .ireturn, 1)]
theorem D_X4_contains : ∀ q ∈ T_X4_contains, decode cX4_contains q.1 = .ok q.2 := by decide +kernel
theorem V_X4_contains : Vy yX4_contains cX4_contains 2 (some .boolean) 2 := ⟨k99, k68, by decide +kernel⟩
theorem t_X4_contains : Cond.static yX4_contains ∈ TB := k101
noncomputable def f_X4_contains  (x0 : Int32) (x1 : Int32) : Option (Int32) :=
  (if ((x0 >>> (x1 &&& 31)) &&& (1 : Int32)) = (1 : Int32) then some (1 : Int32) else some (0 : Int32))
set_option maxRecDepth 100000 in
set_option maxHeartbeats 4000000 in
theorem c_X4_contains {l : Launch} {G : JG}   (x0 : Int32) (x1 : Int32) {Rz : Int32} (h : f_X4_contains x0 x1 = some Rz) : JM l G yX4_contains cX4_contains 2 (some .boolean) 0 0 [.int x0, .int x1] ([] : va_W) ([] : va_W) (some (.int Rz)) := by
  refine JM.of (own := RX4) (tb := T_X4_contains) (by decide) (Nat.le_of_ble_eq_true rfl) D_X4_contains rfl (fun X C => ?_)
  refine J_sub (lv' := [(0, .int x0), (1, .int x1)]) [0, 1] rfl ?_
  unfold f_X4_contains at h
  refine J_iload_n (pc := 0) C 0 rfl 0 rfl rfl ?_
  refine J_iload_n (pc := 1) C 1 rfl 1 rfl rfl ?_
  refine J_ishr (pc := 2) C 2 rfl  ?_
  refine J_iconst (pc := 3) (v := (1 : Int32)) C 3 rfl rfl ?_
  refine J_iand (pc := 4) C 4 rfl  ?_
  refine J_iconst (pc := 5) (v := (1 : Int32)) C 5 rfl rfl ?_
  refine J_icmp_ne (pc := 6) (tgt := 13) C 6 rfl rfl (fun c1 => ?_) (fun c1 => ?_)
  · rw [if_neg c1] at h
    refine J_iconst (pc := 13) (v := (0 : Int32)) C 9 rfl rfl ?_
    cases h
    exact J_zret (pc := 14) C 10 rfl rfl
  · rw [if_pos c1] at h
    refine J_iconst (pc := 9) (v := (1 : Int32)) C 7 rfl rfl ?_
    refine J_goto (pc := 10) (tgt := 14) C 8 rfl rfl ?_
    cases h
    exact J_zret (pc := 14) C 10 rfl rfl
def T_J6_bitCount_0f7a4 : List (Nat × ClassFile.Instr × Nat) := [(0, .iload_n 0, 1), (1, .iload_n 0, 1), (2, .iconst 1, 1), (3, .iushr, 1), (4, .ldc_w 265, 3), (7, .iand, 1), (8, .isub, 1), (9, .istore_n 0, 1), (10, .iload_n 0, 1), (11, .ldc_w 266, 3), (14, .iand, 1), (15, .iload_n 0, 1), (16, .iconst 2, 1), (17, .iushr, 1), (18, .ldc_w 266, 3), (21, .iand, 1), (22, .iadd, 1), (23, .istore_n 0, 1), (24, .iload_n 0, 1), (25, .iload_n 0, 1), (26, .iconst 4, 1), (27, .iushr, 1), (28, .iadd, 1), (29, .ldc_w 267, 3), (32, .iand, 1), (33, .istore_n 0, 1), (34, .iload_n 0, 1), (35, .iload_n 0, 1), (36, .bipush 8, 2), (38, .iushr, 1), (39, .iadd, 1), (40, .istore_n 0, 1), (41, .iload_n 0, 1), (42, .iload_n 0, 1), (43, .bipush 16, 2), (45, .iushr, 1), (46, .iadd, 1), (47, .istore_n 0, 1), (48, .iload_n 0, 1), (49, .bipush 63, 2), (51, .iand, 1), (52, .ireturn, 1)]
theorem D_J6_bitCount_0f7a4 : ∀ q ∈ T_J6_bitCount_0f7a4, decode cJ6_bitCount_0f7a4 q.1 = .ok q.2 := by decide +kernel
theorem V_J6_bitCount_0f7a4 : Vy yJ6_bitCount_0f7a4 cJ6_bitCount_0f7a4 1 (some .int) 1 := ⟨k115, k122, by decide +kernel⟩
theorem t_J6_bitCount_0f7a4 : Cond.static yJ6_bitCount_0f7a4 ∈ TB := k121
noncomputable def f_J6_bitCount_0f7a4  (x0 : Int32) : Option (Int32) :=
  some ((((((((x0 - ((UInt32.toInt32 (Int32.toUInt32 x0 >>> (Int32.toUInt32 (1 : Int32) &&& Int32.toUInt32 31))) &&& (1431655765 : Int32))) &&& (858993459 : Int32)) + ((UInt32.toInt32 (Int32.toUInt32 (x0 - ((UInt32.toInt32 (Int32.toUInt32 x0 >>> (Int32.toUInt32 (1 : Int32) &&& Int32.toUInt32 31))) &&& (1431655765 : Int32))) >>> (Int32.toUInt32 (2 : Int32) &&& Int32.toUInt32 31))) &&& (858993459 : Int32))) + (UInt32.toInt32 (Int32.toUInt32 (((x0 - ((UInt32.toInt32 (Int32.toUInt32 x0 >>> (Int32.toUInt32 (1 : Int32) &&& Int32.toUInt32 31))) &&& (1431655765 : Int32))) &&& (858993459 : Int32)) + ((UInt32.toInt32 (Int32.toUInt32 (x0 - ((UInt32.toInt32 (Int32.toUInt32 x0 >>> (Int32.toUInt32 (1 : Int32) &&& Int32.toUInt32 31))) &&& (1431655765 : Int32))) >>> (Int32.toUInt32 (2 : Int32) &&& Int32.toUInt32 31))) &&& (858993459 : Int32))) >>> (Int32.toUInt32 (4 : Int32) &&& Int32.toUInt32 31)))) &&& (252645135 : Int32)) + (UInt32.toInt32 (Int32.toUInt32 (((((x0 - ((UInt32.toInt32 (Int32.toUInt32 x0 >>> (Int32.toUInt32 (1 : Int32) &&& Int32.toUInt32 31))) &&& (1431655765 : Int32))) &&& (858993459 : Int32)) + ((UInt32.toInt32 (Int32.toUInt32 (x0 - ((UInt32.toInt32 (Int32.toUInt32 x0 >>> (Int32.toUInt32 (1 : Int32) &&& Int32.toUInt32 31))) &&& (1431655765 : Int32))) >>> (Int32.toUInt32 (2 : Int32) &&& Int32.toUInt32 31))) &&& (858993459 : Int32))) + (UInt32.toInt32 (Int32.toUInt32 (((x0 - ((UInt32.toInt32 (Int32.toUInt32 x0 >>> (Int32.toUInt32 (1 : Int32) &&& Int32.toUInt32 31))) &&& (1431655765 : Int32))) &&& (858993459 : Int32)) + ((UInt32.toInt32 (Int32.toUInt32 (x0 - ((UInt32.toInt32 (Int32.toUInt32 x0 >>> (Int32.toUInt32 (1 : Int32) &&& Int32.toUInt32 31))) &&& (1431655765 : Int32))) >>> (Int32.toUInt32 (2 : Int32) &&& Int32.toUInt32 31))) &&& (858993459 : Int32))) >>> (Int32.toUInt32 (4 : Int32) &&& Int32.toUInt32 31)))) &&& (252645135 : Int32)) >>> (Int32.toUInt32 (8 : Int32) &&& Int32.toUInt32 31)))) + (UInt32.toInt32 (Int32.toUInt32 ((((((x0 - ((UInt32.toInt32 (Int32.toUInt32 x0 >>> (Int32.toUInt32 (1 : Int32) &&& Int32.toUInt32 31))) &&& (1431655765 : Int32))) &&& (858993459 : Int32)) + ((UInt32.toInt32 (Int32.toUInt32 (x0 - ((UInt32.toInt32 (Int32.toUInt32 x0 >>> (Int32.toUInt32 (1 : Int32) &&& Int32.toUInt32 31))) &&& (1431655765 : Int32))) >>> (Int32.toUInt32 (2 : Int32) &&& Int32.toUInt32 31))) &&& (858993459 : Int32))) + (UInt32.toInt32 (Int32.toUInt32 (((x0 - ((UInt32.toInt32 (Int32.toUInt32 x0 >>> (Int32.toUInt32 (1 : Int32) &&& Int32.toUInt32 31))) &&& (1431655765 : Int32))) &&& (858993459 : Int32)) + ((UInt32.toInt32 (Int32.toUInt32 (x0 - ((UInt32.toInt32 (Int32.toUInt32 x0 >>> (Int32.toUInt32 (1 : Int32) &&& Int32.toUInt32 31))) &&& (1431655765 : Int32))) >>> (Int32.toUInt32 (2 : Int32) &&& Int32.toUInt32 31))) &&& (858993459 : Int32))) >>> (Int32.toUInt32 (4 : Int32) &&& Int32.toUInt32 31)))) &&& (252645135 : Int32)) + (UInt32.toInt32 (Int32.toUInt32 (((((x0 - ((UInt32.toInt32 (Int32.toUInt32 x0 >>> (Int32.toUInt32 (1 : Int32) &&& Int32.toUInt32 31))) &&& (1431655765 : Int32))) &&& (858993459 : Int32)) + ((UInt32.toInt32 (Int32.toUInt32 (x0 - ((UInt32.toInt32 (Int32.toUInt32 x0 >>> (Int32.toUInt32 (1 : Int32) &&& Int32.toUInt32 31))) &&& (1431655765 : Int32))) >>> (Int32.toUInt32 (2 : Int32) &&& Int32.toUInt32 31))) &&& (858993459 : Int32))) + (UInt32.toInt32 (Int32.toUInt32 (((x0 - ((UInt32.toInt32 (Int32.toUInt32 x0 >>> (Int32.toUInt32 (1 : Int32) &&& Int32.toUInt32 31))) &&& (1431655765 : Int32))) &&& (858993459 : Int32)) + ((UInt32.toInt32 (Int32.toUInt32 (x0 - ((UInt32.toInt32 (Int32.toUInt32 x0 >>> (Int32.toUInt32 (1 : Int32) &&& Int32.toUInt32 31))) &&& (1431655765 : Int32))) >>> (Int32.toUInt32 (2 : Int32) &&& Int32.toUInt32 31))) &&& (858993459 : Int32))) >>> (Int32.toUInt32 (4 : Int32) &&& Int32.toUInt32 31)))) &&& (252645135 : Int32)) >>> (Int32.toUInt32 (8 : Int32) &&& Int32.toUInt32 31)))) >>> (Int32.toUInt32 (16 : Int32) &&& Int32.toUInt32 31)))) &&& (63 : Int32))
set_option maxRecDepth 100000 in
set_option maxHeartbeats 4000000 in
theorem c_J6_bitCount_0f7a4 {l : Launch} {G : JG}   (x0 : Int32) {Rz : Int32} (h : f_J6_bitCount_0f7a4 x0 = some Rz) : JM l G yJ6_bitCount_0f7a4 cJ6_bitCount_0f7a4 1 (some .int) 0 0 [.int x0] ([] : va_W) ([] : va_W) (some (.int Rz)) := by
  refine JM.of (own := RJ6) (tb := T_J6_bitCount_0f7a4) (by decide) (Nat.le_of_ble_eq_true rfl) D_J6_bitCount_0f7a4 rfl (fun X C => ?_)
  refine J_sub (lv' := [(0, .int x0)]) [0] rfl ?_
  unfold f_J6_bitCount_0f7a4 at h
  refine J_iload_n (pc := 0) C 0 rfl 0 rfl rfl ?_
  refine J_iload_n (pc := 1) C 1 rfl 0 rfl rfl ?_
  refine J_iconst (pc := 2) (v := (1 : Int32)) C 2 rfl rfl ?_
  refine J_iushr (pc := 3) C 3 rfl  ?_
  refine J_ldc_w (pc := 4) (v := (1431655765 : Int32)) C 4 rfl k116 ?_
  refine J_iand (pc := 7) C 5 rfl  ?_
  refine J_isub (pc := 8) C 6 rfl  ?_
  refine J_istore_n (pc := 9) (lv' := [(0, .int (x0 - ((UInt32.toInt32 (Int32.toUInt32 x0 >>> (Int32.toUInt32 (1 : Int32) &&& Int32.toUInt32 31))) &&& (1431655765 : Int32))))]) C 7 rfl rfl (by decide) rfl ?_
  refine J_iload_n (pc := 10) C 8 rfl 0 rfl rfl ?_
  refine J_ldc_w (pc := 11) (v := (858993459 : Int32)) C 9 rfl k117 ?_
  refine J_iand (pc := 14) C 10 rfl  ?_
  refine J_iload_n (pc := 15) C 11 rfl 0 rfl rfl ?_
  refine J_iconst (pc := 16) (v := (2 : Int32)) C 12 rfl rfl ?_
  refine J_iushr (pc := 17) C 13 rfl  ?_
  refine J_ldc_w (pc := 18) (v := (858993459 : Int32)) C 14 rfl k117 ?_
  refine J_iand (pc := 21) C 15 rfl  ?_
  refine J_iadd (pc := 22) C 16 rfl  ?_
  refine J_istore_n (pc := 23) (lv' := [(0, .int (((x0 - ((UInt32.toInt32 (Int32.toUInt32 x0 >>> (Int32.toUInt32 (1 : Int32) &&& Int32.toUInt32 31))) &&& (1431655765 : Int32))) &&& (858993459 : Int32)) + ((UInt32.toInt32 (Int32.toUInt32 (x0 - ((UInt32.toInt32 (Int32.toUInt32 x0 >>> (Int32.toUInt32 (1 : Int32) &&& Int32.toUInt32 31))) &&& (1431655765 : Int32))) >>> (Int32.toUInt32 (2 : Int32) &&& Int32.toUInt32 31))) &&& (858993459 : Int32))))]) C 17 rfl rfl (by decide) rfl ?_
  refine J_iload_n (pc := 24) C 18 rfl 0 rfl rfl ?_
  refine J_iload_n (pc := 25) C 19 rfl 0 rfl rfl ?_
  refine J_iconst (pc := 26) (v := (4 : Int32)) C 20 rfl rfl ?_
  refine J_iushr (pc := 27) C 21 rfl  ?_
  refine J_iadd (pc := 28) C 22 rfl  ?_
  refine J_ldc_w (pc := 29) (v := (252645135 : Int32)) C 23 rfl k118 ?_
  refine J_iand (pc := 32) C 24 rfl  ?_
  refine J_istore_n (pc := 33) (lv' := [(0, .int (((((x0 - ((UInt32.toInt32 (Int32.toUInt32 x0 >>> (Int32.toUInt32 (1 : Int32) &&& Int32.toUInt32 31))) &&& (1431655765 : Int32))) &&& (858993459 : Int32)) + ((UInt32.toInt32 (Int32.toUInt32 (x0 - ((UInt32.toInt32 (Int32.toUInt32 x0 >>> (Int32.toUInt32 (1 : Int32) &&& Int32.toUInt32 31))) &&& (1431655765 : Int32))) >>> (Int32.toUInt32 (2 : Int32) &&& Int32.toUInt32 31))) &&& (858993459 : Int32))) + (UInt32.toInt32 (Int32.toUInt32 (((x0 - ((UInt32.toInt32 (Int32.toUInt32 x0 >>> (Int32.toUInt32 (1 : Int32) &&& Int32.toUInt32 31))) &&& (1431655765 : Int32))) &&& (858993459 : Int32)) + ((UInt32.toInt32 (Int32.toUInt32 (x0 - ((UInt32.toInt32 (Int32.toUInt32 x0 >>> (Int32.toUInt32 (1 : Int32) &&& Int32.toUInt32 31))) &&& (1431655765 : Int32))) >>> (Int32.toUInt32 (2 : Int32) &&& Int32.toUInt32 31))) &&& (858993459 : Int32))) >>> (Int32.toUInt32 (4 : Int32) &&& Int32.toUInt32 31)))) &&& (252645135 : Int32)))]) C 25 rfl rfl (by decide) rfl ?_
  refine J_iload_n (pc := 34) C 26 rfl 0 rfl rfl ?_
  refine J_iload_n (pc := 35) C 27 rfl 0 rfl rfl ?_
  refine J_bipush (pc := 36) (v := (8 : Int32)) C 28 rfl rfl ?_
  refine J_iushr (pc := 38) C 29 rfl  ?_
  refine J_iadd (pc := 39) C 30 rfl  ?_
  refine J_istore_n (pc := 40) (lv' := [(0, .int ((((((x0 - ((UInt32.toInt32 (Int32.toUInt32 x0 >>> (Int32.toUInt32 (1 : Int32) &&& Int32.toUInt32 31))) &&& (1431655765 : Int32))) &&& (858993459 : Int32)) + ((UInt32.toInt32 (Int32.toUInt32 (x0 - ((UInt32.toInt32 (Int32.toUInt32 x0 >>> (Int32.toUInt32 (1 : Int32) &&& Int32.toUInt32 31))) &&& (1431655765 : Int32))) >>> (Int32.toUInt32 (2 : Int32) &&& Int32.toUInt32 31))) &&& (858993459 : Int32))) + (UInt32.toInt32 (Int32.toUInt32 (((x0 - ((UInt32.toInt32 (Int32.toUInt32 x0 >>> (Int32.toUInt32 (1 : Int32) &&& Int32.toUInt32 31))) &&& (1431655765 : Int32))) &&& (858993459 : Int32)) + ((UInt32.toInt32 (Int32.toUInt32 (x0 - ((UInt32.toInt32 (Int32.toUInt32 x0 >>> (Int32.toUInt32 (1 : Int32) &&& Int32.toUInt32 31))) &&& (1431655765 : Int32))) >>> (Int32.toUInt32 (2 : Int32) &&& Int32.toUInt32 31))) &&& (858993459 : Int32))) >>> (Int32.toUInt32 (4 : Int32) &&& Int32.toUInt32 31)))) &&& (252645135 : Int32)) + (UInt32.toInt32 (Int32.toUInt32 (((((x0 - ((UInt32.toInt32 (Int32.toUInt32 x0 >>> (Int32.toUInt32 (1 : Int32) &&& Int32.toUInt32 31))) &&& (1431655765 : Int32))) &&& (858993459 : Int32)) + ((UInt32.toInt32 (Int32.toUInt32 (x0 - ((UInt32.toInt32 (Int32.toUInt32 x0 >>> (Int32.toUInt32 (1 : Int32) &&& Int32.toUInt32 31))) &&& (1431655765 : Int32))) >>> (Int32.toUInt32 (2 : Int32) &&& Int32.toUInt32 31))) &&& (858993459 : Int32))) + (UInt32.toInt32 (Int32.toUInt32 (((x0 - ((UInt32.toInt32 (Int32.toUInt32 x0 >>> (Int32.toUInt32 (1 : Int32) &&& Int32.toUInt32 31))) &&& (1431655765 : Int32))) &&& (858993459 : Int32)) + ((UInt32.toInt32 (Int32.toUInt32 (x0 - ((UInt32.toInt32 (Int32.toUInt32 x0 >>> (Int32.toUInt32 (1 : Int32) &&& Int32.toUInt32 31))) &&& (1431655765 : Int32))) >>> (Int32.toUInt32 (2 : Int32) &&& Int32.toUInt32 31))) &&& (858993459 : Int32))) >>> (Int32.toUInt32 (4 : Int32) &&& Int32.toUInt32 31)))) &&& (252645135 : Int32)) >>> (Int32.toUInt32 (8 : Int32) &&& Int32.toUInt32 31)))))]) C 31 rfl rfl (by decide) rfl ?_
  refine J_iload_n (pc := 41) C 32 rfl 0 rfl rfl ?_
  refine J_iload_n (pc := 42) C 33 rfl 0 rfl rfl ?_
  refine J_bipush (pc := 43) (v := (16 : Int32)) C 34 rfl rfl ?_
  refine J_iushr (pc := 45) C 35 rfl  ?_
  refine J_iadd (pc := 46) C 36 rfl  ?_
  refine J_istore_n (pc := 47) (lv' := [(0, .int (((((((x0 - ((UInt32.toInt32 (Int32.toUInt32 x0 >>> (Int32.toUInt32 (1 : Int32) &&& Int32.toUInt32 31))) &&& (1431655765 : Int32))) &&& (858993459 : Int32)) + ((UInt32.toInt32 (Int32.toUInt32 (x0 - ((UInt32.toInt32 (Int32.toUInt32 x0 >>> (Int32.toUInt32 (1 : Int32) &&& Int32.toUInt32 31))) &&& (1431655765 : Int32))) >>> (Int32.toUInt32 (2 : Int32) &&& Int32.toUInt32 31))) &&& (858993459 : Int32))) + (UInt32.toInt32 (Int32.toUInt32 (((x0 - ((UInt32.toInt32 (Int32.toUInt32 x0 >>> (Int32.toUInt32 (1 : Int32) &&& Int32.toUInt32 31))) &&& (1431655765 : Int32))) &&& (858993459 : Int32)) + ((UInt32.toInt32 (Int32.toUInt32 (x0 - ((UInt32.toInt32 (Int32.toUInt32 x0 >>> (Int32.toUInt32 (1 : Int32) &&& Int32.toUInt32 31))) &&& (1431655765 : Int32))) >>> (Int32.toUInt32 (2 : Int32) &&& Int32.toUInt32 31))) &&& (858993459 : Int32))) >>> (Int32.toUInt32 (4 : Int32) &&& Int32.toUInt32 31)))) &&& (252645135 : Int32)) + (UInt32.toInt32 (Int32.toUInt32 (((((x0 - ((UInt32.toInt32 (Int32.toUInt32 x0 >>> (Int32.toUInt32 (1 : Int32) &&& Int32.toUInt32 31))) &&& (1431655765 : Int32))) &&& (858993459 : Int32)) + ((UInt32.toInt32 (Int32.toUInt32 (x0 - ((UInt32.toInt32 (Int32.toUInt32 x0 >>> (Int32.toUInt32 (1 : Int32) &&& Int32.toUInt32 31))) &&& (1431655765 : Int32))) >>> (Int32.toUInt32 (2 : Int32) &&& Int32.toUInt32 31))) &&& (858993459 : Int32))) + (UInt32.toInt32 (Int32.toUInt32 (((x0 - ((UInt32.toInt32 (Int32.toUInt32 x0 >>> (Int32.toUInt32 (1 : Int32) &&& Int32.toUInt32 31))) &&& (1431655765 : Int32))) &&& (858993459 : Int32)) + ((UInt32.toInt32 (Int32.toUInt32 (x0 - ((UInt32.toInt32 (Int32.toUInt32 x0 >>> (Int32.toUInt32 (1 : Int32) &&& Int32.toUInt32 31))) &&& (1431655765 : Int32))) >>> (Int32.toUInt32 (2 : Int32) &&& Int32.toUInt32 31))) &&& (858993459 : Int32))) >>> (Int32.toUInt32 (4 : Int32) &&& Int32.toUInt32 31)))) &&& (252645135 : Int32)) >>> (Int32.toUInt32 (8 : Int32) &&& Int32.toUInt32 31)))) + (UInt32.toInt32 (Int32.toUInt32 ((((((x0 - ((UInt32.toInt32 (Int32.toUInt32 x0 >>> (Int32.toUInt32 (1 : Int32) &&& Int32.toUInt32 31))) &&& (1431655765 : Int32))) &&& (858993459 : Int32)) + ((UInt32.toInt32 (Int32.toUInt32 (x0 - ((UInt32.toInt32 (Int32.toUInt32 x0 >>> (Int32.toUInt32 (1 : Int32) &&& Int32.toUInt32 31))) &&& (1431655765 : Int32))) >>> (Int32.toUInt32 (2 : Int32) &&& Int32.toUInt32 31))) &&& (858993459 : Int32))) + (UInt32.toInt32 (Int32.toUInt32 (((x0 - ((UInt32.toInt32 (Int32.toUInt32 x0 >>> (Int32.toUInt32 (1 : Int32) &&& Int32.toUInt32 31))) &&& (1431655765 : Int32))) &&& (858993459 : Int32)) + ((UInt32.toInt32 (Int32.toUInt32 (x0 - ((UInt32.toInt32 (Int32.toUInt32 x0 >>> (Int32.toUInt32 (1 : Int32) &&& Int32.toUInt32 31))) &&& (1431655765 : Int32))) >>> (Int32.toUInt32 (2 : Int32) &&& Int32.toUInt32 31))) &&& (858993459 : Int32))) >>> (Int32.toUInt32 (4 : Int32) &&& Int32.toUInt32 31)))) &&& (252645135 : Int32)) + (UInt32.toInt32 (Int32.toUInt32 (((((x0 - ((UInt32.toInt32 (Int32.toUInt32 x0 >>> (Int32.toUInt32 (1 : Int32) &&& Int32.toUInt32 31))) &&& (1431655765 : Int32))) &&& (858993459 : Int32)) + ((UInt32.toInt32 (Int32.toUInt32 (x0 - ((UInt32.toInt32 (Int32.toUInt32 x0 >>> (Int32.toUInt32 (1 : Int32) &&& Int32.toUInt32 31))) &&& (1431655765 : Int32))) >>> (Int32.toUInt32 (2 : Int32) &&& Int32.toUInt32 31))) &&& (858993459 : Int32))) + (UInt32.toInt32 (Int32.toUInt32 (((x0 - ((UInt32.toInt32 (Int32.toUInt32 x0 >>> (Int32.toUInt32 (1 : Int32) &&& Int32.toUInt32 31))) &&& (1431655765 : Int32))) &&& (858993459 : Int32)) + ((UInt32.toInt32 (Int32.toUInt32 (x0 - ((UInt32.toInt32 (Int32.toUInt32 x0 >>> (Int32.toUInt32 (1 : Int32) &&& Int32.toUInt32 31))) &&& (1431655765 : Int32))) >>> (Int32.toUInt32 (2 : Int32) &&& Int32.toUInt32 31))) &&& (858993459 : Int32))) >>> (Int32.toUInt32 (4 : Int32) &&& Int32.toUInt32 31)))) &&& (252645135 : Int32)) >>> (Int32.toUInt32 (8 : Int32) &&& Int32.toUInt32 31)))) >>> (Int32.toUInt32 (16 : Int32) &&& Int32.toUInt32 31)))))]) C 37 rfl rfl (by decide) rfl ?_
  refine J_iload_n (pc := 48) C 38 rfl 0 rfl rfl ?_
  refine J_bipush (pc := 49) (v := (63 : Int32)) C 39 rfl rfl ?_
  refine J_iand (pc := 51) C 40 rfl  ?_
  cases h
  exact J_iret (pc := 52) C 41 rfl
def T_X5_in : List (Nat × ClassFile.Instr × Nat) := [(0, .iload_n 0, 1), (1, .iload_n 1, 1), (2, .if_icmp .lt 12, 3), (5, .iload_n 0, 1), (6, .iload_n 2, 1), (7, .if_icmp .gt 7, 3), (10, .iconst 1, 1), (11, .goto 4, 3), (14, .iconst 0, 1), (15, .ireturn, 1)]
theorem D_X5_in : ∀ q ∈ T_X5_in, decode cX5_in q.1 = .ok q.2 := by decide +kernel
theorem V_X5_in : Vy yX5_in cX5_in 3 (some .boolean) 3 := ⟨k409, k415, by decide +kernel⟩
theorem t_X5_in : Cond.static yX5_in ∈ TB := k414
noncomputable def f_X5_in  (x0 : Int32) (x1 : Int32) (x2 : Int32) : Option (Int32) :=
  (if x0 < x1 then some (0 : Int32) else (if x2 < x0 then some (0 : Int32) else some (1 : Int32)))
set_option maxRecDepth 100000 in
set_option maxHeartbeats 4000000 in
theorem c_X5_in {l : Launch} {G : JG}   (x0 : Int32) (x1 : Int32) (x2 : Int32) {Rz : Int32} (h : f_X5_in x0 x1 x2 = some Rz) : JM l G yX5_in cX5_in 3 (some .boolean) 0 0 [.int x0, .int x1, .int x2] ([] : va_W) ([] : va_W) (some (.int Rz)) := by
  refine JM.of (own := RX5) (tb := T_X5_in) (by decide) (Nat.le_of_ble_eq_true rfl) D_X5_in rfl (fun X C => ?_)
  refine J_sub (lv' := [(0, .int x0), (1, .int x1), (2, .int x2)]) [0, 1, 2] rfl ?_
  unfold f_X5_in at h
  refine J_iload_n (pc := 0) C 0 rfl 0 rfl rfl ?_
  refine J_iload_n (pc := 1) C 1 rfl 1 rfl rfl ?_
  refine J_icmp_lt (pc := 2) (tgt := 14) C 2 rfl rfl (fun c1 => ?_) (fun c1 => ?_)
  · rw [if_pos c1] at h
    refine J_iconst (pc := 14) (v := (0 : Int32)) C 8 rfl rfl ?_
    cases h
    exact J_zret (pc := 15) C 9 rfl rfl
  · rw [if_neg c1] at h
    refine J_iload_n (pc := 5) C 3 rfl 0 rfl rfl ?_
    refine J_iload_n (pc := 6) C 4 rfl 2 rfl rfl ?_
    refine J_icmp_gt (pc := 7) (tgt := 14) C 5 rfl rfl (fun c2 => ?_) (fun c2 => ?_)
    · rw [if_pos c2] at h
      refine J_iconst (pc := 14) (v := (0 : Int32)) C 8 rfl rfl ?_
      cases h
      exact J_zret (pc := 15) C 9 rfl rfl
    · rw [if_neg c2] at h
      refine J_iconst (pc := 10) (v := (1 : Int32)) C 6 rfl rfl ?_
      refine J_goto (pc := 11) (tgt := 15) C 7 rfl rfl ?_
      cases h
      exact J_zret (pc := 15) C 9 rfl rfl
def T_X5_p : List (Nat × ClassFile.Instr × Nat) := [(0, .bipush 16, 2), (2, .iconst 3, 1), (3, .iload_n 0, 1), (4, .imul, 1), (5, .iadd, 1), (6, .ireturn, 1)]
theorem D_X5_p : ∀ q ∈ T_X5_p, decode cX5_p q.1 = .ok q.2 := by decide +kernel
theorem V_X5_p : Vy yX5_p cX5_p 1 (some .int) 1 := ⟨k410, k415, by decide +kernel⟩
theorem t_X5_p : Cond.static yX5_p ∈ TB := k426
noncomputable def f_X5_p  (x0 : Int32) : Option (Int32) :=
  some ((16 : Int32) + ((3 : Int32) * x0))
set_option maxRecDepth 100000 in
set_option maxHeartbeats 4000000 in
theorem c_X5_p {l : Launch} {G : JG}   (x0 : Int32) {Rz : Int32} (h : f_X5_p x0 = some Rz) : JM l G yX5_p cX5_p 1 (some .int) 0 0 [.int x0] ([] : va_W) ([] : va_W) (some (.int Rz)) := by
  refine JM.of (own := RX5) (tb := T_X5_p) (by decide) (Nat.le_of_ble_eq_true rfl) D_X5_p rfl (fun X C => ?_)
  refine J_sub (lv' := [(0, .int x0)]) [0] rfl ?_
  unfold f_X5_p at h
  refine J_bipush (pc := 0) (v := (16 : Int32)) C 0 rfl rfl ?_
  refine J_iconst (pc := 2) (v := (3 : Int32)) C 1 rfl rfl ?_
  refine J_iload_n (pc := 3) C 2 rfl 0 rfl rfl ?_
  refine J_imul (pc := 4) C 3 rfl  ?_
  refine J_iadd (pc := 5) C 4 rfl  ?_
  cases h
  exact J_iret (pc := 6) C 5 rfl
def T_X5_h : List (Nat × ClassFile.Instr × Nat) := [(0, .bipush 64, 2), (2, .iconst 3, 1), (3, .iload_n 0, 1), (4, .imul, 1), (5, .iadd, 1), (6, .ireturn, 1)]
theorem D_X5_h : ∀ q ∈ T_X5_h, decode cX5_h q.1 = .ok q.2 := by decide +kernel
theorem V_X5_h : Vy yX5_h cX5_h 1 (some .int) 1 := ⟨k411, k415, by decide +kernel⟩
theorem t_X5_h : Cond.static yX5_h ∈ TB := k445
noncomputable def f_X5_h  (x0 : Int32) : Option (Int32) :=
  some ((64 : Int32) + ((3 : Int32) * x0))
set_option maxRecDepth 100000 in
set_option maxHeartbeats 4000000 in
theorem c_X5_h {l : Launch} {G : JG}   (x0 : Int32) {Rz : Int32} (h : f_X5_h x0 = some Rz) : JM l G yX5_h cX5_h 1 (some .int) 0 0 [.int x0] ([] : va_W) ([] : va_W) (some (.int Rz)) := by
  refine JM.of (own := RX5) (tb := T_X5_h) (by decide) (Nat.le_of_ble_eq_true rfl) D_X5_h rfl (fun X C => ?_)
  refine J_sub (lv' := [(0, .int x0)]) [0] rfl ?_
  unfold f_X5_h at h
  refine J_bipush (pc := 0) (v := (64 : Int32)) C 0 rfl rfl ?_
  refine J_iconst (pc := 2) (v := (3 : Int32)) C 1 rfl rfl ?_
  refine J_iload_n (pc := 3) C 2 rfl 0 rfl rfl ?_
  refine J_imul (pc := 4) C 3 rfl  ?_
  refine J_iadd (pc := 5) C 4 rfl  ?_
  cases h
  exact J_iret (pc := 6) C 5 rfl
def T_X5_isPaper : List (Nat × ClassFile.Instr × Nat) := [(0, .iload_n 0, 1), (1, .iconst 0, 1), (2, .iconst 5, 1), (3, .invokestatic 39, 3), (6, .ireturn, 1)]
theorem D_X5_isPaper : ∀ q ∈ T_X5_isPaper, decode cX5_isPaper q.1 = .ok q.2 := by decide +kernel
theorem V_X5_isPaper : Vy yX5_isPaper cX5_isPaper 1 (some .boolean) 1 := ⟨k412, k415, by decide +kernel⟩
theorem t_X5_isPaper : Cond.static yX5_isPaper ∈ TB := k500
noncomputable def f_X5_isPaper  (x0 : Int32) : Option (Int32) :=
  (f_X5_in x0 (0 : Int32) (5 : Int32)).bind (fun q1 => gd (isb q1) (some q1))
set_option maxRecDepth 100000 in
set_option maxHeartbeats 4000000 in
theorem c_X5_isPaper {l : Launch} {G : JG}   (x0 : Int32) {Rz : Int32} (h : f_X5_isPaper x0 = some Rz) : JM l G yX5_isPaper cX5_isPaper 1 (some .boolean) 1 22 [.int x0] ([] : va_W) ([] : va_W) (some (.int Rz)) := by
  refine JM.of (own := RX5) (tb := T_X5_isPaper) (by decide) (Nat.le_of_ble_eq_true rfl) D_X5_isPaper rfl (fun X C => ?_)
  refine J_sub (lv' := [(0, .int x0)]) [0] rfl ?_
  unfold f_X5_isPaper at h
  refine J_iload_n (pc := 0) C 0 rfl 0 rfl rfl ?_
  refine J_iconst (pc := 1) (v := (0 : Int32)) C 1 rfl rfl ?_
  refine J_iconst (pc := 2) (v := (5 : Int32)) C 2 rfl rfl ?_
  obtain ⟨q1, hq1, h⟩ := bnd h
  refine J_callS (pc := 3) (st2 := []) (st3 := [.int q1]) (ws2 := ([] : va_W)) C 3 rfl (c_X5_in x0 (0 : Int32) (5 : Int32) hq1) V_X5_in k413 t_X5_in rfl rfl ⟨Nat.le_of_ble_eq_true rfl, Nat.le_of_ble_eq_true rfl⟩ (Nat.le_of_ble_eq_true rfl) ⟨Nat.le_refl _, Nat.le_refl _⟩ [] rfl rfl rfl rfl rfl ?_
  obtain ⟨g2, h⟩ := gd_some h
  cases h
  exact J_zret (pc := 6) C 4 rfl g2
def T_X5_isHall : List (Nat × ClassFile.Instr × Nat) := [(0, .iload_n 0, 1), (1, .iconst 0, 1), (2, .iconst 3, 1), (3, .invokestatic 39, 3), (6, .ireturn, 1)]
theorem D_X5_isHall : ∀ q ∈ T_X5_isHall, decode cX5_isHall q.1 = .ok q.2 := by decide +kernel
theorem V_X5_isHall : Vy yX5_isHall cX5_isHall 1 (some .boolean) 1 := ⟨k416, k415, by decide +kernel⟩
theorem t_X5_isHall : Cond.static yX5_isHall ∈ TB := k512
noncomputable def f_X5_isHall  (x0 : Int32) : Option (Int32) :=
  (f_X5_in x0 (0 : Int32) (3 : Int32)).bind (fun q1 => gd (isb q1) (some q1))
set_option maxRecDepth 100000 in
set_option maxHeartbeats 4000000 in
theorem c_X5_isHall {l : Launch} {G : JG}   (x0 : Int32) {Rz : Int32} (h : f_X5_isHall x0 = some Rz) : JM l G yX5_isHall cX5_isHall 1 (some .boolean) 1 22 [.int x0] ([] : va_W) ([] : va_W) (some (.int Rz)) := by
  refine JM.of (own := RX5) (tb := T_X5_isHall) (by decide) (Nat.le_of_ble_eq_true rfl) D_X5_isHall rfl (fun X C => ?_)
  refine J_sub (lv' := [(0, .int x0)]) [0] rfl ?_
  unfold f_X5_isHall at h
  refine J_iload_n (pc := 0) C 0 rfl 0 rfl rfl ?_
  refine J_iconst (pc := 1) (v := (0 : Int32)) C 1 rfl rfl ?_
  refine J_iconst (pc := 2) (v := (3 : Int32)) C 2 rfl rfl ?_
  obtain ⟨q1, hq1, h⟩ := bnd h
  refine J_callS (pc := 3) (st2 := []) (st3 := [.int q1]) (ws2 := ([] : va_W)) C 3 rfl (c_X5_in x0 (0 : Int32) (3 : Int32) hq1) V_X5_in k413 t_X5_in rfl rfl ⟨Nat.le_of_ble_eq_true rfl, Nat.le_of_ble_eq_true rfl⟩ (Nat.le_of_ble_eq_true rfl) ⟨Nat.le_refl _, Nat.le_refl _⟩ [] rfl rfl rfl rfl rfl ?_
  obtain ⟨g2, h⟩ := gd_some h
  cases h
  exact J_zret (pc := 6) C 4 rfl g2
end
