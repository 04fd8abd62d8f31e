-- ===== PART A: goes FIRST, ahead of the names: the tables' words, and 'selects' of the private methods out of them =====
/-- a private method of a class that the tables say can be made, by its rows of tables_1 -/
def lw_okq (q : MethodName × Nat) : Prop := (q.1.cls ≠ "java/lang/invoke/MethodHandle" ∧ q.1.cls ≠ "java/lang/invoke/VarHandle") ∧ Cond.instantiable q.1.cls q.2 ∈ tables_1 ∧ Cond.privateMethod q.1 ∈ tables_1 ∧ Cond.instanceMethod q.1 ∈ tables_1
theorem lw_p0 : lw_okq (⟨"ExamHalls$Seating", "clear", "()V"⟩, 9) := ⟨⟨by decide +kernel, by decide +kernel⟩, List.mem_of_getElem? (i := 18) (by decide +kernel), List.mem_of_getElem? (i := 178) (by decide +kernel), List.mem_of_getElem? (i := 179) (by decide +kernel)⟩
theorem lw_p1 : lw_okq (⟨"ExamHalls$Seating", "seatPupils", "(I)V"⟩, 9) := ⟨⟨by decide +kernel, by decide +kernel⟩, List.mem_of_getElem? (i := 18) (by decide +kernel), List.mem_of_getElem? (i := 182) (by decide +kernel), List.mem_of_getElem? (i := 183) (by decide +kernel)⟩
theorem lw_p2 : lw_okq (⟨"ExamHalls$Seating", "seatInRoom", "(II)V"⟩, 9) := ⟨⟨by decide +kernel, by decide +kernel⟩, List.mem_of_getElem? (i := 18) (by decide +kernel), List.mem_of_getElem? (i := 193) (by decide +kernel), List.mem_of_getElem? (i := 194) (by decide +kernel)⟩
theorem lw_p3 : lw_okq (⟨"ExamHalls$Seating", "isEarlyEnough", "(II)Z"⟩, 9) := ⟨⟨by decide +kernel, by decide +kernel⟩, List.mem_of_getElem? (i := 18) (by decide +kernel), List.mem_of_getElem? (i := 197) (by decide +kernel), List.mem_of_getElem? (i := 198) (by decide +kernel)⟩
theorem lw_p4 : lw_okq (⟨"ExamHalls$Seating", "seatAtDesk", "(II)V"⟩, 9) := ⟨⟨by decide +kernel, by decide +kernel⟩, List.mem_of_getElem? (i := 18) (by decide +kernel), List.mem_of_getElem? (i := 217) (by decide +kernel), List.mem_of_getElem? (i := 218) (by decide +kernel)⟩
theorem lw_p5 : lw_okq (⟨"ExamHalls$Seating", "firstDesk", "(II)I"⟩, 9) := ⟨⟨by decide +kernel, by decide +kernel⟩, List.mem_of_getElem? (i := 18) (by decide +kernel), List.mem_of_getElem? (i := 225) (by decide +kernel), List.mem_of_getElem? (i := 226) (by decide +kernel)⟩
theorem lw_p6 : lw_okq (⟨"ExamHalls$Seating", "isBeside", "(IIII)Z"⟩, 9) := ⟨⟨by decide +kernel, by decide +kernel⟩, List.mem_of_getElem? (i := 18) (by decide +kernel), List.mem_of_getElem? (i := 229) (by decide +kernel), List.mem_of_getElem? (i := 230) (by decide +kernel)⟩
theorem lw_p7 : lw_okq (⟨"ExamHalls$History", "dropOldest", "()V"⟩, 2) := ⟨⟨by decide +kernel, by decide +kernel⟩, List.mem_of_getElem? (i := 155) (by decide +kernel), List.mem_of_getElem? (i := 272) (by decide +kernel), List.mem_of_getElem? (i := 273) (by decide +kernel)⟩
theorem lw_p8 : lw_okq (⟨"ExamHalls$Pad", "beginPupil", "()V"⟩, 10) := ⟨⟨by decide +kernel, by decide +kernel⟩, List.mem_of_getElem? (i := 113) (by decide +kernel), List.mem_of_getElem? (i := 313) (by decide +kernel), List.mem_of_getElem? (i := 314) (by decide +kernel)⟩
theorem lw_p9 : lw_okq (⟨"ExamHalls$Pad", "takes", "(I)Z"⟩, 10) := ⟨⟨by decide +kernel, by decide +kernel⟩, List.mem_of_getElem? (i := 113) (by decide +kernel), List.mem_of_getElem? (i := 317) (by decide +kernel), List.mem_of_getElem? (i := 318) (by decide +kernel)⟩
theorem lw_p10 : lw_okq (⟨"ExamHalls$Pad", "takesSemicolon", "()Z"⟩, 10) := ⟨⟨by decide +kernel, by decide +kernel⟩, List.mem_of_getElem? (i := 113) (by decide +kernel), List.mem_of_getElem? (i := 321) (by decide +kernel), List.mem_of_getElem? (i := 322) (by decide +kernel)⟩
theorem lw_p11 : lw_okq (⟨"ExamHalls$Pad", "mayEnd", "()Z"⟩, 10) := ⟨⟨by decide +kernel, by decide +kernel⟩, List.mem_of_getElem? (i := 113) (by decide +kernel), List.mem_of_getElem? (i := 325) (by decide +kernel), List.mem_of_getElem? (i := 326) (by decide +kernel)⟩
theorem lw_p12 : lw_okq (⟨"ExamHalls$Pad", "endPupil", "()V"⟩, 10) := ⟨⟨by decide +kernel, by decide +kernel⟩, List.mem_of_getElem? (i := 113) (by decide +kernel), List.mem_of_getElem? (i := 329) (by decide +kernel), List.mem_of_getElem? (i := 330) (by decide +kernel)⟩
theorem lw_p13 : lw_okq (⟨"ExamHalls$Pad", "takesPlus", "()Z"⟩, 10) := ⟨⟨by decide +kernel, by decide +kernel⟩, List.mem_of_getElem? (i := 113) (by decide +kernel), List.mem_of_getElem? (i := 333) (by decide +kernel), List.mem_of_getElem? (i := 334) (by decide +kernel)⟩
theorem lw_p14 : lw_okq (⟨"ExamHalls$Pad", "takesReader", "()Z"⟩, 10) := ⟨⟨by decide +kernel, by decide +kernel⟩, List.mem_of_getElem? (i := 113) (by decide +kernel), List.mem_of_getElem? (i := 337) (by decide +kernel), List.mem_of_getElem? (i := 338) (by decide +kernel)⟩
theorem lw_p15 : lw_okq (⟨"ExamHalls$Pad", "takesDigit", "(I)Z"⟩, 10) := ⟨⟨by decide +kernel, by decide +kernel⟩, List.mem_of_getElem? (i := 113) (by decide +kernel), List.mem_of_getElem? (i := 342) (by decide +kernel), List.mem_of_getElem? (i := 343) (by decide +kernel)⟩
def lw_privs_1 : List (MethodName × Nat) := [(⟨"ExamHalls$Seating", "clear", "()V"⟩, 9), (⟨"ExamHalls$Seating", "seatPupils", "(I)V"⟩, 9), (⟨"ExamHalls$Seating", "seatInRoom", "(II)V"⟩, 9), (⟨"ExamHalls$Seating", "isEarlyEnough", "(II)Z"⟩, 9), (⟨"ExamHalls$Seating", "seatAtDesk", "(II)V"⟩, 9), (⟨"ExamHalls$Seating", "firstDesk", "(II)I"⟩, 9), (⟨"ExamHalls$Seating", "isBeside", "(IIII)Z"⟩, 9), (⟨"ExamHalls$History", "dropOldest", "()V"⟩, 2), (⟨"ExamHalls$Pad", "beginPupil", "()V"⟩, 10), (⟨"ExamHalls$Pad", "takes", "(I)Z"⟩, 10), (⟨"ExamHalls$Pad", "takesSemicolon", "()Z"⟩, 10), (⟨"ExamHalls$Pad", "mayEnd", "()Z"⟩, 10), (⟨"ExamHalls$Pad", "endPupil", "()V"⟩, 10), (⟨"ExamHalls$Pad", "takesPlus", "()Z"⟩, 10), (⟨"ExamHalls$Pad", "takesReader", "()Z"⟩, 10), (⟨"ExamHalls$Pad", "takesDigit", "(I)Z"⟩, 10)]
theorem lw_r1 : ∀ q ∈ lw_privs_1, lw_okq q := List.forall_mem_cons.mpr ⟨lw_p0, List.forall_mem_cons.mpr ⟨lw_p1, List.forall_mem_cons.mpr ⟨lw_p2, List.forall_mem_cons.mpr ⟨lw_p3, List.forall_mem_cons.mpr ⟨lw_p4, List.forall_mem_cons.mpr ⟨lw_p5, List.forall_mem_cons.mpr ⟨lw_p6, List.forall_mem_cons.mpr ⟨lw_p7, List.forall_mem_cons.mpr ⟨lw_p8, List.forall_mem_cons.mpr ⟨lw_p9, List.forall_mem_cons.mpr ⟨lw_p10, List.forall_mem_cons.mpr ⟨lw_p11, List.forall_mem_cons.mpr ⟨lw_p12, List.forall_mem_cons.mpr ⟨lw_p13, List.forall_mem_cons.mpr ⟨lw_p14, List.forall_mem_cons.mpr ⟨lw_p15, fun _ h => absurd h List.not_mem_nil⟩⟩⟩⟩⟩⟩⟩⟩⟩⟩⟩⟩⟩⟩⟩⟩
theorem lw_p16 : lw_okq (⟨"ExamHalls$Pad", "takesLetter", "(I)Z"⟩, 10) := ⟨⟨by decide +kernel, by decide +kernel⟩, List.mem_of_getElem? (i := 113) (by decide +kernel), List.mem_of_getElem? (i := 346) (by decide +kernel), List.mem_of_getElem? (i := 347) (by decide +kernel)⟩
theorem lw_p17 : lw_okq (⟨"ExamHalls", "isPupil", "(I)Z"⟩, 8) := ⟨⟨by decide +kernel, by decide +kernel⟩, List.mem_of_getElem? (i := 10) (by decide +kernel), List.mem_of_getElem? (i := 355) (by decide +kernel), List.mem_of_getElem? (i := 356) (by decide +kernel)⟩
theorem lw_p18 : lw_okq (⟨"ExamHalls$Seating", "takenIn", "(II)I"⟩, 9) := ⟨⟨by decide +kernel, by decide +kernel⟩, List.mem_of_getElem? (i := 18) (by decide +kernel), List.mem_of_getElem? (i := 460) (by decide +kernel), List.mem_of_getElem? (i := 461) (by decide +kernel)⟩
theorem lw_p19 : lw_okq (⟨"ExamHalls$Seating", "isNow", "(II)Z"⟩, 9) := ⟨⟨by decide +kernel, by decide +kernel⟩, List.mem_of_getElem? (i := 18) (by decide +kernel), List.mem_of_getElem? (i := 464) (by decide +kernel), List.mem_of_getElem? (i := 465) (by decide +kernel)⟩
theorem lw_p20 : lw_okq (⟨"ExamHallsModel", "hold", "()V"⟩, 14) := ⟨⟨by decide +kernel, by decide +kernel⟩, List.mem_of_getElem? (i := 571) (by decide +kernel), List.mem_of_getElem? (i := 628) (by decide +kernel), List.mem_of_getElem? (i := 629) (by decide +kernel)⟩
theorem lw_p21 : lw_okq (⟨"ExamHallsModel", "recorded", "(I)I"⟩, 14) := ⟨⟨by decide +kernel, by decide +kernel⟩, List.mem_of_getElem? (i := 571) (by decide +kernel), List.mem_of_getElem? (i := 632) (by decide +kernel), List.mem_of_getElem? (i := 633) (by decide +kernel)⟩
theorem lw_p22 : lw_okq (⟨"ExamHallsModel", "puts", "(IIII)V"⟩, 14) := ⟨⟨by decide +kernel, by decide +kernel⟩, List.mem_of_getElem? (i := 571) (by decide +kernel), List.mem_of_getElem? (i := 647) (by decide +kernel), List.mem_of_getElem? (i := 648) (by decide +kernel)⟩
theorem lw_p23 : lw_okq (⟨"ExamHallsModel", "isPupil", "(I)Z"⟩, 14) := ⟨⟨by decide +kernel, by decide +kernel⟩, List.mem_of_getElem? (i := 571) (by decide +kernel), List.mem_of_getElem? (i := 658) (by decide +kernel), List.mem_of_getElem? (i := 659) (by decide +kernel)⟩
theorem lw_p24 : lw_okq (⟨"ExamHallsModel", "clashesOf", "(I)I"⟩, 14) := ⟨⟨by decide +kernel, by decide +kernel⟩, List.mem_of_getElem? (i := 571) (by decide +kernel), List.mem_of_getElem? (i := 662) (by decide +kernel), List.mem_of_getElem? (i := 663) (by decide +kernel)⟩
theorem lw_p25 : lw_okq (⟨"ExamHallsModel", "isSitting", "(I)Z"⟩, 14) := ⟨⟨by decide +kernel, by decide +kernel⟩, List.mem_of_getElem? (i := 571) (by decide +kernel), List.mem_of_getElem? (i := 666) (by decide +kernel), List.mem_of_getElem? (i := 667) (by decide +kernel)⟩
theorem lw_p26 : lw_okq (⟨"ExamHallsModel", "clash", "(II)Z"⟩, 14) := ⟨⟨by decide +kernel, by decide +kernel⟩, List.mem_of_getElem? (i := 571) (by decide +kernel), List.mem_of_getElem? (i := 670) (by decide +kernel), List.mem_of_getElem? (i := 671) (by decide +kernel)⟩
theorem lw_p27 : lw_okq (⟨"ExamHallsModel", "ends", "(I)I"⟩, 14) := ⟨⟨by decide +kernel, by decide +kernel⟩, List.mem_of_getElem? (i := 571) (by decide +kernel), List.mem_of_getElem? (i := 674) (by decide +kernel), List.mem_of_getElem? (i := 675) (by decide +kernel)⟩
theorem lw_p28 : lw_okq (⟨"ExamHallsModel", "begins", "(I)I"⟩, 14) := ⟨⟨by decide +kernel, by decide +kernel⟩, List.mem_of_getElem? (i := 571) (by decide +kernel), List.mem_of_getElem? (i := 678) (by decide +kernel), List.mem_of_getElem? (i := 679) (by decide +kernel)⟩
theorem lw_p29 : lw_okq (⟨"ExamHallsModel", "minutes", "(I)I"⟩, 14) := ⟨⟨by decide +kernel, by decide +kernel⟩, List.mem_of_getElem? (i := 571) (by decide +kernel), List.mem_of_getElem? (i := 682) (by decide +kernel), List.mem_of_getElem? (i := 683) (by decide +kernel)⟩
theorem lw_p30 : lw_okq (⟨"ExamHallsModel", "desks", "(I)I"⟩, 14) := ⟨⟨by decide +kernel, by decide +kernel⟩, List.mem_of_getElem? (i := 571) (by decide +kernel), List.mem_of_getElem? (i := 697) (by decide +kernel), List.mem_of_getElem? (i := 698) (by decide +kernel)⟩
theorem lw_p31 : lw_okq (⟨"ExamHallsModel", "without", "(I)I"⟩, 14) := ⟨⟨by decide +kernel, by decide +kernel⟩, List.mem_of_getElem? (i := 571) (by decide +kernel), List.mem_of_getElem? (i := 708) (by decide +kernel), List.mem_of_getElem? (i := 709) (by decide +kernel)⟩
def lw_privs_2 : List (MethodName × Nat) := [(⟨"ExamHalls$Pad", "takesLetter", "(I)Z"⟩, 10), (⟨"ExamHalls", "isPupil", "(I)Z"⟩, 8), (⟨"ExamHalls$Seating", "takenIn", "(II)I"⟩, 9), (⟨"ExamHalls$Seating", "isNow", "(II)Z"⟩, 9), (⟨"ExamHallsModel", "hold", "()V"⟩, 14), (⟨"ExamHallsModel", "recorded", "(I)I"⟩, 14), (⟨"ExamHallsModel", "puts", "(IIII)V"⟩, 14), (⟨"ExamHallsModel", "isPupil", "(I)Z"⟩, 14), (⟨"ExamHallsModel", "clashesOf", "(I)I"⟩, 14), (⟨"ExamHallsModel", "isSitting", "(I)Z"⟩, 14), (⟨"ExamHallsModel", "clash", "(II)Z"⟩, 14), (⟨"ExamHallsModel", "ends", "(I)I"⟩, 14), (⟨"ExamHallsModel", "begins", "(I)I"⟩, 14), (⟨"ExamHallsModel", "minutes", "(I)I"⟩, 14), (⟨"ExamHallsModel", "desks", "(I)I"⟩, 14), (⟨"ExamHallsModel", "without", "(I)I"⟩, 14)]
theorem lw_r2 : ∀ q ∈ lw_privs_2, lw_okq q := List.forall_mem_cons.mpr ⟨lw_p16, List.forall_mem_cons.mpr ⟨lw_p17, List.forall_mem_cons.mpr ⟨lw_p18, List.forall_mem_cons.mpr ⟨lw_p19, List.forall_mem_cons.mpr ⟨lw_p20, List.forall_mem_cons.mpr ⟨lw_p21, List.forall_mem_cons.mpr ⟨lw_p22, List.forall_mem_cons.mpr ⟨lw_p23, List.forall_mem_cons.mpr ⟨lw_p24, List.forall_mem_cons.mpr ⟨lw_p25, List.forall_mem_cons.mpr ⟨lw_p26, List.forall_mem_cons.mpr ⟨lw_p27, List.forall_mem_cons.mpr ⟨lw_p28, List.forall_mem_cons.mpr ⟨lw_p29, List.forall_mem_cons.mpr ⟨lw_p30, List.forall_mem_cons.mpr ⟨lw_p31, fun _ h => absurd h List.not_mem_nil⟩⟩⟩⟩⟩⟩⟩⟩⟩⟩⟩⟩⟩⟩⟩⟩
theorem lw_p32 : lw_okq (⟨"ExamHallsModel", "seats", "()V"⟩, 14) := ⟨⟨by decide +kernel, by decide +kernel⟩, List.mem_of_getElem? (i := 571) (by decide +kernel), List.mem_of_getElem? (i := 712) (by decide +kernel), List.mem_of_getElem? (i := 713) (by decide +kernel)⟩
theorem lw_p33 : lw_okq (⟨"ExamHallsModel", "needsReader", "(I)Z"⟩, 14) := ⟨⟨by decide +kernel, by decide +kernel⟩, List.mem_of_getElem? (i := 571) (by decide +kernel), List.mem_of_getElem? (i := 716) (by decide +kernel), List.mem_of_getElem? (i := 717) (by decide +kernel)⟩
theorem lw_p34 : lw_okq (⟨"ExamHallsModel", "roomFor", "(I)I"⟩, 14) := ⟨⟨by decide +kernel, by decide +kernel⟩, List.mem_of_getElem? (i := 571) (by decide +kernel), List.mem_of_getElem? (i := 720) (by decide +kernel), List.mem_of_getElem? (i := 721) (by decide +kernel)⟩
theorem lw_p35 : lw_okq (⟨"ExamHallsModel", "isFree", "(II)Z"⟩, 14) := ⟨⟨by decide +kernel, by decide +kernel⟩, List.mem_of_getElem? (i := 571) (by decide +kernel), List.mem_of_getElem? (i := 724) (by decide +kernel), List.mem_of_getElem? (i := 725) (by decide +kernel)⟩
theorem lw_p36 : lw_okq (⟨"ExamHallsModel", "deskFor", "(I)I"⟩, 14) := ⟨⟨by decide +kernel, by decide +kernel⟩, List.mem_of_getElem? (i := 571) (by decide +kernel), List.mem_of_getElem? (i := 728) (by decide +kernel), List.mem_of_getElem? (i := 729) (by decide +kernel)⟩
theorem lw_p37 : lw_okq (⟨"ExamHallsModel", "desksAt", "(IZ)I"⟩, 14) := ⟨⟨by decide +kernel, by decide +kernel⟩, List.mem_of_getElem? (i := 571) (by decide +kernel), List.mem_of_getElem? (i := 732) (by decide +kernel), List.mem_of_getElem? (i := 733) (by decide +kernel)⟩
theorem lw_p38 : lw_okq (⟨"ExamHallsModel", "isAlone", "(III)Z"⟩, 14) := ⟨⟨by decide +kernel, by decide +kernel⟩, List.mem_of_getElem? (i := 571) (by decide +kernel), List.mem_of_getElem? (i := 736) (by decide +kernel), List.mem_of_getElem? (i := 737) (by decide +kernel)⟩
theorem lw_p39 : lw_okq (⟨"ExamHallsModel", "has", "(II)Z"⟩, 14) := ⟨⟨by decide +kernel, by decide +kernel⟩, List.mem_of_getElem? (i := 571) (by decide +kernel), List.mem_of_getElem? (i := 740) (by decide +kernel), List.mem_of_getElem? (i := 741) (by decide +kernel)⟩
theorem lw_p40 : lw_okq (⟨"ExamHallsModel", "faultOf", "()I"⟩, 14) := ⟨⟨by decide +kernel, by decide +kernel⟩, List.mem_of_getElem? (i := 571) (by decide +kernel), List.mem_of_getElem? (i := 748) (by decide +kernel), List.mem_of_getElem? (i := 749) (by decide +kernel)⟩
theorem lw_p41 : lw_okq (⟨"ExamHallsModel", "readsPupil", "()Z"⟩, 14) := ⟨⟨by decide +kernel, by decide +kernel⟩, List.mem_of_getElem? (i := 571) (by decide +kernel), List.mem_of_getElem? (i := 752) (by decide +kernel), List.mem_of_getElem? (i := 753) (by decide +kernel)⟩
theorem lw_p42 : lw_okq (⟨"ExamHallsModel", "letters", "()I"⟩, 14) := ⟨⟨by decide +kernel, by decide +kernel⟩, List.mem_of_getElem? (i := 571) (by decide +kernel), List.mem_of_getElem? (i := 756) (by decide +kernel), List.mem_of_getElem? (i := 757) (by decide +kernel)⟩
theorem lw_p43 : lw_okq (⟨"ExamHallsModel", "isSign", "(CC)Z"⟩, 14) := ⟨⟨by decide +kernel, by decide +kernel⟩, List.mem_of_getElem? (i := 571) (by decide +kernel), List.mem_of_getElem? (i := 760) (by decide +kernel), List.mem_of_getElem? (i := 761) (by decide +kernel)⟩
theorem lw_p44 : lw_okq (⟨"ExamHallsModel", "accepts", "(C)Z"⟩, 14) := ⟨⟨by decide +kernel, by decide +kernel⟩, List.mem_of_getElem? (i := 571) (by decide +kernel), List.mem_of_getElem? (i := 764) (by decide +kernel), List.mem_of_getElem? (i := 765) (by decide +kernel)⟩
theorem lw_p45 : lw_okq (⟨"ExamHallsModel", "number", "()I"⟩, 14) := ⟨⟨by decide +kernel, by decide +kernel⟩, List.mem_of_getElem? (i := 571) (by decide +kernel), List.mem_of_getElem? (i := 768) (by decide +kernel), List.mem_of_getElem? (i := 769) (by decide +kernel)⟩
theorem lw_p46 : lw_okq (⟨"ExamHallsModel", "unseated", "(I)I"⟩, 14) := ⟨⟨by decide +kernel, by decide +kernel⟩, List.mem_of_getElem? (i := 571) (by decide +kernel), List.mem_of_getElem? (i := 776) (by decide +kernel), List.mem_of_getElem? (i := 777) (by decide +kernel)⟩
theorem lw_p47 : lw_okq (⟨"ExamHallsModel", "allMinutes", "(I)I"⟩, 14) := ⟨⟨by decide +kernel, by decide +kernel⟩, List.mem_of_getElem? (i := 571) (by decide +kernel), List.mem_of_getElem? (i := 780) (by decide +kernel), List.mem_of_getElem? (i := 781) (by decide +kernel)⟩
def lw_privs_3 : List (MethodName × Nat) := [(⟨"ExamHallsModel", "seats", "()V"⟩, 14), (⟨"ExamHallsModel", "needsReader", "(I)Z"⟩, 14), (⟨"ExamHallsModel", "roomFor", "(I)I"⟩, 14), (⟨"ExamHallsModel", "isFree", "(II)Z"⟩, 14), (⟨"ExamHallsModel", "deskFor", "(I)I"⟩, 14), (⟨"ExamHallsModel", "desksAt", "(IZ)I"⟩, 14), (⟨"ExamHallsModel", "isAlone", "(III)Z"⟩, 14), (⟨"ExamHallsModel", "has", "(II)Z"⟩, 14), (⟨"ExamHallsModel", "faultOf", "()I"⟩, 14), (⟨"ExamHallsModel", "readsPupil", "()Z"⟩, 14), (⟨"ExamHallsModel", "letters", "()I"⟩, 14), (⟨"ExamHallsModel", "isSign", "(CC)Z"⟩, 14), (⟨"ExamHallsModel", "accepts", "(C)Z"⟩, 14), (⟨"ExamHallsModel", "number", "()I"⟩, 14), (⟨"ExamHallsModel", "unseated", "(I)I"⟩, 14), (⟨"ExamHallsModel", "allMinutes", "(I)I"⟩, 14)]
theorem lw_r3 : ∀ q ∈ lw_privs_3, lw_okq q := List.forall_mem_cons.mpr ⟨lw_p32, List.forall_mem_cons.mpr ⟨lw_p33, List.forall_mem_cons.mpr ⟨lw_p34, List.forall_mem_cons.mpr ⟨lw_p35, List.forall_mem_cons.mpr ⟨lw_p36, List.forall_mem_cons.mpr ⟨lw_p37, List.forall_mem_cons.mpr ⟨lw_p38, List.forall_mem_cons.mpr ⟨lw_p39, List.forall_mem_cons.mpr ⟨lw_p40, List.forall_mem_cons.mpr ⟨lw_p41, List.forall_mem_cons.mpr ⟨lw_p42, List.forall_mem_cons.mpr ⟨lw_p43, List.forall_mem_cons.mpr ⟨lw_p44, List.forall_mem_cons.mpr ⟨lw_p45, List.forall_mem_cons.mpr ⟨lw_p46, List.forall_mem_cons.mpr ⟨lw_p47, fun _ h => absurd h List.not_mem_nil⟩⟩⟩⟩⟩⟩⟩⟩⟩⟩⟩⟩⟩⟩⟩⟩
theorem lw_p48 : lw_okq (⟨"ExamHallsModel", "ofSittings", "(II)I"⟩, 14) := ⟨⟨by decide +kernel, by decide +kernel⟩, List.mem_of_getElem? (i := 571) (by decide +kernel), List.mem_of_getElem? (i := 788) (by decide +kernel), List.mem_of_getElem? (i := 789) (by decide +kernel)⟩
theorem lw_p49 : lw_okq (⟨"ExamHallsModel", "clashesWith", "(I)I"⟩, 14) := ⟨⟨by decide +kernel, by decide +kernel⟩, List.mem_of_getElem? (i := 571) (by decide +kernel), List.mem_of_getElem? (i := 796) (by decide +kernel), List.mem_of_getElem? (i := 797) (by decide +kernel)⟩
theorem lw_p50 : lw_okq (⟨"ExamHallsModel", "seatedIn", "(I)I"⟩, 14) := ⟨⟨by decide +kernel, by decide +kernel⟩, List.mem_of_getElem? (i := 571) (by decide +kernel), List.mem_of_getElem? (i := 804) (by decide +kernel), List.mem_of_getElem? (i := 805) (by decide +kernel)⟩
theorem lw_p51 : lw_okq (⟨"ExamHallsModel", "isIn", "(II)Z"⟩, 14) := ⟨⟨by decide +kernel, by decide +kernel⟩, List.mem_of_getElem? (i := 571) (by decide +kernel), List.mem_of_getElem? (i := 808) (by decide +kernel), List.mem_of_getElem? (i := 809) (by decide +kernel)⟩
theorem lw_p52 : lw_okq (⟨"ExamHallsModel", "most", "(I)I"⟩, 14) := ⟨⟨by decide +kernel, by decide +kernel⟩, List.mem_of_getElem? (i := 571) (by decide +kernel), List.mem_of_getElem? (i := 812) (by decide +kernel), List.mem_of_getElem? (i := 813) (by decide +kernel)⟩
theorem lw_p53 : lw_okq (⟨"ExamHallsModel", "atMinute", "(II)I"⟩, 14) := ⟨⟨by decide +kernel, by decide +kernel⟩, List.mem_of_getElem? (i := 571) (by decide +kernel), List.mem_of_getElem? (i := 816) (by decide +kernel), List.mem_of_getElem? (i := 817) (by decide +kernel)⟩
theorem lw_p54 : lw_okq (⟨"ExamHallsModel", "sittings", "()I"⟩, 14) := ⟨⟨by decide +kernel, by decide +kernel⟩, List.mem_of_getElem? (i := 571) (by decide +kernel), List.mem_of_getElem? (i := 824) (by decide +kernel), List.mem_of_getElem? (i := 825) (by decide +kernel)⟩
theorem lw_p55 : lw_okq (⟨"ExamHallsModel", "clashes", "()I"⟩, 14) := ⟨⟨by decide +kernel, by decide +kernel⟩, List.mem_of_getElem? (i := 571) (by decide +kernel), List.mem_of_getElem? (i := 828) (by decide +kernel), List.mem_of_getElem? (i := 829) (by decide +kernel)⟩
theorem lw_p56 : lw_okq (⟨"ExamHallsModel", "openHalls", "()I"⟩, 14) := ⟨⟨by decide +kernel, by decide +kernel⟩, List.mem_of_getElem? (i := 571) (by decide +kernel), List.mem_of_getElem? (i := 832) (by decide +kernel), List.mem_of_getElem? (i := 833) (by decide +kernel)⟩
theorem lw_p57 : lw_okq (⟨"ExamHallsModel", "desksOf", "(I)I"⟩, 14) := ⟨⟨by decide +kernel, by decide +kernel⟩, List.mem_of_getElem? (i := 571) (by decide +kernel), List.mem_of_getElem? (i := 836) (by decide +kernel), List.mem_of_getElem? (i := 837) (by decide +kernel)⟩
theorem lw_p58 : lw_okq (⟨"ExamHallsModel", "lastEnd", "()I"⟩, 14) := ⟨⟨by decide +kernel, by decide +kernel⟩, List.mem_of_getElem? (i := 571) (by decide +kernel), List.mem_of_getElem? (i := 840) (by decide +kernel), List.mem_of_getElem? (i := 841) (by decide +kernel)⟩
theorem lw_p59 : lw_okq (⟨"ExamHallsModel", "keepTrial", "()V"⟩, 14) := ⟨⟨by decide +kernel, by decide +kernel⟩, List.mem_of_getElem? (i := 571) (by decide +kernel), List.mem_of_getElem? (i := 862) (by decide +kernel), List.mem_of_getElem? (i := 863) (by decide +kernel)⟩
theorem lw_p60 : lw_okq (⟨"ExamHallsModel", "putBack", "()V"⟩, 14) := ⟨⟨by decide +kernel, by decide +kernel⟩, List.mem_of_getElem? (i := 571) (by decide +kernel), List.mem_of_getElem? (i := 866) (by decide +kernel), List.mem_of_getElem? (i := 867) (by decide +kernel)⟩
def lw_privs_4 : List (MethodName × Nat) := [(⟨"ExamHallsModel", "ofSittings", "(II)I"⟩, 14), (⟨"ExamHallsModel", "clashesWith", "(I)I"⟩, 14), (⟨"ExamHallsModel", "seatedIn", "(I)I"⟩, 14), (⟨"ExamHallsModel", "isIn", "(II)Z"⟩, 14), (⟨"ExamHallsModel", "most", "(I)I"⟩, 14), (⟨"ExamHallsModel", "atMinute", "(II)I"⟩, 14), (⟨"ExamHallsModel", "sittings", "()I"⟩, 14), (⟨"ExamHallsModel", "clashes", "()I"⟩, 14), (⟨"ExamHallsModel", "openHalls", "()I"⟩, 14), (⟨"ExamHallsModel", "desksOf", "(I)I"⟩, 14), (⟨"ExamHallsModel", "lastEnd", "()I"⟩, 14), (⟨"ExamHallsModel", "keepTrial", "()V"⟩, 14), (⟨"ExamHallsModel", "putBack", "()V"⟩, 14)]
theorem lw_r4 : ∀ q ∈ lw_privs_4, lw_okq q := List.forall_mem_cons.mpr ⟨lw_p48, List.forall_mem_cons.mpr ⟨lw_p49, List.forall_mem_cons.mpr ⟨lw_p50, List.forall_mem_cons.mpr ⟨lw_p51, List.forall_mem_cons.mpr ⟨lw_p52, List.forall_mem_cons.mpr ⟨lw_p53, List.forall_mem_cons.mpr ⟨lw_p54, List.forall_mem_cons.mpr ⟨lw_p55, List.forall_mem_cons.mpr ⟨lw_p56, List.forall_mem_cons.mpr ⟨lw_p57, List.forall_mem_cons.mpr ⟨lw_p58, List.forall_mem_cons.mpr ⟨lw_p59, List.forall_mem_cons.mpr ⟨lw_p60, fun _ h => absurd h List.not_mem_nil⟩⟩⟩⟩⟩⟩⟩⟩⟩⟩⟩⟩⟩
def lw_privs : List (MethodName × Nat) := lw_privs_1 ++ (lw_privs_2 ++ (lw_privs_3 ++ (lw_privs_4)))
def lw_tbl : List Cond := k2_sels lw_privs ++ tables_1
theorem lw_privs_ok : ∀ q ∈ lw_privs, lw_okq q := by
  show ∀ q ∈ lw_privs_1 ++ (lw_privs_2 ++ (lw_privs_3 ++ (lw_privs_4))), lw_okq q
  exact List.forall_mem_append.mpr ⟨lw_r1, List.forall_mem_append.mpr ⟨lw_r2, List.forall_mem_append.mpr ⟨lw_r3, lw_r4⟩⟩⟩
def RX0 : String := "ExamHalls$History"
def TX0 : u_T := fun k => match k with
  | 0 => ("ExamHalls$History", "states", "[LExamHalls$School;", true)
  | _ => ("ExamHalls$History", "size", "I", false)
def tyX0 : Nat → FieldType := fun k => match k with
  | 0 => .array (.object "ExamHalls$School")
  | _ => .int
abbrev wsX00 : List Cond := u_ws RX0 TX0 2
theorem nmX0 : ∀ a, a < 2 → ∀ b, b < 2 → a ≠ b → (TX0 a).2.1 ≠ (TX0 b).2.1 := by decide +kernel
theorem tyX0_ok : ∀ k, k < 2 → parseFieldDescriptor (TX0 k).2.2.1 = some (tyX0 k) := by decide +kernel
abbrev cX0_init : ByteArray := prog_2_method_1_code
def yX0_init : MethodName := ⟨RX0, "<init>", "()V"⟩
abbrev cX0_remember : ByteArray := prog_2_method_2_code
def yX0_remember : MethodName := ⟨RX0, "remember", "(LExamHalls$School;)V"⟩
abbrev cX0_dropOldest : ByteArray := prog_2_method_3_code
def yX0_dropOldest : MethodName := ⟨RX0, "dropOldest", "()V"⟩
abbrev cX0_takeBack : ByteArray := prog_2_method_4_code
def yX0_takeBack : MethodName := ⟨RX0, "takeBack", "(LExamHalls$School;)V"⟩
def RX1 : String := "ExamHalls$Pad"
def TX1 : u_T := fun k => match k with
  | 0 => ("ExamHalls$Pad", "signs", "[I", true)
  | 1 => ("ExamHalls$Pad", "length", "I", false)
  | 2 => ("ExamHalls$Pad", "foundPapers", "[I", true)
  | 3 => ("ExamHalls$Pad", "foundExtras", "[I", true)
  | 4 => ("ExamHalls$Pad", "foundReaders", "[Z", true)
  | 5 => ("ExamHalls$Pad", "found", "I", false)
  | 6 => ("ExamHalls$Pad", "state", "I", false)
  | 7 => ("ExamHalls$Pad", "papers", "I", false)
  | 8 => ("ExamHalls$Pad", "extra", "I", false)
  | _ => ("ExamHalls$Pad", "needsReader", "Z", false)
def tyX1 : Nat → FieldType := fun k => match k with
  | 0 => .array .int
  | 1 => .int
  | 2 => .array .int
  | 3 => .array .int
  | 4 => .array .boolean
  | 5 => .int
  | 6 => .int
  | 7 => .int
  | 8 => .int
  | _ => .boolean
abbrev wsX10 : List Cond := u_ws RX1 TX1 10
theorem nmX1 : ∀ a, a < 10 → ∀ b, b < 10 → a ≠ b → (TX1 a).2.1 ≠ (TX1 b).2.1 := by decide +kernel
theorem tyX1_ok : ∀ k, k < 10 → parseFieldDescriptor (TX1 k).2.2.1 = some (tyX1 k) := by decide +kernel
abbrev cX1_init : ByteArray := prog_3_method_1_code
def yX1_init : MethodName := ⟨RX1, "<init>", "()V"⟩
abbrev cX1_append : ByteArray := prog_3_method_2_code
def yX1_append : MethodName := ⟨RX1, "append", "(JI)V"⟩
abbrev cX1_findFault : ByteArray := prog_3_method_3_code
def yX1_findFault : MethodName := ⟨RX1, "findFault", "()I"⟩
abbrev cX1_beginPupil : ByteArray := prog_3_method_4_code
def yX1_beginPupil : MethodName := ⟨RX1, "beginPupil", "()V"⟩
abbrev cX1_endPupil : ByteArray := prog_3_method_5_code
def yX1_endPupil : MethodName := ⟨RX1, "endPupil", "()V"⟩
abbrev cX1_takes : ByteArray := prog_3_method_6_code
def yX1_takes : MethodName := ⟨RX1, "takes", "(I)Z"⟩
abbrev cX1_mayEnd : ByteArray := prog_3_method_7_code
def yX1_mayEnd : MethodName := ⟨RX1, "mayEnd", "()Z"⟩
abbrev cX1_takesSemicolon : ByteArray := prog_3_method_8_code
def yX1_takesSemicolon : MethodName := ⟨RX1, "takesSemicolon", "()Z"⟩
abbrev cX1_takesPlus : ByteArray := prog_3_method_9_code
def yX1_takesPlus : MethodName := ⟨RX1, "takesPlus", "()Z"⟩
abbrev cX1_takesReader : ByteArray := prog_3_method_10_code
def yX1_takesReader : MethodName := ⟨RX1, "takesReader", "()Z"⟩
abbrev cX1_takesDigit : ByteArray := prog_3_method_11_code
def yX1_takesDigit : MethodName := ⟨RX1, "takesDigit", "(I)Z"⟩
abbrev cX1_takesLetter : ByteArray := prog_3_method_12_code
def yX1_takesLetter : MethodName := ⟨RX1, "takesLetter", "(I)Z"⟩
def RX2 : String := "ExamHalls$School"
def TX2 : u_T := fun k => match k with
  | 0 => ("ExamHalls$School", "settings", "[I", true)
  | 1 => ("ExamHalls$School", "starts", "[I", true)
  | 2 => ("ExamHalls$School", "minutes", "[I", true)
  | 3 => ("ExamHalls$School", "papers", "[I", true)
  | 4 => ("ExamHalls$School", "extras", "[I", true)
  | 5 => ("ExamHalls$School", "readers", "[Z", true)
  | 6 => ("ExamHalls$School", "rows", "[I", true)
  | 7 => ("ExamHalls$School", "columns", "[I", true)
  | 8 => ("ExamHalls$School", "pupils", "I", false)
  | _ => ("ExamHalls$School", "openHalls", "I", false)
def tyX2 : Nat → FieldType := fun k => match k with
  | 0 => .array .int
  | 1 => .array .int
  | 2 => .array .int
  | 3 => .array .int
  | 4 => .array .int
  | 5 => .array .boolean
  | 6 => .array .int
  | 7 => .array .int
  | 8 => .int
  | _ => .int
abbrev wsX20 : List Cond := u_ws RX2 TX2 10
theorem nmX2 : ∀ a, a < 10 → ∀ b, b < 10 → a ≠ b → (TX2 a).2.1 ≠ (TX2 b).2.1 := by decide +kernel
theorem tyX2_ok : ∀ k, k < 10 → parseFieldDescriptor (TX2 k).2.2.1 = some (tyX2 k) := by decide +kernel
abbrev cX2_init : ByteArray := prog_4_method_1_code
def yX2_init : MethodName := ⟨RX2, "<init>", "()V"⟩
abbrev cX2_copyFrom : ByteArray := prog_4_method_2_code
def yX2_copyFrom : MethodName := ⟨RX2, "copyFrom", "(LExamHalls$School;)V"⟩
abbrev cX2_addPupil : ByteArray := prog_4_method_3_code
def yX2_addPupil : MethodName := ⟨RX2, "addPupil", "(IIZ)V"⟩
abbrev cX2_writePupil : ByteArray := prog_4_method_4_code
def yX2_writePupil : MethodName := ⟨RX2, "writePupil", "(IIIZ)V"⟩
abbrev cX2_removePupil : ByteArray := prog_4_method_5_code
def yX2_removePupil : MethodName := ⟨RX2, "removePupil", "(I)V"⟩
abbrev cX2_sits : ByteArray := prog_4_method_6_code
def yX2_sits : MethodName := ⟨RX2, "sits", "(II)Z"⟩
abbrev cX2_beginOf : ByteArray := prog_4_method_7_code
def yX2_beginOf : MethodName := ⟨RX2, "beginOf", "(I)I"⟩
abbrev cX2_lengthOf : ByteArray := prog_4_method_8_code
def yX2_lengthOf : MethodName := ⟨RX2, "lengthOf", "(II)I"⟩
abbrev cX2_endOf : ByteArray := prog_4_method_9_code
def yX2_endOf : MethodName := ⟨RX2, "endOf", "(II)I"⟩
abbrev cX2_isSatAt : ByteArray := prog_4_method_10_code
def yX2_isSatAt : MethodName := ⟨RX2, "isSatAt", "(III)Z"⟩
abbrev cX2_sittings : ByteArray := prog_4_method_11_code
def yX2_sittings : MethodName := ⟨RX2, "sittings", "()I"⟩
abbrev cX2_minutesOf : ByteArray := prog_4_method_12_code
def yX2_minutesOf : MethodName := ⟨RX2, "minutesOf", "(I)I"⟩
abbrev cX2_pupilsOf : ByteArray := prog_4_method_13_code
def yX2_pupilsOf : MethodName := ⟨RX2, "pupilsOf", "(I)I"⟩
abbrev cX2_clashingPapers : ByteArray := prog_4_method_14_code
def yX2_clashingPapers : MethodName := ⟨RX2, "clashingPapers", "(II)I"⟩
abbrev cX2_clashesOf : ByteArray := prog_4_method_15_code
def yX2_clashesOf : MethodName := ⟨RX2, "clashesOf", "(I)I"⟩
abbrev cX2_clashes : ByteArray := prog_4_method_16_code
def yX2_clashes : MethodName := ⟨RX2, "clashes", "()I"⟩
abbrev cX2_lastEndOf : ByteArray := prog_4_method_17_code
def yX2_lastEndOf : MethodName := ⟨RX2, "lastEndOf", "(I)I"⟩
abbrev cX2_lastEnd : ByteArray := prog_4_method_18_code
def yX2_lastEnd : MethodName := ⟨RX2, "lastEnd", "()I"⟩
abbrev cX2_mostReaders : ByteArray := prog_4_method_19_code
def yX2_mostReaders : MethodName := ⟨RX2, "mostReaders", "()I"⟩
abbrev cX2_readersAt : ByteArray := prog_4_method_20_code
def yX2_readersAt : MethodName := ⟨RX2, "readersAt", "(I)I"⟩
abbrev cX2_isOpen : ByteArray := prog_4_method_21_code
def yX2_isOpen : MethodName := ⟨RX2, "isOpen", "(I)Z"⟩
abbrev cX2_desksOf : ByteArray := prog_4_method_22_code
def yX2_desksOf : MethodName := ⟨RX2, "desksOf", "(I)I"⟩
abbrev cX2_openDesks : ByteArray := prog_4_method_23_code
def yX2_openDesks : MethodName := ⟨RX2, "openDesks", "()I"⟩
def RX3 : String := "ExamHalls$Seating"
def TX3 : u_T := fun k => match k with
  | 0 => ("ExamHalls$Seating", "school", "LExamHalls$School;", true)
  | 1 => ("ExamHalls$Seating", "halls", "[I", true)
  | 2 => ("ExamHalls$Seating", "desks", "[I", true)
  | 3 => ("ExamHalls$Seating", "rooms", "[I", true)
  | 4 => ("ExamHalls$Seating", "unplaced", "I", false)
  | 5 => ("ExamHalls$Seating", "unplacedReaders", "I", false)
  | 6 => ("ExamHalls$Seating", "deskEnds", "[I", true)
  | 7 => ("ExamHalls$Seating", "deskPapers", "[I", true)
  | _ => ("ExamHalls$Seating", "roomEnds", "[I", true)
def tyX3 : Nat → FieldType := fun k => match k with
  | 0 => .object "ExamHalls$School"
  | 1 => .array .int
  | 2 => .array .int
  | 3 => .array .int
  | 4 => .int
  | 5 => .int
  | 6 => .array .int
  | 7 => .array .int
  | _ => .array .int
abbrev wsX30 : List Cond := u_ws RX3 TX3 9
theorem nmX3 : ∀ a, a < 9 → ∀ b, b < 9 → a ≠ b → (TX3 a).2.1 ≠ (TX3 b).2.1 := by decide +kernel
theorem tyX3_ok : ∀ k, k < 9 → parseFieldDescriptor (TX3 k).2.2.1 = some (tyX3 k) := by decide +kernel
abbrev cX3_init : ByteArray := prog_5_method_1_code
def yX3_init : MethodName := ⟨RX3, "<init>", "()V"⟩
abbrev cX3_seatAll : ByteArray := prog_5_method_2_code
def yX3_seatAll : MethodName := ⟨RX3, "seatAll", "()V"⟩
abbrev cX3_clear : ByteArray := prog_5_method_3_code
def yX3_clear : MethodName := ⟨RX3, "clear", "()V"⟩
abbrev cX3_seatPupils : ByteArray := prog_5_method_4_code
def yX3_seatPupils : MethodName := ⟨RX3, "seatPupils", "(I)V"⟩
abbrev cX3_seatInRoom : ByteArray := prog_5_method_5_code
def yX3_seatInRoom : MethodName := ⟨RX3, "seatInRoom", "(II)V"⟩
abbrev cX3_seatAtDesk : ByteArray := prog_5_method_6_code
def yX3_seatAtDesk : MethodName := ⟨RX3, "seatAtDesk", "(II)V"⟩
abbrev cX3_firstDesk : ByteArray := prog_5_method_7_code
def yX3_firstDesk : MethodName := ⟨RX3, "firstDesk", "(II)I"⟩
abbrev cX3_isEarlyEnough : ByteArray := prog_5_method_8_code
def yX3_isEarlyEnough : MethodName := ⟨RX3, "isEarlyEnough", "(II)Z"⟩
abbrev cX3_isBeside : ByteArray := prog_5_method_9_code
def yX3_isBeside : MethodName := ⟨RX3, "isBeside", "(IIII)Z"⟩
abbrev cX3_isUnplaced : ByteArray := prog_5_method_10_code
def yX3_isUnplaced : MethodName := ⟨RX3, "isUnplaced", "(II)Z"⟩
abbrev cX3_unplacedPapersOf : ByteArray := prog_5_method_11_code
def yX3_unplacedPapersOf : MethodName := ⟨RX3, "unplacedPapersOf", "(I)I"⟩
abbrev cX3_unplacedOf : ByteArray := prog_5_method_12_code
def yX3_unplacedOf : MethodName := ⟨RX3, "unplacedOf", "(I)I"⟩
abbrev cX3_hallsOf : ByteArray := prog_5_method_13_code
def yX3_hallsOf : MethodName := ⟨RX3, "hallsOf", "(I)I"⟩
abbrev cX3_seatedIn : ByteArray := prog_5_method_14_code
def yX3_seatedIn : MethodName := ⟨RX3, "seatedIn", "(I)I"⟩
abbrev cX3_mostTakenIn : ByteArray := prog_5_method_15_code
def yX3_mostTakenIn : MethodName := ⟨RX3, "mostTakenIn", "(I)I"⟩
abbrev cX3_takenIn : ByteArray := prog_5_method_16_code
def yX3_takenIn : MethodName := ⟨RX3, "takenIn", "(II)I"⟩
abbrev cX3_sittingAt : ByteArray := prog_5_method_17_code
def yX3_sittingAt : MethodName := ⟨RX3, "sittingAt", "(III)I"⟩
abbrev cX3_isNow : ByteArray := prog_5_method_18_code
def yX3_isNow : MethodName := ⟨RX3, "isNow", "(II)Z"⟩
def RX4 : String := "ExamHalls"
def TX4 : u_T := fun k => match k with
  | 0 => ("ExamHalls", "seating", "LExamHalls$Seating;", true)
  | 1 => ("ExamHalls", "school", "LExamHalls$School;", true)
  | 2 => ("ExamHalls", "trialSeating", "LExamHalls$Seating;", true)
  | 3 => ("ExamHalls", "trial", "LExamHalls$School;", true)
  | 4 => ("ExamHalls", "pad", "LExamHalls$Pad;", true)
  | 5 => ("ExamHalls", "history", "LExamHalls$History;", true)
  | 6 => ("ExamHalls", "slots", "[LExamHalls$School;", true)
  | _ => ("ExamHalls", "slotIsUsed", "[Z", true)
def tyX4 : Nat → FieldType := fun k => match k with
  | 0 => .object "ExamHalls$Seating"
  | 1 => .object "ExamHalls$School"
  | 2 => .object "ExamHalls$Seating"
  | 3 => .object "ExamHalls$School"
  | 4 => .object "ExamHalls$Pad"
  | 5 => .object "ExamHalls$History"
  | 6 => .array (.object "ExamHalls$School")
  | _ => .array .boolean
abbrev wsX40 : List Cond := u_ws RX4 TX4 8
theorem nmX4 : ∀ a, a < 8 → ∀ b, b < 8 → a ≠ b → (TX4 a).2.1 ≠ (TX4 b).2.1 := by decide +kernel
theorem tyX4_ok : ∀ k, k < 8 → parseFieldDescriptor (TX4 k).2.2.1 = some (tyX4 k) := by decide +kernel
abbrev cX4_init : ByteArray := prog_1_method_1_code
def yX4_init : MethodName := ⟨RX4, "<init>", "()V"⟩
abbrev cX4_set : ByteArray := prog_1_method_2_code
def yX4_set : MethodName := ⟨RX4, "set", "(II)I"⟩
abbrev cX4_paper : ByteArray := prog_1_method_3_code
def yX4_paper : MethodName := ⟨RX4, "paper", "(III)I"⟩
abbrev cX4_pupil : ByteArray := prog_1_method_4_code
def yX4_pupil : MethodName := ⟨RX4, "pupil", "(IIZ)I"⟩
abbrev cX4_read : ByteArray := prog_1_method_5_code
def yX4_read : MethodName := ⟨RX4, "read", "()I"⟩
abbrev cX4_change : ByteArray := prog_1_method_6_code
def yX4_change : MethodName := ⟨RX4, "change", "(IIIZ)I"⟩
abbrev cX4_leave : ByteArray := prog_1_method_7_code
def yX4_leave : MethodName := ⟨RX4, "leave", "(I)I"⟩
abbrev cX4_hall : ByteArray := prog_1_method_8_code
def yX4_hall : MethodName := ⟨RX4, "hall", "(III)I"⟩
abbrev cX4_open : ByteArray := prog_1_method_9_code
def yX4_open : MethodName := ⟨RX4, "open", "(IZ)I"⟩
abbrev cX4_pupilOf : ByteArray := prog_1_method_10_code
def yX4_pupilOf : MethodName := ⟨RX4, "pupilOf", "(II)I"⟩
abbrev cX4_paperOf : ByteArray := prog_1_method_11_code
def yX4_paperOf : MethodName := ⟨RX4, "paperOf", "(II)I"⟩
abbrev cX4_sitting : ByteArray := prog_1_method_12_code
def yX4_sitting : MethodName := ⟨RX4, "sitting", "(III)I"⟩
abbrev cX4_hallOf : ByteArray := prog_1_method_13_code
def yX4_hallOf : MethodName := ⟨RX4, "hallOf", "(II)I"⟩
abbrev cX4_count : ByteArray := prog_1_method_14_code
def yX4_count : MethodName := ⟨RX4, "count", "(I)I"⟩
abbrev cX4_at : ByteArray := prog_1_method_15_code
def yX4_at : MethodName := ⟨RX4, "at", "(III)I"⟩
abbrev cX4_ifStart : ByteArray := prog_1_method_16_code
def yX4_ifStart : MethodName := ⟨RX4, "ifStart", "(III)I"⟩
abbrev cX4_bestStart : ByteArray := prog_1_method_17_code
def yX4_bestStart : MethodName := ⟨RX4, "bestStart", "(I)I"⟩
abbrev cX4_bestHalls : ByteArray := prog_1_method_18_code
def yX4_bestHalls : MethodName := ⟨RX4, "bestHalls", "(I)I"⟩
abbrev cX4_leastRooms : ByteArray := prog_1_method_19_code
def yX4_leastRooms : MethodName := ⟨RX4, "leastRooms", "()I"⟩
abbrev cX4_put : ByteArray := prog_1_method_20_code
def yX4_put : MethodName := ⟨RX4, "put", "(J)I"⟩
abbrev cX4_wipe : ByteArray := prog_1_method_21_code
def yX4_wipe : MethodName := ⟨RX4, "wipe", "()I"⟩
abbrev cX4_fault : ByteArray := prog_1_method_22_code
def yX4_fault : MethodName := ⟨RX4, "fault", "()I"⟩
abbrev cX4_undo : ByteArray := prog_1_method_23_code
def yX4_undo : MethodName := ⟨RX4, "undo", "()I"⟩
abbrev cX4_save : ByteArray := prog_1_method_24_code
def yX4_save : MethodName := ⟨RX4, "save", "(I)I"⟩
abbrev cX4_restore : ByteArray := prog_1_method_25_code
def yX4_restore : MethodName := ⟨RX4, "restore", "(I)I"⟩
abbrev cX4_isWithin : ByteArray := prog_1_method_26_code
def yX4_isWithin : MethodName := ⟨RX4, "isWithin", "(III)Z"⟩
abbrev cX4_isPaper : ByteArray := prog_1_method_27_code
def yX4_isPaper : MethodName := ⟨RX4, "isPaper", "(I)Z"⟩
abbrev cX4_isStart : ByteArray := prog_1_method_28_code
def yX4_isStart : MethodName := ⟨RX4, "isStart", "(I)Z"⟩
abbrev cX4_isHall : ByteArray := prog_1_method_29_code
def yX4_isHall : MethodName := ⟨RX4, "isHall", "(I)Z"⟩
abbrev cX4_isSlot : ByteArray := prog_1_method_30_code
def yX4_isSlot : MethodName := ⟨RX4, "isSlot", "(I)Z"⟩
abbrev cX4_isPupilData : ByteArray := prog_1_method_31_code
def yX4_isPupilData : MethodName := ⟨RX4, "isPupilData", "(II)Z"⟩
abbrev cX4_isPupil : ByteArray := prog_1_method_32_code
def yX4_isPupil : MethodName := ⟨RX4, "isPupil", "(I)Z"⟩
abbrev cX4_charactersIn : ByteArray := prog_1_method_33_code
def yX4_charactersIn : MethodName := ⟨RX4, "charactersIn", "(J)I"⟩
abbrev cX4_sittingNumber : ByteArray := prog_1_method_34_code
def yX4_sittingNumber : MethodName := ⟨RX4, "sittingNumber", "(II)I"⟩
abbrev cX4_contains : ByteArray := prog_1_method_35_code
def yX4_contains : MethodName := ⟨RX4, "contains", "(II)Z"⟩
def RX5 : String := "ExamHallsModel"
def TX5 : u_T := fun k => match k with
  | 0 => ("ExamHallsModel", "s", "[I", true)
  | 1 => ("ExamHallsModel", "spare", "[I", true)
  | 2 => ("ExamHallsModel", "trial", "[I", true)
  | 3 => ("ExamHallsModel", "before", "[I", true)
  | 4 => ("ExamHallsModel", "saved", "[I", true)
  | 5 => ("ExamHallsModel", "isSaved", "[Z", true)
  | 6 => ("ExamHallsModel", "seat", "[I", true)
  | 7 => ("ExamHallsModel", "read", "[I", true)
  | 8 => ("ExamHallsModel", "pad", "[C", true)
  | 9 => ("ExamHallsModel", "isSeated", "Z", false)
  | 10 => ("ExamHallsModel", "length", "I", false)
  | 11 => ("ExamHallsModel", "states", "I", false)
  | 12 => ("ExamHallsModel", "told", "I", false)
  | _ => ("ExamHallsModel", "at", "I", false)
def tyX5 : Nat → FieldType := fun k => match k with
  | 0 => .array .int
  | 1 => .array .int
  | 2 => .array .int
  | 3 => .array .int
  | 4 => .array .int
  | 5 => .array .boolean
  | 6 => .array .int
  | 7 => .array .int
  | 8 => .array .char
  | 9 => .boolean
  | 10 => .int
  | 11 => .int
  | 12 => .int
  | _ => .int
abbrev wsX50 : List Cond := u_ws RX5 TX5 14
theorem nmX5 : ∀ a, a < 14 → ∀ b, b < 14 → a ≠ b → (TX5 a).2.1 ≠ (TX5 b).2.1 := by decide +kernel
theorem tyX5_ok : ∀ k, k < 14 → parseFieldDescriptor (TX5 k).2.2.1 = some (tyX5 k) := by decide +kernel
abbrev cX5_init : ByteArray := prog_7_method_1_code
def yX5_init : MethodName := ⟨RX5, "<init>", "()V"⟩
abbrev cX5_in : ByteArray := prog_7_method_2_code
def yX5_in : MethodName := ⟨RX5, "in", "(III)Z"⟩
abbrev cX5_p : ByteArray := prog_7_method_3_code
def yX5_p : MethodName := ⟨RX5, "p", "(I)I"⟩
abbrev cX5_h : ByteArray := prog_7_method_4_code
def yX5_h : MethodName := ⟨RX5, "h", "(I)I"⟩
abbrev cX5_isPaper : ByteArray := prog_7_method_5_code
def yX5_isPaper : MethodName := ⟨RX5, "isPaper", "(I)Z"⟩
abbrev cX5_isHall : ByteArray := prog_7_method_6_code
def yX5_isHall : MethodName := ⟨RX5, "isHall", "(I)Z"⟩
abbrev cX5_isPupil : ByteArray := prog_7_method_7_code
def yX5_isPupil : MethodName := ⟨RX5, "isPupil", "(I)Z"⟩
abbrev cX5_hold : ByteArray := prog_7_method_8_code
def yX5_hold : MethodName := ⟨RX5, "hold", "()V"⟩
abbrev cX5_recorded : ByteArray := prog_7_method_9_code
def yX5_recorded : MethodName := ⟨RX5, "recorded", "(I)I"⟩
abbrev cX5_keepTrial : ByteArray := prog_7_method_10_code
def yX5_keepTrial : MethodName := ⟨RX5, "keepTrial", "()V"⟩
abbrev cX5_putBack : ByteArray := prog_7_method_11_code
def yX5_putBack : MethodName := ⟨RX5, "putBack", "()V"⟩
abbrev cX5_isSitting : ByteArray := prog_7_method_12_code
def yX5_isSitting : MethodName := ⟨RX5, "isSitting", "(I)Z"⟩
abbrev cX5_begins : ByteArray := prog_7_method_13_code
def yX5_begins : MethodName := ⟨RX5, "begins", "(I)I"⟩
abbrev cX5_minutes : ByteArray := prog_7_method_14_code
def yX5_minutes : MethodName := ⟨RX5, "minutes", "(I)I"⟩
abbrev cX5_ends : ByteArray := prog_7_method_15_code
def yX5_ends : MethodName := ⟨RX5, "ends", "(I)I"⟩
abbrev cX5_needsReader : ByteArray := prog_7_method_16_code
def yX5_needsReader : MethodName := ⟨RX5, "needsReader", "(I)Z"⟩
abbrev cX5_clash : ByteArray := prog_7_method_17_code
def yX5_clash : MethodName := ⟨RX5, "clash", "(II)Z"⟩
abbrev cX5_isFree : ByteArray := prog_7_method_18_code
def yX5_isFree : MethodName := ⟨RX5, "isFree", "(II)Z"⟩
abbrev cX5_has : ByteArray := prog_7_method_19_code
def yX5_has : MethodName := ⟨RX5, "has", "(II)Z"⟩
abbrev cX5_isAlone : ByteArray := prog_7_method_20_code
def yX5_isAlone : MethodName := ⟨RX5, "isAlone", "(III)Z"⟩
abbrev cX5_desks : ByteArray := prog_7_method_21_code
def yX5_desks : MethodName := ⟨RX5, "desks", "(I)I"⟩
abbrev cX5_desksAt : ByteArray := prog_7_method_22_code
def yX5_desksAt : MethodName := ⟨RX5, "desksAt", "(IZ)I"⟩
abbrev cX5_deskFor : ByteArray := prog_7_method_23_code
def yX5_deskFor : MethodName := ⟨RX5, "deskFor", "(I)I"⟩
abbrev cX5_roomFor : ByteArray := prog_7_method_24_code
def yX5_roomFor : MethodName := ⟨RX5, "roomFor", "(I)I"⟩
abbrev cX5_seats : ByteArray := prog_7_method_25_code
def yX5_seats : MethodName := ⟨RX5, "seats", "()V"⟩
abbrev cX5_without : ByteArray := prog_7_method_26_code
def yX5_without : MethodName := ⟨RX5, "without", "(I)I"⟩
abbrev cX5_clashesOf : ByteArray := prog_7_method_27_code
def yX5_clashesOf : MethodName := ⟨RX5, "clashesOf", "(I)I"⟩
abbrev cX5_clashes : ByteArray := prog_7_method_28_code
def yX5_clashes : MethodName := ⟨RX5, "clashes", "()I"⟩
abbrev cX5_lastEnd : ByteArray := prog_7_method_29_code
def yX5_lastEnd : MethodName := ⟨RX5, "lastEnd", "()I"⟩
abbrev cX5_set : ByteArray := prog_7_method_30_code
def yX5_set : MethodName := ⟨RX5, "set", "(II)I"⟩
abbrev cX5_paper : ByteArray := prog_7_method_31_code
def yX5_paper : MethodName := ⟨RX5, "paper", "(III)I"⟩
abbrev cX5_puts : ByteArray := prog_7_method_32_code
def yX5_puts : MethodName := ⟨RX5, "puts", "(IIII)V"⟩
abbrev cX5_pupil : ByteArray := prog_7_method_33_code
def yX5_pupil : MethodName := ⟨RX5, "pupil", "(IIZ)I"⟩
abbrev cX5_change : ByteArray := prog_7_method_34_code
def yX5_change : MethodName := ⟨RX5, "change", "(IIIZ)I"⟩
abbrev cX5_leave : ByteArray := prog_7_method_35_code
def yX5_leave : MethodName := ⟨RX5, "leave", "(I)I"⟩
abbrev cX5_hall : ByteArray := prog_7_method_36_code
def yX5_hall : MethodName := ⟨RX5, "hall", "(III)I"⟩
abbrev cX5_open : ByteArray := prog_7_method_37_code
def yX5_open : MethodName := ⟨RX5, "open", "(IZ)I"⟩
abbrev cX5_isSign : ByteArray := prog_7_method_38_code
def yX5_isSign : MethodName := ⟨RX5, "isSign", "(CC)Z"⟩
abbrev cX5_accepts : ByteArray := prog_7_method_39_code
def yX5_accepts : MethodName := ⟨RX5, "accepts", "(C)Z"⟩
abbrev cX5_letters : ByteArray := prog_7_method_40_code
def yX5_letters : MethodName := ⟨RX5, "letters", "()I"⟩
abbrev cX5_number : ByteArray := prog_7_method_41_code
def yX5_number : MethodName := ⟨RX5, "number", "()I"⟩
abbrev cX5_readsPupil : ByteArray := prog_7_method_42_code
def yX5_readsPupil : MethodName := ⟨RX5, "readsPupil", "()Z"⟩
abbrev cX5_faultOf : ByteArray := prog_7_method_43_code
def yX5_faultOf : MethodName := ⟨RX5, "faultOf", "()I"⟩
abbrev cX5_read : ByteArray := prog_7_method_44_code
def yX5_read : MethodName := ⟨RX5, "read", "()I"⟩
abbrev cX5_unseated : ByteArray := prog_7_method_45_code
def yX5_unseated : MethodName := ⟨RX5, "unseated", "(I)I"⟩
abbrev cX5_allMinutes : ByteArray := prog_7_method_46_code
def yX5_allMinutes : MethodName := ⟨RX5, "allMinutes", "(I)I"⟩
abbrev cX5_pupilOf : ByteArray := prog_7_method_47_code
def yX5_pupilOf : MethodName := ⟨RX5, "pupilOf", "(II)I"⟩
abbrev cX5_ofSittings : ByteArray := prog_7_method_48_code
def yX5_ofSittings : MethodName := ⟨RX5, "ofSittings", "(II)I"⟩
abbrev cX5_paperOf : ByteArray := prog_7_method_49_code
def yX5_paperOf : MethodName := ⟨RX5, "paperOf", "(II)I"⟩
abbrev cX5_clashesWith : ByteArray := prog_7_method_50_code
def yX5_clashesWith : MethodName := ⟨RX5, "clashesWith", "(I)I"⟩
abbrev cX5_sitting : ByteArray := prog_7_method_51_code
def yX5_sitting : MethodName := ⟨RX5, "sitting", "(III)I"⟩
abbrev cX5_isIn : ByteArray := prog_7_method_52_code
def yX5_isIn : MethodName := ⟨RX5, "isIn", "(II)Z"⟩
abbrev cX5_atMinute : ByteArray := prog_7_method_53_code
def yX5_atMinute : MethodName := ⟨RX5, "atMinute", "(II)I"⟩
abbrev cX5_most : ByteArray := prog_7_method_54_code
def yX5_most : MethodName := ⟨RX5, "most", "(I)I"⟩
abbrev cX5_seatedIn : ByteArray := prog_7_method_55_code
def yX5_seatedIn : MethodName := ⟨RX5, "seatedIn", "(I)I"⟩
abbrev cX5_hallOf : ByteArray := prog_7_method_56_code
def yX5_hallOf : MethodName := ⟨RX5, "hallOf", "(II)I"⟩
abbrev cX5_sittings : ByteArray := prog_7_method_57_code
def yX5_sittings : MethodName := ⟨RX5, "sittings", "()I"⟩
abbrev cX5_openHalls : ByteArray := prog_7_method_58_code
def yX5_openHalls : MethodName := ⟨RX5, "openHalls", "()I"⟩
abbrev cX5_desksOf : ByteArray := prog_7_method_59_code
def yX5_desksOf : MethodName := ⟨RX5, "desksOf", "(I)I"⟩
abbrev cX5_count : ByteArray := prog_7_method_60_code
def yX5_count : MethodName := ⟨RX5, "count", "(I)I"⟩
abbrev cX5_at : ByteArray := prog_7_method_61_code
def yX5_at : MethodName := ⟨RX5, "at", "(III)I"⟩
abbrev cX5_ifStart : ByteArray := prog_7_method_62_code
def yX5_ifStart : MethodName := ⟨RX5, "ifStart", "(III)I"⟩
abbrev cX5_bestStart : ByteArray := prog_7_method_63_code
def yX5_bestStart : MethodName := ⟨RX5, "bestStart", "(I)I"⟩
abbrev cX5_bestHalls : ByteArray := prog_7_method_64_code
def yX5_bestHalls : MethodName := ⟨RX5, "bestHalls", "(I)I"⟩
abbrev cX5_leastRooms : ByteArray := prog_7_method_65_code
def yX5_leastRooms : MethodName := ⟨RX5, "leastRooms", "()I"⟩
abbrev cX5_put : ByteArray := prog_7_method_66_code
def yX5_put : MethodName := ⟨RX5, "put", "(J)I"⟩
abbrev cX5_wipe : ByteArray := prog_7_method_67_code
def yX5_wipe : MethodName := ⟨RX5, "wipe", "()I"⟩
abbrev cX5_fault : ByteArray := prog_7_method_68_code
def yX5_fault : MethodName := ⟨RX5, "fault", "()I"⟩
abbrev cX5_undo : ByteArray := prog_7_method_69_code
def yX5_undo : MethodName := ⟨RX5, "undo", "()I"⟩
abbrev cX5_save : ByteArray := prog_7_method_70_code
def yX5_save : MethodName := ⟨RX5, "save", "(I)I"⟩
abbrev cX5_restore : ByteArray := prog_7_method_71_code
def yX5_restore : MethodName := ⟨RX5, "restore", "(I)I"⟩
def RJ6 : String := "java/lang/Integer"
def TJ6 : u_T := fun k => match k with
  | _ => ("", "", "", false)
def tyJ6 : Nat → FieldType := fun k => match k with
  | _ => .int
abbrev wsJ60 : List Cond := u_ws RJ6 TJ6 0
theorem nmJ6 : ∀ a, a < 0 → ∀ b, b < 0 → a ≠ b → (TJ6 a).2.1 ≠ (TJ6 b).2.1 := by decide +kernel
theorem tyJ6_ok : ∀ k, k < 0 → parseFieldDescriptor (TJ6 k).2.2.1 = some (tyJ6 k) := by decide +kernel
abbrev cJ6_bitCount_0f7a4 : ByteArray := prog_8_method_49_code
def yJ6_bitCount_0f7a4 : MethodName := ⟨RJ6, "bitCount", "(I)I"⟩
def RJ9 : String := "java/lang/Math"
def TJ9 : u_T := fun k => match k with
  | _ => ("", "", "", false)
def tyJ9 : Nat → FieldType := fun k => match k with
  | _ => .int
abbrev wsJ90 : List Cond := u_ws RJ9 TJ9 0
theorem nmJ9 : ∀ a, a < 0 → ∀ b, b < 0 → a ≠ b → (TJ9 a).2.1 ≠ (TJ9 b).2.1 := by decide +kernel
theorem tyJ9_ok : ∀ k, k < 0 → parseFieldDescriptor (TJ9 k).2.2.1 = some (tyJ9 k) := by decide +kernel
abbrev cJ9_max_7cf53 : ByteArray := prog_9_method_65_code
def yJ9_max_7cf53 : MethodName := ⟨RJ9, "max", "(II)I"⟩
def RL : String := "ExamHallsLaw"
abbrev cL_law : ByteArray := code
def yL_law : MethodName := ⟨RL, "law", "([I)Z"⟩
abbrev vwCl : List vw_C := [(RX0, TX0, 2), (RX1, TX1, 10), (RX2, TX2, 10), (RX3, TX3, 9), (RX4, TX4, 8), (RX5, TX5, 14)]
