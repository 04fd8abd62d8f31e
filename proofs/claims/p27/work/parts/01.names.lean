-- ===== PART A: goes FIRST, ahead of the names: the tables' words, and 'selects' of the private methods out of them =====
/-- a private method of a class that the tables say can be made, by its rows of tables_1 -/
def lw_okq (q : MethodName × Nat) : Prop := (q.1.cls ≠ "java/lang/invoke/MethodHandle" ∧ q.1.cls ≠ "java/lang/invoke/VarHandle") ∧ Cond.instantiable q.1.cls q.2 ∈ tables_1 ∧ Cond.privateMethod q.1 ∈ tables_1 ∧ Cond.instanceMethod q.1 ∈ tables_1
theorem lw_p0 : lw_okq (⟨"ExamHalls$Seating", "clear", "()V"⟩, 9) := ⟨⟨by decide +kernel, by decide +kernel⟩, List.mem_of_getElem? (i := 17) (by decide +kernel), List.mem_of_getElem? (i := 173) (by decide +kernel), List.mem_of_getElem? (i := 174) (by decide +kernel)⟩
theorem lw_p1 : lw_okq (⟨"ExamHalls$Seating", "seatPupils", "(I)V"⟩, 9) := ⟨⟨by decide +kernel, by decide +kernel⟩, List.mem_of_getElem? (i := 17) (by decide +kernel), List.mem_of_getElem? (i := 177) (by decide +kernel), List.mem_of_getElem? (i := 178) (by decide +kernel)⟩
theorem lw_p2 : lw_okq (⟨"ExamHalls$Seating", "seatInRoom", "(II)V"⟩, 9) := ⟨⟨by decide +kernel, by decide +kernel⟩, List.mem_of_getElem? (i := 17) (by decide +kernel), List.mem_of_getElem? (i := 188) (by decide +kernel), List.mem_of_getElem? (i := 189) (by decide +kernel)⟩
theorem lw_p3 : lw_okq (⟨"ExamHalls$Seating", "isEarlyEnough", "(II)Z"⟩, 9) := ⟨⟨by decide +kernel, by decide +kernel⟩, List.mem_of_getElem? (i := 17) (by decide +kernel), List.mem_of_getElem? (i := 192) (by decide +kernel), List.mem_of_getElem? (i := 193) (by decide +kernel)⟩
theorem lw_p4 : lw_okq (⟨"ExamHalls$Seating", "seatAtDesk", "(II)V"⟩, 9) := ⟨⟨by decide +kernel, by decide +kernel⟩, List.mem_of_getElem? (i := 17) (by decide +kernel), List.mem_of_getElem? (i := 212) (by decide +kernel), List.mem_of_getElem? (i := 213) (by decide +kernel)⟩
theorem lw_p5 : lw_okq (⟨"ExamHalls$Seating", "firstDesk", "(II)I"⟩, 9) := ⟨⟨by decide +kernel, by decide +kernel⟩, List.mem_of_getElem? (i := 17) (by decide +kernel), List.mem_of_getElem? (i := 220) (by decide +kernel), List.mem_of_getElem? (i := 221) (by decide +kernel)⟩
theorem lw_p6 : lw_okq (⟨"ExamHalls$Seating", "isBeside", "(IIII)Z"⟩, 9) := ⟨⟨by decide +kernel, by decide +kernel⟩, List.mem_of_getElem? (i := 17) (by decide +kernel), List.mem_of_getElem? (i := 224) (by decide +kernel), List.mem_of_getElem? (i := 225) (by decide +kernel)⟩
theorem lw_p7 : lw_okq (⟨"ExamHalls$History", "dropOldest", "()V"⟩, 2) := ⟨⟨by decide +kernel, by decide +kernel⟩, List.mem_of_getElem? (i := 150) (by decide +kernel), List.mem_of_getElem? (i := 360) (by decide +kernel), List.mem_of_getElem? (i := 361) (by decide +kernel)⟩
theorem lw_p8 : lw_okq (⟨"ExamHalls", "isPupil", "(I)Z"⟩, 8) := ⟨⟨by decide +kernel, by decide +kernel⟩, List.mem_of_getElem? (i := 9) (by decide +kernel), List.mem_of_getElem? (i := 379) (by decide +kernel), List.mem_of_getElem? (i := 380) (by decide +kernel)⟩
theorem lw_p9 : lw_okq (⟨"ExamHalls$Seating", "takenIn", "(II)I"⟩, 9) := ⟨⟨by decide +kernel, by decide +kernel⟩, List.mem_of_getElem? (i := 17) (by decide +kernel), List.mem_of_getElem? (i := 407) (by decide +kernel), List.mem_of_getElem? (i := 408) (by decide +kernel)⟩
theorem lw_p10 : lw_okq (⟨"ExamHalls$Seating", "isNow", "(II)Z"⟩, 9) := ⟨⟨by decide +kernel, by decide +kernel⟩, List.mem_of_getElem? (i := 17) (by decide +kernel), List.mem_of_getElem? (i := 411) (by decide +kernel), List.mem_of_getElem? (i := 412) (by decide +kernel)⟩
def lw_privs_1 : List (MethodName × Nat) := [(⟨"ExamHalls$Seating", "clear", "()V"⟩, 9), (⟨"ExamHalls$Seating", "seatPupils", "(I)V"⟩, 9), (⟨"ExamHalls$Seating", "seatInRoom", "(II)V"⟩, 9), (⟨"ExamHalls$Seating", "isEarlyEnough", "(II)Z"⟩, 9), (⟨"ExamHalls$Seating", "seatAtDesk", "(II)V"⟩, 9), (⟨"ExamHalls$Seating", "firstDesk", "(II)I"⟩, 9), (⟨"ExamHalls$Seating", "isBeside", "(IIII)Z"⟩, 9), (⟨"ExamHalls$History", "dropOldest", "()V"⟩, 2), (⟨"ExamHalls", "isPupil", "(I)Z"⟩, 8), (⟨"ExamHalls$Seating", "takenIn", "(II)I"⟩, 9), (⟨"ExamHalls$Seating", "isNow", "(II)Z"⟩, 9)]
theorem lw_r1 : ∀ q ∈ lw_privs_1, lw_okq q := List.forall_mem_cons.mpr ⟨lw_p0, List.forall_mem_cons.mpr ⟨lw_p1, List.forall_mem_cons.mpr ⟨lw_p2, List.forall_mem_cons.mpr ⟨lw_p3, List.forall_mem_cons.mpr ⟨lw_p4, List.forall_mem_cons.mpr ⟨lw_p5, List.forall_mem_cons.mpr ⟨lw_p6, List.forall_mem_cons.mpr ⟨lw_p7, List.forall_mem_cons.mpr ⟨lw_p8, List.forall_mem_cons.mpr ⟨lw_p9, List.forall_mem_cons.mpr ⟨lw_p10, fun _ h => absurd h List.not_mem_nil⟩⟩⟩⟩⟩⟩⟩⟩⟩⟩⟩
def lw_privs : List (MethodName × Nat) := lw_privs_1
def lw_tbl : List Cond := k2_sels lw_privs ++ tables_1
theorem lw_privs_ok : ∀ q ∈ lw_privs, lw_okq q := lw_r1
def RX0 : String := "ExamHalls$History"
def TX0 : u_T := fun k => match k with
  | 0 => ("ExamHalls$History", "states", "[LExamHalls$School;", true)
  | _ => ("ExamHalls$History", "size", "I", false)
def tyX0 : Nat → FieldType := fun k => match k with
  | 0 => .array (.object "ExamHalls$School")
  | _ => .int
abbrev wsX00 : List Cond := u_ws RX0 TX0 2
theorem nmX0 : ∀ a, a < 2 → ∀ b, b < 2 → a ≠ b → (TX0 a).2.1 ≠ (TX0 b).2.1 := by decide +kernel
theorem tyX0_ok : ∀ k, k < 2 → parseFieldDescriptor (TX0 k).2.2.1 = some (tyX0 k) := by decide +kernel
abbrev cX0_init : ByteArray := prog_2_method_1_code
def yX0_init : MethodName := ⟨RX0, "<init>", "()V"⟩
abbrev cX0_remember : ByteArray := prog_2_method_2_code
def yX0_remember : MethodName := ⟨RX0, "remember", "(LExamHalls$School;)V"⟩
abbrev cX0_dropOldest : ByteArray := prog_2_method_3_code
def yX0_dropOldest : MethodName := ⟨RX0, "dropOldest", "()V"⟩
abbrev cX0_takeBack : ByteArray := prog_2_method_4_code
def yX0_takeBack : MethodName := ⟨RX0, "takeBack", "(LExamHalls$School;)V"⟩
def RX1 : String := "ExamHalls$Pad"
def TX1 : u_T := fun k => match k with
  | 0 => ("ExamHalls$Pad", "signs", "[I", true)
  | 1 => ("ExamHalls$Pad", "length", "I", false)
  | 2 => ("ExamHalls$Pad", "foundPapers", "[I", true)
  | 3 => ("ExamHalls$Pad", "foundExtras", "[I", true)
  | 4 => ("ExamHalls$Pad", "foundReaders", "[Z", true)
  | 5 => ("ExamHalls$Pad", "found", "I", false)
  | 6 => ("ExamHalls$Pad", "state", "I", false)
  | 7 => ("ExamHalls$Pad", "papers", "I", false)
  | 8 => ("ExamHalls$Pad", "extra", "I", false)
  | _ => ("ExamHalls$Pad", "needsReader", "Z", false)
def tyX1 : Nat → FieldType := fun k => match k with
  | 0 => .array .int
  | 1 => .int
  | 2 => .array .int
  | 3 => .array .int
  | 4 => .array .boolean
  | 5 => .int
  | 6 => .int
  | 7 => .int
  | 8 => .int
  | _ => .boolean
abbrev wsX10 : List Cond := u_ws RX1 TX1 10
theorem nmX1 : ∀ a, a < 10 → ∀ b, b < 10 → a ≠ b → (TX1 a).2.1 ≠ (TX1 b).2.1 := by decide +kernel
theorem tyX1_ok : ∀ k, k < 10 → parseFieldDescriptor (TX1 k).2.2.1 = some (tyX1 k) := by decide +kernel
abbrev cX1_init : ByteArray := prog_3_method_1_code
def yX1_init : MethodName := ⟨RX1, "<init>", "()V"⟩
def RX2 : String := "ExamHalls$School"
def TX2 : u_T := fun k => match k with
  | 0 => ("ExamHalls$School", "settings", "[I", true)
  | 1 => ("ExamHalls$School", "starts", "[I", true)
  | 2 => ("ExamHalls$School", "minutes", "[I", true)
  | 3 => ("ExamHalls$School", "papers", "[I", true)
  | 4 => ("ExamHalls$School", "extras", "[I", true)
  | 5 => ("ExamHalls$School", "readers", "[Z", true)
  | 6 => ("ExamHalls$School", "rows", "[I", true)
  | 7 => ("ExamHalls$School", "columns", "[I", true)
  | 8 => ("ExamHalls$School", "pupils", "I", false)
  | _ => ("ExamHalls$School", "openHalls", "I", false)
def tyX2 : Nat → FieldType := fun k => match k with
  | 0 => .array .int
  | 1 => .array .int
  | 2 => .array .int
  | 3 => .array .int
  | 4 => .array .int
  | 5 => .array .boolean
  | 6 => .array .int
  | 7 => .array .int
  | 8 => .int
  | _ => .int
abbrev wsX20 : List Cond := u_ws RX2 TX2 10
theorem nmX2 : ∀ a, a < 10 → ∀ b, b < 10 → a ≠ b → (TX2 a).2.1 ≠ (TX2 b).2.1 := by decide +kernel
theorem tyX2_ok : ∀ k, k < 10 → parseFieldDescriptor (TX2 k).2.2.1 = some (tyX2 k) := by decide +kernel
abbrev cX2_init : ByteArray := prog_4_method_1_code
def yX2_init : MethodName := ⟨RX2, "<init>", "()V"⟩
abbrev cX2_copyFrom : ByteArray := prog_4_method_2_code
def yX2_copyFrom : MethodName := ⟨RX2, "copyFrom", "(LExamHalls$School;)V"⟩
abbrev cX2_addPupil : ByteArray := prog_4_method_3_code
def yX2_addPupil : MethodName := ⟨RX2, "addPupil", "(IIZ)V"⟩
abbrev cX2_writePupil : ByteArray := prog_4_method_4_code
def yX2_writePupil : MethodName := ⟨RX2, "writePupil", "(IIIZ)V"⟩
abbrev cX2_removePupil : ByteArray := prog_4_method_5_code
def yX2_removePupil : MethodName := ⟨RX2, "removePupil", "(I)V"⟩
abbrev cX2_sits : ByteArray := prog_4_method_6_code
def yX2_sits : MethodName := ⟨RX2, "sits", "(II)Z"⟩
abbrev cX2_beginOf : ByteArray := prog_4_method_7_code
def yX2_beginOf : MethodName := ⟨RX2, "beginOf", "(I)I"⟩
abbrev cX2_lengthOf : ByteArray := prog_4_method_8_code
def yX2_lengthOf : MethodName := ⟨RX2, "lengthOf", "(II)I"⟩
abbrev cX2_endOf : ByteArray := prog_4_method_9_code
def yX2_endOf : MethodName := ⟨RX2, "endOf", "(II)I"⟩
abbrev cX2_isSatAt : ByteArray := prog_4_method_10_code
def yX2_isSatAt : MethodName := ⟨RX2, "isSatAt", "(III)Z"⟩
abbrev cX2_sittings : ByteArray := prog_4_method_11_code
def yX2_sittings : MethodName := ⟨RX2, "sittings", "()I"⟩
abbrev cX2_minutesOf : ByteArray := prog_4_method_12_code
def yX2_minutesOf : MethodName := ⟨RX2, "minutesOf", "(I)I"⟩
abbrev cX2_pupilsOf : ByteArray := prog_4_method_13_code
def yX2_pupilsOf : MethodName := ⟨RX2, "pupilsOf", "(I)I"⟩
abbrev cX2_clashingPapers : ByteArray := prog_4_method_14_code
def yX2_clashingPapers : MethodName := ⟨RX2, "clashingPapers", "(II)I"⟩
abbrev cX2_clashesOf : ByteArray := prog_4_method_15_code
def yX2_clashesOf : MethodName := ⟨RX2, "clashesOf", "(I)I"⟩
abbrev cX2_clashes : ByteArray := prog_4_method_16_code
def yX2_clashes : MethodName := ⟨RX2, "clashes", "()I"⟩
abbrev cX2_lastEndOf : ByteArray := prog_4_method_17_code
def yX2_lastEndOf : MethodName := ⟨RX2, "lastEndOf", "(I)I"⟩
abbrev cX2_lastEnd : ByteArray := prog_4_method_18_code
def yX2_lastEnd : MethodName := ⟨RX2, "lastEnd", "()I"⟩
abbrev cX2_mostReaders : ByteArray := prog_4_method_19_code
def yX2_mostReaders : MethodName := ⟨RX2, "mostReaders", "()I"⟩
abbrev cX2_readersAt : ByteArray := prog_4_method_20_code
def yX2_readersAt : MethodName := ⟨RX2, "readersAt", "(I)I"⟩
abbrev cX2_isOpen : ByteArray := prog_4_method_21_code
def yX2_isOpen : MethodName := ⟨RX2, "isOpen", "(I)Z"⟩
abbrev cX2_desksOf : ByteArray := prog_4_method_22_code
def yX2_desksOf : MethodName := ⟨RX2, "desksOf", "(I)I"⟩
abbrev cX2_openDesks : ByteArray := prog_4_method_23_code
def yX2_openDesks : MethodName := ⟨RX2, "openDesks", "()I"⟩
def RX3 : String := "ExamHalls$Seating"
def TX3 : u_T := fun k => match k with
  | 0 => ("ExamHalls$Seating", "school", "LExamHalls$School;", true)
  | 1 => ("ExamHalls$Seating", "halls", "[I", true)
  | 2 => ("ExamHalls$Seating", "desks", "[I", true)
  | 3 => ("ExamHalls$Seating", "rooms", "[I", true)
  | 4 => ("ExamHalls$Seating", "unplaced", "I", false)
  | 5 => ("ExamHalls$Seating", "unplacedReaders", "I", false)
  | 6 => ("ExamHalls$Seating", "deskEnds", "[I", true)
  | 7 => ("ExamHalls$Seating", "deskPapers", "[I", true)
  | _ => ("ExamHalls$Seating", "roomEnds", "[I", true)
def tyX3 : Nat → FieldType := fun k => match k with
  | 0 => .object "ExamHalls$School"
  | 1 => .array .int
  | 2 => .array .int
  | 3 => .array .int
  | 4 => .int
  | 5 => .int
  | 6 => .array .int
  | 7 => .array .int
  | _ => .array .int
abbrev wsX30 : List Cond := u_ws RX3 TX3 9
theorem nmX3 : ∀ a, a < 9 → ∀ b, b < 9 → a ≠ b → (TX3 a).2.1 ≠ (TX3 b).2.1 := by decide +kernel
theorem tyX3_ok : ∀ k, k < 9 → parseFieldDescriptor (TX3 k).2.2.1 = some (tyX3 k) := by decide +kernel
abbrev cX3_init : ByteArray := prog_5_method_1_code
def yX3_init : MethodName := ⟨RX3, "<init>", "()V"⟩
abbrev cX3_seatAll : ByteArray := prog_5_method_2_code
def yX3_seatAll : MethodName := ⟨RX3, "seatAll", "()V"⟩
abbrev cX3_clear : ByteArray := prog_5_method_3_code
def yX3_clear : MethodName := ⟨RX3, "clear", "()V"⟩
abbrev cX3_seatPupils : ByteArray := prog_5_method_4_code
def yX3_seatPupils : MethodName := ⟨RX3, "seatPupils", "(I)V"⟩
abbrev cX3_seatInRoom : ByteArray := prog_5_method_5_code
def yX3_seatInRoom : MethodName := ⟨RX3, "seatInRoom", "(II)V"⟩
abbrev cX3_seatAtDesk : ByteArray := prog_5_method_6_code
def yX3_seatAtDesk : MethodName := ⟨RX3, "seatAtDesk", "(II)V"⟩
abbrev cX3_firstDesk : ByteArray := prog_5_method_7_code
def yX3_firstDesk : MethodName := ⟨RX3, "firstDesk", "(II)I"⟩
abbrev cX3_isEarlyEnough : ByteArray := prog_5_method_8_code
def yX3_isEarlyEnough : MethodName := ⟨RX3, "isEarlyEnough", "(II)Z"⟩
abbrev cX3_isBeside : ByteArray := prog_5_method_9_code
def yX3_isBeside : MethodName := ⟨RX3, "isBeside", "(IIII)Z"⟩
abbrev cX3_isUnplaced : ByteArray := prog_5_method_10_code
def yX3_isUnplaced : MethodName := ⟨RX3, "isUnplaced", "(II)Z"⟩
abbrev cX3_unplacedPapersOf : ByteArray := prog_5_method_11_code
def yX3_unplacedPapersOf : MethodName := ⟨RX3, "unplacedPapersOf", "(I)I"⟩
abbrev cX3_unplacedOf : ByteArray := prog_5_method_12_code
def yX3_unplacedOf : MethodName := ⟨RX3, "unplacedOf", "(I)I"⟩
abbrev cX3_hallsOf : ByteArray := prog_5_method_13_code
def yX3_hallsOf : MethodName := ⟨RX3, "hallsOf", "(I)I"⟩
abbrev cX3_seatedIn : ByteArray := prog_5_method_14_code
def yX3_seatedIn : MethodName := ⟨RX3, "seatedIn", "(I)I"⟩
abbrev cX3_mostTakenIn : ByteArray := prog_5_method_15_code
def yX3_mostTakenIn : MethodName := ⟨RX3, "mostTakenIn", "(I)I"⟩
abbrev cX3_takenIn : ByteArray := prog_5_method_16_code
def yX3_takenIn : MethodName := ⟨RX3, "takenIn", "(II)I"⟩
abbrev cX3_sittingAt : ByteArray := prog_5_method_17_code
def yX3_sittingAt : MethodName := ⟨RX3, "sittingAt", "(III)I"⟩
abbrev cX3_isNow : ByteArray := prog_5_method_18_code
def yX3_isNow : MethodName := ⟨RX3, "isNow", "(II)Z"⟩
def RX4 : String := "ExamHalls"
def TX4 : u_T := fun k => match k with
  | 0 => ("ExamHalls", "seating", "LExamHalls$Seating;", true)
  | 1 => ("ExamHalls", "school", "LExamHalls$School;", true)
  | 2 => ("ExamHalls", "trialSeating", "LExamHalls$Seating;", true)
  | 3 => ("ExamHalls", "trial", "LExamHalls$School;", true)
  | 4 => ("ExamHalls", "pad", "LExamHalls$Pad;", true)
  | 5 => ("ExamHalls", "history", "LExamHalls$History;", true)
  | 6 => ("ExamHalls", "slots", "[LExamHalls$School;", true)
  | _ => ("ExamHalls", "slotIsUsed", "[Z", true)
def tyX4 : Nat → FieldType := fun k => match k with
  | 0 => .object "ExamHalls$Seating"
  | 1 => .object "ExamHalls$School"
  | 2 => .object "ExamHalls$Seating"
  | 3 => .object "ExamHalls$School"
  | 4 => .object "ExamHalls$Pad"
  | 5 => .object "ExamHalls$History"
  | 6 => .array (.object "ExamHalls$School")
  | _ => .array .boolean
abbrev wsX40 : List Cond := u_ws RX4 TX4 8
theorem nmX4 : ∀ a, a < 8 → ∀ b, b < 8 → a ≠ b → (TX4 a).2.1 ≠ (TX4 b).2.1 := by decide +kernel
theorem tyX4_ok : ∀ k, k < 8 → parseFieldDescriptor (TX4 k).2.2.1 = some (tyX4 k) := by decide +kernel
abbrev cX4_init : ByteArray := prog_1_method_1_code
def yX4_init : MethodName := ⟨RX4, "<init>", "()V"⟩
abbrev cX4_set : ByteArray := prog_1_method_2_code
def yX4_set : MethodName := ⟨RX4, "set", "(II)I"⟩
abbrev cX4_paper : ByteArray := prog_1_method_3_code
def yX4_paper : MethodName := ⟨RX4, "paper", "(III)I"⟩
abbrev cX4_pupil : ByteArray := prog_1_method_4_code
def yX4_pupil : MethodName := ⟨RX4, "pupil", "(IIZ)I"⟩
abbrev cX4_change : ByteArray := prog_1_method_6_code
def yX4_change : MethodName := ⟨RX4, "change", "(IIIZ)I"⟩
abbrev cX4_leave : ByteArray := prog_1_method_7_code
def yX4_leave : MethodName := ⟨RX4, "leave", "(I)I"⟩
abbrev cX4_hall : ByteArray := prog_1_method_8_code
def yX4_hall : MethodName := ⟨RX4, "hall", "(III)I"⟩
abbrev cX4_open : ByteArray := prog_1_method_9_code
def yX4_open : MethodName := ⟨RX4, "open", "(IZ)I"⟩
abbrev cX4_pupilOf : ByteArray := prog_1_method_10_code
def yX4_pupilOf : MethodName := ⟨RX4, "pupilOf", "(II)I"⟩
abbrev cX4_paperOf : ByteArray := prog_1_method_11_code
def yX4_paperOf : MethodName := ⟨RX4, "paperOf", "(II)I"⟩
abbrev cX4_sitting : ByteArray := prog_1_method_12_code
def yX4_sitting : MethodName := ⟨RX4, "sitting", "(III)I"⟩
abbrev cX4_hallOf : ByteArray := prog_1_method_13_code
def yX4_hallOf : MethodName := ⟨RX4, "hallOf", "(II)I"⟩
abbrev cX4_count : ByteArray := prog_1_method_14_code
def yX4_count : MethodName := ⟨RX4, "count", "(I)I"⟩
abbrev cX4_at : ByteArray := prog_1_method_15_code
def yX4_at : MethodName := ⟨RX4, "at", "(III)I"⟩
abbrev cX4_ifStart : ByteArray := prog_1_method_16_code
def yX4_ifStart : MethodName := ⟨RX4, "ifStart", "(III)I"⟩
abbrev cX4_bestStart : ByteArray := prog_1_method_17_code
def yX4_bestStart : MethodName := ⟨RX4, "bestStart", "(I)I"⟩
abbrev cX4_bestHalls : ByteArray := prog_1_method_18_code
def yX4_bestHalls : MethodName := ⟨RX4, "bestHalls", "(I)I"⟩
abbrev cX4_leastRooms : ByteArray := prog_1_method_19_code
def yX4_leastRooms : MethodName := ⟨RX4, "leastRooms", "()I"⟩
abbrev cX4_undo : ByteArray := prog_1_method_23_code
def yX4_undo : MethodName := ⟨RX4, "undo", "()I"⟩
abbrev cX4_save : ByteArray := prog_1_method_24_code
def yX4_save : MethodName := ⟨RX4, "save", "(I)I"⟩
abbrev cX4_restore : ByteArray := prog_1_method_25_code
def yX4_restore : MethodName := ⟨RX4, "restore", "(I)I"⟩
abbrev cX4_isWithin : ByteArray := prog_1_method_26_code
def yX4_isWithin : MethodName := ⟨RX4, "isWithin", "(III)Z"⟩
abbrev cX4_isPaper : ByteArray := prog_1_method_27_code
def yX4_isPaper : MethodName := ⟨RX4, "isPaper", "(I)Z"⟩
abbrev cX4_isStart : ByteArray := prog_1_method_28_code
def yX4_isStart : MethodName := ⟨RX4, "isStart", "(I)Z"⟩
abbrev cX4_isHall : ByteArray := prog_1_method_29_code
def yX4_isHall : MethodName := ⟨RX4, "isHall", "(I)Z"⟩
abbrev cX4_isSlot : ByteArray := prog_1_method_30_code
def yX4_isSlot : MethodName := ⟨RX4, "isSlot", "(I)Z"⟩
abbrev cX4_isPupilData : ByteArray := prog_1_method_31_code
def yX4_isPupilData : MethodName := ⟨RX4, "isPupilData", "(II)Z"⟩
abbrev cX4_isPupil : ByteArray := prog_1_method_32_code
def yX4_isPupil : MethodName := ⟨RX4, "isPupil", "(I)Z"⟩
abbrev cX4_sittingNumber : ByteArray := prog_1_method_34_code
def yX4_sittingNumber : MethodName := ⟨RX4, "sittingNumber", "(II)I"⟩
abbrev cX4_contains : ByteArray := prog_1_method_35_code
def yX4_contains : MethodName := ⟨RX4, "contains", "(II)Z"⟩
def RX5 : String := "ExamHallsModel"
def TX5 : u_T := fun k => match k with
  | _ => ("", "", "", false)
def tyX5 : Nat → FieldType := fun k => match k with
  | _ => .int
abbrev wsX50 : List Cond := u_ws RX5 TX5 0
theorem nmX5 : ∀ a, a < 0 → ∀ b, b < 0 → a ≠ b → (TX5 a).2.1 ≠ (TX5 b).2.1 := by decide +kernel
theorem tyX5_ok : ∀ k, k < 0 → parseFieldDescriptor (TX5 k).2.2.1 = some (tyX5 k) := by decide +kernel
def RJ6 : String := "java/lang/Integer"
def TJ6 : u_T := fun k => match k with
  | _ => ("", "", "", false)
def tyJ6 : Nat → FieldType := fun k => match k with
  | _ => .int
abbrev wsJ60 : List Cond := u_ws RJ6 TJ6 0
theorem nmJ6 : ∀ a, a < 0 → ∀ b, b < 0 → a ≠ b → (TJ6 a).2.1 ≠ (TJ6 b).2.1 := by decide +kernel
theorem tyJ6_ok : ∀ k, k < 0 → parseFieldDescriptor (TJ6 k).2.2.1 = some (tyJ6 k) := by decide +kernel
abbrev cJ6_bitCount_0f7a4 : ByteArray := prog_8_method_49_code
def yJ6_bitCount_0f7a4 : MethodName := ⟨RJ6, "bitCount", "(I)I"⟩
def RJ9 : String := "java/lang/Math"
def TJ9 : u_T := fun k => match k with
  | _ => ("", "", "", false)
def tyJ9 : Nat → FieldType := fun k => match k with
  | _ => .int
abbrev wsJ90 : List Cond := u_ws RJ9 TJ9 0
theorem nmJ9 : ∀ a, a < 0 → ∀ b, b < 0 → a ≠ b → (TJ9 a).2.1 ≠ (TJ9 b).2.1 := by decide +kernel
theorem tyJ9_ok : ∀ k, k < 0 → parseFieldDescriptor (TJ9 k).2.2.1 = some (tyJ9 k) := by decide +kernel
abbrev cJ9_max_7cf53 : ByteArray := prog_9_method_65_code
def yJ9_max_7cf53 : MethodName := ⟨RJ9, "max", "(II)I"⟩
def RL : String := "ExamHallsLaw"
abbrev cL_cell : ByteArray := method_2_code
def yL_cell : MethodName := ⟨RL, "cell", "([II)I"⟩
abbrev cL_bits : ByteArray := method_3_code
def yL_bits : MethodName := ⟨RL, "bits", "(I)I"⟩
abbrev cL_place : ByteArray := method_4_code
def yL_place : MethodName := ⟨RL, "place", "(LExamHalls;I)I"⟩
abbrev cL_at : ByteArray := method_5_code
def yL_at : MethodName := ⟨RL, "at", "([I[II)I"⟩
abbrev cL_isSitting : ByteArray := method_6_code
def yL_isSitting : MethodName := ⟨RL, "isSitting", "(LExamHalls;II)Z"⟩
abbrev cL_areSeated : ByteArray := method_7_code
def yL_areSeated : MethodName := ⟨RL, "areSeated", "(LExamHalls;)Z"⟩
abbrev cL_areSums : ByteArray := method_8_code
def yL_areSums : MethodName := ⟨RL, "areSums", "(LExamHalls;)Z"⟩
abbrev cL_acts : ByteArray := method_9_code
def yL_acts : MethodName := ⟨RL, "acts", "(LExamHalls;I)Z"⟩
abbrev cL_areBest : ByteArray := method_10_code
def yL_areBest : MethodName := ⟨RL, "areBest", "(LExamHalls;)Z"⟩
abbrev cL_law : ByteArray := code
def yL_law : MethodName := ⟨RL, "law", "([I)Z"⟩
abbrev vwCl : List vw_C := [(RX0, TX0, 2), (RX1, TX1, 10), (RX2, TX2, 10), (RX3, TX3, 9), (RX4, TX4, 8)]
