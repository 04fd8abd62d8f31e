section
-- ===== PART A: goes FIRST, ahead of the names: the tables' words, and 'selects' of the private methods out of them =====
/-- a private method of a class that the tables say can be made, by its rows of tables_1 -/
def lw_okq (q : MethodName × Nat) : Prop := (q.1.cls ≠ "java/lang/invoke/MethodHandle" ∧ q.1.cls ≠ "java/lang/invoke/VarHandle") ∧ Cond.instantiable q.1.cls q.2 ∈ tables_1 ∧ Cond.privateMethod q.1 ∈ tables_1 ∧ Cond.instanceMethod q.1 ∈ tables_1
theorem lw_p0 : lw_okq (⟨"ExamHalls$Seating", "clear", "()V"⟩, 9) := ⟨⟨by decide +kernel, by decide +kernel⟩, List.mem_of_getElem? (i := 17) (by decide +kernel), List.mem_of_getElem? (i := 173) (by decide +kernel), List.mem_of_getElem? (i := 174) (by decide +kernel)⟩
theorem lw_p1 : lw_okq (⟨"ExamHalls$Seating", "seatPupils", "(I)V"⟩, 9) := ⟨⟨by decide +kernel, by decide +kernel⟩, List.mem_of_getElem? (i := 17) (by decide +kernel), List.mem_of_getElem? (i := 177) (by decide +kernel), List.mem_of_getElem? (i := 178) (by decide +kernel)⟩
theorem lw_p2 : lw_okq (⟨"ExamHalls$Seating", "seatInRoom", "(II)V"⟩, 9) := ⟨⟨by decide +kernel, by decide +kernel⟩, List.mem_of_getElem? (i := 17) (by decide +kernel), List.mem_of_getElem? (i := 188) (by decide +kernel), List.mem_of_getElem? (i := 189) (by decide +kernel)⟩
theorem lw_p3 : lw_okq (⟨"ExamHalls$Seating", "isEarlyEnough", "(II)Z"⟩, 9) := ⟨⟨by decide +kernel, by decide +kernel⟩, List.mem_of_getElem? (i := 17) (by decide +kernel), List.mem_of_getElem? (i := 192) (by decide +kernel), List.mem_of_getElem? (i := 193) (by decide +kernel)⟩
theorem lw_p4 : lw_okq (⟨"ExamHalls$Seating", "seatAtDesk", "(II)V"⟩, 9) := ⟨⟨by decide +kernel, by decide +kernel⟩, List.mem_of_getElem? (i := 17) (by decide +kernel), List.mem_of_getElem? (i := 212) (by decide +kernel), List.mem_of_getElem? (i := 213) (by decide +kernel)⟩
theorem lw_p5 : lw_okq (⟨"ExamHalls$Seating", "firstDesk", "(II)I"⟩, 9) := ⟨⟨by decide +kernel, by decide +kernel⟩, List.mem_of_getElem? (i := 17) (by decide +kernel), List.mem_of_getElem? (i := 220) (by decide +kernel), List.mem_of_getElem? (i := 221) (by decide +kernel)⟩
theorem lw_p6 : lw_okq (⟨"ExamHalls$Seating", "isBeside", "(IIII)Z"⟩, 9) := ⟨⟨by decide +kernel, by decide +kernel⟩, List.mem_of_getElem? (i := 17) (by decide +kernel), List.mem_of_getElem? (i := 224) (by decide +kernel), List.mem_of_getElem? (i := 225) (by decide +kernel)⟩
theorem lw_p7 : lw_okq (⟨"ExamHalls$History", "dropOldest", "()V"⟩, 2) := ⟨⟨by decide +kernel, by decide +kernel⟩, List.mem_of_getElem? (i := 150) (by decide +kernel), List.mem_of_getElem? (i := 360) (by decide +kernel), List.mem_of_getElem? (i := 361) (by decide +kernel)⟩
theorem lw_p8 : lw_okq (⟨"ExamHalls", "isPupil", "(I)Z"⟩, 8) := ⟨⟨by decide +kernel, by decide +kernel⟩, List.mem_of_getElem? (i := 9) (by decide +kernel), List.mem_of_getElem? (i := 379) (by decide +kernel), List.mem_of_getElem? (i := 380) (by decide +kernel)⟩
theorem lw_p9 : lw_okq (⟨"ExamHalls$Seating", "takenIn", "(II)I"⟩, 9) := ⟨⟨by decide +kernel, by decide +kernel⟩, List.mem_of_getElem? (i := 17) (by decide +kernel), List.mem_of_getElem? (i := 407) (by decide +kernel), List.mem_of_getElem? (i := 408) (by decide +kernel)⟩
theorem lw_p10 : lw_okq (⟨"ExamHalls$Seating", "isNow", "(II)Z"⟩, 9) := ⟨⟨by decide +kernel, by decide +kernel⟩, List.mem_of_getElem? (i := 17) (by decide +kernel), List.mem_of_getElem? (i := 411) (by decide +kernel), List.mem_of_getElem? (i := 412) (by decide +kernel)⟩
def lw_privs_1 : List (MethodName × Nat) := [(⟨"ExamHalls$Seating", "clear", "()V"⟩, 9), (⟨"ExamHalls$Seating", "seatPupils", "(I)V"⟩, 9), (⟨"ExamHalls$Seating", "seatInRoom", "(II)V"⟩, 9), (⟨"ExamHalls$Seating", "isEarlyEnough", "(II)Z"⟩, 9), (⟨"ExamHalls$Seating", "seatAtDesk", "(II)V"⟩, 9), (⟨"ExamHalls$Seating", "firstDesk", "(II)I"⟩, 9), (⟨"ExamHalls$Seating", "isBeside", "(IIII)Z"⟩, 9), (⟨"ExamHalls$History", "dropOldest", "()V"⟩, 2), (⟨"ExamHalls", "isPupil", "(I)Z"⟩, 8), (⟨"ExamHalls$Seating", "takenIn", "(II)I"⟩, 9), (⟨"ExamHalls$Seating", "isNow", "(II)Z"⟩, 9)]
theorem lw_r1 : ∀ q ∈ lw_privs_1, lw_okq q := List.forall_mem_cons.mpr ⟨lw_p0, List.forall_mem_cons.mpr ⟨lw_p1, List.forall_mem_cons.mpr ⟨lw_p2, List.forall_mem_cons.mpr ⟨lw_p3, List.forall_mem_cons.mpr ⟨lw_p4, List.forall_mem_cons.mpr ⟨lw_p5, List.forall_mem_cons.mpr ⟨lw_p6, List.forall_mem_cons.mpr ⟨lw_p7, List.forall_mem_cons.mpr ⟨lw_p8, List.forall_mem_cons.mpr ⟨lw_p9, List.forall_mem_cons.mpr ⟨lw_p10, fun _ h => absurd h List.not_mem_nil⟩⟩⟩⟩⟩⟩⟩⟩⟩⟩⟩
def lw_privs : List (MethodName × Nat) := lw_privs_1
def lw_tbl : List Cond := k2_sels lw_privs ++ tables_1
theorem lw_privs_ok : ∀ q ∈ lw_privs, lw_okq q := lw_r1
def RX0 : String := "ExamHalls$History"
def TX0 : u_T := fun k => match k with
  | 0 => ("ExamHalls$History", "states", "[LExamHalls$School;", true)
  | _ => ("ExamHalls$History", "size", "I", false)
def tyX0 : Nat → FieldType := fun k => match k with
  | 0 => .array (.object "ExamHalls$School")
  | _ => .int
abbrev wsX00 : List Cond := u_ws RX0 TX0 2
theorem nmX0 : ∀ a, a < 2 → ∀ b, b < 2 → a ≠ b → (TX0 a).2.1 ≠ (TX0 b).2.1 := by decide +kernel
theorem tyX0_ok : ∀ k, k < 2 → parseFieldDescriptor (TX0 k).2.2.1 = some (tyX0 k) := by decide +kernel
abbrev cX0_init : ByteArray := prog_2_method_1_code
def yX0_init : MethodName := ⟨RX0, "<init>", "()V"⟩
abbrev cX0_remember : ByteArray := prog_2_method_2_code
def yX0_remember : MethodName := ⟨RX0, "remember", "(LExamHalls$School;)V"⟩
abbrev cX0_dropOldest : ByteArray := prog_2_method_3_code
def yX0_dropOldest : MethodName := ⟨RX0, "dropOldest", "()V"⟩
abbrev cX0_takeBack : ByteArray := prog_2_method_4_code
def yX0_takeBack : MethodName := ⟨RX0, "takeBack", "(LExamHalls$School;)V"⟩
def RX1 : String := "ExamHalls$Pad"
def TX1 : u_T := fun k => match k with
  | 0 => ("ExamHalls$Pad", "signs", "[I", true)
  | 1 => ("ExamHalls$Pad", "length", "I", false)
  | 2 => ("ExamHalls$Pad", "foundPapers", "[I", true)
  | 3 => ("ExamHalls$Pad", "foundExtras", "[I", true)
  | 4 => ("ExamHalls$Pad", "foundReaders", "[Z", true)
  | 5 => ("ExamHalls$Pad", "found", "I", false)
  | 6 => ("ExamHalls$Pad", "state", "I", false)
  | 7 => ("ExamHalls$Pad", "papers", "I", false)
  | 8 => ("ExamHalls$Pad", "extra", "I", false)
  | _ => ("ExamHalls$Pad", "needsReader", "Z", false)
def tyX1 : Nat → FieldType := fun k => match k with
  | 0 => .array .int
  | 1 => .int
  | 2 => .array .int
  | 3 => .array .int
  | 4 => .array .boolean
  | 5 => .int
  | 6 => .int
  | 7 => .int
  | 8 => .int
  | _ => .boolean
abbrev wsX10 : List Cond := u_ws RX1 TX1 10
theorem nmX1 : ∀ a, a < 10 → ∀ b, b < 10 → a ≠ b → (TX1 a).2.1 ≠ (TX1 b).2.1 := by decide +kernel
theorem tyX1_ok : ∀ k, k < 10 → parseFieldDescriptor (TX1 k).2.2.1 = some (tyX1 k) := by decide +kernel
abbrev cX1_init : ByteArray := prog_3_method_1_code
def yX1_init : MethodName := ⟨RX1, "<init>", "()V"⟩
def RX2 : String := "ExamHalls$School"
def TX2 : u_T := fun k => match k with
  | 0 => ("ExamHalls$School", "settings", "[I", true)
  | 1 => ("ExamHalls$School", "starts", "[I", true)
  | 2 => ("ExamHalls$School", "minutes", "[I", true)
  | 3 => ("ExamHalls$School", "papers", "[I", true)
  | 4 => ("ExamHalls$School", "extras", "[I", true)
  | 5 => ("ExamHalls$School", "readers", "[Z", true)
  | 6 => ("ExamHalls$School", "rows", "[I", true)
  | 7 => ("ExamHalls$School", "columns", "[I", true)
  | 8 => ("ExamHalls$School", "pupils", "I", false)
  | _ => ("ExamHalls$School", "openHalls", "I", false)
def tyX2 : Nat → FieldType := fun k => match k with
  | 0 => .array .int
  | 1 => .array .int
  | 2 => .array .int
  | 3 => .array .int
  | 4 => .array .int
  | 5 => .array .boolean
  | 6 => .array .int
  | 7 => .array .int
  | 8 => .int
  | _ => .int
abbrev wsX20 : List Cond := u_ws RX2 TX2 10
theorem nmX2 : ∀ a, a < 10 → ∀ b, b < 10 → a ≠ b → (TX2 a).2.1 ≠ (TX2 b).2.1 := by decide +kernel
theorem tyX2_ok : ∀ k, k < 10 → parseFieldDescriptor (TX2 k).2.2.1 = some (tyX2 k) := by decide +kernel
abbrev cX2_init : ByteArray := prog_4_method_1_code
def yX2_init : MethodName := ⟨RX2, "<init>", "()V"⟩
abbrev cX2_copyFrom : ByteArray := prog_4_method_2_code
def yX2_copyFrom : MethodName := ⟨RX2, "copyFrom", "(LExamHalls$School;)V"⟩
abbrev cX2_addPupil : ByteArray := prog_4_method_3_code
def yX2_addPupil : MethodName := ⟨RX2, "addPupil", "(IIZ)V"⟩
abbrev cX2_writePupil : ByteArray := prog_4_method_4_code
def yX2_writePupil : MethodName := ⟨RX2, "writePupil", "(IIIZ)V"⟩
abbrev cX2_removePupil : ByteArray := prog_4_method_5_code
def yX2_removePupil : MethodName := ⟨RX2, "removePupil", "(I)V"⟩
abbrev cX2_sits : ByteArray := prog_4_method_6_code
def yX2_sits : MethodName := ⟨RX2, "sits", "(II)Z"⟩
abbrev cX2_beginOf : ByteArray := prog_4_method_7_code
def yX2_beginOf : MethodName := ⟨RX2, "beginOf", "(I)I"⟩
abbrev cX2_lengthOf : ByteArray := prog_4_method_8_code
def yX2_lengthOf : MethodName := ⟨RX2, "lengthOf", "(II)I"⟩
abbrev cX2_endOf : ByteArray := prog_4_method_9_code
def yX2_endOf : MethodName := ⟨RX2, "endOf", "(II)I"⟩
abbrev cX2_isSatAt : ByteArray := prog_4_method_10_code
def yX2_isSatAt : MethodName := ⟨RX2, "isSatAt", "(III)Z"⟩
abbrev cX2_sittings : ByteArray := prog_4_method_11_code
def yX2_sittings : MethodName := ⟨RX2, "sittings", "()I"⟩
abbrev cX2_minutesOf : ByteArray := prog_4_method_12_code
def yX2_minutesOf : MethodName := ⟨RX2, "minutesOf", "(I)I"⟩
abbrev cX2_pupilsOf : ByteArray := prog_4_method_13_code
def yX2_pupilsOf : MethodName := ⟨RX2, "pupilsOf", "(I)I"⟩
abbrev cX2_clashingPapers : ByteArray := prog_4_method_14_code
def yX2_clashingPapers : MethodName := ⟨RX2, "clashingPapers", "(II)I"⟩
abbrev cX2_clashesOf : ByteArray := prog_4_method_15_code
def yX2_clashesOf : MethodName := ⟨RX2, "clashesOf", "(I)I"⟩
abbrev cX2_clashes : ByteArray := prog_4_method_16_code
def yX2_clashes : MethodName := ⟨RX2, "clashes", "()I"⟩
abbrev cX2_lastEndOf : ByteArray := prog_4_method_17_code
def yX2_lastEndOf : MethodName := ⟨RX2, "lastEndOf", "(I)I"⟩
abbrev cX2_lastEnd : ByteArray := prog_4_method_18_code
def yX2_lastEnd : MethodName := ⟨RX2, "lastEnd", "()I"⟩
abbrev cX2_mostReaders : ByteArray := prog_4_method_19_code
def yX2_mostReaders : MethodName := ⟨RX2, "mostReaders", "()I"⟩
abbrev cX2_readersAt : ByteArray := prog_4_method_20_code
def yX2_readersAt : MethodName := ⟨RX2, "readersAt", "(I)I"⟩
abbrev cX2_isOpen : ByteArray := prog_4_method_21_code
def yX2_isOpen : MethodName := ⟨RX2, "isOpen", "(I)Z"⟩
abbrev cX2_desksOf : ByteArray := prog_4_method_22_code
def yX2_desksOf : MethodName := ⟨RX2, "desksOf", "(I)I"⟩
abbrev cX2_openDesks : ByteArray := prog_4_method_23_code
def yX2_openDesks : MethodName := ⟨RX2, "openDesks", "()I"⟩
def RX3 : String := "ExamHalls$Seating"
def TX3 : u_T := fun k => match k with
  | 0 => ("ExamHalls$Seating", "school", "LExamHalls$School;", true)
  | 1 => ("ExamHalls$Seating", "halls", "[I", true)
  | 2 => ("ExamHalls$Seating", "desks", "[I", true)
  | 3 => ("ExamHalls$Seating", "rooms", "[I", true)
  | 4 => ("ExamHalls$Seating", "unplaced", "I", false)
  | 5 => ("ExamHalls$Seating", "unplacedReaders", "I", false)
  | 6 => ("ExamHalls$Seating", "deskEnds", "[I", true)
  | 7 => ("ExamHalls$Seating", "deskPapers", "[I", true)
  | _ => ("ExamHalls$Seating", "roomEnds", "[I", true)
def tyX3 : Nat → FieldType := fun k => match k with
  | 0 => .object "ExamHalls$School"
  | 1 => .array .int
  | 2 => .array .int
  | 3 => .array .int
  | 4 => .int
  | 5 => .int
  | 6 => .array .int
  | 7 => .array .int
  | _ => .array .int
abbrev wsX30 : List Cond := u_ws RX3 TX3 9
theorem nmX3 : ∀ a, a < 9 → ∀ b, b < 9 → a ≠ b → (TX3 a).2.1 ≠ (TX3 b).2.1 := by decide +kernel
theorem tyX3_ok : ∀ k, k < 9 → parseFieldDescriptor (TX3 k).2.2.1 = some (tyX3 k) := by decide +kernel
abbrev cX3_init : ByteArray := prog_5_method_1_code
def yX3_init : MethodName := ⟨RX3, "<init>", "()V"⟩
abbrev cX3_seatAll : ByteArray := prog_5_method_2_code
def yX3_seatAll : MethodName := ⟨RX3, "seatAll", "()V"⟩
abbrev cX3_clear : ByteArray := prog_5_method_3_code
def yX3_clear : MethodName := ⟨RX3, "clear", "()V"⟩
abbrev cX3_seatPupils : ByteArray := prog_5_method_4_code
def yX3_seatPupils : MethodName := ⟨RX3, "seatPupils", "(I)V"⟩
abbrev cX3_seatInRoom : ByteArray := prog_5_method_5_code
def yX3_seatInRoom : MethodName := ⟨RX3, "seatInRoom", "(II)V"⟩
abbrev cX3_seatAtDesk : ByteArray := prog_5_method_6_code
def yX3_seatAtDesk : MethodName := ⟨RX3, "seatAtDesk", "(II)V"⟩
abbrev cX3_firstDesk : ByteArray := prog_5_method_7_code
def yX3_firstDesk : MethodName := ⟨RX3, "firstDesk", "(II)I"⟩
abbrev cX3_isEarlyEnough : ByteArray := prog_5_method_8_code
def yX3_isEarlyEnough : MethodName := ⟨RX3, "isEarlyEnough", "(II)Z"⟩
abbrev cX3_isBeside : ByteArray := prog_5_method_9_code
def yX3_isBeside : MethodName := ⟨RX3, "isBeside", "(IIII)Z"⟩
abbrev cX3_isUnplaced : ByteArray := prog_5_method_10_code
def yX3_isUnplaced : MethodName := ⟨RX3, "isUnplaced", "(II)Z"⟩
abbrev cX3_unplacedPapersOf : ByteArray := prog_5_method_11_code
def yX3_unplacedPapersOf : MethodName := ⟨RX3, "unplacedPapersOf", "(I)I"⟩
abbrev cX3_unplacedOf : ByteArray := prog_5_method_12_code
def yX3_unplacedOf : MethodName := ⟨RX3, "unplacedOf", "(I)I"⟩
abbrev cX3_hallsOf : ByteArray := prog_5_method_13_code
def yX3_hallsOf : MethodName := ⟨RX3, "hallsOf", "(I)I"⟩
abbrev cX3_seatedIn : ByteArray := prog_5_method_14_code
def yX3_seatedIn : MethodName := ⟨RX3, "seatedIn", "(I)I"⟩
abbrev cX3_mostTakenIn : ByteArray := prog_5_method_15_code
def yX3_mostTakenIn : MethodName := ⟨RX3, "mostTakenIn", "(I)I"⟩
abbrev cX3_takenIn : ByteArray := prog_5_method_16_code
def yX3_takenIn : MethodName := ⟨RX3, "takenIn", "(II)I"⟩
abbrev cX3_sittingAt : ByteArray := prog_5_method_17_code
def yX3_sittingAt : MethodName := ⟨RX3, "sittingAt", "(III)I"⟩
abbrev cX3_isNow : ByteArray := prog_5_method_18_code
def yX3_isNow : MethodName := ⟨RX3, "isNow", "(II)Z"⟩
def RX4 : String := "ExamHalls"
def TX4 : u_T := fun k => match k with
  | 0 => ("ExamHalls", "seating", "LExamHalls$Seating;", true)
  | 1 => ("ExamHalls", "school", "LExamHalls$School;", true)
  | 2 => ("ExamHalls", "trialSeating", "LExamHalls$Seating;", true)
  | 3 => ("ExamHalls", "trial", "LExamHalls$School;", true)
  | 4 => ("ExamHalls", "pad", "LExamHalls$Pad;", true)
  | 5 => ("ExamHalls", "history", "LExamHalls$History;", true)
  | 6 => ("ExamHalls", "slots", "[LExamHalls$School;", true)
  | _ => ("ExamHalls", "slotIsUsed", "[Z", true)
def tyX4 : Nat → FieldType := fun k => match k with
  | 0 => .object "ExamHalls$Seating"
  | 1 => .object "ExamHalls$School"
  | 2 => .object "ExamHalls$Seating"
  | 3 => .object "ExamHalls$School"
  | 4 => .object "ExamHalls$Pad"
  | 5 => .object "ExamHalls$History"
  | 6 => .array (.object "ExamHalls$School")
  | _ => .array .boolean
abbrev wsX40 : List Cond := u_ws RX4 TX4 8
theorem nmX4 : ∀ a, a < 8 → ∀ b, b < 8 → a ≠ b → (TX4 a).2.1 ≠ (TX4 b).2.1 := by decide +kernel
theorem tyX4_ok : ∀ k, k < 8 → parseFieldDescriptor (TX4 k).2.2.1 = some (tyX4 k) := by decide +kernel
abbrev cX4_init : ByteArray := prog_1_method_1_code
def yX4_init : MethodName := ⟨RX4, "<init>", "()V"⟩
abbrev cX4_set : ByteArray := prog_1_method_2_code
def yX4_set : MethodName := ⟨RX4, "set", "(II)I"⟩
abbrev cX4_paper : ByteArray := prog_1_method_3_code
def yX4_paper : MethodName := ⟨RX4, "paper", "(III)I"⟩
abbrev cX4_pupil : ByteArray := prog_1_method_4_code
def yX4_pupil : MethodName := ⟨RX4, "pupil", "(IIZ)I"⟩
abbrev cX4_change : ByteArray := prog_1_method_6_code
def yX4_change : MethodName := ⟨RX4, "change", "(IIIZ)I"⟩
abbrev cX4_leave : ByteArray := prog_1_method_7_code
def yX4_leave : MethodName := ⟨RX4, "leave", "(I)I"⟩
abbrev cX4_hall : ByteArray := prog_1_method_8_code
def yX4_hall : MethodName := ⟨RX4, "hall", "(III)I"⟩
abbrev cX4_open : ByteArray := prog_1_method_9_code
def yX4_open : MethodName := ⟨RX4, "open", "(IZ)I"⟩
abbrev cX4_pupilOf : ByteArray := prog_1_method_10_code
def yX4_pupilOf : MethodName := ⟨RX4, "pupilOf", "(II)I"⟩
abbrev cX4_paperOf : ByteArray := prog_1_method_11_code
def yX4_paperOf : MethodName := ⟨RX4, "paperOf", "(II)I"⟩
abbrev cX4_sitting : ByteArray := prog_1_method_12_code
def yX4_sitting : MethodName := ⟨RX4, "sitting", "(III)I"⟩
abbrev cX4_hallOf : ByteArray := prog_1_method_13_code
def yX4_hallOf : MethodName := ⟨RX4, "hallOf", "(II)I"⟩
abbrev cX4_count : ByteArray := prog_1_method_14_code
def yX4_count : MethodName := ⟨RX4, "count", "(I)I"⟩
abbrev cX4_at : ByteArray := prog_1_method_15_code
def yX4_at : MethodName := ⟨RX4, "at", "(III)I"⟩
abbrev cX4_ifStart : ByteArray := prog_1_method_16_code
def yX4_ifStart : MethodName := ⟨RX4, "ifStart", "(III)I"⟩
abbrev cX4_bestStart : ByteArray := prog_1_method_17_code
def yX4_bestStart : MethodName := ⟨RX4, "bestStart", "(I)I"⟩
abbrev cX4_bestHalls : ByteArray := prog_1_method_18_code
def yX4_bestHalls : MethodName := ⟨RX4, "bestHalls", "(I)I"⟩
abbrev cX4_leastRooms : ByteArray := prog_1_method_19_code
def yX4_leastRooms : MethodName := ⟨RX4, "leastRooms", "()I"⟩
abbrev cX4_undo : ByteArray := prog_1_method_23_code
def yX4_undo : MethodName := ⟨RX4, "undo", "()I"⟩
abbrev cX4_save : ByteArray := prog_1_method_24_code
def yX4_save : MethodName := ⟨RX4, "save", "(I)I"⟩
abbrev cX4_restore : ByteArray := prog_1_method_25_code
def yX4_restore : MethodName := ⟨RX4, "restore", "(I)I"⟩
abbrev cX4_isWithin : ByteArray := prog_1_method_26_code
def yX4_isWithin : MethodName := ⟨RX4, "isWithin", "(III)Z"⟩
abbrev cX4_isPaper : ByteArray := prog_1_method_27_code
def yX4_isPaper : MethodName := ⟨RX4, "isPaper", "(I)Z"⟩
abbrev cX4_isStart : ByteArray := prog_1_method_28_code
def yX4_isStart : MethodName := ⟨RX4, "isStart", "(I)Z"⟩
abbrev cX4_isHall : ByteArray := prog_1_method_29_code
def yX4_isHall : MethodName := ⟨RX4, "isHall", "(I)Z"⟩
abbrev cX4_isSlot : ByteArray := prog_1_method_30_code
def yX4_isSlot : MethodName := ⟨RX4, "isSlot", "(I)Z"⟩
abbrev cX4_isPupilData : ByteArray := prog_1_method_31_code
def yX4_isPupilData : MethodName := ⟨RX4, "isPupilData", "(II)Z"⟩
abbrev cX4_isPupil : ByteArray := prog_1_method_32_code
def yX4_isPupil : MethodName := ⟨RX4, "isPupil", "(I)Z"⟩
abbrev cX4_sittingNumber : ByteArray := prog_1_method_34_code
def yX4_sittingNumber : MethodName := ⟨RX4, "sittingNumber", "(II)I"⟩
abbrev cX4_contains : ByteArray := prog_1_method_35_code
def yX4_contains : MethodName := ⟨RX4, "contains", "(II)Z"⟩
def RX5 : String := "ExamHallsModel"
def TX5 : u_T := fun k => match k with
  | _ => ("", "", "", false)
def tyX5 : Nat → FieldType := fun k => match k with
  | _ => .int
abbrev wsX50 : List Cond := u_ws RX5 TX5 0
theorem nmX5 : ∀ a, a < 0 → ∀ b, b < 0 → a ≠ b → (TX5 a).2.1 ≠ (TX5 b).2.1 := by decide +kernel
theorem tyX5_ok : ∀ k, k < 0 → parseFieldDescriptor (TX5 k).2.2.1 = some (tyX5 k) := by decide +kernel
def RJ6 : String := "java/lang/Integer"
def TJ6 : u_T := fun k => match k with
  | _ => ("", "", "", false)
def tyJ6 : Nat → FieldType := fun k => match k with
  | _ => .int
abbrev wsJ60 : List Cond := u_ws RJ6 TJ6 0
theorem nmJ6 : ∀ a, a < 0 → ∀ b, b < 0 → a ≠ b → (TJ6 a).2.1 ≠ (TJ6 b).2.1 := by decide +kernel
theorem tyJ6_ok : ∀ k, k < 0 → parseFieldDescriptor (TJ6 k).2.2.1 = some (tyJ6 k) := by decide +kernel
abbrev cJ6_bitCount_0f7a4 : ByteArray := prog_8_method_49_code
def yJ6_bitCount_0f7a4 : MethodName := ⟨RJ6, "bitCount", "(I)I"⟩
def RJ9 : String := "java/lang/Math"
def TJ9 : u_T := fun k => match k with
  | _ => ("", "", "", false)
def tyJ9 : Nat → FieldType := fun k => match k with
  | _ => .int
abbrev wsJ90 : List Cond := u_ws RJ9 TJ9 0
theorem nmJ9 : ∀ a, a < 0 → ∀ b, b < 0 → a ≠ b → (TJ9 a).2.1 ≠ (TJ9 b).2.1 := by decide +kernel
theorem tyJ9_ok : ∀ k, k < 0 → parseFieldDescriptor (TJ9 k).2.2.1 = some (tyJ9 k) := by decide +kernel
abbrev cJ9_max_7cf53 : ByteArray := prog_9_method_65_code
def yJ9_max_7cf53 : MethodName := ⟨RJ9, "max", "(II)I"⟩
def RL : String := "ExamHallsLaw"
abbrev cL_cell : ByteArray := method_2_code
def yL_cell : MethodName := ⟨RL, "cell", "([II)I"⟩
abbrev cL_bits : ByteArray := method_3_code
def yL_bits : MethodName := ⟨RL, "bits", "(I)I"⟩
abbrev cL_place : ByteArray := method_4_code
def yL_place : MethodName := ⟨RL, "place", "(LExamHalls;I)I"⟩
abbrev cL_at : ByteArray := method_5_code
def yL_at : MethodName := ⟨RL, "at", "([I[II)I"⟩
abbrev cL_isSitting : ByteArray := method_6_code
def yL_isSitting : MethodName := ⟨RL, "isSitting", "(LExamHalls;II)Z"⟩
abbrev cL_areSeated : ByteArray := method_7_code
def yL_areSeated : MethodName := ⟨RL, "areSeated", "(LExamHalls;)Z"⟩
abbrev cL_areSums : ByteArray := method_8_code
def yL_areSums : MethodName := ⟨RL, "areSums", "(LExamHalls;)Z"⟩
abbrev cL_acts : ByteArray := method_9_code
def yL_acts : MethodName := ⟨RL, "acts", "(LExamHalls;I)Z"⟩
abbrev cL_areBest : ByteArray := method_10_code
def yL_areBest : MethodName := ⟨RL, "areBest", "(LExamHalls;)Z"⟩
abbrev cL_law : ByteArray := code
def yL_law : MethodName := ⟨RL, "law", "([I)Z"⟩
abbrev vwCl : List vw_C := [(RX0, TX0, 2), (RX1, TX1, 10), (RX2, TX2, 10), (RX3, TX3, 9), (RX4, TX4, 8)]
end
section
def TB0 : List Cond := [.code yX2_init cX2_init 1 none, .methodLink RX2 3 objectInit, .instanceMethod objectInit, .code objectInit ⟨#[0xb1]⟩ 1 none, .arrayClass .int, .fieldLink RX2 9 "ExamHalls$School" "settings" "[I", .fieldLink RX2 15 "ExamHalls$School" "starts" "[I", .fieldLink RX2 18 "ExamHalls$School" "minutes" "[I", .fieldLink RX2 21 "ExamHalls$School" "papers" "[I", .fieldLink RX2 24 "ExamHalls$School" "extras" "[I", .arrayClass .boolean, .fieldLink RX2 27 "ExamHalls$School" "readers" "[Z", .fieldLink RX2 31 "ExamHalls$School" "rows" "[I", .fieldLink RX2 34 "ExamHalls$School" "columns" "[I", .fieldLink RX2 37 "ExamHalls$School" "pupils" "I", .fieldLink RX2 41 "ExamHalls$School" "openHalls" "I", .code yX0_init cX0_init 2 none, .methodLink RX0 3 objectInit, .classLink RX0 9 RX2, .fieldLink RX0 11 "ExamHalls$History" "states" "[LExamHalls$School;", .fieldLink RX0 17 "ExamHalls$History" "size" "I", .instantiable RX2 10, .initialized RX2, .instanceMethod yX2_init, .code yX0_dropOldest cX0_dropOldest 3 none, .code yX2_copyFrom cX2_copyFrom 3 none, .code yX0_remember cX0_remember 2 none, .methodLink RX0 22 yX0_dropOldest, .instanceMethod yX0_dropOldest, .selects RX0 yX0_dropOldest yX0_dropOldest, .initialized RX0, .methodLink RX0 25 yX2_copyFrom, .instanceMethod yX2_copyFrom, .selects RX2 yX2_copyFrom yX2_copyFrom, .code yX0_takeBack cX0_takeBack 2 none, .code yX1_init cX1_init 1 none, .methodLink RX1 3 objectInit, .fieldLink RX1 9 "ExamHalls$Pad" "signs" "[I", .fieldLink RX1 15 "ExamHalls$Pad" "length" "I", .fieldLink RX1 19 "ExamHalls$Pad" "foundPapers" "[I"]
def TB1 : List Cond := [.fieldLink RX1 22 "ExamHalls$Pad" "foundExtras" "[I", .fieldLink RX1 25 "ExamHalls$Pad" "foundReaders" "[Z", .fieldLink RX1 29 "ExamHalls$Pad" "found" "I", .fieldLink RX1 32 "ExamHalls$Pad" "state" "I", .fieldLink RX1 35 "ExamHalls$Pad" "papers" "I", .fieldLink RX1 38 "ExamHalls$Pad" "extra" "I", .fieldLink RX1 41 "ExamHalls$Pad" "needsReader" "Z", .code yX2_writePupil cX2_writePupil 5 none, .code yX2_addPupil cX2_addPupil 4 none, .methodLink RX2 44 yX2_writePupil, .instanceMethod yX2_writePupil, .selects RX2 yX2_writePupil yX2_writePupil, .code yX2_removePupil cX2_removePupil 3 none, .code yX4_contains cX4_contains 2 (some .boolean), .code yX2_sits cX2_sits 3 (some .boolean), .static yX4_contains, .initialized RX4, .code yX2_beginOf cX2_beginOf 2 (some .int), .code yX2_lengthOf cX2_lengthOf 3 (some .int), .code yX2_endOf cX2_endOf 3 (some .int), .methodLink RX2 52 yX2_beginOf, .instanceMethod yX2_beginOf, .selects RX2 yX2_beginOf yX2_beginOf, .methodLink RX2 56 yX2_lengthOf, .instanceMethod yX2_lengthOf, .selects RX2 yX2_lengthOf yX2_lengthOf, .code yX2_isSatAt cX2_isSatAt 4 (some .boolean), .methodLink RX2 60 yX2_endOf, .instanceMethod yX2_endOf, .selects RX2 yX2_endOf yX2_endOf, .code yJ6_bitCount_0f7a4 cJ6_bitCount_0f7a4 1 (some .int), .constant RJ6 265 (1431655765), .constant RJ6 266 (858993459), .constant RJ6 267 (252645135), .code yX2_sittings cX2_sittings 3 (some .int), .methodLink RX2 63 yJ6_bitCount_0f7a4, .static yJ6_bitCount_0f7a4, .initialized RJ6, .code yX2_minutesOf cX2_minutesOf 4 (some .int), .methodLink RX2 68 yX2_sits]
def TB2 : List Cond := [.instanceMethod yX2_sits, .selects RX2 yX2_sits yX2_sits, .code yX2_pupilsOf cX2_pupilsOf 4 (some .int), .code yX2_clashingPapers cX2_clashingPapers 5 (some .int), .methodLink RX2 71 yX2_clashingPapers, .instanceMethod yX2_clashingPapers, .selects RX2 yX2_clashingPapers yX2_clashingPapers, .code yX2_clashesOf cX2_clashesOf 4 (some .int), .methodLink RX2 74 yX2_clashesOf, .instanceMethod yX2_clashesOf, .selects RX2 yX2_clashesOf yX2_clashesOf, .code yX2_clashes cX2_clashes 3 (some .int), .methodLink RX2 77 Lib.Math.max.name, .static Lib.Math.max.name, .initialized "java/lang/Math", .code Lib.Math.max.name Lib.Math.max.code 2 (some .int), .code yX2_lastEndOf cX2_lastEndOf 4 (some .int), .methodLink RX2 82 yX2_lastEndOf, .instanceMethod yX2_lastEndOf, .selects RX2 yX2_lastEndOf yX2_lastEndOf, .code yX2_lastEnd cX2_lastEnd 3 (some .int), .methodLink RX2 88 yX2_isSatAt, .instanceMethod yX2_isSatAt, .selects RX2 yX2_isSatAt yX2_isSatAt, .code yX2_readersAt cX2_readersAt 5 (some .int), .methodLink RX2 85 yX2_readersAt, .instanceMethod yX2_readersAt, .selects RX2 yX2_readersAt yX2_readersAt, .code yX2_mostReaders cX2_mostReaders 3 (some .int), .code yX2_isOpen cX2_isOpen 2 (some .boolean), .code yX2_desksOf cX2_desksOf 2 (some .int), .code yX2_openDesks cX2_openDesks 3 (some .int), .methodLink RX2 92 yX2_isOpen, .instanceMethod yX2_isOpen, .selects RX2 yX2_isOpen yX2_isOpen, .methodLink RX2 96 yX2_desksOf, .instanceMethod yX2_desksOf, .selects RX2 yX2_desksOf yX2_desksOf, .methodLink RX3 3 objectInit, .classLink RX3 9 RX2]
def TB3 : List Cond := [.fieldLink RX3 12 "ExamHalls$Seating" "school" "LExamHalls$School;", .fieldLink RX3 18 "ExamHalls$Seating" "halls" "[I", .fieldLink RX3 22 "ExamHalls$Seating" "desks" "[I", .fieldLink RX3 25 "ExamHalls$Seating" "rooms" "[I", .fieldLink RX3 28 "ExamHalls$Seating" "unplaced" "I", .fieldLink RX3 32 "ExamHalls$Seating" "unplacedReaders" "I", .fieldLink RX3 35 "ExamHalls$Seating" "deskEnds" "[I", .fieldLink RX3 38 "ExamHalls$Seating" "deskPapers" "[I", .fieldLink RX3 41 "ExamHalls$Seating" "roomEnds" "[I", .code yX3_init cX3_init 1 none, .code yX3_clear cX3_clear 2 none, .code yX3_isEarlyEnough cX3_isEarlyEnough 3 (some .boolean), .fieldLink RX3 72 "ExamHalls$School" "settings" "[I", .methodLink RX3 102 yX2_beginOf, .code yX4_sittingNumber cX4_sittingNumber 2 (some .int), .methodLink RX3 75 yX3_isEarlyEnough, .instanceMethod yX3_isEarlyEnough, .selects RX3 yX3_isEarlyEnough yX3_isEarlyEnough, .initialized RX3, .static yX4_sittingNumber, .methodLink RX3 82 yX2_endOf, .code yX3_seatInRoom cX3_seatInRoom 4 none, .code yX3_isBeside cX3_isBeside 7 (some .boolean), .fieldLink RX3 95 "ExamHalls$School" "columns" "[I", .fieldLink RX3 92 "ExamHalls$School" "rows" "[I", .code yX3_firstDesk cX3_firstDesk 6 (some .int), .methodLink RX3 98 yX3_isBeside, .instanceMethod yX3_isBeside, .selects RX3 yX3_isBeside yX3_isBeside, .methodLink RX3 85 yX2_isOpen, .methodLink RX3 89 yX3_firstDesk, .instanceMethod yX3_firstDesk, .selects RX3 yX3_firstDesk yX3_firstDesk, .code yX3_seatAtDesk cX3_seatAtDesk 6 none, .fieldLink RX3 54 "ExamHalls$School" "pupils" "I", .fieldLink RX3 61 "ExamHalls$School" "readers" "[Z", .methodLink RX3 57 yX2_sits, .methodLink RX3 65 yX3_seatInRoom, .instanceMethod yX3_seatInRoom, .selects RX3 yX3_seatInRoom yX3_seatInRoom]
def TB4 : List Cond := [.methodLink RX3 69 yX3_seatAtDesk, .instanceMethod yX3_seatAtDesk, .selects RX3 yX3_seatAtDesk yX3_seatAtDesk, .code yX3_seatPupils cX3_seatPupils 3 none, .fieldLink RX3 47 "ExamHalls$School" "starts" "[I", .methodLink RX3 44 yX3_clear, .instanceMethod yX3_clear, .selects RX3 yX3_clear yX3_clear, .methodLink RX3 50 yX3_seatPupils, .instanceMethod yX3_seatPupils, .selects RX3 yX3_seatPupils yX3_seatPupils, .code yX3_seatAll cX3_seatAll 3 none, .code yX3_isUnplaced cX3_isUnplaced 4 (some .boolean), .code yX3_unplacedPapersOf cX3_unplacedPapersOf 4 (some .int), .methodLink RX3 109 yX3_isUnplaced, .instanceMethod yX3_isUnplaced, .selects RX3 yX3_isUnplaced yX3_isUnplaced, .code yX3_unplacedOf cX3_unplacedOf 4 (some .int), .code yX3_hallsOf cX3_hallsOf 5 (some .int), .code yX3_seatedIn cX3_seatedIn 4 (some .int), .code yX3_isNow cX3_isNow 3 (some .boolean), .methodLink RX3 123 yX2_isSatAt, .methodLink RX3 120 yX3_isNow, .instanceMethod yX3_isNow, .selects RX3 yX3_isNow yX3_isNow, .code yX3_takenIn cX3_takenIn 5 (some .int), .methodLink RX3 115 Lib.Math.max.name, .methodLink RX3 112 yX3_takenIn, .instanceMethod yX3_takenIn, .selects RX3 yX3_takenIn yX3_takenIn, .code yX3_mostTakenIn cX3_mostTakenIn 4 (some .int), .code yX3_sittingAt cX3_sittingAt 5 (some .int), .methodLink RX4 3 objectInit, .classLink RX4 9 RX3, .instantiable RX3 9, .fieldLink RX4 12 "ExamHalls" "seating" "LExamHalls$Seating;", .fieldLink RX4 16 "ExamHalls$Seating" "school" "LExamHalls$School;", .fieldLink RX4 20 "ExamHalls" "school" "LExamHalls$School;", .fieldLink RX4 21 "ExamHalls" "trialSeating" "LExamHalls$Seating;", .fieldLink RX4 24 "ExamHalls" "trial" "LExamHalls$School;"]
def TB5 : List Cond := [.classLink RX4 27 RX1, .instantiable RX1 10, .initialized RX1, .fieldLink RX4 30 "ExamHalls" "pad" "LExamHalls$Pad;", .classLink RX4 34 RX0, .instantiable RX0 2, .fieldLink RX4 37 "ExamHalls" "history" "LExamHalls$History;", .classLink RX4 41 RX2, .fieldLink RX4 44 "ExamHalls" "slots" "[LExamHalls$School;", .fieldLink RX4 48 "ExamHalls" "slotIsUsed" "[Z", .instanceMethod yX3_init, .instanceMethod yX1_init, .methodLink RX4 36 yX0_init, .instanceMethod yX0_init, .methodLink RX4 52 yX3_seatAll, .instanceMethod yX3_seatAll, .selects RX3 yX3_seatAll yX3_seatAll, .code yX4_init cX4_init 1 none, .code yX4_isWithin cX4_isWithin 3 (some .boolean), .fieldLink RX4 59 "ExamHalls" "HIGHEST_SETTINGS" "[I", .fieldLink RX4 63 "ExamHalls$School" "settings" "[I", .methodLink RX4 55 yX4_isWithin, .static yX4_isWithin, .methodLink RX4 66 yX0_remember, .instanceMethod yX0_remember, .selects RX0 yX0_remember yX0_remember, .code yX4_set cX4_set 4 (some .int), .code yX4_isPaper cX4_isPaper 1 (some .boolean), .code yX4_isStart cX4_isStart 1 (some .boolean), .fieldLink RX4 77 "ExamHalls$School" "starts" "[I", .fieldLink RX4 80 "ExamHalls$School" "minutes" "[I", .methodLink RX4 70 yX4_isPaper, .static yX4_isPaper, .methodLink RX4 74 yX4_isStart, .static yX4_isStart, .code yX4_paper cX4_paper 5 (some .int), .code yX4_isPupilData cX4_isPupilData 2 (some .boolean), .fieldLink RX4 87 "ExamHalls$School" "pupils" "I", .methodLink RX4 83 yX4_isPupilData, .static yX4_isPupilData]
def TB6 : List Cond := [.methodLink RX4 91 yX2_addPupil, .instanceMethod yX2_addPupil, .selects RX2 yX2_addPupil yX2_addPupil, .code yX4_pupil cX4_pupil 5 (some .int), .code yX4_isPupil cX4_isPupil 2 (some .boolean), .methodLink RX4 114 yX4_isPupil, .instanceMethod yX4_isPupil, .selects RX4 yX4_isPupil yX4_isPupil, .methodLink RX4 117 yX2_writePupil, .methodLink RX4 121 yX2_clashesOf, .code yX4_change cX4_change 5 (some .int), .fieldLink RX4 125 "ExamHalls$School" "papers" "[I", .methodLink RX4 128 yX2_removePupil, .instanceMethod yX2_removePupil, .selects RX2 yX2_removePupil yX2_removePupil, .code yX4_leave cX4_leave 3 (some .int), .code yX4_isHall cX4_isHall 1 (some .boolean), .fieldLink RX4 138 "ExamHalls$School" "rows" "[I", .fieldLink RX4 141 "ExamHalls$School" "columns" "[I", .methodLink RX4 132 yX4_isHall, .static yX4_isHall, .methodLink RX4 135 yX2_desksOf, .code yX4_hall cX4_hall 5 (some .int), .fieldLink RX4 147 "ExamHalls$School" "openHalls" "I", .fieldLink RX4 150 "ExamHalls$Seating" "unplaced" "I", .methodLink RX4 144 yX2_isOpen, .code yX4_open cX4_open 3 (some .int), .fieldLink RX4 153 "ExamHalls$School" "extras" "[I", .fieldLink RX4 156 "ExamHalls$School" "readers" "[Z", .methodLink RX4 159 yX3_unplacedPapersOf, .instanceMethod yX3_unplacedPapersOf, .selects RX3 yX3_unplacedPapersOf yX3_unplacedPapersOf, .methodLink RX4 162 yX2_minutesOf, .instanceMethod yX2_minutesOf, .selects RX2 yX2_minutesOf yX2_minutesOf, .code yX4_pupilOf cX4_pupilOf 3 (some .int), .methodLink RX4 165 yX2_pupilsOf, .instanceMethod yX2_pupilsOf, .selects RX2 yX2_pupilsOf yX2_pupilsOf, .methodLink RX4 168 yX2_lastEndOf]
def TB7 : List Cond := [.methodLink RX4 171 yX3_unplacedOf, .instanceMethod yX3_unplacedOf, .selects RX3 yX3_unplacedOf yX3_unplacedOf, .methodLink RX4 174 yX3_hallsOf, .instanceMethod yX3_hallsOf, .selects RX3 yX3_hallsOf yX3_hallsOf, .code yX4_paperOf cX4_paperOf 3 (some .int), .fieldLink RX4 190 "ExamHalls$Seating" "halls" "[I", .fieldLink RX4 193 "ExamHalls$Seating" "desks" "[I", .fieldLink RX4 196 "ExamHalls$Seating" "rooms" "[I", .methodLink RX4 177 yX2_sits, .methodLink RX4 180 yX4_sittingNumber, .methodLink RX4 184 yX2_beginOf, .methodLink RX4 187 yX2_endOf, .methodLink RX4 199 yX2_clashingPapers, .code yX4_sitting cX4_sitting 5 (some .int), .methodLink RX4 202 yX3_seatedIn, .instanceMethod yX3_seatedIn, .selects RX3 yX3_seatedIn yX3_seatedIn, .methodLink RX4 205 yX3_mostTakenIn, .instanceMethod yX3_mostTakenIn, .selects RX3 yX3_mostTakenIn yX3_mostTakenIn, .code yX4_hallOf cX4_hallOf 3 (some .int), .fieldLink RX4 111 "ExamHalls$Pad" "length" "I", .fieldLink RX4 223 "ExamHalls$History" "size" "I", .methodLink RX4 208 yX2_sittings, .instanceMethod yX2_sittings, .selects RX2 yX2_sittings yX2_sittings, .methodLink RX4 211 yX2_clashes, .instanceMethod yX2_clashes, .selects RX2 yX2_clashes yX2_clashes, .methodLink RX4 214 yX2_openDesks, .instanceMethod yX2_openDesks, .selects RX2 yX2_openDesks yX2_openDesks, .methodLink RX4 217 yX2_mostReaders, .instanceMethod yX2_mostReaders, .selects RX2 yX2_mostReaders yX2_mostReaders, .methodLink RX4 220 yX2_lastEnd, .instanceMethod yX2_lastEnd, .selects RX2 yX2_lastEnd yX2_lastEnd]
def TB8 : List Cond := [.code yX4_count cX4_count 2 (some .int), .methodLink RX4 226 yX3_sittingAt, .instanceMethod yX3_sittingAt, .selects RX3 yX3_sittingAt yX3_sittingAt, .code yX4_at cX4_at 4 (some .int), .methodLink RX4 230 yX2_copyFrom, .code yX4_ifStart cX4_ifStart 4 (some .int), .code yX4_bestStart cX4_bestStart 7 (some .int), .code yX4_bestHalls cX4_bestHalls 8 (some .int), .fieldLink RX4 233 "ExamHalls$Seating" "unplacedReaders" "I", .code yX4_leastRooms cX4_leastRooms 2 (some .int), .methodLink RX4 244 yX0_takeBack, .instanceMethod yX0_takeBack, .selects RX0 yX0_takeBack yX0_takeBack, .code yX4_undo cX4_undo 1 (some .int), .code yX4_isSlot cX4_isSlot 1 (some .boolean), .methodLink RX4 247 yX4_isSlot, .static yX4_isSlot, .code yX4_save cX4_save 2 (some .int), .code yX4_restore cX4_restore 2 (some .int), .code yJ9_max_7cf53 cJ9_max_7cf53 2 (some .int), .code yL_cell cL_cell 2 (some .int), .constant RL 7 (15485959), .constant RL 8 (2147483647), .code yL_bits cL_bits 3 (some .int), .methodLink RL 9 yX4_sitting, .instanceMethod yX4_sitting, .selects RX4 yX4_sitting yX4_sitting, .code yL_place cL_place 4 (some .int), .code yL_at cL_at 3 (some .int), .methodLink RL 15 yX4_hallOf, .instanceMethod yX4_hallOf, .selects RX4 yX4_hallOf yX4_hallOf, .methodLink RL 19 yX4_paperOf, .instanceMethod yX4_paperOf, .selects RX4 yX4_paperOf yX4_paperOf, .methodLink RL 22 yX4_at, .instanceMethod yX4_at, .selects RX4 yX4_at yX4_at, .methodLink RL 25 yX4_pupilOf]
def TB9 : List Cond := [.instanceMethod yX4_pupilOf, .selects RX4 yX4_pupilOf yX4_pupilOf, .methodLink RL 28 yX4_count, .instanceMethod yX4_count, .selects RX4 yX4_count yX4_count, .code yL_isSitting cL_isSitting 5 (some .boolean), .methodLink RL 32 yL_place, .static yL_place, .initialized RL, .methodLink RL 38 yL_isSitting, .static yL_isSitting, .methodLink RL 42 yL_at, .static yL_at, .code yL_areSeated cL_areSeated 16 (some .boolean), .methodLink RL 45 yL_bits, .static yL_bits, .code yL_areSums cL_areSums 15 (some .boolean), .methodLink RL 48 yX4_pupil, .instanceMethod yX4_pupil, .selects RX4 yX4_pupil yX4_pupil, .methodLink RL 52 yX4_change, .instanceMethod yX4_change, .selects RX4 yX4_change yX4_change, .methodLink RL 56 yX4_leave, .instanceMethod yX4_leave, .selects RX4 yX4_leave yX4_leave, .methodLink RL 59 yX4_ifStart, .instanceMethod yX4_ifStart, .selects RX4 yX4_ifStart yX4_ifStart, .methodLink RL 62 yX4_paper, .instanceMethod yX4_paper, .selects RX4 yX4_paper yX4_paper, .methodLink RL 65 yX4_hall, .instanceMethod yX4_hall, .selects RX4 yX4_hall yX4_hall, .methodLink RL 68 yX4_open, .instanceMethod yX4_open, .selects RX4 yX4_open yX4_open, .methodLink RL 72 yX4_set, .instanceMethod yX4_set]
def TB10 : List Cond := [.selects RX4 yX4_set yX4_set, .code yL_acts cL_acts 27 (some .boolean), .methodLink RL 75 yX4_bestHalls, .instanceMethod yX4_bestHalls, .selects RX4 yX4_bestHalls yX4_bestHalls, .methodLink RL 78 yX4_leastRooms, .instanceMethod yX4_leastRooms, .selects RX4 yX4_leastRooms yX4_leastRooms, .code yL_areBest cL_areBest 7 (some .boolean), .classLink RL 10 RX4, .instantiable RX4 8, .methodLink RL 82 yX4_init, .instanceMethod yX4_init, .methodLink RL 83 yX4_undo, .instanceMethod yX4_undo, .selects RX4 yX4_undo yX4_undo, .methodLink RL 86 yX4_restore, .instanceMethod yX4_restore, .selects RX4 yX4_restore yX4_restore, .methodLink RL 89 yX4_bestStart, .instanceMethod yX4_bestStart, .selects RX4 yX4_bestStart yX4_bestStart, .methodLink RL 92 yL_cell, .static yL_cell, .methodLink RL 96 yL_acts, .static yL_acts, .methodLink RL 100 yL_areSeated, .static yL_areSeated, .methodLink RL 104 yL_areSums, .static yL_areSums, .methodLink RL 107 yX4_save, .instanceMethod yX4_save, .selects RX4 yX4_save yX4_save, .methodLink RL 110 yL_areBest, .static yL_areBest]
/-- the words that every contract takes along -/
def TB : List Cond := TB0 ++ (TB1 ++ (TB2 ++ (TB3 ++ (TB4 ++ (TB5 ++ (TB6 ++ (TB7 ++ (TB8 ++ (TB9 ++ (TB10 ++ (wsX00 ++ (wsX10 ++ (wsX20 ++ (wsX30 ++ (wsX40)))))))))))))))
theorem TB_good : TB.all goodWord = true := by decide +kernel
theorem TB_c0 (w : Cond) (h : w ∈ TB0) : w ∈ TB := List.mem_append_left _ h
theorem TB_c1 (w : Cond) (h : w ∈ TB1) : w ∈ TB := List.mem_append_right _ (List.mem_append_left _ h)
theorem TB_c2 (w : Cond) (h : w ∈ TB2) : w ∈ TB := List.mem_append_right _ (List.mem_append_right _ (List.mem_append_left _ h))
theorem TB_c3 (w : Cond) (h : w ∈ TB3) : w ∈ TB := List.mem_append_right _ (List.mem_append_right _ (List.mem_append_right _ (List.mem_append_left _ h)))
theorem TB_c4 (w : Cond) (h : w ∈ TB4) : w ∈ TB := List.mem_append_right _ (List.mem_append_right _ (List.mem_append_right _ (List.mem_append_right _ (List.mem_append_left _ h))))
theorem TB_c5 (w : Cond) (h : w ∈ TB5) : w ∈ TB := List.mem_append_right _ (List.mem_append_right _ (List.mem_append_right _ (List.mem_append_right _ (List.mem_append_right _ (List.mem_append_left _ h)))))
theorem TB_c6 (w : Cond) (h : w ∈ TB6) : w ∈ TB := List.mem_append_right _ (List.mem_append_right _ (List.mem_append_right _ (List.mem_append_right _ (List.mem_append_right _ (List.mem_append_right _ (List.mem_append_left _ h))))))
theorem TB_c7 (w : Cond) (h : w ∈ TB7) : w ∈ TB := List.mem_append_right _ (List.mem_append_right _ (List.mem_append_right _ (List.mem_append_right _ (List.mem_append_right _ (List.mem_append_right _ (List.mem_append_right _ (List.mem_append_left _ h)))))))
theorem TB_c8 (w : Cond) (h : w ∈ TB8) : w ∈ TB := List.mem_append_right _ (List.mem_append_right _ (List.mem_append_right _ (List.mem_append_right _ (List.mem_append_right _ (List.mem_append_right _ (List.mem_append_right _ (List.mem_append_right _ (List.mem_append_left _ h))))))))
theorem TB_c9 (w : Cond) (h : w ∈ TB9) : w ∈ TB := List.mem_append_right _ (List.mem_append_right _ (List.mem_append_right _ (List.mem_append_right _ (List.mem_append_right _ (List.mem_append_right _ (List.mem_append_right _ (List.mem_append_right _ (List.mem_append_right _ (List.mem_append_left _ h)))))))))
theorem TB_c10 (w : Cond) (h : w ∈ TB10) : w ∈ TB := List.mem_append_right _ (List.mem_append_right _ (List.mem_append_right _ (List.mem_append_right _ (List.mem_append_right _ (List.mem_append_right _ (List.mem_append_right _ (List.mem_append_right _ (List.mem_append_right _ (List.mem_append_right _ (List.mem_append_left _ h))))))))))
theorem TB_l0 (w : Cond) (h : w ∈ wsX00) : w ∈ TB := List.mem_append_right _ (List.mem_append_right _ (List.mem_append_right _ (List.mem_append_right _ (List.mem_append_right _ (List.mem_append_right _ (List.mem_append_right _ (List.mem_append_right _ (List.mem_append_right _ (List.mem_append_right _ (List.mem_append_right _ (List.mem_append_left _ h)))))))))))
theorem TB_l1 (w : Cond) (h : w ∈ wsX10) : w ∈ TB := List.mem_append_right _ (List.mem_append_right _ (List.mem_append_right _ (List.mem_append_right _ (List.mem_append_right _ (List.mem_append_right _ (List.mem_append_right _ (List.mem_append_right _ (List.mem_append_right _ (List.mem_append_right _ (List.mem_append_right _ (List.mem_append_right _ (List.mem_append_left _ h))))))))))))
theorem TB_l2 (w : Cond) (h : w ∈ wsX20) : w ∈ TB := List.mem_append_right _ (List.mem_append_right _ (List.mem_append_right _ (List.mem_append_right _ (List.mem_append_right _ (List.mem_append_right _ (List.mem_append_right _ (List.mem_append_right _ (List.mem_append_right _ (List.mem_append_right _ (List.mem_append_right _ (List.mem_append_right _ (List.mem_append_right _ (List.mem_append_left _ h)))))))))))))
theorem TB_l3 (w : Cond) (h : w ∈ wsX30) : w ∈ TB := List.mem_append_right _ (List.mem_append_right _ (List.mem_append_right _ (List.mem_append_right _ (List.mem_append_right _ (List.mem_append_right _ (List.mem_append_right _ (List.mem_append_right _ (List.mem_append_right _ (List.mem_append_right _ (List.mem_append_right _ (List.mem_append_right _ (List.mem_append_right _ (List.mem_append_right _ (List.mem_append_left _ h))))))))))))))
theorem TB_l4 (w : Cond) (h : w ∈ wsX40) : w ∈ TB := List.mem_append_right _ (List.mem_append_right _ (List.mem_append_right _ (List.mem_append_right _ (List.mem_append_right _ (List.mem_append_right _ (List.mem_append_right _ (List.mem_append_right _ (List.mem_append_right _ (List.mem_append_right _ (List.mem_append_right _ (List.mem_append_right _ (List.mem_append_right _ (List.mem_append_right _ (List.mem_append_right _ (h)))))))))))))))
theorem k0 : (.code yX2_init cX2_init 1 none : Cond) ∈ TB := TB_c0 _ (List.mem_of_getElem? (i := 0) rfl)
theorem k1 : (.methodLink RX2 3 objectInit : Cond) ∈ TB := TB_c0 _ (List.mem_of_getElem? (i := 1) rfl)
theorem k2 : (.instanceMethod objectInit : Cond) ∈ TB := TB_c0 _ (List.mem_of_getElem? (i := 2) rfl)
theorem k3 : (.code objectInit ⟨#[0xb1]⟩ 1 none : Cond) ∈ TB := TB_c0 _ (List.mem_of_getElem? (i := 3) rfl)
theorem k4 : (.arrayClass .int : Cond) ∈ TB := TB_c0 _ (List.mem_of_getElem? (i := 4) rfl)
theorem k5 : (.fieldLink RX2 9 "ExamHalls$School" "settings" "[I" : Cond) ∈ TB := TB_c0 _ (List.mem_of_getElem? (i := 5) rfl)
theorem k6 : (.fieldLink RX2 15 "ExamHalls$School" "starts" "[I" : Cond) ∈ TB := TB_c0 _ (List.mem_of_getElem? (i := 6) rfl)
theorem k7 : (.fieldLink RX2 18 "ExamHalls$School" "minutes" "[I" : Cond) ∈ TB := TB_c0 _ (List.mem_of_getElem? (i := 7) rfl)
theorem k8 : (.fieldLink RX2 21 "ExamHalls$School" "papers" "[I" : Cond) ∈ TB := TB_c0 _ (List.mem_of_getElem? (i := 8) rfl)
theorem k9 : (.fieldLink RX2 24 "ExamHalls$School" "extras" "[I" : Cond) ∈ TB := TB_c0 _ (List.mem_of_getElem? (i := 9) rfl)
theorem k10 : (.arrayClass .boolean : Cond) ∈ TB := TB_c0 _ (List.mem_of_getElem? (i := 10) rfl)
theorem k11 : (.fieldLink RX2 27 "ExamHalls$School" "readers" "[Z" : Cond) ∈ TB := TB_c0 _ (List.mem_of_getElem? (i := 11) rfl)
theorem k12 : (.fieldLink RX2 31 "ExamHalls$School" "rows" "[I" : Cond) ∈ TB := TB_c0 _ (List.mem_of_getElem? (i := 12) rfl)
theorem k13 : (.fieldLink RX2 34 "ExamHalls$School" "columns" "[I" : Cond) ∈ TB := TB_c0 _ (List.mem_of_getElem? (i := 13) rfl)
theorem k14 : (.fieldLink RX2 37 "ExamHalls$School" "pupils" "I" : Cond) ∈ TB := TB_c0 _ (List.mem_of_getElem? (i := 14) rfl)
theorem k15 : (.fieldLink RX2 41 "ExamHalls$School" "openHalls" "I" : Cond) ∈ TB := TB_c0 _ (List.mem_of_getElem? (i := 15) rfl)
theorem k16 : (.code yX0_init cX0_init 2 none : Cond) ∈ TB := TB_c0 _ (List.mem_of_getElem? (i := 16) rfl)
theorem k17 : (.methodLink RX0 3 objectInit : Cond) ∈ TB := TB_c0 _ (List.mem_of_getElem? (i := 17) rfl)
theorem k18 : (.classLink RX0 9 RX2 : Cond) ∈ TB := TB_c0 _ (List.mem_of_getElem? (i := 18) rfl)
theorem k19 : (.fieldLink RX0 11 "ExamHalls$History" "states" "[LExamHalls$School;" : Cond) ∈ TB := TB_c0 _ (List.mem_of_getElem? (i := 19) rfl)
theorem k20 : (.fieldLink RX0 17 "ExamHalls$History" "size" "I" : Cond) ∈ TB := TB_c0 _ (List.mem_of_getElem? (i := 20) rfl)
theorem k21 : (.instantiable RX2 10 : Cond) ∈ TB := TB_c0 _ (List.mem_of_getElem? (i := 21) rfl)
theorem k22 : (.initialized RX2 : Cond) ∈ TB := TB_c0 _ (List.mem_of_getElem? (i := 22) rfl)
theorem k23 : (.instanceMethod yX2_init : Cond) ∈ TB := TB_c0 _ (List.mem_of_getElem? (i := 23) rfl)
theorem k24 : (.code yX0_dropOldest cX0_dropOldest 3 none : Cond) ∈ TB := TB_c0 _ (List.mem_of_getElem? (i := 24) rfl)
theorem k25 : (.code yX2_copyFrom cX2_copyFrom 3 none : Cond) ∈ TB := TB_c0 _ (List.mem_of_getElem? (i := 25) rfl)
theorem k26 : (.code yX0_remember cX0_remember 2 none : Cond) ∈ TB := TB_c0 _ (List.mem_of_getElem? (i := 26) rfl)
theorem k27 : (.methodLink RX0 22 yX0_dropOldest : Cond) ∈ TB := TB_c0 _ (List.mem_of_getElem? (i := 27) rfl)
theorem k28 : (.instanceMethod yX0_dropOldest : Cond) ∈ TB := TB_c0 _ (List.mem_of_getElem? (i := 28) rfl)
theorem k29 : (.selects RX0 yX0_dropOldest yX0_dropOldest : Cond) ∈ TB := TB_c0 _ (List.mem_of_getElem? (i := 29) rfl)
theorem k30 : (.initialized RX0 : Cond) ∈ TB := TB_c0 _ (List.mem_of_getElem? (i := 30) rfl)
theorem k31 : (.methodLink RX0 25 yX2_copyFrom : Cond) ∈ TB := TB_c0 _ (List.mem_of_getElem? (i := 31) rfl)
theorem k32 : (.instanceMethod yX2_copyFrom : Cond) ∈ TB := TB_c0 _ (List.mem_of_getElem? (i := 32) rfl)
theorem k33 : (.selects RX2 yX2_copyFrom yX2_copyFrom : Cond) ∈ TB := TB_c0 _ (List.mem_of_getElem? (i := 33) rfl)
theorem k34 : (.code yX0_takeBack cX0_takeBack 2 none : Cond) ∈ TB := TB_c0 _ (List.mem_of_getElem? (i := 34) rfl)
theorem k35 : (.code yX1_init cX1_init 1 none : Cond) ∈ TB := TB_c0 _ (List.mem_of_getElem? (i := 35) rfl)
theorem k36 : (.methodLink RX1 3 objectInit : Cond) ∈ TB := TB_c0 _ (List.mem_of_getElem? (i := 36) rfl)
theorem k37 : (.fieldLink RX1 9 "ExamHalls$Pad" "signs" "[I" : Cond) ∈ TB := TB_c0 _ (List.mem_of_getElem? (i := 37) rfl)
theorem k38 : (.fieldLink RX1 15 "ExamHalls$Pad" "length" "I" : Cond) ∈ TB := TB_c0 _ (List.mem_of_getElem? (i := 38) rfl)
theorem k39 : (.fieldLink RX1 19 "ExamHalls$Pad" "foundPapers" "[I" : Cond) ∈ TB := TB_c0 _ (List.mem_of_getElem? (i := 39) rfl)
theorem k40 : (.fieldLink RX1 22 "ExamHalls$Pad" "foundExtras" "[I" : Cond) ∈ TB := TB_c1 _ (List.mem_of_getElem? (i := 0) rfl)
theorem k41 : (.fieldLink RX1 25 "ExamHalls$Pad" "foundReaders" "[Z" : Cond) ∈ TB := TB_c1 _ (List.mem_of_getElem? (i := 1) rfl)
theorem k42 : (.fieldLink RX1 29 "ExamHalls$Pad" "found" "I" : Cond) ∈ TB := TB_c1 _ (List.mem_of_getElem? (i := 2) rfl)
theorem k43 : (.fieldLink RX1 32 "ExamHalls$Pad" "state" "I" : Cond) ∈ TB := TB_c1 _ (List.mem_of_getElem? (i := 3) rfl)
theorem k44 : (.fieldLink RX1 35 "ExamHalls$Pad" "papers" "I" : Cond) ∈ TB := TB_c1 _ (List.mem_of_getElem? (i := 4) rfl)
theorem k45 : (.fieldLink RX1 38 "ExamHalls$Pad" "extra" "I" : Cond) ∈ TB := TB_c1 _ (List.mem_of_getElem? (i := 5) rfl)
theorem k46 : (.fieldLink RX1 41 "ExamHalls$Pad" "needsReader" "Z" : Cond) ∈ TB := TB_c1 _ (List.mem_of_getElem? (i := 6) rfl)
theorem k47 : (.code yX2_writePupil cX2_writePupil 5 none : Cond) ∈ TB := TB_c1 _ (List.mem_of_getElem? (i := 7) rfl)
theorem k48 : (.code yX2_addPupil cX2_addPupil 4 none : Cond) ∈ TB := TB_c1 _ (List.mem_of_getElem? (i := 8) rfl)
theorem k49 : (.methodLink RX2 44 yX2_writePupil : Cond) ∈ TB := TB_c1 _ (List.mem_of_getElem? (i := 9) rfl)
theorem k50 : (.instanceMethod yX2_writePupil : Cond) ∈ TB := TB_c1 _ (List.mem_of_getElem? (i := 10) rfl)
theorem k51 : (.selects RX2 yX2_writePupil yX2_writePupil : Cond) ∈ TB := TB_c1 _ (List.mem_of_getElem? (i := 11) rfl)
theorem k52 : (.code yX2_removePupil cX2_removePupil 3 none : Cond) ∈ TB := TB_c1 _ (List.mem_of_getElem? (i := 12) rfl)
theorem k53 : (.code yX4_contains cX4_contains 2 (some .boolean) : Cond) ∈ TB := TB_c1 _ (List.mem_of_getElem? (i := 13) rfl)
theorem k54 : (.code yX2_sits cX2_sits 3 (some .boolean) : Cond) ∈ TB := TB_c1 _ (List.mem_of_getElem? (i := 14) rfl)
theorem k55 : (.static yX4_contains : Cond) ∈ TB := TB_c1 _ (List.mem_of_getElem? (i := 15) rfl)
theorem k56 : (.initialized RX4 : Cond) ∈ TB := TB_c1 _ (List.mem_of_getElem? (i := 16) rfl)
theorem k57 : (.code yX2_beginOf cX2_beginOf 2 (some .int) : Cond) ∈ TB := TB_c1 _ (List.mem_of_getElem? (i := 17) rfl)
theorem k58 : (.code yX2_lengthOf cX2_lengthOf 3 (some .int) : Cond) ∈ TB := TB_c1 _ (List.mem_of_getElem? (i := 18) rfl)
theorem k59 : (.code yX2_endOf cX2_endOf 3 (some .int) : Cond) ∈ TB := TB_c1 _ (List.mem_of_getElem? (i := 19) rfl)
theorem k60 : (.methodLink RX2 52 yX2_beginOf : Cond) ∈ TB := TB_c1 _ (List.mem_of_getElem? (i := 20) rfl)
theorem k61 : (.instanceMethod yX2_beginOf : Cond) ∈ TB := TB_c1 _ (List.mem_of_getElem? (i := 21) rfl)
theorem k62 : (.selects RX2 yX2_beginOf yX2_beginOf : Cond) ∈ TB := TB_c1 _ (List.mem_of_getElem? (i := 22) rfl)
theorem k63 : (.methodLink RX2 56 yX2_lengthOf : Cond) ∈ TB := TB_c1 _ (List.mem_of_getElem? (i := 23) rfl)
theorem k64 : (.instanceMethod yX2_lengthOf : Cond) ∈ TB := TB_c1 _ (List.mem_of_getElem? (i := 24) rfl)
theorem k65 : (.selects RX2 yX2_lengthOf yX2_lengthOf : Cond) ∈ TB := TB_c1 _ (List.mem_of_getElem? (i := 25) rfl)
theorem k66 : (.code yX2_isSatAt cX2_isSatAt 4 (some .boolean) : Cond) ∈ TB := TB_c1 _ (List.mem_of_getElem? (i := 26) rfl)
theorem k67 : (.methodLink RX2 60 yX2_endOf : Cond) ∈ TB := TB_c1 _ (List.mem_of_getElem? (i := 27) rfl)
theorem k68 : (.instanceMethod yX2_endOf : Cond) ∈ TB := TB_c1 _ (List.mem_of_getElem? (i := 28) rfl)
theorem k69 : (.selects RX2 yX2_endOf yX2_endOf : Cond) ∈ TB := TB_c1 _ (List.mem_of_getElem? (i := 29) rfl)
theorem k70 : (.code yJ6_bitCount_0f7a4 cJ6_bitCount_0f7a4 1 (some .int) : Cond) ∈ TB := TB_c1 _ (List.mem_of_getElem? (i := 30) rfl)
theorem k71 : (.constant RJ6 265 (1431655765) : Cond) ∈ TB := TB_c1 _ (List.mem_of_getElem? (i := 31) rfl)
theorem k72 : (.constant RJ6 266 (858993459) : Cond) ∈ TB := TB_c1 _ (List.mem_of_getElem? (i := 32) rfl)
theorem k73 : (.constant RJ6 267 (252645135) : Cond) ∈ TB := TB_c1 _ (List.mem_of_getElem? (i := 33) rfl)
theorem k74 : (.code yX2_sittings cX2_sittings 3 (some .int) : Cond) ∈ TB := TB_c1 _ (List.mem_of_getElem? (i := 34) rfl)
theorem k75 : (.methodLink RX2 63 yJ6_bitCount_0f7a4 : Cond) ∈ TB := TB_c1 _ (List.mem_of_getElem? (i := 35) rfl)
theorem k76 : (.static yJ6_bitCount_0f7a4 : Cond) ∈ TB := TB_c1 _ (List.mem_of_getElem? (i := 36) rfl)
theorem k77 : (.initialized RJ6 : Cond) ∈ TB := TB_c1 _ (List.mem_of_getElem? (i := 37) rfl)
theorem k78 : (.code yX2_minutesOf cX2_minutesOf 4 (some .int) : Cond) ∈ TB := TB_c1 _ (List.mem_of_getElem? (i := 38) rfl)
theorem k79 : (.methodLink RX2 68 yX2_sits : Cond) ∈ TB := TB_c1 _ (List.mem_of_getElem? (i := 39) rfl)
theorem k80 : (.instanceMethod yX2_sits : Cond) ∈ TB := TB_c2 _ (List.mem_of_getElem? (i := 0) rfl)
theorem k81 : (.selects RX2 yX2_sits yX2_sits : Cond) ∈ TB := TB_c2 _ (List.mem_of_getElem? (i := 1) rfl)
theorem k82 : (.code yX2_pupilsOf cX2_pupilsOf 4 (some .int) : Cond) ∈ TB := TB_c2 _ (List.mem_of_getElem? (i := 2) rfl)
theorem k83 : (.code yX2_clashingPapers cX2_clashingPapers 5 (some .int) : Cond) ∈ TB := TB_c2 _ (List.mem_of_getElem? (i := 3) rfl)
theorem k84 : (.methodLink RX2 71 yX2_clashingPapers : Cond) ∈ TB := TB_c2 _ (List.mem_of_getElem? (i := 4) rfl)
theorem k85 : (.instanceMethod yX2_clashingPapers : Cond) ∈ TB := TB_c2 _ (List.mem_of_getElem? (i := 5) rfl)
theorem k86 : (.selects RX2 yX2_clashingPapers yX2_clashingPapers : Cond) ∈ TB := TB_c2 _ (List.mem_of_getElem? (i := 6) rfl)
theorem k87 : (.code yX2_clashesOf cX2_clashesOf 4 (some .int) : Cond) ∈ TB := TB_c2 _ (List.mem_of_getElem? (i := 7) rfl)
theorem k88 : (.methodLink RX2 74 yX2_clashesOf : Cond) ∈ TB := TB_c2 _ (List.mem_of_getElem? (i := 8) rfl)
theorem k89 : (.instanceMethod yX2_clashesOf : Cond) ∈ TB := TB_c2 _ (List.mem_of_getElem? (i := 9) rfl)
theorem k90 : (.selects RX2 yX2_clashesOf yX2_clashesOf : Cond) ∈ TB := TB_c2 _ (List.mem_of_getElem? (i := 10) rfl)
theorem k91 : (.code yX2_clashes cX2_clashes 3 (some .int) : Cond) ∈ TB := TB_c2 _ (List.mem_of_getElem? (i := 11) rfl)
theorem k92 : (.methodLink RX2 77 Lib.Math.max.name : Cond) ∈ TB := TB_c2 _ (List.mem_of_getElem? (i := 12) rfl)
theorem k93 : (.static Lib.Math.max.name : Cond) ∈ TB := TB_c2 _ (List.mem_of_getElem? (i := 13) rfl)
theorem k94 : (.initialized "java/lang/Math" : Cond) ∈ TB := TB_c2 _ (List.mem_of_getElem? (i := 14) rfl)
theorem k95 : (.code Lib.Math.max.name Lib.Math.max.code 2 (some .int) : Cond) ∈ TB := TB_c2 _ (List.mem_of_getElem? (i := 15) rfl)
theorem k96 : (.code yX2_lastEndOf cX2_lastEndOf 4 (some .int) : Cond) ∈ TB := TB_c2 _ (List.mem_of_getElem? (i := 16) rfl)
theorem k97 : (.methodLink RX2 82 yX2_lastEndOf : Cond) ∈ TB := TB_c2 _ (List.mem_of_getElem? (i := 17) rfl)
theorem k98 : (.instanceMethod yX2_lastEndOf : Cond) ∈ TB := TB_c2 _ (List.mem_of_getElem? (i := 18) rfl)
theorem k99 : (.selects RX2 yX2_lastEndOf yX2_lastEndOf : Cond) ∈ TB := TB_c2 _ (List.mem_of_getElem? (i := 19) rfl)
theorem k100 : (.code yX2_lastEnd cX2_lastEnd 3 (some .int) : Cond) ∈ TB := TB_c2 _ (List.mem_of_getElem? (i := 20) rfl)
theorem k101 : (.methodLink RX2 88 yX2_isSatAt : Cond) ∈ TB := TB_c2 _ (List.mem_of_getElem? (i := 21) rfl)
theorem k102 : (.instanceMethod yX2_isSatAt : Cond) ∈ TB := TB_c2 _ (List.mem_of_getElem? (i := 22) rfl)
theorem k103 : (.selects RX2 yX2_isSatAt yX2_isSatAt : Cond) ∈ TB := TB_c2 _ (List.mem_of_getElem? (i := 23) rfl)
theorem k104 : (.code yX2_readersAt cX2_readersAt 5 (some .int) : Cond) ∈ TB := TB_c2 _ (List.mem_of_getElem? (i := 24) rfl)
theorem k105 : (.methodLink RX2 85 yX2_readersAt : Cond) ∈ TB := TB_c2 _ (List.mem_of_getElem? (i := 25) rfl)
theorem k106 : (.instanceMethod yX2_readersAt : Cond) ∈ TB := TB_c2 _ (List.mem_of_getElem? (i := 26) rfl)
theorem k107 : (.selects RX2 yX2_readersAt yX2_readersAt : Cond) ∈ TB := TB_c2 _ (List.mem_of_getElem? (i := 27) rfl)
theorem k108 : (.code yX2_mostReaders cX2_mostReaders 3 (some .int) : Cond) ∈ TB := TB_c2 _ (List.mem_of_getElem? (i := 28) rfl)
theorem k109 : (.code yX2_isOpen cX2_isOpen 2 (some .boolean) : Cond) ∈ TB := TB_c2 _ (List.mem_of_getElem? (i := 29) rfl)
theorem k110 : (.code yX2_desksOf cX2_desksOf 2 (some .int) : Cond) ∈ TB := TB_c2 _ (List.mem_of_getElem? (i := 30) rfl)
theorem k111 : (.code yX2_openDesks cX2_openDesks 3 (some .int) : Cond) ∈ TB := TB_c2 _ (List.mem_of_getElem? (i := 31) rfl)
theorem k112 : (.methodLink RX2 92 yX2_isOpen : Cond) ∈ TB := TB_c2 _ (List.mem_of_getElem? (i := 32) rfl)
theorem k113 : (.instanceMethod yX2_isOpen : Cond) ∈ TB := TB_c2 _ (List.mem_of_getElem? (i := 33) rfl)
theorem k114 : (.selects RX2 yX2_isOpen yX2_isOpen : Cond) ∈ TB := TB_c2 _ (List.mem_of_getElem? (i := 34) rfl)
theorem k115 : (.methodLink RX2 96 yX2_desksOf : Cond) ∈ TB := TB_c2 _ (List.mem_of_getElem? (i := 35) rfl)
theorem k116 : (.instanceMethod yX2_desksOf : Cond) ∈ TB := TB_c2 _ (List.mem_of_getElem? (i := 36) rfl)
theorem k117 : (.selects RX2 yX2_desksOf yX2_desksOf : Cond) ∈ TB := TB_c2 _ (List.mem_of_getElem? (i := 37) rfl)
theorem k118 : (.methodLink RX3 3 objectInit : Cond) ∈ TB := TB_c2 _ (List.mem_of_getElem? (i := 38) rfl)
theorem k119 : (.classLink RX3 9 RX2 : Cond) ∈ TB := TB_c2 _ (List.mem_of_getElem? (i := 39) rfl)
theorem k120 : (.fieldLink RX3 12 "ExamHalls$Seating" "school" "LExamHalls$School;" : Cond) ∈ TB := TB_c3 _ (List.mem_of_getElem? (i := 0) rfl)
theorem k121 : (.fieldLink RX3 18 "ExamHalls$Seating" "halls" "[I" : Cond) ∈ TB := TB_c3 _ (List.mem_of_getElem? (i := 1) rfl)
theorem k122 : (.fieldLink RX3 22 "ExamHalls$Seating" "desks" "[I" : Cond) ∈ TB := TB_c3 _ (List.mem_of_getElem? (i := 2) rfl)
theorem k123 : (.fieldLink RX3 25 "ExamHalls$Seating" "rooms" "[I" : Cond) ∈ TB := TB_c3 _ (List.mem_of_getElem? (i := 3) rfl)
theorem k124 : (.fieldLink RX3 28 "ExamHalls$Seating" "unplaced" "I" : Cond) ∈ TB := TB_c3 _ (List.mem_of_getElem? (i := 4) rfl)
theorem k125 : (.fieldLink RX3 32 "ExamHalls$Seating" "unplacedReaders" "I" : Cond) ∈ TB := TB_c3 _ (List.mem_of_getElem? (i := 5) rfl)
theorem k126 : (.fieldLink RX3 35 "ExamHalls$Seating" "deskEnds" "[I" : Cond) ∈ TB := TB_c3 _ (List.mem_of_getElem? (i := 6) rfl)
theorem k127 : (.fieldLink RX3 38 "ExamHalls$Seating" "deskPapers" "[I" : Cond) ∈ TB := TB_c3 _ (List.mem_of_getElem? (i := 7) rfl)
theorem k128 : (.fieldLink RX3 41 "ExamHalls$Seating" "roomEnds" "[I" : Cond) ∈ TB := TB_c3 _ (List.mem_of_getElem? (i := 8) rfl)
theorem k129 : (.code yX3_init cX3_init 1 none : Cond) ∈ TB := TB_c3 _ (List.mem_of_getElem? (i := 9) rfl)
theorem k130 : (.code yX3_clear cX3_clear 2 none : Cond) ∈ TB := TB_c3 _ (List.mem_of_getElem? (i := 10) rfl)
theorem k131 : (.code yX3_isEarlyEnough cX3_isEarlyEnough 3 (some .boolean) : Cond) ∈ TB := TB_c3 _ (List.mem_of_getElem? (i := 11) rfl)
theorem k132 : (.fieldLink RX3 72 "ExamHalls$School" "settings" "[I" : Cond) ∈ TB := TB_c3 _ (List.mem_of_getElem? (i := 12) rfl)
theorem k133 : (.methodLink RX3 102 yX2_beginOf : Cond) ∈ TB := TB_c3 _ (List.mem_of_getElem? (i := 13) rfl)
theorem k134 : (.code yX4_sittingNumber cX4_sittingNumber 2 (some .int) : Cond) ∈ TB := TB_c3 _ (List.mem_of_getElem? (i := 14) rfl)
theorem k135 : (.methodLink RX3 75 yX3_isEarlyEnough : Cond) ∈ TB := TB_c3 _ (List.mem_of_getElem? (i := 15) rfl)
theorem k136 : (.instanceMethod yX3_isEarlyEnough : Cond) ∈ TB := TB_c3 _ (List.mem_of_getElem? (i := 16) rfl)
theorem k137 : (.selects RX3 yX3_isEarlyEnough yX3_isEarlyEnough : Cond) ∈ TB := TB_c3 _ (List.mem_of_getElem? (i := 17) rfl)
theorem k138 : (.initialized RX3 : Cond) ∈ TB := TB_c3 _ (List.mem_of_getElem? (i := 18) rfl)
theorem k139 : (.static yX4_sittingNumber : Cond) ∈ TB := TB_c3 _ (List.mem_of_getElem? (i := 19) rfl)
theorem k140 : (.methodLink RX3 82 yX2_endOf : Cond) ∈ TB := TB_c3 _ (List.mem_of_getElem? (i := 20) rfl)
theorem k141 : (.code yX3_seatInRoom cX3_seatInRoom 4 none : Cond) ∈ TB := TB_c3 _ (List.mem_of_getElem? (i := 21) rfl)
theorem k142 : (.code yX3_isBeside cX3_isBeside 7 (some .boolean) : Cond) ∈ TB := TB_c3 _ (List.mem_of_getElem? (i := 22) rfl)
theorem k143 : (.fieldLink RX3 95 "ExamHalls$School" "columns" "[I" : Cond) ∈ TB := TB_c3 _ (List.mem_of_getElem? (i := 23) rfl)
theorem k144 : (.fieldLink RX3 92 "ExamHalls$School" "rows" "[I" : Cond) ∈ TB := TB_c3 _ (List.mem_of_getElem? (i := 24) rfl)
theorem k145 : (.code yX3_firstDesk cX3_firstDesk 6 (some .int) : Cond) ∈ TB := TB_c3 _ (List.mem_of_getElem? (i := 25) rfl)
theorem k146 : (.methodLink RX3 98 yX3_isBeside : Cond) ∈ TB := TB_c3 _ (List.mem_of_getElem? (i := 26) rfl)
theorem k147 : (.instanceMethod yX3_isBeside : Cond) ∈ TB := TB_c3 _ (List.mem_of_getElem? (i := 27) rfl)
theorem k148 : (.selects RX3 yX3_isBeside yX3_isBeside : Cond) ∈ TB := TB_c3 _ (List.mem_of_getElem? (i := 28) rfl)
theorem k149 : (.methodLink RX3 85 yX2_isOpen : Cond) ∈ TB := TB_c3 _ (List.mem_of_getElem? (i := 29) rfl)
theorem k150 : (.methodLink RX3 89 yX3_firstDesk : Cond) ∈ TB := TB_c3 _ (List.mem_of_getElem? (i := 30) rfl)
theorem k151 : (.instanceMethod yX3_firstDesk : Cond) ∈ TB := TB_c3 _ (List.mem_of_getElem? (i := 31) rfl)
theorem k152 : (.selects RX3 yX3_firstDesk yX3_firstDesk : Cond) ∈ TB := TB_c3 _ (List.mem_of_getElem? (i := 32) rfl)
theorem k153 : (.code yX3_seatAtDesk cX3_seatAtDesk 6 none : Cond) ∈ TB := TB_c3 _ (List.mem_of_getElem? (i := 33) rfl)
theorem k154 : (.fieldLink RX3 54 "ExamHalls$School" "pupils" "I" : Cond) ∈ TB := TB_c3 _ (List.mem_of_getElem? (i := 34) rfl)
theorem k155 : (.fieldLink RX3 61 "ExamHalls$School" "readers" "[Z" : Cond) ∈ TB := TB_c3 _ (List.mem_of_getElem? (i := 35) rfl)
theorem k156 : (.methodLink RX3 57 yX2_sits : Cond) ∈ TB := TB_c3 _ (List.mem_of_getElem? (i := 36) rfl)
theorem k157 : (.methodLink RX3 65 yX3_seatInRoom : Cond) ∈ TB := TB_c3 _ (List.mem_of_getElem? (i := 37) rfl)
theorem k158 : (.instanceMethod yX3_seatInRoom : Cond) ∈ TB := TB_c3 _ (List.mem_of_getElem? (i := 38) rfl)
theorem k159 : (.selects RX3 yX3_seatInRoom yX3_seatInRoom : Cond) ∈ TB := TB_c3 _ (List.mem_of_getElem? (i := 39) rfl)
theorem k160 : (.methodLink RX3 69 yX3_seatAtDesk : Cond) ∈ TB := TB_c4 _ (List.mem_of_getElem? (i := 0) rfl)
theorem k161 : (.instanceMethod yX3_seatAtDesk : Cond) ∈ TB := TB_c4 _ (List.mem_of_getElem? (i := 1) rfl)
theorem k162 : (.selects RX3 yX3_seatAtDesk yX3_seatAtDesk : Cond) ∈ TB := TB_c4 _ (List.mem_of_getElem? (i := 2) rfl)
theorem k163 : (.code yX3_seatPupils cX3_seatPupils 3 none : Cond) ∈ TB := TB_c4 _ (List.mem_of_getElem? (i := 3) rfl)
theorem k164 : (.fieldLink RX3 47 "ExamHalls$School" "starts" "[I" : Cond) ∈ TB := TB_c4 _ (List.mem_of_getElem? (i := 4) rfl)
theorem k165 : (.methodLink RX3 44 yX3_clear : Cond) ∈ TB := TB_c4 _ (List.mem_of_getElem? (i := 5) rfl)
theorem k166 : (.instanceMethod yX3_clear : Cond) ∈ TB := TB_c4 _ (List.mem_of_getElem? (i := 6) rfl)
theorem k167 : (.selects RX3 yX3_clear yX3_clear : Cond) ∈ TB := TB_c4 _ (List.mem_of_getElem? (i := 7) rfl)
theorem k168 : (.methodLink RX3 50 yX3_seatPupils : Cond) ∈ TB := TB_c4 _ (List.mem_of_getElem? (i := 8) rfl)
theorem k169 : (.instanceMethod yX3_seatPupils : Cond) ∈ TB := TB_c4 _ (List.mem_of_getElem? (i := 9) rfl)
theorem k170 : (.selects RX3 yX3_seatPupils yX3_seatPupils : Cond) ∈ TB := TB_c4 _ (List.mem_of_getElem? (i := 10) rfl)
theorem k171 : (.code yX3_seatAll cX3_seatAll 3 none : Cond) ∈ TB := TB_c4 _ (List.mem_of_getElem? (i := 11) rfl)
theorem k172 : (.code yX3_isUnplaced cX3_isUnplaced 4 (some .boolean) : Cond) ∈ TB := TB_c4 _ (List.mem_of_getElem? (i := 12) rfl)
theorem k173 : (.code yX3_unplacedPapersOf cX3_unplacedPapersOf 4 (some .int) : Cond) ∈ TB := TB_c4 _ (List.mem_of_getElem? (i := 13) rfl)
theorem k174 : (.methodLink RX3 109 yX3_isUnplaced : Cond) ∈ TB := TB_c4 _ (List.mem_of_getElem? (i := 14) rfl)
theorem k175 : (.instanceMethod yX3_isUnplaced : Cond) ∈ TB := TB_c4 _ (List.mem_of_getElem? (i := 15) rfl)
theorem k176 : (.selects RX3 yX3_isUnplaced yX3_isUnplaced : Cond) ∈ TB := TB_c4 _ (List.mem_of_getElem? (i := 16) rfl)
theorem k177 : (.code yX3_unplacedOf cX3_unplacedOf 4 (some .int) : Cond) ∈ TB := TB_c4 _ (List.mem_of_getElem? (i := 17) rfl)
theorem k178 : (.code yX3_hallsOf cX3_hallsOf 5 (some .int) : Cond) ∈ TB := TB_c4 _ (List.mem_of_getElem? (i := 18) rfl)
theorem k179 : (.code yX3_seatedIn cX3_seatedIn 4 (some .int) : Cond) ∈ TB := TB_c4 _ (List.mem_of_getElem? (i := 19) rfl)
theorem k180 : (.code yX3_isNow cX3_isNow 3 (some .boolean) : Cond) ∈ TB := TB_c4 _ (List.mem_of_getElem? (i := 20) rfl)
theorem k181 : (.methodLink RX3 123 yX2_isSatAt : Cond) ∈ TB := TB_c4 _ (List.mem_of_getElem? (i := 21) rfl)
theorem k182 : (.methodLink RX3 120 yX3_isNow : Cond) ∈ TB := TB_c4 _ (List.mem_of_getElem? (i := 22) rfl)
theorem k183 : (.instanceMethod yX3_isNow : Cond) ∈ TB := TB_c4 _ (List.mem_of_getElem? (i := 23) rfl)
theorem k184 : (.selects RX3 yX3_isNow yX3_isNow : Cond) ∈ TB := TB_c4 _ (List.mem_of_getElem? (i := 24) rfl)
theorem k185 : (.code yX3_takenIn cX3_takenIn 5 (some .int) : Cond) ∈ TB := TB_c4 _ (List.mem_of_getElem? (i := 25) rfl)
theorem k186 : (.methodLink RX3 115 Lib.Math.max.name : Cond) ∈ TB := TB_c4 _ (List.mem_of_getElem? (i := 26) rfl)
theorem k187 : (.methodLink RX3 112 yX3_takenIn : Cond) ∈ TB := TB_c4 _ (List.mem_of_getElem? (i := 27) rfl)
theorem k188 : (.instanceMethod yX3_takenIn : Cond) ∈ TB := TB_c4 _ (List.mem_of_getElem? (i := 28) rfl)
theorem k189 : (.selects RX3 yX3_takenIn yX3_takenIn : Cond) ∈ TB := TB_c4 _ (List.mem_of_getElem? (i := 29) rfl)
theorem k190 : (.code yX3_mostTakenIn cX3_mostTakenIn 4 (some .int) : Cond) ∈ TB := TB_c4 _ (List.mem_of_getElem? (i := 30) rfl)
theorem k191 : (.code yX3_sittingAt cX3_sittingAt 5 (some .int) : Cond) ∈ TB := TB_c4 _ (List.mem_of_getElem? (i := 31) rfl)
theorem k192 : (.methodLink RX4 3 objectInit : Cond) ∈ TB := TB_c4 _ (List.mem_of_getElem? (i := 32) rfl)
theorem k193 : (.classLink RX4 9 RX3 : Cond) ∈ TB := TB_c4 _ (List.mem_of_getElem? (i := 33) rfl)
theorem k194 : (.instantiable RX3 9 : Cond) ∈ TB := TB_c4 _ (List.mem_of_getElem? (i := 34) rfl)
theorem k195 : (.fieldLink RX4 12 "ExamHalls" "seating" "LExamHalls$Seating;" : Cond) ∈ TB := TB_c4 _ (List.mem_of_getElem? (i := 35) rfl)
theorem k196 : (.fieldLink RX4 16 "ExamHalls$Seating" "school" "LExamHalls$School;" : Cond) ∈ TB := TB_c4 _ (List.mem_of_getElem? (i := 36) rfl)
theorem k197 : (.fieldLink RX4 20 "ExamHalls" "school" "LExamHalls$School;" : Cond) ∈ TB := TB_c4 _ (List.mem_of_getElem? (i := 37) rfl)
theorem k198 : (.fieldLink RX4 21 "ExamHalls" "trialSeating" "LExamHalls$Seating;" : Cond) ∈ TB := TB_c4 _ (List.mem_of_getElem? (i := 38) rfl)
theorem k199 : (.fieldLink RX4 24 "ExamHalls" "trial" "LExamHalls$School;" : Cond) ∈ TB := TB_c4 _ (List.mem_of_getElem? (i := 39) rfl)
theorem k200 : (.classLink RX4 27 RX1 : Cond) ∈ TB := TB_c5 _ (List.mem_of_getElem? (i := 0) rfl)
theorem k201 : (.instantiable RX1 10 : Cond) ∈ TB := TB_c5 _ (List.mem_of_getElem? (i := 1) rfl)
theorem k202 : (.initialized RX1 : Cond) ∈ TB := TB_c5 _ (List.mem_of_getElem? (i := 2) rfl)
theorem k203 : (.fieldLink RX4 30 "ExamHalls" "pad" "LExamHalls$Pad;" : Cond) ∈ TB := TB_c5 _ (List.mem_of_getElem? (i := 3) rfl)
theorem k204 : (.classLink RX4 34 RX0 : Cond) ∈ TB := TB_c5 _ (List.mem_of_getElem? (i := 4) rfl)
theorem k205 : (.instantiable RX0 2 : Cond) ∈ TB := TB_c5 _ (List.mem_of_getElem? (i := 5) rfl)
theorem k206 : (.fieldLink RX4 37 "ExamHalls" "history" "LExamHalls$History;" : Cond) ∈ TB := TB_c5 _ (List.mem_of_getElem? (i := 6) rfl)
theorem k207 : (.classLink RX4 41 RX2 : Cond) ∈ TB := TB_c5 _ (List.mem_of_getElem? (i := 7) rfl)
theorem k208 : (.fieldLink RX4 44 "ExamHalls" "slots" "[LExamHalls$School;" : Cond) ∈ TB := TB_c5 _ (List.mem_of_getElem? (i := 8) rfl)
theorem k209 : (.fieldLink RX4 48 "ExamHalls" "slotIsUsed" "[Z" : Cond) ∈ TB := TB_c5 _ (List.mem_of_getElem? (i := 9) rfl)
theorem k210 : (.instanceMethod yX3_init : Cond) ∈ TB := TB_c5 _ (List.mem_of_getElem? (i := 10) rfl)
theorem k211 : (.instanceMethod yX1_init : Cond) ∈ TB := TB_c5 _ (List.mem_of_getElem? (i := 11) rfl)
theorem k212 : (.methodLink RX4 36 yX0_init : Cond) ∈ TB := TB_c5 _ (List.mem_of_getElem? (i := 12) rfl)
theorem k213 : (.instanceMethod yX0_init : Cond) ∈ TB := TB_c5 _ (List.mem_of_getElem? (i := 13) rfl)
theorem k214 : (.methodLink RX4 52 yX3_seatAll : Cond) ∈ TB := TB_c5 _ (List.mem_of_getElem? (i := 14) rfl)
theorem k215 : (.instanceMethod yX3_seatAll : Cond) ∈ TB := TB_c5 _ (List.mem_of_getElem? (i := 15) rfl)
theorem k216 : (.selects RX3 yX3_seatAll yX3_seatAll : Cond) ∈ TB := TB_c5 _ (List.mem_of_getElem? (i := 16) rfl)
theorem k217 : (.code yX4_init cX4_init 1 none : Cond) ∈ TB := TB_c5 _ (List.mem_of_getElem? (i := 17) rfl)
theorem k218 : (.code yX4_isWithin cX4_isWithin 3 (some .boolean) : Cond) ∈ TB := TB_c5 _ (List.mem_of_getElem? (i := 18) rfl)
theorem k219 : (.fieldLink RX4 59 "ExamHalls" "HIGHEST_SETTINGS" "[I" : Cond) ∈ TB := TB_c5 _ (List.mem_of_getElem? (i := 19) rfl)
theorem k220 : (.fieldLink RX4 63 "ExamHalls$School" "settings" "[I" : Cond) ∈ TB := TB_c5 _ (List.mem_of_getElem? (i := 20) rfl)
theorem k221 : (.methodLink RX4 55 yX4_isWithin : Cond) ∈ TB := TB_c5 _ (List.mem_of_getElem? (i := 21) rfl)
theorem k222 : (.static yX4_isWithin : Cond) ∈ TB := TB_c5 _ (List.mem_of_getElem? (i := 22) rfl)
theorem k223 : (.methodLink RX4 66 yX0_remember : Cond) ∈ TB := TB_c5 _ (List.mem_of_getElem? (i := 23) rfl)
theorem k224 : (.instanceMethod yX0_remember : Cond) ∈ TB := TB_c5 _ (List.mem_of_getElem? (i := 24) rfl)
theorem k225 : (.selects RX0 yX0_remember yX0_remember : Cond) ∈ TB := TB_c5 _ (List.mem_of_getElem? (i := 25) rfl)
theorem k226 : (.code yX4_set cX4_set 4 (some .int) : Cond) ∈ TB := TB_c5 _ (List.mem_of_getElem? (i := 26) rfl)
theorem k227 : (.code yX4_isPaper cX4_isPaper 1 (some .boolean) : Cond) ∈ TB := TB_c5 _ (List.mem_of_getElem? (i := 27) rfl)
theorem k228 : (.code yX4_isStart cX4_isStart 1 (some .boolean) : Cond) ∈ TB := TB_c5 _ (List.mem_of_getElem? (i := 28) rfl)
theorem k229 : (.fieldLink RX4 77 "ExamHalls$School" "starts" "[I" : Cond) ∈ TB := TB_c5 _ (List.mem_of_getElem? (i := 29) rfl)
theorem k230 : (.fieldLink RX4 80 "ExamHalls$School" "minutes" "[I" : Cond) ∈ TB := TB_c5 _ (List.mem_of_getElem? (i := 30) rfl)
theorem k231 : (.methodLink RX4 70 yX4_isPaper : Cond) ∈ TB := TB_c5 _ (List.mem_of_getElem? (i := 31) rfl)
theorem k232 : (.static yX4_isPaper : Cond) ∈ TB := TB_c5 _ (List.mem_of_getElem? (i := 32) rfl)
theorem k233 : (.methodLink RX4 74 yX4_isStart : Cond) ∈ TB := TB_c5 _ (List.mem_of_getElem? (i := 33) rfl)
theorem k234 : (.static yX4_isStart : Cond) ∈ TB := TB_c5 _ (List.mem_of_getElem? (i := 34) rfl)
theorem k235 : (.code yX4_paper cX4_paper 5 (some .int) : Cond) ∈ TB := TB_c5 _ (List.mem_of_getElem? (i := 35) rfl)
theorem k236 : (.code yX4_isPupilData cX4_isPupilData 2 (some .boolean) : Cond) ∈ TB := TB_c5 _ (List.mem_of_getElem? (i := 36) rfl)
theorem k237 : (.fieldLink RX4 87 "ExamHalls$School" "pupils" "I" : Cond) ∈ TB := TB_c5 _ (List.mem_of_getElem? (i := 37) rfl)
theorem k238 : (.methodLink RX4 83 yX4_isPupilData : Cond) ∈ TB := TB_c5 _ (List.mem_of_getElem? (i := 38) rfl)
theorem k239 : (.static yX4_isPupilData : Cond) ∈ TB := TB_c5 _ (List.mem_of_getElem? (i := 39) rfl)
theorem k240 : (.methodLink RX4 91 yX2_addPupil : Cond) ∈ TB := TB_c6 _ (List.mem_of_getElem? (i := 0) rfl)
theorem k241 : (.instanceMethod yX2_addPupil : Cond) ∈ TB := TB_c6 _ (List.mem_of_getElem? (i := 1) rfl)
theorem k242 : (.selects RX2 yX2_addPupil yX2_addPupil : Cond) ∈ TB := TB_c6 _ (List.mem_of_getElem? (i := 2) rfl)
theorem k243 : (.code yX4_pupil cX4_pupil 5 (some .int) : Cond) ∈ TB := TB_c6 _ (List.mem_of_getElem? (i := 3) rfl)
theorem k244 : (.code yX4_isPupil cX4_isPupil 2 (some .boolean) : Cond) ∈ TB := TB_c6 _ (List.mem_of_getElem? (i := 4) rfl)
theorem k245 : (.methodLink RX4 114 yX4_isPupil : Cond) ∈ TB := TB_c6 _ (List.mem_of_getElem? (i := 5) rfl)
theorem k246 : (.instanceMethod yX4_isPupil : Cond) ∈ TB := TB_c6 _ (List.mem_of_getElem? (i := 6) rfl)
theorem k247 : (.selects RX4 yX4_isPupil yX4_isPupil : Cond) ∈ TB := TB_c6 _ (List.mem_of_getElem? (i := 7) rfl)
theorem k248 : (.methodLink RX4 117 yX2_writePupil : Cond) ∈ TB := TB_c6 _ (List.mem_of_getElem? (i := 8) rfl)
theorem k249 : (.methodLink RX4 121 yX2_clashesOf : Cond) ∈ TB := TB_c6 _ (List.mem_of_getElem? (i := 9) rfl)
theorem k250 : (.code yX4_change cX4_change 5 (some .int) : Cond) ∈ TB := TB_c6 _ (List.mem_of_getElem? (i := 10) rfl)
theorem k251 : (.fieldLink RX4 125 "ExamHalls$School" "papers" "[I" : Cond) ∈ TB := TB_c6 _ (List.mem_of_getElem? (i := 11) rfl)
theorem k252 : (.methodLink RX4 128 yX2_removePupil : Cond) ∈ TB := TB_c6 _ (List.mem_of_getElem? (i := 12) rfl)
theorem k253 : (.instanceMethod yX2_removePupil : Cond) ∈ TB := TB_c6 _ (List.mem_of_getElem? (i := 13) rfl)
theorem k254 : (.selects RX2 yX2_removePupil yX2_removePupil : Cond) ∈ TB := TB_c6 _ (List.mem_of_getElem? (i := 14) rfl)
theorem k255 : (.code yX4_leave cX4_leave 3 (some .int) : Cond) ∈ TB := TB_c6 _ (List.mem_of_getElem? (i := 15) rfl)
theorem k256 : (.code yX4_isHall cX4_isHall 1 (some .boolean) : Cond) ∈ TB := TB_c6 _ (List.mem_of_getElem? (i := 16) rfl)
theorem k257 : (.fieldLink RX4 138 "ExamHalls$School" "rows" "[I" : Cond) ∈ TB := TB_c6 _ (List.mem_of_getElem? (i := 17) rfl)
theorem k258 : (.fieldLink RX4 141 "ExamHalls$School" "columns" "[I" : Cond) ∈ TB := TB_c6 _ (List.mem_of_getElem? (i := 18) rfl)
theorem k259 : (.methodLink RX4 132 yX4_isHall : Cond) ∈ TB := TB_c6 _ (List.mem_of_getElem? (i := 19) rfl)
theorem k260 : (.static yX4_isHall : Cond) ∈ TB := TB_c6 _ (List.mem_of_getElem? (i := 20) rfl)
theorem k261 : (.methodLink RX4 135 yX2_desksOf : Cond) ∈ TB := TB_c6 _ (List.mem_of_getElem? (i := 21) rfl)
theorem k262 : (.code yX4_hall cX4_hall 5 (some .int) : Cond) ∈ TB := TB_c6 _ (List.mem_of_getElem? (i := 22) rfl)
theorem k263 : (.fieldLink RX4 147 "ExamHalls$School" "openHalls" "I" : Cond) ∈ TB := TB_c6 _ (List.mem_of_getElem? (i := 23) rfl)
theorem k264 : (.fieldLink RX4 150 "ExamHalls$Seating" "unplaced" "I" : Cond) ∈ TB := TB_c6 _ (List.mem_of_getElem? (i := 24) rfl)
theorem k265 : (.methodLink RX4 144 yX2_isOpen : Cond) ∈ TB := TB_c6 _ (List.mem_of_getElem? (i := 25) rfl)
theorem k266 : (.code yX4_open cX4_open 3 (some .int) : Cond) ∈ TB := TB_c6 _ (List.mem_of_getElem? (i := 26) rfl)
theorem k267 : (.fieldLink RX4 153 "ExamHalls$School" "extras" "[I" : Cond) ∈ TB := TB_c6 _ (List.mem_of_getElem? (i := 27) rfl)
theorem k268 : (.fieldLink RX4 156 "ExamHalls$School" "readers" "[Z" : Cond) ∈ TB := TB_c6 _ (List.mem_of_getElem? (i := 28) rfl)
theorem k269 : (.methodLink RX4 159 yX3_unplacedPapersOf : Cond) ∈ TB := TB_c6 _ (List.mem_of_getElem? (i := 29) rfl)
theorem k270 : (.instanceMethod yX3_unplacedPapersOf : Cond) ∈ TB := TB_c6 _ (List.mem_of_getElem? (i := 30) rfl)
theorem k271 : (.selects RX3 yX3_unplacedPapersOf yX3_unplacedPapersOf : Cond) ∈ TB := TB_c6 _ (List.mem_of_getElem? (i := 31) rfl)
theorem k272 : (.methodLink RX4 162 yX2_minutesOf : Cond) ∈ TB := TB_c6 _ (List.mem_of_getElem? (i := 32) rfl)
theorem k273 : (.instanceMethod yX2_minutesOf : Cond) ∈ TB := TB_c6 _ (List.mem_of_getElem? (i := 33) rfl)
theorem k274 : (.selects RX2 yX2_minutesOf yX2_minutesOf : Cond) ∈ TB := TB_c6 _ (List.mem_of_getElem? (i := 34) rfl)
theorem k275 : (.code yX4_pupilOf cX4_pupilOf 3 (some .int) : Cond) ∈ TB := TB_c6 _ (List.mem_of_getElem? (i := 35) rfl)
theorem k276 : (.methodLink RX4 165 yX2_pupilsOf : Cond) ∈ TB := TB_c6 _ (List.mem_of_getElem? (i := 36) rfl)
theorem k277 : (.instanceMethod yX2_pupilsOf : Cond) ∈ TB := TB_c6 _ (List.mem_of_getElem? (i := 37) rfl)
theorem k278 : (.selects RX2 yX2_pupilsOf yX2_pupilsOf : Cond) ∈ TB := TB_c6 _ (List.mem_of_getElem? (i := 38) rfl)
theorem k279 : (.methodLink RX4 168 yX2_lastEndOf : Cond) ∈ TB := TB_c6 _ (List.mem_of_getElem? (i := 39) rfl)
theorem k280 : (.methodLink RX4 171 yX3_unplacedOf : Cond) ∈ TB := TB_c7 _ (List.mem_of_getElem? (i := 0) rfl)
theorem k281 : (.instanceMethod yX3_unplacedOf : Cond) ∈ TB := TB_c7 _ (List.mem_of_getElem? (i := 1) rfl)
theorem k282 : (.selects RX3 yX3_unplacedOf yX3_unplacedOf : Cond) ∈ TB := TB_c7 _ (List.mem_of_getElem? (i := 2) rfl)
theorem k283 : (.methodLink RX4 174 yX3_hallsOf : Cond) ∈ TB := TB_c7 _ (List.mem_of_getElem? (i := 3) rfl)
theorem k284 : (.instanceMethod yX3_hallsOf : Cond) ∈ TB := TB_c7 _ (List.mem_of_getElem? (i := 4) rfl)
theorem k285 : (.selects RX3 yX3_hallsOf yX3_hallsOf : Cond) ∈ TB := TB_c7 _ (List.mem_of_getElem? (i := 5) rfl)
theorem k286 : (.code yX4_paperOf cX4_paperOf 3 (some .int) : Cond) ∈ TB := TB_c7 _ (List.mem_of_getElem? (i := 6) rfl)
theorem k287 : (.fieldLink RX4 190 "ExamHalls$Seating" "halls" "[I" : Cond) ∈ TB := TB_c7 _ (List.mem_of_getElem? (i := 7) rfl)
theorem k288 : (.fieldLink RX4 193 "ExamHalls$Seating" "desks" "[I" : Cond) ∈ TB := TB_c7 _ (List.mem_of_getElem? (i := 8) rfl)
theorem k289 : (.fieldLink RX4 196 "ExamHalls$Seating" "rooms" "[I" : Cond) ∈ TB := TB_c7 _ (List.mem_of_getElem? (i := 9) rfl)
theorem k290 : (.methodLink RX4 177 yX2_sits : Cond) ∈ TB := TB_c7 _ (List.mem_of_getElem? (i := 10) rfl)
theorem k291 : (.methodLink RX4 180 yX4_sittingNumber : Cond) ∈ TB := TB_c7 _ (List.mem_of_getElem? (i := 11) rfl)
theorem k292 : (.methodLink RX4 184 yX2_beginOf : Cond) ∈ TB := TB_c7 _ (List.mem_of_getElem? (i := 12) rfl)
theorem k293 : (.methodLink RX4 187 yX2_endOf : Cond) ∈ TB := TB_c7 _ (List.mem_of_getElem? (i := 13) rfl)
theorem k294 : (.methodLink RX4 199 yX2_clashingPapers : Cond) ∈ TB := TB_c7 _ (List.mem_of_getElem? (i := 14) rfl)
theorem k295 : (.code yX4_sitting cX4_sitting 5 (some .int) : Cond) ∈ TB := TB_c7 _ (List.mem_of_getElem? (i := 15) rfl)
theorem k296 : (.methodLink RX4 202 yX3_seatedIn : Cond) ∈ TB := TB_c7 _ (List.mem_of_getElem? (i := 16) rfl)
theorem k297 : (.instanceMethod yX3_seatedIn : Cond) ∈ TB := TB_c7 _ (List.mem_of_getElem? (i := 17) rfl)
theorem k298 : (.selects RX3 yX3_seatedIn yX3_seatedIn : Cond) ∈ TB := TB_c7 _ (List.mem_of_getElem? (i := 18) rfl)
theorem k299 : (.methodLink RX4 205 yX3_mostTakenIn : Cond) ∈ TB := TB_c7 _ (List.mem_of_getElem? (i := 19) rfl)
theorem k300 : (.instanceMethod yX3_mostTakenIn : Cond) ∈ TB := TB_c7 _ (List.mem_of_getElem? (i := 20) rfl)
theorem k301 : (.selects RX3 yX3_mostTakenIn yX3_mostTakenIn : Cond) ∈ TB := TB_c7 _ (List.mem_of_getElem? (i := 21) rfl)
theorem k302 : (.code yX4_hallOf cX4_hallOf 3 (some .int) : Cond) ∈ TB := TB_c7 _ (List.mem_of_getElem? (i := 22) rfl)
theorem k303 : (.fieldLink RX4 111 "ExamHalls$Pad" "length" "I" : Cond) ∈ TB := TB_c7 _ (List.mem_of_getElem? (i := 23) rfl)
theorem k304 : (.fieldLink RX4 223 "ExamHalls$History" "size" "I" : Cond) ∈ TB := TB_c7 _ (List.mem_of_getElem? (i := 24) rfl)
theorem k305 : (.methodLink RX4 208 yX2_sittings : Cond) ∈ TB := TB_c7 _ (List.mem_of_getElem? (i := 25) rfl)
theorem k306 : (.instanceMethod yX2_sittings : Cond) ∈ TB := TB_c7 _ (List.mem_of_getElem? (i := 26) rfl)
theorem k307 : (.selects RX2 yX2_sittings yX2_sittings : Cond) ∈ TB := TB_c7 _ (List.mem_of_getElem? (i := 27) rfl)
theorem k308 : (.methodLink RX4 211 yX2_clashes : Cond) ∈ TB := TB_c7 _ (List.mem_of_getElem? (i := 28) rfl)
theorem k309 : (.instanceMethod yX2_clashes : Cond) ∈ TB := TB_c7 _ (List.mem_of_getElem? (i := 29) rfl)
theorem k310 : (.selects RX2 yX2_clashes yX2_clashes : Cond) ∈ TB := TB_c7 _ (List.mem_of_getElem? (i := 30) rfl)
theorem k311 : (.methodLink RX4 214 yX2_openDesks : Cond) ∈ TB := TB_c7 _ (List.mem_of_getElem? (i := 31) rfl)
theorem k312 : (.instanceMethod yX2_openDesks : Cond) ∈ TB := TB_c7 _ (List.mem_of_getElem? (i := 32) rfl)
theorem k313 : (.selects RX2 yX2_openDesks yX2_openDesks : Cond) ∈ TB := TB_c7 _ (List.mem_of_getElem? (i := 33) rfl)
theorem k314 : (.methodLink RX4 217 yX2_mostReaders : Cond) ∈ TB := TB_c7 _ (List.mem_of_getElem? (i := 34) rfl)
theorem k315 : (.instanceMethod yX2_mostReaders : Cond) ∈ TB := TB_c7 _ (List.mem_of_getElem? (i := 35) rfl)
theorem k316 : (.selects RX2 yX2_mostReaders yX2_mostReaders : Cond) ∈ TB := TB_c7 _ (List.mem_of_getElem? (i := 36) rfl)
theorem k317 : (.methodLink RX4 220 yX2_lastEnd : Cond) ∈ TB := TB_c7 _ (List.mem_of_getElem? (i := 37) rfl)
theorem k318 : (.instanceMethod yX2_lastEnd : Cond) ∈ TB := TB_c7 _ (List.mem_of_getElem? (i := 38) rfl)
theorem k319 : (.selects RX2 yX2_lastEnd yX2_lastEnd : Cond) ∈ TB := TB_c7 _ (List.mem_of_getElem? (i := 39) rfl)
theorem k320 : (.code yX4_count cX4_count 2 (some .int) : Cond) ∈ TB := TB_c8 _ (List.mem_of_getElem? (i := 0) rfl)
theorem k321 : (.methodLink RX4 226 yX3_sittingAt : Cond) ∈ TB := TB_c8 _ (List.mem_of_getElem? (i := 1) rfl)
theorem k322 : (.instanceMethod yX3_sittingAt : Cond) ∈ TB := TB_c8 _ (List.mem_of_getElem? (i := 2) rfl)
theorem k323 : (.selects RX3 yX3_sittingAt yX3_sittingAt : Cond) ∈ TB := TB_c8 _ (List.mem_of_getElem? (i := 3) rfl)
theorem k324 : (.code yX4_at cX4_at 4 (some .int) : Cond) ∈ TB := TB_c8 _ (List.mem_of_getElem? (i := 4) rfl)
theorem k325 : (.methodLink RX4 230 yX2_copyFrom : Cond) ∈ TB := TB_c8 _ (List.mem_of_getElem? (i := 5) rfl)
theorem k326 : (.code yX4_ifStart cX4_ifStart 4 (some .int) : Cond) ∈ TB := TB_c8 _ (List.mem_of_getElem? (i := 6) rfl)
theorem k327 : (.code yX4_bestStart cX4_bestStart 7 (some .int) : Cond) ∈ TB := TB_c8 _ (List.mem_of_getElem? (i := 7) rfl)
theorem k328 : (.code yX4_bestHalls cX4_bestHalls 8 (some .int) : Cond) ∈ TB := TB_c8 _ (List.mem_of_getElem? (i := 8) rfl)
theorem k329 : (.fieldLink RX4 233 "ExamHalls$Seating" "unplacedReaders" "I" : Cond) ∈ TB := TB_c8 _ (List.mem_of_getElem? (i := 9) rfl)
theorem k330 : (.code yX4_leastRooms cX4_leastRooms 2 (some .int) : Cond) ∈ TB := TB_c8 _ (List.mem_of_getElem? (i := 10) rfl)
theorem k331 : (.methodLink RX4 244 yX0_takeBack : Cond) ∈ TB := TB_c8 _ (List.mem_of_getElem? (i := 11) rfl)
theorem k332 : (.instanceMethod yX0_takeBack : Cond) ∈ TB := TB_c8 _ (List.mem_of_getElem? (i := 12) rfl)
theorem k333 : (.selects RX0 yX0_takeBack yX0_takeBack : Cond) ∈ TB := TB_c8 _ (List.mem_of_getElem? (i := 13) rfl)
theorem k334 : (.code yX4_undo cX4_undo 1 (some .int) : Cond) ∈ TB := TB_c8 _ (List.mem_of_getElem? (i := 14) rfl)
theorem k335 : (.code yX4_isSlot cX4_isSlot 1 (some .boolean) : Cond) ∈ TB := TB_c8 _ (List.mem_of_getElem? (i := 15) rfl)
theorem k336 : (.methodLink RX4 247 yX4_isSlot : Cond) ∈ TB := TB_c8 _ (List.mem_of_getElem? (i := 16) rfl)
theorem k337 : (.static yX4_isSlot : Cond) ∈ TB := TB_c8 _ (List.mem_of_getElem? (i := 17) rfl)
theorem k338 : (.code yX4_save cX4_save 2 (some .int) : Cond) ∈ TB := TB_c8 _ (List.mem_of_getElem? (i := 18) rfl)
theorem k339 : (.code yX4_restore cX4_restore 2 (some .int) : Cond) ∈ TB := TB_c8 _ (List.mem_of_getElem? (i := 19) rfl)
theorem k340 : (.code yJ9_max_7cf53 cJ9_max_7cf53 2 (some .int) : Cond) ∈ TB := TB_c8 _ (List.mem_of_getElem? (i := 20) rfl)
theorem k341 : (.code yL_cell cL_cell 2 (some .int) : Cond) ∈ TB := TB_c8 _ (List.mem_of_getElem? (i := 21) rfl)
theorem k342 : (.constant RL 7 (15485959) : Cond) ∈ TB := TB_c8 _ (List.mem_of_getElem? (i := 22) rfl)
theorem k343 : (.constant RL 8 (2147483647) : Cond) ∈ TB := TB_c8 _ (List.mem_of_getElem? (i := 23) rfl)
theorem k344 : (.code yL_bits cL_bits 3 (some .int) : Cond) ∈ TB := TB_c8 _ (List.mem_of_getElem? (i := 24) rfl)
theorem k345 : (.methodLink RL 9 yX4_sitting : Cond) ∈ TB := TB_c8 _ (List.mem_of_getElem? (i := 25) rfl)
theorem k346 : (.instanceMethod yX4_sitting : Cond) ∈ TB := TB_c8 _ (List.mem_of_getElem? (i := 26) rfl)
theorem k347 : (.selects RX4 yX4_sitting yX4_sitting : Cond) ∈ TB := TB_c8 _ (List.mem_of_getElem? (i := 27) rfl)
theorem k348 : (.code yL_place cL_place 4 (some .int) : Cond) ∈ TB := TB_c8 _ (List.mem_of_getElem? (i := 28) rfl)
theorem k349 : (.code yL_at cL_at 3 (some .int) : Cond) ∈ TB := TB_c8 _ (List.mem_of_getElem? (i := 29) rfl)
theorem k350 : (.methodLink RL 15 yX4_hallOf : Cond) ∈ TB := TB_c8 _ (List.mem_of_getElem? (i := 30) rfl)
theorem k351 : (.instanceMethod yX4_hallOf : Cond) ∈ TB := TB_c8 _ (List.mem_of_getElem? (i := 31) rfl)
theorem k352 : (.selects RX4 yX4_hallOf yX4_hallOf : Cond) ∈ TB := TB_c8 _ (List.mem_of_getElem? (i := 32) rfl)
theorem k353 : (.methodLink RL 19 yX4_paperOf : Cond) ∈ TB := TB_c8 _ (List.mem_of_getElem? (i := 33) rfl)
theorem k354 : (.instanceMethod yX4_paperOf : Cond) ∈ TB := TB_c8 _ (List.mem_of_getElem? (i := 34) rfl)
theorem k355 : (.selects RX4 yX4_paperOf yX4_paperOf : Cond) ∈ TB := TB_c8 _ (List.mem_of_getElem? (i := 35) rfl)
theorem k356 : (.methodLink RL 22 yX4_at : Cond) ∈ TB := TB_c8 _ (List.mem_of_getElem? (i := 36) rfl)
theorem k357 : (.instanceMethod yX4_at : Cond) ∈ TB := TB_c8 _ (List.mem_of_getElem? (i := 37) rfl)
theorem k358 : (.selects RX4 yX4_at yX4_at : Cond) ∈ TB := TB_c8 _ (List.mem_of_getElem? (i := 38) rfl)
theorem k359 : (.methodLink RL 25 yX4_pupilOf : Cond) ∈ TB := TB_c8 _ (List.mem_of_getElem? (i := 39) rfl)
theorem k360 : (.instanceMethod yX4_pupilOf : Cond) ∈ TB := TB_c9 _ (List.mem_of_getElem? (i := 0) rfl)
theorem k361 : (.selects RX4 yX4_pupilOf yX4_pupilOf : Cond) ∈ TB := TB_c9 _ (List.mem_of_getElem? (i := 1) rfl)
theorem k362 : (.methodLink RL 28 yX4_count : Cond) ∈ TB := TB_c9 _ (List.mem_of_getElem? (i := 2) rfl)
theorem k363 : (.instanceMethod yX4_count : Cond) ∈ TB := TB_c9 _ (List.mem_of_getElem? (i := 3) rfl)
theorem k364 : (.selects RX4 yX4_count yX4_count : Cond) ∈ TB := TB_c9 _ (List.mem_of_getElem? (i := 4) rfl)
theorem k365 : (.code yL_isSitting cL_isSitting 5 (some .boolean) : Cond) ∈ TB := TB_c9 _ (List.mem_of_getElem? (i := 5) rfl)
theorem k366 : (.methodLink RL 32 yL_place : Cond) ∈ TB := TB_c9 _ (List.mem_of_getElem? (i := 6) rfl)
theorem k367 : (.static yL_place : Cond) ∈ TB := TB_c9 _ (List.mem_of_getElem? (i := 7) rfl)
theorem k368 : (.initialized RL : Cond) ∈ TB := TB_c9 _ (List.mem_of_getElem? (i := 8) rfl)
theorem k369 : (.methodLink RL 38 yL_isSitting : Cond) ∈ TB := TB_c9 _ (List.mem_of_getElem? (i := 9) rfl)
theorem k370 : (.static yL_isSitting : Cond) ∈ TB := TB_c9 _ (List.mem_of_getElem? (i := 10) rfl)
theorem k371 : (.methodLink RL 42 yL_at : Cond) ∈ TB := TB_c9 _ (List.mem_of_getElem? (i := 11) rfl)
theorem k372 : (.static yL_at : Cond) ∈ TB := TB_c9 _ (List.mem_of_getElem? (i := 12) rfl)
theorem k373 : (.code yL_areSeated cL_areSeated 16 (some .boolean) : Cond) ∈ TB := TB_c9 _ (List.mem_of_getElem? (i := 13) rfl)
theorem k374 : (.methodLink RL 45 yL_bits : Cond) ∈ TB := TB_c9 _ (List.mem_of_getElem? (i := 14) rfl)
theorem k375 : (.static yL_bits : Cond) ∈ TB := TB_c9 _ (List.mem_of_getElem? (i := 15) rfl)
theorem k376 : (.code yL_areSums cL_areSums 15 (some .boolean) : Cond) ∈ TB := TB_c9 _ (List.mem_of_getElem? (i := 16) rfl)
theorem k377 : (.methodLink RL 48 yX4_pupil : Cond) ∈ TB := TB_c9 _ (List.mem_of_getElem? (i := 17) rfl)
theorem k378 : (.instanceMethod yX4_pupil : Cond) ∈ TB := TB_c9 _ (List.mem_of_getElem? (i := 18) rfl)
theorem k379 : (.selects RX4 yX4_pupil yX4_pupil : Cond) ∈ TB := TB_c9 _ (List.mem_of_getElem? (i := 19) rfl)
theorem k380 : (.methodLink RL 52 yX4_change : Cond) ∈ TB := TB_c9 _ (List.mem_of_getElem? (i := 20) rfl)
theorem k381 : (.instanceMethod yX4_change : Cond) ∈ TB := TB_c9 _ (List.mem_of_getElem? (i := 21) rfl)
theorem k382 : (.selects RX4 yX4_change yX4_change : Cond) ∈ TB := TB_c9 _ (List.mem_of_getElem? (i := 22) rfl)
theorem k383 : (.methodLink RL 56 yX4_leave : Cond) ∈ TB := TB_c9 _ (List.mem_of_getElem? (i := 23) rfl)
theorem k384 : (.instanceMethod yX4_leave : Cond) ∈ TB := TB_c9 _ (List.mem_of_getElem? (i := 24) rfl)
theorem k385 : (.selects RX4 yX4_leave yX4_leave : Cond) ∈ TB := TB_c9 _ (List.mem_of_getElem? (i := 25) rfl)
theorem k386 : (.methodLink RL 59 yX4_ifStart : Cond) ∈ TB := TB_c9 _ (List.mem_of_getElem? (i := 26) rfl)
theorem k387 : (.instanceMethod yX4_ifStart : Cond) ∈ TB := TB_c9 _ (List.mem_of_getElem? (i := 27) rfl)
theorem k388 : (.selects RX4 yX4_ifStart yX4_ifStart : Cond) ∈ TB := TB_c9 _ (List.mem_of_getElem? (i := 28) rfl)
theorem k389 : (.methodLink RL 62 yX4_paper : Cond) ∈ TB := TB_c9 _ (List.mem_of_getElem? (i := 29) rfl)
theorem k390 : (.instanceMethod yX4_paper : Cond) ∈ TB := TB_c9 _ (List.mem_of_getElem? (i := 30) rfl)
theorem k391 : (.selects RX4 yX4_paper yX4_paper : Cond) ∈ TB := TB_c9 _ (List.mem_of_getElem? (i := 31) rfl)
theorem k392 : (.methodLink RL 65 yX4_hall : Cond) ∈ TB := TB_c9 _ (List.mem_of_getElem? (i := 32) rfl)
theorem k393 : (.instanceMethod yX4_hall : Cond) ∈ TB := TB_c9 _ (List.mem_of_getElem? (i := 33) rfl)
theorem k394 : (.selects RX4 yX4_hall yX4_hall : Cond) ∈ TB := TB_c9 _ (List.mem_of_getElem? (i := 34) rfl)
theorem k395 : (.methodLink RL 68 yX4_open : Cond) ∈ TB := TB_c9 _ (List.mem_of_getElem? (i := 35) rfl)
theorem k396 : (.instanceMethod yX4_open : Cond) ∈ TB := TB_c9 _ (List.mem_of_getElem? (i := 36) rfl)
theorem k397 : (.selects RX4 yX4_open yX4_open : Cond) ∈ TB := TB_c9 _ (List.mem_of_getElem? (i := 37) rfl)
theorem k398 : (.methodLink RL 72 yX4_set : Cond) ∈ TB := TB_c9 _ (List.mem_of_getElem? (i := 38) rfl)
theorem k399 : (.instanceMethod yX4_set : Cond) ∈ TB := TB_c9 _ (List.mem_of_getElem? (i := 39) rfl)
theorem k400 : (.selects RX4 yX4_set yX4_set : Cond) ∈ TB := TB_c10 _ (List.mem_of_getElem? (i := 0) rfl)
theorem k401 : (.code yL_acts cL_acts 27 (some .boolean) : Cond) ∈ TB := TB_c10 _ (List.mem_of_getElem? (i := 1) rfl)
theorem k402 : (.methodLink RL 75 yX4_bestHalls : Cond) ∈ TB := TB_c10 _ (List.mem_of_getElem? (i := 2) rfl)
theorem k403 : (.instanceMethod yX4_bestHalls : Cond) ∈ TB := TB_c10 _ (List.mem_of_getElem? (i := 3) rfl)
theorem k404 : (.selects RX4 yX4_bestHalls yX4_bestHalls : Cond) ∈ TB := TB_c10 _ (List.mem_of_getElem? (i := 4) rfl)
theorem k405 : (.methodLink RL 78 yX4_leastRooms : Cond) ∈ TB := TB_c10 _ (List.mem_of_getElem? (i := 5) rfl)
theorem k406 : (.instanceMethod yX4_leastRooms : Cond) ∈ TB := TB_c10 _ (List.mem_of_getElem? (i := 6) rfl)
theorem k407 : (.selects RX4 yX4_leastRooms yX4_leastRooms : Cond) ∈ TB := TB_c10 _ (List.mem_of_getElem? (i := 7) rfl)
theorem k408 : (.code yL_areBest cL_areBest 7 (some .boolean) : Cond) ∈ TB := TB_c10 _ (List.mem_of_getElem? (i := 8) rfl)
theorem k409 : (.classLink RL 10 RX4 : Cond) ∈ TB := TB_c10 _ (List.mem_of_getElem? (i := 9) rfl)
theorem k410 : (.instantiable RX4 8 : Cond) ∈ TB := TB_c10 _ (List.mem_of_getElem? (i := 10) rfl)
theorem k411 : (.methodLink RL 82 yX4_init : Cond) ∈ TB := TB_c10 _ (List.mem_of_getElem? (i := 11) rfl)
theorem k412 : (.instanceMethod yX4_init : Cond) ∈ TB := TB_c10 _ (List.mem_of_getElem? (i := 12) rfl)
theorem k413 : (.methodLink RL 83 yX4_undo : Cond) ∈ TB := TB_c10 _ (List.mem_of_getElem? (i := 13) rfl)
theorem k414 : (.instanceMethod yX4_undo : Cond) ∈ TB := TB_c10 _ (List.mem_of_getElem? (i := 14) rfl)
theorem k415 : (.selects RX4 yX4_undo yX4_undo : Cond) ∈ TB := TB_c10 _ (List.mem_of_getElem? (i := 15) rfl)
theorem k416 : (.methodLink RL 86 yX4_restore : Cond) ∈ TB := TB_c10 _ (List.mem_of_getElem? (i := 16) rfl)
theorem k417 : (.instanceMethod yX4_restore : Cond) ∈ TB := TB_c10 _ (List.mem_of_getElem? (i := 17) rfl)
theorem k418 : (.selects RX4 yX4_restore yX4_restore : Cond) ∈ TB := TB_c10 _ (List.mem_of_getElem? (i := 18) rfl)
theorem k419 : (.methodLink RL 89 yX4_bestStart : Cond) ∈ TB := TB_c10 _ (List.mem_of_getElem? (i := 19) rfl)
theorem k420 : (.instanceMethod yX4_bestStart : Cond) ∈ TB := TB_c10 _ (List.mem_of_getElem? (i := 20) rfl)
theorem k421 : (.selects RX4 yX4_bestStart yX4_bestStart : Cond) ∈ TB := TB_c10 _ (List.mem_of_getElem? (i := 21) rfl)
theorem k422 : (.methodLink RL 92 yL_cell : Cond) ∈ TB := TB_c10 _ (List.mem_of_getElem? (i := 22) rfl)
theorem k423 : (.static yL_cell : Cond) ∈ TB := TB_c10 _ (List.mem_of_getElem? (i := 23) rfl)
theorem k424 : (.methodLink RL 96 yL_acts : Cond) ∈ TB := TB_c10 _ (List.mem_of_getElem? (i := 24) rfl)
theorem k425 : (.static yL_acts : Cond) ∈ TB := TB_c10 _ (List.mem_of_getElem? (i := 25) rfl)
theorem k426 : (.methodLink RL 100 yL_areSeated : Cond) ∈ TB := TB_c10 _ (List.mem_of_getElem? (i := 26) rfl)
theorem k427 : (.static yL_areSeated : Cond) ∈ TB := TB_c10 _ (List.mem_of_getElem? (i := 27) rfl)
theorem k428 : (.methodLink RL 104 yL_areSums : Cond) ∈ TB := TB_c10 _ (List.mem_of_getElem? (i := 28) rfl)
theorem k429 : (.static yL_areSums : Cond) ∈ TB := TB_c10 _ (List.mem_of_getElem? (i := 29) rfl)
theorem k430 : (.methodLink RL 107 yX4_save : Cond) ∈ TB := TB_c10 _ (List.mem_of_getElem? (i := 30) rfl)
theorem k431 : (.instanceMethod yX4_save : Cond) ∈ TB := TB_c10 _ (List.mem_of_getElem? (i := 31) rfl)
theorem k432 : (.selects RX4 yX4_save yX4_save : Cond) ∈ TB := TB_c10 _ (List.mem_of_getElem? (i := 32) rfl)
theorem k433 : (.methodLink RL 110 yL_areBest : Cond) ∈ TB := TB_c10 _ (List.mem_of_getElem? (i := 33) rfl)
theorem k434 : (.static yL_areBest : Cond) ∈ TB := TB_c10 _ (List.mem_of_getElem? (i := 34) rfl)
end
section
/-! ===== a frame over the kit: the judgement J (heap, locals and their facts hidden), contracts JM ===== -/
abbrev JG : Type := va_G × (Nat → ClassId)
def tysG (G : JG) : List (ClassId × FieldType) := [(G.2 0, .int), (G.2 1, .boolean), (G.2 2, .int), (G.2 3, .object "ExamHalls$School")]
def nestL : List Cond := [.methodLinkNest "ExamHalls" 11 ⟨"ExamHalls$Seating", "<init>", "()V"⟩ "ExamHalls", .methodLinkNest "ExamHalls$Seating" 11 ⟨"ExamHalls$School", "<init>", "()V"⟩ "ExamHalls", .methodLinkNest "ExamHalls" 29 ⟨"ExamHalls$Pad", "<init>", "()V"⟩ "ExamHalls", .methodLinkNest "ExamHalls$History" 21 ⟨"ExamHalls$School", "<init>", "()V"⟩ "ExamHalls", .methodLinkNest "ExamHalls" 43 ⟨"ExamHalls$School", "<init>", "()V"⟩ "ExamHalls", .methodLinkNest "ExamHalls$School" 48 ⟨"ExamHalls", "contains", "(II)Z"⟩ "ExamHalls", .methodLinkNest "ExamHalls$Seating" 78 ⟨"ExamHalls", "sittingNumber", "(II)I"⟩ "ExamHalls", .methodLinkNest "ExamHalls$Seating" 106 ⟨"ExamHalls", "contains", "(II)Z"⟩ "ExamHalls"]
def KK (G : JG) (U : State) : Prop := va_K G.1 vwCl (tysG G) U ∧ (∀ w ∈ nestL, va_Nw w U) ∧ va_AO "ExamHalls$School" U
theorem KK.warm {G : JG} {s U : State} (hW : s.WarmedH U.vm) (h : KK G s) : KK G U := by
  refine ⟨va_K.moved hW.alike h.1, fun w hw => ?_, va_AO.moved hW.alike h.2.2⟩
  have h1 := h.2.1 w hw
  revert h1
  revert w
  unfold nestL
  simp only [List.forall_mem_cons]
  refine ⟨?_, ?_, ?_, ?_, ?_, ?_, ?_, ?_, fun _ h => by cases h⟩ <;> exact fun h => va_Nw.warmM hW h
theorem KK.calling {G : JG} {U : State} {g : JFrame} {mk : MethodId} {a : Array Value} (h : KK G U) : KK G (U.calling g mk a) := by
  refine ⟨va_K.moved (u := U) (U := U.calling g mk a) (Vm.Alike.refl U.vm) h.1, fun w hw => ?_, va_AO.moved (u := U) (U := U.calling g mk a) (Vm.Alike.refl U.vm) h.2.2⟩
  have h1 := h.2.1 w hw
  revert h1
  revert w
  unfold nestL
  simp only [List.forall_mem_cons]
  refine ⟨?_, ?_, ?_, ?_, ?_, ?_, ?_, ?_, fun _ h => by cases h⟩ <;> exact fun h => va_Nw.same rfl (u := U) (U := U.calling g mk a) rfl h
abbrev JX : Type := Program × Env × State × MethodId × Array Value × List Frame × Method × Code × (Nat → Prop)
def J (l : Launch) (R : Room) (G : JG) (nL : Nat) (X : JX) (Q : State → Prop) (k n pc : Nat) (lv : List (Nat × Value)) (st : List Value) (ws : va_W) : Prop :=
  ∀ (H : Heap) (locs : List Loc) (ls : Array Slot), va_P G.1 vwCl ws H → va_D X.2.2.2.2.2.2.2.2 ws → va_S X.2.2.2.2.2.2.2.2 X.2.2.1.heap H locs → lv_has ls nL lv → W X.1 l X.2.1 R X.2.2.1 X.2.2.2.1 X.2.2.2.2.1 X.2.2.2.2.2.1 X.2.2.2.2.2.2.1 X.2.2.2.2.2.2.2.1 H locs k n Q (F0 X.2.2.2.1 pc ls st)
def Cx (G : JG) (nL : Nat) (X : JX) (cc : ByteArray) (own : String) (ret : Option FieldType) (tb : List (Nat × ClassFile.Instr × Nat)) : Prop :=
  X.1.tables.exec = Jvm.exec ∧ X.2.2.2.2.2.2.2.1.code = cc ∧ X.2.2.2.2.2.2.2.1.maxLocals = nL ∧ X.2.2.1.vm.findClass own = some X.2.2.2.1.cls ∧ (∀ w ∈ TB, w.before X.2.2.2.2.1 X.2.2.1 = true) ∧ KK G X.2.2.1 ∧ (∀ q, X.2.2.1.heap.size ≤ q → X.2.2.2.2.2.2.2.2 q) ∧ X.2.2.2.2.2.2.1.locks = false ∧ X.2.2.2.2.2.2.1.sig.returnType = ret ∧ ∀ q ∈ tb, decode cc q.1 = .ok q.2
def gd {α : Type} (b : Bool) (x : Option α) : Option α := if b = true then x else none
theorem gd_some {α : Type} {b : Bool} {x : Option α} {r : α} (h : gd b x = some r) : b = true ∧ x = some r := by
  unfold gd at h
  by_cases hb : b = true
  · rw [if_pos hb] at h; exact ⟨hb, h⟩
  · rw [if_neg hb] at h; cases h
theorem gd_t {α : Type} {b : Bool} {x : Option α} (h : b = true) : gd b x = x := by unfold gd; rw [if_pos h]
theorem bnd {α β : Type} {x : Option α} {f : α → Option β} {b : β} (h : x.bind f = some b) : ∃ a, x = some a ∧ f a = some b := Option.bind_eq_some_iff.mp h
def inb (i : Int32) (n : Nat) : Bool := decide (0 ≤ i) && decide (i.toNatClampNeg < n)
theorem inb_in {i : Int32} {n : Nat} (h : inb i n = true) : vp_in i n := by
  unfold inb at h
  simp only [Bool.and_eq_true, decide_eq_true_eq] at h
  unfold vp_in
  intro q
  rcases q with q | q
  · have h1 := h.1
    rw [Int32.le_iff_toInt_le] at h1
    rw [Int32.lt_iff_toInt_lt] at q
    omega
  · omega
def nz (y : Int32) : Bool := decide (¬ y = 0)
theorem nz_ne {y : Int32} (h : nz y = true) : ¬ y = 0 := of_decide_eq_true h
def isb (x : Int32) : Bool := decide (x = 0) || decide (x = 1)
theorem isb_or {x : Int32} (h : isb x = true) : x = 0 ∨ x = 1 := by
  unfold isb at h
  simpa using h
theorem isb_nar {x : Int32} (h : isb x = true) : narrow .boolean (.int x) = .int x := by
  rcases isb_or h with rfl | rfl <;> rfl
theorem isb_vnar {x : Int32} (h : isb x = true) : vp_nar .boolean x = x := by
  rcases isb_or h with rfl | rfl <;> rfl
theorem isb_fit {x : Int32} (h : isb x = true) : fits .boolean (.int x) = true := by
  rcases isb_or h with rfl | rfl <;> rfl
def isc (x : Int32) : Bool := decide (vp_nar .char x = x)
theorem isc_vnar {x : Int32} (h : isc x = true) : vp_nar .char x = x := of_decide_eq_true h
/-- packed contents: field (or array) k of an object, element i -/
abbrev JV : Type := Nat → Nat → Int32
def up2 (s : JV) (k i : Nat) (v : Int32) : JV := fun a => bif Nat.beq a k then upd (s k) i v else s a
theorem up2_same (s : JV) (k i : Nat) (v : Int32) : up2 s k i v k i = v := by
  unfold up2
  rw [Nat.beq_refl]
  simp [upd]
theorem up2_other (s : JV) (k i : Nat) (v : Int32) {a : Nat} (h : Nat.beq a k = false) : up2 s k i v a = s a := by
  unfold up2
  rw [h]
  rfl
def mx (x y : Int32) : Int32 := if x < y then y else x
section JROWS
variable {l : Launch} {R : Room} {G : JG} {nL : Nat} {X : JX} {Q : State → Prop} {k n pc : Nat} {lv : List (Nat × Value)} {st : List Value} {ws : va_W} {cc : ByteArray} {own : String} {ret : Option FieldType} {tb : List (Nat × ClassFile.Instr × Nat)}
theorem Cx.d (C : Cx G nL X cc own ret tb) (j : Nat) {i : ClassFile.Instr} {len : Nat} (h : tb[j]? = some (pc, i, len)) : decode cc pc = .ok (i, len) := C.2.2.2.2.2.2.2.2.2 (pc, i, len) (List.mem_of_getElem? h)
theorem J_sub (ks : List Nat) {lv' : List (Nat × Value)} (hl : lv_pick lv ks = lv') (kk : J l R G nL X Q k n pc lv' st ws) : J l R G nL X Q k n pc lv st ws :=
  fun H locs ls hP hD hS h => kk H locs ls hP hD hS (lv_sub h ks hl)
theorem J_top {x y : Int32} (e : x = y) (kk : J l R G nL X Q k n pc lv (.int y :: st) ws) : J l R G nL X Q k n pc lv (.int x :: st) ws := e ▸ kk
theorem J_iload (C : Cx G nL X cc own ret tb) (j : Nat) {i : Nat} {x : Int32} (hd : tb[j]? = some (pc, .iload i, 2)) (q : Nat) (hq : lv[q]? = some (i, .int x)) (kk : J l R G nL X Q k n (pc + 2) lv (.int x :: st) ws) : J l R G nL X Q k n pc lv st ws :=
  fun H locs ls hP hD hS h => lv_iload C.1 C.2.1 (C.d j hd) (lv_at h q hq) (kk H locs ls hP hD hS h)
theorem J_iload_n (C : Cx G nL X cc own ret tb) (j : Nat) {v : Fin 4} {i : Nat} {x : Int32} (hd : tb[j]? = some (pc, .iload_n v, 1)) (q : Nat) (hi : (v : Nat) = i) (hq : lv[q]? = some (i, .int x)) (kk : J l R G nL X Q k n (pc + 1) lv (.int x :: st) ws) : J l R G nL X Q k n pc lv st ws :=
  fun H locs ls hP hD hS h => lv_iload_n C.1 C.2.1 (C.d j hd) hi (lv_at h q hq) (kk H locs ls hP hD hS h)
theorem J_aload_n (C : Cx G nL X cc own ret tb) (j : Nat) {v : Fin 4} {i : Nat} {x : Nat} (hd : tb[j]? = some (pc, .aload_n v, 1)) (q : Nat) (hi : (v : Nat) = i) (hq : lv[q]? = some (i, .ref x)) (kk : J l R G nL X Q k n (pc + 1) lv (.ref x :: st) ws) : J l R G nL X Q k n pc lv st ws :=
  fun H locs ls hP hD hS h => lv_aload_n C.1 C.2.1 (C.d j hd) hi (lv_at h q hq) (kk H locs ls hP hD hS h)
theorem J_lload (C : Cx G nL X cc own ret tb) (j : Nat) {i : Nat} {x : Int64} (hd : tb[j]? = some (pc, .lload i, 2)) (q : Nat) (hq : lv[q]? = some (i, .long x)) (kk : J l R G nL X Q k n (pc + 2) lv (.long x :: st) ws) : J l R G nL X Q k n pc lv st ws :=
  fun H locs ls hP hD hS h => lv_lload C.1 C.2.1 (C.d j hd) (lv_at h q hq) (kk H locs ls hP hD hS h)
theorem J_lload_n (C : Cx G nL X cc own ret tb) (j : Nat) {v : Fin 4} {i : Nat} {x : Int64} (hd : tb[j]? = some (pc, .lload_n v, 1)) (q : Nat) (hi : (v : Nat) = i) (hq : lv[q]? = some (i, .long x)) (kk : J l R G nL X Q k n (pc + 1) lv (.long x :: st) ws) : J l R G nL X Q k n pc lv st ws :=
  fun H locs ls hP hD hS h => lv_lload_n C.1 C.2.1 (C.d j hd) hi (lv_at h q hq) (kk H locs ls hP hD hS h)
theorem J_istore (C : Cx G nL X cc own ret tb) (j : Nat) {i : Nat} {x : Int32} {lv' : List (Nat × Value)} (hd : tb[j]? = some (pc, .istore i, 2)) (hi : i < nL) (hl : (i, Value.int x) :: lv.filter (fun q => !(q.1 == i) && !(q.1 + 1 == i && q.2.category == 2)) = lv') (kk : J l R G nL X Q k n (pc + 2) lv' st ws) : J l R G nL X Q k n pc lv (.int x :: st) ws :=
  fun H locs ls hP hD hS h => lv_istore C.1 C.2.1 (C.d j hd) h hi hl (fun ls h => kk H locs ls hP hD hS h)
theorem J_istore_n (C : Cx G nL X cc own ret tb) (j : Nat) {v : Fin 4} {i : Nat} {x : Int32} {lv' : List (Nat × Value)} (hd : tb[j]? = some (pc, .istore_n v, 1)) (hv : (v : Nat) = i) (hi : i < nL) (hl : (i, Value.int x) :: lv.filter (fun q => !(q.1 == i) && !(q.1 + 1 == i && q.2.category == 2)) = lv') (kk : J l R G nL X Q k n (pc + 1) lv' st ws) : J l R G nL X Q k n pc lv (.int x :: st) ws :=
  fun H locs ls hP hD hS h => lv_istore_n C.1 C.2.1 (C.d j hd) hv h hi hl (fun ls h => kk H locs ls hP hD hS h)
theorem J_astore_n (C : Cx G nL X cc own ret tb) (j : Nat) {v : Fin 4} {i : Nat} {x : Nat} {lv' : List (Nat × Value)} (hd : tb[j]? = some (pc, .astore_n v, 1)) (hv : (v : Nat) = i) (hi : i < nL) (hl : (i, Value.ref x) :: lv.filter (fun q => !(q.1 == i) && !(q.1 + 1 == i && q.2.category == 2)) = lv') (kk : J l R G nL X Q k n (pc + 1) lv' st ws) : J l R G nL X Q k n pc lv (.ref x :: st) ws :=
  fun H locs ls hP hD hS h => lv_astore_n C.1 C.2.1 (C.d j hd) hv h hi hl (fun ls h => kk H locs ls hP hD hS h)
theorem J_lstore (C : Cx G nL X cc own ret tb) (j : Nat) {i : Nat} {x : Int64} {lv' : List (Nat × Value)} (hd : tb[j]? = some (pc, .lstore i, 2)) (hi : i + 1 < nL) (hl : (i, Value.long x) :: lv.filter (fun q => !(q.1 == i) && (!(q.1 == i + 1) && !(q.1 + 1 == i && q.2.category == 2))) = lv') (kk : J l R G nL X Q k n (pc + 2) lv' st ws) : J l R G nL X Q k n pc lv (.long x :: st) ws :=
  fun H locs ls hP hD hS h => lv_lstore C.1 C.2.1 (C.d j hd) h hi hl (fun ls h => kk H locs ls hP hD hS h)
theorem J_lstore_n (C : Cx G nL X cc own ret tb) (j : Nat) {v : Fin 4} {i : Nat} {x : Int64} {lv' : List (Nat × Value)} (hd : tb[j]? = some (pc, .lstore_n v, 1)) (hv : (v : Nat) = i) (hi : i + 1 < nL) (hl : (i, Value.long x) :: lv.filter (fun q => !(q.1 == i) && (!(q.1 == i + 1) && !(q.1 + 1 == i && q.2.category == 2))) = lv') (kk : J l R G nL X Q k n (pc + 1) lv' st ws) : J l R G nL X Q k n pc lv (.long x :: st) ws :=
  fun H locs ls hP hD hS h => lv_lstore_n C.1 C.2.1 (C.d j hd) hv h hi hl (fun ls h => kk H locs ls hP hD hS h)
theorem J_iinc (C : Cx G nL X cc own ret tb) (j : Nat) {i : Nat} {z : Int} {x v : Int32} {lv' : List (Nat × Value)} (hd : tb[j]? = some (pc, .iinc i z, 3)) (q : Nat) (hq : lv[q]? = some (i, .int x)) (hv : x + Int32.ofInt z = v) (hi : i < nL) (hl : (i, Value.int v) :: lv.filter (fun q => !(q.1 == i) && !(q.1 + 1 == i && q.2.category == 2)) = lv') (kk : J l R G nL X Q k n (pc + 3) lv' st ws) : J l R G nL X Q k n pc lv st ws :=
  fun H locs ls hP hD hS h => lv_iinc C.1 C.2.1 (C.d j hd) h hq hv hi hl (fun ls h => kk H locs ls hP hD hS h)
theorem J_iconst (C : Cx G nL X cc own ret tb) (j : Nat) {z : Int} {v : Int32} (hd : tb[j]? = some (pc, .iconst z, 1)) (hv : Int32.ofInt z = v) (kk : J l R G nL X Q k n (pc + 1) lv (.int v :: st) ws) : J l R G nL X Q k n pc lv st ws :=
  fun H locs ls hP hD hS h => lv_iconst C.1 C.2.1 (C.d j hd) hv (kk H locs ls hP hD hS h)
theorem J_bipush (C : Cx G nL X cc own ret tb) (j : Nat) {z : Int} {v : Int32} (hd : tb[j]? = some (pc, .bipush z, 2)) (hv : (Int8.ofInt z).toInt32 = v) (kk : J l R G nL X Q k n (pc + 2) lv (.int v :: st) ws) : J l R G nL X Q k n pc lv st ws :=
  fun H locs ls hP hD hS h => lv_bipush C.1 C.2.1 (C.d j hd) hv (kk H locs ls hP hD hS h)
theorem J_sipush (C : Cx G nL X cc own ret tb) (j : Nat) {z : Int} {v : Int32} (hd : tb[j]? = some (pc, .sipush z, 3)) (hv : (Int16.ofInt z).toInt32 = v) (kk : J l R G nL X Q k n (pc + 3) lv (.int v :: st) ws) : J l R G nL X Q k n pc lv st ws :=
  fun H locs ls hP hD hS h => lv_sipush C.1 C.2.1 (C.d j hd) hv (kk H locs ls hP hD hS h)
theorem J_ldc (C : Cx G nL X cc own ret tb) (j : Nat) {i : Nat} {v : Int32} (hd : tb[j]? = some (pc, .ldc i, 2)) (hw : Cond.constant own i v ∈ TB) (kk : J l R G nL X Q k n (pc + 2) lv (.int v :: st) ws) : J l R G nL X Q k n pc lv st ws :=
  fun H locs ls hP hD hS h => W.ldc C.1 C.2.1 C.2.2.2.1 (C.2.2.2.2.1 _ hw) rfl (C.d j hd) (kk H locs ls hP hD hS h)
theorem J_ldc_w (C : Cx G nL X cc own ret tb) (j : Nat) {i : Nat} {v : Int32} (hd : tb[j]? = some (pc, .ldc_w i, 3)) (hw : Cond.constant own i v ∈ TB) (kk : J l R G nL X Q k n (pc + 3) lv (.int v :: st) ws) : J l R G nL X Q k n pc lv st ws :=
  fun H locs ls hP hD hS h => lv_ldcw C.1 C.2.1 C.2.2.2.1 (C.2.2.2.2.1 _ hw) (C.d j hd) (kk H locs ls hP hD hS h)
theorem J_ldc2 (C : Cx G nL X cc own ret tb) (j : Nat) {i : Nat} {v : Int64} (hd : tb[j]? = some (pc, .ldc2_w i, 3)) (hw : Cond.constantLong own i v ∈ TB) (kk : J l R G nL X Q k n (pc + 3) lv (.long v :: st) ws) : J l R G nL X Q k n pc lv st ws :=
  fun H locs ls hP hD hS h => lv_ldc2 C.1 C.2.1 C.2.2.2.1 (C.2.2.2.2.1 _ hw) (C.d j hd) (kk H locs ls hP hD hS h)
theorem J_lconst (C : Cx G nL X cc own ret tb) (j : Nat) {z : Fin 2} {v : Int64} (hd : tb[j]? = some (pc, .lconst z, 1)) (hv : Int64.ofNat (z : Nat) = v) (kk : J l R G nL X Q k n (pc + 1) lv (.long v :: st) ws) : J l R G nL X Q k n pc lv st ws :=
  fun H locs ls hP hD hS h => lv_lconst C.1 C.2.1 (C.d j hd) hv (kk H locs ls hP hD hS h)
theorem J_iadd (C : Cx G nL X cc own ret tb) (j : Nat) {x y : Int32} (hd : tb[j]? = some (pc, .iadd, 1)) (kk : J l R G nL X Q k n (pc + 1) lv (.int (x + y) :: st) ws) : J l R G nL X Q k n pc lv (.int y :: .int x :: st) ws :=
  fun H locs ls hP hD hS h => lv_iadd C.1 C.2.1 (C.d j hd) (kk H locs ls hP hD hS h)
theorem J_isub (C : Cx G nL X cc own ret tb) (j : Nat) {x y : Int32} (hd : tb[j]? = some (pc, .isub, 1)) (kk : J l R G nL X Q k n (pc + 1) lv (.int (x - y) :: st) ws) : J l R G nL X Q k n pc lv (.int y :: .int x :: st) ws :=
  fun H locs ls hP hD hS h => lv_isub C.1 C.2.1 (C.d j hd) (kk H locs ls hP hD hS h)
theorem J_imul (C : Cx G nL X cc own ret tb) (j : Nat) {x y : Int32} (hd : tb[j]? = some (pc, .imul, 1)) (kk : J l R G nL X Q k n (pc + 1) lv (.int (x * y) :: st) ws) : J l R G nL X Q k n pc lv (.int y :: .int x :: st) ws :=
  fun H locs ls hP hD hS h => lv_imul C.1 C.2.1 (C.d j hd) (kk H locs ls hP hD hS h)
theorem J_ishl (C : Cx G nL X cc own ret tb) (j : Nat) {x y : Int32} (hd : tb[j]? = some (pc, .ishl, 1)) (kk : J l R G nL X Q k n (pc + 1) lv (.int (x <<< (y &&& 31)) :: st) ws) : J l R G nL X Q k n pc lv (.int y :: .int x :: st) ws :=
  fun H locs ls hP hD hS h => lv_ishl C.1 C.2.1 (C.d j hd) (kk H locs ls hP hD hS h)
theorem J_ishr (C : Cx G nL X cc own ret tb) (j : Nat) {x y : Int32} (hd : tb[j]? = some (pc, .ishr, 1)) (kk : J l R G nL X Q k n (pc + 1) lv (.int (x >>> (y &&& 31)) :: st) ws) : J l R G nL X Q k n pc lv (.int y :: .int x :: st) ws :=
  fun H locs ls hP hD hS h => lv_ishr C.1 C.2.1 (C.d j hd) (kk H locs ls hP hD hS h)
theorem J_iand (C : Cx G nL X cc own ret tb) (j : Nat) {x y : Int32} (hd : tb[j]? = some (pc, .iand, 1)) (kk : J l R G nL X Q k n (pc + 1) lv (.int (x &&& y) :: st) ws) : J l R G nL X Q k n pc lv (.int y :: .int x :: st) ws :=
  fun H locs ls hP hD hS h => lv_iand C.1 C.2.1 (C.d j hd) (kk H locs ls hP hD hS h)
theorem J_ior (C : Cx G nL X cc own ret tb) (j : Nat) {x y : Int32} (hd : tb[j]? = some (pc, .ior, 1)) (kk : J l R G nL X Q k n (pc + 1) lv (.int (x ||| y) :: st) ws) : J l R G nL X Q k n pc lv (.int y :: .int x :: st) ws :=
  fun H locs ls hP hD hS h => lv_ior C.1 C.2.1 (C.d j hd) (kk H locs ls hP hD hS h)
theorem J_ixor (C : Cx G nL X cc own ret tb) (j : Nat) {x y : Int32} (hd : tb[j]? = some (pc, .ixor, 1)) (kk : J l R G nL X Q k n (pc + 1) lv (.int (x ^^^ y) :: st) ws) : J l R G nL X Q k n pc lv (.int y :: .int x :: st) ws :=
  fun H locs ls hP hD hS h => lv_ixor C.1 C.2.1 (C.d j hd) (kk H locs ls hP hD hS h)
theorem J_land (C : Cx G nL X cc own ret tb) (j : Nat) {x y : Int64} (hd : tb[j]? = some (pc, .land, 1)) (kk : J l R G nL X Q k n (pc + 1) lv (.long (x &&& y) :: st) ws) : J l R G nL X Q k n pc lv (.long y :: .long x :: st) ws :=
  fun H locs ls hP hD hS h => lv_land C.1 C.2.1 (C.d j hd) (kk H locs ls hP hD hS h)
theorem J_lor (C : Cx G nL X cc own ret tb) (j : Nat) {x y : Int64} (hd : tb[j]? = some (pc, .lor, 1)) (kk : J l R G nL X Q k n (pc + 1) lv (.long (x ||| y) :: st) ws) : J l R G nL X Q k n pc lv (.long y :: .long x :: st) ws :=
  fun H locs ls hP hD hS h => lv_lor C.1 C.2.1 (C.d j hd) (kk H locs ls hP hD hS h)
theorem J_lshl (C : Cx G nL X cc own ret tb) (j : Nat) {x : Int64} {y : Int32} (hd : tb[j]? = some (pc, .lshl, 1)) (kk : J l R G nL X Q k n (pc + 1) lv (.long (x <<< (y.toInt64 &&& 63)) :: st) ws) : J l R G nL X Q k n pc lv (.int y :: .long x :: st) ws :=
  fun H locs ls hP hD hS h => lv_lshl C.1 C.2.1 (C.d j hd) rfl (kk H locs ls hP hD hS h)
theorem J_dup2 (C : Cx G nL X cc own ret tb) (j : Nat) {v w : Value} (hd : tb[j]? = some (pc, .dup2, 1)) (hv : v.category = 1) (hw : w.category = 1) (kk : J l R G nL X Q k n (pc + 1) lv (v :: w :: v :: w :: st) ws) : J l R G nL X Q k n pc lv (v :: w :: st) ws :=
  fun H locs ls hP hD hS h => lv_dup2_11 C.1 C.2.1 (C.d j hd) hv hw (kk H locs ls hP hD hS h)
theorem J_idiv (C : Cx G nL X cc own ret tb) (j : Nat) {x y : Int32} (hd : tb[j]? = some (pc, .idiv, 1)) (hy : nz y = true) (kk : J l R G nL X Q k n (pc + 1) lv (.int (x / y) :: st) ws) : J l R G nL X Q k n pc lv (.int y :: .int x :: st) ws :=
  fun H locs ls hP hD hS h => lv_idiv C.1 C.2.1 (C.d j hd) (nz_ne hy) (kk H locs ls hP hD hS h)
theorem J_irem (C : Cx G nL X cc own ret tb) (j : Nat) {x y : Int32} (hd : tb[j]? = some (pc, .irem, 1)) (hy : nz y = true) (kk : J l R G nL X Q k n (pc + 1) lv (.int (x - x / y * y) :: st) ws) : J l R G nL X Q k n pc lv (.int y :: .int x :: st) ws :=
  fun H locs ls hP hD hS h => lv_irem C.1 C.2.1 (C.d j hd) (nz_ne hy) (kk H locs ls hP hD hS h)
theorem J_iushr (C : Cx G nL X cc own ret tb) (j : Nat) {x y : Int32} (hd : tb[j]? = some (pc, .iushr, 1)) (kk : J l R G nL X Q k n (pc + 1) lv (.int (x.toUInt32 >>> (y.toUInt32 &&& Int32.toUInt32 31)).toInt32 :: st) ws) : J l R G nL X Q k n pc lv (.int y :: .int x :: st) ws :=
  fun H locs ls hP hD hS h => lv_iushr C.1 C.2.1 (C.d j hd) rfl (kk H locs ls hP hD hS h)
theorem J_lushr (C : Cx G nL X cc own ret tb) (j : Nat) {x : Int64} {y : Int32} (hd : tb[j]? = some (pc, .lushr, 1)) (kk : J l R G nL X Q k n (pc + 1) lv (.long (x.toUInt64 >>> (y.toInt64.toUInt64 &&& Int64.toUInt64 63)).toInt64 :: st) ws) : J l R G nL X Q k n pc lv (.int y :: .long x :: st) ws :=
  fun H locs ls hP hD hS h => lv_lushr C.1 C.2.1 (C.d j hd) rfl (kk H locs ls hP hD hS h)
theorem J_i2l (C : Cx G nL X cc own ret tb) (j : Nat) {x : Int32} (hd : tb[j]? = some (pc, .i2l, 1)) (kk : J l R G nL X Q k n (pc + 1) lv (.long x.toInt64 :: st) ws) : J l R G nL X Q k n pc lv (.int x :: st) ws :=
  fun H locs ls hP hD hS h => lv_i2l C.1 C.2.1 (C.d j hd) rfl (kk H locs ls hP hD hS h)
theorem J_l2i (C : Cx G nL X cc own ret tb) (j : Nat) {x : Int64} (hd : tb[j]? = some (pc, .l2i, 1)) (kk : J l R G nL X Q k n (pc + 1) lv (.int x.toInt32 :: st) ws) : J l R G nL X Q k n pc lv (.long x :: st) ws :=
  fun H locs ls hP hD hS h => lv_l2i C.1 C.2.1 (C.d j hd) rfl (kk H locs ls hP hD hS h)
theorem J_i2c (C : Cx G nL X cc own ret tb) (j : Nat) {x : Int32} (hd : tb[j]? = some (pc, .i2c, 1)) (kk : J l R G nL X Q k n (pc + 1) lv (.int (x.toUInt32 % 65536).toInt32 :: st) ws) : J l R G nL X Q k n pc lv (.int x :: st) ws :=
  fun H locs ls hP hD hS h => lv_i2c C.1 C.2.1 (C.d j hd) rfl (kk H locs ls hP hD hS h)
theorem J_lcmp (C : Cx G nL X cc own ret tb) (j : Nat) {x y : Int64} (hd : tb[j]? = some (pc, .lcmp, 1)) (kk : J l R G nL X Q k n (pc + 1) lv (.int (lg_cmp x y) :: st) ws) : J l R G nL X Q k n pc lv (.long y :: .long x :: st) ws :=
  fun H locs ls hP hD hS h => W.lcmp C.1 C.2.1 (C.d j hd) (kk H locs ls hP hD hS h)
theorem J_dup (C : Cx G nL X cc own ret tb) (j : Nat) {v : Value} (hd : tb[j]? = some (pc, .dup, 1)) (hv : v.category = 1) (kk : J l R G nL X Q k n (pc + 1) lv (v :: v :: st) ws) : J l R G nL X Q k n pc lv (v :: st) ws :=
  fun H locs ls hP hD hS h => lv_dup C.1 C.2.1 (C.d j hd) hv (kk H locs ls hP hD hS h)
theorem J_pop (C : Cx G nL X cc own ret tb) (j : Nat) {v : Value} (hd : tb[j]? = some (pc, .pop, 1)) (hv : v.category = 1) (kk : J l R G nL X Q k n (pc + 1) lv st ws) : J l R G nL X Q k n pc lv (v :: st) ws :=
  fun H locs ls hP hD hS h => lv_pop C.1 C.2.1 (C.d j hd) hv (kk H locs ls hP hD hS h)
theorem J_goto (C : Cx G nL X cc own ret tb) (j : Nat) {z : Int} {tgt : Nat} (hd : tb[j]? = some (pc, .goto z, 3)) (ht : (pc : Int) + z = (tgt : Int)) (kk : J l R G nL X Q k n tgt lv st ws) : J l R G nL X Q k n pc lv st ws :=
  fun H locs ls hP hD hS h => lv_goto C.1 C.2.1 (C.d j hd) ht (kk H locs ls hP hD hS h)
theorem J_if_eq (C : Cx G nL X cc own ret tb) (j : Nat) {x : Int32} {z : Int} {tgt : Nat} (hd : tb[j]? = some (pc, .ifCond .eq z, 3)) (ht : (pc : Int) + z = (tgt : Int)) (kt : x = 0 → J l R G nL X Q k n tgt lv st ws) (kf : ¬ x = 0 → J l R G nL X Q k n (pc + 3) lv st ws) : J l R G nL X Q k n pc lv (.int x :: st) ws :=
  fun H locs ls hP hD hS h => lv_if_eq C.1 C.2.1 (C.d j hd) ht (fun c => kt c H locs ls hP hD hS h) (fun c => kf c H locs ls hP hD hS h)
theorem J_if_ne (C : Cx G nL X cc own ret tb) (j : Nat) {x : Int32} {z : Int} {tgt : Nat} (hd : tb[j]? = some (pc, .ifCond .ne z, 3)) (ht : (pc : Int) + z = (tgt : Int)) (kt : ¬ x = 0 → J l R G nL X Q k n tgt lv st ws) (kf : x = 0 → J l R G nL X Q k n (pc + 3) lv st ws) : J l R G nL X Q k n pc lv (.int x :: st) ws :=
  fun H locs ls hP hD hS h => lv_if_ne C.1 C.2.1 (C.d j hd) ht (fun c => kt c H locs ls hP hD hS h) (fun c => kf c H locs ls hP hD hS h)
theorem J_if_lt (C : Cx G nL X cc own ret tb) (j : Nat) {x : Int32} {z : Int} {tgt : Nat} (hd : tb[j]? = some (pc, .ifCond .lt z, 3)) (ht : (pc : Int) + z = (tgt : Int)) (kt : x < 0 → J l R G nL X Q k n tgt lv st ws) (kf : ¬ x < 0 → J l R G nL X Q k n (pc + 3) lv st ws) : J l R G nL X Q k n pc lv (.int x :: st) ws :=
  fun H locs ls hP hD hS h => lv_if_lt C.1 C.2.1 (C.d j hd) ht (fun c => kt c H locs ls hP hD hS h) (fun c => kf c H locs ls hP hD hS h)
theorem J_if_ge (C : Cx G nL X cc own ret tb) (j : Nat) {x : Int32} {z : Int} {tgt : Nat} (hd : tb[j]? = some (pc, .ifCond .ge z, 3)) (ht : (pc : Int) + z = (tgt : Int)) (kt : 0 ≤ x → J l R G nL X Q k n tgt lv st ws) (kf : ¬ 0 ≤ x → J l R G nL X Q k n (pc + 3) lv st ws) : J l R G nL X Q k n pc lv (.int x :: st) ws :=
  fun H locs ls hP hD hS h => lv_if_ge C.1 C.2.1 (C.d j hd) ht (fun c => kt c H locs ls hP hD hS h) (fun c => kf c H locs ls hP hD hS h)
theorem J_if_gt (C : Cx G nL X cc own ret tb) (j : Nat) {x : Int32} {z : Int} {tgt : Nat} (hd : tb[j]? = some (pc, .ifCond .gt z, 3)) (ht : (pc : Int) + z = (tgt : Int)) (kt : 0 < x → J l R G nL X Q k n tgt lv st ws) (kf : ¬ 0 < x → J l R G nL X Q k n (pc + 3) lv st ws) : J l R G nL X Q k n pc lv (.int x :: st) ws :=
  fun H locs ls hP hD hS h => lv_if_gt C.1 C.2.1 (C.d j hd) ht (fun c => kt c H locs ls hP hD hS h) (fun c => kf c H locs ls hP hD hS h)
theorem J_if_le (C : Cx G nL X cc own ret tb) (j : Nat) {x : Int32} {z : Int} {tgt : Nat} (hd : tb[j]? = some (pc, .ifCond .le z, 3)) (ht : (pc : Int) + z = (tgt : Int)) (kt : x ≤ 0 → J l R G nL X Q k n tgt lv st ws) (kf : ¬ x ≤ 0 → J l R G nL X Q k n (pc + 3) lv st ws) : J l R G nL X Q k n pc lv (.int x :: st) ws :=
  fun H locs ls hP hD hS h => lv_if_le C.1 C.2.1 (C.d j hd) ht (fun c => kt c H locs ls hP hD hS h) (fun c => kf c H locs ls hP hD hS h)
theorem J_icmp_eq (C : Cx G nL X cc own ret tb) (j : Nat) {x y : Int32} {z : Int} {tgt : Nat} (hd : tb[j]? = some (pc, .if_icmp .eq z, 3)) (ht : (pc : Int) + z = (tgt : Int)) (kt : x = y → J l R G nL X Q k n tgt lv st ws) (kf : ¬ x = y → J l R G nL X Q k n (pc + 3) lv st ws) : J l R G nL X Q k n pc lv (.int y :: .int x :: st) ws :=
  fun H locs ls hP hD hS h => lv_icmp_eq C.1 C.2.1 (C.d j hd) ht (fun c => kt c H locs ls hP hD hS h) (fun c => kf c H locs ls hP hD hS h)
theorem J_icmp_ne (C : Cx G nL X cc own ret tb) (j : Nat) {x y : Int32} {z : Int} {tgt : Nat} (hd : tb[j]? = some (pc, .if_icmp .ne z, 3)) (ht : (pc : Int) + z = (tgt : Int)) (kt : ¬ x = y → J l R G nL X Q k n tgt lv st ws) (kf : x = y → J l R G nL X Q k n (pc + 3) lv st ws) : J l R G nL X Q k n pc lv (.int y :: .int x :: st) ws :=
  fun H locs ls hP hD hS h => lv_icmp_ne C.1 C.2.1 (C.d j hd) ht (fun c => kt c H locs ls hP hD hS h) (fun c => kf c H locs ls hP hD hS h)
theorem J_icmp_lt (C : Cx G nL X cc own ret tb) (j : Nat) {x y : Int32} {z : Int} {tgt : Nat} (hd : tb[j]? = some (pc, .if_icmp .lt z, 3)) (ht : (pc : Int) + z = (tgt : Int)) (kt : x < y → J l R G nL X Q k n tgt lv st ws) (kf : ¬ x < y → J l R G nL X Q k n (pc + 3) lv st ws) : J l R G nL X Q k n pc lv (.int y :: .int x :: st) ws :=
  fun H locs ls hP hD hS h => lv_icmp_lt C.1 C.2.1 (C.d j hd) ht (fun c => kt c H locs ls hP hD hS h) (fun c => kf c H locs ls hP hD hS h)
theorem J_icmp_ge (C : Cx G nL X cc own ret tb) (j : Nat) {x y : Int32} {z : Int} {tgt : Nat} (hd : tb[j]? = some (pc, .if_icmp .ge z, 3)) (ht : (pc : Int) + z = (tgt : Int)) (kt : y ≤ x → J l R G nL X Q k n tgt lv st ws) (kf : ¬ y ≤ x → J l R G nL X Q k n (pc + 3) lv st ws) : J l R G nL X Q k n pc lv (.int y :: .int x :: st) ws :=
  fun H locs ls hP hD hS h => lv_icmp_ge C.1 C.2.1 (C.d j hd) ht (fun c => kt c H locs ls hP hD hS h) (fun c => kf c H locs ls hP hD hS h)
theorem J_icmp_gt (C : Cx G nL X cc own ret tb) (j : Nat) {x y : Int32} {z : Int} {tgt : Nat} (hd : tb[j]? = some (pc, .if_icmp .gt z, 3)) (ht : (pc : Int) + z = (tgt : Int)) (kt : y < x → J l R G nL X Q k n tgt lv st ws) (kf : ¬ y < x → J l R G nL X Q k n (pc + 3) lv st ws) : J l R G nL X Q k n pc lv (.int y :: .int x :: st) ws :=
  fun H locs ls hP hD hS h => lv_icmp_gt C.1 C.2.1 (C.d j hd) ht (fun c => kt c H locs ls hP hD hS h) (fun c => kf c H locs ls hP hD hS h)
theorem J_icmp_le (C : Cx G nL X cc own ret tb) (j : Nat) {x y : Int32} {z : Int} {tgt : Nat} (hd : tb[j]? = some (pc, .if_icmp .le z, 3)) (ht : (pc : Int) + z = (tgt : Int)) (kt : x ≤ y → J l R G nL X Q k n tgt lv st ws) (kf : ¬ x ≤ y → J l R G nL X Q k n (pc + 3) lv st ws) : J l R G nL X Q k n pc lv (.int y :: .int x :: st) ws :=
  fun H locs ls hP hD hS h => lv_icmp_le C.1 C.2.1 (C.d j hd) ht (fun c => kt c H locs ls hP hD hS h) (fun c => kf c H locs ls hP hD hS h)
theorem J_tabIn (C : Cx G nL X cc own ret tb) (j : Nat) {dflt lo hi : Int} {offs : Array Int} {len : Nat} {x : Int32} {off : Int} {tgt : Nat} (hd : tb[j]? = some (pc, .tableswitch dflt lo hi offs, len)) (h1 : ¬ x.toInt < lo) (h2 : ¬ hi < x.toInt) (ho : offs[(x.toInt - lo).toNat]? = some off) (ht : (pc : Int) + off = (tgt : Int)) (kk : J l R G nL X Q k n tgt lv st ws) : J l R G nL X Q k n pc lv (.int x :: st) ws :=
  fun H locs ls hP hD hS h => lv_tableIn C.1 C.2.1 (C.d j hd) h1 h2 ho ht (kk H locs ls hP hD hS h)
theorem J_tabOut (C : Cx G nL X cc own ret tb) (j : Nat) {dflt lo hi : Int} {offs : Array Int} {len : Nat} {x : Int32} {tgt : Nat} (hd : tb[j]? = some (pc, .tableswitch dflt lo hi offs, len)) (h1 : x.toInt < lo ∨ hi < x.toInt) (ht : (pc : Int) + dflt = (tgt : Int)) (kk : J l R G nL X Q k n tgt lv st ws) : J l R G nL X Q k n pc lv (.int x :: st) ws :=
  fun H locs ls hP hD hS h => lv_tableOut C.1 C.2.1 (C.d j hd) h1 ht (kk H locs ls hP hD hS h)
theorem J_look (C : Cx G nL X cc own ret tb) (j : Nat) {dflt : Int} {ps : Array (Int × Int)} {len : Nat} {x : Int32} {off : Int} {tgt : Nat} (hd : tb[j]? = some (pc, .lookupswitch dflt ps, len)) (hp : (ps.toList.zip (ps.toList.drop 1)).all (fun (a, next) => a.1 < next.1) = true) (ho : Op.lookupswitch.offset ps.toList dflt x.toInt = off) (ht : (pc : Int) + off = (tgt : Int)) (kk : J l R G nL X Q k n tgt lv st ws) : J l R G nL X Q k n pc lv (.int x :: st) ws :=
  fun H locs ls hP hD hS h => lv_lookup C.1 C.2.1 (C.d j hd) hp ho ht (kk H locs ls hP hD hS h)
end JROWS
section JMEM
variable {l : Launch} {R : Room} {G : JG} {nL : Nat} {X : JX} {Q : State → Prop} {k n pc : Nat} {lv : List (Nat × Value)} {st : List Value} {ws : va_W} {cc : ByteArray} {own : String} {ret : Option FieldType} {tb : List (Nat × ClassFile.Instr × Nat)}
theorem J_get (C : Cx G nL X cc own ret tb) (j : Nat) {ref Cn : String} {T : u_T} {N ci index a : Nat} {fs : List Value} {v : Value} (hd : tb[j]? = some (pc, .getfield index, 3)) (hin : ∀ w ∈ u_ws Cn T N, w ∈ TB) (hc : vwCl[ci]? = some (Cn, T, N)) (q0 kf : Nat) (he : ws[q0]? = some (a, .inr (ci, fs))) (hk : kf < N) (hlink : Cond.fieldLink own index ref (T kf).2.1 (T kf).2.2.1 ∈ TB) (hsame : (T kf).1 = ref) (hv : fs[kf]? = some v) (kk : J l R G nL X Q k n (pc + 3) lv (v :: st) ws) : J l R G nL X Q k n pc lv (.ref a :: st) ws :=
  fun H locs ls hP hD hS h => va_get C.1 C.2.1 C.2.2.2.2.1 hin C.2.2.2.1 C.2.2.2.2.2.1.1 hP q0 he hc kf hk (C.2.2.2.2.1 _ hlink) (fun x hx => hsame ▸ hx) hv (C.d j hd) (kk H locs ls hP hD hS h)
theorem J_puti (C : Cx G nL X cc own ret tb) (j : Nat) {ref Cn : String} {T : u_T} {N ci index a : Nat} {fs : List Value} {v : Int32} (ws2 : Int32 → va_W) (hd : tb[j]? = some (pc, .putfield index, 3)) (hin : ∀ w ∈ u_ws Cn T N, w ∈ TB) (ty0 : Nat → FieldType) (hty : ∀ k, k < N → parseFieldDescriptor (T k).2.2.1 = some (ty0 k)) (hnm : ∀ a, a < N → ∀ b, b < N → a ≠ b → (T a).2.1 ≠ (T b).2.1) (hc : vwCl[ci]? = some (Cn, T, N)) (q0 kf : Nat) (he : ws[q0]? = some (a, .inr (ci, fs))) (hk : kf < N) (hlink : Cond.fieldLink own index ref (T kf).2.1 (T kf).2.2.1 ∈ TB) (hsame : (T kf).1 = ref) (hfin : (T kf).2.2.2 = false) (hty2 : ty0 kf = .int) (hl : kf < fs.length) (h2 : ∀ v : Int32, ws.set q0 (a, .inr (ci, fs.set kf (.int v))) = ws2 v) (kk : J l R G nL X Q k n (pc + 3) lv st (ws2 v)) : J l R G nL X Q k n pc lv (.int v :: .ref a :: st) ws :=
  fun H locs ls hP hD hS h => va_put C.1 C.2.1 C.2.2.2.2.1 hin ty0 hty hnm C.2.2.2.1 C.2.2.2.2.2.1.1 hP hD hS q0 he hc kf hk (C.2.2.2.2.1 _ hlink) (fun x hx => hsame ▸ hx) hfin (hty2 ▸ hty kf hk) rfl rfl hl (C.d j hd) (fun H1 locs1 hP1 hD1 hS1 => kk H1 locs1 ls (h2 v ▸ hP1) (h2 v ▸ hD1) hS1 h)
theorem J_putz (C : Cx G nL X cc own ret tb) (j : Nat) {ref Cn : String} {T : u_T} {N ci index a : Nat} {fs : List Value} {v : Int32} (ws2 : Int32 → va_W) (hb : isb v = true) (hd : tb[j]? = some (pc, .putfield index, 3)) (hin : ∀ w ∈ u_ws Cn T N, w ∈ TB) (ty0 : Nat → FieldType) (hty : ∀ k, k < N → parseFieldDescriptor (T k).2.2.1 = some (ty0 k)) (hnm : ∀ a, a < N → ∀ b, b < N → a ≠ b → (T a).2.1 ≠ (T b).2.1) (hc : vwCl[ci]? = some (Cn, T, N)) (q0 kf : Nat) (he : ws[q0]? = some (a, .inr (ci, fs))) (hk : kf < N) (hlink : Cond.fieldLink own index ref (T kf).2.1 (T kf).2.2.1 ∈ TB) (hsame : (T kf).1 = ref) (hfin : (T kf).2.2.2 = false) (hty2 : ty0 kf = .boolean) (hl : kf < fs.length) (h2 : ∀ v : Int32, ws.set q0 (a, .inr (ci, fs.set kf (.int v))) = ws2 v) (kk : J l R G nL X Q k n (pc + 3) lv st (ws2 v)) : J l R G nL X Q k n pc lv (.int v :: .ref a :: st) ws :=
  fun H locs ls hP hD hS h => va_put C.1 C.2.1 C.2.2.2.2.1 hin ty0 hty hnm C.2.2.2.1 C.2.2.2.2.2.1.1 hP hD hS q0 he hc kf hk (C.2.2.2.2.1 _ hlink) (fun x hx => hsame ▸ hx) hfin (hty2 ▸ hty kf hk) (isb_nar hb) (isb_fit hb) hl (C.d j hd) (fun H1 locs1 hP1 hD1 hS1 => kk H1 locs1 ls (h2 v ▸ hP1) (h2 v ▸ hD1) hS1 h)
theorem J_iald (C : Cx G nL X cc own ret tb) (j : Nat) {a N : Nat} {f : Nat → Int32} {i v : Int32} (hd : tb[j]? = some (pc, .iaload, 1)) (q0 : Nat) (he : ws[q0]? = some (a, .inl (G.2 0, N, .inl f))) (hi : inb i N = true) (hv : f i.toNatClampNeg = v) (kk : J l R G nL X Q k n (pc + 1) lv (.int v :: st) ws) : J l R G nL X Q k n pc lv (.int i :: .ref a :: st) ws :=
  fun H locs ls hP hD hS h => va_iald C.1 C.2.1 C.2.2.2.2.2.1.1 hP q0 0 he rfl (inb_in hi) (C.d j hd) (by rw [hv]; exact kk H locs ls hP hD hS h)
theorem J_zald (C : Cx G nL X cc own ret tb) (j : Nat) {a N : Nat} {f : Nat → Int32} {i v : Int32} (hd : tb[j]? = some (pc, .baload, 1)) (q0 : Nat) (he : ws[q0]? = some (a, .inl (G.2 1, N, .inl f))) (hi : inb i N = true) (hv : f i.toNatClampNeg = v) (kk : J l R G nL X Q k n (pc + 1) lv (.int v :: st) ws) : J l R G nL X Q k n pc lv (.int i :: .ref a :: st) ws :=
  fun H locs ls hP hD hS h => va_zald C.1 C.2.1 C.2.2.2.2.2.1.1 hP q0 1 he rfl (inb_in hi) (C.d j hd) (by rw [hv]; exact kk H locs ls hP hD hS h)
theorem J_aald (C : Cx G nL X cc own ret tb) (j : Nat) {a N v : Nat} {f : Nat → Option Nat} {i : Int32} (hd : tb[j]? = some (pc, .aaload, 1)) (q0 : Nat) (he : ws[q0]? = some (a, .inl (G.2 3, N, .inr (.inr (.inr (.inr f)))))) (hi : inb i N = true) (hv : f i.toNatClampNeg = some v) (kk : J l R G nL X Q k n (pc + 1) lv (.ref v :: st) ws) : J l R G nL X Q k n pc lv (.int i :: .ref a :: st) ws :=
  fun H locs ls hP hD hS h => va_aldq C.1 C.2.1 C.2.2.2.2.2.1.1 hP q0 3 he rfl (inb_in hi) (C.d j hd) (by rw [hv]; exact kk H locs ls hP hD hS h)
theorem J_iast (C : Cx G nL X cc own ret tb) (j : Nat) {a N : Nat} {f : Nat → Int32} {i x : Int32} {m : Nat} (ws2 : Nat → Int32 → va_W) (hd : tb[j]? = some (pc, .iastore, 1)) (q0 : Nat) (he : ws[q0]? = some (a, .inl (G.2 0, N, .inl f))) (hi : inb i N = true) (hm : i.toNatClampNeg = m) (h2 : ∀ (m : Nat) (x : Int32), ws.set q0 (a, .inl (G.2 0, N, .inl (upd f m x))) = ws2 m x) (kk : J l R G nL X Q k n (pc + 1) lv st (ws2 m x)) : J l R G nL X Q k n pc lv (.int x :: .int i :: .ref a :: st) ws :=
  fun H locs ls hP hD hS h => va_iast C.1 C.2.1 C.2.2.2.2.2.1.1 hP hD hS q0 0 he rfl (inb_in hi) (C.d j hd) (fun H1 locs1 hP1 hD1 hS1 => kk H1 locs1 ls (by rw [hm, h2] at hP1; exact hP1) (by rw [hm, h2] at hD1; exact hD1) hS1 h)
theorem J_zast (C : Cx G nL X cc own ret tb) (j : Nat) {a N : Nat} {f : Nat → Int32} {i x : Int32} {m : Nat} (ws2 : Nat → Int32 → va_W) (hd : tb[j]? = some (pc, .bastore, 1)) (q0 : Nat) (he : ws[q0]? = some (a, .inl (G.2 1, N, .inl f))) (hi : inb i N = true) (hx : isb x = true) (hm : i.toNatClampNeg = m) (h2 : ∀ (m : Nat) (x : Int32), ws.set q0 (a, .inl (G.2 1, N, .inl (upd f m x))) = ws2 m x) (kk : J l R G nL X Q k n (pc + 1) lv st (ws2 m x)) : J l R G nL X Q k n pc lv (.int x :: .int i :: .ref a :: st) ws :=
  fun H locs ls hP hD hS h => va_zast C.1 C.2.1 C.2.2.2.2.2.1.1 hP hD hS q0 1 he rfl (inb_in hi) (C.d j hd) (fun H1 locs1 hP1 hD1 hS1 => kk H1 locs1 ls (by rw [isb_vnar hx, hm, h2] at hP1; exact hP1) (by rw [isb_vnar hx, hm, h2] at hD1; exact hD1) hS1 h)
theorem J_aast (C : Cx G nL X cc own ret tb) (j : Nat) {a N v : Nat} {f : Nat → Option Nat} {i : Int32} {vs : List Value} {ws2 : va_W} (hd : tb[j]? = some (pc, .aastore, 1)) (q0 qk : Nat) (he : ws[q0]? = some (a, .inl (G.2 3, N, .inr (.inr (.inr (.inr f)))))) (hv : ws[qk]? = some (v, .inr (2, vs))) (hi : inb i N = true) (h2 : ws.set q0 (a, .inl (G.2 3, N, .inr (.inr (.inr (.inr (va_up f i.toNatClampNeg (some v))))))) = ws2) (kk : J l R G nL X Q k n (pc + 1) lv st ws2) : J l R G nL X Q k n pc lv (.ref v :: .int i :: .ref a :: st) ws :=
  fun H locs ls hP hD hS h => va_astq (r := (RX2, TX2, 10)) C.1 C.2.1 C.2.2.2.2.2.1.1 hP hD hS q0 3 qk 2 he rfl hv rfl (inb_in hi) (C.d j hd) (fun H1 locs1 hP1 hD1 hS1 => kk H1 locs1 ls (h2 ▸ hP1) (h2 ▸ hD1) hS1 h)
theorem J_alen (C : Cx G nL X cc own ret tb) (j t0 : Nat) {a : Nat} {x : vp_A} {cA : ClassId} {ty : FieldType} {v : Int32} (hd : tb[j]? = some (pc, .arraylength, 1)) (q0 : Nat) (he : ws[q0]? = some (a, .inl (cA, x))) (ht : (tysG G)[t0]? = some (cA, ty)) (hv : Int32.ofNat x.1 = v) (kk : J l R G nL X Q k n (pc + 1) lv (.int v :: st) ws) : J l R G nL X Q k n pc lv (.ref a :: st) ws :=
  fun H locs ls hP hD hS h => va_alen C.1 C.2.1 C.2.2.2.2.2.1.1 hP q0 t0 he ht hv (C.d j hd) (kk H locs ls hP hD hS h)
theorem J_mmax (C : Cx G nL X cc own ret tb) (j : Nat) {index : Nat} {x y : Int32} (hd : tb[j]? = some (pc, .invokestatic index, 3)) (hl : Cond.methodLink own index Lib.Math.max.name ∈ TB) (hf : 1 ≤ R.frames) (hlo : (st.map fun v => v.category).sum + 13 ≤ R.locals) (hk : k ≤ R.cells) (hn : n ≤ R.slots) (kk : J l R G nL X Q k n (pc + 3) lv (.int (mx x y) :: st) ws) : J l R G nL X Q k n pc lv (.int y :: .int x :: st) ws :=
  fun H locs ls hP hD hS h => va_mmax C.1 C.2.1 (C.2.2.1.trans h.1.symm) C.2.2.2.1 (C.2.2.2.2.1 _ hl) (C.2.2.2.2.1 _ k93) (C.2.2.2.2.1 _ k94) (C.2.2.2.2.1 _ k95) hf hlo hk hn (C.d j hd) (kk H locs ls hP hD hS h)
/-- a method's start and end -/
def JPc (G : JG) (av : List Value) (sz : Nat) (ws : va_W) : Array Value → State → Prop := va_Pc av (fun U => U.heap.size = sz ∧ va_P G.1 vwCl ws U.heap ∧ KK G U ∧ va_D (fun _ => True) ws)
def JQ (G : JG) (r : Option Value) (ws' : va_W) (A : Nat → Prop) : Array Value → State → Outcome → State → Prop := fun _ s o t => (o = .returned r ∧ va_P G.1 vwCl ws' t.heap ∧ va_D A ws') ∧ va_F A s t
def QM (X : JX) (G : JG) (k n : Nat) (r : Option Value) (ws' : va_W) : State → Prop := MQ X.2.2.2.2.2.1 (JQ G r ws' X.2.2.2.2.2.2.2.2) X.2.2.2.2.1 X.2.2.1 k n X.2.2.2.2.2.2.2.2
/-- a contract: of a method that makes nothing -/
def JM (l : Launch) (G : JG) (y : MethodName) (b : ByteArray) (nL : Nat) (ret : Option FieldType) (fr lo : Nat) (av : List Value) (ws ws' : va_W) (r : Option Value) : Prop :=
  ∀ sz : Nat, Met l y (.code y b nL ret :: TB) { frames := fr, cells := 0, slots := 0, locals := lo } (JPc G av sz ws) (JQ G r ws' (va_A ws sz)) 0 0 (va_A ws sz)
theorem J_iret (C : Cx G nL X cc own (some .int) tb) (j : Nat) {v : Int32} (hd : tb[j]? = some (pc, .ireturn, 1)) : J l R G nL X (QM X G k n (some (.int v)) ws) k n pc lv [.int v] ws :=
  fun _ _ _ hP hD hS _ => W.iret C.1 C.2.1 C.2.2.2.2.2.2.2.2.1 (fun t ht _ => ⟨⟨rfl, by rw [ht]; exact hP, hD⟩, hS.F ht⟩) hS.2.2 (C.d j hd) C.2.2.2.2.2.2.2.1
theorem J_zret (C : Cx G nL X cc own (some .boolean) tb) (j : Nat) {v : Int32} (hd : tb[j]? = some (pc, .ireturn, 1)) (hv : isb v = true) : J l R G nL X (QM X G k n (some (.int v)) ws) k n pc lv [.int v] ws :=
  fun _ _ _ hP hD hS _ => W.zret C.1 C.2.1 C.2.2.2.2.2.2.2.2.1 (isb_nar hv) (fun t ht _ => ⟨⟨rfl, by rw [ht]; exact hP, hD⟩, hS.F ht⟩) hS.2.2 (C.d j hd) C.2.2.2.2.2.2.2.1
theorem J_vret (C : Cx G nL X cc own none tb) (j : Nat) (hd : tb[j]? = some (pc, .return_, 1)) : J l R G nL X (QM X G k n none ws) k n pc lv [] ws :=
  fun _ _ _ hP hD hS _ => W.vret C.1 C.2.1 C.2.2.2.2.2.2.2.2.1 (fun t ht _ => ⟨⟨rfl, by rw [ht]; exact hP, hD⟩, hS.F ht⟩) hS.2.2 (C.d j hd) C.2.2.2.2.2.2.2.1
theorem TB_in (y : MethodName) (b : ByteArray) (nL : Nat) (ret : Option FieldType) (h : Cond.code y b nL ret ∈ TB) : GoodIn TB (.code y b nL ret :: TB) := by
  intro w hw
  have h1 : w ∈ TB := by
    rcases List.mem_cons.mp hw with rfl | h2
    · exact h
    · exact h2
  exact ⟨h1, good_of_word (List.all_eq_true.mp TB_good w h1)⟩
theorem JM.of {y : MethodName} {b : ByteArray} {fr lo : Nat} {av : List Value} {ws' : va_W} {r : Option Value} (hy : plainName y.cls = true) (hlen : (lg_sl av).length ≤ nL) (hT : ∀ q ∈ tb, decode b q.1 = .ok q.2) (ho : y.cls = own)
    (body : ∀ X : JX, Cx G nL X b own ret tb → J l { frames := fr, cells := 0, slots := 0, locals := lo } G nL X (QM X G 0 0 r ws') 0 0 0 (lv_args 0 av) [] ws) : JM l G y b nL ret fr lo av ws ws' r := by
  intro sz
  refine Met.ofW (cc := b) (maxL := nL) (ret := ret) hy rfl ?_
  intro p e s m args below meth c s₁ B hml hv
  obtain ⟨rfl, hsz, hP, hK, hD0⟩ := hv
  have hts := atoms_spec (ws := .code y b nL ret :: TB) B.pre
  have hown : s.vm.findClass y.cls = some m.cls := findClass_of_methodNamed B.named
  rw [ho] at hown
  subst hsz
  have hD := hD0.self (sz := s.heap.size)
  have Z := body (p, e, s, m, av.toArray, below, meth, c, va_A ws s.heap.size) ⟨B.exec, B.bytes, hml, hown, fun w hw => hts w (List.mem_cons_of_mem _ hw), hK, fun q h => Or.inr h, B.notSynchronized, B.returns, hT⟩
  rw [lg_entry_eq]
  exact Z s.heap [] _ hP hD va_S.rf (lv_entry av hlen)
end JMEM
/-! ===== calls: the callee's cells, at their places, become what it leaves ===== -/
theorem j_place {ws wc : va_W} {isC : List Nat} (hC : isC.map (fun i => ws[i]?) = wc.map some) {j i : Nat} (hj : isC[j]? = some i) {q : Nat × va_E} (hq : wc[j]? = some q) : ws[i]? = some q := by
  have h1 : (isC.map (fun i => ws[i]?))[j]? = (wc.map some)[j]? := by rw [hC]
  rw [List.getElem?_map, List.getElem?_map, hj, hq] at h1
  exact Option.some.inj h1
def JRest (ws ws2 : va_W) : List Nat → Prop
  | [] => True
  | i :: is => (∃ c, ws2[i]? = some c ∧ ws[i]? = some c) ∧ JRest ws ws2 is
theorem JRest.at {ws ws2 : va_W} : ∀ {is : List Nat}, JRest ws ws2 is → ∀ i ∈ is, ws2[i]? = ws[i]?
  | [], _, i, hi => absurd hi List.not_mem_nil
  | j :: is, h, i, hi => by
    rcases List.mem_cons.mp hi with rfl | hi
    · obtain ⟨⟨c, h1, h2⟩, -⟩ := h
      rw [h1, h2]
    · exact JRest.at h.2 i hi
/-- ws2 is ws, with wc' at the places of wc -/
def JRep (ws ws2 wc wc' : va_W) (isC isR : List Nat) (N : Nat) : Prop :=
  isC.map (fun i => ws[i]?) = wc.map some ∧ va_nd isC = true ∧ ws2.length = N ∧ (List.range N).all (fun k => decide (k ∈ isC ++ isR)) = true ∧ isC.map (fun i => ws2[i]?) = wc'.map some ∧ JRest ws ws2 isR
theorem JRep.get {ws ws2 wc wc' : va_W} {isC isR : List Nat} {N : Nat} (h : JRep ws ws2 wc wc' isC isR N) {k : Nat} {q : Nat × va_E} (hk : ws2[k]? = some q) : (∃ j : Nat, isC[j]? = some k ∧ wc'[j]? = some q) ∨ (k ∉ isC ∧ ws[k]? = some q) := by
  obtain ⟨hC, hn, hl, hcov, h1, h2⟩ := h
  by_cases hm : k ∈ isC
  · obtain ⟨j, hj⟩ := List.getElem?_of_mem hm
    refine Or.inl ⟨j, hj, ?_⟩
    have h3 : (isC.map (fun i => ws2[i]?))[j]? = (wc'.map some)[j]? := by rw [h1]
    rw [List.getElem?_map, List.getElem?_map, hj] at h3
    cases hw : wc'[j]? with
    | none => rw [hw] at h3; cases h3
    | some z =>
      rw [hw] at h3
      have h4 : ws2[k]? = some z := Option.some.inj h3
      rw [hk] at h4
      exact h4.symm
  · have hlt : k < N := by rw [← hl]; exact (List.getElem?_eq_some_iff.mp hk).1
    have hm2 := List.all_eq_true.mp hcov k (List.mem_range.mpr hlt)
    rw [decide_eq_true_eq] at hm2
    have hm3 : k ∈ isR := (List.mem_append.mp hm2).resolve_left hm
    have h4 : ws2[k]? = ws[k]? := h2.at k hm3
    exact Or.inr ⟨hm, h4 ▸ hk⟩
theorem JRep.len {ws ws2 wc wc' : va_W} {isC isR : List Nat} {N : Nat} (h : JRep ws ws2 wc wc' isC isR N) : isC.length = wc.length := by
  have := congrArg List.length h.1; simpa using this
theorem JRep.out {A : Nat → Prop} {D : va_G} {cl : List vw_C} {ws ws2 wc wc' : va_W} {isC isR : List Nat} {N : Nat} {H : Heap} (h : JRep ws ws2 wc wc' isC isR N) (hP : va_P D cl ws H) (hD : va_D A ws) {k : Nat} {q : Nat × va_E} (hm : k ∉ isC) (hq : ws[k]? = some q) : q.1 < H.size ∧ ¬ va_A wc H.size q.1 := by
  refine ⟨(hP k q hq).lt, fun hA => ?_⟩
  rcases hA with ⟨k2, e, h3⟩ | h3
  · have hlt : k2 < isC.length := by rw [h.len]; exact (List.getElem?_eq_some_iff.mp h3).1
    have h4 : isC[k2]? = some isC[k2] := List.getElem?_eq_getElem hlt
    have h5 := j_place h.1 h4 h3
    have h6 := hD.1 k isC[k2] q (q.1, e) hq h5 rfl
    exact hm (h6 ▸ List.mem_of_getElem? h4)
  · have h4 := (hP k q hq).lt
    omega
theorem JRep.D {A : Nat → Prop} {D : va_G} {cl : List vw_C} {ws ws2 wc wc' : va_W} {isC isR : List Nat} {N : Nat} {H : Heap} (h : JRep ws ws2 wc wc' isC isR N) (hP : va_P D cl ws H) (hD : va_D A ws) (hF : ∀ q, va_A wc H.size q → A q) (hD1 : va_D (va_A wc H.size) wc') : va_D A ws2 := by
  refine ⟨fun i j x y hi hj hxy => ?_, fun k q hk => ?_⟩
  · rcases h.get hi with ⟨a, a1, a2⟩ | ⟨a1, a2⟩ <;> rcases h.get hj with ⟨b, b1, b2⟩ | ⟨b1, b2⟩
    · have := hD1.1 a b x y a2 b2 hxy
      subst this
      exact Option.some.inj (a1.symm.trans b1)
    · exact absurd (hxy ▸ hD1.2 a x a2) (h.out hP hD b1 b2).2
    · exact absurd (hxy ▸ hD1.2 b y b2) (h.out hP hD a1 a2).2
    · exact hD.1 i j x y a2 b2 hxy
  · rcases h.get hk with ⟨a, a1, a2⟩ | ⟨a1, a2⟩
    · exact hF _ (hD1.2 a q a2)
    · exact hD.2 k q a2
theorem JRep.P {A : Nat → Prop} {D : va_G} {cl : List vw_C} {ws ws2 wc wc' : va_W} {isC isR : List Nat} {N : Nat} {H H1 : Heap} (h : JRep ws ws2 wc wc' isC isR N) (hP : va_P D cl ws H) (hD : va_D A ws) (hP1 : va_P D cl wc' H1) (hk : ∀ q : Nat, q < H.size → ¬ va_A wc H.size q → H1[q]? = H[q]?) : va_P D cl ws2 H1 := by
  intro k q hq
  rcases h.get hq with ⟨j, h1, h2⟩ | ⟨h1, h2⟩
  · exact hP1 j q h2
  · have g := h.out hP hD h1 h2
    exact (hP k q h2).kept (hk q.1 g.1 g.2)
section JCALL
variable {l : Launch} {R : Room} {G : JG} {nL : Nat} {X : JX} {Q : State → Prop} {k n pc : Nat} {lv : List (Nat × Value)} {st st2 : List Value} {ws : va_W} {cc : ByteArray} {own : String} {ret : Option FieldType} {tb : List (Nat × ClassFile.Instr × Nat)}
theorem J_core (C : Cx G nL X cc own ret tb) {r : Option Value} {a : Array Value} {wc wc' ws2 : va_W} {isC isR : List Nat} {N : Nat} (hr0 : JRep ws ws2 wc wc' isC isR N) {st3 : List Value} (h3 : r.toList ++ st2 = st3)
    (hr : ∀ (H : Heap) (locs : List Loc) (ls : Array Slot), va_P G.1 vwCl ws H → va_P G.1 vwCl wc H → va_D (fun _ => True) wc → ls.size = nL → va_Run X.1 l X.2.1 R X.2.2.1 X.2.2.2.1 X.2.2.2.2.1 X.2.2.2.2.2.1 X.2.2.2.2.2.2.1 X.2.2.2.2.2.2.2.1 H locs k n 0 0 (F0 X.2.2.2.1 pc ls st) st2 (JQ G r wc' (va_A wc H.size) a) (va_A wc H.size))
    (kk : J l R G nL X Q k n (pc + 3) lv st3 ws2) : J l R G nL X Q k n pc lv st ws := by
  intro H locs ls hP hD hS h T hT XT
  have hPc : va_P G.1 vwCl wc H := by
    intro j q hq
    have hlt : j < isC.length := by rw [hr0.len]; exact (List.getElem?_eq_some_iff.mp hq).1
    exact hP _ q (j_place hr0.1 (List.getElem?_eq_getElem hlt) hq)
  have hDc : va_D X.2.2.2.2.2.2.2.2 wc := hD.sub isC hr0.2.1 hr0.1
  have hF := va_free hD hS C.2.2.2.2.2.2.1 isC hr0.1
  obtain ⟨v, st₀, t, T', L, h0, X', hL, e1, e2, ⟨⟨hv, hP1, hD1⟩, hz, hk⟩, stp⟩ := hr H locs ls hP hPc (hDc.weaken fun _ _ _ _ => trivial) h.1 T hT XT
  cases hv
  subst h3
  rw [h0] at hz hk
  have hPn : va_P G.1 vwCl ws2 T'.heap := by
    rw [e1]
    exact hr0.P hP hD hP1 hk
  have hDn : va_D X.2.2.2.2.2.2.2.2 ws2 := hr0.D hP hD hF hD1
  obtain ⟨t2, a1, b1⟩ := kk T'.heap (locs ++ L) ls hPn hDn
    ⟨Nat.le_trans hS.1 (by rw [e1]; exact hz), fun q h1 h2 => by rw [e1, hk q (Nat.lt_of_lt_of_le h1 hS.1) (fun z => h2 (hF q z))]; exact hS.2.1 q h1 h2, fun q hq => by
      rcases List.mem_append.mp hq with h | h
      · exact hS.2.2 q h
      · exact hF _ (hL q h)⟩ h T' rfl X'
  exact ⟨t2, stp t2 a1, b1⟩
theorem JPc_blind {av : List Value} {sz : Nat} {wc : va_W} : FrameBlind (JPc G av sz wc) := fun a U g mk q => by
  obtain ⟨q0, q1, qP, qK, qD⟩ := q
  exact ⟨q0, q1, qP, KK.calling qK, qD⟩
theorem JPc_at {s U : State} {av : List Value} {H : Heap} {wc : va_W} (hK : KK G s) (hP : va_P G.1 vwCl wc H) (hD : va_D (fun _ => True) wc) (hU : U.heap = H) (hW : s.WarmedH U.vm) : JPc G av H.size wc av.toArray U :=
  ⟨rfl, by rw [hU], by rw [hU]; exact hP, KK.warm hW hK, hD⟩
variable {y : MethodName} {b : ByteArray} {a nc np fr lo index : Nat} {rc : Option FieldType} {As : List Value} {wc wc' ws2 : va_W} {r : Option Value}
def Vy (y : MethodName) (b : ByteArray) (nc : Nat) (rc : Option FieldType) (np : Nat) : Prop := Cond.code y b nc rc ∈ TB ∧ Cond.initialized y.cls ∈ TB ∧ (y.cls ≠ "java/lang/invoke/MethodHandle" ∧ y.cls ≠ "java/lang/invoke/VarHandle" ∧ (parseMethodDescriptor y.desc).map (fun d => d.parameters.length) = some np)
theorem J_callV (C : Cx G nL X cc own ret tb) (j : Nat) (hd : tb[j]? = some (pc, .invokevirtual index, 3)) (hM : JM l G y b nc rc fr lo (.ref a :: As) wc wc' r) (V : Vy y b nc rc np) (hl : Cond.methodLink own index y ∈ TB) (hi : Cond.instanceMethod y ∈ TB) (hs : Cond.selects y.cls y y ∈ TB)
    (hnp : As.length = np) (hst : st = As.reverse ++ .ref a :: st2) (hR : fr + 1 ≤ R.frames ∧ 8 + (nc + 11) + lo ≤ R.locals) (hcat : (st2.map fun v => v.category).sum ≤ 8) (hkn : k ≤ R.cells ∧ n ≤ R.slots) (q0 ci : Nat) {cq : vw_C} {fs : List Value} (hcl : vwCl[ci]? = some cq) (hcy : cq.1 = y.cls) (hrc : ws[q0]? = some (a, .inr (ci, fs)))
    {isC isR : List Nat} {N : Nat} (hr0 : JRep ws ws2 wc wc' isC isR N) {st3 : List Value} (h3 : r.toList ++ st2 = st3)
    (kk : J l R G nL X Q k n (pc + 3) lv st3 ws2) : J l R G nL X Q k n pc lv st ws := by
  refine J_core C (a := (Value.ref a :: As).toArray) hr0 h3 (fun H locs ls hP hPc hDc hls => ?_) kk
  have hcell := va_recv C.2.2.2.2.2.1.1 hP hcl hrc
  rw [hcy] at hcell
  exact va_runV (C := y.cls) (As := As) (rest := st2) ⟨C.1, C.2.1, C.2.2.1, C.2.2.2.1, C.2.2.2.2.1⟩ (hM H.size)
    ⟨callB_of np C.2.2.2.2.1 (TB_in _ _ _ _ V.1) rfl rfl rfl (C.2.2.2.2.1 _ V.2.1) (C.2.2.2.2.1 _ hl) V.2.2 hR, C.2.2.2.2.1 _ hi, C.2.2.2.2.1 _ hs⟩
    ⟨JPc_blind, hcell, fun U hU hW => JPc_at C.2.2.2.2.2.1 hPc hDc hU hW⟩ rfl hnp hls hst (lv_room hcat) (C.d j hd) hkn
theorem J_callS (C : Cx G nL X cc own ret tb) (j : Nat) (hd : tb[j]? = some (pc, .invokestatic index, 3)) (hM : JM l G y b nc rc fr lo As wc wc' r) (V : Vy y b nc rc np) (hl : Cond.methodLink own index y ∈ TB) (hi : Cond.static y ∈ TB)
    (hnp : As.length = np) (hst : st = As.reverse ++ st2) (hR : fr + 1 ≤ R.frames ∧ 8 + (nc + 11) + lo ≤ R.locals) (hcat : (st2.map fun v => v.category).sum ≤ 8) (hkn : k ≤ R.cells ∧ n ≤ R.slots)
    {isC isR : List Nat} {N : Nat} (hr0 : JRep ws ws2 wc wc' isC isR N) {st3 : List Value} (h3 : r.toList ++ st2 = st3)
    (kk : J l R G nL X Q k n (pc + 3) lv st3 ws2) : J l R G nL X Q k n pc lv st ws := by
  refine J_core C (a := As.toArray) hr0 h3 (fun H locs ls hP hPc hDc hls => ?_) kk
  exact va_runS (As := As) (rest := st2) ⟨C.1, C.2.1, C.2.2.1, C.2.2.2.1, C.2.2.2.2.1⟩ (hM H.size)
    ⟨callB_of np C.2.2.2.2.1 (TB_in _ _ _ _ V.1) rfl rfl rfl (C.2.2.2.2.1 _ V.2.1) (C.2.2.2.2.1 _ hl) V.2.2 hR, C.2.2.2.2.1 _ hi⟩
    ⟨JPc_blind, fun U hU hW => JPc_at C.2.2.2.2.2.1 hPc hDc hU hW⟩ rfl hnp hls hst (lv_room hcat) (C.d j hd) hkn
theorem J_callSN (C : Cx G nL X cc own ret tb) (j : Nat) {host : String} (hd : tb[j]? = some (pc, .invokestatic index, 3)) (hM : JM l G y b nc rc fr lo As wc wc' r) (V : Vy y b nc rc np) (hl : Cond.methodLinkNest own index y host ∈ nestL) (hi : Cond.static y ∈ TB)
    (hnp : As.length = np) (hst : st = As.reverse ++ st2) (hR : fr + 1 ≤ R.frames ∧ 8 + (nc + 11) + lo ≤ R.locals) (hcat : (st2.map fun v => v.category).sum ≤ 8) (hkn : k ≤ R.cells ∧ n ≤ R.slots)
    {isC isR : List Nat} {N : Nat} (hr0 : JRep ws ws2 wc wc' isC isR N) {st3 : List Value} (h3 : r.toList ++ st2 = st3)
    (kk : J l R G nL X Q k n (pc + 3) lv st3 ws2) : J l R G nL X Q k n pc lv st ws := by
  refine J_core C (a := As.toArray) hr0 h3 (fun H locs ls hP hPc hDc hls => ?_) kk
  exact va_runSN (As := As) (rest := st2) ⟨C.1, C.2.1, C.2.2.1, C.2.2.2.1, C.2.2.2.2.1⟩ (hM H.size)
    ⟨va_cnB np C.2.2.2.2.1 (TB_in _ _ _ _ V.1) rfl rfl rfl (C.2.2.2.2.2.1.2.1 _ hl) (C.2.2.2.2.1 _ V.2.1) V.2.2 hR, C.2.2.2.2.1 _ hi, trivial⟩
    ⟨JPc_blind, fun U hU hW => JPc_at C.2.2.2.2.2.1 hPc hDc hU hW⟩ rfl hnp hls hst (lv_room hcat) (C.d j hd) hkn
end JCALL
theorem no_none {α : Type} {x : Option α} {r : α} (h0 : x = none) (h : x = some r) : False := by rw [h0] at h; cases h
/-- a loop by fuel -/
def lp {A S : Type} (F : (A → Option S) → A → Option S) : Nat → A → Option S
  | 0, _ => none
  | n + 1, a => F (lp F n) a
theorem FU_ex : ∃ n : Nat, 4000 ≤ n := ⟨4000, Nat.le_refl _⟩
noncomputable def FU : Nat := Classical.choose FU_ex
theorem FU_ge : 4000 ≤ FU := Classical.choose_spec FU_ex
def up1 {α : Type} (f : Nat → α) (k : Nat) (v : α) : Nat → α := fun i => bif Nat.beq i k then v else f i
end
section
/-! ===== the worlds ===== -/
def wSch (G : JG) (a : Nat → Nat) (f0 : Nat → Int32) (f1 : Nat → Int32) (f2 : Nat → Int32) (f3 : Nat → Int32) (f4 : Nat → Int32) (f5 : Nat → Int32) (f6 : Nat → Int32) (f7 : Nat → Int32) (f8 : Int32) (f9 : Int32) : va_W := [(a 0, .inr (2, [.ref (a 1), .ref (a 2), .ref (a 3), .ref (a 4), .ref (a 5), .ref (a 6), .ref (a 7), .ref (a 8), .int f8, .int f9])), (a 1, .inl (G.2 0, 3, .inl f0)), (a 2, .inl (G.2 0, 6, .inl f1)), (a 3, .inl (G.2 0, 6, .inl f2)), (a 4, .inl (G.2 0, 16, .inl f3)), (a 5, .inl (G.2 0, 16, .inl f4)), (a 6, .inl (G.2 1, 16, .inl f5)), (a 7, .inl (G.2 0, 4, .inl f6)), (a 8, .inl (G.2 0, 4, .inl f7))]
def wSeat (G : JG) (a : Nat → Nat) (h : Nat) (f1 : Nat → Int32) (f2 : Nat → Int32) (f3 : Nat → Int32) (f4 : Int32) (f5 : Int32) (f6 : Nat → Int32) (f7 : Nat → Int32) (f8 : Nat → Int32) : va_W := [(a 0, .inr (3, [.ref h, .ref (a 1), .ref (a 2), .ref (a 3), .int f4, .int f5, .ref (a 4), .ref (a 5), .ref (a 6)])), (a 1, .inl (G.2 0, 96, .inl f1)), (a 2, .inl (G.2 0, 96, .inl f2)), (a 3, .inl (G.2 0, 96, .inl f3)), (a 4, .inl (G.2 0, 64, .inl f6)), (a 5, .inl (G.2 0, 64, .inl f7)), (a 6, .inl (G.2 0, 6, .inl f8))]
def wPad (G : JG) (a : Nat → Nat) (f0 : Nat → Int32) (f1 : Int32) (f2 : Nat → Int32) (f3 : Nat → Int32) (f4 : Nat → Int32) (f5 : Int32) (f6 : Int32) (f7 : Int32) (f8 : Int32) (f9 : Int32) : va_W := [(a 0, .inr (1, [.ref (a 1), .int f1, .ref (a 2), .ref (a 3), .ref (a 4), .int f5, .int f6, .int f7, .int f8, .int f9])), (a 1, .inl (G.2 0, 60, .inl f0)), (a 2, .inl (G.2 0, 30, .inl f2)), (a 3, .inl (G.2 0, 30, .inl f3)), (a 4, .inl (G.2 1, 30, .inl f4))]
def wSlots (G : JG) (b : Nat) (sa : Nat → Nat → Nat) (sv : Nat → JV) : va_W := (b, .inl (G.2 3, 2, .inr (.inr (.inr (.inr (fun i => some (sa i 0))))))) :: (wSch G (sa 0) (sv 0 0) (sv 0 1) (sv 0 2) (sv 0 3) (sv 0 4) (sv 0 5) (sv 0 6) (sv 0 7) (sv 0 8 0) (sv 0 9 0) ++ wSch G (sa 1) (sv 1 0) (sv 1 1) (sv 1 2) (sv 1 3) (sv 1 4) (sv 1 5) (sv 1 6) (sv 1 7) (sv 1 8 0) (sv 1 9 0))
def wUsed (G : JG) (b : Nat) (s : Nat → Int32) : va_W := [(b, .inl (G.2 1, 2, .inl s))]
def wArr (G : JG) (b : Nat) (s : Nat → Int32) : va_W := [(b, .inl (G.2 0, 48, .inl s))]
def wHisX (G : JG) (h : Nat → Nat) (f : Nat → Option Nat) (ha : Nat → Nat → Nat) (hv : Nat → JV) (hz : Int32) : va_W := (h 0, .inr (0, [.ref (h 1), .int hz])) :: (h 1, .inl (G.2 3, 6, .inr (.inr (.inr (.inr f))))) :: (wSch G (ha 0) (hv 0 0) (hv 0 1) (hv 0 2) (hv 0 3) (hv 0 4) (hv 0 5) (hv 0 6) (hv 0 7) (hv 0 8 0) (hv 0 9 0) ++ (wSch G (ha 1) (hv 1 0) (hv 1 1) (hv 1 2) (hv 1 3) (hv 1 4) (hv 1 5) (hv 1 6) (hv 1 7) (hv 1 8 0) (hv 1 9 0) ++ (wSch G (ha 2) (hv 2 0) (hv 2 1) (hv 2 2) (hv 2 3) (hv 2 4) (hv 2 5) (hv 2 6) (hv 2 7) (hv 2 8 0) (hv 2 9 0) ++ (wSch G (ha 3) (hv 3 0) (hv 3 1) (hv 3 2) (hv 3 3) (hv 3 4) (hv 3 5) (hv 3 6) (hv 3 7) (hv 3 8 0) (hv 3 9 0) ++ (wSch G (ha 4) (hv 4 0) (hv 4 1) (hv 4 2) (hv 4 3) (hv 4 4) (hv 4 5) (hv 4 6) (hv 4 7) (hv 4 8 0) (hv 4 9 0) ++ wSch G (ha 5) (hv 5 0) (hv 5 1) (hv 5 2) (hv 5 3) (hv 5 4) (hv 5 5) (hv 5 6) (hv 5 7) (hv 5 8 0) (hv 5 9 0))))))
def wHis (G : JG) (h : Nat → Nat) (ha : Nat → Nat → Nat) (hv : Nat → JV) (hz : Int32) : va_W := wHisX G h (fun i => some (ha i 0)) ha hv hz
def wEx (x t t2 s s2 p h b u : Nat) : va_W := [(x, .inr (4, [.ref t, .ref s, .ref t2, .ref s2, .ref p, .ref h, .ref b, .ref u]))]

theorem va_at_congr {D : va_G} {cl : List vw_C} {a n : Nat} {c : ClassId} {f g : Nat → Option Nat} {H : Heap} (hfg : ∀ i : Nat, i < n → f i = g i) (h : va_at D cl (a, .inl (c, n, .inr (.inr (.inr (.inr f))))) H) : va_at D cl (a, .inl (c, n, .inr (.inr (.inr (.inr g))))) H := by
  have e : vp_cell c (n, .inr (.inr (.inr (.inr f)))) = vp_cell c (n, .inr (.inr (.inr (.inr g)))) := by
    rw [vp_cell_q, vp_cell_q]
    unfold arrV
    congr 1
    apply Array.ext
    · simp
    · intro i h1 h2
      simp only [Array.size_ofFn] at h1
      simp [hfg i h1]
  show H[a]? = some (vp_cell c (n, .inr (.inr (.inr (.inr g)))))
  rw [← e]
  exact h
def rot6 {α : Type} (f : Nat → α) : Nat → α := fun i => match i with
  | 0 => f 1
  | 1 => f 2
  | 2 => f 3
  | 3 => f 4
  | 4 => f 5
  | 5 => f 0
  | i => f i
section JHIS
variable {l : Launch} {R : Room} {G : JG} {nL : Nat} {X : JX} {Q : State → Prop} {k n pc : Nat} {lv : List (Nat × Value)} {st : List Value} {ws : va_W} {cc : ByteArray} {own : String} {ret : Option FieldType} {tb : List (Nat × ClassFile.Instr × Nat)}
/-- the same world in another order -/
theorem J_perm (ps : List Nat) {ws' : va_W} (hn : va_nd ps = true) (h : ps.map (fun i => ws[i]?) = ws'.map some) (kk : J l R G nL X Q k n pc lv st ws') : J l R G nL X Q k n pc lv st ws := by
  intro H locs ls hP hD hS hl
  refine kk H locs ls (fun j q hq => ?_) (hD.sub ps hn h) hS hl
  have l1 : ps.length = ws'.length := by have := congrArg List.length h; simpa using this
  have hlt : j < ps.length := by rw [l1]; exact (List.getElem?_eq_some_iff.mp hq).1
  exact hP _ q (j_place h (List.getElem?_eq_getElem hlt) hq)
/-- an array of references, told by another function -/
theorem J_aeq (q0 : Nat) {a N : Nat} {f g : Nat → Option Nat} {ws' : va_W} (he : ws[q0]? = some (a, .inl (G.2 3, N, .inr (.inr (.inr (.inr f)))))) (hfg : ∀ i : Nat, i < N → f i = g i) (h2 : ws.set q0 (a, .inl (G.2 3, N, .inr (.inr (.inr (.inr g))))) = ws') (kk : J l R G nL X Q k n pc lv st ws') : J l R G nL X Q k n pc lv st ws := by
  intro H locs ls hP hD hS hl
  subst h2
  exact kk H locs ls (hP.set hD he (va_at_congr hfg (hP q0 _ he)) (fun _ _ => rfl)) (hD.set he) hS hl
end JHIS
/-! ===== the table of the highest settings ===== -/
def hsv (j : Nat) : Int32 := match j with
  | 0 => 1
  | 1 => 6
  | _ => 60
def SZ (t : Nat) (A : Nat → Prop) (U : State) (H : Heap) : Prop := va_Z "ExamHalls" "HIGHEST_SETTINGS" "[I" (.ref t) A U H ∧ va_T .int t 3 (fun j => .int (hsv j)) A U H
theorem va_T_kept {ty : FieldType} {t N : Nat} {f : Nat → Value} {A A1 : Nat → Prop} {U : State} {H H1 : Heap} (h : va_T ty t N f A U H) (hk : H1[t]? = H[t]?) (hA : ¬ A1 t) : va_T ty t N f A1 U H1 := by
  obtain ⟨cell, h1, h2, h3, h4, h5, h6, -⟩ := h
  exact ⟨cell, by rw [hk]; exact h1, h2, h3, h4, h5, h6, hA⟩
theorem SZ.warm {t : Nat} {A : Nat → Prop} {s U : State} {H : Heap} (hW : s.WarmedH U.vm) (h : SZ t A s H) : SZ t A U H := ⟨va_Z.moved hW.alike h.1, va_T.moved hW.alike h.2⟩
theorem SZ.kept {t : Nat} {A A1 : Nat → Prop} {U : State} {H H1 : Heap} (h : SZ t A U H) (hA : ∀ q, q < H.size → A1 q → A q) (hk : ∀ q : Nat, q < H.size → ¬ A q → H1[q]? = H[q]?) : SZ t A1 U H1 := by
  obtain ⟨⟨cf, kf, fi, f, a, cell, h1, h2, h3, h4, h5, h6, h7, h8⟩, ⟨c2, g1, g2, g3, g4, g5, g6, g7⟩⟩ := h
  have la := (Array.getElem?_eq_some_iff.mp h5).1
  have lt := (Array.getElem?_eq_some_iff.mp g1).1
  exact ⟨⟨cf, kf, fi, f, a, cell, h1, h2, h3, h4, by rw [hk a la h8]; exact h5, h6, h7, fun z => h8 (hA a la z)⟩, ⟨c2, by rw [hk t lt g7]; exact g1, g2, g3, g4, g5, g6, fun z => g7 (hA t lt z)⟩⟩
section JSET
variable {l : Launch} {R : Room} {G : JG} {nL : Nat} {X : JX} {Q : State → Prop} {k n pc : Nat} {lv : List (Nat × Value)} {st : List Value} {ws : va_W} {cc : ByteArray} {own : String} {ret : Option FieldType} {tb : List (Nat × ClassFile.Instr × Nat)}
theorem J_gets {t : Nat} (C : Cx G nL X cc own ret tb) (j : Nat) {index : Nat} (Z : SZ t X.2.2.2.2.2.2.2.2 X.2.2.1 X.2.2.1.heap) (hd : tb[j]? = some (pc, .getstatic index, 3)) (hlink : Cond.fieldLink own index "ExamHalls" "HIGHEST_SETTINGS" "[I" ∈ TB) (kk : J l R G nL X Q k n (pc + 3) lv (.ref t :: st) ws) : J l R G nL X Q k n pc lv st ws :=
  fun H locs ls hP hD hS h => va_gets C.1 C.2.1 Z.1 hS C.2.2.2.1 (C.2.2.2.2.1 _ hlink) (fun _ h9 => h9) (C.d j hd) (kk H locs ls hP hD hS h)
theorem J_tald {t : Nat} (C : Cx G nL X cc own ret tb) (j : Nat) {i : Int32} (Z : SZ t X.2.2.2.2.2.2.2.2 X.2.2.1 X.2.2.1.heap) (hd : tb[j]? = some (pc, .iaload, 1)) (hi : inb i 3 = true) (kk : J l R G nL X Q k n (pc + 1) lv (.int (hsv i.toNatClampNeg) :: st) ws) : J l R G nL X Q k n pc lv (.int i :: .ref t :: st) ws :=
  fun H locs ls hP hD hS h => va_ti C.1 C.2.1 Z.2 hS (inb_in hi) rfl (C.d j hd) (kk H locs ls hP hD hS h)
def JPcZ (t : Nat) (G : JG) (av : List Value) (sz : Nat) (ws : va_W) : Array Value → State → Prop := va_Pc av (fun U => U.heap.size = sz ∧ va_P G.1 vwCl ws U.heap ∧ KK G U ∧ va_D (fun _ => True) ws ∧ SZ t (va_A ws sz) U U.heap)
def JMZ (t : Nat) (l : Launch) (G : JG) (y : MethodName) (b : ByteArray) (nL : Nat) (ret : Option FieldType) (fr lo : Nat) (av : List Value) (ws ws' : va_W) (r : Option Value) : Prop :=
  ∀ sz : Nat, Met l y (.code y b nL ret :: TB) { frames := fr, cells := 0, slots := 0, locals := lo } (JPcZ t G av sz ws) (JQ G r ws' (va_A ws sz)) 0 0 (va_A ws sz)
theorem JMZ.of {t : Nat} {y : MethodName} {b : ByteArray} {fr lo : Nat} {av : List Value} {ws' : va_W} {r : Option Value} (hy : plainName y.cls = true) (hlen : (lg_sl av).length ≤ nL) (hT : ∀ q ∈ tb, decode b q.1 = .ok q.2) (ho : y.cls = own)
    (body : ∀ X : JX, Cx G nL X b own ret tb → SZ t X.2.2.2.2.2.2.2.2 X.2.2.1 X.2.2.1.heap → J l { frames := fr, cells := 0, slots := 0, locals := lo } G nL X (QM X G 0 0 r ws') 0 0 0 (lv_args 0 av) [] ws) : JMZ t l G y b nL ret fr lo av ws ws' r := by
  intro sz
  refine Met.ofW (cc := b) (maxL := nL) (ret := ret) hy rfl ?_
  intro p e s m args below meth c s₁ B hml hv
  obtain ⟨rfl, hsz, hP, hK, hD0, hZ⟩ := hv
  have hts := atoms_spec (ws := .code y b nL ret :: TB) B.pre
  have hown : s.vm.findClass y.cls = some m.cls := findClass_of_methodNamed B.named
  rw [ho] at hown
  subst hsz
  have hD := hD0.self (sz := s.heap.size)
  have Z := body (p, e, s, m, av.toArray, below, meth, c, va_A ws s.heap.size) ⟨B.exec, B.bytes, hml, hown, fun w hw => hts w (List.mem_cons_of_mem _ hw), hK, fun q h => Or.inr h, B.notSynchronized, B.returns, hT⟩ hZ
  rw [lg_entry_eq]
  exact Z s.heap [] _ hP hD va_S.rf (lv_entry av hlen)
end JSET

def T_X4_contains : List (Nat × ClassFile.Instr × Nat) := [(0, .iload_n 0, 1), (1, .iload_n 1, 1), (2, .ishr, 1), (3, .iconst 1, 1), (4, .iand, 1), (5, .iconst 1, 1), (6, .if_icmp .ne 7, 3), (9, .iconst 1, 1), (10, .goto 4, 3), (13, .iconst 0, 1), (14, .ireturn, 1)]
theorem D_X4_contains : ∀ q ∈ T_X4_contains, decode cX4_contains q.1 = .ok q.2 := by decide +kernel
theorem V_X4_contains : Vy yX4_contains cX4_contains 2 (some .boolean) 2 := ⟨k53, k56, by decide +kernel⟩
theorem t_X4_contains : Cond.static yX4_contains ∈ TB := k55
noncomputable def f_X4_contains  (x0 : Int32) (x1 : Int32) : Option (Int32) :=
  (if ((x0 >>> (x1 &&& 31)) &&& (1 : Int32)) = (1 : Int32) then some (1 : Int32) else some (0 : Int32))
set_option maxRecDepth 100000 in
set_option maxHeartbeats 4000000 in
theorem c_X4_contains {l : Launch} {G : JG}   (x0 : Int32) (x1 : Int32) {Rz : Int32} (h : f_X4_contains x0 x1 = some Rz) : JM l G yX4_contains cX4_contains 2 (some .boolean) 0 0 [.int x0, .int x1] ([] : va_W) ([] : va_W) (some (.int Rz)) := by
  refine JM.of (own := RX4) (tb := T_X4_contains) (by decide) (Nat.le_of_ble_eq_true rfl) D_X4_contains rfl (fun X C => ?_)
  refine J_sub (lv' := [(0, .int x0), (1, .int x1)]) [0, 1] rfl ?_
  unfold f_X4_contains at h
  refine J_iload_n (pc := 0) C 0 rfl 0 rfl rfl ?_
  refine J_iload_n (pc := 1) C 1 rfl 1 rfl rfl ?_
  refine J_ishr (pc := 2) C 2 rfl  ?_
  refine J_iconst (pc := 3) (v := (1 : Int32)) C 3 rfl rfl ?_
  refine J_iand (pc := 4) C 4 rfl  ?_
  refine J_iconst (pc := 5) (v := (1 : Int32)) C 5 rfl rfl ?_
  refine J_icmp_ne (pc := 6) (tgt := 13) C 6 rfl rfl (fun c1 => ?_) (fun c1 => ?_)
  · rw [if_neg c1] at h
    refine J_iconst (pc := 13) (v := (0 : Int32)) C 9 rfl rfl ?_
    cases h
    exact J_zret (pc := 14) C 10 rfl rfl
  · rw [if_pos c1] at h
    refine J_iconst (pc := 9) (v := (1 : Int32)) C 7 rfl rfl ?_
    refine J_goto (pc := 10) (tgt := 14) C 8 rfl rfl ?_
    cases h
    exact J_zret (pc := 14) C 10 rfl rfl
def T_J6_bitCount_0f7a4 : List (Nat × ClassFile.Instr × Nat) := [(0, .iload_n 0, 1), (1, .iload_n 0, 1), (2, .iconst 1, 1), (3, .iushr, 1), (4, .ldc_w 265, 3), (7, .iand, 1), (8, .isub, 1), (9, .istore_n 0, 1), (10, .iload_n 0, 1), (11, .ldc_w 266, 3), (14, .iand, 1), (15, .iload_n 0, 1), (16, .iconst 2, 1), (17, .iushr, 1), (18, .ldc_w 266, 3), (21, .iand, 1), (22, .iadd, 1), (23, .istore_n 0, 1), (24, .iload_n 0, 1), (25, .iload_n 0, 1), (26, .iconst 4, 1), (27, .iushr, 1), (28, .iadd, 1), (29, .ldc_w 267, 3), (32, .iand, 1), (33, .istore_n 0, 1), (34, .iload_n 0, 1), (35, .iload_n 0, 1), (36, .bipush 8, 2), (38, .iushr, 1), (39, .iadd, 1), (40, .istore_n 0, 1), (41, .iload_n 0, 1), (42, .iload_n 0, 1), (43, .bipush 16, 2), (45, .iushr, 1), (46, .iadd, 1), (47, .istore_n 0, 1), (48, .iload_n 0, 1), (49, .bipush 63, 2), (51, .iand, 1), (52, .ireturn, 1)]
theorem D_J6_bitCount_0f7a4 : ∀ q ∈ T_J6_bitCount_0f7a4, decode cJ6_bitCount_0f7a4 q.1 = .ok q.2 := by decide +kernel
theorem V_J6_bitCount_0f7a4 : Vy yJ6_bitCount_0f7a4 cJ6_bitCount_0f7a4 1 (some .int) 1 := ⟨k70, k77, by decide +kernel⟩
theorem t_J6_bitCount_0f7a4 : Cond.static yJ6_bitCount_0f7a4 ∈ TB := k76
noncomputable def f_J6_bitCount_0f7a4  (x0 : Int32) : Option (Int32) :=
  some ((((((((x0 - ((UInt32.toInt32 (Int32.toUInt32 x0 >>> (Int32.toUInt32 (1 : Int32) &&& Int32.toUInt32 31))) &&& (1431655765 : Int32))) &&& (858993459 : Int32)) + ((UInt32.toInt32 (Int32.toUInt32 (x0 - ((UInt32.toInt32 (Int32.toUInt32 x0 >>> (Int32.toUInt32 (1 : Int32) &&& Int32.toUInt32 31))) &&& (1431655765 : Int32))) >>> (Int32.toUInt32 (2 : Int32) &&& Int32.toUInt32 31))) &&& (858993459 : Int32))) + (UInt32.toInt32 (Int32.toUInt32 (((x0 - ((UInt32.toInt32 (Int32.toUInt32 x0 >>> (Int32.toUInt32 (1 : Int32) &&& Int32.toUInt32 31))) &&& (1431655765 : Int32))) &&& (858993459 : Int32)) + ((UInt32.toInt32 (Int32.toUInt32 (x0 - ((UInt32.toInt32 (Int32.toUInt32 x0 >>> (Int32.toUInt32 (1 : Int32) &&& Int32.toUInt32 31))) &&& (1431655765 : Int32))) >>> (Int32.toUInt32 (2 : Int32) &&& Int32.toUInt32 31))) &&& (858993459 : Int32))) >>> (Int32.toUInt32 (4 : Int32) &&& Int32.toUInt32 31)))) &&& (252645135 : Int32)) + (UInt32.toInt32 (Int32.toUInt32 (((((x0 - ((UInt32.toInt32 (Int32.toUInt32 x0 >>> (Int32.toUInt32 (1 : Int32) &&& Int32.toUInt32 31))) &&& (1431655765 : Int32))) &&& (858993459 : Int32)) + ((UInt32.toInt32 (Int32.toUInt32 (x0 - ((UInt32.toInt32 (Int32.toUInt32 x0 >>> (Int32.toUInt32 (1 : Int32) &&& Int32.toUInt32 31))) &&& (1431655765 : Int32))) >>> (Int32.toUInt32 (2 : Int32) &&& Int32.toUInt32 31))) &&& (858993459 : Int32))) + (UInt32.toInt32 (Int32.toUInt32 (((x0 - ((UInt32.toInt32 (Int32.toUInt32 x0 >>> (Int32.toUInt32 (1 : Int32) &&& Int32.toUInt32 31))) &&& (1431655765 : Int32))) &&& (858993459 : Int32)) + ((UInt32.toInt32 (Int32.toUInt32 (x0 - ((UInt32.toInt32 (Int32.toUInt32 x0 >>> (Int32.toUInt32 (1 : Int32) &&& Int32.toUInt32 31))) &&& (1431655765 : Int32))) >>> (Int32.toUInt32 (2 : Int32) &&& Int32.toUInt32 31))) &&& (858993459 : Int32))) >>> (Int32.toUInt32 (4 : Int32) &&& Int32.toUInt32 31)))) &&& (252645135 : Int32)) >>> (Int32.toUInt32 (8 : Int32) &&& Int32.toUInt32 31)))) + (UInt32.toInt32 (Int32.toUInt32 ((((((x0 - ((UInt32.toInt32 (Int32.toUInt32 x0 >>> (Int32.toUInt32 (1 : Int32) &&& Int32.toUInt32 31))) &&& (1431655765 : Int32))) &&& (858993459 : Int32)) + ((UInt32.toInt32 (Int32.toUInt32 (x0 - ((UInt32.toInt32 (Int32.toUInt32 x0 >>> (Int32.toUInt32 (1 : Int32) &&& Int32.toUInt32 31))) &&& (1431655765 : Int32))) >>> (Int32.toUInt32 (2 : Int32) &&& Int32.toUInt32 31))) &&& (858993459 : Int32))) + (UInt32.toInt32 (Int32.toUInt32 (((x0 - ((UInt32.toInt32 (Int32.toUInt32 x0 >>> (Int32.toUInt32 (1 : Int32) &&& Int32.toUInt32 31))) &&& (1431655765 : Int32))) &&& (858993459 : Int32)) + ((UInt32.toInt32 (Int32.toUInt32 (x0 - ((UInt32.toInt32 (Int32.toUInt32 x0 >>> (Int32.toUInt32 (1 : Int32) &&& Int32.toUInt32 31))) &&& (1431655765 : Int32))) >>> (Int32.toUInt32 (2 : Int32) &&& Int32.toUInt32 31))) &&& (858993459 : Int32))) >>> (Int32.toUInt32 (4 : Int32) &&& Int32.toUInt32 31)))) &&& (252645135 : Int32)) + (UInt32.toInt32 (Int32.toUInt32 (((((x0 - ((UInt32.toInt32 (Int32.toUInt32 x0 >>> (Int32.toUInt32 (1 : Int32) &&& Int32.toUInt32 31))) &&& (1431655765 : Int32))) &&& (858993459 : Int32)) + ((UInt32.toInt32 (Int32.toUInt32 (x0 - ((UInt32.toInt32 (Int32.toUInt32 x0 >>> (Int32.toUInt32 (1 : Int32) &&& Int32.toUInt32 31))) &&& (1431655765 : Int32))) >>> (Int32.toUInt32 (2 : Int32) &&& Int32.toUInt32 31))) &&& (858993459 : Int32))) + (UInt32.toInt32 (Int32.toUInt32 (((x0 - ((UInt32.toInt32 (Int32.toUInt32 x0 >>> (Int32.toUInt32 (1 : Int32) &&& Int32.toUInt32 31))) &&& (1431655765 : Int32))) &&& (858993459 : Int32)) + ((UInt32.toInt32 (Int32.toUInt32 (x0 - ((UInt32.toInt32 (Int32.toUInt32 x0 >>> (Int32.toUInt32 (1 : Int32) &&& Int32.toUInt32 31))) &&& (1431655765 : Int32))) >>> (Int32.toUInt32 (2 : Int32) &&& Int32.toUInt32 31))) &&& (858993459 : Int32))) >>> (Int32.toUInt32 (4 : Int32) &&& Int32.toUInt32 31)))) &&& (252645135 : Int32)) >>> (Int32.toUInt32 (8 : Int32) &&& Int32.toUInt32 31)))) >>> (Int32.toUInt32 (16 : Int32) &&& Int32.toUInt32 31)))) &&& (63 : Int32))
set_option maxRecDepth 100000 in
set_option maxHeartbeats 4000000 in
theorem c_J6_bitCount_0f7a4 {l : Launch} {G : JG}   (x0 : Int32) {Rz : Int32} (h : f_J6_bitCount_0f7a4 x0 = some Rz) : JM l G yJ6_bitCount_0f7a4 cJ6_bitCount_0f7a4 1 (some .int) 0 0 [.int x0] ([] : va_W) ([] : va_W) (some (.int Rz)) := by
  refine JM.of (own := RJ6) (tb := T_J6_bitCount_0f7a4) (by decide) (Nat.le_of_ble_eq_true rfl) D_J6_bitCount_0f7a4 rfl (fun X C => ?_)
  refine J_sub (lv' := [(0, .int x0)]) [0] rfl ?_
  unfold f_J6_bitCount_0f7a4 at h
  refine J_iload_n (pc := 0) C 0 rfl 0 rfl rfl ?_
  refine J_iload_n (pc := 1) C 1 rfl 0 rfl rfl ?_
  refine J_iconst (pc := 2) (v := (1 : Int32)) C 2 rfl rfl ?_
  refine J_iushr (pc := 3) C 3 rfl  ?_
  refine J_ldc_w (pc := 4) (v := (1431655765 : Int32)) C 4 rfl k71 ?_
  refine J_iand (pc := 7) C 5 rfl  ?_
  refine J_isub (pc := 8) C 6 rfl  ?_
  refine J_istore_n (pc := 9) (lv' := [(0, .int (x0 - ((UInt32.toInt32 (Int32.toUInt32 x0 >>> (Int32.toUInt32 (1 : Int32) &&& Int32.toUInt32 31))) &&& (1431655765 : Int32))))]) C 7 rfl rfl (by decide) rfl ?_
  refine J_iload_n (pc := 10) C 8 rfl 0 rfl rfl ?_
  refine J_ldc_w (pc := 11) (v := (858993459 : Int32)) C 9 rfl k72 ?_
  refine J_iand (pc := 14) C 10 rfl  ?_
  refine J_iload_n (pc := 15) C 11 rfl 0 rfl rfl ?_
  refine J_iconst (pc := 16) (v := (2 : Int32)) C 12 rfl rfl ?_
  refine J_iushr (pc := 17) C 13 rfl  ?_
  refine J_ldc_w (pc := 18) (v := (858993459 : Int32)) C 14 rfl k72 ?_
  refine J_iand (pc := 21) C 15 rfl  ?_
  refine J_iadd (pc := 22) C 16 rfl  ?_
  refine J_istore_n (pc := 23) (lv' := [(0, .int (((x0 - ((UInt32.toInt32 (Int32.toUInt32 x0 >>> (Int32.toUInt32 (1 : Int32) &&& Int32.toUInt32 31))) &&& (1431655765 : Int32))) &&& (858993459 : Int32)) + ((UInt32.toInt32 (Int32.toUInt32 (x0 - ((UInt32.toInt32 (Int32.toUInt32 x0 >>> (Int32.toUInt32 (1 : Int32) &&& Int32.toUInt32 31))) &&& (1431655765 : Int32))) >>> (Int32.toUInt32 (2 : Int32) &&& Int32.toUInt32 31))) &&& (858993459 : Int32))))]) C 17 rfl rfl (by decide) rfl ?_
  refine J_iload_n (pc := 24) C 18 rfl 0 rfl rfl ?_
  refine J_iload_n (pc := 25) C 19 rfl 0 rfl rfl ?_
  refine J_iconst (pc := 26) (v := (4 : Int32)) C 20 rfl rfl ?_
  refine J_iushr (pc := 27) C 21 rfl  ?_
  refine J_iadd (pc := 28) C 22 rfl  ?_
  refine J_ldc_w (pc := 29) (v := (252645135 : Int32)) C 23 rfl k73 ?_
  refine J_iand (pc := 32) C 24 rfl  ?_
  refine J_istore_n (pc := 33) (lv' := [(0, .int (((((x0 - ((UInt32.toInt32 (Int32.toUInt32 x0 >>> (Int32.toUInt32 (1 : Int32) &&& Int32.toUInt32 31))) &&& (1431655765 : Int32))) &&& (858993459 : Int32)) + ((UInt32.toInt32 (Int32.toUInt32 (x0 - ((UInt32.toInt32 (Int32.toUInt32 x0 >>> (Int32.toUInt32 (1 : Int32) &&& Int32.toUInt32 31))) &&& (1431655765 : Int32))) >>> (Int32.toUInt32 (2 : Int32) &&& Int32.toUInt32 31))) &&& (858993459 : Int32))) + (UInt32.toInt32 (Int32.toUInt32 (((x0 - ((UInt32.toInt32 (Int32.toUInt32 x0 >>> (Int32.toUInt32 (1 : Int32) &&& Int32.toUInt32 31))) &&& (1431655765 : Int32))) &&& (858993459 : Int32)) + ((UInt32.toInt32 (Int32.toUInt32 (x0 - ((UInt32.toInt32 (Int32.toUInt32 x0 >>> (Int32.toUInt32 (1 : Int32) &&& Int32.toUInt32 31))) &&& (1431655765 : Int32))) >>> (Int32.toUInt32 (2 : Int32) &&& Int32.toUInt32 31))) &&& (858993459 : Int32))) >>> (Int32.toUInt32 (4 : Int32) &&& Int32.toUInt32 31)))) &&& (252645135 : Int32)))]) C 25 rfl rfl (by decide) rfl ?_
  refine J_iload_n (pc := 34) C 26 rfl 0 rfl rfl ?_
  refine J_iload_n (pc := 35) C 27 rfl 0 rfl rfl ?_
  refine J_bipush (pc := 36) (v := (8 : Int32)) C 28 rfl rfl ?_
  refine J_iushr (pc := 38) C 29 rfl  ?_
  refine J_iadd (pc := 39) C 30 rfl  ?_
  refine J_istore_n (pc := 40) (lv' := [(0, .int ((((((x0 - ((UInt32.toInt32 (Int32.toUInt32 x0 >>> (Int32.toUInt32 (1 : Int32) &&& Int32.toUInt32 31))) &&& (1431655765 : Int32))) &&& (858993459 : Int32)) + ((UInt32.toInt32 (Int32.toUInt32 (x0 - ((UInt32.toInt32 (Int32.toUInt32 x0 >>> (Int32.toUInt32 (1 : Int32) &&& Int32.toUInt32 31))) &&& (1431655765 : Int32))) >>> (Int32.toUInt32 (2 : Int32) &&& Int32.toUInt32 31))) &&& (858993459 : Int32))) + (UInt32.toInt32 (Int32.toUInt32 (((x0 - ((UInt32.toInt32 (Int32.toUInt32 x0 >>> (Int32.toUInt32 (1 : Int32) &&& Int32.toUInt32 31))) &&& (1431655765 : Int32))) &&& (858993459 : Int32)) + ((UInt32.toInt32 (Int32.toUInt32 (x0 - ((UInt32.toInt32 (Int32.toUInt32 x0 >>> (Int32.toUInt32 (1 : Int32) &&& Int32.toUInt32 31))) &&& (1431655765 : Int32))) >>> (Int32.toUInt32 (2 : Int32) &&& Int32.toUInt32 31))) &&& (858993459 : Int32))) >>> (Int32.toUInt32 (4 : Int32) &&& Int32.toUInt32 31)))) &&& (252645135 : Int32)) + (UInt32.toInt32 (Int32.toUInt32 (((((x0 - ((UInt32.toInt32 (Int32.toUInt32 x0 >>> (Int32.toUInt32 (1 : Int32) &&& Int32.toUInt32 31))) &&& (1431655765 : Int32))) &&& (858993459 : Int32)) + ((UInt32.toInt32 (Int32.toUInt32 (x0 - ((UInt32.toInt32 (Int32.toUInt32 x0 >>> (Int32.toUInt32 (1 : Int32) &&& Int32.toUInt32 31))) &&& (1431655765 : Int32))) >>> (Int32.toUInt32 (2 : Int32) &&& Int32.toUInt32 31))) &&& (858993459 : Int32))) + (UInt32.toInt32 (Int32.toUInt32 (((x0 - ((UInt32.toInt32 (Int32.toUInt32 x0 >>> (Int32.toUInt32 (1 : Int32) &&& Int32.toUInt32 31))) &&& (1431655765 : Int32))) &&& (858993459 : Int32)) + ((UInt32.toInt32 (Int32.toUInt32 (x0 - ((UInt32.toInt32 (Int32.toUInt32 x0 >>> (Int32.toUInt32 (1 : Int32) &&& Int32.toUInt32 31))) &&& (1431655765 : Int32))) >>> (Int32.toUInt32 (2 : Int32) &&& Int32.toUInt32 31))) &&& (858993459 : Int32))) >>> (Int32.toUInt32 (4 : Int32) &&& Int32.toUInt32 31)))) &&& (252645135 : Int32)) >>> (Int32.toUInt32 (8 : Int32) &&& Int32.toUInt32 31)))))]) C 31 rfl rfl (by decide) rfl ?_
  refine J_iload_n (pc := 41) C 32 rfl 0 rfl rfl ?_
  refine J_iload_n (pc := 42) C 33 rfl 0 rfl rfl ?_
  refine J_bipush (pc := 43) (v := (16 : Int32)) C 34 rfl rfl ?_
  refine J_iushr (pc := 45) C 35 rfl  ?_
  refine J_iadd (pc := 46) C 36 rfl  ?_
  refine J_istore_n (pc := 47) (lv' := [(0, .int (((((((x0 - ((UInt32.toInt32 (Int32.toUInt32 x0 >>> (Int32.toUInt32 (1 : Int32) &&& Int32.toUInt32 31))) &&& (1431655765 : Int32))) &&& (858993459 : Int32)) + ((UInt32.toInt32 (Int32.toUInt32 (x0 - ((UInt32.toInt32 (Int32.toUInt32 x0 >>> (Int32.toUInt32 (1 : Int32) &&& Int32.toUInt32 31))) &&& (1431655765 : Int32))) >>> (Int32.toUInt32 (2 : Int32) &&& Int32.toUInt32 31))) &&& (858993459 : Int32))) + (UInt32.toInt32 (Int32.toUInt32 (((x0 - ((UInt32.toInt32 (Int32.toUInt32 x0 >>> (Int32.toUInt32 (1 : Int32) &&& Int32.toUInt32 31))) &&& (1431655765 : Int32))) &&& (858993459 : Int32)) + ((UInt32.toInt32 (Int32.toUInt32 (x0 - ((UInt32.toInt32 (Int32.toUInt32 x0 >>> (Int32.toUInt32 (1 : Int32) &&& Int32.toUInt32 31))) &&& (1431655765 : Int32))) >>> (Int32.toUInt32 (2 : Int32) &&& Int32.toUInt32 31))) &&& (858993459 : Int32))) >>> (Int32.toUInt32 (4 : Int32) &&& Int32.toUInt32 31)))) &&& (252645135 : Int32)) + (UInt32.toInt32 (Int32.toUInt32 (((((x0 - ((UInt32.toInt32 (Int32.toUInt32 x0 >>> (Int32.toUInt32 (1 : Int32) &&& Int32.toUInt32 31))) &&& (1431655765 : Int32))) &&& (858993459 : Int32)) + ((UInt32.toInt32 (Int32.toUInt32 (x0 - ((UInt32.toInt32 (Int32.toUInt32 x0 >>> (Int32.toUInt32 (1 : Int32) &&& Int32.toUInt32 31))) &&& (1431655765 : Int32))) >>> (Int32.toUInt32 (2 : Int32) &&& Int32.toUInt32 31))) &&& (858993459 : Int32))) + (UInt32.toInt32 (Int32.toUInt32 (((x0 - ((UInt32.toInt32 (Int32.toUInt32 x0 >>> (Int32.toUInt32 (1 : Int32) &&& Int32.toUInt32 31))) &&& (1431655765 : Int32))) &&& (858993459 : Int32)) + ((UInt32.toInt32 (Int32.toUInt32 (x0 - ((UInt32.toInt32 (Int32.toUInt32 x0 >>> (Int32.toUInt32 (1 : Int32) &&& Int32.toUInt32 31))) &&& (1431655765 : Int32))) >>> (Int32.toUInt32 (2 : Int32) &&& Int32.toUInt32 31))) &&& (858993459 : Int32))) >>> (Int32.toUInt32 (4 : Int32) &&& Int32.toUInt32 31)))) &&& (252645135 : Int32)) >>> (Int32.toUInt32 (8 : Int32) &&& Int32.toUInt32 31)))) + (UInt32.toInt32 (Int32.toUInt32 ((((((x0 - ((UInt32.toInt32 (Int32.toUInt32 x0 >>> (Int32.toUInt32 (1 : Int32) &&& Int32.toUInt32 31))) &&& (1431655765 : Int32))) &&& (858993459 : Int32)) + ((UInt32.toInt32 (Int32.toUInt32 (x0 - ((UInt32.toInt32 (Int32.toUInt32 x0 >>> (Int32.toUInt32 (1 : Int32) &&& Int32.toUInt32 31))) &&& (1431655765 : Int32))) >>> (Int32.toUInt32 (2 : Int32) &&& Int32.toUInt32 31))) &&& (858993459 : Int32))) + (UInt32.toInt32 (Int32.toUInt32 (((x0 - ((UInt32.toInt32 (Int32.toUInt32 x0 >>> (Int32.toUInt32 (1 : Int32) &&& Int32.toUInt32 31))) &&& (1431655765 : Int32))) &&& (858993459 : Int32)) + ((UInt32.toInt32 (Int32.toUInt32 (x0 - ((UInt32.toInt32 (Int32.toUInt32 x0 >>> (Int32.toUInt32 (1 : Int32) &&& Int32.toUInt32 31))) &&& (1431655765 : Int32))) >>> (Int32.toUInt32 (2 : Int32) &&& Int32.toUInt32 31))) &&& (858993459 : Int32))) >>> (Int32.toUInt32 (4 : Int32) &&& Int32.toUInt32 31)))) &&& (252645135 : Int32)) + (UInt32.toInt32 (Int32.toUInt32 (((((x0 - ((UInt32.toInt32 (Int32.toUInt32 x0 >>> (Int32.toUInt32 (1 : Int32) &&& Int32.toUInt32 31))) &&& (1431655765 : Int32))) &&& (858993459 : Int32)) + ((UInt32.toInt32 (Int32.toUInt32 (x0 - ((UInt32.toInt32 (Int32.toUInt32 x0 >>> (Int32.toUInt32 (1 : Int32) &&& Int32.toUInt32 31))) &&& (1431655765 : Int32))) >>> (Int32.toUInt32 (2 : Int32) &&& Int32.toUInt32 31))) &&& (858993459 : Int32))) + (UInt32.toInt32 (Int32.toUInt32 (((x0 - ((UInt32.toInt32 (Int32.toUInt32 x0 >>> (Int32.toUInt32 (1 : Int32) &&& Int32.toUInt32 31))) &&& (1431655765 : Int32))) &&& (858993459 : Int32)) + ((UInt32.toInt32 (Int32.toUInt32 (x0 - ((UInt32.toInt32 (Int32.toUInt32 x0 >>> (Int32.toUInt32 (1 : Int32) &&& Int32.toUInt32 31))) &&& (1431655765 : Int32))) >>> (Int32.toUInt32 (2 : Int32) &&& Int32.toUInt32 31))) &&& (858993459 : Int32))) >>> (Int32.toUInt32 (4 : Int32) &&& Int32.toUInt32 31)))) &&& (252645135 : Int32)) >>> (Int32.toUInt32 (8 : Int32) &&& Int32.toUInt32 31)))) >>> (Int32.toUInt32 (16 : Int32) &&& Int32.toUInt32 31)))))]) C 37 rfl rfl (by decide) rfl ?_
  refine J_iload_n (pc := 48) C 38 rfl 0 rfl rfl ?_
  refine J_bipush (pc := 49) (v := (63 : Int32)) C 39 rfl rfl ?_
  refine J_iand (pc := 51) C 40 rfl  ?_
  cases h
  exact J_iret (pc := 52) C 41 rfl
def T_X4_sittingNumber : List (Nat × ClassFile.Instr × Nat) := [(0, .bipush 6, 2), (2, .iload_n 0, 1), (3, .imul, 1), (4, .iload_n 1, 1), (5, .iadd, 1), (6, .ireturn, 1)]
theorem D_X4_sittingNumber : ∀ q ∈ T_X4_sittingNumber, decode cX4_sittingNumber q.1 = .ok q.2 := by decide +kernel
theorem V_X4_sittingNumber : Vy yX4_sittingNumber cX4_sittingNumber 2 (some .int) 2 := ⟨k134, k56, by decide +kernel⟩
theorem t_X4_sittingNumber : Cond.static yX4_sittingNumber ∈ TB := k139
noncomputable def f_X4_sittingNumber  (x0 : Int32) (x1 : Int32) : Option (Int32) :=
  some (((6 : Int32) * x0) + x1)
set_option maxRecDepth 100000 in
set_option maxHeartbeats 4000000 in
theorem c_X4_sittingNumber {l : Launch} {G : JG}   (x0 : Int32) (x1 : Int32) {Rz : Int32} (h : f_X4_sittingNumber x0 x1 = some Rz) : JM l G yX4_sittingNumber cX4_sittingNumber 2 (some .int) 0 0 [.int x0, .int x1] ([] : va_W) ([] : va_W) (some (.int Rz)) := by
  refine JM.of (own := RX4) (tb := T_X4_sittingNumber) (by decide) (Nat.le_of_ble_eq_true rfl) D_X4_sittingNumber rfl (fun X C => ?_)
  refine J_sub (lv' := [(0, .int x0), (1, .int x1)]) [0, 1] rfl ?_
  unfold f_X4_sittingNumber at h
  refine J_bipush (pc := 0) (v := (6 : Int32)) C 0 rfl rfl ?_
  refine J_iload_n (pc := 2) C 1 rfl 0 rfl rfl ?_
  refine J_imul (pc := 3) C 2 rfl  ?_
  refine J_iload_n (pc := 4) C 3 rfl 1 rfl rfl ?_
  refine J_iadd (pc := 5) C 4 rfl  ?_
  cases h
  exact J_iret (pc := 6) C 5 rfl
def T_X4_isWithin : List (Nat × ClassFile.Instr × Nat) := [(0, .iload_n 0, 1), (1, .iload_n 1, 1), (2, .if_icmp .lt 12, 3), (5, .iload_n 0, 1), (6, .iload_n 2, 1), (7, .if_icmp .gt 7, 3), (10, .iconst 1, 1), (11, .goto 4, 3), (14, .iconst 0, 1), (15, .ireturn, 1)]
theorem D_X4_isWithin : ∀ q ∈ T_X4_isWithin, decode cX4_isWithin q.1 = .ok q.2 := by decide +kernel
theorem V_X4_isWithin : Vy yX4_isWithin cX4_isWithin 3 (some .boolean) 3 := ⟨k218, k56, by decide +kernel⟩
theorem t_X4_isWithin : Cond.static yX4_isWithin ∈ TB := k222
noncomputable def f_X4_isWithin  (x0 : Int32) (x1 : Int32) (x2 : Int32) : Option (Int32) :=
  (if x0 < x1 then some (0 : Int32) else (if x2 < x0 then some (0 : Int32) else some (1 : Int32)))
set_option maxRecDepth 100000 in
set_option maxHeartbeats 4000000 in
theorem c_X4_isWithin {l : Launch} {G : JG}   (x0 : Int32) (x1 : Int32) (x2 : Int32) {Rz : Int32} (h : f_X4_isWithin x0 x1 x2 = some Rz) : JM l G yX4_isWithin cX4_isWithin 3 (some .boolean) 0 0 [.int x0, .int x1, .int x2] ([] : va_W) ([] : va_W) (some (.int Rz)) := by
  refine JM.of (own := RX4) (tb := T_X4_isWithin) (by decide) (Nat.le_of_ble_eq_true rfl) D_X4_isWithin rfl (fun X C => ?_)
  refine J_sub (lv' := [(0, .int x0), (1, .int x1), (2, .int x2)]) [0, 1, 2] rfl ?_
  unfold f_X4_isWithin at h
  refine J_iload_n (pc := 0) C 0 rfl 0 rfl rfl ?_
  refine J_iload_n (pc := 1) C 1 rfl 1 rfl rfl ?_
  refine J_icmp_lt (pc := 2) (tgt := 14) C 2 rfl rfl (fun c1 => ?_) (fun c1 => ?_)
  · rw [if_pos c1] at h
    refine J_iconst (pc := 14) (v := (0 : Int32)) C 8 rfl rfl ?_
    cases h
    exact J_zret (pc := 15) C 9 rfl rfl
  · rw [if_neg c1] at h
    refine J_iload_n (pc := 5) C 3 rfl 0 rfl rfl ?_
    refine J_iload_n (pc := 6) C 4 rfl 2 rfl rfl ?_
    refine J_icmp_gt (pc := 7) (tgt := 14) C 5 rfl rfl (fun c2 => ?_) (fun c2 => ?_)
    · rw [if_pos c2] at h
      refine J_iconst (pc := 14) (v := (0 : Int32)) C 8 rfl rfl ?_
      cases h
      exact J_zret (pc := 15) C 9 rfl rfl
    · rw [if_neg c2] at h
      refine J_iconst (pc := 10) (v := (1 : Int32)) C 6 rfl rfl ?_
      refine J_goto (pc := 11) (tgt := 15) C 7 rfl rfl ?_
      cases h
      exact J_zret (pc := 15) C 9 rfl rfl
def T_X4_isPaper : List (Nat × ClassFile.Instr × Nat) := [(0, .iload_n 0, 1), (1, .iconst 0, 1), (2, .iconst 5, 1), (3, .invokestatic 55, 3), (6, .ireturn, 1)]
theorem D_X4_isPaper : ∀ q ∈ T_X4_isPaper, decode cX4_isPaper q.1 = .ok q.2 := by decide +kernel
theorem V_X4_isPaper : Vy yX4_isPaper cX4_isPaper 1 (some .boolean) 1 := ⟨k227, k56, by decide +kernel⟩
theorem t_X4_isPaper : Cond.static yX4_isPaper ∈ TB := k232
noncomputable def f_X4_isPaper  (x0 : Int32) : Option (Int32) :=
  (f_X4_isWithin x0 (0 : Int32) (5 : Int32)).bind (fun q1 => gd (isb q1) (some q1))
set_option maxRecDepth 100000 in
set_option maxHeartbeats 4000000 in
theorem c_X4_isPaper {l : Launch} {G : JG}   (x0 : Int32) {Rz : Int32} (h : f_X4_isPaper x0 = some Rz) : JM l G yX4_isPaper cX4_isPaper 1 (some .boolean) 1 22 [.int x0] ([] : va_W) ([] : va_W) (some (.int Rz)) := by
  refine JM.of (own := RX4) (tb := T_X4_isPaper) (by decide) (Nat.le_of_ble_eq_true rfl) D_X4_isPaper rfl (fun X C => ?_)
  refine J_sub (lv' := [(0, .int x0)]) [0] rfl ?_
  unfold f_X4_isPaper at h
  refine J_iload_n (pc := 0) C 0 rfl 0 rfl rfl ?_
  refine J_iconst (pc := 1) (v := (0 : Int32)) C 1 rfl rfl ?_
  refine J_iconst (pc := 2) (v := (5 : Int32)) C 2 rfl rfl ?_
  obtain ⟨q1, hq1, h⟩ := bnd h
  refine J_callS (pc := 3) (st2 := []) (st3 := [.int q1]) (ws2 := ([] : va_W)) C 3 rfl (c_X4_isWithin x0 (0 : Int32) (5 : Int32) hq1) V_X4_isWithin k221 t_X4_isWithin rfl rfl ⟨Nat.le_of_ble_eq_true rfl, Nat.le_of_ble_eq_true rfl⟩ (Nat.le_of_ble_eq_true rfl) ⟨Nat.le_refl _, Nat.le_refl _⟩ (isC := []) (isR := []) (N := 0) ⟨rfl, by decide +kernel, rfl, by decide +kernel, rfl, trivial⟩ rfl ?_
  obtain ⟨g2, h⟩ := gd_some h
  cases h
  exact J_zret (pc := 6) C 4 rfl g2
def T_X4_isStart : List (Nat × ClassFile.Instr × Nat) := [(0, .iload_n 0, 1), (1, .iconst 0, 1), (2, .bipush 19, 2), (4, .invokestatic 55, 3), (7, .ireturn, 1)]
theorem D_X4_isStart : ∀ q ∈ T_X4_isStart, decode cX4_isStart q.1 = .ok q.2 := by decide +kernel
theorem V_X4_isStart : Vy yX4_isStart cX4_isStart 1 (some .boolean) 1 := ⟨k228, k56, by decide +kernel⟩
theorem t_X4_isStart : Cond.static yX4_isStart ∈ TB := k234
noncomputable def f_X4_isStart  (x0 : Int32) : Option (Int32) :=
  (f_X4_isWithin x0 (0 : Int32) (19 : Int32)).bind (fun q1 => gd (isb q1) (some q1))
set_option maxRecDepth 100000 in
set_option maxHeartbeats 4000000 in
theorem c_X4_isStart {l : Launch} {G : JG}   (x0 : Int32) {Rz : Int32} (h : f_X4_isStart x0 = some Rz) : JM l G yX4_isStart cX4_isStart 1 (some .boolean) 1 22 [.int x0] ([] : va_W) ([] : va_W) (some (.int Rz)) := by
  refine JM.of (own := RX4) (tb := T_X4_isStart) (by decide) (Nat.le_of_ble_eq_true rfl) D_X4_isStart rfl (fun X C => ?_)
  refine J_sub (lv' := [(0, .int x0)]) [0] rfl ?_
  unfold f_X4_isStart at h
  refine J_iload_n (pc := 0) C 0 rfl 0 rfl rfl ?_
  refine J_iconst (pc := 1) (v := (0 : Int32)) C 1 rfl rfl ?_
  refine J_bipush (pc := 2) (v := (19 : Int32)) C 2 rfl rfl ?_
  obtain ⟨q1, hq1, h⟩ := bnd h
  refine J_callS (pc := 4) (st2 := []) (st3 := [.int q1]) (ws2 := ([] : va_W)) C 3 rfl (c_X4_isWithin x0 (0 : Int32) (19 : Int32) hq1) V_X4_isWithin k221 t_X4_isWithin rfl rfl ⟨Nat.le_of_ble_eq_true rfl, Nat.le_of_ble_eq_true rfl⟩ (Nat.le_of_ble_eq_true rfl) ⟨Nat.le_refl _, Nat.le_refl _⟩ (isC := []) (isR := []) (N := 0) ⟨rfl, by decide +kernel, rfl, by decide +kernel, rfl, trivial⟩ rfl ?_
  obtain ⟨g2, h⟩ := gd_some h
  cases h
  exact J_zret (pc := 7) C 4 rfl g2
def T_X4_isPupilData : List (Nat × ClassFile.Instr × Nat) := [(0, .iload_n 0, 1), (1, .iconst 1, 1), (2, .bipush 63, 2), (4, .invokestatic 55, 3), (7, .ifCond .eq 17, 3), (10, .iload_n 1, 1), (11, .iconst 0, 1), (12, .bipush 100, 2), (14, .invokestatic 55, 3), (17, .ifCond .eq 7, 3), (20, .iconst 1, 1), (21, .goto 4, 3), (24, .iconst 0, 1), (25, .ireturn, 1)]
theorem D_X4_isPupilData : ∀ q ∈ T_X4_isPupilData, decode cX4_isPupilData q.1 = .ok q.2 := by decide +kernel
theorem V_X4_isPupilData : Vy yX4_isPupilData cX4_isPupilData 2 (some .boolean) 2 := ⟨k236, k56, by decide +kernel⟩
theorem t_X4_isPupilData : Cond.static yX4_isPupilData ∈ TB := k239
noncomputable def f_X4_isPupilData  (x0 : Int32) (x1 : Int32) : Option (Int32) :=
  (f_X4_isWithin x0 (1 : Int32) (63 : Int32)).bind (fun q1 => (if q1 = 0 then some (0 : Int32) else (f_X4_isWithin x1 (0 : Int32) (100 : Int32)).bind (fun q3 => (if q3 = 0 then some (0 : Int32) else some (1 : Int32)))))
set_option maxRecDepth 100000 in
set_option maxHeartbeats 4000000 in
theorem c_X4_isPupilData {l : Launch} {G : JG}   (x0 : Int32) (x1 : Int32) {Rz : Int32} (h : f_X4_isPupilData x0 x1 = some Rz) : JM l G yX4_isPupilData cX4_isPupilData 2 (some .boolean) 1 22 [.int x0, .int x1] ([] : va_W) ([] : va_W) (some (.int Rz)) := by
  refine JM.of (own := RX4) (tb := T_X4_isPupilData) (by decide) (Nat.le_of_ble_eq_true rfl) D_X4_isPupilData rfl (fun X C => ?_)
  refine J_sub (lv' := [(0, .int x0), (1, .int x1)]) [0, 1] rfl ?_
  unfold f_X4_isPupilData at h
  refine J_iload_n (pc := 0) C 0 rfl 0 rfl rfl ?_
  refine J_iconst (pc := 1) (v := (1 : Int32)) C 1 rfl rfl ?_
  refine J_bipush (pc := 2) (v := (63 : Int32)) C 2 rfl rfl ?_
  obtain ⟨q1, hq1, h⟩ := bnd h
  refine J_callS (pc := 4) (st2 := []) (st3 := [.int q1]) (ws2 := ([] : va_W)) C 3 rfl (c_X4_isWithin x0 (1 : Int32) (63 : Int32) hq1) V_X4_isWithin k221 t_X4_isWithin rfl rfl ⟨Nat.le_of_ble_eq_true rfl, Nat.le_of_ble_eq_true rfl⟩ (Nat.le_of_ble_eq_true rfl) ⟨Nat.le_refl _, Nat.le_refl _⟩ (isC := []) (isR := []) (N := 0) ⟨rfl, by decide +kernel, rfl, by decide +kernel, rfl, trivial⟩ rfl ?_
  refine J_if_eq (pc := 7) (tgt := 24) C 4 rfl rfl (fun c2 => ?_) (fun c2 => ?_)
  · rw [if_pos c2] at h
    refine J_iconst (pc := 24) (v := (0 : Int32)) C 12 rfl rfl ?_
    cases h
    exact J_zret (pc := 25) C 13 rfl rfl
  · rw [if_neg c2] at h
    refine J_iload_n (pc := 10) C 5 rfl 1 rfl rfl ?_
    refine J_iconst (pc := 11) (v := (0 : Int32)) C 6 rfl rfl ?_
    refine J_bipush (pc := 12) (v := (100 : Int32)) C 7 rfl rfl ?_
    obtain ⟨q3, hq3, h⟩ := bnd h
    refine J_callS (pc := 14) (st2 := []) (st3 := [.int q3]) (ws2 := ([] : va_W)) C 8 rfl (c_X4_isWithin x1 (0 : Int32) (100 : Int32) hq3) V_X4_isWithin k221 t_X4_isWithin rfl rfl ⟨Nat.le_of_ble_eq_true rfl, Nat.le_of_ble_eq_true rfl⟩ (Nat.le_of_ble_eq_true rfl) ⟨Nat.le_refl _, Nat.le_refl _⟩ (isC := []) (isR := []) (N := 0) ⟨rfl, by decide +kernel, rfl, by decide +kernel, rfl, trivial⟩ rfl ?_
    refine J_if_eq (pc := 17) (tgt := 24) C 9 rfl rfl (fun c4 => ?_) (fun c4 => ?_)
    · rw [if_pos c4] at h
      refine J_iconst (pc := 24) (v := (0 : Int32)) C 12 rfl rfl ?_
      cases h
      exact J_zret (pc := 25) C 13 rfl rfl
    · rw [if_neg c4] at h
      refine J_iconst (pc := 20) (v := (1 : Int32)) C 10 rfl rfl ?_
      refine J_goto (pc := 21) (tgt := 25) C 11 rfl rfl ?_
      cases h
      exact J_zret (pc := 25) C 13 rfl rfl
def T_X4_isHall : List (Nat × ClassFile.Instr × Nat) := [(0, .iload_n 0, 1), (1, .iconst 0, 1), (2, .iconst 3, 1), (3, .invokestatic 55, 3), (6, .ireturn, 1)]
theorem D_X4_isHall : ∀ q ∈ T_X4_isHall, decode cX4_isHall q.1 = .ok q.2 := by decide +kernel
theorem V_X4_isHall : Vy yX4_isHall cX4_isHall 1 (some .boolean) 1 := ⟨k256, k56, by decide +kernel⟩
theorem t_X4_isHall : Cond.static yX4_isHall ∈ TB := k260
noncomputable def f_X4_isHall  (x0 : Int32) : Option (Int32) :=
  (f_X4_isWithin x0 (0 : Int32) (3 : Int32)).bind (fun q1 => gd (isb q1) (some q1))
set_option maxRecDepth 100000 in
set_option maxHeartbeats 4000000 in
theorem c_X4_isHall {l : Launch} {G : JG}   (x0 : Int32) {Rz : Int32} (h : f_X4_isHall x0 = some Rz) : JM l G yX4_isHall cX4_isHall 1 (some .boolean) 1 22 [.int x0] ([] : va_W) ([] : va_W) (some (.int Rz)) := by
  refine JM.of (own := RX4) (tb := T_X4_isHall) (by decide) (Nat.le_of_ble_eq_true rfl) D_X4_isHall rfl (fun X C => ?_)
  refine J_sub (lv' := [(0, .int x0)]) [0] rfl ?_
  unfold f_X4_isHall at h
  refine J_iload_n (pc := 0) C 0 rfl 0 rfl rfl ?_
  refine J_iconst (pc := 1) (v := (0 : Int32)) C 1 rfl rfl ?_
  refine J_iconst (pc := 2) (v := (3 : Int32)) C 2 rfl rfl ?_
  obtain ⟨q1, hq1, h⟩ := bnd h
  refine J_callS (pc := 3) (st2 := []) (st3 := [.int q1]) (ws2 := ([] : va_W)) C 3 rfl (c_X4_isWithin x0 (0 : Int32) (3 : Int32) hq1) V_X4_isWithin k221 t_X4_isWithin rfl rfl ⟨Nat.le_of_ble_eq_true rfl, Nat.le_of_ble_eq_true rfl⟩ (Nat.le_of_ble_eq_true rfl) ⟨Nat.le_refl _, Nat.le_refl _⟩ (isC := []) (isR := []) (N := 0) ⟨rfl, by decide +kernel, rfl, by decide +kernel, rfl, trivial⟩ rfl ?_
  obtain ⟨g2, h⟩ := gd_some h
  cases h
  exact J_zret (pc := 6) C 4 rfl g2
def T_X4_isSlot : List (Nat × ClassFile.Instr × Nat) := [(0, .iload_n 0, 1), (1, .iconst 0, 1), (2, .iconst 1, 1), (3, .invokestatic 55, 3), (6, .ireturn, 1)]
theorem D_X4_isSlot : ∀ q ∈ T_X4_isSlot, decode cX4_isSlot q.1 = .ok q.2 := by decide +kernel
theorem V_X4_isSlot : Vy yX4_isSlot cX4_isSlot 1 (some .boolean) 1 := ⟨k335, k56, by decide +kernel⟩
theorem t_X4_isSlot : Cond.static yX4_isSlot ∈ TB := k337
noncomputable def f_X4_isSlot  (x0 : Int32) : Option (Int32) :=
  (f_X4_isWithin x0 (0 : Int32) (1 : Int32)).bind (fun q1 => gd (isb q1) (some q1))
set_option maxRecDepth 100000 in
set_option maxHeartbeats 4000000 in
theorem c_X4_isSlot {l : Launch} {G : JG}   (x0 : Int32) {Rz : Int32} (h : f_X4_isSlot x0 = some Rz) : JM l G yX4_isSlot cX4_isSlot 1 (some .boolean) 1 22 [.int x0] ([] : va_W) ([] : va_W) (some (.int Rz)) := by
  refine JM.of (own := RX4) (tb := T_X4_isSlot) (by decide) (Nat.le_of_ble_eq_true rfl) D_X4_isSlot rfl (fun X C => ?_)
  refine J_sub (lv' := [(0, .int x0)]) [0] rfl ?_
  unfold f_X4_isSlot at h
  refine J_iload_n (pc := 0) C 0 rfl 0 rfl rfl ?_
  refine J_iconst (pc := 1) (v := (0 : Int32)) C 1 rfl rfl ?_
  refine J_iconst (pc := 2) (v := (1 : Int32)) C 2 rfl rfl ?_
  obtain ⟨q1, hq1, h⟩ := bnd h
  refine J_callS (pc := 3) (st2 := []) (st3 := [.int q1]) (ws2 := ([] : va_W)) C 3 rfl (c_X4_isWithin x0 (0 : Int32) (1 : Int32) hq1) V_X4_isWithin k221 t_X4_isWithin rfl rfl ⟨Nat.le_of_ble_eq_true rfl, Nat.le_of_ble_eq_true rfl⟩ (Nat.le_of_ble_eq_true rfl) ⟨Nat.le_refl _, Nat.le_refl _⟩ (isC := []) (isR := []) (N := 0) ⟨rfl, by decide +kernel, rfl, by decide +kernel, rfl, trivial⟩ rfl ?_
  obtain ⟨g2, h⟩ := gd_some h
  cases h
  exact J_zret (pc := 6) C 4 rfl g2
end
section
def T_X2_copyFrom : List (Nat × ClassFile.Instr × Nat) := [(0, .iconst 0, 1), (1, .istore_n 2, 1), (2, .iload_n 2, 1), (3, .iconst 3, 1), (4, .if_icmp .ge 21, 3), (7, .aload_n 0, 1), (8, .getfield 9, 3), (11, .iload_n 2, 1), (12, .aload_n 1, 1), (13, .getfield 9, 3), (16, .iload_n 2, 1), (17, .iaload, 1), (18, .iastore, 1), (19, .iinc 2 1, 3), (22, .goto (-20), 3), (25, .iconst 0, 1), (26, .istore_n 2, 1), (27, .iload_n 2, 1), (28, .bipush 6, 2), (30, .if_icmp .ge 33, 3), (33, .aload_n 0, 1), (34, .getfield 15, 3), (37, .iload_n 2, 1), (38, .aload_n 1, 1), (39, .getfield 15, 3), (42, .iload_n 2, 1), (43, .iaload, 1), (44, .iastore, 1), (45, .aload_n 0, 1), (46, .getfield 18, 3), (49, .iload_n 2, 1), (50, .aload_n 1, 1), (51, .getfield 18, 3), (54, .iload_n 2, 1), (55, .iaload, 1), (56, .iastore, 1), (57, .iinc 2 1, 3), (60, .goto (-33), 3), (63, .iconst 0, 1), (64, .istore_n 2, 1), (65, .iload_n 2, 1), (66, .bipush 16, 2), (68, .if_icmp .ge 45, 3), (71, .aload_n 0, 1), (72, .getfield 21, 3), (75, .iload_n 2, 1), (76, .aload_n 1, 1), (77, .getfield 21, 3), (80, .iload_n 2, 1), (81, .iaload, 1), (82, .iastore, 1), (83, .aload_n 0, 1), (84, .getfield 24, 3), (87, .iload_n 2, 1), (88, .aload_n 1, 1), (89, .getfield 24, 3), (92, .iload_n 2, 1), (93, .iaload, 1), (94, .iastore, 1), (95, .aload_n 0, 1), (96, .getfield 27, 3), (99, .iload_n 2, 1), (100, .aload_n 1, 1), (101, .getfield 27, 3), (104, .iload_n 2, 1), (105, .baload, 1), (106, .bastore, 1), (107, .iinc 2 1, 3), (110, .goto (-45), 3), (113, .iconst 0, 1), (114, .istore_n 2, 1), (115, .iload_n 2, 1), (116, .iconst 4, 1), (117, .if_icmp .ge 33, 3), (120, .aload_n 0, 1), (121, .getfield 31, 3), (124, .iload_n 2, 1), (125, .aload_n 1, 1), (126, .getfield 31, 3), (129, .iload_n 2, 1), (130, .iaload, 1), (131, .iastore, 1), (132, .aload_n 0, 1), (133, .getfield 34, 3), (136, .iload_n 2, 1), (137, .aload_n 1, 1), (138, .getfield 34, 3), (141, .iload_n 2, 1), (142, .iaload, 1), (143, .iastore, 1), (144, .iinc 2 1, 3), (147, .goto (-32), 3), (150, .aload_n 0, 1), (151, .aload_n 1, 1), (152, .getfield 37, 3), (155, .putfield 37, 3), (158, .aload_n 0, 1), (159, .aload_n 1, 1), (160, .getfield 41, 3), (163, .putfield 41, 3), (166, .return_, 1)]
theorem D_X2_copyFrom : ∀ q ∈ T_X2_copyFrom, decode cX2_copyFrom q.1 = .ok q.2 := by decide +kernel
theorem V_X2_copyFrom : Vy yX2_copyFrom cX2_copyFrom 3 none 1 := ⟨k25, k22, by decide +kernel⟩
theorem i_X2_copyFrom : Cond.instanceMethod yX2_copyFrom ∈ TB := k32
theorem s_X2_copyFrom : Cond.selects yX2_copyFrom.cls yX2_copyFrom yX2_copyFrom ∈ TB := k33
noncomputable def f_X2_copyFrom_b115 (vO : JV) (r115 : JV → Int32 → Option (JV)) (vS_115 : JV) (x2_115 : Int32) : Option (JV) :=
  (if (4 : Int32) ≤ x2_115 then some (up2 (up2 vS_115 8 0 (vO 8 0)) 9 0 (vO 9 0)) else gd (inb x2_115 4) (gd (inb x2_115 4) (gd (inb x2_115 4) (gd (inb x2_115 4) (r115 (up2 (up2 vS_115 6 (Int32.toNatClampNeg x2_115) ((vO 6) (Int32.toNatClampNeg x2_115))) 7 (Int32.toNatClampNeg x2_115) ((vO 7) (Int32.toNatClampNeg x2_115))) (x2_115 + (1 : Int32)))))))
noncomputable def f_X2_copyFrom_L115 (vO : JV) (n : Nat) (vS_115 : JV) (x2_115 : Int32) : Option (JV) :=
  lp (fun (rec : JV × Int32 → Option (JV)) a => f_X2_copyFrom_b115 vO (fun vS_115 x2_115 => rec (vS_115, x2_115)) a.1 a.2) n (vS_115, x2_115)
noncomputable def f_X2_copyFrom_b65 (vO : JV) (r65 : JV → Int32 → Option (JV)) (vS_65 : JV) (x2_65 : Int32) : Option (JV) :=
  (if (16 : Int32) ≤ x2_65 then f_X2_copyFrom_L115 vO  FU vS_65 (0 : Int32) else gd (inb x2_65 16) (gd (inb x2_65 16) (gd (inb x2_65 16) (gd (inb x2_65 16) (gd (inb x2_65 16) (gd (inb x2_65 16) (gd (isb ((vO 5) (Int32.toNatClampNeg x2_65))) (r65 (up2 (up2 (up2 vS_65 3 (Int32.toNatClampNeg x2_65) ((vO 3) (Int32.toNatClampNeg x2_65))) 4 (Int32.toNatClampNeg x2_65) ((vO 4) (Int32.toNatClampNeg x2_65))) 5 (Int32.toNatClampNeg x2_65) ((vO 5) (Int32.toNatClampNeg x2_65))) (x2_65 + (1 : Int32))))))))))
noncomputable def f_X2_copyFrom_L65 (vO : JV) (n : Nat) (vS_65 : JV) (x2_65 : Int32) : Option (JV) :=
  lp (fun (rec : JV × Int32 → Option (JV)) a => f_X2_copyFrom_b65 vO (fun vS_65 x2_65 => rec (vS_65, x2_65)) a.1 a.2) n (vS_65, x2_65)
noncomputable def f_X2_copyFrom_b27 (vO : JV) (r27 : JV → Int32 → Option (JV)) (vS_27 : JV) (x2_27 : Int32) : Option (JV) :=
  (if (6 : Int32) ≤ x2_27 then f_X2_copyFrom_L65 vO  FU vS_27 (0 : Int32) else gd (inb x2_27 6) (gd (inb x2_27 6) (gd (inb x2_27 6) (gd (inb x2_27 6) (r27 (up2 (up2 vS_27 1 (Int32.toNatClampNeg x2_27) ((vO 1) (Int32.toNatClampNeg x2_27))) 2 (Int32.toNatClampNeg x2_27) ((vO 2) (Int32.toNatClampNeg x2_27))) (x2_27 + (1 : Int32)))))))
noncomputable def f_X2_copyFrom_L27 (vO : JV) (n : Nat) (vS_27 : JV) (x2_27 : Int32) : Option (JV) :=
  lp (fun (rec : JV × Int32 → Option (JV)) a => f_X2_copyFrom_b27 vO (fun vS_27 x2_27 => rec (vS_27, x2_27)) a.1 a.2) n (vS_27, x2_27)
noncomputable def f_X2_copyFrom_b2 (vO : JV) (r2 : JV → Int32 → Option (JV)) (vS_2 : JV) (x2_2 : Int32) : Option (JV) :=
  (if (3 : Int32) ≤ x2_2 then f_X2_copyFrom_L27 vO  FU vS_2 (0 : Int32) else gd (inb x2_2 3) (gd (inb x2_2 3) (r2 (up2 vS_2 0 (Int32.toNatClampNeg x2_2) ((vO 0) (Int32.toNatClampNeg x2_2))) (x2_2 + (1 : Int32)))))
noncomputable def f_X2_copyFrom_L2 (vO : JV) (n : Nat) (vS_2 : JV) (x2_2 : Int32) : Option (JV) :=
  lp (fun (rec : JV × Int32 → Option (JV)) a => f_X2_copyFrom_b2 vO (fun vS_2 x2_2 => rec (vS_2, x2_2)) a.1 a.2) n (vS_2, x2_2)
noncomputable def f_X2_copyFrom (vS : JV) (vO : JV)  : Option (JV) :=
  f_X2_copyFrom_L2 vO  FU vS (0 : Int32)
set_option maxRecDepth 100000 in
set_option maxHeartbeats 4000000 in
theorem c_X2_copyFrom {l : Launch} {G : JG} (aS : Nat → Nat) (aO : Nat → Nat) (vS : JV) (vO : JV)  {Rz : JV} (h : f_X2_copyFrom vS vO = some Rz) : JM l G yX2_copyFrom cX2_copyFrom 3 none 0 0 [.ref (aS 0), .ref (aO 0)] (wSch G aS (vS 0) (vS 1) (vS 2) (vS 3) (vS 4) (vS 5) (vS 6) (vS 7) (vS 8 0) (vS 9 0) ++ (wSch G aO (vO 0) (vO 1) (vO 2) (vO 3) (vO 4) (vO 5) (vO 6) (vO 7) (vO 8 0) (vO 9 0))) (wSch G aS (Rz 0) (Rz 1) (Rz 2) (Rz 3) (Rz 4) (Rz 5) (Rz 6) (Rz 7) (Rz 8 0) (Rz 9 0) ++ (wSch G aO (vO 0) (vO 1) (vO 2) (vO 3) (vO 4) (vO 5) (vO 6) (vO 7) (vO 8 0) (vO 9 0))) none := by
  refine JM.of (own := RX2) (tb := T_X2_copyFrom) (by decide) (Nat.le_of_ble_eq_true rfl) D_X2_copyFrom rfl (fun X C => ?_)
  refine J_sub (lv' := [(0, .ref (aS 0)), (1, .ref (aO 0))]) [0, 1] rfl ?_
  have B115 : ∀ (n115 : Nat) (vS_115 : JV) (x2_115 : Int32), f_X2_copyFrom_L115 vO n115 vS_115 x2_115 = some Rz → J l { frames := 0, cells := 0, slots := 0, locals := 0 } G 3 X (QM X G 0 0 none (wSch G aS (Rz 0) (Rz 1) (Rz 2) (Rz 3) (Rz 4) (Rz 5) (Rz 6) (Rz 7) (Rz 8 0) (Rz 9 0) ++ (wSch G aO (vO 0) (vO 1) (vO 2) (vO 3) (vO 4) (vO 5) (vO 6) (vO 7) (vO 8 0) (vO 9 0)))) 0 0 115 [(0, .ref (aS 0)), (1, .ref (aO 0)), (2, .int x2_115)] [] (wSch G aS (vS_115 0) (vS_115 1) (vS_115 2) (vS_115 3) (vS_115 4) (vS_115 5) (vS_115 6) (vS_115 7) (vS_115 8 0) (vS_115 9 0) ++ (wSch G aO (vO 0) (vO 1) (vO 2) (vO 3) (vO 4) (vO 5) (vO 6) (vO 7) (vO 8 0) (vO 9 0))) := by
    intro  n115
    induction n115 with
    | zero =>
      intro vS_115 x2_115 h
      exact (no_none rfl h).elim
    | succ n115 ih115 =>
      intro vS_115 x2_115 h
      replace h : f_X2_copyFrom_b115 vO (fun vS_115 x2_115 => f_X2_copyFrom_L115 vO n115 vS_115 x2_115) vS_115 x2_115 = some Rz := h
      unfold f_X2_copyFrom_b115 at h
      refine J_iload_n (pc := 115) C 71 rfl 2 rfl rfl ?_
      refine J_iconst (pc := 116) (v := (4 : Int32)) C 72 rfl rfl ?_
      refine J_icmp_ge (pc := 117) (tgt := 150) C 73 rfl rfl (fun c4 => ?_) (fun c4 => ?_)
      · rw [if_pos c4] at h
        refine J_aload_n (pc := 150) C 92 rfl 0 rfl rfl ?_
        refine J_aload_n (pc := 151) C 93 rfl 1 rfl rfl ?_
        refine J_get (pc := 152) (v := .int (vO 8 0)) C 94 rfl TB_l2 rfl 9 8 rfl (by decide) k14 rfl rfl ?_
        refine J_puti (pc := 155) C 95 (fun vv => (wSch G aS (vS_115 0) (vS_115 1) (vS_115 2) (vS_115 3) (vS_115 4) (vS_115 5) (vS_115 6) (vS_115 7) vv (vS_115 9 0) ++ (wSch G aO (vO 0) (vO 1) (vO 2) (vO 3) (vO 4) (vO 5) (vO 6) (vO 7) (vO 8 0) (vO 9 0)))) rfl TB_l2 tyX2 tyX2_ok nmX2 rfl 0 8 rfl (by decide) k14 rfl rfl rfl (Nat.le_of_ble_eq_true rfl) (fun _ => rfl) ?_
        refine J_aload_n (pc := 158) C 96 rfl 0 rfl rfl ?_
        refine J_aload_n (pc := 159) C 97 rfl 1 rfl rfl ?_
        refine J_get (pc := 160) (v := .int (vO 9 0)) C 98 rfl TB_l2 rfl 9 9 rfl (by decide) k15 rfl rfl ?_
        refine J_puti (pc := 163) C 99 (fun vv => (wSch G aS (vS_115 0) (vS_115 1) (vS_115 2) (vS_115 3) (vS_115 4) (vS_115 5) (vS_115 6) (vS_115 7) (vO 8 0) vv ++ (wSch G aO (vO 0) (vO 1) (vO 2) (vO 3) (vO 4) (vO 5) (vO 6) (vO 7) (vO 8 0) (vO 9 0)))) rfl TB_l2 tyX2 tyX2_ok nmX2 rfl 0 9 rfl (by decide) k15 rfl rfl rfl (Nat.le_of_ble_eq_true rfl) (fun _ => rfl) ?_
        cases h
        exact J_vret (pc := 166) C 100 rfl
      · rw [if_neg c4] at h
        refine J_aload_n (pc := 120) C 74 rfl 0 rfl rfl ?_
        refine J_get (pc := 121) (v := .ref (aS 7)) C 75 rfl TB_l2 rfl 0 6 rfl (by decide) k12 rfl rfl ?_
        refine J_iload_n (pc := 124) C 76 rfl 2 rfl rfl ?_
        refine J_aload_n (pc := 125) C 77 rfl 1 rfl rfl ?_
        refine J_get (pc := 126) (v := .ref (aO 7)) C 78 rfl TB_l2 rfl 9 6 rfl (by decide) k12 rfl rfl ?_
        refine J_iload_n (pc := 129) C 79 rfl 2 rfl rfl ?_
        obtain ⟨g5, h⟩ := gd_some h
        refine J_iald (pc := 130) (f := (vO 6)) (v := ((vO 6) (Int32.toNatClampNeg x2_115))) C 80 rfl 16 rfl g5 rfl ?_
        obtain ⟨g6, h⟩ := gd_some h
        refine J_iast (pc := 131) (f := (vS_115 6)) (m := (Int32.toNatClampNeg x2_115)) C 81 (fun mm vv => (wSch G aS (vS_115 0) (vS_115 1) (vS_115 2) (vS_115 3) (vS_115 4) (vS_115 5) (upd (vS_115 6) mm vv) (vS_115 7) (vS_115 8 0) (vS_115 9 0) ++ (wSch G aO (vO 0) (vO 1) (vO 2) (vO 3) (vO 4) (vO 5) (vO 6) (vO 7) (vO 8 0) (vO 9 0)))) rfl 7 rfl g6 rfl (fun _ _ => rfl) ?_
        refine J_aload_n (pc := 132) C 82 rfl 0 rfl rfl ?_
        refine J_get (pc := 133) (v := .ref (aS 8)) C 83 rfl TB_l2 rfl 0 7 rfl (by decide) k13 rfl rfl ?_
        refine J_iload_n (pc := 136) C 84 rfl 2 rfl rfl ?_
        refine J_aload_n (pc := 137) C 85 rfl 1 rfl rfl ?_
        refine J_get (pc := 138) (v := .ref (aO 8)) C 86 rfl TB_l2 rfl 9 7 rfl (by decide) k13 rfl rfl ?_
        refine J_iload_n (pc := 141) C 87 rfl 2 rfl rfl ?_
        obtain ⟨g7, h⟩ := gd_some h
        refine J_iald (pc := 142) (f := (vO 7)) (v := ((vO 7) (Int32.toNatClampNeg x2_115))) C 88 rfl 17 rfl g7 rfl ?_
        obtain ⟨g8, h⟩ := gd_some h
        refine J_iast (pc := 143) (f := (vS_115 7)) (m := (Int32.toNatClampNeg x2_115)) C 89 (fun mm vv => (wSch G aS (vS_115 0) (vS_115 1) (vS_115 2) (vS_115 3) (vS_115 4) (vS_115 5) (upd (vS_115 6) (Int32.toNatClampNeg x2_115) ((vO 6) (Int32.toNatClampNeg x2_115))) (upd (vS_115 7) mm vv) (vS_115 8 0) (vS_115 9 0) ++ (wSch G aO (vO 0) (vO 1) (vO 2) (vO 3) (vO 4) (vO 5) (vO 6) (vO 7) (vO 8 0) (vO 9 0)))) rfl 8 rfl g8 rfl (fun _ _ => rfl) ?_
        refine J_iinc (pc := 144) (v := (x2_115 + (1 : Int32))) (lv' := [(2, .int (x2_115 + (1 : Int32))), (0, .ref (aS 0)), (1, .ref (aO 0))]) C 90 rfl 2 rfl rfl (by decide) rfl ?_
        refine J_goto (pc := 147) (tgt := 115) C 91 rfl rfl ?_
        exact J_sub [1, 2, 0] rfl (ih115 (up2 (up2 vS_115 6 (Int32.toNatClampNeg x2_115) ((vO 6) (Int32.toNatClampNeg x2_115))) 7 (Int32.toNatClampNeg x2_115) ((vO 7) (Int32.toNatClampNeg x2_115))) (x2_115 + (1 : Int32)) h)
  have B65 : ∀ (n65 : Nat) (vS_65 : JV) (x2_65 : Int32), f_X2_copyFrom_L65 vO n65 vS_65 x2_65 = some Rz → J l { frames := 0, cells := 0, slots := 0, locals := 0 } G 3 X (QM X G 0 0 none (wSch G aS (Rz 0) (Rz 1) (Rz 2) (Rz 3) (Rz 4) (Rz 5) (Rz 6) (Rz 7) (Rz 8 0) (Rz 9 0) ++ (wSch G aO (vO 0) (vO 1) (vO 2) (vO 3) (vO 4) (vO 5) (vO 6) (vO 7) (vO 8 0) (vO 9 0)))) 0 0 65 [(0, .ref (aS 0)), (1, .ref (aO 0)), (2, .int x2_65)] [] (wSch G aS (vS_65 0) (vS_65 1) (vS_65 2) (vS_65 3) (vS_65 4) (vS_65 5) (vS_65 6) (vS_65 7) (vS_65 8 0) (vS_65 9 0) ++ (wSch G aO (vO 0) (vO 1) (vO 2) (vO 3) (vO 4) (vO 5) (vO 6) (vO 7) (vO 8 0) (vO 9 0))) := by
    intro  n65
    induction n65 with
    | zero =>
      intro vS_65 x2_65 h
      exact (no_none rfl h).elim
    | succ n65 ih65 =>
      intro vS_65 x2_65 h
      replace h : f_X2_copyFrom_b65 vO (fun vS_65 x2_65 => f_X2_copyFrom_L65 vO n65 vS_65 x2_65) vS_65 x2_65 = some Rz := h
      unfold f_X2_copyFrom_b65 at h
      refine J_iload_n (pc := 65) C 40 rfl 2 rfl rfl ?_
      refine J_bipush (pc := 66) (v := (16 : Int32)) C 41 rfl rfl ?_
      refine J_icmp_ge (pc := 68) (tgt := 113) C 42 rfl rfl (fun c3 => ?_) (fun c3 => ?_)
      · rw [if_pos c3] at h
        refine J_iconst (pc := 113) (v := (0 : Int32)) C 69 rfl rfl ?_
        refine J_istore_n (pc := 114) (lv' := [(2, .int (0 : Int32)), (0, .ref (aS 0)), (1, .ref (aO 0))]) C 70 rfl rfl (by decide) rfl ?_
        exact J_sub [1, 2, 0] rfl (B115  FU vS_65 (0 : Int32) h)
      · rw [if_neg c3] at h
        refine J_aload_n (pc := 71) C 43 rfl 0 rfl rfl ?_
        refine J_get (pc := 72) (v := .ref (aS 4)) C 44 rfl TB_l2 rfl 0 3 rfl (by decide) k8 rfl rfl ?_
        refine J_iload_n (pc := 75) C 45 rfl 2 rfl rfl ?_
        refine J_aload_n (pc := 76) C 46 rfl 1 rfl rfl ?_
        refine J_get (pc := 77) (v := .ref (aO 4)) C 47 rfl TB_l2 rfl 9 3 rfl (by decide) k8 rfl rfl ?_
        refine J_iload_n (pc := 80) C 48 rfl 2 rfl rfl ?_
        obtain ⟨g9, h⟩ := gd_some h
        refine J_iald (pc := 81) (f := (vO 3)) (v := ((vO 3) (Int32.toNatClampNeg x2_65))) C 49 rfl 13 rfl g9 rfl ?_
        obtain ⟨g10, h⟩ := gd_some h
        refine J_iast (pc := 82) (f := (vS_65 3)) (m := (Int32.toNatClampNeg x2_65)) C 50 (fun mm vv => (wSch G aS (vS_65 0) (vS_65 1) (vS_65 2) (upd (vS_65 3) mm vv) (vS_65 4) (vS_65 5) (vS_65 6) (vS_65 7) (vS_65 8 0) (vS_65 9 0) ++ (wSch G aO (vO 0) (vO 1) (vO 2) (vO 3) (vO 4) (vO 5) (vO 6) (vO 7) (vO 8 0) (vO 9 0)))) rfl 4 rfl g10 rfl (fun _ _ => rfl) ?_
        refine J_aload_n (pc := 83) C 51 rfl 0 rfl rfl ?_
        refine J_get (pc := 84) (v := .ref (aS 5)) C 52 rfl TB_l2 rfl 0 4 rfl (by decide) k9 rfl rfl ?_
        refine J_iload_n (pc := 87) C 53 rfl 2 rfl rfl ?_
        refine J_aload_n (pc := 88) C 54 rfl 1 rfl rfl ?_
        refine J_get (pc := 89) (v := .ref (aO 5)) C 55 rfl TB_l2 rfl 9 4 rfl (by decide) k9 rfl rfl ?_
        refine J_iload_n (pc := 92) C 56 rfl 2 rfl rfl ?_
        obtain ⟨g11, h⟩ := gd_some h
        refine J_iald (pc := 93) (f := (vO 4)) (v := ((vO 4) (Int32.toNatClampNeg x2_65))) C 57 rfl 14 rfl g11 rfl ?_
        obtain ⟨g12, h⟩ := gd_some h
        refine J_iast (pc := 94) (f := (vS_65 4)) (m := (Int32.toNatClampNeg x2_65)) C 58 (fun mm vv => (wSch G aS (vS_65 0) (vS_65 1) (vS_65 2) (upd (vS_65 3) (Int32.toNatClampNeg x2_65) ((vO 3) (Int32.toNatClampNeg x2_65))) (upd (vS_65 4) mm vv) (vS_65 5) (vS_65 6) (vS_65 7) (vS_65 8 0) (vS_65 9 0) ++ (wSch G aO (vO 0) (vO 1) (vO 2) (vO 3) (vO 4) (vO 5) (vO 6) (vO 7) (vO 8 0) (vO 9 0)))) rfl 5 rfl g12 rfl (fun _ _ => rfl) ?_
        refine J_aload_n (pc := 95) C 59 rfl 0 rfl rfl ?_
        refine J_get (pc := 96) (v := .ref (aS 6)) C 60 rfl TB_l2 rfl 0 5 rfl (by decide) k11 rfl rfl ?_
        refine J_iload_n (pc := 99) C 61 rfl 2 rfl rfl ?_
        refine J_aload_n (pc := 100) C 62 rfl 1 rfl rfl ?_
        refine J_get (pc := 101) (v := .ref (aO 6)) C 63 rfl TB_l2 rfl 9 5 rfl (by decide) k11 rfl rfl ?_
        refine J_iload_n (pc := 104) C 64 rfl 2 rfl rfl ?_
        obtain ⟨g13, h⟩ := gd_some h
        refine J_zald (pc := 105) (f := (vO 5)) (v := ((vO 5) (Int32.toNatClampNeg x2_65))) C 65 rfl 15 rfl g13 rfl ?_
        obtain ⟨g14, h⟩ := gd_some h
        obtain ⟨g15, h⟩ := gd_some h
        refine J_zast (pc := 106) (f := (vS_65 5)) (m := (Int32.toNatClampNeg x2_65)) C 66 (fun mm vv => (wSch G aS (vS_65 0) (vS_65 1) (vS_65 2) (upd (vS_65 3) (Int32.toNatClampNeg x2_65) ((vO 3) (Int32.toNatClampNeg x2_65))) (upd (vS_65 4) (Int32.toNatClampNeg x2_65) ((vO 4) (Int32.toNatClampNeg x2_65))) (upd (vS_65 5) mm vv) (vS_65 6) (vS_65 7) (vS_65 8 0) (vS_65 9 0) ++ (wSch G aO (vO 0) (vO 1) (vO 2) (vO 3) (vO 4) (vO 5) (vO 6) (vO 7) (vO 8 0) (vO 9 0)))) rfl 6 rfl g14 g15 rfl (fun _ _ => rfl) ?_
        refine J_iinc (pc := 107) (v := (x2_65 + (1 : Int32))) (lv' := [(2, .int (x2_65 + (1 : Int32))), (0, .ref (aS 0)), (1, .ref (aO 0))]) C 67 rfl 2 rfl rfl (by decide) rfl ?_
        refine J_goto (pc := 110) (tgt := 65) C 68 rfl rfl ?_
        exact J_sub [1, 2, 0] rfl (ih65 (up2 (up2 (up2 vS_65 3 (Int32.toNatClampNeg x2_65) ((vO 3) (Int32.toNatClampNeg x2_65))) 4 (Int32.toNatClampNeg x2_65) ((vO 4) (Int32.toNatClampNeg x2_65))) 5 (Int32.toNatClampNeg x2_65) ((vO 5) (Int32.toNatClampNeg x2_65))) (x2_65 + (1 : Int32)) h)
  have B27 : ∀ (n27 : Nat) (vS_27 : JV) (x2_27 : Int32), f_X2_copyFrom_L27 vO n27 vS_27 x2_27 = some Rz → J l { frames := 0, cells := 0, slots := 0, locals := 0 } G 3 X (QM X G 0 0 none (wSch G aS (Rz 0) (Rz 1) (Rz 2) (Rz 3) (Rz 4) (Rz 5) (Rz 6) (Rz 7) (Rz 8 0) (Rz 9 0) ++ (wSch G aO (vO 0) (vO 1) (vO 2) (vO 3) (vO 4) (vO 5) (vO 6) (vO 7) (vO 8 0) (vO 9 0)))) 0 0 27 [(0, .ref (aS 0)), (1, .ref (aO 0)), (2, .int x2_27)] [] (wSch G aS (vS_27 0) (vS_27 1) (vS_27 2) (vS_27 3) (vS_27 4) (vS_27 5) (vS_27 6) (vS_27 7) (vS_27 8 0) (vS_27 9 0) ++ (wSch G aO (vO 0) (vO 1) (vO 2) (vO 3) (vO 4) (vO 5) (vO 6) (vO 7) (vO 8 0) (vO 9 0))) := by
    intro  n27
    induction n27 with
    | zero =>
      intro vS_27 x2_27 h
      exact (no_none rfl h).elim
    | succ n27 ih27 =>
      intro vS_27 x2_27 h
      replace h : f_X2_copyFrom_b27 vO (fun vS_27 x2_27 => f_X2_copyFrom_L27 vO n27 vS_27 x2_27) vS_27 x2_27 = some Rz := h
      unfold f_X2_copyFrom_b27 at h
      refine J_iload_n (pc := 27) C 17 rfl 2 rfl rfl ?_
      refine J_bipush (pc := 28) (v := (6 : Int32)) C 18 rfl rfl ?_
      refine J_icmp_ge (pc := 30) (tgt := 63) C 19 rfl rfl (fun c2 => ?_) (fun c2 => ?_)
      · rw [if_pos c2] at h
        refine J_iconst (pc := 63) (v := (0 : Int32)) C 38 rfl rfl ?_
        refine J_istore_n (pc := 64) (lv' := [(2, .int (0 : Int32)), (0, .ref (aS 0)), (1, .ref (aO 0))]) C 39 rfl rfl (by decide) rfl ?_
        exact J_sub [1, 2, 0] rfl (B65  FU vS_27 (0 : Int32) h)
      · rw [if_neg c2] at h
        refine J_aload_n (pc := 33) C 20 rfl 0 rfl rfl ?_
        refine J_get (pc := 34) (v := .ref (aS 2)) C 21 rfl TB_l2 rfl 0 1 rfl (by decide) k6 rfl rfl ?_
        refine J_iload_n (pc := 37) C 22 rfl 2 rfl rfl ?_
        refine J_aload_n (pc := 38) C 23 rfl 1 rfl rfl ?_
        refine J_get (pc := 39) (v := .ref (aO 2)) C 24 rfl TB_l2 rfl 9 1 rfl (by decide) k6 rfl rfl ?_
        refine J_iload_n (pc := 42) C 25 rfl 2 rfl rfl ?_
        obtain ⟨g16, h⟩ := gd_some h
        refine J_iald (pc := 43) (f := (vO 1)) (v := ((vO 1) (Int32.toNatClampNeg x2_27))) C 26 rfl 11 rfl g16 rfl ?_
        obtain ⟨g17, h⟩ := gd_some h
        refine J_iast (pc := 44) (f := (vS_27 1)) (m := (Int32.toNatClampNeg x2_27)) C 27 (fun mm vv => (wSch G aS (vS_27 0) (upd (vS_27 1) mm vv) (vS_27 2) (vS_27 3) (vS_27 4) (vS_27 5) (vS_27 6) (vS_27 7) (vS_27 8 0) (vS_27 9 0) ++ (wSch G aO (vO 0) (vO 1) (vO 2) (vO 3) (vO 4) (vO 5) (vO 6) (vO 7) (vO 8 0) (vO 9 0)))) rfl 2 rfl g17 rfl (fun _ _ => rfl) ?_
        refine J_aload_n (pc := 45) C 28 rfl 0 rfl rfl ?_
        refine J_get (pc := 46) (v := .ref (aS 3)) C 29 rfl TB_l2 rfl 0 2 rfl (by decide) k7 rfl rfl ?_
        refine J_iload_n (pc := 49) C 30 rfl 2 rfl rfl ?_
        refine J_aload_n (pc := 50) C 31 rfl 1 rfl rfl ?_
        refine J_get (pc := 51) (v := .ref (aO 3)) C 32 rfl TB_l2 rfl 9 2 rfl (by decide) k7 rfl rfl ?_
        refine J_iload_n (pc := 54) C 33 rfl 2 rfl rfl ?_
        obtain ⟨g18, h⟩ := gd_some h
        refine J_iald (pc := 55) (f := (vO 2)) (v := ((vO 2) (Int32.toNatClampNeg x2_27))) C 34 rfl 12 rfl g18 rfl ?_
        obtain ⟨g19, h⟩ := gd_some h
        refine J_iast (pc := 56) (f := (vS_27 2)) (m := (Int32.toNatClampNeg x2_27)) C 35 (fun mm vv => (wSch G aS (vS_27 0) (upd (vS_27 1) (Int32.toNatClampNeg x2_27) ((vO 1) (Int32.toNatClampNeg x2_27))) (upd (vS_27 2) mm vv) (vS_27 3) (vS_27 4) (vS_27 5) (vS_27 6) (vS_27 7) (vS_27 8 0) (vS_27 9 0) ++ (wSch G aO (vO 0) (vO 1) (vO 2) (vO 3) (vO 4) (vO 5) (vO 6) (vO 7) (vO 8 0) (vO 9 0)))) rfl 3 rfl g19 rfl (fun _ _ => rfl) ?_
        refine J_iinc (pc := 57) (v := (x2_27 + (1 : Int32))) (lv' := [(2, .int (x2_27 + (1 : Int32))), (0, .ref (aS 0)), (1, .ref (aO 0))]) C 36 rfl 2 rfl rfl (by decide) rfl ?_
        refine J_goto (pc := 60) (tgt := 27) C 37 rfl rfl ?_
        exact J_sub [1, 2, 0] rfl (ih27 (up2 (up2 vS_27 1 (Int32.toNatClampNeg x2_27) ((vO 1) (Int32.toNatClampNeg x2_27))) 2 (Int32.toNatClampNeg x2_27) ((vO 2) (Int32.toNatClampNeg x2_27))) (x2_27 + (1 : Int32)) h)
  have B2 : ∀ (n2 : Nat) (vS_2 : JV) (x2_2 : Int32), f_X2_copyFrom_L2 vO n2 vS_2 x2_2 = some Rz → J l { frames := 0, cells := 0, slots := 0, locals := 0 } G 3 X (QM X G 0 0 none (wSch G aS (Rz 0) (Rz 1) (Rz 2) (Rz 3) (Rz 4) (Rz 5) (Rz 6) (Rz 7) (Rz 8 0) (Rz 9 0) ++ (wSch G aO (vO 0) (vO 1) (vO 2) (vO 3) (vO 4) (vO 5) (vO 6) (vO 7) (vO 8 0) (vO 9 0)))) 0 0 2 [(0, .ref (aS 0)), (1, .ref (aO 0)), (2, .int x2_2)] [] (wSch G aS (vS_2 0) (vS_2 1) (vS_2 2) (vS_2 3) (vS_2 4) (vS_2 5) (vS_2 6) (vS_2 7) (vS_2 8 0) (vS_2 9 0) ++ (wSch G aO (vO 0) (vO 1) (vO 2) (vO 3) (vO 4) (vO 5) (vO 6) (vO 7) (vO 8 0) (vO 9 0))) := by
    intro  n2
    induction n2 with
    | zero =>
      intro vS_2 x2_2 h
      exact (no_none rfl h).elim
    | succ n2 ih2 =>
      intro vS_2 x2_2 h
      replace h : f_X2_copyFrom_b2 vO (fun vS_2 x2_2 => f_X2_copyFrom_L2 vO n2 vS_2 x2_2) vS_2 x2_2 = some Rz := h
      unfold f_X2_copyFrom_b2 at h
      refine J_iload_n (pc := 2) C 2 rfl 2 rfl rfl ?_
      refine J_iconst (pc := 3) (v := (3 : Int32)) C 3 rfl rfl ?_
      refine J_icmp_ge (pc := 4) (tgt := 25) C 4 rfl rfl (fun c1 => ?_) (fun c1 => ?_)
      · rw [if_pos c1] at h
        refine J_iconst (pc := 25) (v := (0 : Int32)) C 15 rfl rfl ?_
        refine J_istore_n (pc := 26) (lv' := [(2, .int (0 : Int32)), (0, .ref (aS 0)), (1, .ref (aO 0))]) C 16 rfl rfl (by decide) rfl ?_
        exact J_sub [1, 2, 0] rfl (B27  FU vS_2 (0 : Int32) h)
      · rw [if_neg c1] at h
        refine J_aload_n (pc := 7) C 5 rfl 0 rfl rfl ?_
        refine J_get (pc := 8) (v := .ref (aS 1)) C 6 rfl TB_l2 rfl 0 0 rfl (by decide) k5 rfl rfl ?_
        refine J_iload_n (pc := 11) C 7 rfl 2 rfl rfl ?_
        refine J_aload_n (pc := 12) C 8 rfl 1 rfl rfl ?_
        refine J_get (pc := 13) (v := .ref (aO 1)) C 9 rfl TB_l2 rfl 9 0 rfl (by decide) k5 rfl rfl ?_
        refine J_iload_n (pc := 16) C 10 rfl 2 rfl rfl ?_
        obtain ⟨g20, h⟩ := gd_some h
        refine J_iald (pc := 17) (f := (vO 0)) (v := ((vO 0) (Int32.toNatClampNeg x2_2))) C 11 rfl 10 rfl g20 rfl ?_
        obtain ⟨g21, h⟩ := gd_some h
        refine J_iast (pc := 18) (f := (vS_2 0)) (m := (Int32.toNatClampNeg x2_2)) C 12 (fun mm vv => (wSch G aS (upd (vS_2 0) mm vv) (vS_2 1) (vS_2 2) (vS_2 3) (vS_2 4) (vS_2 5) (vS_2 6) (vS_2 7) (vS_2 8 0) (vS_2 9 0) ++ (wSch G aO (vO 0) (vO 1) (vO 2) (vO 3) (vO 4) (vO 5) (vO 6) (vO 7) (vO 8 0) (vO 9 0)))) rfl 1 rfl g21 rfl (fun _ _ => rfl) ?_
        refine J_iinc (pc := 19) (v := (x2_2 + (1 : Int32))) (lv' := [(2, .int (x2_2 + (1 : Int32))), (0, .ref (aS 0)), (1, .ref (aO 0))]) C 13 rfl 2 rfl rfl (by decide) rfl ?_
        refine J_goto (pc := 22) (tgt := 2) C 14 rfl rfl ?_
        exact J_sub [1, 2, 0] rfl (ih2 (up2 vS_2 0 (Int32.toNatClampNeg x2_2) ((vO 0) (Int32.toNatClampNeg x2_2))) (x2_2 + (1 : Int32)) h)
  unfold f_X2_copyFrom at h
  refine J_iconst (pc := 0) (v := (0 : Int32)) C 0 rfl rfl ?_
  refine J_istore_n (pc := 1) (lv' := [(2, .int (0 : Int32)), (0, .ref (aS 0)), (1, .ref (aO 0))]) C 1 rfl rfl (by decide) rfl ?_
  exact J_sub [1, 2, 0] rfl (B2  FU vS (0 : Int32) h)
def T_X2_writePupil : List (Nat × ClassFile.Instr × Nat) := [(0, .aload_n 0, 1), (1, .getfield 21, 3), (4, .iload_n 1, 1), (5, .iload_n 2, 1), (6, .iastore, 1), (7, .aload_n 0, 1), (8, .getfield 24, 3), (11, .iload_n 1, 1), (12, .iload_n 3, 1), (13, .iastore, 1), (14, .aload_n 0, 1), (15, .getfield 27, 3), (18, .iload_n 1, 1), (19, .iload 4, 2), (21, .bastore, 1), (22, .return_, 1)]
theorem D_X2_writePupil : ∀ q ∈ T_X2_writePupil, decode cX2_writePupil q.1 = .ok q.2 := by decide +kernel
theorem V_X2_writePupil : Vy yX2_writePupil cX2_writePupil 5 none 4 := ⟨k47, k22, by decide +kernel⟩
theorem i_X2_writePupil : Cond.instanceMethod yX2_writePupil ∈ TB := k50
theorem s_X2_writePupil : Cond.selects yX2_writePupil.cls yX2_writePupil yX2_writePupil ∈ TB := k51
noncomputable def f_X2_writePupil (vS : JV) (x1 : Int32) (x2 : Int32) (x3 : Int32) (x4 : Int32) : Option (JV) :=
  gd (inb x1 16) (gd (inb x1 16) (gd (inb x1 16) (gd (isb x4) (some (up2 (up2 (up2 vS 3 (Int32.toNatClampNeg x1) x2) 4 (Int32.toNatClampNeg x1) x3) 5 (Int32.toNatClampNeg x1) x4)))))
set_option maxRecDepth 100000 in
set_option maxHeartbeats 4000000 in
theorem c_X2_writePupil {l : Launch} {G : JG} (aS : Nat → Nat) (vS : JV) (x1 : Int32) (x2 : Int32) (x3 : Int32) (x4 : Int32) {Rz : JV} (h : f_X2_writePupil vS x1 x2 x3 x4 = some Rz) : JM l G yX2_writePupil cX2_writePupil 5 none 0 0 [.ref (aS 0), .int x1, .int x2, .int x3, .int x4] (wSch G aS (vS 0) (vS 1) (vS 2) (vS 3) (vS 4) (vS 5) (vS 6) (vS 7) (vS 8 0) (vS 9 0)) (wSch G aS (Rz 0) (Rz 1) (Rz 2) (Rz 3) (Rz 4) (Rz 5) (Rz 6) (Rz 7) (Rz 8 0) (Rz 9 0)) none := by
  refine JM.of (own := RX2) (tb := T_X2_writePupil) (by decide) (Nat.le_of_ble_eq_true rfl) D_X2_writePupil rfl (fun X C => ?_)
  refine J_sub (lv' := [(0, .ref (aS 0)), (1, .int x1), (2, .int x2), (3, .int x3), (4, .int x4)]) [0, 1, 2, 3, 4] rfl ?_
  unfold f_X2_writePupil at h
  refine J_aload_n (pc := 0) C 0 rfl 0 rfl rfl ?_
  refine J_get (pc := 1) (v := .ref (aS 4)) C 1 rfl TB_l2 rfl 0 3 rfl (by decide) k8 rfl rfl ?_
  refine J_iload_n (pc := 4) C 2 rfl 1 rfl rfl ?_
  refine J_iload_n (pc := 5) C 3 rfl 2 rfl rfl ?_
  obtain ⟨g1, h⟩ := gd_some h
  refine J_iast (pc := 6) (f := (vS 3)) (m := (Int32.toNatClampNeg x1)) C 4 (fun mm vv => (wSch G aS (vS 0) (vS 1) (vS 2) (upd (vS 3) mm vv) (vS 4) (vS 5) (vS 6) (vS 7) (vS 8 0) (vS 9 0))) rfl 4 rfl g1 rfl (fun _ _ => rfl) ?_
  refine J_aload_n (pc := 7) C 5 rfl 0 rfl rfl ?_
  refine J_get (pc := 8) (v := .ref (aS 5)) C 6 rfl TB_l2 rfl 0 4 rfl (by decide) k9 rfl rfl ?_
  refine J_iload_n (pc := 11) C 7 rfl 1 rfl rfl ?_
  refine J_iload_n (pc := 12) C 8 rfl 3 rfl rfl ?_
  obtain ⟨g2, h⟩ := gd_some h
  refine J_iast (pc := 13) (f := (vS 4)) (m := (Int32.toNatClampNeg x1)) C 9 (fun mm vv => (wSch G aS (vS 0) (vS 1) (vS 2) (upd (vS 3) (Int32.toNatClampNeg x1) x2) (upd (vS 4) mm vv) (vS 5) (vS 6) (vS 7) (vS 8 0) (vS 9 0))) rfl 5 rfl g2 rfl (fun _ _ => rfl) ?_
  refine J_aload_n (pc := 14) C 10 rfl 0 rfl rfl ?_
  refine J_get (pc := 15) (v := .ref (aS 6)) C 11 rfl TB_l2 rfl 0 5 rfl (by decide) k11 rfl rfl ?_
  refine J_iload_n (pc := 18) C 12 rfl 1 rfl rfl ?_
  refine J_iload (pc := 19) C 13 rfl 4 rfl ?_
  obtain ⟨g3, h⟩ := gd_some h
  obtain ⟨g4, h⟩ := gd_some h
  refine J_zast (pc := 21) (f := (vS 5)) (m := (Int32.toNatClampNeg x1)) C 14 (fun mm vv => (wSch G aS (vS 0) (vS 1) (vS 2) (upd (vS 3) (Int32.toNatClampNeg x1) x2) (upd (vS 4) (Int32.toNatClampNeg x1) x3) (upd (vS 5) mm vv) (vS 6) (vS 7) (vS 8 0) (vS 9 0))) rfl 6 rfl g3 g4 rfl (fun _ _ => rfl) ?_
  cases h
  exact J_vret (pc := 22) C 15 rfl
def T_X2_addPupil : List (Nat × ClassFile.Instr × Nat) := [(0, .aload_n 0, 1), (1, .getfield 37, 3), (4, .bipush 16, 2), (6, .if_icmp .ge 24, 3), (9, .aload_n 0, 1), (10, .aload_n 0, 1), (11, .getfield 37, 3), (14, .iload_n 1, 1), (15, .iload_n 2, 1), (16, .iload_n 3, 1), (17, .invokevirtual 44, 3), (20, .aload_n 0, 1), (21, .dup, 1), (22, .getfield 37, 3), (25, .iconst 1, 1), (26, .iadd, 1), (27, .putfield 37, 3), (30, .return_, 1)]
theorem D_X2_addPupil : ∀ q ∈ T_X2_addPupil, decode cX2_addPupil q.1 = .ok q.2 := by decide +kernel
theorem V_X2_addPupil : Vy yX2_addPupil cX2_addPupil 4 none 3 := ⟨k48, k22, by decide +kernel⟩
theorem i_X2_addPupil : Cond.instanceMethod yX2_addPupil ∈ TB := k241
theorem s_X2_addPupil : Cond.selects yX2_addPupil.cls yX2_addPupil yX2_addPupil ∈ TB := k242
noncomputable def f_X2_addPupil (vS : JV) (x1 : Int32) (x2 : Int32) (x3 : Int32) : Option (JV) :=
  (if (16 : Int32) ≤ (vS 8 0) then some vS else (f_X2_writePupil vS (vS 8 0) x1 x2 x3).bind (fun q2 => some (up2 q2 8 0 ((q2 8 0) + (1 : Int32)))))
set_option maxRecDepth 100000 in
set_option maxHeartbeats 4000000 in
theorem c_X2_addPupil {l : Launch} {G : JG} (aS : Nat → Nat) (vS : JV) (x1 : Int32) (x2 : Int32) (x3 : Int32) {Rz : JV} (h : f_X2_addPupil vS x1 x2 x3 = some Rz) : JM l G yX2_addPupil cX2_addPupil 4 none 1 24 [.ref (aS 0), .int x1, .int x2, .int x3] (wSch G aS (vS 0) (vS 1) (vS 2) (vS 3) (vS 4) (vS 5) (vS 6) (vS 7) (vS 8 0) (vS 9 0)) (wSch G aS (Rz 0) (Rz 1) (Rz 2) (Rz 3) (Rz 4) (Rz 5) (Rz 6) (Rz 7) (Rz 8 0) (Rz 9 0)) none := by
  refine JM.of (own := RX2) (tb := T_X2_addPupil) (by decide) (Nat.le_of_ble_eq_true rfl) D_X2_addPupil rfl (fun X C => ?_)
  refine J_sub (lv' := [(0, .ref (aS 0)), (1, .int x1), (2, .int x2), (3, .int x3)]) [0, 1, 2, 3] rfl ?_
  unfold f_X2_addPupil at h
  refine J_aload_n (pc := 0) C 0 rfl 0 rfl rfl ?_
  refine J_get (pc := 1) (v := .int (vS 8 0)) C 1 rfl TB_l2 rfl 0 8 rfl (by decide) k14 rfl rfl ?_
  refine J_bipush (pc := 4) (v := (16 : Int32)) C 2 rfl rfl ?_
  refine J_icmp_ge (pc := 6) (tgt := 30) C 3 rfl rfl (fun c1 => ?_) (fun c1 => ?_)
  · rw [if_pos c1] at h
    cases h
    exact J_vret (pc := 30) C 17 rfl
  · rw [if_neg c1] at h
    refine J_aload_n (pc := 9) C 4 rfl 0 rfl rfl ?_
    refine J_aload_n (pc := 10) C 5 rfl 0 rfl rfl ?_
    refine J_get (pc := 11) (v := .int (vS 8 0)) C 6 rfl TB_l2 rfl 0 8 rfl (by decide) k14 rfl rfl ?_
    refine J_iload_n (pc := 14) C 7 rfl 1 rfl rfl ?_
    refine J_iload_n (pc := 15) C 8 rfl 2 rfl rfl ?_
    refine J_iload_n (pc := 16) C 9 rfl 3 rfl rfl ?_
    obtain ⟨q2, hq2, h⟩ := bnd h
    refine J_callV (pc := 17) (st2 := []) (st3 := []) (ws2 := (wSch G aS (q2 0) (q2 1) (q2 2) (q2 3) (q2 4) (q2 5) (q2 6) (q2 7) (q2 8 0) (q2 9 0))) C 10 rfl (c_X2_writePupil aS vS (vS 8 0) x1 x2 x3 hq2) V_X2_writePupil k49 i_X2_writePupil s_X2_writePupil rfl rfl ⟨Nat.le_of_ble_eq_true rfl, Nat.le_of_ble_eq_true rfl⟩ (Nat.le_of_ble_eq_true rfl) ⟨Nat.le_refl _, Nat.le_refl _⟩ 0 2 rfl rfl rfl (isC := [0, 1, 2, 3, 4, 5, 6, 7, 8]) (isR := []) (N := 9) ⟨rfl, by decide +kernel, rfl, by decide +kernel, rfl, trivial⟩ rfl ?_
    refine J_aload_n (pc := 20) C 11 rfl 0 rfl rfl ?_
    refine J_dup (pc := 21) C 12 rfl rfl ?_
    refine J_get (pc := 22) (v := .int (q2 8 0)) C 13 rfl TB_l2 rfl 0 8 rfl (by decide) k14 rfl rfl ?_
    refine J_iconst (pc := 25) (v := (1 : Int32)) C 14 rfl rfl ?_
    refine J_iadd (pc := 26) C 15 rfl  ?_
    refine J_puti (pc := 27) C 16 (fun vv => (wSch G aS (q2 0) (q2 1) (q2 2) (q2 3) (q2 4) (q2 5) (q2 6) (q2 7) vv (q2 9 0))) rfl TB_l2 tyX2 tyX2_ok nmX2 rfl 0 8 rfl (by decide) k14 rfl rfl rfl (Nat.le_of_ble_eq_true rfl) (fun _ => rfl) ?_
    cases h
    exact J_vret (pc := 30) C 17 rfl
def T_X2_removePupil : List (Nat × ClassFile.Instr × Nat) := [(0, .iload_n 1, 1), (1, .istore_n 2, 1), (2, .iload_n 2, 1), (3, .aload_n 0, 1), (4, .getfield 37, 3), (7, .iconst 1, 1), (8, .isub, 1), (9, .if_icmp .ge 38, 3), (12, .aload_n 0, 1), (13, .iload_n 2, 1), (14, .aload_n 0, 1), (15, .getfield 21, 3), (18, .iload_n 2, 1), (19, .iconst 1, 1), (20, .iadd, 1), (21, .iaload, 1), (22, .aload_n 0, 1), (23, .getfield 24, 3), (26, .iload_n 2, 1), (27, .iconst 1, 1), (28, .iadd, 1), (29, .iaload, 1), (30, .aload_n 0, 1), (31, .getfield 27, 3), (34, .iload_n 2, 1), (35, .iconst 1, 1), (36, .iadd, 1), (37, .baload, 1), (38, .invokevirtual 44, 3), (41, .iinc 2 1, 3), (44, .goto (-42), 3), (47, .aload_n 0, 1), (48, .dup, 1), (49, .getfield 37, 3), (52, .iconst 1, 1), (53, .isub, 1), (54, .putfield 37, 3), (57, .return_, 1)]
theorem D_X2_removePupil : ∀ q ∈ T_X2_removePupil, decode cX2_removePupil q.1 = .ok q.2 := by decide +kernel
theorem V_X2_removePupil : Vy yX2_removePupil cX2_removePupil 3 none 1 := ⟨k52, k22, by decide +kernel⟩
theorem i_X2_removePupil : Cond.instanceMethod yX2_removePupil ∈ TB := k253
theorem s_X2_removePupil : Cond.selects yX2_removePupil.cls yX2_removePupil yX2_removePupil ∈ TB := k254
noncomputable def f_X2_removePupil_b2  (r2 : JV → Int32 → Option (JV)) (vS_2 : JV) (x2_2 : Int32) : Option (JV) :=
  (if ((vS_2 8 0) - (1 : Int32)) ≤ x2_2 then some (up2 vS_2 8 0 ((vS_2 8 0) - (1 : Int32))) else gd (inb (x2_2 + (1 : Int32)) 16) (gd (inb (x2_2 + (1 : Int32)) 16) (gd (inb (x2_2 + (1 : Int32)) 16) ((f_X2_writePupil vS_2 x2_2 ((vS_2 3) (Int32.toNatClampNeg (x2_2 + (1 : Int32)))) ((vS_2 4) (Int32.toNatClampNeg (x2_2 + (1 : Int32)))) ((vS_2 5) (Int32.toNatClampNeg (x2_2 + (1 : Int32))))).bind (fun q5 => r2 q5 (x2_2 + (1 : Int32)))))))
noncomputable def f_X2_removePupil_L2  (n : Nat) (vS_2 : JV) (x2_2 : Int32) : Option (JV) :=
  lp (fun (rec : JV × Int32 → Option (JV)) a => f_X2_removePupil_b2  (fun vS_2 x2_2 => rec (vS_2, x2_2)) a.1 a.2) n (vS_2, x2_2)
noncomputable def f_X2_removePupil (vS : JV) (x1 : Int32) : Option (JV) :=
  f_X2_removePupil_L2   FU vS x1
set_option maxRecDepth 100000 in
set_option maxHeartbeats 4000000 in
theorem c_X2_removePupil {l : Launch} {G : JG} (aS : Nat → Nat) (vS : JV) (x1 : Int32) {Rz : JV} (h : f_X2_removePupil vS x1 = some Rz) : JM l G yX2_removePupil cX2_removePupil 3 none 1 24 [.ref (aS 0), .int x1] (wSch G aS (vS 0) (vS 1) (vS 2) (vS 3) (vS 4) (vS 5) (vS 6) (vS 7) (vS 8 0) (vS 9 0)) (wSch G aS (Rz 0) (Rz 1) (Rz 2) (Rz 3) (Rz 4) (Rz 5) (Rz 6) (Rz 7) (Rz 8 0) (Rz 9 0)) none := by
  refine JM.of (own := RX2) (tb := T_X2_removePupil) (by decide) (Nat.le_of_ble_eq_true rfl) D_X2_removePupil rfl (fun X C => ?_)
  refine J_sub (lv' := [(0, .ref (aS 0)), (1, .int x1)]) [0, 1] rfl ?_
  have B2 : ∀ (n2 : Nat) (vS_2 : JV) (x2_2 : Int32), f_X2_removePupil_L2  n2 vS_2 x2_2 = some Rz → J l { frames := 1, cells := 0, slots := 0, locals := 24 } G 3 X (QM X G 0 0 none (wSch G aS (Rz 0) (Rz 1) (Rz 2) (Rz 3) (Rz 4) (Rz 5) (Rz 6) (Rz 7) (Rz 8 0) (Rz 9 0))) 0 0 2 [(0, .ref (aS 0)), (2, .int x2_2)] [] (wSch G aS (vS_2 0) (vS_2 1) (vS_2 2) (vS_2 3) (vS_2 4) (vS_2 5) (vS_2 6) (vS_2 7) (vS_2 8 0) (vS_2 9 0)) := by
    intro  n2
    induction n2 with
    | zero =>
      intro vS_2 x2_2 h
      exact (no_none rfl h).elim
    | succ n2 ih2 =>
      intro vS_2 x2_2 h
      replace h : f_X2_removePupil_b2  (fun vS_2 x2_2 => f_X2_removePupil_L2  n2 vS_2 x2_2) vS_2 x2_2 = some Rz := h
      unfold f_X2_removePupil_b2 at h
      refine J_iload_n (pc := 2) C 2 rfl 1 rfl rfl ?_
      refine J_aload_n (pc := 3) C 3 rfl 0 rfl rfl ?_
      refine J_get (pc := 4) (v := .int (vS_2 8 0)) C 4 rfl TB_l2 rfl 0 8 rfl (by decide) k14 rfl rfl ?_
      refine J_iconst (pc := 7) (v := (1 : Int32)) C 5 rfl rfl ?_
      refine J_isub (pc := 8) C 6 rfl  ?_
      refine J_icmp_ge (pc := 9) (tgt := 47) C 7 rfl rfl (fun c1 => ?_) (fun c1 => ?_)
      · rw [if_pos c1] at h
        refine J_aload_n (pc := 47) C 31 rfl 0 rfl rfl ?_
        refine J_dup (pc := 48) C 32 rfl rfl ?_
        refine J_get (pc := 49) (v := .int (vS_2 8 0)) C 33 rfl TB_l2 rfl 0 8 rfl (by decide) k14 rfl rfl ?_
        refine J_iconst (pc := 52) (v := (1 : Int32)) C 34 rfl rfl ?_
        refine J_isub (pc := 53) C 35 rfl  ?_
        refine J_puti (pc := 54) C 36 (fun vv => (wSch G aS (vS_2 0) (vS_2 1) (vS_2 2) (vS_2 3) (vS_2 4) (vS_2 5) (vS_2 6) (vS_2 7) vv (vS_2 9 0))) rfl TB_l2 tyX2 tyX2_ok nmX2 rfl 0 8 rfl (by decide) k14 rfl rfl rfl (Nat.le_of_ble_eq_true rfl) (fun _ => rfl) ?_
        cases h
        exact J_vret (pc := 57) C 37 rfl
      · rw [if_neg c1] at h
        refine J_aload_n (pc := 12) C 8 rfl 0 rfl rfl ?_
        refine J_iload_n (pc := 13) C 9 rfl 1 rfl rfl ?_
        refine J_aload_n (pc := 14) C 10 rfl 0 rfl rfl ?_
        refine J_get (pc := 15) (v := .ref (aS 4)) C 11 rfl TB_l2 rfl 0 3 rfl (by decide) k8 rfl rfl ?_
        refine J_iload_n (pc := 18) C 12 rfl 1 rfl rfl ?_
        refine J_iconst (pc := 19) (v := (1 : Int32)) C 13 rfl rfl ?_
        refine J_iadd (pc := 20) C 14 rfl  ?_
        obtain ⟨g2, h⟩ := gd_some h
        refine J_iald (pc := 21) (f := (vS_2 3)) (v := ((vS_2 3) (Int32.toNatClampNeg (x2_2 + (1 : Int32))))) C 15 rfl 4 rfl g2 rfl ?_
        refine J_aload_n (pc := 22) C 16 rfl 0 rfl rfl ?_
        refine J_get (pc := 23) (v := .ref (aS 5)) C 17 rfl TB_l2 rfl 0 4 rfl (by decide) k9 rfl rfl ?_
        refine J_iload_n (pc := 26) C 18 rfl 1 rfl rfl ?_
        refine J_iconst (pc := 27) (v := (1 : Int32)) C 19 rfl rfl ?_
        refine J_iadd (pc := 28) C 20 rfl  ?_
        obtain ⟨g3, h⟩ := gd_some h
        refine J_iald (pc := 29) (f := (vS_2 4)) (v := ((vS_2 4) (Int32.toNatClampNeg (x2_2 + (1 : Int32))))) C 21 rfl 5 rfl g3 rfl ?_
        refine J_aload_n (pc := 30) C 22 rfl 0 rfl rfl ?_
        refine J_get (pc := 31) (v := .ref (aS 6)) C 23 rfl TB_l2 rfl 0 5 rfl (by decide) k11 rfl rfl ?_
        refine J_iload_n (pc := 34) C 24 rfl 1 rfl rfl ?_
        refine J_iconst (pc := 35) (v := (1 : Int32)) C 25 rfl rfl ?_
        refine J_iadd (pc := 36) C 26 rfl  ?_
        obtain ⟨g4, h⟩ := gd_some h
        refine J_zald (pc := 37) (f := (vS_2 5)) (v := ((vS_2 5) (Int32.toNatClampNeg (x2_2 + (1 : Int32))))) C 27 rfl 6 rfl g4 rfl ?_
        obtain ⟨q5, hq5, h⟩ := bnd h
        refine J_callV (pc := 38) (st2 := []) (st3 := []) (ws2 := (wSch G aS (q5 0) (q5 1) (q5 2) (q5 3) (q5 4) (q5 5) (q5 6) (q5 7) (q5 8 0) (q5 9 0))) C 28 rfl (c_X2_writePupil aS vS_2 x2_2 ((vS_2 3) (Int32.toNatClampNeg (x2_2 + (1 : Int32)))) ((vS_2 4) (Int32.toNatClampNeg (x2_2 + (1 : Int32)))) ((vS_2 5) (Int32.toNatClampNeg (x2_2 + (1 : Int32)))) hq5) V_X2_writePupil k49 i_X2_writePupil s_X2_writePupil rfl rfl ⟨Nat.le_of_ble_eq_true rfl, Nat.le_of_ble_eq_true rfl⟩ (Nat.le_of_ble_eq_true rfl) ⟨Nat.le_refl _, Nat.le_refl _⟩ 0 2 rfl rfl rfl (isC := [0, 1, 2, 3, 4, 5, 6, 7, 8]) (isR := []) (N := 9) ⟨rfl, by decide +kernel, rfl, by decide +kernel, rfl, trivial⟩ rfl ?_
        refine J_iinc (pc := 41) (v := (x2_2 + (1 : Int32))) (lv' := [(2, .int (x2_2 + (1 : Int32))), (0, .ref (aS 0))]) C 29 rfl 1 rfl rfl (by decide) rfl ?_
        refine J_goto (pc := 44) (tgt := 2) C 30 rfl rfl ?_
        exact J_sub [1, 0] rfl (ih2 q5 (x2_2 + (1 : Int32)) h)
  unfold f_X2_removePupil at h
  refine J_iload_n (pc := 0) C 0 rfl 1 rfl rfl ?_
  refine J_istore_n (pc := 1) (lv' := [(2, .int x1), (0, .ref (aS 0)), (1, .int x1)]) C 1 rfl rfl (by decide) rfl ?_
  exact J_sub [1, 0] rfl (B2  FU vS x1 h)
def T_X2_sits : List (Nat × ClassFile.Instr × Nat) := [(0, .aload_n 0, 1), (1, .getfield 21, 3), (4, .iload_n 1, 1), (5, .iaload, 1), (6, .iload_n 2, 1), (7, .invokestatic 48, 3), (10, .ireturn, 1)]
theorem D_X2_sits : ∀ q ∈ T_X2_sits, decode cX2_sits q.1 = .ok q.2 := by decide +kernel
theorem V_X2_sits : Vy yX2_sits cX2_sits 3 (some .boolean) 2 := ⟨k54, k22, by decide +kernel⟩
theorem i_X2_sits : Cond.instanceMethod yX2_sits ∈ TB := k80
theorem s_X2_sits : Cond.selects yX2_sits.cls yX2_sits yX2_sits ∈ TB := k81
noncomputable def f_X2_sits (vS : JV) (x1 : Int32) (x2 : Int32) : Option (Int32) :=
  gd (inb x1 16) ((f_X4_contains ((vS 3) (Int32.toNatClampNeg x1)) x2).bind (fun q2 => gd (isb q2) (some q2)))
set_option maxRecDepth 100000 in
set_option maxHeartbeats 4000000 in
theorem c_X2_sits {l : Launch} {G : JG} (aS : Nat → Nat) (vS : JV) (x1 : Int32) (x2 : Int32) {Rz : Int32} (h : f_X2_sits vS x1 x2 = some Rz) : JM l G yX2_sits cX2_sits 3 (some .boolean) 1 21 [.ref (aS 0), .int x1, .int x2] (wSch G aS (vS 0) (vS 1) (vS 2) (vS 3) (vS 4) (vS 5) (vS 6) (vS 7) (vS 8 0) (vS 9 0)) (wSch G aS (vS 0) (vS 1) (vS 2) (vS 3) (vS 4) (vS 5) (vS 6) (vS 7) (vS 8 0) (vS 9 0)) (some (.int Rz)) := by
  refine JM.of (own := RX2) (tb := T_X2_sits) (by decide) (Nat.le_of_ble_eq_true rfl) D_X2_sits rfl (fun X C => ?_)
  refine J_sub (lv' := [(0, .ref (aS 0)), (1, .int x1), (2, .int x2)]) [0, 1, 2] rfl ?_
  unfold f_X2_sits at h
  refine J_aload_n (pc := 0) C 0 rfl 0 rfl rfl ?_
  refine J_get (pc := 1) (v := .ref (aS 4)) C 1 rfl TB_l2 rfl 0 3 rfl (by decide) k8 rfl rfl ?_
  refine J_iload_n (pc := 4) C 2 rfl 1 rfl rfl ?_
  obtain ⟨g1, h⟩ := gd_some h
  refine J_iald (pc := 5) (f := (vS 3)) (v := ((vS 3) (Int32.toNatClampNeg x1))) C 3 rfl 4 rfl g1 rfl ?_
  refine J_iload_n (pc := 6) C 4 rfl 2 rfl rfl ?_
  obtain ⟨q2, hq2, h⟩ := bnd h
  refine J_callSN (pc := 7) (st2 := []) (st3 := [.int q2]) (ws2 := (wSch G aS (vS 0) (vS 1) (vS 2) (vS 3) (vS 4) (vS 5) (vS 6) (vS 7) (vS 8 0) (vS 9 0))) C 5 rfl (c_X4_contains ((vS 3) (Int32.toNatClampNeg x1)) x2 hq2) V_X4_contains (List.mem_of_getElem? (i := 5) rfl) t_X4_contains rfl rfl ⟨Nat.le_of_ble_eq_true rfl, Nat.le_of_ble_eq_true rfl⟩ (Nat.le_of_ble_eq_true rfl) ⟨Nat.le_refl _, Nat.le_refl _⟩ (isC := []) (isR := [0, 1, 2, 3, 4, 5, 6, 7, 8]) (N := 9) ⟨rfl, by decide +kernel, rfl, by decide +kernel, rfl, ⟨⟨_, rfl, rfl⟩, ⟨⟨_, rfl, rfl⟩, ⟨⟨_, rfl, rfl⟩, ⟨⟨_, rfl, rfl⟩, ⟨⟨_, rfl, rfl⟩, ⟨⟨_, rfl, rfl⟩, ⟨⟨_, rfl, rfl⟩, ⟨⟨_, rfl, rfl⟩, ⟨⟨_, rfl, rfl⟩, trivial⟩⟩⟩⟩⟩⟩⟩⟩⟩⟩ rfl ?_
  obtain ⟨g3, h⟩ := gd_some h
  cases h
  exact J_zret (pc := 10) C 6 rfl g3
def T_X2_beginOf : List (Nat × ClassFile.Instr × Nat) := [(0, .bipush 30, 2), (2, .aload_n 0, 1), (3, .getfield 15, 3), (6, .iload_n 1, 1), (7, .iaload, 1), (8, .imul, 1), (9, .ireturn, 1)]
theorem D_X2_beginOf : ∀ q ∈ T_X2_beginOf, decode cX2_beginOf q.1 = .ok q.2 := by decide +kernel
theorem V_X2_beginOf : Vy yX2_beginOf cX2_beginOf 2 (some .int) 1 := ⟨k57, k22, by decide +kernel⟩
theorem i_X2_beginOf : Cond.instanceMethod yX2_beginOf ∈ TB := k61
theorem s_X2_beginOf : Cond.selects yX2_beginOf.cls yX2_beginOf yX2_beginOf ∈ TB := k62
noncomputable def f_X2_beginOf (vS : JV) (x1 : Int32) : Option (Int32) :=
  gd (inb x1 6) (some ((30 : Int32) * ((vS 1) (Int32.toNatClampNeg x1))))
set_option maxRecDepth 100000 in
set_option maxHeartbeats 4000000 in
theorem c_X2_beginOf {l : Launch} {G : JG} (aS : Nat → Nat) (vS : JV) (x1 : Int32) {Rz : Int32} (h : f_X2_beginOf vS x1 = some Rz) : JM l G yX2_beginOf cX2_beginOf 2 (some .int) 0 0 [.ref (aS 0), .int x1] (wSch G aS (vS 0) (vS 1) (vS 2) (vS 3) (vS 4) (vS 5) (vS 6) (vS 7) (vS 8 0) (vS 9 0)) (wSch G aS (vS 0) (vS 1) (vS 2) (vS 3) (vS 4) (vS 5) (vS 6) (vS 7) (vS 8 0) (vS 9 0)) (some (.int Rz)) := by
  refine JM.of (own := RX2) (tb := T_X2_beginOf) (by decide) (Nat.le_of_ble_eq_true rfl) D_X2_beginOf rfl (fun X C => ?_)
  refine J_sub (lv' := [(0, .ref (aS 0)), (1, .int x1)]) [0, 1] rfl ?_
  unfold f_X2_beginOf at h
  refine J_bipush (pc := 0) (v := (30 : Int32)) C 0 rfl rfl ?_
  refine J_aload_n (pc := 2) C 1 rfl 0 rfl rfl ?_
  refine J_get (pc := 3) (v := .ref (aS 2)) C 2 rfl TB_l2 rfl 0 1 rfl (by decide) k6 rfl rfl ?_
  refine J_iload_n (pc := 6) C 3 rfl 1 rfl rfl ?_
  obtain ⟨g1, h⟩ := gd_some h
  refine J_iald (pc := 7) (f := (vS 1)) (v := ((vS 1) (Int32.toNatClampNeg x1))) C 4 rfl 2 rfl g1 rfl ?_
  refine J_imul (pc := 8) C 5 rfl  ?_
  cases h
  exact J_iret (pc := 9) C 6 rfl
def T_X2_lengthOf : List (Nat × ClassFile.Instr × Nat) := [(0, .aload_n 0, 1), (1, .getfield 18, 3), (4, .iload_n 2, 1), (5, .iaload, 1), (6, .bipush 100, 2), (8, .aload_n 0, 1), (9, .getfield 24, 3), (12, .iload_n 1, 1), (13, .iaload, 1), (14, .iadd, 1), (15, .imul, 1), (16, .bipush 99, 2), (18, .iadd, 1), (19, .bipush 100, 2), (21, .idiv, 1), (22, .ireturn, 1)]
theorem D_X2_lengthOf : ∀ q ∈ T_X2_lengthOf, decode cX2_lengthOf q.1 = .ok q.2 := by decide +kernel
theorem V_X2_lengthOf : Vy yX2_lengthOf cX2_lengthOf 3 (some .int) 2 := ⟨k58, k22, by decide +kernel⟩
theorem i_X2_lengthOf : Cond.instanceMethod yX2_lengthOf ∈ TB := k64
theorem s_X2_lengthOf : Cond.selects yX2_lengthOf.cls yX2_lengthOf yX2_lengthOf ∈ TB := k65
noncomputable def f_X2_lengthOf (vS : JV) (x1 : Int32) (x2 : Int32) : Option (Int32) :=
  gd (inb x2 6) (gd (inb x1 16) (some (((((vS 2) (Int32.toNatClampNeg x2)) * ((100 : Int32) + ((vS 4) (Int32.toNatClampNeg x1)))) + (99 : Int32)) / (100 : Int32))))
set_option maxRecDepth 100000 in
set_option maxHeartbeats 4000000 in
theorem c_X2_lengthOf {l : Launch} {G : JG} (aS : Nat → Nat) (vS : JV) (x1 : Int32) (x2 : Int32) {Rz : Int32} (h : f_X2_lengthOf vS x1 x2 = some Rz) : JM l G yX2_lengthOf cX2_lengthOf 3 (some .int) 0 0 [.ref (aS 0), .int x1, .int x2] (wSch G aS (vS 0) (vS 1) (vS 2) (vS 3) (vS 4) (vS 5) (vS 6) (vS 7) (vS 8 0) (vS 9 0)) (wSch G aS (vS 0) (vS 1) (vS 2) (vS 3) (vS 4) (vS 5) (vS 6) (vS 7) (vS 8 0) (vS 9 0)) (some (.int Rz)) := by
  refine JM.of (own := RX2) (tb := T_X2_lengthOf) (by decide) (Nat.le_of_ble_eq_true rfl) D_X2_lengthOf rfl (fun X C => ?_)
  refine J_sub (lv' := [(0, .ref (aS 0)), (1, .int x1), (2, .int x2)]) [0, 1, 2] rfl ?_
  unfold f_X2_lengthOf at h
  refine J_aload_n (pc := 0) C 0 rfl 0 rfl rfl ?_
  refine J_get (pc := 1) (v := .ref (aS 3)) C 1 rfl TB_l2 rfl 0 2 rfl (by decide) k7 rfl rfl ?_
  refine J_iload_n (pc := 4) C 2 rfl 2 rfl rfl ?_
  obtain ⟨g1, h⟩ := gd_some h
  refine J_iald (pc := 5) (f := (vS 2)) (v := ((vS 2) (Int32.toNatClampNeg x2))) C 3 rfl 3 rfl g1 rfl ?_
  refine J_bipush (pc := 6) (v := (100 : Int32)) C 4 rfl rfl ?_
  refine J_aload_n (pc := 8) C 5 rfl 0 rfl rfl ?_
  refine J_get (pc := 9) (v := .ref (aS 5)) C 6 rfl TB_l2 rfl 0 4 rfl (by decide) k9 rfl rfl ?_
  refine J_iload_n (pc := 12) C 7 rfl 1 rfl rfl ?_
  obtain ⟨g2, h⟩ := gd_some h
  refine J_iald (pc := 13) (f := (vS 4)) (v := ((vS 4) (Int32.toNatClampNeg x1))) C 8 rfl 5 rfl g2 rfl ?_
  refine J_iadd (pc := 14) C 9 rfl  ?_
  refine J_imul (pc := 15) C 10 rfl  ?_
  refine J_bipush (pc := 16) (v := (99 : Int32)) C 11 rfl rfl ?_
  refine J_iadd (pc := 18) C 12 rfl  ?_
  refine J_bipush (pc := 19) (v := (100 : Int32)) C 13 rfl rfl ?_
  refine J_idiv (pc := 21) C 14 rfl (by decide) ?_
  cases h
  exact J_iret (pc := 22) C 15 rfl
def T_X2_endOf : List (Nat × ClassFile.Instr × Nat) := [(0, .aload_n 0, 1), (1, .iload_n 2, 1), (2, .invokevirtual 52, 3), (5, .aload_n 0, 1), (6, .iload_n 1, 1), (7, .iload_n 2, 1), (8, .invokevirtual 56, 3), (11, .iadd, 1), (12, .ireturn, 1)]
theorem D_X2_endOf : ∀ q ∈ T_X2_endOf, decode cX2_endOf q.1 = .ok q.2 := by decide +kernel
theorem V_X2_endOf : Vy yX2_endOf cX2_endOf 3 (some .int) 2 := ⟨k59, k22, by decide +kernel⟩
theorem i_X2_endOf : Cond.instanceMethod yX2_endOf ∈ TB := k68
theorem s_X2_endOf : Cond.selects yX2_endOf.cls yX2_endOf yX2_endOf ∈ TB := k69
noncomputable def f_X2_endOf (vS : JV) (x1 : Int32) (x2 : Int32) : Option (Int32) :=
  (f_X2_beginOf vS x2).bind (fun q1 => (f_X2_lengthOf vS x1 x2).bind (fun q2 => some (q1 + q2)))
set_option maxRecDepth 100000 in
set_option maxHeartbeats 4000000 in
theorem c_X2_endOf {l : Launch} {G : JG} (aS : Nat → Nat) (vS : JV) (x1 : Int32) (x2 : Int32) {Rz : Int32} (h : f_X2_endOf vS x1 x2 = some Rz) : JM l G yX2_endOf cX2_endOf 3 (some .int) 1 22 [.ref (aS 0), .int x1, .int x2] (wSch G aS (vS 0) (vS 1) (vS 2) (vS 3) (vS 4) (vS 5) (vS 6) (vS 7) (vS 8 0) (vS 9 0)) (wSch G aS (vS 0) (vS 1) (vS 2) (vS 3) (vS 4) (vS 5) (vS 6) (vS 7) (vS 8 0) (vS 9 0)) (some (.int Rz)) := by
  refine JM.of (own := RX2) (tb := T_X2_endOf) (by decide) (Nat.le_of_ble_eq_true rfl) D_X2_endOf rfl (fun X C => ?_)
  refine J_sub (lv' := [(0, .ref (aS 0)), (1, .int x1), (2, .int x2)]) [0, 1, 2] rfl ?_
  unfold f_X2_endOf at h
  refine J_aload_n (pc := 0) C 0 rfl 0 rfl rfl ?_
  refine J_iload_n (pc := 1) C 1 rfl 2 rfl rfl ?_
  obtain ⟨q1, hq1, h⟩ := bnd h
  refine J_callV (pc := 2) (st2 := []) (st3 := [.int q1]) (ws2 := (wSch G aS (vS 0) (vS 1) (vS 2) (vS 3) (vS 4) (vS 5) (vS 6) (vS 7) (vS 8 0) (vS 9 0))) C 2 rfl (c_X2_beginOf aS vS x2 hq1) V_X2_beginOf k60 i_X2_beginOf s_X2_beginOf rfl rfl ⟨Nat.le_of_ble_eq_true rfl, Nat.le_of_ble_eq_true rfl⟩ (Nat.le_of_ble_eq_true rfl) ⟨Nat.le_refl _, Nat.le_refl _⟩ 0 2 rfl rfl rfl (isC := [0, 1, 2, 3, 4, 5, 6, 7, 8]) (isR := []) (N := 9) ⟨rfl, by decide +kernel, rfl, by decide +kernel, rfl, trivial⟩ rfl ?_
  refine J_aload_n (pc := 5) C 3 rfl 0 rfl rfl ?_
  refine J_iload_n (pc := 6) C 4 rfl 1 rfl rfl ?_
  refine J_iload_n (pc := 7) C 5 rfl 2 rfl rfl ?_
  obtain ⟨q2, hq2, h⟩ := bnd h
  refine J_callV (pc := 8) (st2 := [.int q1]) (st3 := [.int q2, .int q1]) (ws2 := (wSch G aS (vS 0) (vS 1) (vS 2) (vS 3) (vS 4) (vS 5) (vS 6) (vS 7) (vS 8 0) (vS 9 0))) C 6 rfl (c_X2_lengthOf aS vS x1 x2 hq2) V_X2_lengthOf k63 i_X2_lengthOf s_X2_lengthOf rfl rfl ⟨Nat.le_of_ble_eq_true rfl, Nat.le_of_ble_eq_true rfl⟩ (Nat.le_of_ble_eq_true rfl) ⟨Nat.le_refl _, Nat.le_refl _⟩ 0 2 rfl rfl rfl (isC := [0, 1, 2, 3, 4, 5, 6, 7, 8]) (isR := []) (N := 9) ⟨rfl, by decide +kernel, rfl, by decide +kernel, rfl, trivial⟩ rfl ?_
  refine J_iadd (pc := 11) C 7 rfl  ?_
  cases h
  exact J_iret (pc := 12) C 8 rfl
def T_X2_isSatAt : List (Nat × ClassFile.Instr × Nat) := [(0, .aload_n 0, 1), (1, .iload_n 2, 1), (2, .invokevirtual 52, 3), (5, .iload_n 3, 1), (6, .if_icmp .gt 17, 3), (9, .iload_n 3, 1), (10, .aload_n 0, 1), (11, .iload_n 1, 1), (12, .iload_n 2, 1), (13, .invokevirtual 60, 3), (16, .if_icmp .ge 7, 3), (19, .iconst 1, 1), (20, .goto 4, 3), (23, .iconst 0, 1), (24, .ireturn, 1)]
theorem D_X2_isSatAt : ∀ q ∈ T_X2_isSatAt, decode cX2_isSatAt q.1 = .ok q.2 := by decide +kernel
theorem V_X2_isSatAt : Vy yX2_isSatAt cX2_isSatAt 4 (some .boolean) 3 := ⟨k66, k22, by decide +kernel⟩
theorem i_X2_isSatAt : Cond.instanceMethod yX2_isSatAt ∈ TB := k102
theorem s_X2_isSatAt : Cond.selects yX2_isSatAt.cls yX2_isSatAt yX2_isSatAt ∈ TB := k103
noncomputable def f_X2_isSatAt (vS : JV) (x1 : Int32) (x2 : Int32) (x3 : Int32) : Option (Int32) :=
  (f_X2_beginOf vS x2).bind (fun q1 => (if x3 < q1 then some (0 : Int32) else (f_X2_endOf vS x1 x2).bind (fun q3 => (if q3 ≤ x3 then some (0 : Int32) else some (1 : Int32)))))
set_option maxRecDepth 100000 in
set_option maxHeartbeats 4000000 in
theorem c_X2_isSatAt {l : Launch} {G : JG} (aS : Nat → Nat) (vS : JV) (x1 : Int32) (x2 : Int32) (x3 : Int32) {Rz : Int32} (h : f_X2_isSatAt vS x1 x2 x3 = some Rz) : JM l G yX2_isSatAt cX2_isSatAt 4 (some .boolean) 2 44 [.ref (aS 0), .int x1, .int x2, .int x3] (wSch G aS (vS 0) (vS 1) (vS 2) (vS 3) (vS 4) (vS 5) (vS 6) (vS 7) (vS 8 0) (vS 9 0)) (wSch G aS (vS 0) (vS 1) (vS 2) (vS 3) (vS 4) (vS 5) (vS 6) (vS 7) (vS 8 0) (vS 9 0)) (some (.int Rz)) := by
  refine JM.of (own := RX2) (tb := T_X2_isSatAt) (by decide) (Nat.le_of_ble_eq_true rfl) D_X2_isSatAt rfl (fun X C => ?_)
  refine J_sub (lv' := [(0, .ref (aS 0)), (1, .int x1), (2, .int x2), (3, .int x3)]) [0, 1, 2, 3] rfl ?_
  unfold f_X2_isSatAt at h
  refine J_aload_n (pc := 0) C 0 rfl 0 rfl rfl ?_
  refine J_iload_n (pc := 1) C 1 rfl 2 rfl rfl ?_
  obtain ⟨q1, hq1, h⟩ := bnd h
  refine J_callV (pc := 2) (st2 := []) (st3 := [.int q1]) (ws2 := (wSch G aS (vS 0) (vS 1) (vS 2) (vS 3) (vS 4) (vS 5) (vS 6) (vS 7) (vS 8 0) (vS 9 0))) C 2 rfl (c_X2_beginOf aS vS x2 hq1) V_X2_beginOf k60 i_X2_beginOf s_X2_beginOf rfl rfl ⟨Nat.le_of_ble_eq_true rfl, Nat.le_of_ble_eq_true rfl⟩ (Nat.le_of_ble_eq_true rfl) ⟨Nat.le_refl _, Nat.le_refl _⟩ 0 2 rfl rfl rfl (isC := [0, 1, 2, 3, 4, 5, 6, 7, 8]) (isR := []) (N := 9) ⟨rfl, by decide +kernel, rfl, by decide +kernel, rfl, trivial⟩ rfl ?_
  refine J_iload_n (pc := 5) C 3 rfl 3 rfl rfl ?_
  refine J_icmp_gt (pc := 6) (tgt := 23) C 4 rfl rfl (fun c2 => ?_) (fun c2 => ?_)
  · rw [if_pos c2] at h
    refine J_iconst (pc := 23) (v := (0 : Int32)) C 13 rfl rfl ?_
    cases h
    exact J_zret (pc := 24) C 14 rfl rfl
  · rw [if_neg c2] at h
    refine J_iload_n (pc := 9) C 5 rfl 3 rfl rfl ?_
    refine J_aload_n (pc := 10) C 6 rfl 0 rfl rfl ?_
    refine J_iload_n (pc := 11) C 7 rfl 1 rfl rfl ?_
    refine J_iload_n (pc := 12) C 8 rfl 2 rfl rfl ?_
    obtain ⟨q3, hq3, h⟩ := bnd h
    refine J_callV (pc := 13) (st2 := [.int x3]) (st3 := [.int q3, .int x3]) (ws2 := (wSch G aS (vS 0) (vS 1) (vS 2) (vS 3) (vS 4) (vS 5) (vS 6) (vS 7) (vS 8 0) (vS 9 0))) C 9 rfl (c_X2_endOf aS vS x1 x2 hq3) V_X2_endOf k67 i_X2_endOf s_X2_endOf rfl rfl ⟨Nat.le_of_ble_eq_true rfl, Nat.le_of_ble_eq_true rfl⟩ (Nat.le_of_ble_eq_true rfl) ⟨Nat.le_refl _, Nat.le_refl _⟩ 0 2 rfl rfl rfl (isC := [0, 1, 2, 3, 4, 5, 6, 7, 8]) (isR := []) (N := 9) ⟨rfl, by decide +kernel, rfl, by decide +kernel, rfl, trivial⟩ rfl ?_
    refine J_icmp_ge (pc := 16) (tgt := 23) C 10 rfl rfl (fun c4 => ?_) (fun c4 => ?_)
    · rw [if_pos c4] at h
      refine J_iconst (pc := 23) (v := (0 : Int32)) C 13 rfl rfl ?_
      cases h
      exact J_zret (pc := 24) C 14 rfl rfl
    · rw [if_neg c4] at h
      refine J_iconst (pc := 19) (v := (1 : Int32)) C 11 rfl rfl ?_
      refine J_goto (pc := 20) (tgt := 24) C 12 rfl rfl ?_
      cases h
      exact J_zret (pc := 24) C 14 rfl rfl
def T_X2_sittings : List (Nat × ClassFile.Instr × Nat) := [(0, .iconst 0, 1), (1, .istore_n 1, 1), (2, .iconst 0, 1), (3, .istore_n 2, 1), (4, .iload_n 2, 1), (5, .aload_n 0, 1), (6, .getfield 37, 3), (9, .if_icmp .ge 21, 3), (12, .iload_n 1, 1), (13, .aload_n 0, 1), (14, .getfield 21, 3), (17, .iload_n 2, 1), (18, .iaload, 1), (19, .invokestatic 63, 3), (22, .iadd, 1), (23, .istore_n 1, 1), (24, .iinc 2 1, 3), (27, .goto (-23), 3), (30, .iload_n 1, 1), (31, .ireturn, 1)]
theorem D_X2_sittings : ∀ q ∈ T_X2_sittings, decode cX2_sittings q.1 = .ok q.2 := by decide +kernel
theorem V_X2_sittings : Vy yX2_sittings cX2_sittings 3 (some .int) 0 := ⟨k74, k22, by decide +kernel⟩
theorem i_X2_sittings : Cond.instanceMethod yX2_sittings ∈ TB := k306
theorem s_X2_sittings : Cond.selects yX2_sittings.cls yX2_sittings yX2_sittings ∈ TB := k307
noncomputable def f_X2_sittings_b4 (vS : JV) (r4 : Int32 → Int32 → Option (Int32)) (x1_4 : Int32) (x2_4 : Int32) : Option (Int32) :=
  (if (vS 8 0) ≤ x2_4 then some x1_4 else gd (inb x2_4 16) ((f_J6_bitCount_0f7a4 ((vS 3) (Int32.toNatClampNeg x2_4))).bind (fun q3 => r4 (x1_4 + q3) (x2_4 + (1 : Int32)))))
noncomputable def f_X2_sittings_L4 (vS : JV) (n : Nat) (x1_4 : Int32) (x2_4 : Int32) : Option (Int32) :=
  lp (fun (rec : Int32 × Int32 → Option (Int32)) a => f_X2_sittings_b4 vS (fun x1_4 x2_4 => rec (x1_4, x2_4)) a.1 a.2) n (x1_4, x2_4)
noncomputable def f_X2_sittings (vS : JV)  : Option (Int32) :=
  f_X2_sittings_L4 vS  FU (0 : Int32) (0 : Int32)
set_option maxRecDepth 100000 in
set_option maxHeartbeats 4000000 in
theorem c_X2_sittings {l : Launch} {G : JG} (aS : Nat → Nat) (vS : JV)  {Rz : Int32} (h : f_X2_sittings vS = some Rz) : JM l G yX2_sittings cX2_sittings 3 (some .int) 1 20 [.ref (aS 0)] (wSch G aS (vS 0) (vS 1) (vS 2) (vS 3) (vS 4) (vS 5) (vS 6) (vS 7) (vS 8 0) (vS 9 0)) (wSch G aS (vS 0) (vS 1) (vS 2) (vS 3) (vS 4) (vS 5) (vS 6) (vS 7) (vS 8 0) (vS 9 0)) (some (.int Rz)) := by
  refine JM.of (own := RX2) (tb := T_X2_sittings) (by decide) (Nat.le_of_ble_eq_true rfl) D_X2_sittings rfl (fun X C => ?_)
  refine J_sub (lv' := [(0, .ref (aS 0))]) [0] rfl ?_
  have B4 : ∀ (n4 : Nat) (x1_4 : Int32) (x2_4 : Int32), f_X2_sittings_L4 vS n4 x1_4 x2_4 = some Rz → J l { frames := 1, cells := 0, slots := 0, locals := 20 } G 3 X (QM X G 0 0 (some (.int Rz)) (wSch G aS (vS 0) (vS 1) (vS 2) (vS 3) (vS 4) (vS 5) (vS 6) (vS 7) (vS 8 0) (vS 9 0))) 0 0 4 [(0, .ref (aS 0)), (1, .int x1_4), (2, .int x2_4)] [] (wSch G aS (vS 0) (vS 1) (vS 2) (vS 3) (vS 4) (vS 5) (vS 6) (vS 7) (vS 8 0) (vS 9 0)) := by
    intro  n4
    induction n4 with
    | zero =>
      intro x1_4 x2_4 h
      exact (no_none rfl h).elim
    | succ n4 ih4 =>
      intro x1_4 x2_4 h
      replace h : f_X2_sittings_b4 vS (fun x1_4 x2_4 => f_X2_sittings_L4 vS n4 x1_4 x2_4) x1_4 x2_4 = some Rz := h
      unfold f_X2_sittings_b4 at h
      refine J_iload_n (pc := 4) C 4 rfl 2 rfl rfl ?_
      refine J_aload_n (pc := 5) C 5 rfl 0 rfl rfl ?_
      refine J_get (pc := 6) (v := .int (vS 8 0)) C 6 rfl TB_l2 rfl 0 8 rfl (by decide) k14 rfl rfl ?_
      refine J_icmp_ge (pc := 9) (tgt := 30) C 7 rfl rfl (fun c1 => ?_) (fun c1 => ?_)
      · rw [if_pos c1] at h
        refine J_iload_n (pc := 30) C 18 rfl 1 rfl rfl ?_
        cases h
        exact J_iret (pc := 31) C 19 rfl
      · rw [if_neg c1] at h
        refine J_iload_n (pc := 12) C 8 rfl 1 rfl rfl ?_
        refine J_aload_n (pc := 13) C 9 rfl 0 rfl rfl ?_
        refine J_get (pc := 14) (v := .ref (aS 4)) C 10 rfl TB_l2 rfl 0 3 rfl (by decide) k8 rfl rfl ?_
        refine J_iload_n (pc := 17) C 11 rfl 2 rfl rfl ?_
        obtain ⟨g2, h⟩ := gd_some h
        refine J_iald (pc := 18) (f := (vS 3)) (v := ((vS 3) (Int32.toNatClampNeg x2_4))) C 12 rfl 4 rfl g2 rfl ?_
        obtain ⟨q3, hq3, h⟩ := bnd h
        refine J_callS (pc := 19) (st2 := [.int x1_4]) (st3 := [.int q3, .int x1_4]) (ws2 := (wSch G aS (vS 0) (vS 1) (vS 2) (vS 3) (vS 4) (vS 5) (vS 6) (vS 7) (vS 8 0) (vS 9 0))) C 13 rfl (c_J6_bitCount_0f7a4 ((vS 3) (Int32.toNatClampNeg x2_4)) hq3) V_J6_bitCount_0f7a4 k75 t_J6_bitCount_0f7a4 rfl rfl ⟨Nat.le_of_ble_eq_true rfl, Nat.le_of_ble_eq_true rfl⟩ (Nat.le_of_ble_eq_true rfl) ⟨Nat.le_refl _, Nat.le_refl _⟩ (isC := []) (isR := [0, 1, 2, 3, 4, 5, 6, 7, 8]) (N := 9) ⟨rfl, by decide +kernel, rfl, by decide +kernel, rfl, ⟨⟨_, rfl, rfl⟩, ⟨⟨_, rfl, rfl⟩, ⟨⟨_, rfl, rfl⟩, ⟨⟨_, rfl, rfl⟩, ⟨⟨_, rfl, rfl⟩, ⟨⟨_, rfl, rfl⟩, ⟨⟨_, rfl, rfl⟩, ⟨⟨_, rfl, rfl⟩, ⟨⟨_, rfl, rfl⟩, trivial⟩⟩⟩⟩⟩⟩⟩⟩⟩⟩ rfl ?_
        refine J_iadd (pc := 22) C 14 rfl  ?_
        refine J_istore_n (pc := 23) (lv' := [(1, .int (x1_4 + q3)), (0, .ref (aS 0)), (2, .int x2_4)]) C 15 rfl rfl (by decide) rfl ?_
        refine J_iinc (pc := 24) (v := (x2_4 + (1 : Int32))) (lv' := [(2, .int (x2_4 + (1 : Int32))), (1, .int (x1_4 + q3)), (0, .ref (aS 0))]) C 16 rfl 2 rfl rfl (by decide) rfl ?_
        refine J_goto (pc := 27) (tgt := 4) C 17 rfl rfl ?_
        exact J_sub [2, 1, 0] rfl (ih4 (x1_4 + q3) (x2_4 + (1 : Int32)) h)
  unfold f_X2_sittings at h
  refine J_iconst (pc := 0) (v := (0 : Int32)) C 0 rfl rfl ?_
  refine J_istore_n (pc := 1) (lv' := [(1, .int (0 : Int32)), (0, .ref (aS 0))]) C 1 rfl rfl (by decide) rfl ?_
  refine J_iconst (pc := 2) (v := (0 : Int32)) C 2 rfl rfl ?_
  refine J_istore_n (pc := 3) (lv' := [(2, .int (0 : Int32)), (1, .int (0 : Int32)), (0, .ref (aS 0))]) C 3 rfl rfl (by decide) rfl ?_
  exact J_sub [2, 1, 0] rfl (B4  FU (0 : Int32) (0 : Int32) h)
def T_X2_minutesOf : List (Nat × ClassFile.Instr × Nat) := [(0, .iconst 0, 1), (1, .istore_n 2, 1), (2, .iconst 0, 1), (3, .istore_n 3, 1), (4, .iload_n 3, 1), (5, .bipush 6, 2), (7, .if_icmp .ge 27, 3), (10, .aload_n 0, 1), (11, .iload_n 1, 1), (12, .iload_n 3, 1), (13, .invokevirtual 68, 3), (16, .ifCond .eq 12, 3), (19, .iload_n 2, 1), (20, .aload_n 0, 1), (21, .iload_n 1, 1), (22, .iload_n 3, 1), (23, .invokevirtual 56, 3), (26, .iadd, 1), (27, .istore_n 2, 1), (28, .iinc 3 1, 3), (31, .goto (-27), 3), (34, .iload_n 2, 1), (35, .ireturn, 1)]
theorem D_X2_minutesOf : ∀ q ∈ T_X2_minutesOf, decode cX2_minutesOf q.1 = .ok q.2 := by decide +kernel
theorem V_X2_minutesOf : Vy yX2_minutesOf cX2_minutesOf 4 (some .int) 1 := ⟨k78, k22, by decide +kernel⟩
theorem i_X2_minutesOf : Cond.instanceMethod yX2_minutesOf ∈ TB := k273
theorem s_X2_minutesOf : Cond.selects yX2_minutesOf.cls yX2_minutesOf yX2_minutesOf ∈ TB := k274
noncomputable def f_X2_minutesOf_b4 (vS : JV) (x1_4 : Int32) (r4 : Int32 → Int32 → Option (Int32)) (x2_4 : Int32) (x3_4 : Int32) : Option (Int32) :=
  (if (6 : Int32) ≤ x3_4 then some x2_4 else (f_X2_sits vS x1_4 x3_4).bind (fun q2 => (if q2 = 0 then r4 x2_4 (x3_4 + (1 : Int32)) else (f_X2_lengthOf vS x1_4 x3_4).bind (fun q4 => r4 (x2_4 + q4) (x3_4 + (1 : Int32))))))
noncomputable def f_X2_minutesOf_L4 (vS : JV) (x1_4 : Int32) (n : Nat) (x2_4 : Int32) (x3_4 : Int32) : Option (Int32) :=
  lp (fun (rec : Int32 × Int32 → Option (Int32)) a => f_X2_minutesOf_b4 vS x1_4 (fun x2_4 x3_4 => rec (x2_4, x3_4)) a.1 a.2) n (x2_4, x3_4)
noncomputable def f_X2_minutesOf (vS : JV) (x1 : Int32) : Option (Int32) :=
  f_X2_minutesOf_L4 vS x1 FU (0 : Int32) (0 : Int32)
set_option maxRecDepth 100000 in
set_option maxHeartbeats 4000000 in
theorem c_X2_minutesOf {l : Launch} {G : JG} (aS : Nat → Nat) (vS : JV) (x1 : Int32) {Rz : Int32} (h : f_X2_minutesOf vS x1 = some Rz) : JM l G yX2_minutesOf cX2_minutesOf 4 (some .int) 2 43 [.ref (aS 0), .int x1] (wSch G aS (vS 0) (vS 1) (vS 2) (vS 3) (vS 4) (vS 5) (vS 6) (vS 7) (vS 8 0) (vS 9 0)) (wSch G aS (vS 0) (vS 1) (vS 2) (vS 3) (vS 4) (vS 5) (vS 6) (vS 7) (vS 8 0) (vS 9 0)) (some (.int Rz)) := by
  refine JM.of (own := RX2) (tb := T_X2_minutesOf) (by decide) (Nat.le_of_ble_eq_true rfl) D_X2_minutesOf rfl (fun X C => ?_)
  refine J_sub (lv' := [(0, .ref (aS 0)), (1, .int x1)]) [0, 1] rfl ?_
  have B4 : ∀ (x1_4 : Int32) (n4 : Nat) (x2_4 : Int32) (x3_4 : Int32), f_X2_minutesOf_L4 vS x1_4 n4 x2_4 x3_4 = some Rz → J l { frames := 2, cells := 0, slots := 0, locals := 43 } G 4 X (QM X G 0 0 (some (.int Rz)) (wSch G aS (vS 0) (vS 1) (vS 2) (vS 3) (vS 4) (vS 5) (vS 6) (vS 7) (vS 8 0) (vS 9 0))) 0 0 4 [(0, .ref (aS 0)), (1, .int x1_4), (2, .int x2_4), (3, .int x3_4)] [] (wSch G aS (vS 0) (vS 1) (vS 2) (vS 3) (vS 4) (vS 5) (vS 6) (vS 7) (vS 8 0) (vS 9 0)) := by
    intro x1_4 n4
    induction n4 with
    | zero =>
      intro x2_4 x3_4 h
      exact (no_none rfl h).elim
    | succ n4 ih4 =>
      intro x2_4 x3_4 h
      replace h : f_X2_minutesOf_b4 vS x1_4 (fun x2_4 x3_4 => f_X2_minutesOf_L4 vS x1_4 n4 x2_4 x3_4) x2_4 x3_4 = some Rz := h
      unfold f_X2_minutesOf_b4 at h
      refine J_iload_n (pc := 4) C 4 rfl 3 rfl rfl ?_
      refine J_bipush (pc := 5) (v := (6 : Int32)) C 5 rfl rfl ?_
      refine J_icmp_ge (pc := 7) (tgt := 34) C 6 rfl rfl (fun c1 => ?_) (fun c1 => ?_)
      · rw [if_pos c1] at h
        refine J_iload_n (pc := 34) C 21 rfl 2 rfl rfl ?_
        cases h
        exact J_iret (pc := 35) C 22 rfl
      · rw [if_neg c1] at h
        refine J_aload_n (pc := 10) C 7 rfl 0 rfl rfl ?_
        refine J_iload_n (pc := 11) C 8 rfl 1 rfl rfl ?_
        refine J_iload_n (pc := 12) C 9 rfl 3 rfl rfl ?_
        obtain ⟨q2, hq2, h⟩ := bnd h
        refine J_callV (pc := 13) (st2 := []) (st3 := [.int q2]) (ws2 := (wSch G aS (vS 0) (vS 1) (vS 2) (vS 3) (vS 4) (vS 5) (vS 6) (vS 7) (vS 8 0) (vS 9 0))) C 10 rfl (c_X2_sits aS vS x1_4 x3_4 hq2) V_X2_sits k79 i_X2_sits s_X2_sits rfl rfl ⟨Nat.le_of_ble_eq_true rfl, Nat.le_of_ble_eq_true rfl⟩ (Nat.le_of_ble_eq_true rfl) ⟨Nat.le_refl _, Nat.le_refl _⟩ 0 2 rfl rfl rfl (isC := [0, 1, 2, 3, 4, 5, 6, 7, 8]) (isR := []) (N := 9) ⟨rfl, by decide +kernel, rfl, by decide +kernel, rfl, trivial⟩ rfl ?_
        refine J_if_eq (pc := 16) (tgt := 28) C 11 rfl rfl (fun c3 => ?_) (fun c3 => ?_)
        · rw [if_pos c3] at h
          refine J_iinc (pc := 28) (v := (x3_4 + (1 : Int32))) (lv' := [(3, .int (x3_4 + (1 : Int32))), (0, .ref (aS 0)), (1, .int x1_4), (2, .int x2_4)]) C 19 rfl 3 rfl rfl (by decide) rfl ?_
          refine J_goto (pc := 31) (tgt := 4) C 20 rfl rfl ?_
          exact J_sub [1, 2, 3, 0] rfl (ih4 x2_4 (x3_4 + (1 : Int32)) h)
        · rw [if_neg c3] at h
          refine J_iload_n (pc := 19) C 12 rfl 2 rfl rfl ?_
          refine J_aload_n (pc := 20) C 13 rfl 0 rfl rfl ?_
          refine J_iload_n (pc := 21) C 14 rfl 1 rfl rfl ?_
          refine J_iload_n (pc := 22) C 15 rfl 3 rfl rfl ?_
          obtain ⟨q4, hq4, h⟩ := bnd h
          refine J_callV (pc := 23) (st2 := [.int x2_4]) (st3 := [.int q4, .int x2_4]) (ws2 := (wSch G aS (vS 0) (vS 1) (vS 2) (vS 3) (vS 4) (vS 5) (vS 6) (vS 7) (vS 8 0) (vS 9 0))) C 16 rfl (c_X2_lengthOf aS vS x1_4 x3_4 hq4) V_X2_lengthOf k63 i_X2_lengthOf s_X2_lengthOf rfl rfl ⟨Nat.le_of_ble_eq_true rfl, Nat.le_of_ble_eq_true rfl⟩ (Nat.le_of_ble_eq_true rfl) ⟨Nat.le_refl _, Nat.le_refl _⟩ 0 2 rfl rfl rfl (isC := [0, 1, 2, 3, 4, 5, 6, 7, 8]) (isR := []) (N := 9) ⟨rfl, by decide +kernel, rfl, by decide +kernel, rfl, trivial⟩ rfl ?_
          refine J_iadd (pc := 26) C 17 rfl  ?_
          refine J_istore_n (pc := 27) (lv' := [(2, .int (x2_4 + q4)), (0, .ref (aS 0)), (1, .int x1_4), (3, .int x3_4)]) C 18 rfl rfl (by decide) rfl ?_
          refine J_iinc (pc := 28) (v := (x3_4 + (1 : Int32))) (lv' := [(3, .int (x3_4 + (1 : Int32))), (2, .int (x2_4 + q4)), (0, .ref (aS 0)), (1, .int x1_4)]) C 19 rfl 3 rfl rfl (by decide) rfl ?_
          refine J_goto (pc := 31) (tgt := 4) C 20 rfl rfl ?_
          exact J_sub [2, 3, 1, 0] rfl (ih4 (x2_4 + q4) (x3_4 + (1 : Int32)) h)
  unfold f_X2_minutesOf at h
  refine J_iconst (pc := 0) (v := (0 : Int32)) C 0 rfl rfl ?_
  refine J_istore_n (pc := 1) (lv' := [(2, .int (0 : Int32)), (0, .ref (aS 0)), (1, .int x1)]) C 1 rfl rfl (by decide) rfl ?_
  refine J_iconst (pc := 2) (v := (0 : Int32)) C 2 rfl rfl ?_
  refine J_istore_n (pc := 3) (lv' := [(3, .int (0 : Int32)), (2, .int (0 : Int32)), (0, .ref (aS 0)), (1, .int x1)]) C 3 rfl rfl (by decide) rfl ?_
  exact J_sub [2, 3, 1, 0] rfl (B4 x1 FU (0 : Int32) (0 : Int32) h)
def T_X2_pupilsOf : List (Nat × ClassFile.Instr × Nat) := [(0, .iconst 0, 1), (1, .istore_n 2, 1), (2, .iconst 0, 1), (3, .istore_n 3, 1), (4, .iload_n 3, 1), (5, .aload_n 0, 1), (6, .getfield 37, 3), (9, .if_icmp .ge 24, 3), (12, .aload_n 0, 1), (13, .iload_n 3, 1), (14, .iload_n 1, 1), (15, .invokevirtual 68, 3), (18, .ifCond .eq 9, 3), (21, .iload_n 2, 1), (22, .iconst 1, 1), (23, .iload_n 3, 1), (24, .ishl, 1), (25, .ior, 1), (26, .istore_n 2, 1), (27, .iinc 3 1, 3), (30, .goto (-26), 3), (33, .iload_n 2, 1), (34, .ireturn, 1)]
theorem D_X2_pupilsOf : ∀ q ∈ T_X2_pupilsOf, decode cX2_pupilsOf q.1 = .ok q.2 := by decide +kernel
theorem V_X2_pupilsOf : Vy yX2_pupilsOf cX2_pupilsOf 4 (some .int) 1 := ⟨k82, k22, by decide +kernel⟩
theorem i_X2_pupilsOf : Cond.instanceMethod yX2_pupilsOf ∈ TB := k277
theorem s_X2_pupilsOf : Cond.selects yX2_pupilsOf.cls yX2_pupilsOf yX2_pupilsOf ∈ TB := k278
noncomputable def f_X2_pupilsOf_b4 (vS : JV) (x1_4 : Int32) (r4 : Int32 → Int32 → Option (Int32)) (x2_4 : Int32) (x3_4 : Int32) : Option (Int32) :=
  (if (vS 8 0) ≤ x3_4 then some x2_4 else (f_X2_sits vS x3_4 x1_4).bind (fun q2 => (if q2 = 0 then r4 x2_4 (x3_4 + (1 : Int32)) else r4 (x2_4 ||| ((1 : Int32) <<< (x3_4 &&& 31))) (x3_4 + (1 : Int32)))))
noncomputable def f_X2_pupilsOf_L4 (vS : JV) (x1_4 : Int32) (n : Nat) (x2_4 : Int32) (x3_4 : Int32) : Option (Int32) :=
  lp (fun (rec : Int32 × Int32 → Option (Int32)) a => f_X2_pupilsOf_b4 vS x1_4 (fun x2_4 x3_4 => rec (x2_4, x3_4)) a.1 a.2) n (x2_4, x3_4)
noncomputable def f_X2_pupilsOf (vS : JV) (x1 : Int32) : Option (Int32) :=
  f_X2_pupilsOf_L4 vS x1 FU (0 : Int32) (0 : Int32)
set_option maxRecDepth 100000 in
set_option maxHeartbeats 4000000 in
theorem c_X2_pupilsOf {l : Launch} {G : JG} (aS : Nat → Nat) (vS : JV) (x1 : Int32) {Rz : Int32} (h : f_X2_pupilsOf vS x1 = some Rz) : JM l G yX2_pupilsOf cX2_pupilsOf 4 (some .int) 2 43 [.ref (aS 0), .int x1] (wSch G aS (vS 0) (vS 1) (vS 2) (vS 3) (vS 4) (vS 5) (vS 6) (vS 7) (vS 8 0) (vS 9 0)) (wSch G aS (vS 0) (vS 1) (vS 2) (vS 3) (vS 4) (vS 5) (vS 6) (vS 7) (vS 8 0) (vS 9 0)) (some (.int Rz)) := by
  refine JM.of (own := RX2) (tb := T_X2_pupilsOf) (by decide) (Nat.le_of_ble_eq_true rfl) D_X2_pupilsOf rfl (fun X C => ?_)
  refine J_sub (lv' := [(0, .ref (aS 0)), (1, .int x1)]) [0, 1] rfl ?_
  have B4 : ∀ (x1_4 : Int32) (n4 : Nat) (x2_4 : Int32) (x3_4 : Int32), f_X2_pupilsOf_L4 vS x1_4 n4 x2_4 x3_4 = some Rz → J l { frames := 2, cells := 0, slots := 0, locals := 43 } G 4 X (QM X G 0 0 (some (.int Rz)) (wSch G aS (vS 0) (vS 1) (vS 2) (vS 3) (vS 4) (vS 5) (vS 6) (vS 7) (vS 8 0) (vS 9 0))) 0 0 4 [(0, .ref (aS 0)), (1, .int x1_4), (2, .int x2_4), (3, .int x3_4)] [] (wSch G aS (vS 0) (vS 1) (vS 2) (vS 3) (vS 4) (vS 5) (vS 6) (vS 7) (vS 8 0) (vS 9 0)) := by
    intro x1_4 n4
    induction n4 with
    | zero =>
      intro x2_4 x3_4 h
      exact (no_none rfl h).elim
    | succ n4 ih4 =>
      intro x2_4 x3_4 h
      replace h : f_X2_pupilsOf_b4 vS x1_4 (fun x2_4 x3_4 => f_X2_pupilsOf_L4 vS x1_4 n4 x2_4 x3_4) x2_4 x3_4 = some Rz := h
      unfold f_X2_pupilsOf_b4 at h
      refine J_iload_n (pc := 4) C 4 rfl 3 rfl rfl ?_
      refine J_aload_n (pc := 5) C 5 rfl 0 rfl rfl ?_
      refine J_get (pc := 6) (v := .int (vS 8 0)) C 6 rfl TB_l2 rfl 0 8 rfl (by decide) k14 rfl rfl ?_
      refine J_icmp_ge (pc := 9) (tgt := 33) C 7 rfl rfl (fun c1 => ?_) (fun c1 => ?_)
      · rw [if_pos c1] at h
        refine J_iload_n (pc := 33) C 21 rfl 2 rfl rfl ?_
        cases h
        exact J_iret (pc := 34) C 22 rfl
      · rw [if_neg c1] at h
        refine J_aload_n (pc := 12) C 8 rfl 0 rfl rfl ?_
        refine J_iload_n (pc := 13) C 9 rfl 3 rfl rfl ?_
        refine J_iload_n (pc := 14) C 10 rfl 1 rfl rfl ?_
        obtain ⟨q2, hq2, h⟩ := bnd h
        refine J_callV (pc := 15) (st2 := []) (st3 := [.int q2]) (ws2 := (wSch G aS (vS 0) (vS 1) (vS 2) (vS 3) (vS 4) (vS 5) (vS 6) (vS 7) (vS 8 0) (vS 9 0))) C 11 rfl (c_X2_sits aS vS x3_4 x1_4 hq2) V_X2_sits k79 i_X2_sits s_X2_sits rfl rfl ⟨Nat.le_of_ble_eq_true rfl, Nat.le_of_ble_eq_true rfl⟩ (Nat.le_of_ble_eq_true rfl) ⟨Nat.le_refl _, Nat.le_refl _⟩ 0 2 rfl rfl rfl (isC := [0, 1, 2, 3, 4, 5, 6, 7, 8]) (isR := []) (N := 9) ⟨rfl, by decide +kernel, rfl, by decide +kernel, rfl, trivial⟩ rfl ?_
        refine J_if_eq (pc := 18) (tgt := 27) C 12 rfl rfl (fun c3 => ?_) (fun c3 => ?_)
        · rw [if_pos c3] at h
          refine J_iinc (pc := 27) (v := (x3_4 + (1 : Int32))) (lv' := [(3, .int (x3_4 + (1 : Int32))), (0, .ref (aS 0)), (1, .int x1_4), (2, .int x2_4)]) C 19 rfl 3 rfl rfl (by decide) rfl ?_
          refine J_goto (pc := 30) (tgt := 4) C 20 rfl rfl ?_
          exact J_sub [1, 2, 3, 0] rfl (ih4 x2_4 (x3_4 + (1 : Int32)) h)
        · rw [if_neg c3] at h
          refine J_iload_n (pc := 21) C 13 rfl 2 rfl rfl ?_
          refine J_iconst (pc := 22) (v := (1 : Int32)) C 14 rfl rfl ?_
          refine J_iload_n (pc := 23) C 15 rfl 3 rfl rfl ?_
          refine J_ishl (pc := 24) C 16 rfl  ?_
          refine J_ior (pc := 25) C 17 rfl  ?_
          refine J_istore_n (pc := 26) (lv' := [(2, .int (x2_4 ||| ((1 : Int32) <<< (x3_4 &&& 31)))), (0, .ref (aS 0)), (1, .int x1_4), (3, .int x3_4)]) C 18 rfl rfl (by decide) rfl ?_
          refine J_iinc (pc := 27) (v := (x3_4 + (1 : Int32))) (lv' := [(3, .int (x3_4 + (1 : Int32))), (2, .int (x2_4 ||| ((1 : Int32) <<< (x3_4 &&& 31)))), (0, .ref (aS 0)), (1, .int x1_4)]) C 19 rfl 3 rfl rfl (by decide) rfl ?_
          refine J_goto (pc := 30) (tgt := 4) C 20 rfl rfl ?_
          exact J_sub [2, 3, 1, 0] rfl (ih4 (x2_4 ||| ((1 : Int32) <<< (x3_4 &&& 31))) (x3_4 + (1 : Int32)) h)
  unfold f_X2_pupilsOf at h
  refine J_iconst (pc := 0) (v := (0 : Int32)) C 0 rfl rfl ?_
  refine J_istore_n (pc := 1) (lv' := [(2, .int (0 : Int32)), (0, .ref (aS 0)), (1, .int x1)]) C 1 rfl rfl (by decide) rfl ?_
  refine J_iconst (pc := 2) (v := (0 : Int32)) C 2 rfl rfl ?_
  refine J_istore_n (pc := 3) (lv' := [(3, .int (0 : Int32)), (2, .int (0 : Int32)), (0, .ref (aS 0)), (1, .int x1)]) C 3 rfl rfl (by decide) rfl ?_
  exact J_sub [2, 3, 1, 0] rfl (B4 x1 FU (0 : Int32) (0 : Int32) h)
def T_X2_clashingPapers : List (Nat × ClassFile.Instr × Nat) := [(0, .iconst 0, 1), (1, .istore_n 3, 1), (2, .iconst 0, 1), (3, .istore 4, 2), (5, .iload 4, 2), (7, .bipush 6, 2), (9, .if_icmp .ge 62, 3), (12, .iload 4, 2), (14, .iload_n 2, 1), (15, .if_icmp .eq 50, 3), (18, .aload_n 0, 1), (19, .iload_n 1, 1), (20, .iload 4, 2), (22, .invokevirtual 68, 3), (25, .ifCond .eq 40, 3), (28, .aload_n 0, 1), (29, .iload_n 1, 1), (30, .iload_n 2, 1), (31, .invokevirtual 60, 3), (34, .aload_n 0, 1), (35, .iload 4, 2), (37, .invokevirtual 52, 3), (40, .if_icmp .le 25, 3), (43, .aload_n 0, 1), (44, .iload_n 1, 1), (45, .iload 4, 2), (47, .invokevirtual 60, 3), (50, .aload_n 0, 1), (51, .iload_n 2, 1), (52, .invokevirtual 52, 3), (55, .if_icmp .le 10, 3), (58, .iload_n 3, 1), (59, .iconst 1, 1), (60, .iload 4, 2), (62, .ishl, 1), (63, .ior, 1), (64, .istore_n 3, 1), (65, .iinc 4 1, 3), (68, .goto (-63), 3), (71, .iload_n 3, 1), (72, .ireturn, 1)]
theorem D_X2_clashingPapers : ∀ q ∈ T_X2_clashingPapers, decode cX2_clashingPapers q.1 = .ok q.2 := by decide +kernel
theorem V_X2_clashingPapers : Vy yX2_clashingPapers cX2_clashingPapers 5 (some .int) 2 := ⟨k83, k22, by decide +kernel⟩
theorem i_X2_clashingPapers : Cond.instanceMethod yX2_clashingPapers ∈ TB := k85
theorem s_X2_clashingPapers : Cond.selects yX2_clashingPapers.cls yX2_clashingPapers yX2_clashingPapers ∈ TB := k86
noncomputable def f_X2_clashingPapers_b5 (vS : JV) (x1_5 : Int32) (x2_5 : Int32) (r5 : Int32 → Int32 → Option (Int32)) (x3_5 : Int32) (x4_5 : Int32) : Option (Int32) :=
  (if (6 : Int32) ≤ x4_5 then some x3_5 else (if x4_5 = x2_5 then r5 x3_5 (x4_5 + (1 : Int32)) else (f_X2_sits vS x1_5 x4_5).bind (fun q3 => (if q3 = 0 then r5 x3_5 (x4_5 + (1 : Int32)) else (f_X2_endOf vS x1_5 x2_5).bind (fun q5 => (f_X2_beginOf vS x4_5).bind (fun q6 => (if q5 ≤ q6 then r5 x3_5 (x4_5 + (1 : Int32)) else (f_X2_endOf vS x1_5 x4_5).bind (fun q8 => (f_X2_beginOf vS x2_5).bind (fun q9 => (if q8 ≤ q9 then r5 x3_5 (x4_5 + (1 : Int32)) else r5 (x3_5 ||| ((1 : Int32) <<< (x4_5 &&& 31))) (x4_5 + (1 : Int32))))))))))))
noncomputable def f_X2_clashingPapers_L5 (vS : JV) (x1_5 : Int32) (x2_5 : Int32) (n : Nat) (x3_5 : Int32) (x4_5 : Int32) : Option (Int32) :=
  lp (fun (rec : Int32 × Int32 → Option (Int32)) a => f_X2_clashingPapers_b5 vS x1_5 x2_5 (fun x3_5 x4_5 => rec (x3_5, x4_5)) a.1 a.2) n (x3_5, x4_5)
noncomputable def f_X2_clashingPapers (vS : JV) (x1 : Int32) (x2 : Int32) : Option (Int32) :=
  f_X2_clashingPapers_L5 vS x1 x2 FU (0 : Int32) (0 : Int32)
set_option maxRecDepth 100000 in
set_option maxHeartbeats 4000000 in
theorem c_X2_clashingPapers {l : Launch} {G : JG} (aS : Nat → Nat) (vS : JV) (x1 : Int32) (x2 : Int32) {Rz : Int32} (h : f_X2_clashingPapers vS x1 x2 = some Rz) : JM l G yX2_clashingPapers cX2_clashingPapers 5 (some .int) 2 44 [.ref (aS 0), .int x1, .int x2] (wSch G aS (vS 0) (vS 1) (vS 2) (vS 3) (vS 4) (vS 5) (vS 6) (vS 7) (vS 8 0) (vS 9 0)) (wSch G aS (vS 0) (vS 1) (vS 2) (vS 3) (vS 4) (vS 5) (vS 6) (vS 7) (vS 8 0) (vS 9 0)) (some (.int Rz)) := by
  refine JM.of (own := RX2) (tb := T_X2_clashingPapers) (by decide) (Nat.le_of_ble_eq_true rfl) D_X2_clashingPapers rfl (fun X C => ?_)
  refine J_sub (lv' := [(0, .ref (aS 0)), (1, .int x1), (2, .int x2)]) [0, 1, 2] rfl ?_
  have B5 : ∀ (x1_5 : Int32) (x2_5 : Int32) (n5 : Nat) (x3_5 : Int32) (x4_5 : Int32), f_X2_clashingPapers_L5 vS x1_5 x2_5 n5 x3_5 x4_5 = some Rz → J l { frames := 2, cells := 0, slots := 0, locals := 44 } G 5 X (QM X G 0 0 (some (.int Rz)) (wSch G aS (vS 0) (vS 1) (vS 2) (vS 3) (vS 4) (vS 5) (vS 6) (vS 7) (vS 8 0) (vS 9 0))) 0 0 5 [(0, .ref (aS 0)), (1, .int x1_5), (2, .int x2_5), (3, .int x3_5), (4, .int x4_5)] [] (wSch G aS (vS 0) (vS 1) (vS 2) (vS 3) (vS 4) (vS 5) (vS 6) (vS 7) (vS 8 0) (vS 9 0)) := by
    intro x1_5 x2_5 n5
    induction n5 with
    | zero =>
      intro x3_5 x4_5 h
      exact (no_none rfl h).elim
    | succ n5 ih5 =>
      intro x3_5 x4_5 h
      replace h : f_X2_clashingPapers_b5 vS x1_5 x2_5 (fun x3_5 x4_5 => f_X2_clashingPapers_L5 vS x1_5 x2_5 n5 x3_5 x4_5) x3_5 x4_5 = some Rz := h
      unfold f_X2_clashingPapers_b5 at h
      refine J_iload (pc := 5) C 4 rfl 4 rfl ?_
      refine J_bipush (pc := 7) (v := (6 : Int32)) C 5 rfl rfl ?_
      refine J_icmp_ge (pc := 9) (tgt := 71) C 6 rfl rfl (fun c1 => ?_) (fun c1 => ?_)
      · rw [if_pos c1] at h
        refine J_iload_n (pc := 71) C 39 rfl 3 rfl rfl ?_
        cases h
        exact J_iret (pc := 72) C 40 rfl
      · rw [if_neg c1] at h
        refine J_iload (pc := 12) C 7 rfl 4 rfl ?_
        refine J_iload_n (pc := 14) C 8 rfl 2 rfl rfl ?_
        refine J_icmp_eq (pc := 15) (tgt := 65) C 9 rfl rfl (fun c2 => ?_) (fun c2 => ?_)
        · rw [if_pos c2] at h
          refine J_iinc (pc := 65) (v := (x4_5 + (1 : Int32))) (lv' := [(4, .int (x4_5 + (1 : Int32))), (0, .ref (aS 0)), (1, .int x1_5), (2, .int x2_5), (3, .int x3_5)]) C 37 rfl 4 rfl rfl (by decide) rfl ?_
          refine J_goto (pc := 68) (tgt := 5) C 38 rfl rfl ?_
          exact J_sub [1, 2, 3, 4, 0] rfl (ih5 x3_5 (x4_5 + (1 : Int32)) h)
        · rw [if_neg c2] at h
          refine J_aload_n (pc := 18) C 10 rfl 0 rfl rfl ?_
          refine J_iload_n (pc := 19) C 11 rfl 1 rfl rfl ?_
          refine J_iload (pc := 20) C 12 rfl 4 rfl ?_
          obtain ⟨q3, hq3, h⟩ := bnd h
          refine J_callV (pc := 22) (st2 := []) (st3 := [.int q3]) (ws2 := (wSch G aS (vS 0) (vS 1) (vS 2) (vS 3) (vS 4) (vS 5) (vS 6) (vS 7) (vS 8 0) (vS 9 0))) C 13 rfl (c_X2_sits aS vS x1_5 x4_5 hq3) V_X2_sits k79 i_X2_sits s_X2_sits rfl rfl ⟨Nat.le_of_ble_eq_true rfl, Nat.le_of_ble_eq_true rfl⟩ (Nat.le_of_ble_eq_true rfl) ⟨Nat.le_refl _, Nat.le_refl _⟩ 0 2 rfl rfl rfl (isC := [0, 1, 2, 3, 4, 5, 6, 7, 8]) (isR := []) (N := 9) ⟨rfl, by decide +kernel, rfl, by decide +kernel, rfl, trivial⟩ rfl ?_
          refine J_if_eq (pc := 25) (tgt := 65) C 14 rfl rfl (fun c4 => ?_) (fun c4 => ?_)
          · rw [if_pos c4] at h
            refine J_iinc (pc := 65) (v := (x4_5 + (1 : Int32))) (lv' := [(4, .int (x4_5 + (1 : Int32))), (0, .ref (aS 0)), (1, .int x1_5), (2, .int x2_5), (3, .int x3_5)]) C 37 rfl 4 rfl rfl (by decide) rfl ?_
            refine J_goto (pc := 68) (tgt := 5) C 38 rfl rfl ?_
            exact J_sub [1, 2, 3, 4, 0] rfl (ih5 x3_5 (x4_5 + (1 : Int32)) h)
          · rw [if_neg c4] at h
            refine J_aload_n (pc := 28) C 15 rfl 0 rfl rfl ?_
            refine J_iload_n (pc := 29) C 16 rfl 1 rfl rfl ?_
            refine J_iload_n (pc := 30) C 17 rfl 2 rfl rfl ?_
            obtain ⟨q5, hq5, h⟩ := bnd h
            refine J_callV (pc := 31) (st2 := []) (st3 := [.int q5]) (ws2 := (wSch G aS (vS 0) (vS 1) (vS 2) (vS 3) (vS 4) (vS 5) (vS 6) (vS 7) (vS 8 0) (vS 9 0))) C 18 rfl (c_X2_endOf aS vS x1_5 x2_5 hq5) V_X2_endOf k67 i_X2_endOf s_X2_endOf rfl rfl ⟨Nat.le_of_ble_eq_true rfl, Nat.le_of_ble_eq_true rfl⟩ (Nat.le_of_ble_eq_true rfl) ⟨Nat.le_refl _, Nat.le_refl _⟩ 0 2 rfl rfl rfl (isC := [0, 1, 2, 3, 4, 5, 6, 7, 8]) (isR := []) (N := 9) ⟨rfl, by decide +kernel, rfl, by decide +kernel, rfl, trivial⟩ rfl ?_
            refine J_aload_n (pc := 34) C 19 rfl 0 rfl rfl ?_
            refine J_iload (pc := 35) C 20 rfl 4 rfl ?_
            obtain ⟨q6, hq6, h⟩ := bnd h
            refine J_callV (pc := 37) (st2 := [.int q5]) (st3 := [.int q6, .int q5]) (ws2 := (wSch G aS (vS 0) (vS 1) (vS 2) (vS 3) (vS 4) (vS 5) (vS 6) (vS 7) (vS 8 0) (vS 9 0))) C 21 rfl (c_X2_beginOf aS vS x4_5 hq6) V_X2_beginOf k60 i_X2_beginOf s_X2_beginOf rfl rfl ⟨Nat.le_of_ble_eq_true rfl, Nat.le_of_ble_eq_true rfl⟩ (Nat.le_of_ble_eq_true rfl) ⟨Nat.le_refl _, Nat.le_refl _⟩ 0 2 rfl rfl rfl (isC := [0, 1, 2, 3, 4, 5, 6, 7, 8]) (isR := []) (N := 9) ⟨rfl, by decide +kernel, rfl, by decide +kernel, rfl, trivial⟩ rfl ?_
            refine J_icmp_le (pc := 40) (tgt := 65) C 22 rfl rfl (fun c7 => ?_) (fun c7 => ?_)
            · rw [if_pos c7] at h
              refine J_iinc (pc := 65) (v := (x4_5 + (1 : Int32))) (lv' := [(4, .int (x4_5 + (1 : Int32))), (0, .ref (aS 0)), (1, .int x1_5), (2, .int x2_5), (3, .int x3_5)]) C 37 rfl 4 rfl rfl (by decide) rfl ?_
              refine J_goto (pc := 68) (tgt := 5) C 38 rfl rfl ?_
              exact J_sub [1, 2, 3, 4, 0] rfl (ih5 x3_5 (x4_5 + (1 : Int32)) h)
            · rw [if_neg c7] at h
              refine J_aload_n (pc := 43) C 23 rfl 0 rfl rfl ?_
              refine J_iload_n (pc := 44) C 24 rfl 1 rfl rfl ?_
              refine J_iload (pc := 45) C 25 rfl 4 rfl ?_
              obtain ⟨q8, hq8, h⟩ := bnd h
              refine J_callV (pc := 47) (st2 := []) (st3 := [.int q8]) (ws2 := (wSch G aS (vS 0) (vS 1) (vS 2) (vS 3) (vS 4) (vS 5) (vS 6) (vS 7) (vS 8 0) (vS 9 0))) C 26 rfl (c_X2_endOf aS vS x1_5 x4_5 hq8) V_X2_endOf k67 i_X2_endOf s_X2_endOf rfl rfl ⟨Nat.le_of_ble_eq_true rfl, Nat.le_of_ble_eq_true rfl⟩ (Nat.le_of_ble_eq_true rfl) ⟨Nat.le_refl _, Nat.le_refl _⟩ 0 2 rfl rfl rfl (isC := [0, 1, 2, 3, 4, 5, 6, 7, 8]) (isR := []) (N := 9) ⟨rfl, by decide +kernel, rfl, by decide +kernel, rfl, trivial⟩ rfl ?_
              refine J_aload_n (pc := 50) C 27 rfl 0 rfl rfl ?_
              refine J_iload_n (pc := 51) C 28 rfl 2 rfl rfl ?_
              obtain ⟨q9, hq9, h⟩ := bnd h
              refine J_callV (pc := 52) (st2 := [.int q8]) (st3 := [.int q9, .int q8]) (ws2 := (wSch G aS (vS 0) (vS 1) (vS 2) (vS 3) (vS 4) (vS 5) (vS 6) (vS 7) (vS 8 0) (vS 9 0))) C 29 rfl (c_X2_beginOf aS vS x2_5 hq9) V_X2_beginOf k60 i_X2_beginOf s_X2_beginOf rfl rfl ⟨Nat.le_of_ble_eq_true rfl, Nat.le_of_ble_eq_true rfl⟩ (Nat.le_of_ble_eq_true rfl) ⟨Nat.le_refl _, Nat.le_refl _⟩ 0 2 rfl rfl rfl (isC := [0, 1, 2, 3, 4, 5, 6, 7, 8]) (isR := []) (N := 9) ⟨rfl, by decide +kernel, rfl, by decide +kernel, rfl, trivial⟩ rfl ?_
              refine J_icmp_le (pc := 55) (tgt := 65) C 30 rfl rfl (fun c10 => ?_) (fun c10 => ?_)
              · rw [if_pos c10] at h
                refine J_iinc (pc := 65) (v := (x4_5 + (1 : Int32))) (lv' := [(4, .int (x4_5 + (1 : Int32))), (0, .ref (aS 0)), (1, .int x1_5), (2, .int x2_5), (3, .int x3_5)]) C 37 rfl 4 rfl rfl (by decide) rfl ?_
                refine J_goto (pc := 68) (tgt := 5) C 38 rfl rfl ?_
                exact J_sub [1, 2, 3, 4, 0] rfl (ih5 x3_5 (x4_5 + (1 : Int32)) h)
              · rw [if_neg c10] at h
                refine J_iload_n (pc := 58) C 31 rfl 3 rfl rfl ?_
                refine J_iconst (pc := 59) (v := (1 : Int32)) C 32 rfl rfl ?_
                refine J_iload (pc := 60) C 33 rfl 4 rfl ?_
                refine J_ishl (pc := 62) C 34 rfl  ?_
                refine J_ior (pc := 63) C 35 rfl  ?_
                refine J_istore_n (pc := 64) (lv' := [(3, .int (x3_5 ||| ((1 : Int32) <<< (x4_5 &&& 31)))), (0, .ref (aS 0)), (1, .int x1_5), (2, .int x2_5), (4, .int x4_5)]) C 36 rfl rfl (by decide) rfl ?_
                refine J_iinc (pc := 65) (v := (x4_5 + (1 : Int32))) (lv' := [(4, .int (x4_5 + (1 : Int32))), (3, .int (x3_5 ||| ((1 : Int32) <<< (x4_5 &&& 31)))), (0, .ref (aS 0)), (1, .int x1_5), (2, .int x2_5)]) C 37 rfl 4 rfl rfl (by decide) rfl ?_
                refine J_goto (pc := 68) (tgt := 5) C 38 rfl rfl ?_
                exact J_sub [2, 3, 4, 1, 0] rfl (ih5 (x3_5 ||| ((1 : Int32) <<< (x4_5 &&& 31))) (x4_5 + (1 : Int32)) h)
  unfold f_X2_clashingPapers at h
  refine J_iconst (pc := 0) (v := (0 : Int32)) C 0 rfl rfl ?_
  refine J_istore_n (pc := 1) (lv' := [(3, .int (0 : Int32)), (0, .ref (aS 0)), (1, .int x1), (2, .int x2)]) C 1 rfl rfl (by decide) rfl ?_
  refine J_iconst (pc := 2) (v := (0 : Int32)) C 2 rfl rfl ?_
  refine J_istore (pc := 3) (lv' := [(4, .int (0 : Int32)), (3, .int (0 : Int32)), (0, .ref (aS 0)), (1, .int x1), (2, .int x2)]) C 3 rfl (by decide) rfl ?_
  exact J_sub [2, 3, 4, 1, 0] rfl (B5 x1 x2 FU (0 : Int32) (0 : Int32) h)
def T_X2_clashesOf : List (Nat × ClassFile.Instr × Nat) := [(0, .iconst 0, 1), (1, .istore_n 2, 1), (2, .iconst 0, 1), (3, .istore_n 3, 1), (4, .iload_n 3, 1), (5, .bipush 6, 2), (7, .if_icmp .ge 30, 3), (10, .aload_n 0, 1), (11, .iload_n 1, 1), (12, .iload_n 3, 1), (13, .invokevirtual 68, 3), (16, .ifCond .eq 15, 3), (19, .iload_n 2, 1), (20, .aload_n 0, 1), (21, .iload_n 1, 1), (22, .iload_n 3, 1), (23, .invokevirtual 71, 3), (26, .invokestatic 63, 3), (29, .iadd, 1), (30, .istore_n 2, 1), (31, .iinc 3 1, 3), (34, .goto (-30), 3), (37, .iload_n 2, 1), (38, .iconst 2, 1), (39, .idiv, 1), (40, .ireturn, 1)]
theorem D_X2_clashesOf : ∀ q ∈ T_X2_clashesOf, decode cX2_clashesOf q.1 = .ok q.2 := by decide +kernel
theorem V_X2_clashesOf : Vy yX2_clashesOf cX2_clashesOf 4 (some .int) 1 := ⟨k87, k22, by decide +kernel⟩
theorem i_X2_clashesOf : Cond.instanceMethod yX2_clashesOf ∈ TB := k89
theorem s_X2_clashesOf : Cond.selects yX2_clashesOf.cls yX2_clashesOf yX2_clashesOf ∈ TB := k90
noncomputable def f_X2_clashesOf_b4 (vS : JV) (x1_4 : Int32) (r4 : Int32 → Int32 → Option (Int32)) (x2_4 : Int32) (x3_4 : Int32) : Option (Int32) :=
  (if (6 : Int32) ≤ x3_4 then some (x2_4 / (2 : Int32)) else (f_X2_sits vS x1_4 x3_4).bind (fun q2 => (if q2 = 0 then r4 x2_4 (x3_4 + (1 : Int32)) else (f_X2_clashingPapers vS x1_4 x3_4).bind (fun q4 => (f_J6_bitCount_0f7a4 q4).bind (fun q5 => r4 (x2_4 + q5) (x3_4 + (1 : Int32)))))))
noncomputable def f_X2_clashesOf_L4 (vS : JV) (x1_4 : Int32) (n : Nat) (x2_4 : Int32) (x3_4 : Int32) : Option (Int32) :=
  lp (fun (rec : Int32 × Int32 → Option (Int32)) a => f_X2_clashesOf_b4 vS x1_4 (fun x2_4 x3_4 => rec (x2_4, x3_4)) a.1 a.2) n (x2_4, x3_4)
noncomputable def f_X2_clashesOf (vS : JV) (x1 : Int32) : Option (Int32) :=
  f_X2_clashesOf_L4 vS x1 FU (0 : Int32) (0 : Int32)
set_option maxRecDepth 100000 in
set_option maxHeartbeats 4000000 in
theorem c_X2_clashesOf {l : Launch} {G : JG} (aS : Nat → Nat) (vS : JV) (x1 : Int32) {Rz : Int32} (h : f_X2_clashesOf vS x1 = some Rz) : JM l G yX2_clashesOf cX2_clashesOf 4 (some .int) 3 68 [.ref (aS 0), .int x1] (wSch G aS (vS 0) (vS 1) (vS 2) (vS 3) (vS 4) (vS 5) (vS 6) (vS 7) (vS 8 0) (vS 9 0)) (wSch G aS (vS 0) (vS 1) (vS 2) (vS 3) (vS 4) (vS 5) (vS 6) (vS 7) (vS 8 0) (vS 9 0)) (some (.int Rz)) := by
  refine JM.of (own := RX2) (tb := T_X2_clashesOf) (by decide) (Nat.le_of_ble_eq_true rfl) D_X2_clashesOf rfl (fun X C => ?_)
  refine J_sub (lv' := [(0, .ref (aS 0)), (1, .int x1)]) [0, 1] rfl ?_
  have B4 : ∀ (x1_4 : Int32) (n4 : Nat) (x2_4 : Int32) (x3_4 : Int32), f_X2_clashesOf_L4 vS x1_4 n4 x2_4 x3_4 = some Rz → J l { frames := 3, cells := 0, slots := 0, locals := 68 } G 4 X (QM X G 0 0 (some (.int Rz)) (wSch G aS (vS 0) (vS 1) (vS 2) (vS 3) (vS 4) (vS 5) (vS 6) (vS 7) (vS 8 0) (vS 9 0))) 0 0 4 [(0, .ref (aS 0)), (1, .int x1_4), (2, .int x2_4), (3, .int x3_4)] [] (wSch G aS (vS 0) (vS 1) (vS 2) (vS 3) (vS 4) (vS 5) (vS 6) (vS 7) (vS 8 0) (vS 9 0)) := by
    intro x1_4 n4
    induction n4 with
    | zero =>
      intro x2_4 x3_4 h
      exact (no_none rfl h).elim
    | succ n4 ih4 =>
      intro x2_4 x3_4 h
      replace h : f_X2_clashesOf_b4 vS x1_4 (fun x2_4 x3_4 => f_X2_clashesOf_L4 vS x1_4 n4 x2_4 x3_4) x2_4 x3_4 = some Rz := h
      unfold f_X2_clashesOf_b4 at h
      refine J_iload_n (pc := 4) C 4 rfl 3 rfl rfl ?_
      refine J_bipush (pc := 5) (v := (6 : Int32)) C 5 rfl rfl ?_
      refine J_icmp_ge (pc := 7) (tgt := 37) C 6 rfl rfl (fun c1 => ?_) (fun c1 => ?_)
      · rw [if_pos c1] at h
        refine J_iload_n (pc := 37) C 22 rfl 2 rfl rfl ?_
        refine J_iconst (pc := 38) (v := (2 : Int32)) C 23 rfl rfl ?_
        refine J_idiv (pc := 39) C 24 rfl (by decide) ?_
        cases h
        exact J_iret (pc := 40) C 25 rfl
      · rw [if_neg c1] at h
        refine J_aload_n (pc := 10) C 7 rfl 0 rfl rfl ?_
        refine J_iload_n (pc := 11) C 8 rfl 1 rfl rfl ?_
        refine J_iload_n (pc := 12) C 9 rfl 3 rfl rfl ?_
        obtain ⟨q2, hq2, h⟩ := bnd h
        refine J_callV (pc := 13) (st2 := []) (st3 := [.int q2]) (ws2 := (wSch G aS (vS 0) (vS 1) (vS 2) (vS 3) (vS 4) (vS 5) (vS 6) (vS 7) (vS 8 0) (vS 9 0))) C 10 rfl (c_X2_sits aS vS x1_4 x3_4 hq2) V_X2_sits k79 i_X2_sits s_X2_sits rfl rfl ⟨Nat.le_of_ble_eq_true rfl, Nat.le_of_ble_eq_true rfl⟩ (Nat.le_of_ble_eq_true rfl) ⟨Nat.le_refl _, Nat.le_refl _⟩ 0 2 rfl rfl rfl (isC := [0, 1, 2, 3, 4, 5, 6, 7, 8]) (isR := []) (N := 9) ⟨rfl, by decide +kernel, rfl, by decide +kernel, rfl, trivial⟩ rfl ?_
        refine J_if_eq (pc := 16) (tgt := 31) C 11 rfl rfl (fun c3 => ?_) (fun c3 => ?_)
        · rw [if_pos c3] at h
          refine J_iinc (pc := 31) (v := (x3_4 + (1 : Int32))) (lv' := [(3, .int (x3_4 + (1 : Int32))), (0, .ref (aS 0)), (1, .int x1_4), (2, .int x2_4)]) C 20 rfl 3 rfl rfl (by decide) rfl ?_
          refine J_goto (pc := 34) (tgt := 4) C 21 rfl rfl ?_
          exact J_sub [1, 2, 3, 0] rfl (ih4 x2_4 (x3_4 + (1 : Int32)) h)
        · rw [if_neg c3] at h
          refine J_iload_n (pc := 19) C 12 rfl 2 rfl rfl ?_
          refine J_aload_n (pc := 20) C 13 rfl 0 rfl rfl ?_
          refine J_iload_n (pc := 21) C 14 rfl 1 rfl rfl ?_
          refine J_iload_n (pc := 22) C 15 rfl 3 rfl rfl ?_
          obtain ⟨q4, hq4, h⟩ := bnd h
          refine J_callV (pc := 23) (st2 := [.int x2_4]) (st3 := [.int q4, .int x2_4]) (ws2 := (wSch G aS (vS 0) (vS 1) (vS 2) (vS 3) (vS 4) (vS 5) (vS 6) (vS 7) (vS 8 0) (vS 9 0))) C 16 rfl (c_X2_clashingPapers aS vS x1_4 x3_4 hq4) V_X2_clashingPapers k84 i_X2_clashingPapers s_X2_clashingPapers rfl rfl ⟨Nat.le_of_ble_eq_true rfl, Nat.le_of_ble_eq_true rfl⟩ (Nat.le_of_ble_eq_true rfl) ⟨Nat.le_refl _, Nat.le_refl _⟩ 0 2 rfl rfl rfl (isC := [0, 1, 2, 3, 4, 5, 6, 7, 8]) (isR := []) (N := 9) ⟨rfl, by decide +kernel, rfl, by decide +kernel, rfl, trivial⟩ rfl ?_
          obtain ⟨q5, hq5, h⟩ := bnd h
          refine J_callS (pc := 26) (st2 := [.int x2_4]) (st3 := [.int q5, .int x2_4]) (ws2 := (wSch G aS (vS 0) (vS 1) (vS 2) (vS 3) (vS 4) (vS 5) (vS 6) (vS 7) (vS 8 0) (vS 9 0))) C 17 rfl (c_J6_bitCount_0f7a4 q4 hq5) V_J6_bitCount_0f7a4 k75 t_J6_bitCount_0f7a4 rfl rfl ⟨Nat.le_of_ble_eq_true rfl, Nat.le_of_ble_eq_true rfl⟩ (Nat.le_of_ble_eq_true rfl) ⟨Nat.le_refl _, Nat.le_refl _⟩ (isC := []) (isR := [0, 1, 2, 3, 4, 5, 6, 7, 8]) (N := 9) ⟨rfl, by decide +kernel, rfl, by decide +kernel, rfl, ⟨⟨_, rfl, rfl⟩, ⟨⟨_, rfl, rfl⟩, ⟨⟨_, rfl, rfl⟩, ⟨⟨_, rfl, rfl⟩, ⟨⟨_, rfl, rfl⟩, ⟨⟨_, rfl, rfl⟩, ⟨⟨_, rfl, rfl⟩, ⟨⟨_, rfl, rfl⟩, ⟨⟨_, rfl, rfl⟩, trivial⟩⟩⟩⟩⟩⟩⟩⟩⟩⟩ rfl ?_
          refine J_iadd (pc := 29) C 18 rfl  ?_
          refine J_istore_n (pc := 30) (lv' := [(2, .int (x2_4 + q5)), (0, .ref (aS 0)), (1, .int x1_4), (3, .int x3_4)]) C 19 rfl rfl (by decide) rfl ?_
          refine J_iinc (pc := 31) (v := (x3_4 + (1 : Int32))) (lv' := [(3, .int (x3_4 + (1 : Int32))), (2, .int (x2_4 + q5)), (0, .ref (aS 0)), (1, .int x1_4)]) C 20 rfl 3 rfl rfl (by decide) rfl ?_
          refine J_goto (pc := 34) (tgt := 4) C 21 rfl rfl ?_
          exact J_sub [2, 3, 1, 0] rfl (ih4 (x2_4 + q5) (x3_4 + (1 : Int32)) h)
  unfold f_X2_clashesOf at h
  refine J_iconst (pc := 0) (v := (0 : Int32)) C 0 rfl rfl ?_
  refine J_istore_n (pc := 1) (lv' := [(2, .int (0 : Int32)), (0, .ref (aS 0)), (1, .int x1)]) C 1 rfl rfl (by decide) rfl ?_
  refine J_iconst (pc := 2) (v := (0 : Int32)) C 2 rfl rfl ?_
  refine J_istore_n (pc := 3) (lv' := [(3, .int (0 : Int32)), (2, .int (0 : Int32)), (0, .ref (aS 0)), (1, .int x1)]) C 3 rfl rfl (by decide) rfl ?_
  exact J_sub [2, 3, 1, 0] rfl (B4 x1 FU (0 : Int32) (0 : Int32) h)
def T_X2_clashes : List (Nat × ClassFile.Instr × Nat) := [(0, .iconst 0, 1), (1, .istore_n 1, 1), (2, .iconst 0, 1), (3, .istore_n 2, 1), (4, .iload_n 2, 1), (5, .aload_n 0, 1), (6, .getfield 37, 3), (9, .if_icmp .ge 17, 3), (12, .iload_n 1, 1), (13, .aload_n 0, 1), (14, .iload_n 2, 1), (15, .invokevirtual 74, 3), (18, .iadd, 1), (19, .istore_n 1, 1), (20, .iinc 2 1, 3), (23, .goto (-19), 3), (26, .iload_n 1, 1), (27, .ireturn, 1)]
theorem D_X2_clashes : ∀ q ∈ T_X2_clashes, decode cX2_clashes q.1 = .ok q.2 := by decide +kernel
theorem V_X2_clashes : Vy yX2_clashes cX2_clashes 3 (some .int) 0 := ⟨k91, k22, by decide +kernel⟩
theorem i_X2_clashes : Cond.instanceMethod yX2_clashes ∈ TB := k309
theorem s_X2_clashes : Cond.selects yX2_clashes.cls yX2_clashes yX2_clashes ∈ TB := k310
noncomputable def f_X2_clashes_b4 (vS : JV) (r4 : Int32 → Int32 → Option (Int32)) (x1_4 : Int32) (x2_4 : Int32) : Option (Int32) :=
  (if (vS 8 0) ≤ x2_4 then some x1_4 else (f_X2_clashesOf vS x2_4).bind (fun q2 => r4 (x1_4 + q2) (x2_4 + (1 : Int32))))
noncomputable def f_X2_clashes_L4 (vS : JV) (n : Nat) (x1_4 : Int32) (x2_4 : Int32) : Option (Int32) :=
  lp (fun (rec : Int32 × Int32 → Option (Int32)) a => f_X2_clashes_b4 vS (fun x1_4 x2_4 => rec (x1_4, x2_4)) a.1 a.2) n (x1_4, x2_4)
noncomputable def f_X2_clashes (vS : JV)  : Option (Int32) :=
  f_X2_clashes_L4 vS  FU (0 : Int32) (0 : Int32)
set_option maxRecDepth 100000 in
set_option maxHeartbeats 4000000 in
theorem c_X2_clashes {l : Launch} {G : JG} (aS : Nat → Nat) (vS : JV)  {Rz : Int32} (h : f_X2_clashes vS = some Rz) : JM l G yX2_clashes cX2_clashes 3 (some .int) 4 91 [.ref (aS 0)] (wSch G aS (vS 0) (vS 1) (vS 2) (vS 3) (vS 4) (vS 5) (vS 6) (vS 7) (vS 8 0) (vS 9 0)) (wSch G aS (vS 0) (vS 1) (vS 2) (vS 3) (vS 4) (vS 5) (vS 6) (vS 7) (vS 8 0) (vS 9 0)) (some (.int Rz)) := by
  refine JM.of (own := RX2) (tb := T_X2_clashes) (by decide) (Nat.le_of_ble_eq_true rfl) D_X2_clashes rfl (fun X C => ?_)
  refine J_sub (lv' := [(0, .ref (aS 0))]) [0] rfl ?_
  have B4 : ∀ (n4 : Nat) (x1_4 : Int32) (x2_4 : Int32), f_X2_clashes_L4 vS n4 x1_4 x2_4 = some Rz → J l { frames := 4, cells := 0, slots := 0, locals := 91 } G 3 X (QM X G 0 0 (some (.int Rz)) (wSch G aS (vS 0) (vS 1) (vS 2) (vS 3) (vS 4) (vS 5) (vS 6) (vS 7) (vS 8 0) (vS 9 0))) 0 0 4 [(0, .ref (aS 0)), (1, .int x1_4), (2, .int x2_4)] [] (wSch G aS (vS 0) (vS 1) (vS 2) (vS 3) (vS 4) (vS 5) (vS 6) (vS 7) (vS 8 0) (vS 9 0)) := by
    intro  n4
    induction n4 with
    | zero =>
      intro x1_4 x2_4 h
      exact (no_none rfl h).elim
    | succ n4 ih4 =>
      intro x1_4 x2_4 h
      replace h : f_X2_clashes_b4 vS (fun x1_4 x2_4 => f_X2_clashes_L4 vS n4 x1_4 x2_4) x1_4 x2_4 = some Rz := h
      unfold f_X2_clashes_b4 at h
      refine J_iload_n (pc := 4) C 4 rfl 2 rfl rfl ?_
      refine J_aload_n (pc := 5) C 5 rfl 0 rfl rfl ?_
      refine J_get (pc := 6) (v := .int (vS 8 0)) C 6 rfl TB_l2 rfl 0 8 rfl (by decide) k14 rfl rfl ?_
      refine J_icmp_ge (pc := 9) (tgt := 26) C 7 rfl rfl (fun c1 => ?_) (fun c1 => ?_)
      · rw [if_pos c1] at h
        refine J_iload_n (pc := 26) C 16 rfl 1 rfl rfl ?_
        cases h
        exact J_iret (pc := 27) C 17 rfl
      · rw [if_neg c1] at h
        refine J_iload_n (pc := 12) C 8 rfl 1 rfl rfl ?_
        refine J_aload_n (pc := 13) C 9 rfl 0 rfl rfl ?_
        refine J_iload_n (pc := 14) C 10 rfl 2 rfl rfl ?_
        obtain ⟨q2, hq2, h⟩ := bnd h
        refine J_callV (pc := 15) (st2 := [.int x1_4]) (st3 := [.int q2, .int x1_4]) (ws2 := (wSch G aS (vS 0) (vS 1) (vS 2) (vS 3) (vS 4) (vS 5) (vS 6) (vS 7) (vS 8 0) (vS 9 0))) C 11 rfl (c_X2_clashesOf aS vS x2_4 hq2) V_X2_clashesOf k88 i_X2_clashesOf s_X2_clashesOf rfl rfl ⟨Nat.le_of_ble_eq_true rfl, Nat.le_of_ble_eq_true rfl⟩ (Nat.le_of_ble_eq_true rfl) ⟨Nat.le_refl _, Nat.le_refl _⟩ 0 2 rfl rfl rfl (isC := [0, 1, 2, 3, 4, 5, 6, 7, 8]) (isR := []) (N := 9) ⟨rfl, by decide +kernel, rfl, by decide +kernel, rfl, trivial⟩ rfl ?_
        refine J_iadd (pc := 18) C 12 rfl  ?_
        refine J_istore_n (pc := 19) (lv' := [(1, .int (x1_4 + q2)), (0, .ref (aS 0)), (2, .int x2_4)]) C 13 rfl rfl (by decide) rfl ?_
        refine J_iinc (pc := 20) (v := (x2_4 + (1 : Int32))) (lv' := [(2, .int (x2_4 + (1 : Int32))), (1, .int (x1_4 + q2)), (0, .ref (aS 0))]) C 14 rfl 2 rfl rfl (by decide) rfl ?_
        refine J_goto (pc := 23) (tgt := 4) C 15 rfl rfl ?_
        exact J_sub [2, 1, 0] rfl (ih4 (x1_4 + q2) (x2_4 + (1 : Int32)) h)
  unfold f_X2_clashes at h
  refine J_iconst (pc := 0) (v := (0 : Int32)) C 0 rfl rfl ?_
  refine J_istore_n (pc := 1) (lv' := [(1, .int (0 : Int32)), (0, .ref (aS 0))]) C 1 rfl rfl (by decide) rfl ?_
  refine J_iconst (pc := 2) (v := (0 : Int32)) C 2 rfl rfl ?_
  refine J_istore_n (pc := 3) (lv' := [(2, .int (0 : Int32)), (1, .int (0 : Int32)), (0, .ref (aS 0))]) C 3 rfl rfl (by decide) rfl ?_
  exact J_sub [2, 1, 0] rfl (B4  FU (0 : Int32) (0 : Int32) h)
def T_X2_lastEndOf : List (Nat × ClassFile.Instr × Nat) := [(0, .bipush (-6), 2), (2, .istore_n 2, 1), (3, .iconst 0, 1), (4, .istore_n 3, 1), (5, .iload_n 3, 1), (6, .aload_n 0, 1), (7, .getfield 37, 3), (10, .if_icmp .ge 29, 3), (13, .aload_n 0, 1), (14, .iload_n 3, 1), (15, .iload_n 1, 1), (16, .invokevirtual 68, 3), (19, .ifCond .eq 14, 3), (22, .iload_n 2, 1), (23, .aload_n 0, 1), (24, .iload_n 3, 1), (25, .iload_n 1, 1), (26, .invokevirtual 60, 3), (29, .invokestatic 77, 3), (32, .istore_n 2, 1), (33, .iinc 3 1, 3), (36, .goto (-31), 3), (39, .iload_n 2, 1), (40, .ireturn, 1)]
theorem D_X2_lastEndOf : ∀ q ∈ T_X2_lastEndOf, decode cX2_lastEndOf q.1 = .ok q.2 := by decide +kernel
theorem V_X2_lastEndOf : Vy yX2_lastEndOf cX2_lastEndOf 4 (some .int) 1 := ⟨k96, k22, by decide +kernel⟩
theorem i_X2_lastEndOf : Cond.instanceMethod yX2_lastEndOf ∈ TB := k98
theorem s_X2_lastEndOf : Cond.selects yX2_lastEndOf.cls yX2_lastEndOf yX2_lastEndOf ∈ TB := k99
noncomputable def f_X2_lastEndOf_b5 (vS : JV) (x1_5 : Int32) (r5 : Int32 → Int32 → Option (Int32)) (x2_5 : Int32) (x3_5 : Int32) : Option (Int32) :=
  (if (vS 8 0) ≤ x3_5 then some x2_5 else (f_X2_sits vS x3_5 x1_5).bind (fun q2 => (if q2 = 0 then r5 x2_5 (x3_5 + (1 : Int32)) else (f_X2_endOf vS x3_5 x1_5).bind (fun q4 => r5 (mx x2_5 q4) (x3_5 + (1 : Int32))))))
noncomputable def f_X2_lastEndOf_L5 (vS : JV) (x1_5 : Int32) (n : Nat) (x2_5 : Int32) (x3_5 : Int32) : Option (Int32) :=
  lp (fun (rec : Int32 × Int32 → Option (Int32)) a => f_X2_lastEndOf_b5 vS x1_5 (fun x2_5 x3_5 => rec (x2_5, x3_5)) a.1 a.2) n (x2_5, x3_5)
noncomputable def f_X2_lastEndOf (vS : JV) (x1 : Int32) : Option (Int32) :=
  f_X2_lastEndOf_L5 vS x1 FU (-6 : Int32) (0 : Int32)
set_option maxRecDepth 100000 in
set_option maxHeartbeats 4000000 in
theorem c_X2_lastEndOf {l : Launch} {G : JG} (aS : Nat → Nat) (vS : JV) (x1 : Int32) {Rz : Int32} (h : f_X2_lastEndOf vS x1 = some Rz) : JM l G yX2_lastEndOf cX2_lastEndOf 4 (some .int) 2 44 [.ref (aS 0), .int x1] (wSch G aS (vS 0) (vS 1) (vS 2) (vS 3) (vS 4) (vS 5) (vS 6) (vS 7) (vS 8 0) (vS 9 0)) (wSch G aS (vS 0) (vS 1) (vS 2) (vS 3) (vS 4) (vS 5) (vS 6) (vS 7) (vS 8 0) (vS 9 0)) (some (.int Rz)) := by
  refine JM.of (own := RX2) (tb := T_X2_lastEndOf) (by decide) (Nat.le_of_ble_eq_true rfl) D_X2_lastEndOf rfl (fun X C => ?_)
  refine J_sub (lv' := [(0, .ref (aS 0)), (1, .int x1)]) [0, 1] rfl ?_
  have B5 : ∀ (x1_5 : Int32) (n5 : Nat) (x2_5 : Int32) (x3_5 : Int32), f_X2_lastEndOf_L5 vS x1_5 n5 x2_5 x3_5 = some Rz → J l { frames := 2, cells := 0, slots := 0, locals := 44 } G 4 X (QM X G 0 0 (some (.int Rz)) (wSch G aS (vS 0) (vS 1) (vS 2) (vS 3) (vS 4) (vS 5) (vS 6) (vS 7) (vS 8 0) (vS 9 0))) 0 0 5 [(0, .ref (aS 0)), (1, .int x1_5), (2, .int x2_5), (3, .int x3_5)] [] (wSch G aS (vS 0) (vS 1) (vS 2) (vS 3) (vS 4) (vS 5) (vS 6) (vS 7) (vS 8 0) (vS 9 0)) := by
    intro x1_5 n5
    induction n5 with
    | zero =>
      intro x2_5 x3_5 h
      exact (no_none rfl h).elim
    | succ n5 ih5 =>
      intro x2_5 x3_5 h
      replace h : f_X2_lastEndOf_b5 vS x1_5 (fun x2_5 x3_5 => f_X2_lastEndOf_L5 vS x1_5 n5 x2_5 x3_5) x2_5 x3_5 = some Rz := h
      unfold f_X2_lastEndOf_b5 at h
      refine J_iload_n (pc := 5) C 4 rfl 3 rfl rfl ?_
      refine J_aload_n (pc := 6) C 5 rfl 0 rfl rfl ?_
      refine J_get (pc := 7) (v := .int (vS 8 0)) C 6 rfl TB_l2 rfl 0 8 rfl (by decide) k14 rfl rfl ?_
      refine J_icmp_ge (pc := 10) (tgt := 39) C 7 rfl rfl (fun c1 => ?_) (fun c1 => ?_)
      · rw [if_pos c1] at h
        refine J_iload_n (pc := 39) C 22 rfl 2 rfl rfl ?_
        cases h
        exact J_iret (pc := 40) C 23 rfl
      · rw [if_neg c1] at h
        refine J_aload_n (pc := 13) C 8 rfl 0 rfl rfl ?_
        refine J_iload_n (pc := 14) C 9 rfl 3 rfl rfl ?_
        refine J_iload_n (pc := 15) C 10 rfl 1 rfl rfl ?_
        obtain ⟨q2, hq2, h⟩ := bnd h
        refine J_callV (pc := 16) (st2 := []) (st3 := [.int q2]) (ws2 := (wSch G aS (vS 0) (vS 1) (vS 2) (vS 3) (vS 4) (vS 5) (vS 6) (vS 7) (vS 8 0) (vS 9 0))) C 11 rfl (c_X2_sits aS vS x3_5 x1_5 hq2) V_X2_sits k79 i_X2_sits s_X2_sits rfl rfl ⟨Nat.le_of_ble_eq_true rfl, Nat.le_of_ble_eq_true rfl⟩ (Nat.le_of_ble_eq_true rfl) ⟨Nat.le_refl _, Nat.le_refl _⟩ 0 2 rfl rfl rfl (isC := [0, 1, 2, 3, 4, 5, 6, 7, 8]) (isR := []) (N := 9) ⟨rfl, by decide +kernel, rfl, by decide +kernel, rfl, trivial⟩ rfl ?_
        refine J_if_eq (pc := 19) (tgt := 33) C 12 rfl rfl (fun c3 => ?_) (fun c3 => ?_)
        · rw [if_pos c3] at h
          refine J_iinc (pc := 33) (v := (x3_5 + (1 : Int32))) (lv' := [(3, .int (x3_5 + (1 : Int32))), (0, .ref (aS 0)), (1, .int x1_5), (2, .int x2_5)]) C 20 rfl 3 rfl rfl (by decide) rfl ?_
          refine J_goto (pc := 36) (tgt := 5) C 21 rfl rfl ?_
          exact J_sub [1, 2, 3, 0] rfl (ih5 x2_5 (x3_5 + (1 : Int32)) h)
        · rw [if_neg c3] at h
          refine J_iload_n (pc := 22) C 13 rfl 2 rfl rfl ?_
          refine J_aload_n (pc := 23) C 14 rfl 0 rfl rfl ?_
          refine J_iload_n (pc := 24) C 15 rfl 3 rfl rfl ?_
          refine J_iload_n (pc := 25) C 16 rfl 1 rfl rfl ?_
          obtain ⟨q4, hq4, h⟩ := bnd h
          refine J_callV (pc := 26) (st2 := [.int x2_5]) (st3 := [.int q4, .int x2_5]) (ws2 := (wSch G aS (vS 0) (vS 1) (vS 2) (vS 3) (vS 4) (vS 5) (vS 6) (vS 7) (vS 8 0) (vS 9 0))) C 17 rfl (c_X2_endOf aS vS x3_5 x1_5 hq4) V_X2_endOf k67 i_X2_endOf s_X2_endOf rfl rfl ⟨Nat.le_of_ble_eq_true rfl, Nat.le_of_ble_eq_true rfl⟩ (Nat.le_of_ble_eq_true rfl) ⟨Nat.le_refl _, Nat.le_refl _⟩ 0 2 rfl rfl rfl (isC := [0, 1, 2, 3, 4, 5, 6, 7, 8]) (isR := []) (N := 9) ⟨rfl, by decide +kernel, rfl, by decide +kernel, rfl, trivial⟩ rfl ?_
          refine J_mmax (pc := 29) C 18 rfl k92 (by decide) (Nat.le_of_ble_eq_true rfl) (Nat.le_refl _) (Nat.le_refl _) ?_
          refine J_istore_n (pc := 32) (lv' := [(2, .int (mx x2_5 q4)), (0, .ref (aS 0)), (1, .int x1_5), (3, .int x3_5)]) C 19 rfl rfl (by decide) rfl ?_
          refine J_iinc (pc := 33) (v := (x3_5 + (1 : Int32))) (lv' := [(3, .int (x3_5 + (1 : Int32))), (2, .int (mx x2_5 q4)), (0, .ref (aS 0)), (1, .int x1_5)]) C 20 rfl 3 rfl rfl (by decide) rfl ?_
          refine J_goto (pc := 36) (tgt := 5) C 21 rfl rfl ?_
          exact J_sub [2, 3, 1, 0] rfl (ih5 (mx x2_5 q4) (x3_5 + (1 : Int32)) h)
  unfold f_X2_lastEndOf at h
  refine J_bipush (pc := 0) (v := (-6 : Int32)) C 0 rfl rfl ?_
  refine J_istore_n (pc := 2) (lv' := [(2, .int (-6 : Int32)), (0, .ref (aS 0)), (1, .int x1)]) C 1 rfl rfl (by decide) rfl ?_
  refine J_iconst (pc := 3) (v := (0 : Int32)) C 2 rfl rfl ?_
  refine J_istore_n (pc := 4) (lv' := [(3, .int (0 : Int32)), (2, .int (-6 : Int32)), (0, .ref (aS 0)), (1, .int x1)]) C 3 rfl rfl (by decide) rfl ?_
  exact J_sub [2, 3, 1, 0] rfl (B5 x1 FU (-6 : Int32) (0 : Int32) h)
def T_X2_lastEnd : List (Nat × ClassFile.Instr × Nat) := [(0, .iconst 0, 1), (1, .istore_n 1, 1), (2, .iconst 0, 1), (3, .istore_n 2, 1), (4, .iload_n 2, 1), (5, .bipush 6, 2), (7, .if_icmp .ge 19, 3), (10, .iload_n 1, 1), (11, .aload_n 0, 1), (12, .iload_n 2, 1), (13, .invokevirtual 82, 3), (16, .invokestatic 77, 3), (19, .istore_n 1, 1), (20, .iinc 2 1, 3), (23, .goto (-19), 3), (26, .iload_n 1, 1), (27, .ireturn, 1)]
theorem D_X2_lastEnd : ∀ q ∈ T_X2_lastEnd, decode cX2_lastEnd q.1 = .ok q.2 := by decide +kernel
theorem V_X2_lastEnd : Vy yX2_lastEnd cX2_lastEnd 3 (some .int) 0 := ⟨k100, k22, by decide +kernel⟩
theorem i_X2_lastEnd : Cond.instanceMethod yX2_lastEnd ∈ TB := k318
theorem s_X2_lastEnd : Cond.selects yX2_lastEnd.cls yX2_lastEnd yX2_lastEnd ∈ TB := k319
noncomputable def f_X2_lastEnd_b4 (vS : JV) (r4 : Int32 → Int32 → Option (Int32)) (x1_4 : Int32) (x2_4 : Int32) : Option (Int32) :=
  (if (6 : Int32) ≤ x2_4 then some x1_4 else (f_X2_lastEndOf vS x2_4).bind (fun q2 => r4 (mx x1_4 q2) (x2_4 + (1 : Int32))))
noncomputable def f_X2_lastEnd_L4 (vS : JV) (n : Nat) (x1_4 : Int32) (x2_4 : Int32) : Option (Int32) :=
  lp (fun (rec : Int32 × Int32 → Option (Int32)) a => f_X2_lastEnd_b4 vS (fun x1_4 x2_4 => rec (x1_4, x2_4)) a.1 a.2) n (x1_4, x2_4)
noncomputable def f_X2_lastEnd (vS : JV)  : Option (Int32) :=
  f_X2_lastEnd_L4 vS  FU (0 : Int32) (0 : Int32)
set_option maxRecDepth 100000 in
set_option maxHeartbeats 4000000 in
theorem c_X2_lastEnd {l : Launch} {G : JG} (aS : Nat → Nat) (vS : JV)  {Rz : Int32} (h : f_X2_lastEnd vS = some Rz) : JM l G yX2_lastEnd cX2_lastEnd 3 (some .int) 3 67 [.ref (aS 0)] (wSch G aS (vS 0) (vS 1) (vS 2) (vS 3) (vS 4) (vS 5) (vS 6) (vS 7) (vS 8 0) (vS 9 0)) (wSch G aS (vS 0) (vS 1) (vS 2) (vS 3) (vS 4) (vS 5) (vS 6) (vS 7) (vS 8 0) (vS 9 0)) (some (.int Rz)) := by
  refine JM.of (own := RX2) (tb := T_X2_lastEnd) (by decide) (Nat.le_of_ble_eq_true rfl) D_X2_lastEnd rfl (fun X C => ?_)
  refine J_sub (lv' := [(0, .ref (aS 0))]) [0] rfl ?_
  have B4 : ∀ (n4 : Nat) (x1_4 : Int32) (x2_4 : Int32), f_X2_lastEnd_L4 vS n4 x1_4 x2_4 = some Rz → J l { frames := 3, cells := 0, slots := 0, locals := 67 } G 3 X (QM X G 0 0 (some (.int Rz)) (wSch G aS (vS 0) (vS 1) (vS 2) (vS 3) (vS 4) (vS 5) (vS 6) (vS 7) (vS 8 0) (vS 9 0))) 0 0 4 [(0, .ref (aS 0)), (1, .int x1_4), (2, .int x2_4)] [] (wSch G aS (vS 0) (vS 1) (vS 2) (vS 3) (vS 4) (vS 5) (vS 6) (vS 7) (vS 8 0) (vS 9 0)) := by
    intro  n4
    induction n4 with
    | zero =>
      intro x1_4 x2_4 h
      exact (no_none rfl h).elim
    | succ n4 ih4 =>
      intro x1_4 x2_4 h
      replace h : f_X2_lastEnd_b4 vS (fun x1_4 x2_4 => f_X2_lastEnd_L4 vS n4 x1_4 x2_4) x1_4 x2_4 = some Rz := h
      unfold f_X2_lastEnd_b4 at h
      refine J_iload_n (pc := 4) C 4 rfl 2 rfl rfl ?_
      refine J_bipush (pc := 5) (v := (6 : Int32)) C 5 rfl rfl ?_
      refine J_icmp_ge (pc := 7) (tgt := 26) C 6 rfl rfl (fun c1 => ?_) (fun c1 => ?_)
      · rw [if_pos c1] at h
        refine J_iload_n (pc := 26) C 15 rfl 1 rfl rfl ?_
        cases h
        exact J_iret (pc := 27) C 16 rfl
      · rw [if_neg c1] at h
        refine J_iload_n (pc := 10) C 7 rfl 1 rfl rfl ?_
        refine J_aload_n (pc := 11) C 8 rfl 0 rfl rfl ?_
        refine J_iload_n (pc := 12) C 9 rfl 2 rfl rfl ?_
        obtain ⟨q2, hq2, h⟩ := bnd h
        refine J_callV (pc := 13) (st2 := [.int x1_4]) (st3 := [.int q2, .int x1_4]) (ws2 := (wSch G aS (vS 0) (vS 1) (vS 2) (vS 3) (vS 4) (vS 5) (vS 6) (vS 7) (vS 8 0) (vS 9 0))) C 10 rfl (c_X2_lastEndOf aS vS x2_4 hq2) V_X2_lastEndOf k97 i_X2_lastEndOf s_X2_lastEndOf rfl rfl ⟨Nat.le_of_ble_eq_true rfl, Nat.le_of_ble_eq_true rfl⟩ (Nat.le_of_ble_eq_true rfl) ⟨Nat.le_refl _, Nat.le_refl _⟩ 0 2 rfl rfl rfl (isC := [0, 1, 2, 3, 4, 5, 6, 7, 8]) (isR := []) (N := 9) ⟨rfl, by decide +kernel, rfl, by decide +kernel, rfl, trivial⟩ rfl ?_
        refine J_mmax (pc := 16) C 11 rfl k92 (by decide) (Nat.le_of_ble_eq_true rfl) (Nat.le_refl _) (Nat.le_refl _) ?_
        refine J_istore_n (pc := 19) (lv' := [(1, .int (mx x1_4 q2)), (0, .ref (aS 0)), (2, .int x2_4)]) C 12 rfl rfl (by decide) rfl ?_
        refine J_iinc (pc := 20) (v := (x2_4 + (1 : Int32))) (lv' := [(2, .int (x2_4 + (1 : Int32))), (1, .int (mx x1_4 q2)), (0, .ref (aS 0))]) C 13 rfl 2 rfl rfl (by decide) rfl ?_
        refine J_goto (pc := 23) (tgt := 4) C 14 rfl rfl ?_
        exact J_sub [2, 1, 0] rfl (ih4 (mx x1_4 q2) (x2_4 + (1 : Int32)) h)
  unfold f_X2_lastEnd at h
  refine J_iconst (pc := 0) (v := (0 : Int32)) C 0 rfl rfl ?_
  refine J_istore_n (pc := 1) (lv' := [(1, .int (0 : Int32)), (0, .ref (aS 0))]) C 1 rfl rfl (by decide) rfl ?_
  refine J_iconst (pc := 2) (v := (0 : Int32)) C 2 rfl rfl ?_
  refine J_istore_n (pc := 3) (lv' := [(2, .int (0 : Int32)), (1, .int (0 : Int32)), (0, .ref (aS 0))]) C 3 rfl rfl (by decide) rfl ?_
  exact J_sub [2, 1, 0] rfl (B4  FU (0 : Int32) (0 : Int32) h)
def T_X2_readersAt : List (Nat × ClassFile.Instr × Nat) := [(0, .iconst 0, 1), (1, .istore_n 2, 1), (2, .iconst 0, 1), (3, .istore_n 3, 1), (4, .iload_n 3, 1), (5, .aload_n 0, 1), (6, .getfield 37, 3), (9, .if_icmp .ge 58, 3), (12, .iconst 0, 1), (13, .istore 4, 2), (15, .iload 4, 2), (17, .bipush 6, 2), (19, .if_icmp .ge 42, 3), (22, .aload_n 0, 1), (23, .getfield 27, 3), (26, .iload_n 3, 1), (27, .baload, 1), (28, .ifCond .eq 33, 3), (31, .aload_n 0, 1), (32, .iload_n 3, 1), (33, .iload 4, 2), (35, .invokevirtual 68, 3), (38, .ifCond .eq 17, 3), (41, .aload_n 0, 1), (42, .iload_n 3, 1), (43, .iload 4, 2), (45, .iload_n 1, 1), (46, .invokevirtual 88, 3), (49, .ifCond .eq 6, 3), (52, .iinc 2 1, 3), (55, .iinc 4 1, 3), (58, .goto (-43), 3), (61, .iinc 3 1, 3), (64, .goto (-60), 3), (67, .iload_n 2, 1), (68, .ireturn, 1)]
theorem D_X2_readersAt : ∀ q ∈ T_X2_readersAt, decode cX2_readersAt q.1 = .ok q.2 := by decide +kernel
theorem V_X2_readersAt : Vy yX2_readersAt cX2_readersAt 5 (some .int) 1 := ⟨k104, k22, by decide +kernel⟩
theorem i_X2_readersAt : Cond.instanceMethod yX2_readersAt ∈ TB := k106
theorem s_X2_readersAt : Cond.selects yX2_readersAt.cls yX2_readersAt yX2_readersAt ∈ TB := k107
noncomputable def f_X2_readersAt_b15 (vS : JV) (r4 : Int32 → Int32 → Option (Int32)) (x1_4 : Int32) (x3_15 : Int32) (r15 : Int32 → Int32 → Option (Int32)) (x2_15 : Int32) (x4_15 : Int32) : Option (Int32) :=
  (if (6 : Int32) ≤ x4_15 then r4 x2_15 (x3_15 + (1 : Int32)) else gd (inb x3_15 16) ((if ((vS 5) (Int32.toNatClampNeg x3_15)) = 0 then r4 x2_15 (x3_15 + (1 : Int32)) else (f_X2_sits vS x3_15 x4_15).bind (fun q5 => (if q5 = 0 then r15 x2_15 (x4_15 + (1 : Int32)) else (f_X2_isSatAt vS x3_15 x4_15 x1_4).bind (fun q7 => (if q7 = 0 then r15 x2_15 (x4_15 + (1 : Int32)) else r15 (x2_15 + (1 : Int32)) (x4_15 + (1 : Int32)))))))))
noncomputable def f_X2_readersAt_L15 (vS : JV) (r4 : Int32 → Int32 → Option (Int32)) (x1_4 : Int32) (x3_15 : Int32) (n : Nat) (x2_15 : Int32) (x4_15 : Int32) : Option (Int32) :=
  lp (fun (rec : Int32 × Int32 → Option (Int32)) a => f_X2_readersAt_b15 vS r4 x1_4 x3_15 (fun x2_15 x4_15 => rec (x2_15, x4_15)) a.1 a.2) n (x2_15, x4_15)
noncomputable def f_X2_readersAt_b4 (vS : JV) (x1_4 : Int32) (r4 : Int32 → Int32 → Option (Int32)) (x2_4 : Int32) (x3_4 : Int32) : Option (Int32) :=
  (if (vS 8 0) ≤ x3_4 then some x2_4 else f_X2_readersAt_L15 vS r4 x1_4 x3_4 FU x2_4 (0 : Int32))
noncomputable def f_X2_readersAt_L4 (vS : JV) (x1_4 : Int32) (n : Nat) (x2_4 : Int32) (x3_4 : Int32) : Option (Int32) :=
  lp (fun (rec : Int32 × Int32 → Option (Int32)) a => f_X2_readersAt_b4 vS x1_4 (fun x2_4 x3_4 => rec (x2_4, x3_4)) a.1 a.2) n (x2_4, x3_4)
noncomputable def f_X2_readersAt (vS : JV) (x1 : Int32) : Option (Int32) :=
  f_X2_readersAt_L4 vS x1 FU (0 : Int32) (0 : Int32)
set_option maxRecDepth 100000 in
set_option maxHeartbeats 4000000 in
theorem c_X2_readersAt {l : Launch} {G : JG} (aS : Nat → Nat) (vS : JV) (x1 : Int32) {Rz : Int32} (h : f_X2_readersAt vS x1 = some Rz) : JM l G yX2_readersAt cX2_readersAt 5 (some .int) 3 67 [.ref (aS 0), .int x1] (wSch G aS (vS 0) (vS 1) (vS 2) (vS 3) (vS 4) (vS 5) (vS 6) (vS 7) (vS 8 0) (vS 9 0)) (wSch G aS (vS 0) (vS 1) (vS 2) (vS 3) (vS 4) (vS 5) (vS 6) (vS 7) (vS 8 0) (vS 9 0)) (some (.int Rz)) := by
  refine JM.of (own := RX2) (tb := T_X2_readersAt) (by decide) (Nat.le_of_ble_eq_true rfl) D_X2_readersAt rfl (fun X C => ?_)
  refine J_sub (lv' := [(0, .ref (aS 0)), (1, .int x1)]) [0, 1] rfl ?_
  have B4 : ∀ (x1_4 : Int32) (n4 : Nat) (x2_4 : Int32) (x3_4 : Int32), f_X2_readersAt_L4 vS x1_4 n4 x2_4 x3_4 = some Rz → J l { frames := 3, cells := 0, slots := 0, locals := 67 } G 5 X (QM X G 0 0 (some (.int Rz)) (wSch G aS (vS 0) (vS 1) (vS 2) (vS 3) (vS 4) (vS 5) (vS 6) (vS 7) (vS 8 0) (vS 9 0))) 0 0 4 [(0, .ref (aS 0)), (1, .int x1_4), (2, .int x2_4), (3, .int x3_4)] [] (wSch G aS (vS 0) (vS 1) (vS 2) (vS 3) (vS 4) (vS 5) (vS 6) (vS 7) (vS 8 0) (vS 9 0)) := by
    intro x1_4 n4
    induction n4 with
    | zero =>
      intro x2_4 x3_4 h
      exact (no_none rfl h).elim
    | succ n4 ih4 =>
      have B15 : ∀ (x3_15 : Int32) (n15 : Nat) (x2_15 : Int32) (x4_15 : Int32), f_X2_readersAt_L15 vS (fun x2_4 x3_4 => f_X2_readersAt_L4 vS x1_4 n4 x2_4 x3_4) x1_4 x3_15 n15 x2_15 x4_15 = some Rz → J l { frames := 3, cells := 0, slots := 0, locals := 67 } G 5 X (QM X G 0 0 (some (.int Rz)) (wSch G aS (vS 0) (vS 1) (vS 2) (vS 3) (vS 4) (vS 5) (vS 6) (vS 7) (vS 8 0) (vS 9 0))) 0 0 15 [(0, .ref (aS 0)), (1, .int x1_4), (2, .int x2_15), (3, .int x3_15), (4, .int x4_15)] [] (wSch G aS (vS 0) (vS 1) (vS 2) (vS 3) (vS 4) (vS 5) (vS 6) (vS 7) (vS 8 0) (vS 9 0)) := by
        intro x3_15 n15
        induction n15 with
        | zero =>
          intro x2_15 x4_15 h
          exact (no_none rfl h).elim
        | succ n15 ih15 =>
          intro x2_15 x4_15 h
          replace h : f_X2_readersAt_b15 vS (fun x2_4 x3_4 => f_X2_readersAt_L4 vS x1_4 n4 x2_4 x3_4) x1_4 x3_15 (fun x2_15 x4_15 => f_X2_readersAt_L15 vS (fun x2_4 x3_4 => f_X2_readersAt_L4 vS x1_4 n4 x2_4 x3_4) x1_4 x3_15 n15 x2_15 x4_15) x2_15 x4_15 = some Rz := h
          unfold f_X2_readersAt_b15 at h
          refine J_iload (pc := 15) C 10 rfl 4 rfl ?_
          refine J_bipush (pc := 17) (v := (6 : Int32)) C 11 rfl rfl ?_
          refine J_icmp_ge (pc := 19) (tgt := 61) C 12 rfl rfl (fun c2 => ?_) (fun c2 => ?_)
          · rw [if_pos c2] at h
            refine J_iinc (pc := 61) (v := (x3_15 + (1 : Int32))) (lv' := [(3, .int (x3_15 + (1 : Int32))), (0, .ref (aS 0)), (1, .int x1_4), (2, .int x2_15), (4, .int x4_15)]) C 32 rfl 3 rfl rfl (by decide) rfl ?_
            refine J_goto (pc := 64) (tgt := 4) C 33 rfl rfl ?_
            exact J_sub [1, 2, 3, 0] rfl (ih4 x2_15 (x3_15 + (1 : Int32)) h)
          · rw [if_neg c2] at h
            refine J_aload_n (pc := 22) C 13 rfl 0 rfl rfl ?_
            refine J_get (pc := 23) (v := .ref (aS 6)) C 14 rfl TB_l2 rfl 0 5 rfl (by decide) k11 rfl rfl ?_
            refine J_iload_n (pc := 26) C 15 rfl 3 rfl rfl ?_
            obtain ⟨g3, h⟩ := gd_some h
            refine J_zald (pc := 27) (f := (vS 5)) (v := ((vS 5) (Int32.toNatClampNeg x3_15))) C 16 rfl 6 rfl g3 rfl ?_
            refine J_if_eq (pc := 28) (tgt := 61) C 17 rfl rfl (fun c4 => ?_) (fun c4 => ?_)
            · rw [if_pos c4] at h
              refine J_iinc (pc := 61) (v := (x3_15 + (1 : Int32))) (lv' := [(3, .int (x3_15 + (1 : Int32))), (0, .ref (aS 0)), (1, .int x1_4), (2, .int x2_15), (4, .int x4_15)]) C 32 rfl 3 rfl rfl (by decide) rfl ?_
              refine J_goto (pc := 64) (tgt := 4) C 33 rfl rfl ?_
              exact J_sub [1, 2, 3, 0] rfl (ih4 x2_15 (x3_15 + (1 : Int32)) h)
            · rw [if_neg c4] at h
              refine J_aload_n (pc := 31) C 18 rfl 0 rfl rfl ?_
              refine J_iload_n (pc := 32) C 19 rfl 3 rfl rfl ?_
              refine J_iload (pc := 33) C 20 rfl 4 rfl ?_
              obtain ⟨q5, hq5, h⟩ := bnd h
              refine J_callV (pc := 35) (st2 := []) (st3 := [.int q5]) (ws2 := (wSch G aS (vS 0) (vS 1) (vS 2) (vS 3) (vS 4) (vS 5) (vS 6) (vS 7) (vS 8 0) (vS 9 0))) C 21 rfl (c_X2_sits aS vS x3_15 x4_15 hq5) V_X2_sits k79 i_X2_sits s_X2_sits rfl rfl ⟨Nat.le_of_ble_eq_true rfl, Nat.le_of_ble_eq_true rfl⟩ (Nat.le_of_ble_eq_true rfl) ⟨Nat.le_refl _, Nat.le_refl _⟩ 0 2 rfl rfl rfl (isC := [0, 1, 2, 3, 4, 5, 6, 7, 8]) (isR := []) (N := 9) ⟨rfl, by decide +kernel, rfl, by decide +kernel, rfl, trivial⟩ rfl ?_
              refine J_if_eq (pc := 38) (tgt := 55) C 22 rfl rfl (fun c6 => ?_) (fun c6 => ?_)
              · rw [if_pos c6] at h
                refine J_iinc (pc := 55) (v := (x4_15 + (1 : Int32))) (lv' := [(4, .int (x4_15 + (1 : Int32))), (0, .ref (aS 0)), (1, .int x1_4), (2, .int x2_15), (3, .int x3_15)]) C 30 rfl 4 rfl rfl (by decide) rfl ?_
                refine J_goto (pc := 58) (tgt := 15) C 31 rfl rfl ?_
                exact J_sub [1, 2, 3, 4, 0] rfl (ih15 x2_15 (x4_15 + (1 : Int32)) h)
              · rw [if_neg c6] at h
                refine J_aload_n (pc := 41) C 23 rfl 0 rfl rfl ?_
                refine J_iload_n (pc := 42) C 24 rfl 3 rfl rfl ?_
                refine J_iload (pc := 43) C 25 rfl 4 rfl ?_
                refine J_iload_n (pc := 45) C 26 rfl 1 rfl rfl ?_
                obtain ⟨q7, hq7, h⟩ := bnd h
                refine J_callV (pc := 46) (st2 := []) (st3 := [.int q7]) (ws2 := (wSch G aS (vS 0) (vS 1) (vS 2) (vS 3) (vS 4) (vS 5) (vS 6) (vS 7) (vS 8 0) (vS 9 0))) C 27 rfl (c_X2_isSatAt aS vS x3_15 x4_15 x1_4 hq7) V_X2_isSatAt k101 i_X2_isSatAt s_X2_isSatAt rfl rfl ⟨Nat.le_of_ble_eq_true rfl, Nat.le_of_ble_eq_true rfl⟩ (Nat.le_of_ble_eq_true rfl) ⟨Nat.le_refl _, Nat.le_refl _⟩ 0 2 rfl rfl rfl (isC := [0, 1, 2, 3, 4, 5, 6, 7, 8]) (isR := []) (N := 9) ⟨rfl, by decide +kernel, rfl, by decide +kernel, rfl, trivial⟩ rfl ?_
                refine J_if_eq (pc := 49) (tgt := 55) C 28 rfl rfl (fun c8 => ?_) (fun c8 => ?_)
                · rw [if_pos c8] at h
                  refine J_iinc (pc := 55) (v := (x4_15 + (1 : Int32))) (lv' := [(4, .int (x4_15 + (1 : Int32))), (0, .ref (aS 0)), (1, .int x1_4), (2, .int x2_15), (3, .int x3_15)]) C 30 rfl 4 rfl rfl (by decide) rfl ?_
                  refine J_goto (pc := 58) (tgt := 15) C 31 rfl rfl ?_
                  exact J_sub [1, 2, 3, 4, 0] rfl (ih15 x2_15 (x4_15 + (1 : Int32)) h)
                · rw [if_neg c8] at h
                  refine J_iinc (pc := 52) (v := (x2_15 + (1 : Int32))) (lv' := [(2, .int (x2_15 + (1 : Int32))), (0, .ref (aS 0)), (1, .int x1_4), (3, .int x3_15), (4, .int x4_15)]) C 29 rfl 2 rfl rfl (by decide) rfl ?_
                  refine J_iinc (pc := 55) (v := (x4_15 + (1 : Int32))) (lv' := [(4, .int (x4_15 + (1 : Int32))), (2, .int (x2_15 + (1 : Int32))), (0, .ref (aS 0)), (1, .int x1_4), (3, .int x3_15)]) C 30 rfl 4 rfl rfl (by decide) rfl ?_
                  refine J_goto (pc := 58) (tgt := 15) C 31 rfl rfl ?_
                  exact J_sub [2, 3, 1, 4, 0] rfl (ih15 (x2_15 + (1 : Int32)) (x4_15 + (1 : Int32)) h)
      intro x2_4 x3_4 h
      replace h : f_X2_readersAt_b4 vS x1_4 (fun x2_4 x3_4 => f_X2_readersAt_L4 vS x1_4 n4 x2_4 x3_4) x2_4 x3_4 = some Rz := h
      unfold f_X2_readersAt_b4 at h
      refine J_iload_n (pc := 4) C 4 rfl 3 rfl rfl ?_
      refine J_aload_n (pc := 5) C 5 rfl 0 rfl rfl ?_
      refine J_get (pc := 6) (v := .int (vS 8 0)) C 6 rfl TB_l2 rfl 0 8 rfl (by decide) k14 rfl rfl ?_
      refine J_icmp_ge (pc := 9) (tgt := 67) C 7 rfl rfl (fun c1 => ?_) (fun c1 => ?_)
      · rw [if_pos c1] at h
        refine J_iload_n (pc := 67) C 34 rfl 2 rfl rfl ?_
        cases h
        exact J_iret (pc := 68) C 35 rfl
      · rw [if_neg c1] at h
        refine J_iconst (pc := 12) (v := (0 : Int32)) C 8 rfl rfl ?_
        refine J_istore (pc := 13) (lv' := [(4, .int (0 : Int32)), (0, .ref (aS 0)), (1, .int x1_4), (2, .int x2_4), (3, .int x3_4)]) C 9 rfl (by decide) rfl ?_
        exact J_sub [1, 2, 3, 4, 0] rfl (B15 x3_4 FU x2_4 (0 : Int32) h)
  unfold f_X2_readersAt at h
  refine J_iconst (pc := 0) (v := (0 : Int32)) C 0 rfl rfl ?_
  refine J_istore_n (pc := 1) (lv' := [(2, .int (0 : Int32)), (0, .ref (aS 0)), (1, .int x1)]) C 1 rfl rfl (by decide) rfl ?_
  refine J_iconst (pc := 2) (v := (0 : Int32)) C 2 rfl rfl ?_
  refine J_istore_n (pc := 3) (lv' := [(3, .int (0 : Int32)), (2, .int (0 : Int32)), (0, .ref (aS 0)), (1, .int x1)]) C 3 rfl rfl (by decide) rfl ?_
  exact J_sub [2, 3, 1, 0] rfl (B4 x1 FU (0 : Int32) (0 : Int32) h)
def T_X2_mostReaders : List (Nat × ClassFile.Instr × Nat) := [(0, .iconst 0, 1), (1, .istore_n 1, 1), (2, .iconst 0, 1), (3, .istore_n 2, 1), (4, .iload_n 2, 1), (5, .bipush 6, 2), (7, .if_icmp .ge 23, 3), (10, .iload_n 1, 1), (11, .aload_n 0, 1), (12, .aload_n 0, 1), (13, .iload_n 2, 1), (14, .invokevirtual 52, 3), (17, .invokevirtual 85, 3), (20, .invokestatic 77, 3), (23, .istore_n 1, 1), (24, .iinc 2 1, 3), (27, .goto (-23), 3), (30, .iload_n 1, 1), (31, .ireturn, 1)]
theorem D_X2_mostReaders : ∀ q ∈ T_X2_mostReaders, decode cX2_mostReaders q.1 = .ok q.2 := by decide +kernel
theorem V_X2_mostReaders : Vy yX2_mostReaders cX2_mostReaders 3 (some .int) 0 := ⟨k108, k22, by decide +kernel⟩
theorem i_X2_mostReaders : Cond.instanceMethod yX2_mostReaders ∈ TB := k315
theorem s_X2_mostReaders : Cond.selects yX2_mostReaders.cls yX2_mostReaders yX2_mostReaders ∈ TB := k316
noncomputable def f_X2_mostReaders_b4 (vS : JV) (r4 : Int32 → Int32 → Option (Int32)) (x1_4 : Int32) (x2_4 : Int32) : Option (Int32) :=
  (if (6 : Int32) ≤ x2_4 then some x1_4 else (f_X2_beginOf vS x2_4).bind (fun q2 => (f_X2_readersAt vS q2).bind (fun q3 => r4 (mx x1_4 q3) (x2_4 + (1 : Int32)))))
noncomputable def f_X2_mostReaders_L4 (vS : JV) (n : Nat) (x1_4 : Int32) (x2_4 : Int32) : Option (Int32) :=
  lp (fun (rec : Int32 × Int32 → Option (Int32)) a => f_X2_mostReaders_b4 vS (fun x1_4 x2_4 => rec (x1_4, x2_4)) a.1 a.2) n (x1_4, x2_4)
noncomputable def f_X2_mostReaders (vS : JV)  : Option (Int32) :=
  f_X2_mostReaders_L4 vS  FU (0 : Int32) (0 : Int32)
set_option maxRecDepth 100000 in
set_option maxHeartbeats 4000000 in
theorem c_X2_mostReaders {l : Launch} {G : JG} (aS : Nat → Nat) (vS : JV)  {Rz : Int32} (h : f_X2_mostReaders vS = some Rz) : JM l G yX2_mostReaders cX2_mostReaders 3 (some .int) 4 91 [.ref (aS 0)] (wSch G aS (vS 0) (vS 1) (vS 2) (vS 3) (vS 4) (vS 5) (vS 6) (vS 7) (vS 8 0) (vS 9 0)) (wSch G aS (vS 0) (vS 1) (vS 2) (vS 3) (vS 4) (vS 5) (vS 6) (vS 7) (vS 8 0) (vS 9 0)) (some (.int Rz)) := by
  refine JM.of (own := RX2) (tb := T_X2_mostReaders) (by decide) (Nat.le_of_ble_eq_true rfl) D_X2_mostReaders rfl (fun X C => ?_)
  refine J_sub (lv' := [(0, .ref (aS 0))]) [0] rfl ?_
  have B4 : ∀ (n4 : Nat) (x1_4 : Int32) (x2_4 : Int32), f_X2_mostReaders_L4 vS n4 x1_4 x2_4 = some Rz → J l { frames := 4, cells := 0, slots := 0, locals := 91 } G 3 X (QM X G 0 0 (some (.int Rz)) (wSch G aS (vS 0) (vS 1) (vS 2) (vS 3) (vS 4) (vS 5) (vS 6) (vS 7) (vS 8 0) (vS 9 0))) 0 0 4 [(0, .ref (aS 0)), (1, .int x1_4), (2, .int x2_4)] [] (wSch G aS (vS 0) (vS 1) (vS 2) (vS 3) (vS 4) (vS 5) (vS 6) (vS 7) (vS 8 0) (vS 9 0)) := by
    intro  n4
    induction n4 with
    | zero =>
      intro x1_4 x2_4 h
      exact (no_none rfl h).elim
    | succ n4 ih4 =>
      intro x1_4 x2_4 h
      replace h : f_X2_mostReaders_b4 vS (fun x1_4 x2_4 => f_X2_mostReaders_L4 vS n4 x1_4 x2_4) x1_4 x2_4 = some Rz := h
      unfold f_X2_mostReaders_b4 at h
      refine J_iload_n (pc := 4) C 4 rfl 2 rfl rfl ?_
      refine J_bipush (pc := 5) (v := (6 : Int32)) C 5 rfl rfl ?_
      refine J_icmp_ge (pc := 7) (tgt := 30) C 6 rfl rfl (fun c1 => ?_) (fun c1 => ?_)
      · rw [if_pos c1] at h
        refine J_iload_n (pc := 30) C 17 rfl 1 rfl rfl ?_
        cases h
        exact J_iret (pc := 31) C 18 rfl
      · rw [if_neg c1] at h
        refine J_iload_n (pc := 10) C 7 rfl 1 rfl rfl ?_
        refine J_aload_n (pc := 11) C 8 rfl 0 rfl rfl ?_
        refine J_aload_n (pc := 12) C 9 rfl 0 rfl rfl ?_
        refine J_iload_n (pc := 13) C 10 rfl 2 rfl rfl ?_
        obtain ⟨q2, hq2, h⟩ := bnd h
        refine J_callV (pc := 14) (st2 := [.ref (aS 0), .int x1_4]) (st3 := [.int q2, .ref (aS 0), .int x1_4]) (ws2 := (wSch G aS (vS 0) (vS 1) (vS 2) (vS 3) (vS 4) (vS 5) (vS 6) (vS 7) (vS 8 0) (vS 9 0))) C 11 rfl (c_X2_beginOf aS vS x2_4 hq2) V_X2_beginOf k60 i_X2_beginOf s_X2_beginOf rfl rfl ⟨Nat.le_of_ble_eq_true rfl, Nat.le_of_ble_eq_true rfl⟩ (Nat.le_of_ble_eq_true rfl) ⟨Nat.le_refl _, Nat.le_refl _⟩ 0 2 rfl rfl rfl (isC := [0, 1, 2, 3, 4, 5, 6, 7, 8]) (isR := []) (N := 9) ⟨rfl, by decide +kernel, rfl, by decide +kernel, rfl, trivial⟩ rfl ?_
        obtain ⟨q3, hq3, h⟩ := bnd h
        refine J_callV (pc := 17) (st2 := [.int x1_4]) (st3 := [.int q3, .int x1_4]) (ws2 := (wSch G aS (vS 0) (vS 1) (vS 2) (vS 3) (vS 4) (vS 5) (vS 6) (vS 7) (vS 8 0) (vS 9 0))) C 12 rfl (c_X2_readersAt aS vS q2 hq3) V_X2_readersAt k105 i_X2_readersAt s_X2_readersAt rfl rfl ⟨Nat.le_of_ble_eq_true rfl, Nat.le_of_ble_eq_true rfl⟩ (Nat.le_of_ble_eq_true rfl) ⟨Nat.le_refl _, Nat.le_refl _⟩ 0 2 rfl rfl rfl (isC := [0, 1, 2, 3, 4, 5, 6, 7, 8]) (isR := []) (N := 9) ⟨rfl, by decide +kernel, rfl, by decide +kernel, rfl, trivial⟩ rfl ?_
        refine J_mmax (pc := 20) C 13 rfl k92 (by decide) (Nat.le_of_ble_eq_true rfl) (Nat.le_refl _) (Nat.le_refl _) ?_
        refine J_istore_n (pc := 23) (lv' := [(1, .int (mx x1_4 q3)), (0, .ref (aS 0)), (2, .int x2_4)]) C 14 rfl rfl (by decide) rfl ?_
        refine J_iinc (pc := 24) (v := (x2_4 + (1 : Int32))) (lv' := [(2, .int (x2_4 + (1 : Int32))), (1, .int (mx x1_4 q3)), (0, .ref (aS 0))]) C 15 rfl 2 rfl rfl (by decide) rfl ?_
        refine J_goto (pc := 27) (tgt := 4) C 16 rfl rfl ?_
        exact J_sub [2, 1, 0] rfl (ih4 (mx x1_4 q3) (x2_4 + (1 : Int32)) h)
  unfold f_X2_mostReaders at h
  refine J_iconst (pc := 0) (v := (0 : Int32)) C 0 rfl rfl ?_
  refine J_istore_n (pc := 1) (lv' := [(1, .int (0 : Int32)), (0, .ref (aS 0))]) C 1 rfl rfl (by decide) rfl ?_
  refine J_iconst (pc := 2) (v := (0 : Int32)) C 2 rfl rfl ?_
  refine J_istore_n (pc := 3) (lv' := [(2, .int (0 : Int32)), (1, .int (0 : Int32)), (0, .ref (aS 0))]) C 3 rfl rfl (by decide) rfl ?_
  exact J_sub [2, 1, 0] rfl (B4  FU (0 : Int32) (0 : Int32) h)
def T_X2_isOpen : List (Nat × ClassFile.Instr × Nat) := [(0, .aload_n 0, 1), (1, .getfield 41, 3), (4, .iload_n 1, 1), (5, .invokestatic 48, 3), (8, .ireturn, 1)]
theorem D_X2_isOpen : ∀ q ∈ T_X2_isOpen, decode cX2_isOpen q.1 = .ok q.2 := by decide +kernel
theorem V_X2_isOpen : Vy yX2_isOpen cX2_isOpen 2 (some .boolean) 1 := ⟨k109, k22, by decide +kernel⟩
theorem i_X2_isOpen : Cond.instanceMethod yX2_isOpen ∈ TB := k113
theorem s_X2_isOpen : Cond.selects yX2_isOpen.cls yX2_isOpen yX2_isOpen ∈ TB := k114
noncomputable def f_X2_isOpen (vS : JV) (x1 : Int32) : Option (Int32) :=
  (f_X4_contains (vS 9 0) x1).bind (fun q1 => gd (isb q1) (some q1))
set_option maxRecDepth 100000 in
set_option maxHeartbeats 4000000 in
theorem c_X2_isOpen {l : Launch} {G : JG} (aS : Nat → Nat) (vS : JV) (x1 : Int32) {Rz : Int32} (h : f_X2_isOpen vS x1 = some Rz) : JM l G yX2_isOpen cX2_isOpen 2 (some .boolean) 1 21 [.ref (aS 0), .int x1] (wSch G aS (vS 0) (vS 1) (vS 2) (vS 3) (vS 4) (vS 5) (vS 6) (vS 7) (vS 8 0) (vS 9 0)) (wSch G aS (vS 0) (vS 1) (vS 2) (vS 3) (vS 4) (vS 5) (vS 6) (vS 7) (vS 8 0) (vS 9 0)) (some (.int Rz)) := by
  refine JM.of (own := RX2) (tb := T_X2_isOpen) (by decide) (Nat.le_of_ble_eq_true rfl) D_X2_isOpen rfl (fun X C => ?_)
  refine J_sub (lv' := [(0, .ref (aS 0)), (1, .int x1)]) [0, 1] rfl ?_
  unfold f_X2_isOpen at h
  refine J_aload_n (pc := 0) C 0 rfl 0 rfl rfl ?_
  refine J_get (pc := 1) (v := .int (vS 9 0)) C 1 rfl TB_l2 rfl 0 9 rfl (by decide) k15 rfl rfl ?_
  refine J_iload_n (pc := 4) C 2 rfl 1 rfl rfl ?_
  obtain ⟨q1, hq1, h⟩ := bnd h
  refine J_callSN (pc := 5) (st2 := []) (st3 := [.int q1]) (ws2 := (wSch G aS (vS 0) (vS 1) (vS 2) (vS 3) (vS 4) (vS 5) (vS 6) (vS 7) (vS 8 0) (vS 9 0))) C 3 rfl (c_X4_contains (vS 9 0) x1 hq1) V_X4_contains (List.mem_of_getElem? (i := 5) rfl) t_X4_contains rfl rfl ⟨Nat.le_of_ble_eq_true rfl, Nat.le_of_ble_eq_true rfl⟩ (Nat.le_of_ble_eq_true rfl) ⟨Nat.le_refl _, Nat.le_refl _⟩ (isC := []) (isR := [0, 1, 2, 3, 4, 5, 6, 7, 8]) (N := 9) ⟨rfl, by decide +kernel, rfl, by decide +kernel, rfl, ⟨⟨_, rfl, rfl⟩, ⟨⟨_, rfl, rfl⟩, ⟨⟨_, rfl, rfl⟩, ⟨⟨_, rfl, rfl⟩, ⟨⟨_, rfl, rfl⟩, ⟨⟨_, rfl, rfl⟩, ⟨⟨_, rfl, rfl⟩, ⟨⟨_, rfl, rfl⟩, ⟨⟨_, rfl, rfl⟩, trivial⟩⟩⟩⟩⟩⟩⟩⟩⟩⟩ rfl ?_
  obtain ⟨g2, h⟩ := gd_some h
  cases h
  exact J_zret (pc := 8) C 4 rfl g2
def T_X2_desksOf : List (Nat × ClassFile.Instr × Nat) := [(0, .aload_n 0, 1), (1, .getfield 31, 3), (4, .iload_n 1, 1), (5, .iaload, 1), (6, .aload_n 0, 1), (7, .getfield 34, 3), (10, .iload_n 1, 1), (11, .iaload, 1), (12, .imul, 1), (13, .ireturn, 1)]
theorem D_X2_desksOf : ∀ q ∈ T_X2_desksOf, decode cX2_desksOf q.1 = .ok q.2 := by decide +kernel
theorem V_X2_desksOf : Vy yX2_desksOf cX2_desksOf 2 (some .int) 1 := ⟨k110, k22, by decide +kernel⟩
theorem i_X2_desksOf : Cond.instanceMethod yX2_desksOf ∈ TB := k116
theorem s_X2_desksOf : Cond.selects yX2_desksOf.cls yX2_desksOf yX2_desksOf ∈ TB := k117
noncomputable def f_X2_desksOf (vS : JV) (x1 : Int32) : Option (Int32) :=
  gd (inb x1 4) (gd (inb x1 4) (some (((vS 6) (Int32.toNatClampNeg x1)) * ((vS 7) (Int32.toNatClampNeg x1)))))
set_option maxRecDepth 100000 in
set_option maxHeartbeats 4000000 in
theorem c_X2_desksOf {l : Launch} {G : JG} (aS : Nat → Nat) (vS : JV) (x1 : Int32) {Rz : Int32} (h : f_X2_desksOf vS x1 = some Rz) : JM l G yX2_desksOf cX2_desksOf 2 (some .int) 0 0 [.ref (aS 0), .int x1] (wSch G aS (vS 0) (vS 1) (vS 2) (vS 3) (vS 4) (vS 5) (vS 6) (vS 7) (vS 8 0) (vS 9 0)) (wSch G aS (vS 0) (vS 1) (vS 2) (vS 3) (vS 4) (vS 5) (vS 6) (vS 7) (vS 8 0) (vS 9 0)) (some (.int Rz)) := by
  refine JM.of (own := RX2) (tb := T_X2_desksOf) (by decide) (Nat.le_of_ble_eq_true rfl) D_X2_desksOf rfl (fun X C => ?_)
  refine J_sub (lv' := [(0, .ref (aS 0)), (1, .int x1)]) [0, 1] rfl ?_
  unfold f_X2_desksOf at h
  refine J_aload_n (pc := 0) C 0 rfl 0 rfl rfl ?_
  refine J_get (pc := 1) (v := .ref (aS 7)) C 1 rfl TB_l2 rfl 0 6 rfl (by decide) k12 rfl rfl ?_
  refine J_iload_n (pc := 4) C 2 rfl 1 rfl rfl ?_
  obtain ⟨g1, h⟩ := gd_some h
  refine J_iald (pc := 5) (f := (vS 6)) (v := ((vS 6) (Int32.toNatClampNeg x1))) C 3 rfl 7 rfl g1 rfl ?_
  refine J_aload_n (pc := 6) C 4 rfl 0 rfl rfl ?_
  refine J_get (pc := 7) (v := .ref (aS 8)) C 5 rfl TB_l2 rfl 0 7 rfl (by decide) k13 rfl rfl ?_
  refine J_iload_n (pc := 10) C 6 rfl 1 rfl rfl ?_
  obtain ⟨g2, h⟩ := gd_some h
  refine J_iald (pc := 11) (f := (vS 7)) (v := ((vS 7) (Int32.toNatClampNeg x1))) C 7 rfl 8 rfl g2 rfl ?_
  refine J_imul (pc := 12) C 8 rfl  ?_
  cases h
  exact J_iret (pc := 13) C 9 rfl
def T_X2_openDesks : List (Nat × ClassFile.Instr × Nat) := [(0, .iconst 0, 1), (1, .istore_n 1, 1), (2, .iconst 0, 1), (3, .istore_n 2, 1), (4, .iload_n 2, 1), (5, .iconst 4, 1), (6, .if_icmp .ge 25, 3), (9, .aload_n 0, 1), (10, .iload_n 2, 1), (11, .invokevirtual 92, 3), (14, .ifCond .eq 11, 3), (17, .iload_n 1, 1), (18, .aload_n 0, 1), (19, .iload_n 2, 1), (20, .invokevirtual 96, 3), (23, .iadd, 1), (24, .istore_n 1, 1), (25, .iinc 2 1, 3), (28, .goto (-24), 3), (31, .iload_n 1, 1), (32, .ireturn, 1)]
theorem D_X2_openDesks : ∀ q ∈ T_X2_openDesks, decode cX2_openDesks q.1 = .ok q.2 := by decide +kernel
theorem V_X2_openDesks : Vy yX2_openDesks cX2_openDesks 3 (some .int) 0 := ⟨k111, k22, by decide +kernel⟩
theorem i_X2_openDesks : Cond.instanceMethod yX2_openDesks ∈ TB := k312
theorem s_X2_openDesks : Cond.selects yX2_openDesks.cls yX2_openDesks yX2_openDesks ∈ TB := k313
noncomputable def f_X2_openDesks_b4 (vS : JV) (r4 : Int32 → Int32 → Option (Int32)) (x1_4 : Int32) (x2_4 : Int32) : Option (Int32) :=
  (if (4 : Int32) ≤ x2_4 then some x1_4 else (f_X2_isOpen vS x2_4).bind (fun q2 => (if q2 = 0 then r4 x1_4 (x2_4 + (1 : Int32)) else (f_X2_desksOf vS x2_4).bind (fun q4 => r4 (x1_4 + q4) (x2_4 + (1 : Int32))))))
noncomputable def f_X2_openDesks_L4 (vS : JV) (n : Nat) (x1_4 : Int32) (x2_4 : Int32) : Option (Int32) :=
  lp (fun (rec : Int32 × Int32 → Option (Int32)) a => f_X2_openDesks_b4 vS (fun x1_4 x2_4 => rec (x1_4, x2_4)) a.1 a.2) n (x1_4, x2_4)
noncomputable def f_X2_openDesks (vS : JV)  : Option (Int32) :=
  f_X2_openDesks_L4 vS  FU (0 : Int32) (0 : Int32)
set_option maxRecDepth 100000 in
set_option maxHeartbeats 4000000 in
theorem c_X2_openDesks {l : Launch} {G : JG} (aS : Nat → Nat) (vS : JV)  {Rz : Int32} (h : f_X2_openDesks vS = some Rz) : JM l G yX2_openDesks cX2_openDesks 3 (some .int) 2 42 [.ref (aS 0)] (wSch G aS (vS 0) (vS 1) (vS 2) (vS 3) (vS 4) (vS 5) (vS 6) (vS 7) (vS 8 0) (vS 9 0)) (wSch G aS (vS 0) (vS 1) (vS 2) (vS 3) (vS 4) (vS 5) (vS 6) (vS 7) (vS 8 0) (vS 9 0)) (some (.int Rz)) := by
  refine JM.of (own := RX2) (tb := T_X2_openDesks) (by decide) (Nat.le_of_ble_eq_true rfl) D_X2_openDesks rfl (fun X C => ?_)
  refine J_sub (lv' := [(0, .ref (aS 0))]) [0] rfl ?_
  have B4 : ∀ (n4 : Nat) (x1_4 : Int32) (x2_4 : Int32), f_X2_openDesks_L4 vS n4 x1_4 x2_4 = some Rz → J l { frames := 2, cells := 0, slots := 0, locals := 42 } G 3 X (QM X G 0 0 (some (.int Rz)) (wSch G aS (vS 0) (vS 1) (vS 2) (vS 3) (vS 4) (vS 5) (vS 6) (vS 7) (vS 8 0) (vS 9 0))) 0 0 4 [(0, .ref (aS 0)), (1, .int x1_4), (2, .int x2_4)] [] (wSch G aS (vS 0) (vS 1) (vS 2) (vS 3) (vS 4) (vS 5) (vS 6) (vS 7) (vS 8 0) (vS 9 0)) := by
    intro  n4
    induction n4 with
    | zero =>
      intro x1_4 x2_4 h
      exact (no_none rfl h).elim
    | succ n4 ih4 =>
      intro x1_4 x2_4 h
      replace h : f_X2_openDesks_b4 vS (fun x1_4 x2_4 => f_X2_openDesks_L4 vS n4 x1_4 x2_4) x1_4 x2_4 = some Rz := h
      unfold f_X2_openDesks_b4 at h
      refine J_iload_n (pc := 4) C 4 rfl 2 rfl rfl ?_
      refine J_iconst (pc := 5) (v := (4 : Int32)) C 5 rfl rfl ?_
      refine J_icmp_ge (pc := 6) (tgt := 31) C 6 rfl rfl (fun c1 => ?_) (fun c1 => ?_)
      · rw [if_pos c1] at h
        refine J_iload_n (pc := 31) C 19 rfl 1 rfl rfl ?_
        cases h
        exact J_iret (pc := 32) C 20 rfl
      · rw [if_neg c1] at h
        refine J_aload_n (pc := 9) C 7 rfl 0 rfl rfl ?_
        refine J_iload_n (pc := 10) C 8 rfl 2 rfl rfl ?_
        obtain ⟨q2, hq2, h⟩ := bnd h
        refine J_callV (pc := 11) (st2 := []) (st3 := [.int q2]) (ws2 := (wSch G aS (vS 0) (vS 1) (vS 2) (vS 3) (vS 4) (vS 5) (vS 6) (vS 7) (vS 8 0) (vS 9 0))) C 9 rfl (c_X2_isOpen aS vS x2_4 hq2) V_X2_isOpen k112 i_X2_isOpen s_X2_isOpen rfl rfl ⟨Nat.le_of_ble_eq_true rfl, Nat.le_of_ble_eq_true rfl⟩ (Nat.le_of_ble_eq_true rfl) ⟨Nat.le_refl _, Nat.le_refl _⟩ 0 2 rfl rfl rfl (isC := [0, 1, 2, 3, 4, 5, 6, 7, 8]) (isR := []) (N := 9) ⟨rfl, by decide +kernel, rfl, by decide +kernel, rfl, trivial⟩ rfl ?_
        refine J_if_eq (pc := 14) (tgt := 25) C 10 rfl rfl (fun c3 => ?_) (fun c3 => ?_)
        · rw [if_pos c3] at h
          refine J_iinc (pc := 25) (v := (x2_4 + (1 : Int32))) (lv' := [(2, .int (x2_4 + (1 : Int32))), (0, .ref (aS 0)), (1, .int x1_4)]) C 17 rfl 2 rfl rfl (by decide) rfl ?_
          refine J_goto (pc := 28) (tgt := 4) C 18 rfl rfl ?_
          exact J_sub [1, 2, 0] rfl (ih4 x1_4 (x2_4 + (1 : Int32)) h)
        · rw [if_neg c3] at h
          refine J_iload_n (pc := 17) C 11 rfl 1 rfl rfl ?_
          refine J_aload_n (pc := 18) C 12 rfl 0 rfl rfl ?_
          refine J_iload_n (pc := 19) C 13 rfl 2 rfl rfl ?_
          obtain ⟨q4, hq4, h⟩ := bnd h
          refine J_callV (pc := 20) (st2 := [.int x1_4]) (st3 := [.int q4, .int x1_4]) (ws2 := (wSch G aS (vS 0) (vS 1) (vS 2) (vS 3) (vS 4) (vS 5) (vS 6) (vS 7) (vS 8 0) (vS 9 0))) C 14 rfl (c_X2_desksOf aS vS x2_4 hq4) V_X2_desksOf k115 i_X2_desksOf s_X2_desksOf rfl rfl ⟨Nat.le_of_ble_eq_true rfl, Nat.le_of_ble_eq_true rfl⟩ (Nat.le_of_ble_eq_true rfl) ⟨Nat.le_refl _, Nat.le_refl _⟩ 0 2 rfl rfl rfl (isC := [0, 1, 2, 3, 4, 5, 6, 7, 8]) (isR := []) (N := 9) ⟨rfl, by decide +kernel, rfl, by decide +kernel, rfl, trivial⟩ rfl ?_
          refine J_iadd (pc := 23) C 15 rfl  ?_
          refine J_istore_n (pc := 24) (lv' := [(1, .int (x1_4 + q4)), (0, .ref (aS 0)), (2, .int x2_4)]) C 16 rfl rfl (by decide) rfl ?_
          refine J_iinc (pc := 25) (v := (x2_4 + (1 : Int32))) (lv' := [(2, .int (x2_4 + (1 : Int32))), (1, .int (x1_4 + q4)), (0, .ref (aS 0))]) C 17 rfl 2 rfl rfl (by decide) rfl ?_
          refine J_goto (pc := 28) (tgt := 4) C 18 rfl rfl ?_
          exact J_sub [2, 1, 0] rfl (ih4 (x1_4 + q4) (x2_4 + (1 : Int32)) h)
  unfold f_X2_openDesks at h
  refine J_iconst (pc := 0) (v := (0 : Int32)) C 0 rfl rfl ?_
  refine J_istore_n (pc := 1) (lv' := [(1, .int (0 : Int32)), (0, .ref (aS 0))]) C 1 rfl rfl (by decide) rfl ?_
  refine J_iconst (pc := 2) (v := (0 : Int32)) C 2 rfl rfl ?_
  refine J_istore_n (pc := 3) (lv' := [(2, .int (0 : Int32)), (1, .int (0 : Int32)), (0, .ref (aS 0))]) C 3 rfl rfl (by decide) rfl ?_
  exact J_sub [2, 1, 0] rfl (B4  FU (0 : Int32) (0 : Int32) h)
end
section
def T_X3_clear : List (Nat × ClassFile.Instr × Nat) := [(0, .iconst 0, 1), (1, .istore_n 1, 1), (2, .iload_n 1, 1), (3, .bipush 96, 2), (5, .if_icmp .ge 33, 3), (8, .aload_n 0, 1), (9, .getfield 18, 3), (12, .iload_n 1, 1), (13, .bipush (-6), 2), (15, .iastore, 1), (16, .aload_n 0, 1), (17, .getfield 22, 3), (20, .iload_n 1, 1), (21, .bipush (-6), 2), (23, .iastore, 1), (24, .aload_n 0, 1), (25, .getfield 25, 3), (28, .iload_n 1, 1), (29, .bipush (-6), 2), (31, .iastore, 1), (32, .iinc 1 1, 3), (35, .goto (-33), 3), (38, .iconst 0, 1), (39, .istore_n 1, 1), (40, .iload_n 1, 1), (41, .bipush 64, 2), (43, .if_icmp .ge 25, 3), (46, .aload_n 0, 1), (47, .getfield 35, 3), (50, .iload_n 1, 1), (51, .sipush (-1000), 3), (54, .iastore, 1), (55, .aload_n 0, 1), (56, .getfield 38, 3), (59, .iload_n 1, 1), (60, .iconst 0, 1), (61, .iastore, 1), (62, .iinc 1 1, 3), (65, .goto (-25), 3), (68, .iconst 0, 1), (69, .istore_n 1, 1), (70, .iload_n 1, 1), (71, .bipush 6, 2), (73, .if_icmp .ge 18, 3), (76, .aload_n 0, 1), (77, .getfield 41, 3), (80, .iload_n 1, 1), (81, .sipush (-1000), 3), (84, .iastore, 1), (85, .iinc 1 1, 3), (88, .goto (-18), 3), (91, .aload_n 0, 1), (92, .iconst 0, 1), (93, .putfield 28, 3), (96, .aload_n 0, 1), (97, .iconst 0, 1), (98, .putfield 32, 3), (101, .return_, 1)]
theorem D_X3_clear : ∀ q ∈ T_X3_clear, decode cX3_clear q.1 = .ok q.2 := by decide +kernel
theorem V_X3_clear : Vy yX3_clear cX3_clear 2 none 0 := ⟨k130, k138, by decide +kernel⟩
theorem i_X3_clear : Cond.instanceMethod yX3_clear ∈ TB := k166
theorem s_X3_clear : Cond.selects yX3_clear.cls yX3_clear yX3_clear ∈ TB := k167
noncomputable def f_X3_clear_b70  (r70 : JV → Int32 → Option (JV)) (vT_70 : JV) (x1_70 : Int32) : Option (JV) :=
  (if (6 : Int32) ≤ x1_70 then some (up2 (up2 vT_70 4 0 (0 : Int32)) 5 0 (0 : Int32)) else gd (inb x1_70 6) (r70 (up2 vT_70 8 (Int32.toNatClampNeg x1_70) (-1000 : Int32)) (x1_70 + (1 : Int32))))
noncomputable def f_X3_clear_L70  (n : Nat) (vT_70 : JV) (x1_70 : Int32) : Option (JV) :=
  lp (fun (rec : JV × Int32 → Option (JV)) a => f_X3_clear_b70  (fun vT_70 x1_70 => rec (vT_70, x1_70)) a.1 a.2) n (vT_70, x1_70)
noncomputable def f_X3_clear_b40  (r40 : JV → Int32 → Option (JV)) (vT_40 : JV) (x1_40 : Int32) : Option (JV) :=
  (if (64 : Int32) ≤ x1_40 then f_X3_clear_L70   FU vT_40 (0 : Int32) else gd (inb x1_40 64) (gd (inb x1_40 64) (r40 (up2 (up2 vT_40 6 (Int32.toNatClampNeg x1_40) (-1000 : Int32)) 7 (Int32.toNatClampNeg x1_40) (0 : Int32)) (x1_40 + (1 : Int32)))))
noncomputable def f_X3_clear_L40  (n : Nat) (vT_40 : JV) (x1_40 : Int32) : Option (JV) :=
  lp (fun (rec : JV × Int32 → Option (JV)) a => f_X3_clear_b40  (fun vT_40 x1_40 => rec (vT_40, x1_40)) a.1 a.2) n (vT_40, x1_40)
noncomputable def f_X3_clear_b2  (r2 : JV → Int32 → Option (JV)) (vT_2 : JV) (x1_2 : Int32) : Option (JV) :=
  (if (96 : Int32) ≤ x1_2 then f_X3_clear_L40   FU vT_2 (0 : Int32) else gd (inb x1_2 96) (gd (inb x1_2 96) (gd (inb x1_2 96) (r2 (up2 (up2 (up2 vT_2 1 (Int32.toNatClampNeg x1_2) (-6 : Int32)) 2 (Int32.toNatClampNeg x1_2) (-6 : Int32)) 3 (Int32.toNatClampNeg x1_2) (-6 : Int32)) (x1_2 + (1 : Int32))))))
noncomputable def f_X3_clear_L2  (n : Nat) (vT_2 : JV) (x1_2 : Int32) : Option (JV) :=
  lp (fun (rec : JV × Int32 → Option (JV)) a => f_X3_clear_b2  (fun vT_2 x1_2 => rec (vT_2, x1_2)) a.1 a.2) n (vT_2, x1_2)
noncomputable def f_X3_clear (vT : JV)  : Option (JV) :=
  f_X3_clear_L2   FU vT (0 : Int32)
set_option maxRecDepth 100000 in
set_option maxHeartbeats 4000000 in
theorem c_X3_clear {l : Launch} {G : JG} (aT : Nat → Nat) (aS : Nat → Nat) (vT : JV)  {Rz : JV} (h : f_X3_clear vT = some Rz) : JM l G yX3_clear cX3_clear 2 none 0 0 [.ref (aT 0)] (wSeat G aT (aS 0) (vT 1) (vT 2) (vT 3) (vT 4 0) (vT 5 0) (vT 6) (vT 7) (vT 8)) (wSeat G aT (aS 0) (Rz 1) (Rz 2) (Rz 3) (Rz 4 0) (Rz 5 0) (Rz 6) (Rz 7) (Rz 8)) none := by
  refine JM.of (own := RX3) (tb := T_X3_clear) (by decide) (Nat.le_of_ble_eq_true rfl) D_X3_clear rfl (fun X C => ?_)
  refine J_sub (lv' := [(0, .ref (aT 0))]) [0] rfl ?_
  have B70 : ∀ (n70 : Nat) (vT_70 : JV) (x1_70 : Int32), f_X3_clear_L70  n70 vT_70 x1_70 = some Rz → J l { frames := 0, cells := 0, slots := 0, locals := 0 } G 2 X (QM X G 0 0 none (wSeat G aT (aS 0) (Rz 1) (Rz 2) (Rz 3) (Rz 4 0) (Rz 5 0) (Rz 6) (Rz 7) (Rz 8))) 0 0 70 [(0, .ref (aT 0)), (1, .int x1_70)] [] (wSeat G aT (aS 0) (vT_70 1) (vT_70 2) (vT_70 3) (vT_70 4 0) (vT_70 5 0) (vT_70 6) (vT_70 7) (vT_70 8)) := by
    intro  n70
    induction n70 with
    | zero =>
      intro vT_70 x1_70 h
      exact (no_none rfl h).elim
    | succ n70 ih70 =>
      intro vT_70 x1_70 h
      replace h : f_X3_clear_b70  (fun vT_70 x1_70 => f_X3_clear_L70  n70 vT_70 x1_70) vT_70 x1_70 = some Rz := h
      unfold f_X3_clear_b70 at h
      refine J_iload_n (pc := 70) C 41 rfl 1 rfl rfl ?_
      refine J_bipush (pc := 71) (v := (6 : Int32)) C 42 rfl rfl ?_
      refine J_icmp_ge (pc := 73) (tgt := 91) C 43 rfl rfl (fun c3 => ?_) (fun c3 => ?_)
      · rw [if_pos c3] at h
        refine J_aload_n (pc := 91) C 51 rfl 0 rfl rfl ?_
        refine J_iconst (pc := 92) (v := (0 : Int32)) C 52 rfl rfl ?_
        refine J_puti (pc := 93) C 53 (fun vv => (wSeat G aT (aS 0) (vT_70 1) (vT_70 2) (vT_70 3) vv (vT_70 5 0) (vT_70 6) (vT_70 7) (vT_70 8))) rfl TB_l3 tyX3 tyX3_ok nmX3 rfl 0 4 rfl (by decide) k124 rfl rfl rfl (Nat.le_of_ble_eq_true rfl) (fun _ => rfl) ?_
        refine J_aload_n (pc := 96) C 54 rfl 0 rfl rfl ?_
        refine J_iconst (pc := 97) (v := (0 : Int32)) C 55 rfl rfl ?_
        refine J_puti (pc := 98) C 56 (fun vv => (wSeat G aT (aS 0) (vT_70 1) (vT_70 2) (vT_70 3) (0 : Int32) vv (vT_70 6) (vT_70 7) (vT_70 8))) rfl TB_l3 tyX3 tyX3_ok nmX3 rfl 0 5 rfl (by decide) k125 rfl rfl rfl (Nat.le_of_ble_eq_true rfl) (fun _ => rfl) ?_
        cases h
        exact J_vret (pc := 101) C 57 rfl
      · rw [if_neg c3] at h
        refine J_aload_n (pc := 76) C 44 rfl 0 rfl rfl ?_
        refine J_get (pc := 77) (v := .ref (aT 6)) C 45 rfl TB_l3 rfl 0 8 rfl (by decide) k128 rfl rfl ?_
        refine J_iload_n (pc := 80) C 46 rfl 1 rfl rfl ?_
        refine J_sipush (pc := 81) (v := (-1000 : Int32)) C 47 rfl rfl ?_
        obtain ⟨g4, h⟩ := gd_some h
        refine J_iast (pc := 84) (f := (vT_70 8)) (m := (Int32.toNatClampNeg x1_70)) C 48 (fun mm vv => (wSeat G aT (aS 0) (vT_70 1) (vT_70 2) (vT_70 3) (vT_70 4 0) (vT_70 5 0) (vT_70 6) (vT_70 7) (upd (vT_70 8) mm vv))) rfl 6 rfl g4 rfl (fun _ _ => rfl) ?_
        refine J_iinc (pc := 85) (v := (x1_70 + (1 : Int32))) (lv' := [(1, .int (x1_70 + (1 : Int32))), (0, .ref (aT 0))]) C 49 rfl 1 rfl rfl (by decide) rfl ?_
        refine J_goto (pc := 88) (tgt := 70) C 50 rfl rfl ?_
        exact J_sub [1, 0] rfl (ih70 (up2 vT_70 8 (Int32.toNatClampNeg x1_70) (-1000 : Int32)) (x1_70 + (1 : Int32)) h)
  have B40 : ∀ (n40 : Nat) (vT_40 : JV) (x1_40 : Int32), f_X3_clear_L40  n40 vT_40 x1_40 = some Rz → J l { frames := 0, cells := 0, slots := 0, locals := 0 } G 2 X (QM X G 0 0 none (wSeat G aT (aS 0) (Rz 1) (Rz 2) (Rz 3) (Rz 4 0) (Rz 5 0) (Rz 6) (Rz 7) (Rz 8))) 0 0 40 [(0, .ref (aT 0)), (1, .int x1_40)] [] (wSeat G aT (aS 0) (vT_40 1) (vT_40 2) (vT_40 3) (vT_40 4 0) (vT_40 5 0) (vT_40 6) (vT_40 7) (vT_40 8)) := by
    intro  n40
    induction n40 with
    | zero =>
      intro vT_40 x1_40 h
      exact (no_none rfl h).elim
    | succ n40 ih40 =>
      intro vT_40 x1_40 h
      replace h : f_X3_clear_b40  (fun vT_40 x1_40 => f_X3_clear_L40  n40 vT_40 x1_40) vT_40 x1_40 = some Rz := h
      unfold f_X3_clear_b40 at h
      refine J_iload_n (pc := 40) C 24 rfl 1 rfl rfl ?_
      refine J_bipush (pc := 41) (v := (64 : Int32)) C 25 rfl rfl ?_
      refine J_icmp_ge (pc := 43) (tgt := 68) C 26 rfl rfl (fun c2 => ?_) (fun c2 => ?_)
      · rw [if_pos c2] at h
        refine J_iconst (pc := 68) (v := (0 : Int32)) C 39 rfl rfl ?_
        refine J_istore_n (pc := 69) (lv' := [(1, .int (0 : Int32)), (0, .ref (aT 0))]) C 40 rfl rfl (by decide) rfl ?_
        exact J_sub [1, 0] rfl (B70  FU vT_40 (0 : Int32) h)
      · rw [if_neg c2] at h
        refine J_aload_n (pc := 46) C 27 rfl 0 rfl rfl ?_
        refine J_get (pc := 47) (v := .ref (aT 4)) C 28 rfl TB_l3 rfl 0 6 rfl (by decide) k126 rfl rfl ?_
        refine J_iload_n (pc := 50) C 29 rfl 1 rfl rfl ?_
        refine J_sipush (pc := 51) (v := (-1000 : Int32)) C 30 rfl rfl ?_
        obtain ⟨g5, h⟩ := gd_some h
        refine J_iast (pc := 54) (f := (vT_40 6)) (m := (Int32.toNatClampNeg x1_40)) C 31 (fun mm vv => (wSeat G aT (aS 0) (vT_40 1) (vT_40 2) (vT_40 3) (vT_40 4 0) (vT_40 5 0) (upd (vT_40 6) mm vv) (vT_40 7) (vT_40 8))) rfl 4 rfl g5 rfl (fun _ _ => rfl) ?_
        refine J_aload_n (pc := 55) C 32 rfl 0 rfl rfl ?_
        refine J_get (pc := 56) (v := .ref (aT 5)) C 33 rfl TB_l3 rfl 0 7 rfl (by decide) k127 rfl rfl ?_
        refine J_iload_n (pc := 59) C 34 rfl 1 rfl rfl ?_
        refine J_iconst (pc := 60) (v := (0 : Int32)) C 35 rfl rfl ?_
        obtain ⟨g6, h⟩ := gd_some h
        refine J_iast (pc := 61) (f := (vT_40 7)) (m := (Int32.toNatClampNeg x1_40)) C 36 (fun mm vv => (wSeat G aT (aS 0) (vT_40 1) (vT_40 2) (vT_40 3) (vT_40 4 0) (vT_40 5 0) (upd (vT_40 6) (Int32.toNatClampNeg x1_40) (-1000 : Int32)) (upd (vT_40 7) mm vv) (vT_40 8))) rfl 5 rfl g6 rfl (fun _ _ => rfl) ?_
        refine J_iinc (pc := 62) (v := (x1_40 + (1 : Int32))) (lv' := [(1, .int (x1_40 + (1 : Int32))), (0, .ref (aT 0))]) C 37 rfl 1 rfl rfl (by decide) rfl ?_
        refine J_goto (pc := 65) (tgt := 40) C 38 rfl rfl ?_
        exact J_sub [1, 0] rfl (ih40 (up2 (up2 vT_40 6 (Int32.toNatClampNeg x1_40) (-1000 : Int32)) 7 (Int32.toNatClampNeg x1_40) (0 : Int32)) (x1_40 + (1 : Int32)) h)
  have B2 : ∀ (n2 : Nat) (vT_2 : JV) (x1_2 : Int32), f_X3_clear_L2  n2 vT_2 x1_2 = some Rz → J l { frames := 0, cells := 0, slots := 0, locals := 0 } G 2 X (QM X G 0 0 none (wSeat G aT (aS 0) (Rz 1) (Rz 2) (Rz 3) (Rz 4 0) (Rz 5 0) (Rz 6) (Rz 7) (Rz 8))) 0 0 2 [(0, .ref (aT 0)), (1, .int x1_2)] [] (wSeat G aT (aS 0) (vT_2 1) (vT_2 2) (vT_2 3) (vT_2 4 0) (vT_2 5 0) (vT_2 6) (vT_2 7) (vT_2 8)) := by
    intro  n2
    induction n2 with
    | zero =>
      intro vT_2 x1_2 h
      exact (no_none rfl h).elim
    | succ n2 ih2 =>
      intro vT_2 x1_2 h
      replace h : f_X3_clear_b2  (fun vT_2 x1_2 => f_X3_clear_L2  n2 vT_2 x1_2) vT_2 x1_2 = some Rz := h
      unfold f_X3_clear_b2 at h
      refine J_iload_n (pc := 2) C 2 rfl 1 rfl rfl ?_
      refine J_bipush (pc := 3) (v := (96 : Int32)) C 3 rfl rfl ?_
      refine J_icmp_ge (pc := 5) (tgt := 38) C 4 rfl rfl (fun c1 => ?_) (fun c1 => ?_)
      · rw [if_pos c1] at h
        refine J_iconst (pc := 38) (v := (0 : Int32)) C 22 rfl rfl ?_
        refine J_istore_n (pc := 39) (lv' := [(1, .int (0 : Int32)), (0, .ref (aT 0))]) C 23 rfl rfl (by decide) rfl ?_
        exact J_sub [1, 0] rfl (B40  FU vT_2 (0 : Int32) h)
      · rw [if_neg c1] at h
        refine J_aload_n (pc := 8) C 5 rfl 0 rfl rfl ?_
        refine J_get (pc := 9) (v := .ref (aT 1)) C 6 rfl TB_l3 rfl 0 1 rfl (by decide) k121 rfl rfl ?_
        refine J_iload_n (pc := 12) C 7 rfl 1 rfl rfl ?_
        refine J_bipush (pc := 13) (v := (-6 : Int32)) C 8 rfl rfl ?_
        obtain ⟨g7, h⟩ := gd_some h
        refine J_iast (pc := 15) (f := (vT_2 1)) (m := (Int32.toNatClampNeg x1_2)) C 9 (fun mm vv => (wSeat G aT (aS 0) (upd (vT_2 1) mm vv) (vT_2 2) (vT_2 3) (vT_2 4 0) (vT_2 5 0) (vT_2 6) (vT_2 7) (vT_2 8))) rfl 1 rfl g7 rfl (fun _ _ => rfl) ?_
        refine J_aload_n (pc := 16) C 10 rfl 0 rfl rfl ?_
        refine J_get (pc := 17) (v := .ref (aT 2)) C 11 rfl TB_l3 rfl 0 2 rfl (by decide) k122 rfl rfl ?_
        refine J_iload_n (pc := 20) C 12 rfl 1 rfl rfl ?_
        refine J_bipush (pc := 21) (v := (-6 : Int32)) C 13 rfl rfl ?_
        obtain ⟨g8, h⟩ := gd_some h
        refine J_iast (pc := 23) (f := (vT_2 2)) (m := (Int32.toNatClampNeg x1_2)) C 14 (fun mm vv => (wSeat G aT (aS 0) (upd (vT_2 1) (Int32.toNatClampNeg x1_2) (-6 : Int32)) (upd (vT_2 2) mm vv) (vT_2 3) (vT_2 4 0) (vT_2 5 0) (vT_2 6) (vT_2 7) (vT_2 8))) rfl 2 rfl g8 rfl (fun _ _ => rfl) ?_
        refine J_aload_n (pc := 24) C 15 rfl 0 rfl rfl ?_
        refine J_get (pc := 25) (v := .ref (aT 3)) C 16 rfl TB_l3 rfl 0 3 rfl (by decide) k123 rfl rfl ?_
        refine J_iload_n (pc := 28) C 17 rfl 1 rfl rfl ?_
        refine J_bipush (pc := 29) (v := (-6 : Int32)) C 18 rfl rfl ?_
        obtain ⟨g9, h⟩ := gd_some h
        refine J_iast (pc := 31) (f := (vT_2 3)) (m := (Int32.toNatClampNeg x1_2)) C 19 (fun mm vv => (wSeat G aT (aS 0) (upd (vT_2 1) (Int32.toNatClampNeg x1_2) (-6 : Int32)) (upd (vT_2 2) (Int32.toNatClampNeg x1_2) (-6 : Int32)) (upd (vT_2 3) mm vv) (vT_2 4 0) (vT_2 5 0) (vT_2 6) (vT_2 7) (vT_2 8))) rfl 3 rfl g9 rfl (fun _ _ => rfl) ?_
        refine J_iinc (pc := 32) (v := (x1_2 + (1 : Int32))) (lv' := [(1, .int (x1_2 + (1 : Int32))), (0, .ref (aT 0))]) C 20 rfl 1 rfl rfl (by decide) rfl ?_
        refine J_goto (pc := 35) (tgt := 2) C 21 rfl rfl ?_
        exact J_sub [1, 0] rfl (ih2 (up2 (up2 (up2 vT_2 1 (Int32.toNatClampNeg x1_2) (-6 : Int32)) 2 (Int32.toNatClampNeg x1_2) (-6 : Int32)) 3 (Int32.toNatClampNeg x1_2) (-6 : Int32)) (x1_2 + (1 : Int32)) h)
  unfold f_X3_clear at h
  refine J_iconst (pc := 0) (v := (0 : Int32)) C 0 rfl rfl ?_
  refine J_istore_n (pc := 1) (lv' := [(1, .int (0 : Int32)), (0, .ref (aT 0))]) C 1 rfl rfl (by decide) rfl ?_
  exact J_sub [1, 0] rfl (B2  FU vT (0 : Int32) h)
def T_X3_isEarlyEnough : List (Nat × ClassFile.Instr × Nat) := [(0, .iload_n 1, 1), (1, .aload_n 0, 1), (2, .getfield 12, 3), (5, .iload_n 2, 1), (6, .invokevirtual 102, 3), (9, .aload_n 0, 1), (10, .getfield 12, 3), (13, .getfield 72, 3), (16, .iconst 2, 1), (17, .iaload, 1), (18, .isub, 1), (19, .if_icmp .gt 7, 3), (22, .iconst 1, 1), (23, .goto 4, 3), (26, .iconst 0, 1), (27, .ireturn, 1)]
theorem D_X3_isEarlyEnough : ∀ q ∈ T_X3_isEarlyEnough, decode cX3_isEarlyEnough q.1 = .ok q.2 := by decide +kernel
theorem V_X3_isEarlyEnough : Vy yX3_isEarlyEnough cX3_isEarlyEnough 3 (some .boolean) 2 := ⟨k131, k138, by decide +kernel⟩
theorem i_X3_isEarlyEnough : Cond.instanceMethod yX3_isEarlyEnough ∈ TB := k136
theorem s_X3_isEarlyEnough : Cond.selects yX3_isEarlyEnough.cls yX3_isEarlyEnough yX3_isEarlyEnough ∈ TB := k137
noncomputable def f_X3_isEarlyEnough (vT : JV) (vS : JV) (x1 : Int32) (x2 : Int32) : Option (Int32) :=
  (f_X2_beginOf vS x2).bind (fun q1 => (if (q1 - ((vS 0) 2)) < x1 then some (0 : Int32) else some (1 : Int32)))
set_option maxRecDepth 100000 in
set_option maxHeartbeats 4000000 in
theorem c_X3_isEarlyEnough {l : Launch} {G : JG} (aT : Nat → Nat) (aS : Nat → Nat) (vT : JV) (vS : JV) (x1 : Int32) (x2 : Int32) {Rz : Int32} (h : f_X3_isEarlyEnough vT vS x1 x2 = some Rz) : JM l G yX3_isEarlyEnough cX3_isEarlyEnough 3 (some .boolean) 1 21 [.ref (aT 0), .int x1, .int x2] (wSeat G aT (aS 0) (vT 1) (vT 2) (vT 3) (vT 4 0) (vT 5 0) (vT 6) (vT 7) (vT 8) ++ (wSch G aS (vS 0) (vS 1) (vS 2) (vS 3) (vS 4) (vS 5) (vS 6) (vS 7) (vS 8 0) (vS 9 0))) (wSeat G aT (aS 0) (vT 1) (vT 2) (vT 3) (vT 4 0) (vT 5 0) (vT 6) (vT 7) (vT 8) ++ (wSch G aS (vS 0) (vS 1) (vS 2) (vS 3) (vS 4) (vS 5) (vS 6) (vS 7) (vS 8 0) (vS 9 0))) (some (.int Rz)) := by
  refine JM.of (own := RX3) (tb := T_X3_isEarlyEnough) (by decide) (Nat.le_of_ble_eq_true rfl) D_X3_isEarlyEnough rfl (fun X C => ?_)
  refine J_sub (lv' := [(0, .ref (aT 0)), (1, .int x1), (2, .int x2)]) [0, 1, 2] rfl ?_
  unfold f_X3_isEarlyEnough at h
  refine J_iload_n (pc := 0) C 0 rfl 1 rfl rfl ?_
  refine J_aload_n (pc := 1) C 1 rfl 0 rfl rfl ?_
  refine J_get (pc := 2) (v := .ref (aS 0)) C 2 rfl TB_l3 rfl 0 0 rfl (by decide) k120 rfl rfl ?_
  refine J_iload_n (pc := 5) C 3 rfl 2 rfl rfl ?_
  obtain ⟨q1, hq1, h⟩ := bnd h
  refine J_callV (pc := 6) (st2 := [.int x1]) (st3 := [.int q1, .int x1]) (ws2 := (wSeat G aT (aS 0) (vT 1) (vT 2) (vT 3) (vT 4 0) (vT 5 0) (vT 6) (vT 7) (vT 8) ++ (wSch G aS (vS 0) (vS 1) (vS 2) (vS 3) (vS 4) (vS 5) (vS 6) (vS 7) (vS 8 0) (vS 9 0)))) C 4 rfl (c_X2_beginOf aS vS x2 hq1) V_X2_beginOf k133 i_X2_beginOf s_X2_beginOf rfl rfl ⟨Nat.le_of_ble_eq_true rfl, Nat.le_of_ble_eq_true rfl⟩ (Nat.le_of_ble_eq_true rfl) ⟨Nat.le_refl _, Nat.le_refl _⟩ 7 2 rfl rfl rfl (isC := [7, 8, 9, 10, 11, 12, 13, 14, 15]) (isR := [0, 1, 2, 3, 4, 5, 6]) (N := 16) ⟨rfl, by decide +kernel, rfl, by decide +kernel, rfl, ⟨⟨_, rfl, rfl⟩, ⟨⟨_, rfl, rfl⟩, ⟨⟨_, rfl, rfl⟩, ⟨⟨_, rfl, rfl⟩, ⟨⟨_, rfl, rfl⟩, ⟨⟨_, rfl, rfl⟩, ⟨⟨_, rfl, rfl⟩, trivial⟩⟩⟩⟩⟩⟩⟩⟩ rfl ?_
  refine J_aload_n (pc := 9) C 5 rfl 0 rfl rfl ?_
  refine J_get (pc := 10) (v := .ref (aS 0)) C 6 rfl TB_l3 rfl 0 0 rfl (by decide) k120 rfl rfl ?_
  refine J_get (pc := 13) (v := .ref (aS 1)) C 7 rfl TB_l2 rfl 7 0 rfl (by decide) k132 rfl rfl ?_
  refine J_iconst (pc := 16) (v := (2 : Int32)) C 8 rfl rfl ?_
  refine J_iald (pc := 17) (f := (vS 0)) (v := ((vS 0) 2)) C 9 rfl 8 rfl rfl rfl ?_
  refine J_isub (pc := 18) C 10 rfl  ?_
  refine J_icmp_gt (pc := 19) (tgt := 26) C 11 rfl rfl (fun c2 => ?_) (fun c2 => ?_)
  · rw [if_pos c2] at h
    refine J_iconst (pc := 26) (v := (0 : Int32)) C 14 rfl rfl ?_
    cases h
    exact J_zret (pc := 27) C 15 rfl rfl
  · rw [if_neg c2] at h
    refine J_iconst (pc := 22) (v := (1 : Int32)) C 12 rfl rfl ?_
    refine J_goto (pc := 23) (tgt := 27) C 13 rfl rfl ?_
    cases h
    exact J_zret (pc := 27) C 15 rfl rfl
def T_X3_seatInRoom : List (Nat × ClassFile.Instr × Nat) := [(0, .iconst 0, 1), (1, .istore_n 3, 1), (2, .iload_n 3, 1), (3, .aload_n 0, 1), (4, .getfield 12, 3), (7, .getfield 72, 3), (10, .iconst 1, 1), (11, .iaload, 1), (12, .if_icmp .ge 56, 3), (15, .iload_n 3, 1), (16, .bipush 6, 2), (18, .if_icmp .ge 50, 3), (21, .aload_n 0, 1), (22, .aload_n 0, 1), (23, .getfield 41, 3), (26, .iload_n 3, 1), (27, .iaload, 1), (28, .iload_n 2, 1), (29, .invokevirtual 75, 3), (32, .ifCond .eq 30, 3), (35, .aload_n 0, 1), (36, .getfield 25, 3), (39, .iload_n 1, 1), (40, .iload_n 2, 1), (41, .invokestatic 78, 3), (44, .iload_n 3, 1), (45, .iastore, 1), (46, .aload_n 0, 1), (47, .getfield 41, 3), (50, .iload_n 3, 1), (51, .aload_n 0, 1), (52, .getfield 12, 3), (55, .iload_n 1, 1), (56, .iload_n 2, 1), (57, .invokevirtual 82, 3), (60, .iastore, 1), (61, .return_, 1), (62, .iinc 3 1, 3), (65, .goto (-63), 3), (68, .aload_n 0, 1), (69, .dup, 1), (70, .getfield 28, 3), (73, .iconst 1, 1), (74, .iadd, 1), (75, .putfield 28, 3), (78, .aload_n 0, 1), (79, .dup, 1), (80, .getfield 32, 3), (83, .iconst 1, 1), (84, .iadd, 1), (85, .putfield 32, 3), (88, .return_, 1)]
theorem D_X3_seatInRoom : ∀ q ∈ T_X3_seatInRoom, decode cX3_seatInRoom q.1 = .ok q.2 := by decide +kernel
theorem V_X3_seatInRoom : Vy yX3_seatInRoom cX3_seatInRoom 4 none 2 := ⟨k141, k138, by decide +kernel⟩
theorem i_X3_seatInRoom : Cond.instanceMethod yX3_seatInRoom ∈ TB := k158
theorem s_X3_seatInRoom : Cond.selects yX3_seatInRoom.cls yX3_seatInRoom yX3_seatInRoom ∈ TB := k159
noncomputable def f_X3_seatInRoom_b2 (vS : JV) (x1_2 : Int32) (x2_2 : Int32) (r2 : JV → Int32 → Option (JV)) (vT_2 : JV) (x3_2 : Int32) : Option (JV) :=
  (if ((vS 0) 1) ≤ x3_2 then some (up2 (up2 vT_2 4 0 ((vT_2 4 0) + (1 : Int32))) 5 0 ((vT_2 5 0) + (1 : Int32))) else (if (6 : Int32) ≤ x3_2 then some (up2 (up2 vT_2 4 0 ((vT_2 4 0) + (1 : Int32))) 5 0 ((vT_2 5 0) + (1 : Int32))) else gd (inb x3_2 6) ((f_X3_isEarlyEnough vT_2 vS ((vT_2 8) (Int32.toNatClampNeg x3_2)) x2_2).bind (fun q4 => (if q4 = 0 then r2 vT_2 (x3_2 + (1 : Int32)) else (f_X4_sittingNumber x1_2 x2_2).bind (fun q6 => gd (inb q6 96) ((f_X2_endOf vS x1_2 x2_2).bind (fun q8 => gd (inb x3_2 6) (some (up2 (up2 vT_2 3 (Int32.toNatClampNeg q6) x3_2) 8 (Int32.toNatClampNeg x3_2) q8))))))))))
noncomputable def f_X3_seatInRoom_L2 (vS : JV) (x1_2 : Int32) (x2_2 : Int32) (n : Nat) (vT_2 : JV) (x3_2 : Int32) : Option (JV) :=
  lp (fun (rec : JV × Int32 → Option (JV)) a => f_X3_seatInRoom_b2 vS x1_2 x2_2 (fun vT_2 x3_2 => rec (vT_2, x3_2)) a.1 a.2) n (vT_2, x3_2)
noncomputable def f_X3_seatInRoom (vT : JV) (vS : JV) (x1 : Int32) (x2 : Int32) : Option (JV) :=
  f_X3_seatInRoom_L2 vS x1 x2 FU vT (0 : Int32)
set_option maxRecDepth 100000 in
set_option maxHeartbeats 4000000 in
theorem c_X3_seatInRoom {l : Launch} {G : JG} (aT : Nat → Nat) (aS : Nat → Nat) (vT : JV) (vS : JV) (x1 : Int32) (x2 : Int32) {Rz : JV} (h : f_X3_seatInRoom vT vS x1 x2 = some Rz) : JM l G yX3_seatInRoom cX3_seatInRoom 4 none 2 44 [.ref (aT 0), .int x1, .int x2] (wSeat G aT (aS 0) (vT 1) (vT 2) (vT 3) (vT 4 0) (vT 5 0) (vT 6) (vT 7) (vT 8) ++ (wSch G aS (vS 0) (vS 1) (vS 2) (vS 3) (vS 4) (vS 5) (vS 6) (vS 7) (vS 8 0) (vS 9 0))) (wSeat G aT (aS 0) (Rz 1) (Rz 2) (Rz 3) (Rz 4 0) (Rz 5 0) (Rz 6) (Rz 7) (Rz 8) ++ (wSch G aS (vS 0) (vS 1) (vS 2) (vS 3) (vS 4) (vS 5) (vS 6) (vS 7) (vS 8 0) (vS 9 0))) none := by
  refine JM.of (own := RX3) (tb := T_X3_seatInRoom) (by decide) (Nat.le_of_ble_eq_true rfl) D_X3_seatInRoom rfl (fun X C => ?_)
  refine J_sub (lv' := [(0, .ref (aT 0)), (1, .int x1), (2, .int x2)]) [0, 1, 2] rfl ?_
  have B2 : ∀ (x1_2 : Int32) (x2_2 : Int32) (n2 : Nat) (vT_2 : JV) (x3_2 : Int32), f_X3_seatInRoom_L2 vS x1_2 x2_2 n2 vT_2 x3_2 = some Rz → J l { frames := 2, cells := 0, slots := 0, locals := 44 } G 4 X (QM X G 0 0 none (wSeat G aT (aS 0) (Rz 1) (Rz 2) (Rz 3) (Rz 4 0) (Rz 5 0) (Rz 6) (Rz 7) (Rz 8) ++ (wSch G aS (vS 0) (vS 1) (vS 2) (vS 3) (vS 4) (vS 5) (vS 6) (vS 7) (vS 8 0) (vS 9 0)))) 0 0 2 [(0, .ref (aT 0)), (1, .int x1_2), (2, .int x2_2), (3, .int x3_2)] [] (wSeat G aT (aS 0) (vT_2 1) (vT_2 2) (vT_2 3) (vT_2 4 0) (vT_2 5 0) (vT_2 6) (vT_2 7) (vT_2 8) ++ (wSch G aS (vS 0) (vS 1) (vS 2) (vS 3) (vS 4) (vS 5) (vS 6) (vS 7) (vS 8 0) (vS 9 0))) := by
    intro x1_2 x2_2 n2
    induction n2 with
    | zero =>
      intro vT_2 x3_2 h
      exact (no_none rfl h).elim
    | succ n2 ih2 =>
      intro vT_2 x3_2 h
      replace h : f_X3_seatInRoom_b2 vS x1_2 x2_2 (fun vT_2 x3_2 => f_X3_seatInRoom_L2 vS x1_2 x2_2 n2 vT_2 x3_2) vT_2 x3_2 = some Rz := h
      unfold f_X3_seatInRoom_b2 at h
      refine J_iload_n (pc := 2) C 2 rfl 3 rfl rfl ?_
      refine J_aload_n (pc := 3) C 3 rfl 0 rfl rfl ?_
      refine J_get (pc := 4) (v := .ref (aS 0)) C 4 rfl TB_l3 rfl 0 0 rfl (by decide) k120 rfl rfl ?_
      refine J_get (pc := 7) (v := .ref (aS 1)) C 5 rfl TB_l2 rfl 7 0 rfl (by decide) k132 rfl rfl ?_
      refine J_iconst (pc := 10) (v := (1 : Int32)) C 6 rfl rfl ?_
      refine J_iald (pc := 11) (f := (vS 0)) (v := ((vS 0) 1)) C 7 rfl 8 rfl rfl rfl ?_
      refine J_icmp_ge (pc := 12) (tgt := 68) C 8 rfl rfl (fun c1 => ?_) (fun c1 => ?_)
      · rw [if_pos c1] at h
        refine J_aload_n (pc := 68) C 39 rfl 0 rfl rfl ?_
        refine J_dup (pc := 69) C 40 rfl rfl ?_
        refine J_get (pc := 70) (v := .int (vT_2 4 0)) C 41 rfl TB_l3 rfl 0 4 rfl (by decide) k124 rfl rfl ?_
        refine J_iconst (pc := 73) (v := (1 : Int32)) C 42 rfl rfl ?_
        refine J_iadd (pc := 74) C 43 rfl  ?_
        refine J_puti (pc := 75) C 44 (fun vv => (wSeat G aT (aS 0) (vT_2 1) (vT_2 2) (vT_2 3) vv (vT_2 5 0) (vT_2 6) (vT_2 7) (vT_2 8) ++ (wSch G aS (vS 0) (vS 1) (vS 2) (vS 3) (vS 4) (vS 5) (vS 6) (vS 7) (vS 8 0) (vS 9 0)))) rfl TB_l3 tyX3 tyX3_ok nmX3 rfl 0 4 rfl (by decide) k124 rfl rfl rfl (Nat.le_of_ble_eq_true rfl) (fun _ => rfl) ?_
        refine J_aload_n (pc := 78) C 45 rfl 0 rfl rfl ?_
        refine J_dup (pc := 79) C 46 rfl rfl ?_
        refine J_get (pc := 80) (v := .int (vT_2 5 0)) C 47 rfl TB_l3 rfl 0 5 rfl (by decide) k125 rfl rfl ?_
        refine J_iconst (pc := 83) (v := (1 : Int32)) C 48 rfl rfl ?_
        refine J_iadd (pc := 84) C 49 rfl  ?_
        refine J_puti (pc := 85) C 50 (fun vv => (wSeat G aT (aS 0) (vT_2 1) (vT_2 2) (vT_2 3) ((vT_2 4 0) + (1 : Int32)) vv (vT_2 6) (vT_2 7) (vT_2 8) ++ (wSch G aS (vS 0) (vS 1) (vS 2) (vS 3) (vS 4) (vS 5) (vS 6) (vS 7) (vS 8 0) (vS 9 0)))) rfl TB_l3 tyX3 tyX3_ok nmX3 rfl 0 5 rfl (by decide) k125 rfl rfl rfl (Nat.le_of_ble_eq_true rfl) (fun _ => rfl) ?_
        cases h
        exact J_vret (pc := 88) C 51 rfl
      · rw [if_neg c1] at h
        refine J_iload_n (pc := 15) C 9 rfl 3 rfl rfl ?_
        refine J_bipush (pc := 16) (v := (6 : Int32)) C 10 rfl rfl ?_
        refine J_icmp_ge (pc := 18) (tgt := 68) C 11 rfl rfl (fun c2 => ?_) (fun c2 => ?_)
        · rw [if_pos c2] at h
          refine J_aload_n (pc := 68) C 39 rfl 0 rfl rfl ?_
          refine J_dup (pc := 69) C 40 rfl rfl ?_
          refine J_get (pc := 70) (v := .int (vT_2 4 0)) C 41 rfl TB_l3 rfl 0 4 rfl (by decide) k124 rfl rfl ?_
          refine J_iconst (pc := 73) (v := (1 : Int32)) C 42 rfl rfl ?_
          refine J_iadd (pc := 74) C 43 rfl  ?_
          refine J_puti (pc := 75) C 44 (fun vv => (wSeat G aT (aS 0) (vT_2 1) (vT_2 2) (vT_2 3) vv (vT_2 5 0) (vT_2 6) (vT_2 7) (vT_2 8) ++ (wSch G aS (vS 0) (vS 1) (vS 2) (vS 3) (vS 4) (vS 5) (vS 6) (vS 7) (vS 8 0) (vS 9 0)))) rfl TB_l3 tyX3 tyX3_ok nmX3 rfl 0 4 rfl (by decide) k124 rfl rfl rfl (Nat.le_of_ble_eq_true rfl) (fun _ => rfl) ?_
          refine J_aload_n (pc := 78) C 45 rfl 0 rfl rfl ?_
          refine J_dup (pc := 79) C 46 rfl rfl ?_
          refine J_get (pc := 80) (v := .int (vT_2 5 0)) C 47 rfl TB_l3 rfl 0 5 rfl (by decide) k125 rfl rfl ?_
          refine J_iconst (pc := 83) (v := (1 : Int32)) C 48 rfl rfl ?_
          refine J_iadd (pc := 84) C 49 rfl  ?_
          refine J_puti (pc := 85) C 50 (fun vv => (wSeat G aT (aS 0) (vT_2 1) (vT_2 2) (vT_2 3) ((vT_2 4 0) + (1 : Int32)) vv (vT_2 6) (vT_2 7) (vT_2 8) ++ (wSch G aS (vS 0) (vS 1) (vS 2) (vS 3) (vS 4) (vS 5) (vS 6) (vS 7) (vS 8 0) (vS 9 0)))) rfl TB_l3 tyX3 tyX3_ok nmX3 rfl 0 5 rfl (by decide) k125 rfl rfl rfl (Nat.le_of_ble_eq_true rfl) (fun _ => rfl) ?_
          cases h
          exact J_vret (pc := 88) C 51 rfl
        · rw [if_neg c2] at h
          refine J_aload_n (pc := 21) C 12 rfl 0 rfl rfl ?_
          refine J_aload_n (pc := 22) C 13 rfl 0 rfl rfl ?_
          refine J_get (pc := 23) (v := .ref (aT 6)) C 14 rfl TB_l3 rfl 0 8 rfl (by decide) k128 rfl rfl ?_
          refine J_iload_n (pc := 26) C 15 rfl 3 rfl rfl ?_
          obtain ⟨g3, h⟩ := gd_some h
          refine J_iald (pc := 27) (f := (vT_2 8)) (v := ((vT_2 8) (Int32.toNatClampNeg x3_2))) C 16 rfl 6 rfl g3 rfl ?_
          refine J_iload_n (pc := 28) C 17 rfl 2 rfl rfl ?_
          obtain ⟨q4, hq4, h⟩ := bnd h
          refine J_callV (pc := 29) (st2 := []) (st3 := [.int q4]) (ws2 := (wSeat G aT (aS 0) (vT_2 1) (vT_2 2) (vT_2 3) (vT_2 4 0) (vT_2 5 0) (vT_2 6) (vT_2 7) (vT_2 8) ++ (wSch G aS (vS 0) (vS 1) (vS 2) (vS 3) (vS 4) (vS 5) (vS 6) (vS 7) (vS 8 0) (vS 9 0)))) C 18 rfl (c_X3_isEarlyEnough aT aS vT_2 vS ((vT_2 8) (Int32.toNatClampNeg x3_2)) x2_2 hq4) V_X3_isEarlyEnough k135 i_X3_isEarlyEnough s_X3_isEarlyEnough rfl rfl ⟨Nat.le_of_ble_eq_true rfl, Nat.le_of_ble_eq_true rfl⟩ (Nat.le_of_ble_eq_true rfl) ⟨Nat.le_refl _, Nat.le_refl _⟩ 0 3 rfl rfl rfl (isC := [0, 1, 2, 3, 4, 5, 6, 7, 8, 9, 10, 11, 12, 13, 14, 15]) (isR := []) (N := 16) ⟨rfl, by decide +kernel, rfl, by decide +kernel, rfl, trivial⟩ rfl ?_
          refine J_if_eq (pc := 32) (tgt := 62) C 19 rfl rfl (fun c5 => ?_) (fun c5 => ?_)
          · rw [if_pos c5] at h
            refine J_iinc (pc := 62) (v := (x3_2 + (1 : Int32))) (lv' := [(3, .int (x3_2 + (1 : Int32))), (0, .ref (aT 0)), (1, .int x1_2), (2, .int x2_2)]) C 37 rfl 3 rfl rfl (by decide) rfl ?_
            refine J_goto (pc := 65) (tgt := 2) C 38 rfl rfl ?_
            exact J_sub [1, 2, 3, 0] rfl (ih2 vT_2 (x3_2 + (1 : Int32)) h)
          · rw [if_neg c5] at h
            refine J_aload_n (pc := 35) C 20 rfl 0 rfl rfl ?_
            refine J_get (pc := 36) (v := .ref (aT 3)) C 21 rfl TB_l3 rfl 0 3 rfl (by decide) k123 rfl rfl ?_
            refine J_iload_n (pc := 39) C 22 rfl 1 rfl rfl ?_
            refine J_iload_n (pc := 40) C 23 rfl 2 rfl rfl ?_
            obtain ⟨q6, hq6, h⟩ := bnd h
            refine J_callSN (pc := 41) (st2 := [.ref (aT 3)]) (st3 := [.int q6, .ref (aT 3)]) (ws2 := (wSeat G aT (aS 0) (vT_2 1) (vT_2 2) (vT_2 3) (vT_2 4 0) (vT_2 5 0) (vT_2 6) (vT_2 7) (vT_2 8) ++ (wSch G aS (vS 0) (vS 1) (vS 2) (vS 3) (vS 4) (vS 5) (vS 6) (vS 7) (vS 8 0) (vS 9 0)))) C 24 rfl (c_X4_sittingNumber x1_2 x2_2 hq6) V_X4_sittingNumber (List.mem_of_getElem? (i := 6) rfl) t_X4_sittingNumber rfl rfl ⟨Nat.le_of_ble_eq_true rfl, Nat.le_of_ble_eq_true rfl⟩ (Nat.le_of_ble_eq_true rfl) ⟨Nat.le_refl _, Nat.le_refl _⟩ (isC := []) (isR := [0, 1, 2, 3, 4, 5, 6, 7, 8, 9, 10, 11, 12, 13, 14, 15]) (N := 16) ⟨rfl, by decide +kernel, rfl, by decide +kernel, rfl, ⟨⟨_, rfl, rfl⟩, ⟨⟨_, rfl, rfl⟩, ⟨⟨_, rfl, rfl⟩, ⟨⟨_, rfl, rfl⟩, ⟨⟨_, rfl, rfl⟩, ⟨⟨_, rfl, rfl⟩, ⟨⟨_, rfl, rfl⟩, ⟨⟨_, rfl, rfl⟩, ⟨⟨_, rfl, rfl⟩, ⟨⟨_, rfl, rfl⟩, ⟨⟨_, rfl, rfl⟩, ⟨⟨_, rfl, rfl⟩, ⟨⟨_, rfl, rfl⟩, ⟨⟨_, rfl, rfl⟩, ⟨⟨_, rfl, rfl⟩, ⟨⟨_, rfl, rfl⟩, trivial⟩⟩⟩⟩⟩⟩⟩⟩⟩⟩⟩⟩⟩⟩⟩⟩⟩ rfl ?_
            refine J_iload_n (pc := 44) C 25 rfl 3 rfl rfl ?_
            obtain ⟨g7, h⟩ := gd_some h
            refine J_iast (pc := 45) (f := (vT_2 3)) (m := (Int32.toNatClampNeg q6)) C 26 (fun mm vv => (wSeat G aT (aS 0) (vT_2 1) (vT_2 2) (upd (vT_2 3) mm vv) (vT_2 4 0) (vT_2 5 0) (vT_2 6) (vT_2 7) (vT_2 8) ++ (wSch G aS (vS 0) (vS 1) (vS 2) (vS 3) (vS 4) (vS 5) (vS 6) (vS 7) (vS 8 0) (vS 9 0)))) rfl 3 rfl g7 rfl (fun _ _ => rfl) ?_
            refine J_aload_n (pc := 46) C 27 rfl 0 rfl rfl ?_
            refine J_get (pc := 47) (v := .ref (aT 6)) C 28 rfl TB_l3 rfl 0 8 rfl (by decide) k128 rfl rfl ?_
            refine J_iload_n (pc := 50) C 29 rfl 3 rfl rfl ?_
            refine J_aload_n (pc := 51) C 30 rfl 0 rfl rfl ?_
            refine J_get (pc := 52) (v := .ref (aS 0)) C 31 rfl TB_l3 rfl 0 0 rfl (by decide) k120 rfl rfl ?_
            refine J_iload_n (pc := 55) C 32 rfl 1 rfl rfl ?_
            refine J_iload_n (pc := 56) C 33 rfl 2 rfl rfl ?_
            obtain ⟨q8, hq8, h⟩ := bnd h
            refine J_callV (pc := 57) (st2 := [.int x3_2, .ref (aT 6)]) (st3 := [.int q8, .int x3_2, .ref (aT 6)]) (ws2 := (wSeat G aT (aS 0) (vT_2 1) (vT_2 2) (upd (vT_2 3) (Int32.toNatClampNeg q6) x3_2) (vT_2 4 0) (vT_2 5 0) (vT_2 6) (vT_2 7) (vT_2 8) ++ (wSch G aS (vS 0) (vS 1) (vS 2) (vS 3) (vS 4) (vS 5) (vS 6) (vS 7) (vS 8 0) (vS 9 0)))) C 34 rfl (c_X2_endOf aS vS x1_2 x2_2 hq8) V_X2_endOf k140 i_X2_endOf s_X2_endOf rfl rfl ⟨Nat.le_of_ble_eq_true rfl, Nat.le_of_ble_eq_true rfl⟩ (Nat.le_of_ble_eq_true rfl) ⟨Nat.le_refl _, Nat.le_refl _⟩ 7 2 rfl rfl rfl (isC := [7, 8, 9, 10, 11, 12, 13, 14, 15]) (isR := [0, 1, 2, 3, 4, 5, 6]) (N := 16) ⟨rfl, by decide +kernel, rfl, by decide +kernel, rfl, ⟨⟨_, rfl, rfl⟩, ⟨⟨_, rfl, rfl⟩, ⟨⟨_, rfl, rfl⟩, ⟨⟨_, rfl, rfl⟩, ⟨⟨_, rfl, rfl⟩, ⟨⟨_, rfl, rfl⟩, ⟨⟨_, rfl, rfl⟩, trivial⟩⟩⟩⟩⟩⟩⟩⟩ rfl ?_
            obtain ⟨g9, h⟩ := gd_some h
            refine J_iast (pc := 60) (f := (vT_2 8)) (m := (Int32.toNatClampNeg x3_2)) C 35 (fun mm vv => (wSeat G aT (aS 0) (vT_2 1) (vT_2 2) (upd (vT_2 3) (Int32.toNatClampNeg q6) x3_2) (vT_2 4 0) (vT_2 5 0) (vT_2 6) (vT_2 7) (upd (vT_2 8) mm vv) ++ (wSch G aS (vS 0) (vS 1) (vS 2) (vS 3) (vS 4) (vS 5) (vS 6) (vS 7) (vS 8 0) (vS 9 0)))) rfl 6 rfl g9 rfl (fun _ _ => rfl) ?_
            cases h
            exact J_vret (pc := 61) C 36 rfl
  unfold f_X3_seatInRoom at h
  refine J_iconst (pc := 0) (v := (0 : Int32)) C 0 rfl rfl ?_
  refine J_istore_n (pc := 1) (lv' := [(3, .int (0 : Int32)), (0, .ref (aT 0)), (1, .int x1), (2, .int x2)]) C 1 rfl rfl (by decide) rfl ?_
  exact J_sub [1, 2, 3, 0] rfl (B2 x1 x2 FU vT (0 : Int32) h)
def T_X3_isBeside : List (Nat × ClassFile.Instr × Nat) := [(0, .aload_n 0, 1), (1, .getfield 12, 3), (4, .getfield 95, 3), (7, .iload_n 1, 1), (8, .iaload, 1), (9, .istore 5, 2), (11, .bipush 16, 2), (13, .iload_n 1, 1), (14, .imul, 1), (15, .iload 5, 2), (17, .iload_n 2, 1), (18, .imul, 1), (19, .iadd, 1), (20, .iload_n 3, 1), (21, .iadd, 1), (22, .istore 6, 2), (24, .iload_n 3, 1), (25, .ifCond .le 20, 3), (28, .aload_n 0, 1), (29, .getfield 38, 3), (32, .iload 6, 2), (34, .iconst 1, 1), (35, .isub, 1), (36, .iaload, 1), (37, .iload 4, 2), (39, .invokestatic 106, 3), (42, .ifCond .ne 83, 3), (45, .iload_n 3, 1), (46, .iload 5, 2), (48, .iconst 1, 1), (49, .isub, 1), (50, .if_icmp .ge 20, 3), (53, .aload_n 0, 1), (54, .getfield 38, 3), (57, .iload 6, 2), (59, .iconst 1, 1), (60, .iadd, 1), (61, .iaload, 1), (62, .iload 4, 2), (64, .invokestatic 106, 3), (67, .ifCond .ne 58, 3), (70, .iload_n 2, 1), (71, .ifCond .le 21, 3), (74, .aload_n 0, 1), (75, .getfield 38, 3), (78, .iload 6, 2), (80, .iload 5, 2), (82, .isub, 1), (83, .iaload, 1), (84, .iload 4, 2), (86, .invokestatic 106, 3), (89, .ifCond .ne 36, 3), (92, .iload_n 2, 1), (93, .aload_n 0, 1), (94, .getfield 12, 3), (97, .getfield 92, 3), (100, .iload_n 1, 1), (101, .iaload, 1), (102, .iconst 1, 1), (103, .isub, 1), (104, .if_icmp .ge 25, 3), (107, .aload_n 0, 1), (108, .getfield 38, 3), (111, .iload 6, 2), (113, .iload 5, 2), (115, .iadd, 1), (116, .iaload, 1), (117, .iload 4, 2), (119, .invokestatic 106, 3), (122, .ifCond .eq 7, 3), (125, .iconst 1, 1), (126, .goto 4, 3), (129, .iconst 0, 1), (130, .ireturn, 1)]
theorem D_X3_isBeside : ∀ q ∈ T_X3_isBeside, decode cX3_isBeside q.1 = .ok q.2 := by decide +kernel
theorem V_X3_isBeside : Vy yX3_isBeside cX3_isBeside 7 (some .boolean) 4 := ⟨k142, k138, by decide +kernel⟩
theorem i_X3_isBeside : Cond.instanceMethod yX3_isBeside ∈ TB := k147
theorem s_X3_isBeside : Cond.selects yX3_isBeside.cls yX3_isBeside yX3_isBeside ∈ TB := k148
noncomputable def f_X3_isBeside_K92 (vT : JV) (vS : JV) (x1_92 : Int32) (x2_92 : Int32) (x4_92 : Int32) (x5_92 : Int32) (x6_92 : Int32) : Option (Int32) :=
  gd (inb x1_92 4) ((if (((vS 6) (Int32.toNatClampNeg x1_92)) - (1 : Int32)) ≤ x2_92 then some (0 : Int32) else gd (inb (x6_92 + x5_92) 64) ((f_X4_contains ((vT 7) (Int32.toNatClampNeg (x6_92 + x5_92))) x4_92).bind (fun q8 => (if q8 = 0 then some (0 : Int32) else some (1 : Int32))))))
noncomputable def f_X3_isBeside_K70 (vT : JV) (vS : JV) (x1_70 : Int32) (x2_70 : Int32) (x4_70 : Int32) (x5_70 : Int32) (x6_70 : Int32) : Option (Int32) :=
  (if x2_70 ≤ 0 then f_X3_isBeside_K92 vT vS x1_70 x2_70 x4_70 x5_70 x6_70 else gd (inb (x6_70 - x5_70) 64) ((f_X4_contains ((vT 7) (Int32.toNatClampNeg (x6_70 - x5_70))) x4_70).bind (fun q11 => (if q11 = 0 then f_X3_isBeside_K92 vT vS x1_70 x2_70 x4_70 x5_70 x6_70 else some (1 : Int32)))))
noncomputable def f_X3_isBeside_K45 (vT : JV) (vS : JV) (x1_45 : Int32) (x2_45 : Int32) (x3_45 : Int32) (x4_45 : Int32) (x5_45 : Int32) (x6_45 : Int32) : Option (Int32) :=
  (if (x5_45 - (1 : Int32)) ≤ x3_45 then f_X3_isBeside_K70 vT vS x1_45 x2_45 x4_45 x5_45 x6_45 else gd (inb (x6_45 + (1 : Int32)) 64) ((f_X4_contains ((vT 7) (Int32.toNatClampNeg (x6_45 + (1 : Int32)))) x4_45).bind (fun q14 => (if q14 = 0 then f_X3_isBeside_K70 vT vS x1_45 x2_45 x4_45 x5_45 x6_45 else some (1 : Int32)))))
noncomputable def f_X3_isBeside (vT : JV) (vS : JV) (x1 : Int32) (x2 : Int32) (x3 : Int32) (x4 : Int32) : Option (Int32) :=
  gd (inb x1 4) ((if x3 ≤ 0 then f_X3_isBeside_K45 vT vS x1 x2 x3 x4 ((vS 7) (Int32.toNatClampNeg x1)) ((((16 : Int32) * x1) + (((vS 7) (Int32.toNatClampNeg x1)) * x2)) + x3) else gd (inb (((((16 : Int32) * x1) + (((vS 7) (Int32.toNatClampNeg x1)) * x2)) + x3) - (1 : Int32)) 64) ((f_X4_contains ((vT 7) (Int32.toNatClampNeg (((((16 : Int32) * x1) + (((vS 7) (Int32.toNatClampNeg x1)) * x2)) + x3) - (1 : Int32)))) x4).bind (fun q17 => (if q17 = 0 then f_X3_isBeside_K45 vT vS x1 x2 x3 x4 ((vS 7) (Int32.toNatClampNeg x1)) ((((16 : Int32) * x1) + (((vS 7) (Int32.toNatClampNeg x1)) * x2)) + x3) else some (1 : Int32))))))
set_option maxRecDepth 100000 in
set_option maxHeartbeats 4000000 in
theorem c_X3_isBeside {l : Launch} {G : JG} (aT : Nat → Nat) (aS : Nat → Nat) (vT : JV) (vS : JV) (x1 : Int32) (x2 : Int32) (x3 : Int32) (x4 : Int32) {Rz : Int32} (h : f_X3_isBeside vT vS x1 x2 x3 x4 = some Rz) : JM l G yX3_isBeside cX3_isBeside 7 (some .boolean) 1 21 [.ref (aT 0), .int x1, .int x2, .int x3, .int x4] (wSeat G aT (aS 0) (vT 1) (vT 2) (vT 3) (vT 4 0) (vT 5 0) (vT 6) (vT 7) (vT 8) ++ (wSch G aS (vS 0) (vS 1) (vS 2) (vS 3) (vS 4) (vS 5) (vS 6) (vS 7) (vS 8 0) (vS 9 0))) (wSeat G aT (aS 0) (vT 1) (vT 2) (vT 3) (vT 4 0) (vT 5 0) (vT 6) (vT 7) (vT 8) ++ (wSch G aS (vS 0) (vS 1) (vS 2) (vS 3) (vS 4) (vS 5) (vS 6) (vS 7) (vS 8 0) (vS 9 0))) (some (.int Rz)) := by
  refine JM.of (own := RX3) (tb := T_X3_isBeside) (by decide) (Nat.le_of_ble_eq_true rfl) D_X3_isBeside rfl (fun X C => ?_)
  refine J_sub (lv' := [(0, .ref (aT 0)), (1, .int x1), (2, .int x2), (3, .int x3), (4, .int x4)]) [0, 1, 2, 3, 4] rfl ?_
  have B92 : ∀ (x1_92 : Int32) (x2_92 : Int32) (x4_92 : Int32) (x5_92 : Int32) (x6_92 : Int32), f_X3_isBeside_K92 vT vS x1_92 x2_92 x4_92 x5_92 x6_92 = some Rz → J l { frames := 1, cells := 0, slots := 0, locals := 21 } G 7 X (QM X G 0 0 (some (.int Rz)) (wSeat G aT (aS 0) (vT 1) (vT 2) (vT 3) (vT 4 0) (vT 5 0) (vT 6) (vT 7) (vT 8) ++ (wSch G aS (vS 0) (vS 1) (vS 2) (vS 3) (vS 4) (vS 5) (vS 6) (vS 7) (vS 8 0) (vS 9 0)))) 0 0 92 [(0, .ref (aT 0)), (1, .int x1_92), (2, .int x2_92), (4, .int x4_92), (5, .int x5_92), (6, .int x6_92)] [] (wSeat G aT (aS 0) (vT 1) (vT 2) (vT 3) (vT 4 0) (vT 5 0) (vT 6) (vT 7) (vT 8) ++ (wSch G aS (vS 0) (vS 1) (vS 2) (vS 3) (vS 4) (vS 5) (vS 6) (vS 7) (vS 8 0) (vS 9 0))) := by
    intro x1_92 x2_92 x4_92 x5_92 x6_92 h
    unfold f_X3_isBeside_K92 at h
    refine J_iload_n (pc := 92) C 52 rfl 2 rfl rfl ?_
    refine J_aload_n (pc := 93) C 53 rfl 0 rfl rfl ?_
    refine J_get (pc := 94) (v := .ref (aS 0)) C 54 rfl TB_l3 rfl 0 0 rfl (by decide) k120 rfl rfl ?_
    refine J_get (pc := 97) (v := .ref (aS 7)) C 55 rfl TB_l2 rfl 7 6 rfl (by decide) k144 rfl rfl ?_
    refine J_iload_n (pc := 100) C 56 rfl 1 rfl rfl ?_
    obtain ⟨g5, h⟩ := gd_some h
    refine J_iald (pc := 101) (f := (vS 6)) (v := ((vS 6) (Int32.toNatClampNeg x1_92))) C 57 rfl 14 rfl g5 rfl ?_
    refine J_iconst (pc := 102) (v := (1 : Int32)) C 58 rfl rfl ?_
    refine J_isub (pc := 103) C 59 rfl  ?_
    refine J_icmp_ge (pc := 104) (tgt := 129) C 60 rfl rfl (fun c6 => ?_) (fun c6 => ?_)
    · rw [if_pos c6] at h
      refine J_iconst (pc := 129) (v := (0 : Int32)) C 72 rfl rfl ?_
      cases h
      exact J_zret (pc := 130) C 73 rfl rfl
    · rw [if_neg c6] at h
      refine J_aload_n (pc := 107) C 61 rfl 0 rfl rfl ?_
      refine J_get (pc := 108) (v := .ref (aT 5)) C 62 rfl TB_l3 rfl 0 7 rfl (by decide) k127 rfl rfl ?_
      refine J_iload (pc := 111) C 63 rfl 5 rfl ?_
      refine J_iload (pc := 113) C 64 rfl 4 rfl ?_
      refine J_iadd (pc := 115) C 65 rfl  ?_
      obtain ⟨g7, h⟩ := gd_some h
      refine J_iald (pc := 116) (f := (vT 7)) (v := ((vT 7) (Int32.toNatClampNeg (x6_92 + x5_92)))) C 66 rfl 5 rfl g7 rfl ?_
      refine J_iload (pc := 117) C 67 rfl 3 rfl ?_
      obtain ⟨q8, hq8, h⟩ := bnd h
      refine J_callSN (pc := 119) (st2 := []) (st3 := [.int q8]) (ws2 := (wSeat G aT (aS 0) (vT 1) (vT 2) (vT 3) (vT 4 0) (vT 5 0) (vT 6) (vT 7) (vT 8) ++ (wSch G aS (vS 0) (vS 1) (vS 2) (vS 3) (vS 4) (vS 5) (vS 6) (vS 7) (vS 8 0) (vS 9 0)))) C 68 rfl (c_X4_contains ((vT 7) (Int32.toNatClampNeg (x6_92 + x5_92))) x4_92 hq8) V_X4_contains (List.mem_of_getElem? (i := 7) rfl) t_X4_contains rfl rfl ⟨Nat.le_of_ble_eq_true rfl, Nat.le_of_ble_eq_true rfl⟩ (Nat.le_of_ble_eq_true rfl) ⟨Nat.le_refl _, Nat.le_refl _⟩ (isC := []) (isR := [0, 1, 2, 3, 4, 5, 6, 7, 8, 9, 10, 11, 12, 13, 14, 15]) (N := 16) ⟨rfl, by decide +kernel, rfl, by decide +kernel, rfl, ⟨⟨_, rfl, rfl⟩, ⟨⟨_, rfl, rfl⟩, ⟨⟨_, rfl, rfl⟩, ⟨⟨_, rfl, rfl⟩, ⟨⟨_, rfl, rfl⟩, ⟨⟨_, rfl, rfl⟩, ⟨⟨_, rfl, rfl⟩, ⟨⟨_, rfl, rfl⟩, ⟨⟨_, rfl, rfl⟩, ⟨⟨_, rfl, rfl⟩, ⟨⟨_, rfl, rfl⟩, ⟨⟨_, rfl, rfl⟩, ⟨⟨_, rfl, rfl⟩, ⟨⟨_, rfl, rfl⟩, ⟨⟨_, rfl, rfl⟩, ⟨⟨_, rfl, rfl⟩, trivial⟩⟩⟩⟩⟩⟩⟩⟩⟩⟩⟩⟩⟩⟩⟩⟩⟩ rfl ?_
      refine J_if_eq (pc := 122) (tgt := 129) C 69 rfl rfl (fun c9 => ?_) (fun c9 => ?_)
      · rw [if_pos c9] at h
        refine J_iconst (pc := 129) (v := (0 : Int32)) C 72 rfl rfl ?_
        cases h
        exact J_zret (pc := 130) C 73 rfl rfl
      · rw [if_neg c9] at h
        refine J_iconst (pc := 125) (v := (1 : Int32)) C 70 rfl rfl ?_
        refine J_goto (pc := 126) (tgt := 130) C 71 rfl rfl ?_
        cases h
        exact J_zret (pc := 130) C 73 rfl rfl
  have B70 : ∀ (x1_70 : Int32) (x2_70 : Int32) (x4_70 : Int32) (x5_70 : Int32) (x6_70 : Int32), f_X3_isBeside_K70 vT vS x1_70 x2_70 x4_70 x5_70 x6_70 = some Rz → J l { frames := 1, cells := 0, slots := 0, locals := 21 } G 7 X (QM X G 0 0 (some (.int Rz)) (wSeat G aT (aS 0) (vT 1) (vT 2) (vT 3) (vT 4 0) (vT 5 0) (vT 6) (vT 7) (vT 8) ++ (wSch G aS (vS 0) (vS 1) (vS 2) (vS 3) (vS 4) (vS 5) (vS 6) (vS 7) (vS 8 0) (vS 9 0)))) 0 0 70 [(0, .ref (aT 0)), (1, .int x1_70), (2, .int x2_70), (4, .int x4_70), (5, .int x5_70), (6, .int x6_70)] [] (wSeat G aT (aS 0) (vT 1) (vT 2) (vT 3) (vT 4 0) (vT 5 0) (vT 6) (vT 7) (vT 8) ++ (wSch G aS (vS 0) (vS 1) (vS 2) (vS 3) (vS 4) (vS 5) (vS 6) (vS 7) (vS 8 0) (vS 9 0))) := by
    intro x1_70 x2_70 x4_70 x5_70 x6_70 h
    unfold f_X3_isBeside_K70 at h
    refine J_iload_n (pc := 70) C 41 rfl 2 rfl rfl ?_
    refine J_if_le (pc := 71) (tgt := 92) C 42 rfl rfl (fun c4 => ?_) (fun c4 => ?_)
    · rw [if_pos c4] at h
      exact J_sub [0, 1, 2, 3, 4, 5] rfl (B92 x1_70 x2_70 x4_70 x5_70 x6_70 h)
    · rw [if_neg c4] at h
      refine J_aload_n (pc := 74) C 43 rfl 0 rfl rfl ?_
      refine J_get (pc := 75) (v := .ref (aT 5)) C 44 rfl TB_l3 rfl 0 7 rfl (by decide) k127 rfl rfl ?_
      refine J_iload (pc := 78) C 45 rfl 5 rfl ?_
      refine J_iload (pc := 80) C 46 rfl 4 rfl ?_
      refine J_isub (pc := 82) C 47 rfl  ?_
      obtain ⟨g10, h⟩ := gd_some h
      refine J_iald (pc := 83) (f := (vT 7)) (v := ((vT 7) (Int32.toNatClampNeg (x6_70 - x5_70)))) C 48 rfl 5 rfl g10 rfl ?_
      refine J_iload (pc := 84) C 49 rfl 3 rfl ?_
      obtain ⟨q11, hq11, h⟩ := bnd h
      refine J_callSN (pc := 86) (st2 := []) (st3 := [.int q11]) (ws2 := (wSeat G aT (aS 0) (vT 1) (vT 2) (vT 3) (vT 4 0) (vT 5 0) (vT 6) (vT 7) (vT 8) ++ (wSch G aS (vS 0) (vS 1) (vS 2) (vS 3) (vS 4) (vS 5) (vS 6) (vS 7) (vS 8 0) (vS 9 0)))) C 50 rfl (c_X4_contains ((vT 7) (Int32.toNatClampNeg (x6_70 - x5_70))) x4_70 hq11) V_X4_contains (List.mem_of_getElem? (i := 7) rfl) t_X4_contains rfl rfl ⟨Nat.le_of_ble_eq_true rfl, Nat.le_of_ble_eq_true rfl⟩ (Nat.le_of_ble_eq_true rfl) ⟨Nat.le_refl _, Nat.le_refl _⟩ (isC := []) (isR := [0, 1, 2, 3, 4, 5, 6, 7, 8, 9, 10, 11, 12, 13, 14, 15]) (N := 16) ⟨rfl, by decide +kernel, rfl, by decide +kernel, rfl, ⟨⟨_, rfl, rfl⟩, ⟨⟨_, rfl, rfl⟩, ⟨⟨_, rfl, rfl⟩, ⟨⟨_, rfl, rfl⟩, ⟨⟨_, rfl, rfl⟩, ⟨⟨_, rfl, rfl⟩, ⟨⟨_, rfl, rfl⟩, ⟨⟨_, rfl, rfl⟩, ⟨⟨_, rfl, rfl⟩, ⟨⟨_, rfl, rfl⟩, ⟨⟨_, rfl, rfl⟩, ⟨⟨_, rfl, rfl⟩, ⟨⟨_, rfl, rfl⟩, ⟨⟨_, rfl, rfl⟩, ⟨⟨_, rfl, rfl⟩, ⟨⟨_, rfl, rfl⟩, trivial⟩⟩⟩⟩⟩⟩⟩⟩⟩⟩⟩⟩⟩⟩⟩⟩⟩ rfl ?_
      refine J_if_ne (pc := 89) (tgt := 125) C 51 rfl rfl (fun c12 => ?_) (fun c12 => ?_)
      · rw [if_neg c12] at h
        refine J_iconst (pc := 125) (v := (1 : Int32)) C 70 rfl rfl ?_
        refine J_goto (pc := 126) (tgt := 130) C 71 rfl rfl ?_
        cases h
        exact J_zret (pc := 130) C 73 rfl rfl
      · rw [if_pos c12] at h
        exact J_sub [0, 1, 2, 3, 4, 5] rfl (B92 x1_70 x2_70 x4_70 x5_70 x6_70 h)
  have B45 : ∀ (x1_45 : Int32) (x2_45 : Int32) (x3_45 : Int32) (x4_45 : Int32) (x5_45 : Int32) (x6_45 : Int32), f_X3_isBeside_K45 vT vS x1_45 x2_45 x3_45 x4_45 x5_45 x6_45 = some Rz → J l { frames := 1, cells := 0, slots := 0, locals := 21 } G 7 X (QM X G 0 0 (some (.int Rz)) (wSeat G aT (aS 0) (vT 1) (vT 2) (vT 3) (vT 4 0) (vT 5 0) (vT 6) (vT 7) (vT 8) ++ (wSch G aS (vS 0) (vS 1) (vS 2) (vS 3) (vS 4) (vS 5) (vS 6) (vS 7) (vS 8 0) (vS 9 0)))) 0 0 45 [(0, .ref (aT 0)), (1, .int x1_45), (2, .int x2_45), (3, .int x3_45), (4, .int x4_45), (5, .int x5_45), (6, .int x6_45)] [] (wSeat G aT (aS 0) (vT 1) (vT 2) (vT 3) (vT 4 0) (vT 5 0) (vT 6) (vT 7) (vT 8) ++ (wSch G aS (vS 0) (vS 1) (vS 2) (vS 3) (vS 4) (vS 5) (vS 6) (vS 7) (vS 8 0) (vS 9 0))) := by
    intro x1_45 x2_45 x3_45 x4_45 x5_45 x6_45 h
    unfold f_X3_isBeside_K45 at h
    refine J_iload_n (pc := 45) C 27 rfl 3 rfl rfl ?_
    refine J_iload (pc := 46) C 28 rfl 5 rfl ?_
    refine J_iconst (pc := 48) (v := (1 : Int32)) C 29 rfl rfl ?_
    refine J_isub (pc := 49) C 30 rfl  ?_
    refine J_icmp_ge (pc := 50) (tgt := 70) C 31 rfl rfl (fun c3 => ?_) (fun c3 => ?_)
    · rw [if_pos c3] at h
      exact J_sub [0, 1, 2, 4, 5, 6] rfl (B70 x1_45 x2_45 x4_45 x5_45 x6_45 h)
    · rw [if_neg c3] at h
      refine J_aload_n (pc := 53) C 32 rfl 0 rfl rfl ?_
      refine J_get (pc := 54) (v := .ref (aT 5)) C 33 rfl TB_l3 rfl 0 7 rfl (by decide) k127 rfl rfl ?_
      refine J_iload (pc := 57) C 34 rfl 6 rfl ?_
      refine J_iconst (pc := 59) (v := (1 : Int32)) C 35 rfl rfl ?_
      refine J_iadd (pc := 60) C 36 rfl  ?_
      obtain ⟨g13, h⟩ := gd_some h
      refine J_iald (pc := 61) (f := (vT 7)) (v := ((vT 7) (Int32.toNatClampNeg (x6_45 + (1 : Int32))))) C 37 rfl 5 rfl g13 rfl ?_
      refine J_iload (pc := 62) C 38 rfl 4 rfl ?_
      obtain ⟨q14, hq14, h⟩ := bnd h
      refine J_callSN (pc := 64) (st2 := []) (st3 := [.int q14]) (ws2 := (wSeat G aT (aS 0) (vT 1) (vT 2) (vT 3) (vT 4 0) (vT 5 0) (vT 6) (vT 7) (vT 8) ++ (wSch G aS (vS 0) (vS 1) (vS 2) (vS 3) (vS 4) (vS 5) (vS 6) (vS 7) (vS 8 0) (vS 9 0)))) C 39 rfl (c_X4_contains ((vT 7) (Int32.toNatClampNeg (x6_45 + (1 : Int32)))) x4_45 hq14) V_X4_contains (List.mem_of_getElem? (i := 7) rfl) t_X4_contains rfl rfl ⟨Nat.le_of_ble_eq_true rfl, Nat.le_of_ble_eq_true rfl⟩ (Nat.le_of_ble_eq_true rfl) ⟨Nat.le_refl _, Nat.le_refl _⟩ (isC := []) (isR := [0, 1, 2, 3, 4, 5, 6, 7, 8, 9, 10, 11, 12, 13, 14, 15]) (N := 16) ⟨rfl, by decide +kernel, rfl, by decide +kernel, rfl, ⟨⟨_, rfl, rfl⟩, ⟨⟨_, rfl, rfl⟩, ⟨⟨_, rfl, rfl⟩, ⟨⟨_, rfl, rfl⟩, ⟨⟨_, rfl, rfl⟩, ⟨⟨_, rfl, rfl⟩, ⟨⟨_, rfl, rfl⟩, ⟨⟨_, rfl, rfl⟩, ⟨⟨_, rfl, rfl⟩, ⟨⟨_, rfl, rfl⟩, ⟨⟨_, rfl, rfl⟩, ⟨⟨_, rfl, rfl⟩, ⟨⟨_, rfl, rfl⟩, ⟨⟨_, rfl, rfl⟩, ⟨⟨_, rfl, rfl⟩, ⟨⟨_, rfl, rfl⟩, trivial⟩⟩⟩⟩⟩⟩⟩⟩⟩⟩⟩⟩⟩⟩⟩⟩⟩ rfl ?_
      refine J_if_ne (pc := 67) (tgt := 125) C 40 rfl rfl (fun c15 => ?_) (fun c15 => ?_)
      · rw [if_neg c15] at h
        refine J_iconst (pc := 125) (v := (1 : Int32)) C 70 rfl rfl ?_
        refine J_goto (pc := 126) (tgt := 130) C 71 rfl rfl ?_
        cases h
        exact J_zret (pc := 130) C 73 rfl rfl
      · rw [if_pos c15] at h
        exact J_sub [0, 1, 2, 4, 5, 6] rfl (B70 x1_45 x2_45 x4_45 x5_45 x6_45 h)
  unfold f_X3_isBeside at h
  refine J_aload_n (pc := 0) C 0 rfl 0 rfl rfl ?_
  refine J_get (pc := 1) (v := .ref (aS 0)) C 1 rfl TB_l3 rfl 0 0 rfl (by decide) k120 rfl rfl ?_
  refine J_get (pc := 4) (v := .ref (aS 8)) C 2 rfl TB_l2 rfl 7 7 rfl (by decide) k143 rfl rfl ?_
  refine J_iload_n (pc := 7) C 3 rfl 1 rfl rfl ?_
  obtain ⟨g1, h⟩ := gd_some h
  refine J_iald (pc := 8) (f := (vS 7)) (v := ((vS 7) (Int32.toNatClampNeg x1))) C 4 rfl 15 rfl g1 rfl ?_
  refine J_istore (pc := 9) (lv' := [(5, .int ((vS 7) (Int32.toNatClampNeg x1))), (0, .ref (aT 0)), (1, .int x1), (2, .int x2), (3, .int x3), (4, .int x4)]) C 5 rfl (by decide) rfl ?_
  refine J_bipush (pc := 11) (v := (16 : Int32)) C 6 rfl rfl ?_
  refine J_iload_n (pc := 13) C 7 rfl 2 rfl rfl ?_
  refine J_imul (pc := 14) C 8 rfl  ?_
  refine J_iload (pc := 15) C 9 rfl 0 rfl ?_
  refine J_iload_n (pc := 17) C 10 rfl 3 rfl rfl ?_
  refine J_imul (pc := 18) C 11 rfl  ?_
  refine J_iadd (pc := 19) C 12 rfl  ?_
  refine J_iload_n (pc := 20) C 13 rfl 4 rfl rfl ?_
  refine J_iadd (pc := 21) C 14 rfl  ?_
  refine J_istore (pc := 22) (lv' := [(6, .int ((((16 : Int32) * x1) + (((vS 7) (Int32.toNatClampNeg x1)) * x2)) + x3)), (5, .int ((vS 7) (Int32.toNatClampNeg x1))), (0, .ref (aT 0)), (1, .int x1), (2, .int x2), (3, .int x3), (4, .int x4)]) C 15 rfl (by decide) rfl ?_
  refine J_iload_n (pc := 24) C 16 rfl 5 rfl rfl ?_
  refine J_if_le (pc := 25) (tgt := 45) C 17 rfl rfl (fun c2 => ?_) (fun c2 => ?_)
  · rw [if_pos c2] at h
    exact J_sub [2, 3, 4, 5, 6, 1, 0] rfl (B45 x1 x2 x3 x4 ((vS 7) (Int32.toNatClampNeg x1)) ((((16 : Int32) * x1) + (((vS 7) (Int32.toNatClampNeg x1)) * x2)) + x3) h)
  · rw [if_neg c2] at h
    refine J_aload_n (pc := 28) C 18 rfl 2 rfl rfl ?_
    refine J_get (pc := 29) (v := .ref (aT 5)) C 19 rfl TB_l3 rfl 0 7 rfl (by decide) k127 rfl rfl ?_
    refine J_iload (pc := 32) C 20 rfl 0 rfl ?_
    refine J_iconst (pc := 34) (v := (1 : Int32)) C 21 rfl rfl ?_
    refine J_isub (pc := 35) C 22 rfl  ?_
    obtain ⟨g16, h⟩ := gd_some h
    refine J_iald (pc := 36) (f := (vT 7)) (v := ((vT 7) (Int32.toNatClampNeg (((((16 : Int32) * x1) + (((vS 7) (Int32.toNatClampNeg x1)) * x2)) + x3) - (1 : Int32))))) C 23 rfl 5 rfl g16 rfl ?_
    refine J_iload (pc := 37) C 24 rfl 6 rfl ?_
    obtain ⟨q17, hq17, h⟩ := bnd h
    refine J_callSN (pc := 39) (st2 := []) (st3 := [.int q17]) (ws2 := (wSeat G aT (aS 0) (vT 1) (vT 2) (vT 3) (vT 4 0) (vT 5 0) (vT 6) (vT 7) (vT 8) ++ (wSch G aS (vS 0) (vS 1) (vS 2) (vS 3) (vS 4) (vS 5) (vS 6) (vS 7) (vS 8 0) (vS 9 0)))) C 25 rfl (c_X4_contains ((vT 7) (Int32.toNatClampNeg (((((16 : Int32) * x1) + (((vS 7) (Int32.toNatClampNeg x1)) * x2)) + x3) - (1 : Int32)))) x4 hq17) V_X4_contains (List.mem_of_getElem? (i := 7) rfl) t_X4_contains rfl rfl ⟨Nat.le_of_ble_eq_true rfl, Nat.le_of_ble_eq_true rfl⟩ (Nat.le_of_ble_eq_true rfl) ⟨Nat.le_refl _, Nat.le_refl _⟩ (isC := []) (isR := [0, 1, 2, 3, 4, 5, 6, 7, 8, 9, 10, 11, 12, 13, 14, 15]) (N := 16) ⟨rfl, by decide +kernel, rfl, by decide +kernel, rfl, ⟨⟨_, rfl, rfl⟩, ⟨⟨_, rfl, rfl⟩, ⟨⟨_, rfl, rfl⟩, ⟨⟨_, rfl, rfl⟩, ⟨⟨_, rfl, rfl⟩, ⟨⟨_, rfl, rfl⟩, ⟨⟨_, rfl, rfl⟩, ⟨⟨_, rfl, rfl⟩, ⟨⟨_, rfl, rfl⟩, ⟨⟨_, rfl, rfl⟩, ⟨⟨_, rfl, rfl⟩, ⟨⟨_, rfl, rfl⟩, ⟨⟨_, rfl, rfl⟩, ⟨⟨_, rfl, rfl⟩, ⟨⟨_, rfl, rfl⟩, ⟨⟨_, rfl, rfl⟩, trivial⟩⟩⟩⟩⟩⟩⟩⟩⟩⟩⟩⟩⟩⟩⟩⟩⟩ rfl ?_
    refine J_if_ne (pc := 42) (tgt := 125) C 26 rfl rfl (fun c18 => ?_) (fun c18 => ?_)
    · rw [if_neg c18] at h
      refine J_iconst (pc := 125) (v := (1 : Int32)) C 70 rfl rfl ?_
      refine J_goto (pc := 126) (tgt := 130) C 71 rfl rfl ?_
      cases h
      exact J_zret (pc := 130) C 73 rfl rfl
    · rw [if_pos c18] at h
      exact J_sub [2, 3, 4, 5, 6, 1, 0] rfl (B45 x1 x2 x3 x4 ((vS 7) (Int32.toNatClampNeg x1)) ((((16 : Int32) * x1) + (((vS 7) (Int32.toNatClampNeg x1)) * x2)) + x3) h)
def T_X3_firstDesk : List (Nat × ClassFile.Instr × Nat) := [(0, .iconst 0, 1), (1, .istore_n 3, 1), (2, .iload_n 3, 1), (3, .aload_n 0, 1), (4, .getfield 12, 3), (7, .getfield 92, 3), (10, .iload_n 1, 1), (11, .iaload, 1), (12, .if_icmp .ge 95, 3), (15, .iconst 0, 1), (16, .istore 4, 2), (18, .iload 4, 2), (20, .aload_n 0, 1), (21, .getfield 12, 3), (24, .getfield 95, 3), (27, .iload_n 1, 1), (28, .iaload, 1), (29, .if_icmp .ge 72, 3), (32, .aload_n 0, 1), (33, .getfield 12, 3), (36, .getfield 95, 3), (39, .iload_n 1, 1), (40, .iaload, 1), (41, .iload_n 3, 1), (42, .imul, 1), (43, .iload 4, 2), (45, .iadd, 1), (46, .istore 5, 2), (48, .aload_n 0, 1), (49, .aload_n 0, 1), (50, .getfield 35, 3), (53, .bipush 16, 2), (55, .iload_n 1, 1), (56, .imul, 1), (57, .iload 5, 2), (59, .iadd, 1), (60, .iaload, 1), (61, .iload_n 2, 1), (62, .invokevirtual 75, 3), (65, .ifCond .eq 30, 3), (68, .aload_n 0, 1), (69, .getfield 12, 3), (72, .getfield 72, 3), (75, .iconst 0, 1), (76, .iaload, 1), (77, .ifCond .eq 15, 3), (80, .aload_n 0, 1), (81, .iload_n 1, 1), (82, .iload_n 3, 1), (83, .iload 4, 2), (85, .iload_n 2, 1), (86, .invokevirtual 98, 3), (89, .ifCond .ne 6, 3), (92, .iload 5, 2), (94, .ireturn, 1), (95, .iinc 4 1, 3), (98, .goto (-80), 3), (101, .iinc 3 1, 3), (104, .goto (-102), 3), (107, .bipush (-6), 2), (109, .ireturn, 1)]
theorem D_X3_firstDesk : ∀ q ∈ T_X3_firstDesk, decode cX3_firstDesk q.1 = .ok q.2 := by decide +kernel
theorem V_X3_firstDesk : Vy yX3_firstDesk cX3_firstDesk 6 (some .int) 2 := ⟨k145, k138, by decide +kernel⟩
theorem i_X3_firstDesk : Cond.instanceMethod yX3_firstDesk ∈ TB := k151
theorem s_X3_firstDesk : Cond.selects yX3_firstDesk.cls yX3_firstDesk yX3_firstDesk ∈ TB := k152
noncomputable def f_X3_firstDesk_b18 (vT : JV) (vS : JV) (r2 : Int32 → Option (Int32)) (x1_2 : Int32) (x2_2 : Int32) (x3_18 : Int32) (r18 : Int32 → Option (Int32)) (x4_18 : Int32) : Option (Int32) :=
  gd (inb x1_2 4) ((if ((vS 7) (Int32.toNatClampNeg x1_2)) ≤ x4_18 then r2 (x3_18 + (1 : Int32)) else gd (inb x1_2 4) (gd (inb (((16 : Int32) * x1_2) + ((((vS 7) (Int32.toNatClampNeg x1_2)) * x3_18) + x4_18)) 64) ((f_X3_isEarlyEnough vT vS ((vT 6) (Int32.toNatClampNeg (((16 : Int32) * x1_2) + ((((vS 7) (Int32.toNatClampNeg x1_2)) * x3_18) + x4_18)))) x2_2).bind (fun q7 => (if q7 = 0 then r18 (x4_18 + (1 : Int32)) else (if ((vS 0) 0) = 0 then some ((((vS 7) (Int32.toNatClampNeg x1_2)) * x3_18) + x4_18) else (f_X3_isBeside vT vS x1_2 x3_18 x4_18 x2_2).bind (fun q10 => (if q10 = 0 then some ((((vS 7) (Int32.toNatClampNeg x1_2)) * x3_18) + x4_18) else r18 (x4_18 + (1 : Int32)))))))))))
noncomputable def f_X3_firstDesk_L18 (vT : JV) (vS : JV) (r2 : Int32 → Option (Int32)) (x1_2 : Int32) (x2_2 : Int32) (x3_18 : Int32) (n : Nat) (x4_18 : Int32) : Option (Int32) :=
  lp (fun (rec : Int32 → Option (Int32)) a => f_X3_firstDesk_b18 vT vS r2 x1_2 x2_2 x3_18 (fun x4_18 => rec x4_18) a) n x4_18
noncomputable def f_X3_firstDesk_b2 (vT : JV) (vS : JV) (x1_2 : Int32) (x2_2 : Int32) (r2 : Int32 → Option (Int32)) (x3_2 : Int32) : Option (Int32) :=
  gd (inb x1_2 4) ((if ((vS 6) (Int32.toNatClampNeg x1_2)) ≤ x3_2 then some (-6 : Int32) else f_X3_firstDesk_L18 vT vS r2 x1_2 x2_2 x3_2 FU (0 : Int32)))
noncomputable def f_X3_firstDesk_L2 (vT : JV) (vS : JV) (x1_2 : Int32) (x2_2 : Int32) (n : Nat) (x3_2 : Int32) : Option (Int32) :=
  lp (fun (rec : Int32 → Option (Int32)) a => f_X3_firstDesk_b2 vT vS x1_2 x2_2 (fun x3_2 => rec x3_2) a) n x3_2
noncomputable def f_X3_firstDesk (vT : JV) (vS : JV) (x1 : Int32) (x2 : Int32) : Option (Int32) :=
  f_X3_firstDesk_L2 vT vS x1 x2 FU (0 : Int32)
set_option maxRecDepth 100000 in
set_option maxHeartbeats 4000000 in
theorem c_X3_firstDesk {l : Launch} {G : JG} (aT : Nat → Nat) (aS : Nat → Nat) (vT : JV) (vS : JV) (x1 : Int32) (x2 : Int32) {Rz : Int32} (h : f_X3_firstDesk vT vS x1 x2 = some Rz) : JM l G yX3_firstDesk cX3_firstDesk 6 (some .int) 2 47 [.ref (aT 0), .int x1, .int x2] (wSeat G aT (aS 0) (vT 1) (vT 2) (vT 3) (vT 4 0) (vT 5 0) (vT 6) (vT 7) (vT 8) ++ (wSch G aS (vS 0) (vS 1) (vS 2) (vS 3) (vS 4) (vS 5) (vS 6) (vS 7) (vS 8 0) (vS 9 0))) (wSeat G aT (aS 0) (vT 1) (vT 2) (vT 3) (vT 4 0) (vT 5 0) (vT 6) (vT 7) (vT 8) ++ (wSch G aS (vS 0) (vS 1) (vS 2) (vS 3) (vS 4) (vS 5) (vS 6) (vS 7) (vS 8 0) (vS 9 0))) (some (.int Rz)) := by
  refine JM.of (own := RX3) (tb := T_X3_firstDesk) (by decide) (Nat.le_of_ble_eq_true rfl) D_X3_firstDesk rfl (fun X C => ?_)
  refine J_sub (lv' := [(0, .ref (aT 0)), (1, .int x1), (2, .int x2)]) [0, 1, 2] rfl ?_
  have B2 : ∀ (x1_2 : Int32) (x2_2 : Int32) (n2 : Nat) (x3_2 : Int32), f_X3_firstDesk_L2 vT vS x1_2 x2_2 n2 x3_2 = some Rz → J l { frames := 2, cells := 0, slots := 0, locals := 47 } G 6 X (QM X G 0 0 (some (.int Rz)) (wSeat G aT (aS 0) (vT 1) (vT 2) (vT 3) (vT 4 0) (vT 5 0) (vT 6) (vT 7) (vT 8) ++ (wSch G aS (vS 0) (vS 1) (vS 2) (vS 3) (vS 4) (vS 5) (vS 6) (vS 7) (vS 8 0) (vS 9 0)))) 0 0 2 [(0, .ref (aT 0)), (1, .int x1_2), (2, .int x2_2), (3, .int x3_2)] [] (wSeat G aT (aS 0) (vT 1) (vT 2) (vT 3) (vT 4 0) (vT 5 0) (vT 6) (vT 7) (vT 8) ++ (wSch G aS (vS 0) (vS 1) (vS 2) (vS 3) (vS 4) (vS 5) (vS 6) (vS 7) (vS 8 0) (vS 9 0))) := by
    intro x1_2 x2_2 n2
    induction n2 with
    | zero =>
      intro x3_2 h
      exact (no_none rfl h).elim
    | succ n2 ih2 =>
      have B18 : ∀ (x3_18 : Int32) (n18 : Nat) (x4_18 : Int32), f_X3_firstDesk_L18 vT vS (fun x3_2 => f_X3_firstDesk_L2 vT vS x1_2 x2_2 n2 x3_2) x1_2 x2_2 x3_18 n18 x4_18 = some Rz → J l { frames := 2, cells := 0, slots := 0, locals := 47 } G 6 X (QM X G 0 0 (some (.int Rz)) (wSeat G aT (aS 0) (vT 1) (vT 2) (vT 3) (vT 4 0) (vT 5 0) (vT 6) (vT 7) (vT 8) ++ (wSch G aS (vS 0) (vS 1) (vS 2) (vS 3) (vS 4) (vS 5) (vS 6) (vS 7) (vS 8 0) (vS 9 0)))) 0 0 18 [(0, .ref (aT 0)), (1, .int x1_2), (2, .int x2_2), (3, .int x3_18), (4, .int x4_18)] [] (wSeat G aT (aS 0) (vT 1) (vT 2) (vT 3) (vT 4 0) (vT 5 0) (vT 6) (vT 7) (vT 8) ++ (wSch G aS (vS 0) (vS 1) (vS 2) (vS 3) (vS 4) (vS 5) (vS 6) (vS 7) (vS 8 0) (vS 9 0))) := by
        intro x3_18 n18
        induction n18 with
        | zero =>
          intro x4_18 h
          exact (no_none rfl h).elim
        | succ n18 ih18 =>
          intro x4_18 h
          replace h : f_X3_firstDesk_b18 vT vS (fun x3_2 => f_X3_firstDesk_L2 vT vS x1_2 x2_2 n2 x3_2) x1_2 x2_2 x3_18 (fun x4_18 => f_X3_firstDesk_L18 vT vS (fun x3_2 => f_X3_firstDesk_L2 vT vS x1_2 x2_2 n2 x3_2) x1_2 x2_2 x3_18 n18 x4_18) x4_18 = some Rz := h
          unfold f_X3_firstDesk_b18 at h
          refine J_iload (pc := 18) C 11 rfl 4 rfl ?_
          refine J_aload_n (pc := 20) C 12 rfl 0 rfl rfl ?_
          refine J_get (pc := 21) (v := .ref (aS 0)) C 13 rfl TB_l3 rfl 0 0 rfl (by decide) k120 rfl rfl ?_
          refine J_get (pc := 24) (v := .ref (aS 8)) C 14 rfl TB_l2 rfl 7 7 rfl (by decide) k143 rfl rfl ?_
          refine J_iload_n (pc := 27) C 15 rfl 1 rfl rfl ?_
          obtain ⟨g3, h⟩ := gd_some h
          refine J_iald (pc := 28) (f := (vS 7)) (v := ((vS 7) (Int32.toNatClampNeg x1_2))) C 16 rfl 15 rfl g3 rfl ?_
          refine J_icmp_ge (pc := 29) (tgt := 101) C 17 rfl rfl (fun c4 => ?_) (fun c4 => ?_)
          · rw [if_pos c4] at h
            refine J_iinc (pc := 101) (v := (x3_18 + (1 : Int32))) (lv' := [(3, .int (x3_18 + (1 : Int32))), (0, .ref (aT 0)), (1, .int x1_2), (2, .int x2_2), (4, .int x4_18)]) C 57 rfl 3 rfl rfl (by decide) rfl ?_
            refine J_goto (pc := 104) (tgt := 2) C 58 rfl rfl ?_
            exact J_sub [1, 2, 3, 0] rfl (ih2 (x3_18 + (1 : Int32)) h)
          · rw [if_neg c4] at h
            refine J_aload_n (pc := 32) C 18 rfl 0 rfl rfl ?_
            refine J_get (pc := 33) (v := .ref (aS 0)) C 19 rfl TB_l3 rfl 0 0 rfl (by decide) k120 rfl rfl ?_
            refine J_get (pc := 36) (v := .ref (aS 8)) C 20 rfl TB_l2 rfl 7 7 rfl (by decide) k143 rfl rfl ?_
            refine J_iload_n (pc := 39) C 21 rfl 1 rfl rfl ?_
            obtain ⟨g5, h⟩ := gd_some h
            refine J_iald (pc := 40) (f := (vS 7)) (v := ((vS 7) (Int32.toNatClampNeg x1_2))) C 22 rfl 15 rfl g5 rfl ?_
            refine J_iload_n (pc := 41) C 23 rfl 3 rfl rfl ?_
            refine J_imul (pc := 42) C 24 rfl  ?_
            refine J_iload (pc := 43) C 25 rfl 4 rfl ?_
            refine J_iadd (pc := 45) C 26 rfl  ?_
            refine J_istore (pc := 46) (lv' := [(5, .int ((((vS 7) (Int32.toNatClampNeg x1_2)) * x3_18) + x4_18)), (0, .ref (aT 0)), (1, .int x1_2), (2, .int x2_2), (3, .int x3_18), (4, .int x4_18)]) C 27 rfl (by decide) rfl ?_
            refine J_aload_n (pc := 48) C 28 rfl 1 rfl rfl ?_
            refine J_aload_n (pc := 49) C 29 rfl 1 rfl rfl ?_
            refine J_get (pc := 50) (v := .ref (aT 4)) C 30 rfl TB_l3 rfl 0 6 rfl (by decide) k126 rfl rfl ?_
            refine J_bipush (pc := 53) (v := (16 : Int32)) C 31 rfl rfl ?_
            refine J_iload_n (pc := 55) C 32 rfl 2 rfl rfl ?_
            refine J_imul (pc := 56) C 33 rfl  ?_
            refine J_iload (pc := 57) C 34 rfl 0 rfl ?_
            refine J_iadd (pc := 59) C 35 rfl  ?_
            obtain ⟨g6, h⟩ := gd_some h
            refine J_iald (pc := 60) (f := (vT 6)) (v := ((vT 6) (Int32.toNatClampNeg (((16 : Int32) * x1_2) + ((((vS 7) (Int32.toNatClampNeg x1_2)) * x3_18) + x4_18))))) C 36 rfl 4 rfl g6 rfl ?_
            refine J_iload_n (pc := 61) C 37 rfl 3 rfl rfl ?_
            obtain ⟨q7, hq7, h⟩ := bnd h
            refine J_callV (pc := 62) (st2 := []) (st3 := [.int q7]) (ws2 := (wSeat G aT (aS 0) (vT 1) (vT 2) (vT 3) (vT 4 0) (vT 5 0) (vT 6) (vT 7) (vT 8) ++ (wSch G aS (vS 0) (vS 1) (vS 2) (vS 3) (vS 4) (vS 5) (vS 6) (vS 7) (vS 8 0) (vS 9 0)))) C 38 rfl (c_X3_isEarlyEnough aT aS vT vS ((vT 6) (Int32.toNatClampNeg (((16 : Int32) * x1_2) + ((((vS 7) (Int32.toNatClampNeg x1_2)) * x3_18) + x4_18)))) x2_2 hq7) V_X3_isEarlyEnough k135 i_X3_isEarlyEnough s_X3_isEarlyEnough rfl rfl ⟨Nat.le_of_ble_eq_true rfl, Nat.le_of_ble_eq_true rfl⟩ (Nat.le_of_ble_eq_true rfl) ⟨Nat.le_refl _, Nat.le_refl _⟩ 0 3 rfl rfl rfl (isC := [0, 1, 2, 3, 4, 5, 6, 7, 8, 9, 10, 11, 12, 13, 14, 15]) (isR := []) (N := 16) ⟨rfl, by decide +kernel, rfl, by decide +kernel, rfl, trivial⟩ rfl ?_
            refine J_if_eq (pc := 65) (tgt := 95) C 39 rfl rfl (fun c8 => ?_) (fun c8 => ?_)
            · rw [if_pos c8] at h
              refine J_iinc (pc := 95) (v := (x4_18 + (1 : Int32))) (lv' := [(4, .int (x4_18 + (1 : Int32))), (5, .int ((((vS 7) (Int32.toNatClampNeg x1_2)) * x3_18) + x4_18)), (0, .ref (aT 0)), (1, .int x1_2), (2, .int x2_2), (3, .int x3_18)]) C 55 rfl 5 rfl rfl (by decide) rfl ?_
              refine J_goto (pc := 98) (tgt := 18) C 56 rfl rfl ?_
              exact J_sub [2, 3, 4, 5, 0] rfl (ih18 (x4_18 + (1 : Int32)) h)
            · rw [if_neg c8] at h
              refine J_aload_n (pc := 68) C 40 rfl 1 rfl rfl ?_
              refine J_get (pc := 69) (v := .ref (aS 0)) C 41 rfl TB_l3 rfl 0 0 rfl (by decide) k120 rfl rfl ?_
              refine J_get (pc := 72) (v := .ref (aS 1)) C 42 rfl TB_l2 rfl 7 0 rfl (by decide) k132 rfl rfl ?_
              refine J_iconst (pc := 75) (v := (0 : Int32)) C 43 rfl rfl ?_
              refine J_iald (pc := 76) (f := (vS 0)) (v := ((vS 0) 0)) C 44 rfl 8 rfl rfl rfl ?_
              refine J_if_eq (pc := 77) (tgt := 92) C 45 rfl rfl (fun c9 => ?_) (fun c9 => ?_)
              · rw [if_pos c9] at h
                refine J_iload (pc := 92) C 53 rfl 0 rfl ?_
                cases h
                exact J_iret (pc := 94) C 54 rfl
              · rw [if_neg c9] at h
                refine J_aload_n (pc := 80) C 46 rfl 1 rfl rfl ?_
                refine J_iload_n (pc := 81) C 47 rfl 2 rfl rfl ?_
                refine J_iload_n (pc := 82) C 48 rfl 4 rfl rfl ?_
                refine J_iload (pc := 83) C 49 rfl 5 rfl ?_
                refine J_iload_n (pc := 85) C 50 rfl 3 rfl rfl ?_
                obtain ⟨q10, hq10, h⟩ := bnd h
                refine J_callV (pc := 86) (st2 := []) (st3 := [.int q10]) (ws2 := (wSeat G aT (aS 0) (vT 1) (vT 2) (vT 3) (vT 4 0) (vT 5 0) (vT 6) (vT 7) (vT 8) ++ (wSch G aS (vS 0) (vS 1) (vS 2) (vS 3) (vS 4) (vS 5) (vS 6) (vS 7) (vS 8 0) (vS 9 0)))) C 51 rfl (c_X3_isBeside aT aS vT vS x1_2 x3_18 x4_18 x2_2 hq10) V_X3_isBeside k146 i_X3_isBeside s_X3_isBeside rfl rfl ⟨Nat.le_of_ble_eq_true rfl, Nat.le_of_ble_eq_true rfl⟩ (Nat.le_of_ble_eq_true rfl) ⟨Nat.le_refl _, Nat.le_refl _⟩ 0 3 rfl rfl rfl (isC := [0, 1, 2, 3, 4, 5, 6, 7, 8, 9, 10, 11, 12, 13, 14, 15]) (isR := []) (N := 16) ⟨rfl, by decide +kernel, rfl, by decide +kernel, rfl, trivial⟩ rfl ?_
                refine J_if_ne (pc := 89) (tgt := 95) C 52 rfl rfl (fun c11 => ?_) (fun c11 => ?_)
                · rw [if_neg c11] at h
                  refine J_iinc (pc := 95) (v := (x4_18 + (1 : Int32))) (lv' := [(4, .int (x4_18 + (1 : Int32))), (5, .int ((((vS 7) (Int32.toNatClampNeg x1_2)) * x3_18) + x4_18)), (0, .ref (aT 0)), (1, .int x1_2), (2, .int x2_2), (3, .int x3_18)]) C 55 rfl 5 rfl rfl (by decide) rfl ?_
                  refine J_goto (pc := 98) (tgt := 18) C 56 rfl rfl ?_
                  exact J_sub [2, 3, 4, 5, 0] rfl (ih18 (x4_18 + (1 : Int32)) h)
                · rw [if_pos c11] at h
                  refine J_iload (pc := 92) C 53 rfl 0 rfl ?_
                  cases h
                  exact J_iret (pc := 94) C 54 rfl
      intro x3_2 h
      replace h : f_X3_firstDesk_b2 vT vS x1_2 x2_2 (fun x3_2 => f_X3_firstDesk_L2 vT vS x1_2 x2_2 n2 x3_2) x3_2 = some Rz := h
      unfold f_X3_firstDesk_b2 at h
      refine J_iload_n (pc := 2) C 2 rfl 3 rfl rfl ?_
      refine J_aload_n (pc := 3) C 3 rfl 0 rfl rfl ?_
      refine J_get (pc := 4) (v := .ref (aS 0)) C 4 rfl TB_l3 rfl 0 0 rfl (by decide) k120 rfl rfl ?_
      refine J_get (pc := 7) (v := .ref (aS 7)) C 5 rfl TB_l2 rfl 7 6 rfl (by decide) k144 rfl rfl ?_
      refine J_iload_n (pc := 10) C 6 rfl 1 rfl rfl ?_
      obtain ⟨g1, h⟩ := gd_some h
      refine J_iald (pc := 11) (f := (vS 6)) (v := ((vS 6) (Int32.toNatClampNeg x1_2))) C 7 rfl 14 rfl g1 rfl ?_
      refine J_icmp_ge (pc := 12) (tgt := 107) C 8 rfl rfl (fun c2 => ?_) (fun c2 => ?_)
      · rw [if_pos c2] at h
        refine J_bipush (pc := 107) (v := (-6 : Int32)) C 59 rfl rfl ?_
        cases h
        exact J_iret (pc := 109) C 60 rfl
      · rw [if_neg c2] at h
        refine J_iconst (pc := 15) (v := (0 : Int32)) C 9 rfl rfl ?_
        refine J_istore (pc := 16) (lv' := [(4, .int (0 : Int32)), (0, .ref (aT 0)), (1, .int x1_2), (2, .int x2_2), (3, .int x3_2)]) C 10 rfl (by decide) rfl ?_
        exact J_sub [1, 2, 3, 4, 0] rfl (B18 x3_2 FU (0 : Int32) h)
  unfold f_X3_firstDesk at h
  refine J_iconst (pc := 0) (v := (0 : Int32)) C 0 rfl rfl ?_
  refine J_istore_n (pc := 1) (lv' := [(3, .int (0 : Int32)), (0, .ref (aT 0)), (1, .int x1), (2, .int x2)]) C 1 rfl rfl (by decide) rfl ?_
  exact J_sub [1, 2, 3, 0] rfl (B2 x1 x2 FU (0 : Int32) h)
def T_X3_seatAtDesk : List (Nat × ClassFile.Instr × Nat) := [(0, .iconst 0, 1), (1, .istore_n 3, 1), (2, .iload_n 3, 1), (3, .iconst 4, 1), (4, .if_icmp .ge 102, 3), (7, .aload_n 0, 1), (8, .getfield 12, 3), (11, .iload_n 3, 1), (12, .invokevirtual 85, 3), (15, .ifCond .eq 12, 3), (18, .aload_n 0, 1), (19, .iload_n 3, 1), (20, .iload_n 2, 1), (21, .invokevirtual 89, 3), (24, .goto 5, 3), (27, .bipush (-6), 2), (29, .istore 4, 2), (31, .iload 4, 2), (33, .bipush (-6), 2), (35, .if_icmp .eq 65, 3), (38, .bipush 16, 2), (40, .iload_n 3, 1), (41, .imul, 1), (42, .iload 4, 2), (44, .iadd, 1), (45, .istore 5, 2), (47, .aload_n 0, 1), (48, .getfield 18, 3), (51, .iload_n 1, 1), (52, .iload_n 2, 1), (53, .invokestatic 78, 3), (56, .iload_n 3, 1), (57, .iastore, 1), (58, .aload_n 0, 1), (59, .getfield 22, 3), (62, .iload_n 1, 1), (63, .iload_n 2, 1), (64, .invokestatic 78, 3), (67, .iload 4, 2), (69, .iastore, 1), (70, .aload_n 0, 1), (71, .getfield 35, 3), (74, .iload 5, 2), (76, .aload_n 0, 1), (77, .getfield 12, 3), (80, .iload_n 1, 1), (81, .iload_n 2, 1), (82, .invokevirtual 82, 3), (85, .iastore, 1), (86, .aload_n 0, 1), (87, .getfield 38, 3), (90, .iload 5, 2), (92, .dup2, 1), (93, .iaload, 1), (94, .iconst 1, 1), (95, .iload_n 2, 1), (96, .ishl, 1), (97, .ior, 1), (98, .iastore, 1), (99, .return_, 1), (100, .iinc 3 1, 3), (103, .goto (-101), 3), (106, .aload_n 0, 1), (107, .dup, 1), (108, .getfield 28, 3), (111, .iconst 1, 1), (112, .iadd, 1), (113, .putfield 28, 3), (116, .return_, 1)]
theorem D_X3_seatAtDesk : ∀ q ∈ T_X3_seatAtDesk, decode cX3_seatAtDesk q.1 = .ok q.2 := by decide +kernel
theorem V_X3_seatAtDesk : Vy yX3_seatAtDesk cX3_seatAtDesk 6 none 2 := ⟨k153, k138, by decide +kernel⟩
theorem i_X3_seatAtDesk : Cond.instanceMethod yX3_seatAtDesk ∈ TB := k161
theorem s_X3_seatAtDesk : Cond.selects yX3_seatAtDesk.cls yX3_seatAtDesk yX3_seatAtDesk ∈ TB := k162
noncomputable def f_X3_seatAtDesk_K29 (vS : JV) (r2 : JV → Int32 → Option (JV)) (vT_29 : JV) (x1_2 : Int32) (x2_2 : Int32) (x3_29 : Int32) (y0_29 : Int32) : Option (JV) :=
  (if y0_29 = (-6 : Int32) then r2 vT_29 (x3_29 + (1 : Int32)) else (f_X4_sittingNumber x1_2 x2_2).bind (fun q5 => gd (inb q5 96) ((f_X4_sittingNumber x1_2 x2_2).bind (fun q7 => gd (inb q7 96) ((f_X2_endOf vS x1_2 x2_2).bind (fun q9 => gd (inb (((16 : Int32) * x3_29) + y0_29) 64) (gd (inb (((16 : Int32) * x3_29) + y0_29) 64) (gd (inb (((16 : Int32) * x3_29) + y0_29) 64) (some (up2 (up2 (up2 (up2 vT_29 1 (Int32.toNatClampNeg q5) x3_29) 2 (Int32.toNatClampNeg q7) y0_29) 6 (Int32.toNatClampNeg (((16 : Int32) * x3_29) + y0_29)) q9) 7 (Int32.toNatClampNeg (((16 : Int32) * x3_29) + y0_29)) (((vT_29 7) (Int32.toNatClampNeg (((16 : Int32) * x3_29) + y0_29))) ||| ((1 : Int32) <<< (x2_2 &&& 31)))))))))))))
noncomputable def f_X3_seatAtDesk_b2 (vS : JV) (x1_2 : Int32) (x2_2 : Int32) (r2 : JV → Int32 → Option (JV)) (vT_2 : JV) (x3_2 : Int32) : Option (JV) :=
  (if (4 : Int32) ≤ x3_2 then some (up2 vT_2 4 0 ((vT_2 4 0) + (1 : Int32))) else (f_X2_isOpen vS x3_2).bind (fun q2 => (if q2 = 0 then f_X3_seatAtDesk_K29 vS r2 vT_2 x1_2 x2_2 x3_2 (-6 : Int32) else (f_X3_firstDesk vT_2 vS x3_2 x2_2).bind (fun q13 => f_X3_seatAtDesk_K29 vS r2 vT_2 x1_2 x2_2 x3_2 q13))))
noncomputable def f_X3_seatAtDesk_L2 (vS : JV) (x1_2 : Int32) (x2_2 : Int32) (n : Nat) (vT_2 : JV) (x3_2 : Int32) : Option (JV) :=
  lp (fun (rec : JV × Int32 → Option (JV)) a => f_X3_seatAtDesk_b2 vS x1_2 x2_2 (fun vT_2 x3_2 => rec (vT_2, x3_2)) a.1 a.2) n (vT_2, x3_2)
noncomputable def f_X3_seatAtDesk (vT : JV) (vS : JV) (x1 : Int32) (x2 : Int32) : Option (JV) :=
  f_X3_seatAtDesk_L2 vS x1 x2 FU vT (0 : Int32)
set_option maxRecDepth 100000 in
set_option maxHeartbeats 4000000 in
theorem c_X3_seatAtDesk {l : Launch} {G : JG} (aT : Nat → Nat) (aS : Nat → Nat) (vT : JV) (vS : JV) (x1 : Int32) (x2 : Int32) {Rz : JV} (h : f_X3_seatAtDesk vT vS x1 x2 = some Rz) : JM l G yX3_seatAtDesk cX3_seatAtDesk 6 none 3 72 [.ref (aT 0), .int x1, .int x2] (wSeat G aT (aS 0) (vT 1) (vT 2) (vT 3) (vT 4 0) (vT 5 0) (vT 6) (vT 7) (vT 8) ++ (wSch G aS (vS 0) (vS 1) (vS 2) (vS 3) (vS 4) (vS 5) (vS 6) (vS 7) (vS 8 0) (vS 9 0))) (wSeat G aT (aS 0) (Rz 1) (Rz 2) (Rz 3) (Rz 4 0) (Rz 5 0) (Rz 6) (Rz 7) (Rz 8) ++ (wSch G aS (vS 0) (vS 1) (vS 2) (vS 3) (vS 4) (vS 5) (vS 6) (vS 7) (vS 8 0) (vS 9 0))) none := by
  refine JM.of (own := RX3) (tb := T_X3_seatAtDesk) (by decide) (Nat.le_of_ble_eq_true rfl) D_X3_seatAtDesk rfl (fun X C => ?_)
  refine J_sub (lv' := [(0, .ref (aT 0)), (1, .int x1), (2, .int x2)]) [0, 1, 2] rfl ?_
  have B2 : ∀ (x1_2 : Int32) (x2_2 : Int32) (n2 : Nat) (vT_2 : JV) (x3_2 : Int32), f_X3_seatAtDesk_L2 vS x1_2 x2_2 n2 vT_2 x3_2 = some Rz → J l { frames := 3, cells := 0, slots := 0, locals := 72 } G 6 X (QM X G 0 0 none (wSeat G aT (aS 0) (Rz 1) (Rz 2) (Rz 3) (Rz 4 0) (Rz 5 0) (Rz 6) (Rz 7) (Rz 8) ++ (wSch G aS (vS 0) (vS 1) (vS 2) (vS 3) (vS 4) (vS 5) (vS 6) (vS 7) (vS 8 0) (vS 9 0)))) 0 0 2 [(0, .ref (aT 0)), (1, .int x1_2), (2, .int x2_2), (3, .int x3_2)] [] (wSeat G aT (aS 0) (vT_2 1) (vT_2 2) (vT_2 3) (vT_2 4 0) (vT_2 5 0) (vT_2 6) (vT_2 7) (vT_2 8) ++ (wSch G aS (vS 0) (vS 1) (vS 2) (vS 3) (vS 4) (vS 5) (vS 6) (vS 7) (vS 8 0) (vS 9 0))) := by
    intro x1_2 x2_2 n2
    induction n2 with
    | zero =>
      intro vT_2 x3_2 h
      exact (no_none rfl h).elim
    | succ n2 ih2 =>
      have B29 : ∀ (vT_29 : JV) (x3_29 : Int32) (y0_29 : Int32), f_X3_seatAtDesk_K29 vS (fun vT_2 x3_2 => f_X3_seatAtDesk_L2 vS x1_2 x2_2 n2 vT_2 x3_2) vT_29 x1_2 x2_2 x3_29 y0_29 = some Rz → J l { frames := 3, cells := 0, slots := 0, locals := 72 } G 6 X (QM X G 0 0 none (wSeat G aT (aS 0) (Rz 1) (Rz 2) (Rz 3) (Rz 4 0) (Rz 5 0) (Rz 6) (Rz 7) (Rz 8) ++ (wSch G aS (vS 0) (vS 1) (vS 2) (vS 3) (vS 4) (vS 5) (vS 6) (vS 7) (vS 8 0) (vS 9 0)))) 0 0 29 [(0, .ref (aT 0)), (1, .int x1_2), (2, .int x2_2), (3, .int x3_29)] [.int y0_29] (wSeat G aT (aS 0) (vT_29 1) (vT_29 2) (vT_29 3) (vT_29 4 0) (vT_29 5 0) (vT_29 6) (vT_29 7) (vT_29 8) ++ (wSch G aS (vS 0) (vS 1) (vS 2) (vS 3) (vS 4) (vS 5) (vS 6) (vS 7) (vS 8 0) (vS 9 0))) := by
        intro vT_29 x3_29 y0_29 h
        unfold f_X3_seatAtDesk_K29 at h
        refine J_istore (pc := 29) (lv' := [(4, .int y0_29), (0, .ref (aT 0)), (1, .int x1_2), (2, .int x2_2), (3, .int x3_29)]) C 16 rfl (by decide) rfl ?_
        refine J_iload (pc := 31) C 17 rfl 0 rfl ?_
        refine J_bipush (pc := 33) (v := (-6 : Int32)) C 18 rfl rfl ?_
        refine J_icmp_eq (pc := 35) (tgt := 100) C 19 rfl rfl (fun c4 => ?_) (fun c4 => ?_)
        · rw [if_pos c4] at h
          refine J_iinc (pc := 100) (v := (x3_29 + (1 : Int32))) (lv' := [(3, .int (x3_29 + (1 : Int32))), (4, .int y0_29), (0, .ref (aT 0)), (1, .int x1_2), (2, .int x2_2)]) C 60 rfl 4 rfl rfl (by decide) rfl ?_
          refine J_goto (pc := 103) (tgt := 2) C 61 rfl rfl ?_
          exact J_sub [2, 3, 4, 0] rfl (ih2 vT_29 (x3_29 + (1 : Int32)) h)
        · rw [if_neg c4] at h
          refine J_bipush (pc := 38) (v := (16 : Int32)) C 20 rfl rfl ?_
          refine J_iload_n (pc := 40) C 21 rfl 4 rfl rfl ?_
          refine J_imul (pc := 41) C 22 rfl  ?_
          refine J_iload (pc := 42) C 23 rfl 0 rfl ?_
          refine J_iadd (pc := 44) C 24 rfl  ?_
          refine J_istore (pc := 45) (lv' := [(5, .int (((16 : Int32) * x3_29) + y0_29)), (4, .int y0_29), (0, .ref (aT 0)), (1, .int x1_2), (2, .int x2_2), (3, .int x3_29)]) C 25 rfl (by decide) rfl ?_
          refine J_aload_n (pc := 47) C 26 rfl 2 rfl rfl ?_
          refine J_get (pc := 48) (v := .ref (aT 1)) C 27 rfl TB_l3 rfl 0 1 rfl (by decide) k121 rfl rfl ?_
          refine J_iload_n (pc := 51) C 28 rfl 3 rfl rfl ?_
          refine J_iload_n (pc := 52) C 29 rfl 4 rfl rfl ?_
          obtain ⟨q5, hq5, h⟩ := bnd h
          refine J_callSN (pc := 53) (st2 := [.ref (aT 1)]) (st3 := [.int q5, .ref (aT 1)]) (ws2 := (wSeat G aT (aS 0) (vT_29 1) (vT_29 2) (vT_29 3) (vT_29 4 0) (vT_29 5 0) (vT_29 6) (vT_29 7) (vT_29 8) ++ (wSch G aS (vS 0) (vS 1) (vS 2) (vS 3) (vS 4) (vS 5) (vS 6) (vS 7) (vS 8 0) (vS 9 0)))) C 30 rfl (c_X4_sittingNumber x1_2 x2_2 hq5) V_X4_sittingNumber (List.mem_of_getElem? (i := 6) rfl) t_X4_sittingNumber rfl rfl ⟨Nat.le_of_ble_eq_true rfl, Nat.le_of_ble_eq_true rfl⟩ (Nat.le_of_ble_eq_true rfl) ⟨Nat.le_refl _, Nat.le_refl _⟩ (isC := []) (isR := [0, 1, 2, 3, 4, 5, 6, 7, 8, 9, 10, 11, 12, 13, 14, 15]) (N := 16) ⟨rfl, by decide +kernel, rfl, by decide +kernel, rfl, ⟨⟨_, rfl, rfl⟩, ⟨⟨_, rfl, rfl⟩, ⟨⟨_, rfl, rfl⟩, ⟨⟨_, rfl, rfl⟩, ⟨⟨_, rfl, rfl⟩, ⟨⟨_, rfl, rfl⟩, ⟨⟨_, rfl, rfl⟩, ⟨⟨_, rfl, rfl⟩, ⟨⟨_, rfl, rfl⟩, ⟨⟨_, rfl, rfl⟩, ⟨⟨_, rfl, rfl⟩, ⟨⟨_, rfl, rfl⟩, ⟨⟨_, rfl, rfl⟩, ⟨⟨_, rfl, rfl⟩, ⟨⟨_, rfl, rfl⟩, ⟨⟨_, rfl, rfl⟩, trivial⟩⟩⟩⟩⟩⟩⟩⟩⟩⟩⟩⟩⟩⟩⟩⟩⟩ rfl ?_
          refine J_iload_n (pc := 56) C 31 rfl 5 rfl rfl ?_
          obtain ⟨g6, h⟩ := gd_some h
          refine J_iast (pc := 57) (f := (vT_29 1)) (m := (Int32.toNatClampNeg q5)) C 32 (fun mm vv => (wSeat G aT (aS 0) (upd (vT_29 1) mm vv) (vT_29 2) (vT_29 3) (vT_29 4 0) (vT_29 5 0) (vT_29 6) (vT_29 7) (vT_29 8) ++ (wSch G aS (vS 0) (vS 1) (vS 2) (vS 3) (vS 4) (vS 5) (vS 6) (vS 7) (vS 8 0) (vS 9 0)))) rfl 1 rfl g6 rfl (fun _ _ => rfl) ?_
          refine J_aload_n (pc := 58) C 33 rfl 2 rfl rfl ?_
          refine J_get (pc := 59) (v := .ref (aT 2)) C 34 rfl TB_l3 rfl 0 2 rfl (by decide) k122 rfl rfl ?_
          refine J_iload_n (pc := 62) C 35 rfl 3 rfl rfl ?_
          refine J_iload_n (pc := 63) C 36 rfl 4 rfl rfl ?_
          obtain ⟨q7, hq7, h⟩ := bnd h
          refine J_callSN (pc := 64) (st2 := [.ref (aT 2)]) (st3 := [.int q7, .ref (aT 2)]) (ws2 := (wSeat G aT (aS 0) (upd (vT_29 1) (Int32.toNatClampNeg q5) x3_29) (vT_29 2) (vT_29 3) (vT_29 4 0) (vT_29 5 0) (vT_29 6) (vT_29 7) (vT_29 8) ++ (wSch G aS (vS 0) (vS 1) (vS 2) (vS 3) (vS 4) (vS 5) (vS 6) (vS 7) (vS 8 0) (vS 9 0)))) C 37 rfl (c_X4_sittingNumber x1_2 x2_2 hq7) V_X4_sittingNumber (List.mem_of_getElem? (i := 6) rfl) t_X4_sittingNumber rfl rfl ⟨Nat.le_of_ble_eq_true rfl, Nat.le_of_ble_eq_true rfl⟩ (Nat.le_of_ble_eq_true rfl) ⟨Nat.le_refl _, Nat.le_refl _⟩ (isC := []) (isR := [0, 1, 2, 3, 4, 5, 6, 7, 8, 9, 10, 11, 12, 13, 14, 15]) (N := 16) ⟨rfl, by decide +kernel, rfl, by decide +kernel, rfl, ⟨⟨_, rfl, rfl⟩, ⟨⟨_, rfl, rfl⟩, ⟨⟨_, rfl, rfl⟩, ⟨⟨_, rfl, rfl⟩, ⟨⟨_, rfl, rfl⟩, ⟨⟨_, rfl, rfl⟩, ⟨⟨_, rfl, rfl⟩, ⟨⟨_, rfl, rfl⟩, ⟨⟨_, rfl, rfl⟩, ⟨⟨_, rfl, rfl⟩, ⟨⟨_, rfl, rfl⟩, ⟨⟨_, rfl, rfl⟩, ⟨⟨_, rfl, rfl⟩, ⟨⟨_, rfl, rfl⟩, ⟨⟨_, rfl, rfl⟩, ⟨⟨_, rfl, rfl⟩, trivial⟩⟩⟩⟩⟩⟩⟩⟩⟩⟩⟩⟩⟩⟩⟩⟩⟩ rfl ?_
          refine J_iload (pc := 67) C 38 rfl 1 rfl ?_
          obtain ⟨g8, h⟩ := gd_some h
          refine J_iast (pc := 69) (f := (vT_29 2)) (m := (Int32.toNatClampNeg q7)) C 39 (fun mm vv => (wSeat G aT (aS 0) (upd (vT_29 1) (Int32.toNatClampNeg q5) x3_29) (upd (vT_29 2) mm vv) (vT_29 3) (vT_29 4 0) (vT_29 5 0) (vT_29 6) (vT_29 7) (vT_29 8) ++ (wSch G aS (vS 0) (vS 1) (vS 2) (vS 3) (vS 4) (vS 5) (vS 6) (vS 7) (vS 8 0) (vS 9 0)))) rfl 2 rfl g8 rfl (fun _ _ => rfl) ?_
          refine J_aload_n (pc := 70) C 40 rfl 2 rfl rfl ?_
          refine J_get (pc := 71) (v := .ref (aT 4)) C 41 rfl TB_l3 rfl 0 6 rfl (by decide) k126 rfl rfl ?_
          refine J_iload (pc := 74) C 42 rfl 0 rfl ?_
          refine J_aload_n (pc := 76) C 43 rfl 2 rfl rfl ?_
          refine J_get (pc := 77) (v := .ref (aS 0)) C 44 rfl TB_l3 rfl 0 0 rfl (by decide) k120 rfl rfl ?_
          refine J_iload_n (pc := 80) C 45 rfl 3 rfl rfl ?_
          refine J_iload_n (pc := 81) C 46 rfl 4 rfl rfl ?_
          obtain ⟨q9, hq9, h⟩ := bnd h
          refine J_callV (pc := 82) (st2 := [.int (((16 : Int32) * x3_29) + y0_29), .ref (aT 4)]) (st3 := [.int q9, .int (((16 : Int32) * x3_29) + y0_29), .ref (aT 4)]) (ws2 := (wSeat G aT (aS 0) (upd (vT_29 1) (Int32.toNatClampNeg q5) x3_29) (upd (vT_29 2) (Int32.toNatClampNeg q7) y0_29) (vT_29 3) (vT_29 4 0) (vT_29 5 0) (vT_29 6) (vT_29 7) (vT_29 8) ++ (wSch G aS (vS 0) (vS 1) (vS 2) (vS 3) (vS 4) (vS 5) (vS 6) (vS 7) (vS 8 0) (vS 9 0)))) C 47 rfl (c_X2_endOf aS vS x1_2 x2_2 hq9) V_X2_endOf k140 i_X2_endOf s_X2_endOf rfl rfl ⟨Nat.le_of_ble_eq_true rfl, Nat.le_of_ble_eq_true rfl⟩ (Nat.le_of_ble_eq_true rfl) ⟨Nat.le_refl _, Nat.le_refl _⟩ 7 2 rfl rfl rfl (isC := [7, 8, 9, 10, 11, 12, 13, 14, 15]) (isR := [0, 1, 2, 3, 4, 5, 6]) (N := 16) ⟨rfl, by decide +kernel, rfl, by decide +kernel, rfl, ⟨⟨_, rfl, rfl⟩, ⟨⟨_, rfl, rfl⟩, ⟨⟨_, rfl, rfl⟩, ⟨⟨_, rfl, rfl⟩, ⟨⟨_, rfl, rfl⟩, ⟨⟨_, rfl, rfl⟩, ⟨⟨_, rfl, rfl⟩, trivial⟩⟩⟩⟩⟩⟩⟩⟩ rfl ?_
          obtain ⟨g10, h⟩ := gd_some h
          refine J_iast (pc := 85) (f := (vT_29 6)) (m := (Int32.toNatClampNeg (((16 : Int32) * x3_29) + y0_29))) C 48 (fun mm vv => (wSeat G aT (aS 0) (upd (vT_29 1) (Int32.toNatClampNeg q5) x3_29) (upd (vT_29 2) (Int32.toNatClampNeg q7) y0_29) (vT_29 3) (vT_29 4 0) (vT_29 5 0) (upd (vT_29 6) mm vv) (vT_29 7) (vT_29 8) ++ (wSch G aS (vS 0) (vS 1) (vS 2) (vS 3) (vS 4) (vS 5) (vS 6) (vS 7) (vS 8 0) (vS 9 0)))) rfl 4 rfl g10 rfl (fun _ _ => rfl) ?_
          refine J_aload_n (pc := 86) C 49 rfl 2 rfl rfl ?_
          refine J_get (pc := 87) (v := .ref (aT 5)) C 50 rfl TB_l3 rfl 0 7 rfl (by decide) k127 rfl rfl ?_
          refine J_iload (pc := 90) C 51 rfl 0 rfl ?_
          refine J_dup2 (pc := 92) C 52 rfl rfl rfl ?_
          obtain ⟨g11, h⟩ := gd_some h
          refine J_iald (pc := 93) (f := (vT_29 7)) (v := ((vT_29 7) (Int32.toNatClampNeg (((16 : Int32) * x3_29) + y0_29)))) C 53 rfl 5 rfl g11 rfl ?_
          refine J_iconst (pc := 94) (v := (1 : Int32)) C 54 rfl rfl ?_
          refine J_iload_n (pc := 95) C 55 rfl 4 rfl rfl ?_
          refine J_ishl (pc := 96) C 56 rfl  ?_
          refine J_ior (pc := 97) C 57 rfl  ?_
          obtain ⟨g12, h⟩ := gd_some h
          refine J_iast (pc := 98) (f := (vT_29 7)) (m := (Int32.toNatClampNeg (((16 : Int32) * x3_29) + y0_29))) C 58 (fun mm vv => (wSeat G aT (aS 0) (upd (vT_29 1) (Int32.toNatClampNeg q5) x3_29) (upd (vT_29 2) (Int32.toNatClampNeg q7) y0_29) (vT_29 3) (vT_29 4 0) (vT_29 5 0) (upd (vT_29 6) (Int32.toNatClampNeg (((16 : Int32) * x3_29) + y0_29)) q9) (upd (vT_29 7) mm vv) (vT_29 8) ++ (wSch G aS (vS 0) (vS 1) (vS 2) (vS 3) (vS 4) (vS 5) (vS 6) (vS 7) (vS 8 0) (vS 9 0)))) rfl 5 rfl g12 rfl (fun _ _ => rfl) ?_
          cases h
          exact J_vret (pc := 99) C 59 rfl
      intro vT_2 x3_2 h
      replace h : f_X3_seatAtDesk_b2 vS x1_2 x2_2 (fun vT_2 x3_2 => f_X3_seatAtDesk_L2 vS x1_2 x2_2 n2 vT_2 x3_2) vT_2 x3_2 = some Rz := h
      unfold f_X3_seatAtDesk_b2 at h
      refine J_iload_n (pc := 2) C 2 rfl 3 rfl rfl ?_
      refine J_iconst (pc := 3) (v := (4 : Int32)) C 3 rfl rfl ?_
      refine J_icmp_ge (pc := 4) (tgt := 106) C 4 rfl rfl (fun c1 => ?_) (fun c1 => ?_)
      · rw [if_pos c1] at h
        refine J_aload_n (pc := 106) C 62 rfl 0 rfl rfl ?_
        refine J_dup (pc := 107) C 63 rfl rfl ?_
        refine J_get (pc := 108) (v := .int (vT_2 4 0)) C 64 rfl TB_l3 rfl 0 4 rfl (by decide) k124 rfl rfl ?_
        refine J_iconst (pc := 111) (v := (1 : Int32)) C 65 rfl rfl ?_
        refine J_iadd (pc := 112) C 66 rfl  ?_
        refine J_puti (pc := 113) C 67 (fun vv => (wSeat G aT (aS 0) (vT_2 1) (vT_2 2) (vT_2 3) vv (vT_2 5 0) (vT_2 6) (vT_2 7) (vT_2 8) ++ (wSch G aS (vS 0) (vS 1) (vS 2) (vS 3) (vS 4) (vS 5) (vS 6) (vS 7) (vS 8 0) (vS 9 0)))) rfl TB_l3 tyX3 tyX3_ok nmX3 rfl 0 4 rfl (by decide) k124 rfl rfl rfl (Nat.le_of_ble_eq_true rfl) (fun _ => rfl) ?_
        cases h
        exact J_vret (pc := 116) C 68 rfl
      · rw [if_neg c1] at h
        refine J_aload_n (pc := 7) C 5 rfl 0 rfl rfl ?_
        refine J_get (pc := 8) (v := .ref (aS 0)) C 6 rfl TB_l3 rfl 0 0 rfl (by decide) k120 rfl rfl ?_
        refine J_iload_n (pc := 11) C 7 rfl 3 rfl rfl ?_
        obtain ⟨q2, hq2, h⟩ := bnd h
        refine J_callV (pc := 12) (st2 := []) (st3 := [.int q2]) (ws2 := (wSeat G aT (aS 0) (vT_2 1) (vT_2 2) (vT_2 3) (vT_2 4 0) (vT_2 5 0) (vT_2 6) (vT_2 7) (vT_2 8) ++ (wSch G aS (vS 0) (vS 1) (vS 2) (vS 3) (vS 4) (vS 5) (vS 6) (vS 7) (vS 8 0) (vS 9 0)))) C 8 rfl (c_X2_isOpen aS vS x3_2 hq2) V_X2_isOpen k149 i_X2_isOpen s_X2_isOpen rfl rfl ⟨Nat.le_of_ble_eq_true rfl, Nat.le_of_ble_eq_true rfl⟩ (Nat.le_of_ble_eq_true rfl) ⟨Nat.le_refl _, Nat.le_refl _⟩ 7 2 rfl rfl rfl (isC := [7, 8, 9, 10, 11, 12, 13, 14, 15]) (isR := [0, 1, 2, 3, 4, 5, 6]) (N := 16) ⟨rfl, by decide +kernel, rfl, by decide +kernel, rfl, ⟨⟨_, rfl, rfl⟩, ⟨⟨_, rfl, rfl⟩, ⟨⟨_, rfl, rfl⟩, ⟨⟨_, rfl, rfl⟩, ⟨⟨_, rfl, rfl⟩, ⟨⟨_, rfl, rfl⟩, ⟨⟨_, rfl, rfl⟩, trivial⟩⟩⟩⟩⟩⟩⟩⟩ rfl ?_
        refine J_if_eq (pc := 15) (tgt := 27) C 9 rfl rfl (fun c3 => ?_) (fun c3 => ?_)
        · rw [if_pos c3] at h
          refine J_bipush (pc := 27) (v := (-6 : Int32)) C 15 rfl rfl ?_
          exact J_sub [0, 1, 2, 3] rfl (B29 vT_2 x3_2 (-6 : Int32) h)
        · rw [if_neg c3] at h
          refine J_aload_n (pc := 18) C 10 rfl 0 rfl rfl ?_
          refine J_iload_n (pc := 19) C 11 rfl 3 rfl rfl ?_
          refine J_iload_n (pc := 20) C 12 rfl 2 rfl rfl ?_
          obtain ⟨q13, hq13, h⟩ := bnd h
          refine J_callV (pc := 21) (st2 := []) (st3 := [.int q13]) (ws2 := (wSeat G aT (aS 0) (vT_2 1) (vT_2 2) (vT_2 3) (vT_2 4 0) (vT_2 5 0) (vT_2 6) (vT_2 7) (vT_2 8) ++ (wSch G aS (vS 0) (vS 1) (vS 2) (vS 3) (vS 4) (vS 5) (vS 6) (vS 7) (vS 8 0) (vS 9 0)))) C 13 rfl (c_X3_firstDesk aT aS vT_2 vS x3_2 x2_2 hq13) V_X3_firstDesk k150 i_X3_firstDesk s_X3_firstDesk rfl rfl ⟨Nat.le_of_ble_eq_true rfl, Nat.le_of_ble_eq_true rfl⟩ (Nat.le_of_ble_eq_true rfl) ⟨Nat.le_refl _, Nat.le_refl _⟩ 0 3 rfl rfl rfl (isC := [0, 1, 2, 3, 4, 5, 6, 7, 8, 9, 10, 11, 12, 13, 14, 15]) (isR := []) (N := 16) ⟨rfl, by decide +kernel, rfl, by decide +kernel, rfl, trivial⟩ rfl ?_
          refine J_goto (pc := 24) (tgt := 29) C 14 rfl rfl ?_
          exact J_sub [0, 1, 2, 3] rfl (B29 vT_2 x3_2 q13 h)
  unfold f_X3_seatAtDesk at h
  refine J_iconst (pc := 0) (v := (0 : Int32)) C 0 rfl rfl ?_
  refine J_istore_n (pc := 1) (lv' := [(3, .int (0 : Int32)), (0, .ref (aT 0)), (1, .int x1), (2, .int x2)]) C 1 rfl rfl (by decide) rfl ?_
  exact J_sub [1, 2, 3, 0] rfl (B2 x1 x2 FU vT (0 : Int32) h)
def T_X3_seatPupils : List (Nat × ClassFile.Instr × Nat) := [(0, .iconst 0, 1), (1, .istore_n 2, 1), (2, .iload_n 2, 1), (3, .aload_n 0, 1), (4, .getfield 12, 3), (7, .getfield 54, 3), (10, .if_icmp .ge 48, 3), (13, .aload_n 0, 1), (14, .getfield 12, 3), (17, .iload_n 2, 1), (18, .iload_n 1, 1), (19, .invokevirtual 57, 3), (22, .ifCond .eq 30, 3), (25, .aload_n 0, 1), (26, .getfield 12, 3), (29, .getfield 61, 3), (32, .iload_n 2, 1), (33, .baload, 1), (34, .ifCond .eq 12, 3), (37, .aload_n 0, 1), (38, .iload_n 2, 1), (39, .iload_n 1, 1), (40, .invokevirtual 65, 3), (43, .goto 9, 3), (46, .aload_n 0, 1), (47, .iload_n 2, 1), (48, .iload_n 1, 1), (49, .invokevirtual 69, 3), (52, .iinc 2 1, 3), (55, .goto (-53), 3), (58, .return_, 1)]
theorem D_X3_seatPupils : ∀ q ∈ T_X3_seatPupils, decode cX3_seatPupils q.1 = .ok q.2 := by decide +kernel
theorem V_X3_seatPupils : Vy yX3_seatPupils cX3_seatPupils 3 none 1 := ⟨k163, k138, by decide +kernel⟩
theorem i_X3_seatPupils : Cond.instanceMethod yX3_seatPupils ∈ TB := k169
theorem s_X3_seatPupils : Cond.selects yX3_seatPupils.cls yX3_seatPupils yX3_seatPupils ∈ TB := k170
noncomputable def f_X3_seatPupils_b2 (vS : JV) (x1_2 : Int32) (r2 : JV → Int32 → Option (JV)) (vT_2 : JV) (x2_2 : Int32) : Option (JV) :=
  (if (vS 8 0) ≤ x2_2 then some vT_2 else (f_X2_sits vS x2_2 x1_2).bind (fun q2 => (if q2 = 0 then r2 vT_2 (x2_2 + (1 : Int32)) else gd (inb x2_2 16) ((if ((vS 5) (Int32.toNatClampNeg x2_2)) = 0 then (f_X3_seatAtDesk vT_2 vS x2_2 x1_2).bind (fun q6 => r2 q6 (x2_2 + (1 : Int32))) else (f_X3_seatInRoom vT_2 vS x2_2 x1_2).bind (fun q7 => r2 q7 (x2_2 + (1 : Int32))))))))
noncomputable def f_X3_seatPupils_L2 (vS : JV) (x1_2 : Int32) (n : Nat) (vT_2 : JV) (x2_2 : Int32) : Option (JV) :=
  lp (fun (rec : JV × Int32 → Option (JV)) a => f_X3_seatPupils_b2 vS x1_2 (fun vT_2 x2_2 => rec (vT_2, x2_2)) a.1 a.2) n (vT_2, x2_2)
noncomputable def f_X3_seatPupils (vT : JV) (vS : JV) (x1 : Int32) : Option (JV) :=
  f_X3_seatPupils_L2 vS x1 FU vT (0 : Int32)
set_option maxRecDepth 100000 in
set_option maxHeartbeats 4000000 in
theorem c_X3_seatPupils {l : Launch} {G : JG} (aT : Nat → Nat) (aS : Nat → Nat) (vT : JV) (vS : JV) (x1 : Int32) {Rz : JV} (h : f_X3_seatPupils vT vS x1 = some Rz) : JM l G yX3_seatPupils cX3_seatPupils 3 none 4 97 [.ref (aT 0), .int x1] (wSeat G aT (aS 0) (vT 1) (vT 2) (vT 3) (vT 4 0) (vT 5 0) (vT 6) (vT 7) (vT 8) ++ (wSch G aS (vS 0) (vS 1) (vS 2) (vS 3) (vS 4) (vS 5) (vS 6) (vS 7) (vS 8 0) (vS 9 0))) (wSeat G aT (aS 0) (Rz 1) (Rz 2) (Rz 3) (Rz 4 0) (Rz 5 0) (Rz 6) (Rz 7) (Rz 8) ++ (wSch G aS (vS 0) (vS 1) (vS 2) (vS 3) (vS 4) (vS 5) (vS 6) (vS 7) (vS 8 0) (vS 9 0))) none := by
  refine JM.of (own := RX3) (tb := T_X3_seatPupils) (by decide) (Nat.le_of_ble_eq_true rfl) D_X3_seatPupils rfl (fun X C => ?_)
  refine J_sub (lv' := [(0, .ref (aT 0)), (1, .int x1)]) [0, 1] rfl ?_
  have B2 : ∀ (x1_2 : Int32) (n2 : Nat) (vT_2 : JV) (x2_2 : Int32), f_X3_seatPupils_L2 vS x1_2 n2 vT_2 x2_2 = some Rz → J l { frames := 4, cells := 0, slots := 0, locals := 97 } G 3 X (QM X G 0 0 none (wSeat G aT (aS 0) (Rz 1) (Rz 2) (Rz 3) (Rz 4 0) (Rz 5 0) (Rz 6) (Rz 7) (Rz 8) ++ (wSch G aS (vS 0) (vS 1) (vS 2) (vS 3) (vS 4) (vS 5) (vS 6) (vS 7) (vS 8 0) (vS 9 0)))) 0 0 2 [(0, .ref (aT 0)), (1, .int x1_2), (2, .int x2_2)] [] (wSeat G aT (aS 0) (vT_2 1) (vT_2 2) (vT_2 3) (vT_2 4 0) (vT_2 5 0) (vT_2 6) (vT_2 7) (vT_2 8) ++ (wSch G aS (vS 0) (vS 1) (vS 2) (vS 3) (vS 4) (vS 5) (vS 6) (vS 7) (vS 8 0) (vS 9 0))) := by
    intro x1_2 n2
    induction n2 with
    | zero =>
      intro vT_2 x2_2 h
      exact (no_none rfl h).elim
    | succ n2 ih2 =>
      intro vT_2 x2_2 h
      replace h : f_X3_seatPupils_b2 vS x1_2 (fun vT_2 x2_2 => f_X3_seatPupils_L2 vS x1_2 n2 vT_2 x2_2) vT_2 x2_2 = some Rz := h
      unfold f_X3_seatPupils_b2 at h
      refine J_iload_n (pc := 2) C 2 rfl 2 rfl rfl ?_
      refine J_aload_n (pc := 3) C 3 rfl 0 rfl rfl ?_
      refine J_get (pc := 4) (v := .ref (aS 0)) C 4 rfl TB_l3 rfl 0 0 rfl (by decide) k120 rfl rfl ?_
      refine J_get (pc := 7) (v := .int (vS 8 0)) C 5 rfl TB_l2 rfl 7 8 rfl (by decide) k154 rfl rfl ?_
      refine J_icmp_ge (pc := 10) (tgt := 58) C 6 rfl rfl (fun c1 => ?_) (fun c1 => ?_)
      · rw [if_pos c1] at h
        cases h
        exact J_vret (pc := 58) C 30 rfl
      · rw [if_neg c1] at h
        refine J_aload_n (pc := 13) C 7 rfl 0 rfl rfl ?_
        refine J_get (pc := 14) (v := .ref (aS 0)) C 8 rfl TB_l3 rfl 0 0 rfl (by decide) k120 rfl rfl ?_
        refine J_iload_n (pc := 17) C 9 rfl 2 rfl rfl ?_
        refine J_iload_n (pc := 18) C 10 rfl 1 rfl rfl ?_
        obtain ⟨q2, hq2, h⟩ := bnd h
        refine J_callV (pc := 19) (st2 := []) (st3 := [.int q2]) (ws2 := (wSeat G aT (aS 0) (vT_2 1) (vT_2 2) (vT_2 3) (vT_2 4 0) (vT_2 5 0) (vT_2 6) (vT_2 7) (vT_2 8) ++ (wSch G aS (vS 0) (vS 1) (vS 2) (vS 3) (vS 4) (vS 5) (vS 6) (vS 7) (vS 8 0) (vS 9 0)))) C 11 rfl (c_X2_sits aS vS x2_2 x1_2 hq2) V_X2_sits k156 i_X2_sits s_X2_sits rfl rfl ⟨Nat.le_of_ble_eq_true rfl, Nat.le_of_ble_eq_true rfl⟩ (Nat.le_of_ble_eq_true rfl) ⟨Nat.le_refl _, Nat.le_refl _⟩ 7 2 rfl rfl rfl (isC := [7, 8, 9, 10, 11, 12, 13, 14, 15]) (isR := [0, 1, 2, 3, 4, 5, 6]) (N := 16) ⟨rfl, by decide +kernel, rfl, by decide +kernel, rfl, ⟨⟨_, rfl, rfl⟩, ⟨⟨_, rfl, rfl⟩, ⟨⟨_, rfl, rfl⟩, ⟨⟨_, rfl, rfl⟩, ⟨⟨_, rfl, rfl⟩, ⟨⟨_, rfl, rfl⟩, ⟨⟨_, rfl, rfl⟩, trivial⟩⟩⟩⟩⟩⟩⟩⟩ rfl ?_
        refine J_if_eq (pc := 22) (tgt := 52) C 12 rfl rfl (fun c3 => ?_) (fun c3 => ?_)
        · rw [if_pos c3] at h
          refine J_iinc (pc := 52) (v := (x2_2 + (1 : Int32))) (lv' := [(2, .int (x2_2 + (1 : Int32))), (0, .ref (aT 0)), (1, .int x1_2)]) C 28 rfl 2 rfl rfl (by decide) rfl ?_
          refine J_goto (pc := 55) (tgt := 2) C 29 rfl rfl ?_
          exact J_sub [1, 2, 0] rfl (ih2 vT_2 (x2_2 + (1 : Int32)) h)
        · rw [if_neg c3] at h
          refine J_aload_n (pc := 25) C 13 rfl 0 rfl rfl ?_
          refine J_get (pc := 26) (v := .ref (aS 0)) C 14 rfl TB_l3 rfl 0 0 rfl (by decide) k120 rfl rfl ?_
          refine J_get (pc := 29) (v := .ref (aS 6)) C 15 rfl TB_l2 rfl 7 5 rfl (by decide) k155 rfl rfl ?_
          refine J_iload_n (pc := 32) C 16 rfl 2 rfl rfl ?_
          obtain ⟨g4, h⟩ := gd_some h
          refine J_zald (pc := 33) (f := (vS 5)) (v := ((vS 5) (Int32.toNatClampNeg x2_2))) C 17 rfl 13 rfl g4 rfl ?_
          refine J_if_eq (pc := 34) (tgt := 46) C 18 rfl rfl (fun c5 => ?_) (fun c5 => ?_)
          · rw [if_pos c5] at h
            refine J_aload_n (pc := 46) C 24 rfl 0 rfl rfl ?_
            refine J_iload_n (pc := 47) C 25 rfl 2 rfl rfl ?_
            refine J_iload_n (pc := 48) C 26 rfl 1 rfl rfl ?_
            obtain ⟨q6, hq6, h⟩ := bnd h
            refine J_callV (pc := 49) (st2 := []) (st3 := []) (ws2 := (wSeat G aT (aS 0) (q6 1) (q6 2) (q6 3) (q6 4 0) (q6 5 0) (q6 6) (q6 7) (q6 8) ++ (wSch G aS (vS 0) (vS 1) (vS 2) (vS 3) (vS 4) (vS 5) (vS 6) (vS 7) (vS 8 0) (vS 9 0)))) C 27 rfl (c_X3_seatAtDesk aT aS vT_2 vS x2_2 x1_2 hq6) V_X3_seatAtDesk k160 i_X3_seatAtDesk s_X3_seatAtDesk rfl rfl ⟨Nat.le_of_ble_eq_true rfl, Nat.le_of_ble_eq_true rfl⟩ (Nat.le_of_ble_eq_true rfl) ⟨Nat.le_refl _, Nat.le_refl _⟩ 0 3 rfl rfl rfl (isC := [0, 1, 2, 3, 4, 5, 6, 7, 8, 9, 10, 11, 12, 13, 14, 15]) (isR := []) (N := 16) ⟨rfl, by decide +kernel, rfl, by decide +kernel, rfl, trivial⟩ rfl ?_
            refine J_iinc (pc := 52) (v := (x2_2 + (1 : Int32))) (lv' := [(2, .int (x2_2 + (1 : Int32))), (0, .ref (aT 0)), (1, .int x1_2)]) C 28 rfl 2 rfl rfl (by decide) rfl ?_
            refine J_goto (pc := 55) (tgt := 2) C 29 rfl rfl ?_
            exact J_sub [1, 2, 0] rfl (ih2 q6 (x2_2 + (1 : Int32)) h)
          · rw [if_neg c5] at h
            refine J_aload_n (pc := 37) C 19 rfl 0 rfl rfl ?_
            refine J_iload_n (pc := 38) C 20 rfl 2 rfl rfl ?_
            refine J_iload_n (pc := 39) C 21 rfl 1 rfl rfl ?_
            obtain ⟨q7, hq7, h⟩ := bnd h
            refine J_callV (pc := 40) (st2 := []) (st3 := []) (ws2 := (wSeat G aT (aS 0) (q7 1) (q7 2) (q7 3) (q7 4 0) (q7 5 0) (q7 6) (q7 7) (q7 8) ++ (wSch G aS (vS 0) (vS 1) (vS 2) (vS 3) (vS 4) (vS 5) (vS 6) (vS 7) (vS 8 0) (vS 9 0)))) C 22 rfl (c_X3_seatInRoom aT aS vT_2 vS x2_2 x1_2 hq7) V_X3_seatInRoom k157 i_X3_seatInRoom s_X3_seatInRoom rfl rfl ⟨Nat.le_of_ble_eq_true rfl, Nat.le_of_ble_eq_true rfl⟩ (Nat.le_of_ble_eq_true rfl) ⟨Nat.le_refl _, Nat.le_refl _⟩ 0 3 rfl rfl rfl (isC := [0, 1, 2, 3, 4, 5, 6, 7, 8, 9, 10, 11, 12, 13, 14, 15]) (isR := []) (N := 16) ⟨rfl, by decide +kernel, rfl, by decide +kernel, rfl, trivial⟩ rfl ?_
            refine J_goto (pc := 43) (tgt := 52) C 23 rfl rfl ?_
            refine J_iinc (pc := 52) (v := (x2_2 + (1 : Int32))) (lv' := [(2, .int (x2_2 + (1 : Int32))), (0, .ref (aT 0)), (1, .int x1_2)]) C 28 rfl 2 rfl rfl (by decide) rfl ?_
            refine J_goto (pc := 55) (tgt := 2) C 29 rfl rfl ?_
            exact J_sub [1, 2, 0] rfl (ih2 q7 (x2_2 + (1 : Int32)) h)
  unfold f_X3_seatPupils at h
  refine J_iconst (pc := 0) (v := (0 : Int32)) C 0 rfl rfl ?_
  refine J_istore_n (pc := 1) (lv' := [(2, .int (0 : Int32)), (0, .ref (aT 0)), (1, .int x1)]) C 1 rfl rfl (by decide) rfl ?_
  exact J_sub [1, 2, 0] rfl (B2 x1 FU vT (0 : Int32) h)
def T_X3_seatAll : List (Nat × ClassFile.Instr × Nat) := [(0, .aload_n 0, 1), (1, .invokevirtual 44, 3), (4, .iconst 0, 1), (5, .istore_n 1, 1), (6, .iload_n 1, 1), (7, .bipush 20, 2), (9, .if_icmp .ge 41, 3), (12, .iconst 0, 1), (13, .istore_n 2, 1), (14, .iload_n 2, 1), (15, .bipush 6, 2), (17, .if_icmp .ge 27, 3), (20, .aload_n 0, 1), (21, .getfield 12, 3), (24, .getfield 47, 3), (27, .iload_n 2, 1), (28, .iaload, 1), (29, .iload_n 1, 1), (30, .if_icmp .ne 8, 3), (33, .aload_n 0, 1), (34, .iload_n 2, 1), (35, .invokevirtual 50, 3), (38, .iinc 2 1, 3), (41, .goto (-27), 3), (44, .iinc 1 1, 3), (47, .goto (-41), 3), (50, .return_, 1)]
theorem D_X3_seatAll : ∀ q ∈ T_X3_seatAll, decode cX3_seatAll q.1 = .ok q.2 := by decide +kernel
theorem V_X3_seatAll : Vy yX3_seatAll cX3_seatAll 3 none 0 := ⟨k171, k138, by decide +kernel⟩
theorem i_X3_seatAll : Cond.instanceMethod yX3_seatAll ∈ TB := k215
theorem s_X3_seatAll : Cond.selects yX3_seatAll.cls yX3_seatAll yX3_seatAll ∈ TB := k216
noncomputable def f_X3_seatAll_b14 (vS : JV) (r6 : JV → Int32 → Option (JV)) (x1_14 : Int32) (r14 : JV → Int32 → Option (JV)) (vT_14 : JV) (x2_14 : Int32) : Option (JV) :=
  (if (6 : Int32) ≤ x2_14 then r6 vT_14 (x1_14 + (1 : Int32)) else gd (inb x2_14 6) ((if ((vS 1) (Int32.toNatClampNeg x2_14)) = x1_14 then (f_X3_seatPupils vT_14 vS x2_14).bind (fun q6 => r14 q6 (x2_14 + (1 : Int32))) else r14 vT_14 (x2_14 + (1 : Int32)))))
noncomputable def f_X3_seatAll_L14 (vS : JV) (r6 : JV → Int32 → Option (JV)) (x1_14 : Int32) (n : Nat) (vT_14 : JV) (x2_14 : Int32) : Option (JV) :=
  lp (fun (rec : JV × Int32 → Option (JV)) a => f_X3_seatAll_b14 vS r6 x1_14 (fun vT_14 x2_14 => rec (vT_14, x2_14)) a.1 a.2) n (vT_14, x2_14)
noncomputable def f_X3_seatAll_b6 (vS : JV) (r6 : JV → Int32 → Option (JV)) (vT_6 : JV) (x1_6 : Int32) : Option (JV) :=
  (if (20 : Int32) ≤ x1_6 then some vT_6 else f_X3_seatAll_L14 vS r6 x1_6 FU vT_6 (0 : Int32))
noncomputable def f_X3_seatAll_L6 (vS : JV) (n : Nat) (vT_6 : JV) (x1_6 : Int32) : Option (JV) :=
  lp (fun (rec : JV × Int32 → Option (JV)) a => f_X3_seatAll_b6 vS (fun vT_6 x1_6 => rec (vT_6, x1_6)) a.1 a.2) n (vT_6, x1_6)
noncomputable def f_X3_seatAll (vT : JV) (vS : JV)  : Option (JV) :=
  (f_X3_clear vT).bind (fun q1 => f_X3_seatAll_L6 vS  FU q1 (0 : Int32))
set_option maxRecDepth 100000 in
set_option maxHeartbeats 4000000 in
theorem c_X3_seatAll {l : Launch} {G : JG} (aT : Nat → Nat) (aS : Nat → Nat) (vT : JV) (vS : JV)  {Rz : JV} (h : f_X3_seatAll vT vS = some Rz) : JM l G yX3_seatAll cX3_seatAll 3 none 5 119 [.ref (aT 0)] (wSeat G aT (aS 0) (vT 1) (vT 2) (vT 3) (vT 4 0) (vT 5 0) (vT 6) (vT 7) (vT 8) ++ (wSch G aS (vS 0) (vS 1) (vS 2) (vS 3) (vS 4) (vS 5) (vS 6) (vS 7) (vS 8 0) (vS 9 0))) (wSeat G aT (aS 0) (Rz 1) (Rz 2) (Rz 3) (Rz 4 0) (Rz 5 0) (Rz 6) (Rz 7) (Rz 8) ++ (wSch G aS (vS 0) (vS 1) (vS 2) (vS 3) (vS 4) (vS 5) (vS 6) (vS 7) (vS 8 0) (vS 9 0))) none := by
  refine JM.of (own := RX3) (tb := T_X3_seatAll) (by decide) (Nat.le_of_ble_eq_true rfl) D_X3_seatAll rfl (fun X C => ?_)
  refine J_sub (lv' := [(0, .ref (aT 0))]) [0] rfl ?_
  have B6 : ∀ (n6 : Nat) (vT_6 : JV) (x1_6 : Int32), f_X3_seatAll_L6 vS n6 vT_6 x1_6 = some Rz → J l { frames := 5, cells := 0, slots := 0, locals := 119 } G 3 X (QM X G 0 0 none (wSeat G aT (aS 0) (Rz 1) (Rz 2) (Rz 3) (Rz 4 0) (Rz 5 0) (Rz 6) (Rz 7) (Rz 8) ++ (wSch G aS (vS 0) (vS 1) (vS 2) (vS 3) (vS 4) (vS 5) (vS 6) (vS 7) (vS 8 0) (vS 9 0)))) 0 0 6 [(0, .ref (aT 0)), (1, .int x1_6)] [] (wSeat G aT (aS 0) (vT_6 1) (vT_6 2) (vT_6 3) (vT_6 4 0) (vT_6 5 0) (vT_6 6) (vT_6 7) (vT_6 8) ++ (wSch G aS (vS 0) (vS 1) (vS 2) (vS 3) (vS 4) (vS 5) (vS 6) (vS 7) (vS 8 0) (vS 9 0))) := by
    intro  n6
    induction n6 with
    | zero =>
      intro vT_6 x1_6 h
      exact (no_none rfl h).elim
    | succ n6 ih6 =>
      have B14 : ∀ (x1_14 : Int32) (n14 : Nat) (vT_14 : JV) (x2_14 : Int32), f_X3_seatAll_L14 vS (fun vT_6 x1_6 => f_X3_seatAll_L6 vS n6 vT_6 x1_6) x1_14 n14 vT_14 x2_14 = some Rz → J l { frames := 5, cells := 0, slots := 0, locals := 119 } G 3 X (QM X G 0 0 none (wSeat G aT (aS 0) (Rz 1) (Rz 2) (Rz 3) (Rz 4 0) (Rz 5 0) (Rz 6) (Rz 7) (Rz 8) ++ (wSch G aS (vS 0) (vS 1) (vS 2) (vS 3) (vS 4) (vS 5) (vS 6) (vS 7) (vS 8 0) (vS 9 0)))) 0 0 14 [(0, .ref (aT 0)), (1, .int x1_14), (2, .int x2_14)] [] (wSeat G aT (aS 0) (vT_14 1) (vT_14 2) (vT_14 3) (vT_14 4 0) (vT_14 5 0) (vT_14 6) (vT_14 7) (vT_14 8) ++ (wSch G aS (vS 0) (vS 1) (vS 2) (vS 3) (vS 4) (vS 5) (vS 6) (vS 7) (vS 8 0) (vS 9 0))) := by
        intro x1_14 n14
        induction n14 with
        | zero =>
          intro vT_14 x2_14 h
          exact (no_none rfl h).elim
        | succ n14 ih14 =>
          intro vT_14 x2_14 h
          replace h : f_X3_seatAll_b14 vS (fun vT_6 x1_6 => f_X3_seatAll_L6 vS n6 vT_6 x1_6) x1_14 (fun vT_14 x2_14 => f_X3_seatAll_L14 vS (fun vT_6 x1_6 => f_X3_seatAll_L6 vS n6 vT_6 x1_6) x1_14 n14 vT_14 x2_14) vT_14 x2_14 = some Rz := h
          unfold f_X3_seatAll_b14 at h
          refine J_iload_n (pc := 14) C 9 rfl 2 rfl rfl ?_
          refine J_bipush (pc := 15) (v := (6 : Int32)) C 10 rfl rfl ?_
          refine J_icmp_ge (pc := 17) (tgt := 44) C 11 rfl rfl (fun c3 => ?_) (fun c3 => ?_)
          · rw [if_pos c3] at h
            refine J_iinc (pc := 44) (v := (x1_14 + (1 : Int32))) (lv' := [(1, .int (x1_14 + (1 : Int32))), (0, .ref (aT 0)), (2, .int x2_14)]) C 24 rfl 1 rfl rfl (by decide) rfl ?_
            refine J_goto (pc := 47) (tgt := 6) C 25 rfl rfl ?_
            exact J_sub [1, 0] rfl (ih6 vT_14 (x1_14 + (1 : Int32)) h)
          · rw [if_neg c3] at h
            refine J_aload_n (pc := 20) C 12 rfl 0 rfl rfl ?_
            refine J_get (pc := 21) (v := .ref (aS 0)) C 13 rfl TB_l3 rfl 0 0 rfl (by decide) k120 rfl rfl ?_
            refine J_get (pc := 24) (v := .ref (aS 2)) C 14 rfl TB_l2 rfl 7 1 rfl (by decide) k164 rfl rfl ?_
            refine J_iload_n (pc := 27) C 15 rfl 2 rfl rfl ?_
            obtain ⟨g4, h⟩ := gd_some h
            refine J_iald (pc := 28) (f := (vS 1)) (v := ((vS 1) (Int32.toNatClampNeg x2_14))) C 16 rfl 9 rfl g4 rfl ?_
            refine J_iload_n (pc := 29) C 17 rfl 1 rfl rfl ?_
            refine J_icmp_ne (pc := 30) (tgt := 38) C 18 rfl rfl (fun c5 => ?_) (fun c5 => ?_)
            · rw [if_neg c5] at h
              refine J_iinc (pc := 38) (v := (x2_14 + (1 : Int32))) (lv' := [(2, .int (x2_14 + (1 : Int32))), (0, .ref (aT 0)), (1, .int x1_14)]) C 22 rfl 2 rfl rfl (by decide) rfl ?_
              refine J_goto (pc := 41) (tgt := 14) C 23 rfl rfl ?_
              exact J_sub [1, 2, 0] rfl (ih14 vT_14 (x2_14 + (1 : Int32)) h)
            · rw [if_pos c5] at h
              refine J_aload_n (pc := 33) C 19 rfl 0 rfl rfl ?_
              refine J_iload_n (pc := 34) C 20 rfl 2 rfl rfl ?_
              obtain ⟨q6, hq6, h⟩ := bnd h
              refine J_callV (pc := 35) (st2 := []) (st3 := []) (ws2 := (wSeat G aT (aS 0) (q6 1) (q6 2) (q6 3) (q6 4 0) (q6 5 0) (q6 6) (q6 7) (q6 8) ++ (wSch G aS (vS 0) (vS 1) (vS 2) (vS 3) (vS 4) (vS 5) (vS 6) (vS 7) (vS 8 0) (vS 9 0)))) C 21 rfl (c_X3_seatPupils aT aS vT_14 vS x2_14 hq6) V_X3_seatPupils k168 i_X3_seatPupils s_X3_seatPupils rfl rfl ⟨Nat.le_of_ble_eq_true rfl, Nat.le_of_ble_eq_true rfl⟩ (Nat.le_of_ble_eq_true rfl) ⟨Nat.le_refl _, Nat.le_refl _⟩ 0 3 rfl rfl rfl (isC := [0, 1, 2, 3, 4, 5, 6, 7, 8, 9, 10, 11, 12, 13, 14, 15]) (isR := []) (N := 16) ⟨rfl, by decide +kernel, rfl, by decide +kernel, rfl, trivial⟩ rfl ?_
              refine J_iinc (pc := 38) (v := (x2_14 + (1 : Int32))) (lv' := [(2, .int (x2_14 + (1 : Int32))), (0, .ref (aT 0)), (1, .int x1_14)]) C 22 rfl 2 rfl rfl (by decide) rfl ?_
              refine J_goto (pc := 41) (tgt := 14) C 23 rfl rfl ?_
              exact J_sub [1, 2, 0] rfl (ih14 q6 (x2_14 + (1 : Int32)) h)
      intro vT_6 x1_6 h
      replace h : f_X3_seatAll_b6 vS (fun vT_6 x1_6 => f_X3_seatAll_L6 vS n6 vT_6 x1_6) vT_6 x1_6 = some Rz := h
      unfold f_X3_seatAll_b6 at h
      refine J_iload_n (pc := 6) C 4 rfl 1 rfl rfl ?_
      refine J_bipush (pc := 7) (v := (20 : Int32)) C 5 rfl rfl ?_
      refine J_icmp_ge (pc := 9) (tgt := 50) C 6 rfl rfl (fun c2 => ?_) (fun c2 => ?_)
      · rw [if_pos c2] at h
        cases h
        exact J_vret (pc := 50) C 26 rfl
      · rw [if_neg c2] at h
        refine J_iconst (pc := 12) (v := (0 : Int32)) C 7 rfl rfl ?_
        refine J_istore_n (pc := 13) (lv' := [(2, .int (0 : Int32)), (0, .ref (aT 0)), (1, .int x1_6)]) C 8 rfl rfl (by decide) rfl ?_
        exact J_sub [1, 2, 0] rfl (B14 x1_6 FU vT_6 (0 : Int32) h)
  unfold f_X3_seatAll at h
  refine J_aload_n (pc := 0) C 0 rfl 0 rfl rfl ?_
  obtain ⟨q1, hq1, h⟩ := bnd h
  refine J_callV (pc := 1) (st2 := []) (st3 := []) (ws2 := (wSeat G aT (aS 0) (q1 1) (q1 2) (q1 3) (q1 4 0) (q1 5 0) (q1 6) (q1 7) (q1 8) ++ (wSch G aS (vS 0) (vS 1) (vS 2) (vS 3) (vS 4) (vS 5) (vS 6) (vS 7) (vS 8 0) (vS 9 0)))) C 1 rfl (c_X3_clear aT aS vT hq1) V_X3_clear k165 i_X3_clear s_X3_clear rfl rfl ⟨Nat.le_of_ble_eq_true rfl, Nat.le_of_ble_eq_true rfl⟩ (Nat.le_of_ble_eq_true rfl) ⟨Nat.le_refl _, Nat.le_refl _⟩ 0 3 rfl rfl rfl (isC := [0, 1, 2, 3, 4, 5, 6]) (isR := [7, 8, 9, 10, 11, 12, 13, 14, 15]) (N := 16) ⟨rfl, by decide +kernel, rfl, by decide +kernel, rfl, ⟨⟨_, rfl, rfl⟩, ⟨⟨_, rfl, rfl⟩, ⟨⟨_, rfl, rfl⟩, ⟨⟨_, rfl, rfl⟩, ⟨⟨_, rfl, rfl⟩, ⟨⟨_, rfl, rfl⟩, ⟨⟨_, rfl, rfl⟩, ⟨⟨_, rfl, rfl⟩, ⟨⟨_, rfl, rfl⟩, trivial⟩⟩⟩⟩⟩⟩⟩⟩⟩⟩ rfl ?_
  refine J_iconst (pc := 4) (v := (0 : Int32)) C 2 rfl rfl ?_
  refine J_istore_n (pc := 5) (lv' := [(1, .int (0 : Int32)), (0, .ref (aT 0))]) C 3 rfl rfl (by decide) rfl ?_
  exact J_sub [1, 0] rfl (B6  FU q1 (0 : Int32) h)
def T_X3_isUnplaced : List (Nat × ClassFile.Instr × Nat) := [(0, .iload_n 1, 1), (1, .iload_n 2, 1), (2, .invokestatic 78, 3), (5, .istore_n 3, 1), (6, .aload_n 0, 1), (7, .getfield 12, 3), (10, .iload_n 1, 1), (11, .iload_n 2, 1), (12, .invokevirtual 57, 3), (15, .ifCond .eq 29, 3), (18, .aload_n 0, 1), (19, .getfield 18, 3), (22, .iload_n 3, 1), (23, .iaload, 1), (24, .bipush (-6), 2), (26, .if_icmp .ne 18, 3), (29, .aload_n 0, 1), (30, .getfield 25, 3), (33, .iload_n 3, 1), (34, .iaload, 1), (35, .bipush (-6), 2), (37, .if_icmp .ne 7, 3), (40, .iconst 1, 1), (41, .goto 4, 3), (44, .iconst 0, 1), (45, .ireturn, 1)]
theorem D_X3_isUnplaced : ∀ q ∈ T_X3_isUnplaced, decode cX3_isUnplaced q.1 = .ok q.2 := by decide +kernel
theorem V_X3_isUnplaced : Vy yX3_isUnplaced cX3_isUnplaced 4 (some .boolean) 2 := ⟨k172, k138, by decide +kernel⟩
theorem i_X3_isUnplaced : Cond.instanceMethod yX3_isUnplaced ∈ TB := k175
theorem s_X3_isUnplaced : Cond.selects yX3_isUnplaced.cls yX3_isUnplaced yX3_isUnplaced ∈ TB := k176
noncomputable def f_X3_isUnplaced (vT : JV) (vS : JV) (x1 : Int32) (x2 : Int32) : Option (Int32) :=
  (f_X4_sittingNumber x1 x2).bind (fun q1 => (f_X2_sits vS x1 x2).bind (fun q2 => (if q2 = 0 then some (0 : Int32) else gd (inb q1 96) ((if ((vT 1) (Int32.toNatClampNeg q1)) = (-6 : Int32) then gd (inb q1 96) ((if ((vT 3) (Int32.toNatClampNeg q1)) = (-6 : Int32) then some (1 : Int32) else some (0 : Int32))) else some (0 : Int32))))))
set_option maxRecDepth 100000 in
set_option maxHeartbeats 4000000 in
theorem c_X3_isUnplaced {l : Launch} {G : JG} (aT : Nat → Nat) (aS : Nat → Nat) (vT : JV) (vS : JV) (x1 : Int32) (x2 : Int32) {Rz : Int32} (h : f_X3_isUnplaced vT vS x1 x2 = some Rz) : JM l G yX3_isUnplaced cX3_isUnplaced 4 (some .boolean) 2 43 [.ref (aT 0), .int x1, .int x2] (wSeat G aT (aS 0) (vT 1) (vT 2) (vT 3) (vT 4 0) (vT 5 0) (vT 6) (vT 7) (vT 8) ++ (wSch G aS (vS 0) (vS 1) (vS 2) (vS 3) (vS 4) (vS 5) (vS 6) (vS 7) (vS 8 0) (vS 9 0))) (wSeat G aT (aS 0) (vT 1) (vT 2) (vT 3) (vT 4 0) (vT 5 0) (vT 6) (vT 7) (vT 8) ++ (wSch G aS (vS 0) (vS 1) (vS 2) (vS 3) (vS 4) (vS 5) (vS 6) (vS 7) (vS 8 0) (vS 9 0))) (some (.int Rz)) := by
  refine JM.of (own := RX3) (tb := T_X3_isUnplaced) (by decide) (Nat.le_of_ble_eq_true rfl) D_X3_isUnplaced rfl (fun X C => ?_)
  refine J_sub (lv' := [(0, .ref (aT 0)), (1, .int x1), (2, .int x2)]) [0, 1, 2] rfl ?_
  unfold f_X3_isUnplaced at h
  refine J_iload_n (pc := 0) C 0 rfl 1 rfl rfl ?_
  refine J_iload_n (pc := 1) C 1 rfl 2 rfl rfl ?_
  obtain ⟨q1, hq1, h⟩ := bnd h
  refine J_callSN (pc := 2) (st2 := []) (st3 := [.int q1]) (ws2 := (wSeat G aT (aS 0) (vT 1) (vT 2) (vT 3) (vT 4 0) (vT 5 0) (vT 6) (vT 7) (vT 8) ++ (wSch G aS (vS 0) (vS 1) (vS 2) (vS 3) (vS 4) (vS 5) (vS 6) (vS 7) (vS 8 0) (vS 9 0)))) C 2 rfl (c_X4_sittingNumber x1 x2 hq1) V_X4_sittingNumber (List.mem_of_getElem? (i := 6) rfl) t_X4_sittingNumber rfl rfl ⟨Nat.le_of_ble_eq_true rfl, Nat.le_of_ble_eq_true rfl⟩ (Nat.le_of_ble_eq_true rfl) ⟨Nat.le_refl _, Nat.le_refl _⟩ (isC := []) (isR := [0, 1, 2, 3, 4, 5, 6, 7, 8, 9, 10, 11, 12, 13, 14, 15]) (N := 16) ⟨rfl, by decide +kernel, rfl, by decide +kernel, rfl, ⟨⟨_, rfl, rfl⟩, ⟨⟨_, rfl, rfl⟩, ⟨⟨_, rfl, rfl⟩, ⟨⟨_, rfl, rfl⟩, ⟨⟨_, rfl, rfl⟩, ⟨⟨_, rfl, rfl⟩, ⟨⟨_, rfl, rfl⟩, ⟨⟨_, rfl, rfl⟩, ⟨⟨_, rfl, rfl⟩, ⟨⟨_, rfl, rfl⟩, ⟨⟨_, rfl, rfl⟩, ⟨⟨_, rfl, rfl⟩, ⟨⟨_, rfl, rfl⟩, ⟨⟨_, rfl, rfl⟩, ⟨⟨_, rfl, rfl⟩, ⟨⟨_, rfl, rfl⟩, trivial⟩⟩⟩⟩⟩⟩⟩⟩⟩⟩⟩⟩⟩⟩⟩⟩⟩ rfl ?_
  refine J_istore_n (pc := 5) (lv' := [(3, .int q1), (0, .ref (aT 0)), (1, .int x1), (2, .int x2)]) C 3 rfl rfl (by decide) rfl ?_
  refine J_aload_n (pc := 6) C 4 rfl 1 rfl rfl ?_
  refine J_get (pc := 7) (v := .ref (aS 0)) C 5 rfl TB_l3 rfl 0 0 rfl (by decide) k120 rfl rfl ?_
  refine J_iload_n (pc := 10) C 6 rfl 2 rfl rfl ?_
  refine J_iload_n (pc := 11) C 7 rfl 3 rfl rfl ?_
  obtain ⟨q2, hq2, h⟩ := bnd h
  refine J_callV (pc := 12) (st2 := []) (st3 := [.int q2]) (ws2 := (wSeat G aT (aS 0) (vT 1) (vT 2) (vT 3) (vT 4 0) (vT 5 0) (vT 6) (vT 7) (vT 8) ++ (wSch G aS (vS 0) (vS 1) (vS 2) (vS 3) (vS 4) (vS 5) (vS 6) (vS 7) (vS 8 0) (vS 9 0)))) C 8 rfl (c_X2_sits aS vS x1 x2 hq2) V_X2_sits k156 i_X2_sits s_X2_sits rfl rfl ⟨Nat.le_of_ble_eq_true rfl, Nat.le_of_ble_eq_true rfl⟩ (Nat.le_of_ble_eq_true rfl) ⟨Nat.le_refl _, Nat.le_refl _⟩ 7 2 rfl rfl rfl (isC := [7, 8, 9, 10, 11, 12, 13, 14, 15]) (isR := [0, 1, 2, 3, 4, 5, 6]) (N := 16) ⟨rfl, by decide +kernel, rfl, by decide +kernel, rfl, ⟨⟨_, rfl, rfl⟩, ⟨⟨_, rfl, rfl⟩, ⟨⟨_, rfl, rfl⟩, ⟨⟨_, rfl, rfl⟩, ⟨⟨_, rfl, rfl⟩, ⟨⟨_, rfl, rfl⟩, ⟨⟨_, rfl, rfl⟩, trivial⟩⟩⟩⟩⟩⟩⟩⟩ rfl ?_
  refine J_if_eq (pc := 15) (tgt := 44) C 9 rfl rfl (fun c3 => ?_) (fun c3 => ?_)
  · rw [if_pos c3] at h
    refine J_iconst (pc := 44) (v := (0 : Int32)) C 24 rfl rfl ?_
    cases h
    exact J_zret (pc := 45) C 25 rfl rfl
  · rw [if_neg c3] at h
    refine J_aload_n (pc := 18) C 10 rfl 1 rfl rfl ?_
    refine J_get (pc := 19) (v := .ref (aT 1)) C 11 rfl TB_l3 rfl 0 1 rfl (by decide) k121 rfl rfl ?_
    refine J_iload_n (pc := 22) C 12 rfl 0 rfl rfl ?_
    obtain ⟨g4, h⟩ := gd_some h
    refine J_iald (pc := 23) (f := (vT 1)) (v := ((vT 1) (Int32.toNatClampNeg q1))) C 13 rfl 1 rfl g4 rfl ?_
    refine J_bipush (pc := 24) (v := (-6 : Int32)) C 14 rfl rfl ?_
    refine J_icmp_ne (pc := 26) (tgt := 44) C 15 rfl rfl (fun c5 => ?_) (fun c5 => ?_)
    · rw [if_neg c5] at h
      refine J_iconst (pc := 44) (v := (0 : Int32)) C 24 rfl rfl ?_
      cases h
      exact J_zret (pc := 45) C 25 rfl rfl
    · rw [if_pos c5] at h
      refine J_aload_n (pc := 29) C 16 rfl 1 rfl rfl ?_
      refine J_get (pc := 30) (v := .ref (aT 3)) C 17 rfl TB_l3 rfl 0 3 rfl (by decide) k123 rfl rfl ?_
      refine J_iload_n (pc := 33) C 18 rfl 0 rfl rfl ?_
      obtain ⟨g6, h⟩ := gd_some h
      refine J_iald (pc := 34) (f := (vT 3)) (v := ((vT 3) (Int32.toNatClampNeg q1))) C 19 rfl 3 rfl g6 rfl ?_
      refine J_bipush (pc := 35) (v := (-6 : Int32)) C 20 rfl rfl ?_
      refine J_icmp_ne (pc := 37) (tgt := 44) C 21 rfl rfl (fun c7 => ?_) (fun c7 => ?_)
      · rw [if_neg c7] at h
        refine J_iconst (pc := 44) (v := (0 : Int32)) C 24 rfl rfl ?_
        cases h
        exact J_zret (pc := 45) C 25 rfl rfl
      · rw [if_pos c7] at h
        refine J_iconst (pc := 40) (v := (1 : Int32)) C 22 rfl rfl ?_
        refine J_goto (pc := 41) (tgt := 45) C 23 rfl rfl ?_
        cases h
        exact J_zret (pc := 45) C 25 rfl rfl
def T_X3_unplacedPapersOf : List (Nat × ClassFile.Instr × Nat) := [(0, .iconst 0, 1), (1, .istore_n 2, 1), (2, .iconst 0, 1), (3, .istore_n 3, 1), (4, .iload_n 3, 1), (5, .bipush 6, 2), (7, .if_icmp .ge 24, 3), (10, .aload_n 0, 1), (11, .iload_n 1, 1), (12, .iload_n 3, 1), (13, .invokevirtual 109, 3), (16, .ifCond .eq 9, 3), (19, .iload_n 2, 1), (20, .iconst 1, 1), (21, .iload_n 3, 1), (22, .ishl, 1), (23, .ior, 1), (24, .istore_n 2, 1), (25, .iinc 3 1, 3), (28, .goto (-24), 3), (31, .iload_n 2, 1), (32, .ireturn, 1)]
theorem D_X3_unplacedPapersOf : ∀ q ∈ T_X3_unplacedPapersOf, decode cX3_unplacedPapersOf q.1 = .ok q.2 := by decide +kernel
theorem V_X3_unplacedPapersOf : Vy yX3_unplacedPapersOf cX3_unplacedPapersOf 4 (some .int) 1 := ⟨k173, k138, by decide +kernel⟩
theorem i_X3_unplacedPapersOf : Cond.instanceMethod yX3_unplacedPapersOf ∈ TB := k270
theorem s_X3_unplacedPapersOf : Cond.selects yX3_unplacedPapersOf.cls yX3_unplacedPapersOf yX3_unplacedPapersOf ∈ TB := k271
noncomputable def f_X3_unplacedPapersOf_b4 (vT : JV) (vS : JV) (x1_4 : Int32) (r4 : Int32 → Int32 → Option (Int32)) (x2_4 : Int32) (x3_4 : Int32) : Option (Int32) :=
  (if (6 : Int32) ≤ x3_4 then some x2_4 else (f_X3_isUnplaced vT vS x1_4 x3_4).bind (fun q2 => (if q2 = 0 then r4 x2_4 (x3_4 + (1 : Int32)) else r4 (x2_4 ||| ((1 : Int32) <<< (x3_4 &&& 31))) (x3_4 + (1 : Int32)))))
noncomputable def f_X3_unplacedPapersOf_L4 (vT : JV) (vS : JV) (x1_4 : Int32) (n : Nat) (x2_4 : Int32) (x3_4 : Int32) : Option (Int32) :=
  lp (fun (rec : Int32 × Int32 → Option (Int32)) a => f_X3_unplacedPapersOf_b4 vT vS x1_4 (fun x2_4 x3_4 => rec (x2_4, x3_4)) a.1 a.2) n (x2_4, x3_4)
noncomputable def f_X3_unplacedPapersOf (vT : JV) (vS : JV) (x1 : Int32) : Option (Int32) :=
  f_X3_unplacedPapersOf_L4 vT vS x1 FU (0 : Int32) (0 : Int32)
set_option maxRecDepth 100000 in
set_option maxHeartbeats 4000000 in
theorem c_X3_unplacedPapersOf {l : Launch} {G : JG} (aT : Nat → Nat) (aS : Nat → Nat) (vT : JV) (vS : JV) (x1 : Int32) {Rz : Int32} (h : f_X3_unplacedPapersOf vT vS x1 = some Rz) : JM l G yX3_unplacedPapersOf cX3_unplacedPapersOf 4 (some .int) 3 66 [.ref (aT 0), .int x1] (wSeat G aT (aS 0) (vT 1) (vT 2) (vT 3) (vT 4 0) (vT 5 0) (vT 6) (vT 7) (vT 8) ++ (wSch G aS (vS 0) (vS 1) (vS 2) (vS 3) (vS 4) (vS 5) (vS 6) (vS 7) (vS 8 0) (vS 9 0))) (wSeat G aT (aS 0) (vT 1) (vT 2) (vT 3) (vT 4 0) (vT 5 0) (vT 6) (vT 7) (vT 8) ++ (wSch G aS (vS 0) (vS 1) (vS 2) (vS 3) (vS 4) (vS 5) (vS 6) (vS 7) (vS 8 0) (vS 9 0))) (some (.int Rz)) := by
  refine JM.of (own := RX3) (tb := T_X3_unplacedPapersOf) (by decide) (Nat.le_of_ble_eq_true rfl) D_X3_unplacedPapersOf rfl (fun X C => ?_)
  refine J_sub (lv' := [(0, .ref (aT 0)), (1, .int x1)]) [0, 1] rfl ?_
  have B4 : ∀ (x1_4 : Int32) (n4 : Nat) (x2_4 : Int32) (x3_4 : Int32), f_X3_unplacedPapersOf_L4 vT vS x1_4 n4 x2_4 x3_4 = some Rz → J l { frames := 3, cells := 0, slots := 0, locals := 66 } G 4 X (QM X G 0 0 (some (.int Rz)) (wSeat G aT (aS 0) (vT 1) (vT 2) (vT 3) (vT 4 0) (vT 5 0) (vT 6) (vT 7) (vT 8) ++ (wSch G aS (vS 0) (vS 1) (vS 2) (vS 3) (vS 4) (vS 5) (vS 6) (vS 7) (vS 8 0) (vS 9 0)))) 0 0 4 [(0, .ref (aT 0)), (1, .int x1_4), (2, .int x2_4), (3, .int x3_4)] [] (wSeat G aT (aS 0) (vT 1) (vT 2) (vT 3) (vT 4 0) (vT 5 0) (vT 6) (vT 7) (vT 8) ++ (wSch G aS (vS 0) (vS 1) (vS 2) (vS 3) (vS 4) (vS 5) (vS 6) (vS 7) (vS 8 0) (vS 9 0))) := by
    intro x1_4 n4
    induction n4 with
    | zero =>
      intro x2_4 x3_4 h
      exact (no_none rfl h).elim
    | succ n4 ih4 =>
      intro x2_4 x3_4 h
      replace h : f_X3_unplacedPapersOf_b4 vT vS x1_4 (fun x2_4 x3_4 => f_X3_unplacedPapersOf_L4 vT vS x1_4 n4 x2_4 x3_4) x2_4 x3_4 = some Rz := h
      unfold f_X3_unplacedPapersOf_b4 at h
      refine J_iload_n (pc := 4) C 4 rfl 3 rfl rfl ?_
      refine J_bipush (pc := 5) (v := (6 : Int32)) C 5 rfl rfl ?_
      refine J_icmp_ge (pc := 7) (tgt := 31) C 6 rfl rfl (fun c1 => ?_) (fun c1 => ?_)
      · rw [if_pos c1] at h
        refine J_iload_n (pc := 31) C 20 rfl 2 rfl rfl ?_
        cases h
        exact J_iret (pc := 32) C 21 rfl
      · rw [if_neg c1] at h
        refine J_aload_n (pc := 10) C 7 rfl 0 rfl rfl ?_
        refine J_iload_n (pc := 11) C 8 rfl 1 rfl rfl ?_
        refine J_iload_n (pc := 12) C 9 rfl 3 rfl rfl ?_
        obtain ⟨q2, hq2, h⟩ := bnd h
        refine J_callV (pc := 13) (st2 := []) (st3 := [.int q2]) (ws2 := (wSeat G aT (aS 0) (vT 1) (vT 2) (vT 3) (vT 4 0) (vT 5 0) (vT 6) (vT 7) (vT 8) ++ (wSch G aS (vS 0) (vS 1) (vS 2) (vS 3) (vS 4) (vS 5) (vS 6) (vS 7) (vS 8 0) (vS 9 0)))) C 10 rfl (c_X3_isUnplaced aT aS vT vS x1_4 x3_4 hq2) V_X3_isUnplaced k174 i_X3_isUnplaced s_X3_isUnplaced rfl rfl ⟨Nat.le_of_ble_eq_true rfl, Nat.le_of_ble_eq_true rfl⟩ (Nat.le_of_ble_eq_true rfl) ⟨Nat.le_refl _, Nat.le_refl _⟩ 0 3 rfl rfl rfl (isC := [0, 1, 2, 3, 4, 5, 6, 7, 8, 9, 10, 11, 12, 13, 14, 15]) (isR := []) (N := 16) ⟨rfl, by decide +kernel, rfl, by decide +kernel, rfl, trivial⟩ rfl ?_
        refine J_if_eq (pc := 16) (tgt := 25) C 11 rfl rfl (fun c3 => ?_) (fun c3 => ?_)
        · rw [if_pos c3] at h
          refine J_iinc (pc := 25) (v := (x3_4 + (1 : Int32))) (lv' := [(3, .int (x3_4 + (1 : Int32))), (0, .ref (aT 0)), (1, .int x1_4), (2, .int x2_4)]) C 18 rfl 3 rfl rfl (by decide) rfl ?_
          refine J_goto (pc := 28) (tgt := 4) C 19 rfl rfl ?_
          exact J_sub [1, 2, 3, 0] rfl (ih4 x2_4 (x3_4 + (1 : Int32)) h)
        · rw [if_neg c3] at h
          refine J_iload_n (pc := 19) C 12 rfl 2 rfl rfl ?_
          refine J_iconst (pc := 20) (v := (1 : Int32)) C 13 rfl rfl ?_
          refine J_iload_n (pc := 21) C 14 rfl 3 rfl rfl ?_
          refine J_ishl (pc := 22) C 15 rfl  ?_
          refine J_ior (pc := 23) C 16 rfl  ?_
          refine J_istore_n (pc := 24) (lv' := [(2, .int (x2_4 ||| ((1 : Int32) <<< (x3_4 &&& 31)))), (0, .ref (aT 0)), (1, .int x1_4), (3, .int x3_4)]) C 17 rfl rfl (by decide) rfl ?_
          refine J_iinc (pc := 25) (v := (x3_4 + (1 : Int32))) (lv' := [(3, .int (x3_4 + (1 : Int32))), (2, .int (x2_4 ||| ((1 : Int32) <<< (x3_4 &&& 31)))), (0, .ref (aT 0)), (1, .int x1_4)]) C 18 rfl 3 rfl rfl (by decide) rfl ?_
          refine J_goto (pc := 28) (tgt := 4) C 19 rfl rfl ?_
          exact J_sub [2, 3, 1, 0] rfl (ih4 (x2_4 ||| ((1 : Int32) <<< (x3_4 &&& 31))) (x3_4 + (1 : Int32)) h)
  unfold f_X3_unplacedPapersOf at h
  refine J_iconst (pc := 0) (v := (0 : Int32)) C 0 rfl rfl ?_
  refine J_istore_n (pc := 1) (lv' := [(2, .int (0 : Int32)), (0, .ref (aT 0)), (1, .int x1)]) C 1 rfl rfl (by decide) rfl ?_
  refine J_iconst (pc := 2) (v := (0 : Int32)) C 2 rfl rfl ?_
  refine J_istore_n (pc := 3) (lv' := [(3, .int (0 : Int32)), (2, .int (0 : Int32)), (0, .ref (aT 0)), (1, .int x1)]) C 3 rfl rfl (by decide) rfl ?_
  exact J_sub [2, 3, 1, 0] rfl (B4 x1 FU (0 : Int32) (0 : Int32) h)
def T_X3_unplacedOf : List (Nat × ClassFile.Instr × Nat) := [(0, .iconst 0, 1), (1, .istore_n 2, 1), (2, .iconst 0, 1), (3, .istore_n 3, 1), (4, .iload_n 3, 1), (5, .aload_n 0, 1), (6, .getfield 12, 3), (9, .getfield 54, 3), (12, .if_icmp .ge 21, 3), (15, .aload_n 0, 1), (16, .iload_n 3, 1), (17, .iload_n 1, 1), (18, .invokevirtual 109, 3), (21, .ifCond .eq 6, 3), (24, .iinc 2 1, 3), (27, .iinc 3 1, 3), (30, .goto (-26), 3), (33, .iload_n 2, 1), (34, .ireturn, 1)]
theorem D_X3_unplacedOf : ∀ q ∈ T_X3_unplacedOf, decode cX3_unplacedOf q.1 = .ok q.2 := by decide +kernel
theorem V_X3_unplacedOf : Vy yX3_unplacedOf cX3_unplacedOf 4 (some .int) 1 := ⟨k177, k138, by decide +kernel⟩
theorem i_X3_unplacedOf : Cond.instanceMethod yX3_unplacedOf ∈ TB := k281
theorem s_X3_unplacedOf : Cond.selects yX3_unplacedOf.cls yX3_unplacedOf yX3_unplacedOf ∈ TB := k282
noncomputable def f_X3_unplacedOf_b4 (vT : JV) (vS : JV) (x1_4 : Int32) (r4 : Int32 → Int32 → Option (Int32)) (x2_4 : Int32) (x3_4 : Int32) : Option (Int32) :=
  (if (vS 8 0) ≤ x3_4 then some x2_4 else (f_X3_isUnplaced vT vS x3_4 x1_4).bind (fun q2 => (if q2 = 0 then r4 x2_4 (x3_4 + (1 : Int32)) else r4 (x2_4 + (1 : Int32)) (x3_4 + (1 : Int32)))))
noncomputable def f_X3_unplacedOf_L4 (vT : JV) (vS : JV) (x1_4 : Int32) (n : Nat) (x2_4 : Int32) (x3_4 : Int32) : Option (Int32) :=
  lp (fun (rec : Int32 × Int32 → Option (Int32)) a => f_X3_unplacedOf_b4 vT vS x1_4 (fun x2_4 x3_4 => rec (x2_4, x3_4)) a.1 a.2) n (x2_4, x3_4)
noncomputable def f_X3_unplacedOf (vT : JV) (vS : JV) (x1 : Int32) : Option (Int32) :=
  f_X3_unplacedOf_L4 vT vS x1 FU (0 : Int32) (0 : Int32)
set_option maxRecDepth 100000 in
set_option maxHeartbeats 4000000 in
theorem c_X3_unplacedOf {l : Launch} {G : JG} (aT : Nat → Nat) (aS : Nat → Nat) (vT : JV) (vS : JV) (x1 : Int32) {Rz : Int32} (h : f_X3_unplacedOf vT vS x1 = some Rz) : JM l G yX3_unplacedOf cX3_unplacedOf 4 (some .int) 3 66 [.ref (aT 0), .int x1] (wSeat G aT (aS 0) (vT 1) (vT 2) (vT 3) (vT 4 0) (vT 5 0) (vT 6) (vT 7) (vT 8) ++ (wSch G aS (vS 0) (vS 1) (vS 2) (vS 3) (vS 4) (vS 5) (vS 6) (vS 7) (vS 8 0) (vS 9 0))) (wSeat G aT (aS 0) (vT 1) (vT 2) (vT 3) (vT 4 0) (vT 5 0) (vT 6) (vT 7) (vT 8) ++ (wSch G aS (vS 0) (vS 1) (vS 2) (vS 3) (vS 4) (vS 5) (vS 6) (vS 7) (vS 8 0) (vS 9 0))) (some (.int Rz)) := by
  refine JM.of (own := RX3) (tb := T_X3_unplacedOf) (by decide) (Nat.le_of_ble_eq_true rfl) D_X3_unplacedOf rfl (fun X C => ?_)
  refine J_sub (lv' := [(0, .ref (aT 0)), (1, .int x1)]) [0, 1] rfl ?_
  have B4 : ∀ (x1_4 : Int32) (n4 : Nat) (x2_4 : Int32) (x3_4 : Int32), f_X3_unplacedOf_L4 vT vS x1_4 n4 x2_4 x3_4 = some Rz → J l { frames := 3, cells := 0, slots := 0, locals := 66 } G 4 X (QM X G 0 0 (some (.int Rz)) (wSeat G aT (aS 0) (vT 1) (vT 2) (vT 3) (vT 4 0) (vT 5 0) (vT 6) (vT 7) (vT 8) ++ (wSch G aS (vS 0) (vS 1) (vS 2) (vS 3) (vS 4) (vS 5) (vS 6) (vS 7) (vS 8 0) (vS 9 0)))) 0 0 4 [(0, .ref (aT 0)), (1, .int x1_4), (2, .int x2_4), (3, .int x3_4)] [] (wSeat G aT (aS 0) (vT 1) (vT 2) (vT 3) (vT 4 0) (vT 5 0) (vT 6) (vT 7) (vT 8) ++ (wSch G aS (vS 0) (vS 1) (vS 2) (vS 3) (vS 4) (vS 5) (vS 6) (vS 7) (vS 8 0) (vS 9 0))) := by
    intro x1_4 n4
    induction n4 with
    | zero =>
      intro x2_4 x3_4 h
      exact (no_none rfl h).elim
    | succ n4 ih4 =>
      intro x2_4 x3_4 h
      replace h : f_X3_unplacedOf_b4 vT vS x1_4 (fun x2_4 x3_4 => f_X3_unplacedOf_L4 vT vS x1_4 n4 x2_4 x3_4) x2_4 x3_4 = some Rz := h
      unfold f_X3_unplacedOf_b4 at h
      refine J_iload_n (pc := 4) C 4 rfl 3 rfl rfl ?_
      refine J_aload_n (pc := 5) C 5 rfl 0 rfl rfl ?_
      refine J_get (pc := 6) (v := .ref (aS 0)) C 6 rfl TB_l3 rfl 0 0 rfl (by decide) k120 rfl rfl ?_
      refine J_get (pc := 9) (v := .int (vS 8 0)) C 7 rfl TB_l2 rfl 7 8 rfl (by decide) k154 rfl rfl ?_
      refine J_icmp_ge (pc := 12) (tgt := 33) C 8 rfl rfl (fun c1 => ?_) (fun c1 => ?_)
      · rw [if_pos c1] at h
        refine J_iload_n (pc := 33) C 17 rfl 2 rfl rfl ?_
        cases h
        exact J_iret (pc := 34) C 18 rfl
      · rw [if_neg c1] at h
        refine J_aload_n (pc := 15) C 9 rfl 0 rfl rfl ?_
        refine J_iload_n (pc := 16) C 10 rfl 3 rfl rfl ?_
        refine J_iload_n (pc := 17) C 11 rfl 1 rfl rfl ?_
        obtain ⟨q2, hq2, h⟩ := bnd h
        refine J_callV (pc := 18) (st2 := []) (st3 := [.int q2]) (ws2 := (wSeat G aT (aS 0) (vT 1) (vT 2) (vT 3) (vT 4 0) (vT 5 0) (vT 6) (vT 7) (vT 8) ++ (wSch G aS (vS 0) (vS 1) (vS 2) (vS 3) (vS 4) (vS 5) (vS 6) (vS 7) (vS 8 0) (vS 9 0)))) C 12 rfl (c_X3_isUnplaced aT aS vT vS x3_4 x1_4 hq2) V_X3_isUnplaced k174 i_X3_isUnplaced s_X3_isUnplaced rfl rfl ⟨Nat.le_of_ble_eq_true rfl, Nat.le_of_ble_eq_true rfl⟩ (Nat.le_of_ble_eq_true rfl) ⟨Nat.le_refl _, Nat.le_refl _⟩ 0 3 rfl rfl rfl (isC := [0, 1, 2, 3, 4, 5, 6, 7, 8, 9, 10, 11, 12, 13, 14, 15]) (isR := []) (N := 16) ⟨rfl, by decide +kernel, rfl, by decide +kernel, rfl, trivial⟩ rfl ?_
        refine J_if_eq (pc := 21) (tgt := 27) C 13 rfl rfl (fun c3 => ?_) (fun c3 => ?_)
        · rw [if_pos c3] at h
          refine J_iinc (pc := 27) (v := (x3_4 + (1 : Int32))) (lv' := [(3, .int (x3_4 + (1 : Int32))), (0, .ref (aT 0)), (1, .int x1_4), (2, .int x2_4)]) C 15 rfl 3 rfl rfl (by decide) rfl ?_
          refine J_goto (pc := 30) (tgt := 4) C 16 rfl rfl ?_
          exact J_sub [1, 2, 3, 0] rfl (ih4 x2_4 (x3_4 + (1 : Int32)) h)
        · rw [if_neg c3] at h
          refine J_iinc (pc := 24) (v := (x2_4 + (1 : Int32))) (lv' := [(2, .int (x2_4 + (1 : Int32))), (0, .ref (aT 0)), (1, .int x1_4), (3, .int x3_4)]) C 14 rfl 2 rfl rfl (by decide) rfl ?_
          refine J_iinc (pc := 27) (v := (x3_4 + (1 : Int32))) (lv' := [(3, .int (x3_4 + (1 : Int32))), (2, .int (x2_4 + (1 : Int32))), (0, .ref (aT 0)), (1, .int x1_4)]) C 15 rfl 3 rfl rfl (by decide) rfl ?_
          refine J_goto (pc := 30) (tgt := 4) C 16 rfl rfl ?_
          exact J_sub [2, 3, 1, 0] rfl (ih4 (x2_4 + (1 : Int32)) (x3_4 + (1 : Int32)) h)
  unfold f_X3_unplacedOf at h
  refine J_iconst (pc := 0) (v := (0 : Int32)) C 0 rfl rfl ?_
  refine J_istore_n (pc := 1) (lv' := [(2, .int (0 : Int32)), (0, .ref (aT 0)), (1, .int x1)]) C 1 rfl rfl (by decide) rfl ?_
  refine J_iconst (pc := 2) (v := (0 : Int32)) C 2 rfl rfl ?_
  refine J_istore_n (pc := 3) (lv' := [(3, .int (0 : Int32)), (2, .int (0 : Int32)), (0, .ref (aT 0)), (1, .int x1)]) C 3 rfl rfl (by decide) rfl ?_
  exact J_sub [2, 3, 1, 0] rfl (B4 x1 FU (0 : Int32) (0 : Int32) h)
def T_X3_hallsOf : List (Nat × ClassFile.Instr × Nat) := [(0, .iconst 0, 1), (1, .istore_n 2, 1), (2, .iconst 0, 1), (3, .istore_n 3, 1), (4, .iload_n 3, 1), (5, .aload_n 0, 1), (6, .getfield 12, 3), (9, .getfield 54, 3), (12, .if_icmp .ge 35, 3), (15, .aload_n 0, 1), (16, .getfield 18, 3), (19, .iload_n 3, 1), (20, .iload_n 1, 1), (21, .invokestatic 78, 3), (24, .iaload, 1), (25, .istore 4, 2), (27, .iload 4, 2), (29, .bipush (-6), 2), (31, .if_icmp .eq 10, 3), (34, .iload_n 2, 1), (35, .iconst 1, 1), (36, .iload 4, 2), (38, .ishl, 1), (39, .ior, 1), (40, .istore_n 2, 1), (41, .iinc 3 1, 3), (44, .goto (-40), 3), (47, .iload_n 2, 1), (48, .ireturn, 1)]
theorem D_X3_hallsOf : ∀ q ∈ T_X3_hallsOf, decode cX3_hallsOf q.1 = .ok q.2 := by decide +kernel
theorem V_X3_hallsOf : Vy yX3_hallsOf cX3_hallsOf 5 (some .int) 1 := ⟨k178, k138, by decide +kernel⟩
theorem i_X3_hallsOf : Cond.instanceMethod yX3_hallsOf ∈ TB := k284
theorem s_X3_hallsOf : Cond.selects yX3_hallsOf.cls yX3_hallsOf yX3_hallsOf ∈ TB := k285
noncomputable def f_X3_hallsOf_b4 (vT : JV) (vS : JV) (x1_4 : Int32) (r4 : Int32 → Int32 → Option (Int32)) (x2_4 : Int32) (x3_4 : Int32) : Option (Int32) :=
  (if (vS 8 0) ≤ x3_4 then some x2_4 else (f_X4_sittingNumber x3_4 x1_4).bind (fun q2 => gd (inb q2 96) ((if ((vT 1) (Int32.toNatClampNeg q2)) = (-6 : Int32) then r4 x2_4 (x3_4 + (1 : Int32)) else r4 (x2_4 ||| ((1 : Int32) <<< (((vT 1) (Int32.toNatClampNeg q2)) &&& 31))) (x3_4 + (1 : Int32))))))
noncomputable def f_X3_hallsOf_L4 (vT : JV) (vS : JV) (x1_4 : Int32) (n : Nat) (x2_4 : Int32) (x3_4 : Int32) : Option (Int32) :=
  lp (fun (rec : Int32 × Int32 → Option (Int32)) a => f_X3_hallsOf_b4 vT vS x1_4 (fun x2_4 x3_4 => rec (x2_4, x3_4)) a.1 a.2) n (x2_4, x3_4)
noncomputable def f_X3_hallsOf (vT : JV) (vS : JV) (x1 : Int32) : Option (Int32) :=
  f_X3_hallsOf_L4 vT vS x1 FU (0 : Int32) (0 : Int32)
set_option maxRecDepth 100000 in
set_option maxHeartbeats 4000000 in
theorem c_X3_hallsOf {l : Launch} {G : JG} (aT : Nat → Nat) (aS : Nat → Nat) (vT : JV) (vS : JV) (x1 : Int32) {Rz : Int32} (h : f_X3_hallsOf vT vS x1 = some Rz) : JM l G yX3_hallsOf cX3_hallsOf 5 (some .int) 1 21 [.ref (aT 0), .int x1] (wSeat G aT (aS 0) (vT 1) (vT 2) (vT 3) (vT 4 0) (vT 5 0) (vT 6) (vT 7) (vT 8) ++ (wSch G aS (vS 0) (vS 1) (vS 2) (vS 3) (vS 4) (vS 5) (vS 6) (vS 7) (vS 8 0) (vS 9 0))) (wSeat G aT (aS 0) (vT 1) (vT 2) (vT 3) (vT 4 0) (vT 5 0) (vT 6) (vT 7) (vT 8) ++ (wSch G aS (vS 0) (vS 1) (vS 2) (vS 3) (vS 4) (vS 5) (vS 6) (vS 7) (vS 8 0) (vS 9 0))) (some (.int Rz)) := by
  refine JM.of (own := RX3) (tb := T_X3_hallsOf) (by decide) (Nat.le_of_ble_eq_true rfl) D_X3_hallsOf rfl (fun X C => ?_)
  refine J_sub (lv' := [(0, .ref (aT 0)), (1, .int x1)]) [0, 1] rfl ?_
  have B4 : ∀ (x1_4 : Int32) (n4 : Nat) (x2_4 : Int32) (x3_4 : Int32), f_X3_hallsOf_L4 vT vS x1_4 n4 x2_4 x3_4 = some Rz → J l { frames := 1, cells := 0, slots := 0, locals := 21 } G 5 X (QM X G 0 0 (some (.int Rz)) (wSeat G aT (aS 0) (vT 1) (vT 2) (vT 3) (vT 4 0) (vT 5 0) (vT 6) (vT 7) (vT 8) ++ (wSch G aS (vS 0) (vS 1) (vS 2) (vS 3) (vS 4) (vS 5) (vS 6) (vS 7) (vS 8 0) (vS 9 0)))) 0 0 4 [(0, .ref (aT 0)), (1, .int x1_4), (2, .int x2_4), (3, .int x3_4)] [] (wSeat G aT (aS 0) (vT 1) (vT 2) (vT 3) (vT 4 0) (vT 5 0) (vT 6) (vT 7) (vT 8) ++ (wSch G aS (vS 0) (vS 1) (vS 2) (vS 3) (vS 4) (vS 5) (vS 6) (vS 7) (vS 8 0) (vS 9 0))) := by
    intro x1_4 n4
    induction n4 with
    | zero =>
      intro x2_4 x3_4 h
      exact (no_none rfl h).elim
    | succ n4 ih4 =>
      intro x2_4 x3_4 h
      replace h : f_X3_hallsOf_b4 vT vS x1_4 (fun x2_4 x3_4 => f_X3_hallsOf_L4 vT vS x1_4 n4 x2_4 x3_4) x2_4 x3_4 = some Rz := h
      unfold f_X3_hallsOf_b4 at h
      refine J_iload_n (pc := 4) C 4 rfl 3 rfl rfl ?_
      refine J_aload_n (pc := 5) C 5 rfl 0 rfl rfl ?_
      refine J_get (pc := 6) (v := .ref (aS 0)) C 6 rfl TB_l3 rfl 0 0 rfl (by decide) k120 rfl rfl ?_
      refine J_get (pc := 9) (v := .int (vS 8 0)) C 7 rfl TB_l2 rfl 7 8 rfl (by decide) k154 rfl rfl ?_
      refine J_icmp_ge (pc := 12) (tgt := 47) C 8 rfl rfl (fun c1 => ?_) (fun c1 => ?_)
      · rw [if_pos c1] at h
        refine J_iload_n (pc := 47) C 27 rfl 2 rfl rfl ?_
        cases h
        exact J_iret (pc := 48) C 28 rfl
      · rw [if_neg c1] at h
        refine J_aload_n (pc := 15) C 9 rfl 0 rfl rfl ?_
        refine J_get (pc := 16) (v := .ref (aT 1)) C 10 rfl TB_l3 rfl 0 1 rfl (by decide) k121 rfl rfl ?_
        refine J_iload_n (pc := 19) C 11 rfl 3 rfl rfl ?_
        refine J_iload_n (pc := 20) C 12 rfl 1 rfl rfl ?_
        obtain ⟨q2, hq2, h⟩ := bnd h
        refine J_callSN (pc := 21) (st2 := [.ref (aT 1)]) (st3 := [.int q2, .ref (aT 1)]) (ws2 := (wSeat G aT (aS 0) (vT 1) (vT 2) (vT 3) (vT 4 0) (vT 5 0) (vT 6) (vT 7) (vT 8) ++ (wSch G aS (vS 0) (vS 1) (vS 2) (vS 3) (vS 4) (vS 5) (vS 6) (vS 7) (vS 8 0) (vS 9 0)))) C 13 rfl (c_X4_sittingNumber x3_4 x1_4 hq2) V_X4_sittingNumber (List.mem_of_getElem? (i := 6) rfl) t_X4_sittingNumber rfl rfl ⟨Nat.le_of_ble_eq_true rfl, Nat.le_of_ble_eq_true rfl⟩ (Nat.le_of_ble_eq_true rfl) ⟨Nat.le_refl _, Nat.le_refl _⟩ (isC := []) (isR := [0, 1, 2, 3, 4, 5, 6, 7, 8, 9, 10, 11, 12, 13, 14, 15]) (N := 16) ⟨rfl, by decide +kernel, rfl, by decide +kernel, rfl, ⟨⟨_, rfl, rfl⟩, ⟨⟨_, rfl, rfl⟩, ⟨⟨_, rfl, rfl⟩, ⟨⟨_, rfl, rfl⟩, ⟨⟨_, rfl, rfl⟩, ⟨⟨_, rfl, rfl⟩, ⟨⟨_, rfl, rfl⟩, ⟨⟨_, rfl, rfl⟩, ⟨⟨_, rfl, rfl⟩, ⟨⟨_, rfl, rfl⟩, ⟨⟨_, rfl, rfl⟩, ⟨⟨_, rfl, rfl⟩, ⟨⟨_, rfl, rfl⟩, ⟨⟨_, rfl, rfl⟩, ⟨⟨_, rfl, rfl⟩, ⟨⟨_, rfl, rfl⟩, trivial⟩⟩⟩⟩⟩⟩⟩⟩⟩⟩⟩⟩⟩⟩⟩⟩⟩ rfl ?_
        obtain ⟨g3, h⟩ := gd_some h
        refine J_iald (pc := 24) (f := (vT 1)) (v := ((vT 1) (Int32.toNatClampNeg q2))) C 14 rfl 1 rfl g3 rfl ?_
        refine J_istore (pc := 25) (lv' := [(4, .int ((vT 1) (Int32.toNatClampNeg q2))), (0, .ref (aT 0)), (1, .int x1_4), (2, .int x2_4), (3, .int x3_4)]) C 15 rfl (by decide) rfl ?_
        refine J_iload (pc := 27) C 16 rfl 0 rfl ?_
        refine J_bipush (pc := 29) (v := (-6 : Int32)) C 17 rfl rfl ?_
        refine J_icmp_eq (pc := 31) (tgt := 41) C 18 rfl rfl (fun c4 => ?_) (fun c4 => ?_)
        · rw [if_pos c4] at h
          refine J_iinc (pc := 41) (v := (x3_4 + (1 : Int32))) (lv' := [(3, .int (x3_4 + (1 : Int32))), (4, .int ((vT 1) (Int32.toNatClampNeg q2))), (0, .ref (aT 0)), (1, .int x1_4), (2, .int x2_4)]) C 25 rfl 4 rfl rfl (by decide) rfl ?_
          refine J_goto (pc := 44) (tgt := 4) C 26 rfl rfl ?_
          exact J_sub [2, 3, 4, 0] rfl (ih4 x2_4 (x3_4 + (1 : Int32)) h)
        · rw [if_neg c4] at h
          refine J_iload_n (pc := 34) C 19 rfl 3 rfl rfl ?_
          refine J_iconst (pc := 35) (v := (1 : Int32)) C 20 rfl rfl ?_
          refine J_iload (pc := 36) C 21 rfl 0 rfl ?_
          refine J_ishl (pc := 38) C 22 rfl  ?_
          refine J_ior (pc := 39) C 23 rfl  ?_
          refine J_istore_n (pc := 40) (lv' := [(2, .int (x2_4 ||| ((1 : Int32) <<< (((vT 1) (Int32.toNatClampNeg q2)) &&& 31)))), (4, .int ((vT 1) (Int32.toNatClampNeg q2))), (0, .ref (aT 0)), (1, .int x1_4), (3, .int x3_4)]) C 24 rfl rfl (by decide) rfl ?_
          refine J_iinc (pc := 41) (v := (x3_4 + (1 : Int32))) (lv' := [(3, .int (x3_4 + (1 : Int32))), (2, .int (x2_4 ||| ((1 : Int32) <<< (((vT 1) (Int32.toNatClampNeg q2)) &&& 31)))), (4, .int ((vT 1) (Int32.toNatClampNeg q2))), (0, .ref (aT 0)), (1, .int x1_4)]) C 25 rfl 4 rfl rfl (by decide) rfl ?_
          refine J_goto (pc := 44) (tgt := 4) C 26 rfl rfl ?_
          exact J_sub [3, 4, 1, 0] rfl (ih4 (x2_4 ||| ((1 : Int32) <<< (((vT 1) (Int32.toNatClampNeg q2)) &&& 31))) (x3_4 + (1 : Int32)) h)
  unfold f_X3_hallsOf at h
  refine J_iconst (pc := 0) (v := (0 : Int32)) C 0 rfl rfl ?_
  refine J_istore_n (pc := 1) (lv' := [(2, .int (0 : Int32)), (0, .ref (aT 0)), (1, .int x1)]) C 1 rfl rfl (by decide) rfl ?_
  refine J_iconst (pc := 2) (v := (0 : Int32)) C 2 rfl rfl ?_
  refine J_istore_n (pc := 3) (lv' := [(3, .int (0 : Int32)), (2, .int (0 : Int32)), (0, .ref (aT 0)), (1, .int x1)]) C 3 rfl rfl (by decide) rfl ?_
  exact J_sub [2, 3, 1, 0] rfl (B4 x1 FU (0 : Int32) (0 : Int32) h)
def T_X3_seatedIn : List (Nat × ClassFile.Instr × Nat) := [(0, .iconst 0, 1), (1, .istore_n 2, 1), (2, .iconst 0, 1), (3, .istore_n 3, 1), (4, .iload_n 3, 1), (5, .bipush 96, 2), (7, .if_icmp .ge 22, 3), (10, .aload_n 0, 1), (11, .getfield 18, 3), (14, .iload_n 3, 1), (15, .iaload, 1), (16, .iload_n 1, 1), (17, .if_icmp .ne 6, 3), (20, .iinc 2 1, 3), (23, .iinc 3 1, 3), (26, .goto (-22), 3), (29, .iload_n 2, 1), (30, .ireturn, 1)]
theorem D_X3_seatedIn : ∀ q ∈ T_X3_seatedIn, decode cX3_seatedIn q.1 = .ok q.2 := by decide +kernel
theorem V_X3_seatedIn : Vy yX3_seatedIn cX3_seatedIn 4 (some .int) 1 := ⟨k179, k138, by decide +kernel⟩
theorem i_X3_seatedIn : Cond.instanceMethod yX3_seatedIn ∈ TB := k297
theorem s_X3_seatedIn : Cond.selects yX3_seatedIn.cls yX3_seatedIn yX3_seatedIn ∈ TB := k298
noncomputable def f_X3_seatedIn_b4 (vT : JV) (x1_4 : Int32) (r4 : Int32 → Int32 → Option (Int32)) (x2_4 : Int32) (x3_4 : Int32) : Option (Int32) :=
  (if (96 : Int32) ≤ x3_4 then some x2_4 else gd (inb x3_4 96) ((if ((vT 1) (Int32.toNatClampNeg x3_4)) = x1_4 then r4 (x2_4 + (1 : Int32)) (x3_4 + (1 : Int32)) else r4 x2_4 (x3_4 + (1 : Int32)))))
noncomputable def f_X3_seatedIn_L4 (vT : JV) (x1_4 : Int32) (n : Nat) (x2_4 : Int32) (x3_4 : Int32) : Option (Int32) :=
  lp (fun (rec : Int32 × Int32 → Option (Int32)) a => f_X3_seatedIn_b4 vT x1_4 (fun x2_4 x3_4 => rec (x2_4, x3_4)) a.1 a.2) n (x2_4, x3_4)
noncomputable def f_X3_seatedIn (vT : JV) (x1 : Int32) : Option (Int32) :=
  f_X3_seatedIn_L4 vT x1 FU (0 : Int32) (0 : Int32)
set_option maxRecDepth 100000 in
set_option maxHeartbeats 4000000 in
theorem c_X3_seatedIn {l : Launch} {G : JG} (aT : Nat → Nat) (aS : Nat → Nat) (vT : JV) (x1 : Int32) {Rz : Int32} (h : f_X3_seatedIn vT x1 = some Rz) : JM l G yX3_seatedIn cX3_seatedIn 4 (some .int) 0 0 [.ref (aT 0), .int x1] (wSeat G aT (aS 0) (vT 1) (vT 2) (vT 3) (vT 4 0) (vT 5 0) (vT 6) (vT 7) (vT 8)) (wSeat G aT (aS 0) (vT 1) (vT 2) (vT 3) (vT 4 0) (vT 5 0) (vT 6) (vT 7) (vT 8)) (some (.int Rz)) := by
  refine JM.of (own := RX3) (tb := T_X3_seatedIn) (by decide) (Nat.le_of_ble_eq_true rfl) D_X3_seatedIn rfl (fun X C => ?_)
  refine J_sub (lv' := [(0, .ref (aT 0)), (1, .int x1)]) [0, 1] rfl ?_
  have B4 : ∀ (x1_4 : Int32) (n4 : Nat) (x2_4 : Int32) (x3_4 : Int32), f_X3_seatedIn_L4 vT x1_4 n4 x2_4 x3_4 = some Rz → J l { frames := 0, cells := 0, slots := 0, locals := 0 } G 4 X (QM X G 0 0 (some (.int Rz)) (wSeat G aT (aS 0) (vT 1) (vT 2) (vT 3) (vT 4 0) (vT 5 0) (vT 6) (vT 7) (vT 8))) 0 0 4 [(0, .ref (aT 0)), (1, .int x1_4), (2, .int x2_4), (3, .int x3_4)] [] (wSeat G aT (aS 0) (vT 1) (vT 2) (vT 3) (vT 4 0) (vT 5 0) (vT 6) (vT 7) (vT 8)) := by
    intro x1_4 n4
    induction n4 with
    | zero =>
      intro x2_4 x3_4 h
      exact (no_none rfl h).elim
    | succ n4 ih4 =>
      intro x2_4 x3_4 h
      replace h : f_X3_seatedIn_b4 vT x1_4 (fun x2_4 x3_4 => f_X3_seatedIn_L4 vT x1_4 n4 x2_4 x3_4) x2_4 x3_4 = some Rz := h
      unfold f_X3_seatedIn_b4 at h
      refine J_iload_n (pc := 4) C 4 rfl 3 rfl rfl ?_
      refine J_bipush (pc := 5) (v := (96 : Int32)) C 5 rfl rfl ?_
      refine J_icmp_ge (pc := 7) (tgt := 29) C 6 rfl rfl (fun c1 => ?_) (fun c1 => ?_)
      · rw [if_pos c1] at h
        refine J_iload_n (pc := 29) C 16 rfl 2 rfl rfl ?_
        cases h
        exact J_iret (pc := 30) C 17 rfl
      · rw [if_neg c1] at h
        refine J_aload_n (pc := 10) C 7 rfl 0 rfl rfl ?_
        refine J_get (pc := 11) (v := .ref (aT 1)) C 8 rfl TB_l3 rfl 0 1 rfl (by decide) k121 rfl rfl ?_
        refine J_iload_n (pc := 14) C 9 rfl 3 rfl rfl ?_
        obtain ⟨g2, h⟩ := gd_some h
        refine J_iald (pc := 15) (f := (vT 1)) (v := ((vT 1) (Int32.toNatClampNeg x3_4))) C 10 rfl 1 rfl g2 rfl ?_
        refine J_iload_n (pc := 16) C 11 rfl 1 rfl rfl ?_
        refine J_icmp_ne (pc := 17) (tgt := 23) C 12 rfl rfl (fun c3 => ?_) (fun c3 => ?_)
        · rw [if_neg c3] at h
          refine J_iinc (pc := 23) (v := (x3_4 + (1 : Int32))) (lv' := [(3, .int (x3_4 + (1 : Int32))), (0, .ref (aT 0)), (1, .int x1_4), (2, .int x2_4)]) C 14 rfl 3 rfl rfl (by decide) rfl ?_
          refine J_goto (pc := 26) (tgt := 4) C 15 rfl rfl ?_
          exact J_sub [1, 2, 3, 0] rfl (ih4 x2_4 (x3_4 + (1 : Int32)) h)
        · rw [if_pos c3] at h
          refine J_iinc (pc := 20) (v := (x2_4 + (1 : Int32))) (lv' := [(2, .int (x2_4 + (1 : Int32))), (0, .ref (aT 0)), (1, .int x1_4), (3, .int x3_4)]) C 13 rfl 2 rfl rfl (by decide) rfl ?_
          refine J_iinc (pc := 23) (v := (x3_4 + (1 : Int32))) (lv' := [(3, .int (x3_4 + (1 : Int32))), (2, .int (x2_4 + (1 : Int32))), (0, .ref (aT 0)), (1, .int x1_4)]) C 14 rfl 3 rfl rfl (by decide) rfl ?_
          refine J_goto (pc := 26) (tgt := 4) C 15 rfl rfl ?_
          exact J_sub [2, 3, 1, 0] rfl (ih4 (x2_4 + (1 : Int32)) (x3_4 + (1 : Int32)) h)
  unfold f_X3_seatedIn at h
  refine J_iconst (pc := 0) (v := (0 : Int32)) C 0 rfl rfl ?_
  refine J_istore_n (pc := 1) (lv' := [(2, .int (0 : Int32)), (0, .ref (aT 0)), (1, .int x1)]) C 1 rfl rfl (by decide) rfl ?_
  refine J_iconst (pc := 2) (v := (0 : Int32)) C 2 rfl rfl ?_
  refine J_istore_n (pc := 3) (lv' := [(3, .int (0 : Int32)), (2, .int (0 : Int32)), (0, .ref (aT 0)), (1, .int x1)]) C 3 rfl rfl (by decide) rfl ?_
  exact J_sub [2, 3, 1, 0] rfl (B4 x1 FU (0 : Int32) (0 : Int32) h)
def T_X3_isNow : List (Nat × ClassFile.Instr × Nat) := [(0, .aload_n 0, 1), (1, .getfield 12, 3), (4, .iload_n 1, 1), (5, .bipush 6, 2), (7, .idiv, 1), (8, .iload_n 1, 1), (9, .bipush 6, 2), (11, .irem, 1), (12, .iload_n 2, 1), (13, .invokevirtual 123, 3), (16, .ireturn, 1)]
theorem D_X3_isNow : ∀ q ∈ T_X3_isNow, decode cX3_isNow q.1 = .ok q.2 := by decide +kernel
theorem V_X3_isNow : Vy yX3_isNow cX3_isNow 3 (some .boolean) 2 := ⟨k180, k138, by decide +kernel⟩
theorem i_X3_isNow : Cond.instanceMethod yX3_isNow ∈ TB := k183
theorem s_X3_isNow : Cond.selects yX3_isNow.cls yX3_isNow yX3_isNow ∈ TB := k184
noncomputable def f_X3_isNow (vT : JV) (vS : JV) (x1 : Int32) (x2 : Int32) : Option (Int32) :=
  (f_X2_isSatAt vS (x1 / (6 : Int32)) (x1 - x1 / (6 : Int32) * (6 : Int32)) x2).bind (fun q1 => gd (isb q1) (some q1))
set_option maxRecDepth 100000 in
set_option maxHeartbeats 4000000 in
theorem c_X3_isNow {l : Launch} {G : JG} (aT : Nat → Nat) (aS : Nat → Nat) (vT : JV) (vS : JV) (x1 : Int32) (x2 : Int32) {Rz : Int32} (h : f_X3_isNow vT vS x1 x2 = some Rz) : JM l G yX3_isNow cX3_isNow 3 (some .boolean) 3 67 [.ref (aT 0), .int x1, .int x2] (wSeat G aT (aS 0) (vT 1) (vT 2) (vT 3) (vT 4 0) (vT 5 0) (vT 6) (vT 7) (vT 8) ++ (wSch G aS (vS 0) (vS 1) (vS 2) (vS 3) (vS 4) (vS 5) (vS 6) (vS 7) (vS 8 0) (vS 9 0))) (wSeat G aT (aS 0) (vT 1) (vT 2) (vT 3) (vT 4 0) (vT 5 0) (vT 6) (vT 7) (vT 8) ++ (wSch G aS (vS 0) (vS 1) (vS 2) (vS 3) (vS 4) (vS 5) (vS 6) (vS 7) (vS 8 0) (vS 9 0))) (some (.int Rz)) := by
  refine JM.of (own := RX3) (tb := T_X3_isNow) (by decide) (Nat.le_of_ble_eq_true rfl) D_X3_isNow rfl (fun X C => ?_)
  refine J_sub (lv' := [(0, .ref (aT 0)), (1, .int x1), (2, .int x2)]) [0, 1, 2] rfl ?_
  unfold f_X3_isNow at h
  refine J_aload_n (pc := 0) C 0 rfl 0 rfl rfl ?_
  refine J_get (pc := 1) (v := .ref (aS 0)) C 1 rfl TB_l3 rfl 0 0 rfl (by decide) k120 rfl rfl ?_
  refine J_iload_n (pc := 4) C 2 rfl 1 rfl rfl ?_
  refine J_bipush (pc := 5) (v := (6 : Int32)) C 3 rfl rfl ?_
  refine J_idiv (pc := 7) C 4 rfl (by decide) ?_
  refine J_iload_n (pc := 8) C 5 rfl 1 rfl rfl ?_
  refine J_bipush (pc := 9) (v := (6 : Int32)) C 6 rfl rfl ?_
  refine J_irem (pc := 11) C 7 rfl (by decide) ?_
  refine J_iload_n (pc := 12) C 8 rfl 2 rfl rfl ?_
  obtain ⟨q1, hq1, h⟩ := bnd h
  refine J_callV (pc := 13) (st2 := []) (st3 := [.int q1]) (ws2 := (wSeat G aT (aS 0) (vT 1) (vT 2) (vT 3) (vT 4 0) (vT 5 0) (vT 6) (vT 7) (vT 8) ++ (wSch G aS (vS 0) (vS 1) (vS 2) (vS 3) (vS 4) (vS 5) (vS 6) (vS 7) (vS 8 0) (vS 9 0)))) C 9 rfl (c_X2_isSatAt aS vS (x1 / (6 : Int32)) (x1 - x1 / (6 : Int32) * (6 : Int32)) x2 hq1) V_X2_isSatAt k181 i_X2_isSatAt s_X2_isSatAt rfl rfl ⟨Nat.le_of_ble_eq_true rfl, Nat.le_of_ble_eq_true rfl⟩ (Nat.le_of_ble_eq_true rfl) ⟨Nat.le_refl _, Nat.le_refl _⟩ 7 2 rfl rfl rfl (isC := [7, 8, 9, 10, 11, 12, 13, 14, 15]) (isR := [0, 1, 2, 3, 4, 5, 6]) (N := 16) ⟨rfl, by decide +kernel, rfl, by decide +kernel, rfl, ⟨⟨_, rfl, rfl⟩, ⟨⟨_, rfl, rfl⟩, ⟨⟨_, rfl, rfl⟩, ⟨⟨_, rfl, rfl⟩, ⟨⟨_, rfl, rfl⟩, ⟨⟨_, rfl, rfl⟩, ⟨⟨_, rfl, rfl⟩, trivial⟩⟩⟩⟩⟩⟩⟩⟩ rfl ?_
  obtain ⟨g2, h⟩ := gd_some h
  cases h
  exact J_zret (pc := 16) C 10 rfl g2
def T_X3_takenIn : List (Nat × ClassFile.Instr × Nat) := [(0, .iconst 0, 1), (1, .istore_n 3, 1), (2, .iconst 0, 1), (3, .istore 4, 2), (5, .iload 4, 2), (7, .bipush 96, 2), (9, .if_icmp .ge 33, 3), (12, .aload_n 0, 1), (13, .getfield 18, 3), (16, .iload 4, 2), (18, .iaload, 1), (19, .iload_n 1, 1), (20, .if_icmp .ne 16, 3), (23, .aload_n 0, 1), (24, .iload 4, 2), (26, .iload_n 2, 1), (27, .invokevirtual 120, 3), (30, .ifCond .eq 6, 3), (33, .iinc 3 1, 3), (36, .iinc 4 1, 3), (39, .goto (-34), 3), (42, .iload_n 3, 1), (43, .ireturn, 1)]
theorem D_X3_takenIn : ∀ q ∈ T_X3_takenIn, decode cX3_takenIn q.1 = .ok q.2 := by decide +kernel
theorem V_X3_takenIn : Vy yX3_takenIn cX3_takenIn 5 (some .int) 2 := ⟨k185, k138, by decide +kernel⟩
theorem i_X3_takenIn : Cond.instanceMethod yX3_takenIn ∈ TB := k188
theorem s_X3_takenIn : Cond.selects yX3_takenIn.cls yX3_takenIn yX3_takenIn ∈ TB := k189
noncomputable def f_X3_takenIn_b5 (vT : JV) (vS : JV) (x1_5 : Int32) (x2_5 : Int32) (r5 : Int32 → Int32 → Option (Int32)) (x3_5 : Int32) (x4_5 : Int32) : Option (Int32) :=
  (if (96 : Int32) ≤ x4_5 then some x3_5 else gd (inb x4_5 96) ((if ((vT 1) (Int32.toNatClampNeg x4_5)) = x1_5 then (f_X3_isNow vT vS x4_5 x2_5).bind (fun q4 => (if q4 = 0 then r5 x3_5 (x4_5 + (1 : Int32)) else r5 (x3_5 + (1 : Int32)) (x4_5 + (1 : Int32)))) else r5 x3_5 (x4_5 + (1 : Int32)))))
noncomputable def f_X3_takenIn_L5 (vT : JV) (vS : JV) (x1_5 : Int32) (x2_5 : Int32) (n : Nat) (x3_5 : Int32) (x4_5 : Int32) : Option (Int32) :=
  lp (fun (rec : Int32 × Int32 → Option (Int32)) a => f_X3_takenIn_b5 vT vS x1_5 x2_5 (fun x3_5 x4_5 => rec (x3_5, x4_5)) a.1 a.2) n (x3_5, x4_5)
noncomputable def f_X3_takenIn (vT : JV) (vS : JV) (x1 : Int32) (x2 : Int32) : Option (Int32) :=
  f_X3_takenIn_L5 vT vS x1 x2 FU (0 : Int32) (0 : Int32)
set_option maxRecDepth 100000 in
set_option maxHeartbeats 4000000 in
theorem c_X3_takenIn {l : Launch} {G : JG} (aT : Nat → Nat) (aS : Nat → Nat) (vT : JV) (vS : JV) (x1 : Int32) (x2 : Int32) {Rz : Int32} (h : f_X3_takenIn vT vS x1 x2 = some Rz) : JM l G yX3_takenIn cX3_takenIn 5 (some .int) 4 89 [.ref (aT 0), .int x1, .int x2] (wSeat G aT (aS 0) (vT 1) (vT 2) (vT 3) (vT 4 0) (vT 5 0) (vT 6) (vT 7) (vT 8) ++ (wSch G aS (vS 0) (vS 1) (vS 2) (vS 3) (vS 4) (vS 5) (vS 6) (vS 7) (vS 8 0) (vS 9 0))) (wSeat G aT (aS 0) (vT 1) (vT 2) (vT 3) (vT 4 0) (vT 5 0) (vT 6) (vT 7) (vT 8) ++ (wSch G aS (vS 0) (vS 1) (vS 2) (vS 3) (vS 4) (vS 5) (vS 6) (vS 7) (vS 8 0) (vS 9 0))) (some (.int Rz)) := by
  refine JM.of (own := RX3) (tb := T_X3_takenIn) (by decide) (Nat.le_of_ble_eq_true rfl) D_X3_takenIn rfl (fun X C => ?_)
  refine J_sub (lv' := [(0, .ref (aT 0)), (1, .int x1), (2, .int x2)]) [0, 1, 2] rfl ?_
  have B5 : ∀ (x1_5 : Int32) (x2_5 : Int32) (n5 : Nat) (x3_5 : Int32) (x4_5 : Int32), f_X3_takenIn_L5 vT vS x1_5 x2_5 n5 x3_5 x4_5 = some Rz → J l { frames := 4, cells := 0, slots := 0, locals := 89 } G 5 X (QM X G 0 0 (some (.int Rz)) (wSeat G aT (aS 0) (vT 1) (vT 2) (vT 3) (vT 4 0) (vT 5 0) (vT 6) (vT 7) (vT 8) ++ (wSch G aS (vS 0) (vS 1) (vS 2) (vS 3) (vS 4) (vS 5) (vS 6) (vS 7) (vS 8 0) (vS 9 0)))) 0 0 5 [(0, .ref (aT 0)), (1, .int x1_5), (2, .int x2_5), (3, .int x3_5), (4, .int x4_5)] [] (wSeat G aT (aS 0) (vT 1) (vT 2) (vT 3) (vT 4 0) (vT 5 0) (vT 6) (vT 7) (vT 8) ++ (wSch G aS (vS 0) (vS 1) (vS 2) (vS 3) (vS 4) (vS 5) (vS 6) (vS 7) (vS 8 0) (vS 9 0))) := by
    intro x1_5 x2_5 n5
    induction n5 with
    | zero =>
      intro x3_5 x4_5 h
      exact (no_none rfl h).elim
    | succ n5 ih5 =>
      intro x3_5 x4_5 h
      replace h : f_X3_takenIn_b5 vT vS x1_5 x2_5 (fun x3_5 x4_5 => f_X3_takenIn_L5 vT vS x1_5 x2_5 n5 x3_5 x4_5) x3_5 x4_5 = some Rz := h
      unfold f_X3_takenIn_b5 at h
      refine J_iload (pc := 5) C 4 rfl 4 rfl ?_
      refine J_bipush (pc := 7) (v := (96 : Int32)) C 5 rfl rfl ?_
      refine J_icmp_ge (pc := 9) (tgt := 42) C 6 rfl rfl (fun c1 => ?_) (fun c1 => ?_)
      · rw [if_pos c1] at h
        refine J_iload_n (pc := 42) C 21 rfl 3 rfl rfl ?_
        cases h
        exact J_iret (pc := 43) C 22 rfl
      · rw [if_neg c1] at h
        refine J_aload_n (pc := 12) C 7 rfl 0 rfl rfl ?_
        refine J_get (pc := 13) (v := .ref (aT 1)) C 8 rfl TB_l3 rfl 0 1 rfl (by decide) k121 rfl rfl ?_
        refine J_iload (pc := 16) C 9 rfl 4 rfl ?_
        obtain ⟨g2, h⟩ := gd_some h
        refine J_iald (pc := 18) (f := (vT 1)) (v := ((vT 1) (Int32.toNatClampNeg x4_5))) C 10 rfl 1 rfl g2 rfl ?_
        refine J_iload_n (pc := 19) C 11 rfl 1 rfl rfl ?_
        refine J_icmp_ne (pc := 20) (tgt := 36) C 12 rfl rfl (fun c3 => ?_) (fun c3 => ?_)
        · rw [if_neg c3] at h
          refine J_iinc (pc := 36) (v := (x4_5 + (1 : Int32))) (lv' := [(4, .int (x4_5 + (1 : Int32))), (0, .ref (aT 0)), (1, .int x1_5), (2, .int x2_5), (3, .int x3_5)]) C 19 rfl 4 rfl rfl (by decide) rfl ?_
          refine J_goto (pc := 39) (tgt := 5) C 20 rfl rfl ?_
          exact J_sub [1, 2, 3, 4, 0] rfl (ih5 x3_5 (x4_5 + (1 : Int32)) h)
        · rw [if_pos c3] at h
          refine J_aload_n (pc := 23) C 13 rfl 0 rfl rfl ?_
          refine J_iload (pc := 24) C 14 rfl 4 rfl ?_
          refine J_iload_n (pc := 26) C 15 rfl 2 rfl rfl ?_
          obtain ⟨q4, hq4, h⟩ := bnd h
          refine J_callV (pc := 27) (st2 := []) (st3 := [.int q4]) (ws2 := (wSeat G aT (aS 0) (vT 1) (vT 2) (vT 3) (vT 4 0) (vT 5 0) (vT 6) (vT 7) (vT 8) ++ (wSch G aS (vS 0) (vS 1) (vS 2) (vS 3) (vS 4) (vS 5) (vS 6) (vS 7) (vS 8 0) (vS 9 0)))) C 16 rfl (c_X3_isNow aT aS vT vS x4_5 x2_5 hq4) V_X3_isNow k182 i_X3_isNow s_X3_isNow rfl rfl ⟨Nat.le_of_ble_eq_true rfl, Nat.le_of_ble_eq_true rfl⟩ (Nat.le_of_ble_eq_true rfl) ⟨Nat.le_refl _, Nat.le_refl _⟩ 0 3 rfl rfl rfl (isC := [0, 1, 2, 3, 4, 5, 6, 7, 8, 9, 10, 11, 12, 13, 14, 15]) (isR := []) (N := 16) ⟨rfl, by decide +kernel, rfl, by decide +kernel, rfl, trivial⟩ rfl ?_
          refine J_if_eq (pc := 30) (tgt := 36) C 17 rfl rfl (fun c5 => ?_) (fun c5 => ?_)
          · rw [if_pos c5] at h
            refine J_iinc (pc := 36) (v := (x4_5 + (1 : Int32))) (lv' := [(4, .int (x4_5 + (1 : Int32))), (0, .ref (aT 0)), (1, .int x1_5), (2, .int x2_5), (3, .int x3_5)]) C 19 rfl 4 rfl rfl (by decide) rfl ?_
            refine J_goto (pc := 39) (tgt := 5) C 20 rfl rfl ?_
            exact J_sub [1, 2, 3, 4, 0] rfl (ih5 x3_5 (x4_5 + (1 : Int32)) h)
          · rw [if_neg c5] at h
            refine J_iinc (pc := 33) (v := (x3_5 + (1 : Int32))) (lv' := [(3, .int (x3_5 + (1 : Int32))), (0, .ref (aT 0)), (1, .int x1_5), (2, .int x2_5), (4, .int x4_5)]) C 18 rfl 3 rfl rfl (by decide) rfl ?_
            refine J_iinc (pc := 36) (v := (x4_5 + (1 : Int32))) (lv' := [(4, .int (x4_5 + (1 : Int32))), (3, .int (x3_5 + (1 : Int32))), (0, .ref (aT 0)), (1, .int x1_5), (2, .int x2_5)]) C 19 rfl 4 rfl rfl (by decide) rfl ?_
            refine J_goto (pc := 39) (tgt := 5) C 20 rfl rfl ?_
            exact J_sub [2, 3, 4, 1, 0] rfl (ih5 (x3_5 + (1 : Int32)) (x4_5 + (1 : Int32)) h)
  unfold f_X3_takenIn at h
  refine J_iconst (pc := 0) (v := (0 : Int32)) C 0 rfl rfl ?_
  refine J_istore_n (pc := 1) (lv' := [(3, .int (0 : Int32)), (0, .ref (aT 0)), (1, .int x1), (2, .int x2)]) C 1 rfl rfl (by decide) rfl ?_
  refine J_iconst (pc := 2) (v := (0 : Int32)) C 2 rfl rfl ?_
  refine J_istore (pc := 3) (lv' := [(4, .int (0 : Int32)), (3, .int (0 : Int32)), (0, .ref (aT 0)), (1, .int x1), (2, .int x2)]) C 3 rfl (by decide) rfl ?_
  exact J_sub [2, 3, 4, 1, 0] rfl (B5 x1 x2 FU (0 : Int32) (0 : Int32) h)
def T_X3_mostTakenIn : List (Nat × ClassFile.Instr × Nat) := [(0, .iconst 0, 1), (1, .istore_n 2, 1), (2, .iconst 0, 1), (3, .istore_n 3, 1), (4, .iload_n 3, 1), (5, .bipush 6, 2), (7, .if_icmp .ge 27, 3), (10, .iload_n 2, 1), (11, .aload_n 0, 1), (12, .iload_n 1, 1), (13, .aload_n 0, 1), (14, .getfield 12, 3), (17, .iload_n 3, 1), (18, .invokevirtual 102, 3), (21, .invokevirtual 112, 3), (24, .invokestatic 115, 3), (27, .istore_n 2, 1), (28, .iinc 3 1, 3), (31, .goto (-27), 3), (34, .iload_n 2, 1), (35, .ireturn, 1)]
theorem D_X3_mostTakenIn : ∀ q ∈ T_X3_mostTakenIn, decode cX3_mostTakenIn q.1 = .ok q.2 := by decide +kernel
theorem V_X3_mostTakenIn : Vy yX3_mostTakenIn cX3_mostTakenIn 4 (some .int) 1 := ⟨k190, k138, by decide +kernel⟩
theorem i_X3_mostTakenIn : Cond.instanceMethod yX3_mostTakenIn ∈ TB := k300
theorem s_X3_mostTakenIn : Cond.selects yX3_mostTakenIn.cls yX3_mostTakenIn yX3_mostTakenIn ∈ TB := k301
noncomputable def f_X3_mostTakenIn_b4 (vT : JV) (vS : JV) (x1_4 : Int32) (r4 : Int32 → Int32 → Option (Int32)) (x2_4 : Int32) (x3_4 : Int32) : Option (Int32) :=
  (if (6 : Int32) ≤ x3_4 then some x2_4 else (f_X2_beginOf vS x3_4).bind (fun q2 => (f_X3_takenIn vT vS x1_4 q2).bind (fun q3 => r4 (mx x2_4 q3) (x3_4 + (1 : Int32)))))
noncomputable def f_X3_mostTakenIn_L4 (vT : JV) (vS : JV) (x1_4 : Int32) (n : Nat) (x2_4 : Int32) (x3_4 : Int32) : Option (Int32) :=
  lp (fun (rec : Int32 × Int32 → Option (Int32)) a => f_X3_mostTakenIn_b4 vT vS x1_4 (fun x2_4 x3_4 => rec (x2_4, x3_4)) a.1 a.2) n (x2_4, x3_4)
noncomputable def f_X3_mostTakenIn (vT : JV) (vS : JV) (x1 : Int32) : Option (Int32) :=
  f_X3_mostTakenIn_L4 vT vS x1 FU (0 : Int32) (0 : Int32)
set_option maxRecDepth 100000 in
set_option maxHeartbeats 4000000 in
theorem c_X3_mostTakenIn {l : Launch} {G : JG} (aT : Nat → Nat) (aS : Nat → Nat) (vT : JV) (vS : JV) (x1 : Int32) {Rz : Int32} (h : f_X3_mostTakenIn vT vS x1 = some Rz) : JM l G yX3_mostTakenIn cX3_mostTakenIn 4 (some .int) 5 113 [.ref (aT 0), .int x1] (wSeat G aT (aS 0) (vT 1) (vT 2) (vT 3) (vT 4 0) (vT 5 0) (vT 6) (vT 7) (vT 8) ++ (wSch G aS (vS 0) (vS 1) (vS 2) (vS 3) (vS 4) (vS 5) (vS 6) (vS 7) (vS 8 0) (vS 9 0))) (wSeat G aT (aS 0) (vT 1) (vT 2) (vT 3) (vT 4 0) (vT 5 0) (vT 6) (vT 7) (vT 8) ++ (wSch G aS (vS 0) (vS 1) (vS 2) (vS 3) (vS 4) (vS 5) (vS 6) (vS 7) (vS 8 0) (vS 9 0))) (some (.int Rz)) := by
  refine JM.of (own := RX3) (tb := T_X3_mostTakenIn) (by decide) (Nat.le_of_ble_eq_true rfl) D_X3_mostTakenIn rfl (fun X C => ?_)
  refine J_sub (lv' := [(0, .ref (aT 0)), (1, .int x1)]) [0, 1] rfl ?_
  have B4 : ∀ (x1_4 : Int32) (n4 : Nat) (x2_4 : Int32) (x3_4 : Int32), f_X3_mostTakenIn_L4 vT vS x1_4 n4 x2_4 x3_4 = some Rz → J l { frames := 5, cells := 0, slots := 0, locals := 113 } G 4 X (QM X G 0 0 (some (.int Rz)) (wSeat G aT (aS 0) (vT 1) (vT 2) (vT 3) (vT 4 0) (vT 5 0) (vT 6) (vT 7) (vT 8) ++ (wSch G aS (vS 0) (vS 1) (vS 2) (vS 3) (vS 4) (vS 5) (vS 6) (vS 7) (vS 8 0) (vS 9 0)))) 0 0 4 [(0, .ref (aT 0)), (1, .int x1_4), (2, .int x2_4), (3, .int x3_4)] [] (wSeat G aT (aS 0) (vT 1) (vT 2) (vT 3) (vT 4 0) (vT 5 0) (vT 6) (vT 7) (vT 8) ++ (wSch G aS (vS 0) (vS 1) (vS 2) (vS 3) (vS 4) (vS 5) (vS 6) (vS 7) (vS 8 0) (vS 9 0))) := by
    intro x1_4 n4
    induction n4 with
    | zero =>
      intro x2_4 x3_4 h
      exact (no_none rfl h).elim
    | succ n4 ih4 =>
      intro x2_4 x3_4 h
      replace h : f_X3_mostTakenIn_b4 vT vS x1_4 (fun x2_4 x3_4 => f_X3_mostTakenIn_L4 vT vS x1_4 n4 x2_4 x3_4) x2_4 x3_4 = some Rz := h
      unfold f_X3_mostTakenIn_b4 at h
      refine J_iload_n (pc := 4) C 4 rfl 3 rfl rfl ?_
      refine J_bipush (pc := 5) (v := (6 : Int32)) C 5 rfl rfl ?_
      refine J_icmp_ge (pc := 7) (tgt := 34) C 6 rfl rfl (fun c1 => ?_) (fun c1 => ?_)
      · rw [if_pos c1] at h
        refine J_iload_n (pc := 34) C 19 rfl 2 rfl rfl ?_
        cases h
        exact J_iret (pc := 35) C 20 rfl
      · rw [if_neg c1] at h
        refine J_iload_n (pc := 10) C 7 rfl 2 rfl rfl ?_
        refine J_aload_n (pc := 11) C 8 rfl 0 rfl rfl ?_
        refine J_iload_n (pc := 12) C 9 rfl 1 rfl rfl ?_
        refine J_aload_n (pc := 13) C 10 rfl 0 rfl rfl ?_
        refine J_get (pc := 14) (v := .ref (aS 0)) C 11 rfl TB_l3 rfl 0 0 rfl (by decide) k120 rfl rfl ?_
        refine J_iload_n (pc := 17) C 12 rfl 3 rfl rfl ?_
        obtain ⟨q2, hq2, h⟩ := bnd h
        refine J_callV (pc := 18) (st2 := [.int x1_4, .ref (aT 0), .int x2_4]) (st3 := [.int q2, .int x1_4, .ref (aT 0), .int x2_4]) (ws2 := (wSeat G aT (aS 0) (vT 1) (vT 2) (vT 3) (vT 4 0) (vT 5 0) (vT 6) (vT 7) (vT 8) ++ (wSch G aS (vS 0) (vS 1) (vS 2) (vS 3) (vS 4) (vS 5) (vS 6) (vS 7) (vS 8 0) (vS 9 0)))) C 13 rfl (c_X2_beginOf aS vS x3_4 hq2) V_X2_beginOf k133 i_X2_beginOf s_X2_beginOf rfl rfl ⟨Nat.le_of_ble_eq_true rfl, Nat.le_of_ble_eq_true rfl⟩ (Nat.le_of_ble_eq_true rfl) ⟨Nat.le_refl _, Nat.le_refl _⟩ 7 2 rfl rfl rfl (isC := [7, 8, 9, 10, 11, 12, 13, 14, 15]) (isR := [0, 1, 2, 3, 4, 5, 6]) (N := 16) ⟨rfl, by decide +kernel, rfl, by decide +kernel, rfl, ⟨⟨_, rfl, rfl⟩, ⟨⟨_, rfl, rfl⟩, ⟨⟨_, rfl, rfl⟩, ⟨⟨_, rfl, rfl⟩, ⟨⟨_, rfl, rfl⟩, ⟨⟨_, rfl, rfl⟩, ⟨⟨_, rfl, rfl⟩, trivial⟩⟩⟩⟩⟩⟩⟩⟩ rfl ?_
        obtain ⟨q3, hq3, h⟩ := bnd h
        refine J_callV (pc := 21) (st2 := [.int x2_4]) (st3 := [.int q3, .int x2_4]) (ws2 := (wSeat G aT (aS 0) (vT 1) (vT 2) (vT 3) (vT 4 0) (vT 5 0) (vT 6) (vT 7) (vT 8) ++ (wSch G aS (vS 0) (vS 1) (vS 2) (vS 3) (vS 4) (vS 5) (vS 6) (vS 7) (vS 8 0) (vS 9 0)))) C 14 rfl (c_X3_takenIn aT aS vT vS x1_4 q2 hq3) V_X3_takenIn k187 i_X3_takenIn s_X3_takenIn rfl rfl ⟨Nat.le_of_ble_eq_true rfl, Nat.le_of_ble_eq_true rfl⟩ (Nat.le_of_ble_eq_true rfl) ⟨Nat.le_refl _, Nat.le_refl _⟩ 0 3 rfl rfl rfl (isC := [0, 1, 2, 3, 4, 5, 6, 7, 8, 9, 10, 11, 12, 13, 14, 15]) (isR := []) (N := 16) ⟨rfl, by decide +kernel, rfl, by decide +kernel, rfl, trivial⟩ rfl ?_
        refine J_mmax (pc := 24) C 15 rfl k186 (by decide) (Nat.le_of_ble_eq_true rfl) (Nat.le_refl _) (Nat.le_refl _) ?_
        refine J_istore_n (pc := 27) (lv' := [(2, .int (mx x2_4 q3)), (0, .ref (aT 0)), (1, .int x1_4), (3, .int x3_4)]) C 16 rfl rfl (by decide) rfl ?_
        refine J_iinc (pc := 28) (v := (x3_4 + (1 : Int32))) (lv' := [(3, .int (x3_4 + (1 : Int32))), (2, .int (mx x2_4 q3)), (0, .ref (aT 0)), (1, .int x1_4)]) C 17 rfl 3 rfl rfl (by decide) rfl ?_
        refine J_goto (pc := 31) (tgt := 4) C 18 rfl rfl ?_
        exact J_sub [2, 3, 1, 0] rfl (ih4 (mx x2_4 q3) (x3_4 + (1 : Int32)) h)
  unfold f_X3_mostTakenIn at h
  refine J_iconst (pc := 0) (v := (0 : Int32)) C 0 rfl rfl ?_
  refine J_istore_n (pc := 1) (lv' := [(2, .int (0 : Int32)), (0, .ref (aT 0)), (1, .int x1)]) C 1 rfl rfl (by decide) rfl ?_
  refine J_iconst (pc := 2) (v := (0 : Int32)) C 2 rfl rfl ?_
  refine J_istore_n (pc := 3) (lv' := [(3, .int (0 : Int32)), (2, .int (0 : Int32)), (0, .ref (aT 0)), (1, .int x1)]) C 3 rfl rfl (by decide) rfl ?_
  exact J_sub [2, 3, 1, 0] rfl (B4 x1 FU (0 : Int32) (0 : Int32) h)
def T_X3_sittingAt : List (Nat × ClassFile.Instr × Nat) := [(0, .iconst 0, 1), (1, .istore 4, 2), (3, .iload 4, 2), (5, .bipush 96, 2), (7, .if_icmp .ge 44, 3), (10, .aload_n 0, 1), (11, .getfield 18, 3), (14, .iload 4, 2), (16, .iaload, 1), (17, .iload_n 1, 1), (18, .if_icmp .ne 27, 3), (21, .aload_n 0, 1), (22, .getfield 22, 3), (25, .iload 4, 2), (27, .iaload, 1), (28, .iload_n 2, 1), (29, .if_icmp .ne 16, 3), (32, .aload_n 0, 1), (33, .iload 4, 2), (35, .iload_n 3, 1), (36, .invokevirtual 120, 3), (39, .ifCond .eq 6, 3), (42, .iload 4, 2), (44, .ireturn, 1), (45, .iinc 4 1, 3), (48, .goto (-45), 3), (51, .bipush (-6), 2), (53, .ireturn, 1)]
theorem D_X3_sittingAt : ∀ q ∈ T_X3_sittingAt, decode cX3_sittingAt q.1 = .ok q.2 := by decide +kernel
theorem V_X3_sittingAt : Vy yX3_sittingAt cX3_sittingAt 5 (some .int) 3 := ⟨k191, k138, by decide +kernel⟩
theorem i_X3_sittingAt : Cond.instanceMethod yX3_sittingAt ∈ TB := k322
theorem s_X3_sittingAt : Cond.selects yX3_sittingAt.cls yX3_sittingAt yX3_sittingAt ∈ TB := k323
noncomputable def f_X3_sittingAt_b3 (vT : JV) (vS : JV) (x1_3 : Int32) (x2_3 : Int32) (x3_3 : Int32) (r3 : Int32 → Option (Int32)) (x4_3 : Int32) : Option (Int32) :=
  (if (96 : Int32) ≤ x4_3 then some (-6 : Int32) else gd (inb x4_3 96) ((if ((vT 1) (Int32.toNatClampNeg x4_3)) = x1_3 then gd (inb x4_3 96) ((if ((vT 2) (Int32.toNatClampNeg x4_3)) = x2_3 then (f_X3_isNow vT vS x4_3 x3_3).bind (fun q6 => (if q6 = 0 then r3 (x4_3 + (1 : Int32)) else some x4_3)) else r3 (x4_3 + (1 : Int32)))) else r3 (x4_3 + (1 : Int32)))))
noncomputable def f_X3_sittingAt_L3 (vT : JV) (vS : JV) (x1_3 : Int32) (x2_3 : Int32) (x3_3 : Int32) (n : Nat) (x4_3 : Int32) : Option (Int32) :=
  lp (fun (rec : Int32 → Option (Int32)) a => f_X3_sittingAt_b3 vT vS x1_3 x2_3 x3_3 (fun x4_3 => rec x4_3) a) n x4_3
noncomputable def f_X3_sittingAt (vT : JV) (vS : JV) (x1 : Int32) (x2 : Int32) (x3 : Int32) : Option (Int32) :=
  f_X3_sittingAt_L3 vT vS x1 x2 x3 FU (0 : Int32)
set_option maxRecDepth 100000 in
set_option maxHeartbeats 4000000 in
theorem c_X3_sittingAt {l : Launch} {G : JG} (aT : Nat → Nat) (aS : Nat → Nat) (vT : JV) (vS : JV) (x1 : Int32) (x2 : Int32) (x3 : Int32) {Rz : Int32} (h : f_X3_sittingAt vT vS x1 x2 x3 = some Rz) : JM l G yX3_sittingAt cX3_sittingAt 5 (some .int) 4 89 [.ref (aT 0), .int x1, .int x2, .int x3] (wSeat G aT (aS 0) (vT 1) (vT 2) (vT 3) (vT 4 0) (vT 5 0) (vT 6) (vT 7) (vT 8) ++ (wSch G aS (vS 0) (vS 1) (vS 2) (vS 3) (vS 4) (vS 5) (vS 6) (vS 7) (vS 8 0) (vS 9 0))) (wSeat G aT (aS 0) (vT 1) (vT 2) (vT 3) (vT 4 0) (vT 5 0) (vT 6) (vT 7) (vT 8) ++ (wSch G aS (vS 0) (vS 1) (vS 2) (vS 3) (vS 4) (vS 5) (vS 6) (vS 7) (vS 8 0) (vS 9 0))) (some (.int Rz)) := by
  refine JM.of (own := RX3) (tb := T_X3_sittingAt) (by decide) (Nat.le_of_ble_eq_true rfl) D_X3_sittingAt rfl (fun X C => ?_)
  refine J_sub (lv' := [(0, .ref (aT 0)), (1, .int x1), (2, .int x2), (3, .int x3)]) [0, 1, 2, 3] rfl ?_
  have B3 : ∀ (x1_3 : Int32) (x2_3 : Int32) (x3_3 : Int32) (n3 : Nat) (x4_3 : Int32), f_X3_sittingAt_L3 vT vS x1_3 x2_3 x3_3 n3 x4_3 = some Rz → J l { frames := 4, cells := 0, slots := 0, locals := 89 } G 5 X (QM X G 0 0 (some (.int Rz)) (wSeat G aT (aS 0) (vT 1) (vT 2) (vT 3) (vT 4 0) (vT 5 0) (vT 6) (vT 7) (vT 8) ++ (wSch G aS (vS 0) (vS 1) (vS 2) (vS 3) (vS 4) (vS 5) (vS 6) (vS 7) (vS 8 0) (vS 9 0)))) 0 0 3 [(0, .ref (aT 0)), (1, .int x1_3), (2, .int x2_3), (3, .int x3_3), (4, .int x4_3)] [] (wSeat G aT (aS 0) (vT 1) (vT 2) (vT 3) (vT 4 0) (vT 5 0) (vT 6) (vT 7) (vT 8) ++ (wSch G aS (vS 0) (vS 1) (vS 2) (vS 3) (vS 4) (vS 5) (vS 6) (vS 7) (vS 8 0) (vS 9 0))) := by
    intro x1_3 x2_3 x3_3 n3
    induction n3 with
    | zero =>
      intro x4_3 h
      exact (no_none rfl h).elim
    | succ n3 ih3 =>
      intro x4_3 h
      replace h : f_X3_sittingAt_b3 vT vS x1_3 x2_3 x3_3 (fun x4_3 => f_X3_sittingAt_L3 vT vS x1_3 x2_3 x3_3 n3 x4_3) x4_3 = some Rz := h
      unfold f_X3_sittingAt_b3 at h
      refine J_iload (pc := 3) C 2 rfl 4 rfl ?_
      refine J_bipush (pc := 5) (v := (96 : Int32)) C 3 rfl rfl ?_
      refine J_icmp_ge (pc := 7) (tgt := 51) C 4 rfl rfl (fun c1 => ?_) (fun c1 => ?_)
      · rw [if_pos c1] at h
        refine J_bipush (pc := 51) (v := (-6 : Int32)) C 26 rfl rfl ?_
        cases h
        exact J_iret (pc := 53) C 27 rfl
      · rw [if_neg c1] at h
        refine J_aload_n (pc := 10) C 5 rfl 0 rfl rfl ?_
        refine J_get (pc := 11) (v := .ref (aT 1)) C 6 rfl TB_l3 rfl 0 1 rfl (by decide) k121 rfl rfl ?_
        refine J_iload (pc := 14) C 7 rfl 4 rfl ?_
        obtain ⟨g2, h⟩ := gd_some h
        refine J_iald (pc := 16) (f := (vT 1)) (v := ((vT 1) (Int32.toNatClampNeg x4_3))) C 8 rfl 1 rfl g2 rfl ?_
        refine J_iload_n (pc := 17) C 9 rfl 1 rfl rfl ?_
        refine J_icmp_ne (pc := 18) (tgt := 45) C 10 rfl rfl (fun c3 => ?_) (fun c3 => ?_)
        · rw [if_neg c3] at h
          refine J_iinc (pc := 45) (v := (x4_3 + (1 : Int32))) (lv' := [(4, .int (x4_3 + (1 : Int32))), (0, .ref (aT 0)), (1, .int x1_3), (2, .int x2_3), (3, .int x3_3)]) C 24 rfl 4 rfl rfl (by decide) rfl ?_
          refine J_goto (pc := 48) (tgt := 3) C 25 rfl rfl ?_
          exact J_sub [1, 2, 3, 4, 0] rfl (ih3 (x4_3 + (1 : Int32)) h)
        · rw [if_pos c3] at h
          refine J_aload_n (pc := 21) C 11 rfl 0 rfl rfl ?_
          refine J_get (pc := 22) (v := .ref (aT 2)) C 12 rfl TB_l3 rfl 0 2 rfl (by decide) k122 rfl rfl ?_
          refine J_iload (pc := 25) C 13 rfl 4 rfl ?_
          obtain ⟨g4, h⟩ := gd_some h
          refine J_iald (pc := 27) (f := (vT 2)) (v := ((vT 2) (Int32.toNatClampNeg x4_3))) C 14 rfl 2 rfl g4 rfl ?_
          refine J_iload_n (pc := 28) C 15 rfl 2 rfl rfl ?_
          refine J_icmp_ne (pc := 29) (tgt := 45) C 16 rfl rfl (fun c5 => ?_) (fun c5 => ?_)
          · rw [if_neg c5] at h
            refine J_iinc (pc := 45) (v := (x4_3 + (1 : Int32))) (lv' := [(4, .int (x4_3 + (1 : Int32))), (0, .ref (aT 0)), (1, .int x1_3), (2, .int x2_3), (3, .int x3_3)]) C 24 rfl 4 rfl rfl (by decide) rfl ?_
            refine J_goto (pc := 48) (tgt := 3) C 25 rfl rfl ?_
            exact J_sub [1, 2, 3, 4, 0] rfl (ih3 (x4_3 + (1 : Int32)) h)
          · rw [if_pos c5] at h
            refine J_aload_n (pc := 32) C 17 rfl 0 rfl rfl ?_
            refine J_iload (pc := 33) C 18 rfl 4 rfl ?_
            refine J_iload_n (pc := 35) C 19 rfl 3 rfl rfl ?_
            obtain ⟨q6, hq6, h⟩ := bnd h
            refine J_callV (pc := 36) (st2 := []) (st3 := [.int q6]) (ws2 := (wSeat G aT (aS 0) (vT 1) (vT 2) (vT 3) (vT 4 0) (vT 5 0) (vT 6) (vT 7) (vT 8) ++ (wSch G aS (vS 0) (vS 1) (vS 2) (vS 3) (vS 4) (vS 5) (vS 6) (vS 7) (vS 8 0) (vS 9 0)))) C 20 rfl (c_X3_isNow aT aS vT vS x4_3 x3_3 hq6) V_X3_isNow k182 i_X3_isNow s_X3_isNow rfl rfl ⟨Nat.le_of_ble_eq_true rfl, Nat.le_of_ble_eq_true rfl⟩ (Nat.le_of_ble_eq_true rfl) ⟨Nat.le_refl _, Nat.le_refl _⟩ 0 3 rfl rfl rfl (isC := [0, 1, 2, 3, 4, 5, 6, 7, 8, 9, 10, 11, 12, 13, 14, 15]) (isR := []) (N := 16) ⟨rfl, by decide +kernel, rfl, by decide +kernel, rfl, trivial⟩ rfl ?_
            refine J_if_eq (pc := 39) (tgt := 45) C 21 rfl rfl (fun c7 => ?_) (fun c7 => ?_)
            · rw [if_pos c7] at h
              refine J_iinc (pc := 45) (v := (x4_3 + (1 : Int32))) (lv' := [(4, .int (x4_3 + (1 : Int32))), (0, .ref (aT 0)), (1, .int x1_3), (2, .int x2_3), (3, .int x3_3)]) C 24 rfl 4 rfl rfl (by decide) rfl ?_
              refine J_goto (pc := 48) (tgt := 3) C 25 rfl rfl ?_
              exact J_sub [1, 2, 3, 4, 0] rfl (ih3 (x4_3 + (1 : Int32)) h)
            · rw [if_neg c7] at h
              refine J_iload (pc := 42) C 22 rfl 4 rfl ?_
              cases h
              exact J_iret (pc := 44) C 23 rfl
  unfold f_X3_sittingAt at h
  refine J_iconst (pc := 0) (v := (0 : Int32)) C 0 rfl rfl ?_
  refine J_istore (pc := 1) (lv' := [(4, .int (0 : Int32)), (0, .ref (aT 0)), (1, .int x1), (2, .int x2), (3, .int x3)]) C 1 rfl (by decide) rfl ?_
  exact J_sub [1, 2, 3, 4, 0] rfl (B3 x1 x2 x3 FU (0 : Int32) h)
end
section
def T_X0_dropOldest : List (Nat × ClassFile.Instr × Nat) := [(0, .aload_n 0, 1), (1, .getfield 11, 3), (4, .iconst 0, 1), (5, .aaload, 1), (6, .astore_n 1, 1), (7, .iconst 0, 1), (8, .istore_n 2, 1), (9, .iload_n 2, 1), (10, .iconst 5, 1), (11, .if_icmp .ge 23, 3), (14, .aload_n 0, 1), (15, .getfield 11, 3), (18, .iload_n 2, 1), (19, .aload_n 0, 1), (20, .getfield 11, 3), (23, .iload_n 2, 1), (24, .iconst 1, 1), (25, .iadd, 1), (26, .aaload, 1), (27, .aastore, 1), (28, .iinc 2 1, 3), (31, .goto (-22), 3), (34, .aload_n 0, 1), (35, .getfield 11, 3), (38, .iconst 5, 1), (39, .aload_n 1, 1), (40, .aastore, 1), (41, .aload_n 0, 1), (42, .dup, 1), (43, .getfield 17, 3), (46, .iconst 1, 1), (47, .isub, 1), (48, .putfield 17, 3), (51, .return_, 1)]
theorem D_X0_dropOldest : ∀ q ∈ T_X0_dropOldest, decode cX0_dropOldest q.1 = .ok q.2 := by decide +kernel
theorem V_X0_dropOldest : Vy yX0_dropOldest cX0_dropOldest 3 none 0 := ⟨k24, k30, by decide +kernel⟩
theorem i_X0_dropOldest : Cond.instanceMethod yX0_dropOldest ∈ TB := k28
theorem s_X0_dropOldest : Cond.selects yX0_dropOldest.cls yX0_dropOldest yX0_dropOldest ∈ TB := k29
noncomputable def f_X0_dropOldest (hA : Nat → Nat → Nat) (hV : Nat → JV) (hZ : JV)  : Option ((Nat → Nat → Nat) × (Nat → JV) × JV) :=
  some ((rot6 hA), (rot6 hV), (up2 hZ 1 0 ((hZ 1 0) - (1 : Int32))))
set_option maxRecDepth 100000 in
set_option maxHeartbeats 4000000 in
theorem c_X0_dropOldest {l : Launch} {G : JG} (aH : Nat → Nat) (hA : Nat → Nat → Nat) (hV : Nat → JV) (hZ : JV)  {Rz : (Nat → Nat → Nat) × (Nat → JV) × JV} (h : f_X0_dropOldest hA hV hZ = some Rz) : JM l G yX0_dropOldest cX0_dropOldest 3 none 0 0 [.ref (aH 0)] (wHis G aH hA hV (hZ 1 0)) (wHis G aH (Rz.1) (Rz.2.1) ((Rz.2.2) 1 0)) none := by
  refine JM.of (own := RX0) (tb := T_X0_dropOldest) (by decide) (Nat.le_of_ble_eq_true rfl) D_X0_dropOldest rfl (fun X C => ?_)
  refine J_sub (lv' := [(0, .ref (aH 0))]) [0] rfl ?_
  have h6 : ∀ i : Nat, i < 6 → (va_up (va_up (va_up (va_up (va_up (va_up (fun i => some (hA i 0)) 0 (some (hA 1 0))) 1 (some (hA 2 0))) 2 (some (hA 3 0))) 3 (some (hA 4 0))) 4 (some (hA 5 0))) 5 (some (hA 0 0))) i = some (rot6 hA i 0) := by
    intro i hi
    rcases (show i = 0 ∨ i = 1 ∨ i = 2 ∨ i = 3 ∨ i = 4 ∨ i = 5 by omega) with rfl | rfl | rfl | rfl | rfl | rfl <;> rfl
  unfold f_X0_dropOldest at h
  refine J_aload_n (pc := 0) C 0 rfl 0 rfl rfl ?_
  refine J_get (pc := 1) (v := .ref (aH 1)) C 1 rfl TB_l0 rfl 0 0 rfl (by decide) k19 rfl rfl ?_
  refine J_iconst (pc := 4) (v := (0 : Int32)) C 2 rfl rfl ?_
  refine J_aald (pc := 5) (v := (hA 0 0)) (f := (fun i => some (hA i 0))) C 3 rfl 1 rfl rfl rfl ?_
  refine J_astore_n (pc := 6) (lv' := [(1, .ref (hA 0 0)), (0, .ref (aH 0))]) C 4 rfl rfl (by decide) rfl ?_
  refine J_iconst (pc := 7) (v := (0 : Int32)) C 5 rfl rfl ?_
  refine J_istore_n (pc := 8) (lv' := [(2, .int (0 : Int32)), (1, .ref (hA 0 0)), (0, .ref (aH 0))]) C 6 rfl rfl (by decide) rfl ?_
  refine J_iload_n (pc := 9) C 7 rfl 0 rfl rfl ?_
  refine J_iconst (pc := 10) (v := (5 : Int32)) C 8 rfl rfl ?_
  refine J_icmp_ge (pc := 11) (tgt := 34) C 9 rfl rfl (fun c1 => absurd c1 (by decide)) (fun c1 => ?_)
  refine J_aload_n (pc := 14) C 10 rfl 2 rfl rfl ?_
  refine J_get (pc := 15) (v := .ref (aH 1)) C 11 rfl TB_l0 rfl 0 0 rfl (by decide) k19 rfl rfl ?_
  refine J_iload_n (pc := 18) C 12 rfl 0 rfl rfl ?_
  refine J_aload_n (pc := 19) C 13 rfl 2 rfl rfl ?_
  refine J_get (pc := 20) (v := .ref (aH 1)) C 14 rfl TB_l0 rfl 0 0 rfl (by decide) k19 rfl rfl ?_
  refine J_iload_n (pc := 23) C 15 rfl 0 rfl rfl ?_
  refine J_iconst (pc := 24) (v := (1 : Int32)) C 16 rfl rfl ?_
  refine J_iadd (pc := 25) C 17 rfl  ?_
  refine J_top (y := (1 : Int32)) rfl ?_
  refine J_aald (pc := 26) (v := (hA 1 0)) (f := (fun i => some (hA i 0))) C 18 rfl 1 rfl rfl rfl ?_
  refine J_aast (pc := 27) (v := (hA 1 0)) (f := (fun i => some (hA i 0))) (ws2 := (wHisX G aH (va_up (fun i => some (hA i 0)) 0 (some (hA 1 0))) hA hV (hZ 1 0))) C 19 rfl 1 11 rfl rfl rfl rfl ?_
  refine J_iinc (pc := 28) (v := (1 : Int32)) (lv' := [(2, .int (1 : Int32)), (1, .ref (hA 0 0)), (0, .ref (aH 0))]) C 20 rfl 0 rfl rfl (by decide) rfl ?_
  refine J_goto (pc := 31) (tgt := 9) C 21 rfl rfl ?_
  refine J_iload_n (pc := 9) C 7 rfl 0 rfl rfl ?_
  refine J_iconst (pc := 10) (v := (5 : Int32)) C 8 rfl rfl ?_
  refine J_icmp_ge (pc := 11) (tgt := 34) C 9 rfl rfl (fun c2 => absurd c2 (by decide)) (fun c2 => ?_)
  refine J_aload_n (pc := 14) C 10 rfl 2 rfl rfl ?_
  refine J_get (pc := 15) (v := .ref (aH 1)) C 11 rfl TB_l0 rfl 0 0 rfl (by decide) k19 rfl rfl ?_
  refine J_iload_n (pc := 18) C 12 rfl 0 rfl rfl ?_
  refine J_aload_n (pc := 19) C 13 rfl 2 rfl rfl ?_
  refine J_get (pc := 20) (v := .ref (aH 1)) C 14 rfl TB_l0 rfl 0 0 rfl (by decide) k19 rfl rfl ?_
  refine J_iload_n (pc := 23) C 15 rfl 0 rfl rfl ?_
  refine J_iconst (pc := 24) (v := (1 : Int32)) C 16 rfl rfl ?_
  refine J_iadd (pc := 25) C 17 rfl  ?_
  refine J_top (y := (2 : Int32)) rfl ?_
  refine J_aald (pc := 26) (v := (hA 2 0)) (f := (va_up (fun i => some (hA i 0)) 0 (some (hA 1 0)))) C 18 rfl 1 rfl rfl rfl ?_
  refine J_aast (pc := 27) (v := (hA 2 0)) (f := (va_up (fun i => some (hA i 0)) 0 (some (hA 1 0)))) (ws2 := (wHisX G aH (va_up (va_up (fun i => some (hA i 0)) 0 (some (hA 1 0))) 1 (some (hA 2 0))) hA hV (hZ 1 0))) C 19 rfl 1 20 rfl rfl rfl rfl ?_
  refine J_iinc (pc := 28) (v := (2 : Int32)) (lv' := [(2, .int (2 : Int32)), (1, .ref (hA 0 0)), (0, .ref (aH 0))]) C 20 rfl 0 rfl rfl (by decide) rfl ?_
  refine J_goto (pc := 31) (tgt := 9) C 21 rfl rfl ?_
  refine J_iload_n (pc := 9) C 7 rfl 0 rfl rfl ?_
  refine J_iconst (pc := 10) (v := (5 : Int32)) C 8 rfl rfl ?_
  refine J_icmp_ge (pc := 11) (tgt := 34) C 9 rfl rfl (fun c3 => absurd c3 (by decide)) (fun c3 => ?_)
  refine J_aload_n (pc := 14) C 10 rfl 2 rfl rfl ?_
  refine J_get (pc := 15) (v := .ref (aH 1)) C 11 rfl TB_l0 rfl 0 0 rfl (by decide) k19 rfl rfl ?_
  refine J_iload_n (pc := 18) C 12 rfl 0 rfl rfl ?_
  refine J_aload_n (pc := 19) C 13 rfl 2 rfl rfl ?_
  refine J_get (pc := 20) (v := .ref (aH 1)) C 14 rfl TB_l0 rfl 0 0 rfl (by decide) k19 rfl rfl ?_
  refine J_iload_n (pc := 23) C 15 rfl 0 rfl rfl ?_
  refine J_iconst (pc := 24) (v := (1 : Int32)) C 16 rfl rfl ?_
  refine J_iadd (pc := 25) C 17 rfl  ?_
  refine J_top (y := (3 : Int32)) rfl ?_
  refine J_aald (pc := 26) (v := (hA 3 0)) (f := (va_up (va_up (fun i => some (hA i 0)) 0 (some (hA 1 0))) 1 (some (hA 2 0)))) C 18 rfl 1 rfl rfl rfl ?_
  refine J_aast (pc := 27) (v := (hA 3 0)) (f := (va_up (va_up (fun i => some (hA i 0)) 0 (some (hA 1 0))) 1 (some (hA 2 0)))) (ws2 := (wHisX G aH (va_up (va_up (va_up (fun i => some (hA i 0)) 0 (some (hA 1 0))) 1 (some (hA 2 0))) 2 (some (hA 3 0))) hA hV (hZ 1 0))) C 19 rfl 1 29 rfl rfl rfl rfl ?_
  refine J_iinc (pc := 28) (v := (3 : Int32)) (lv' := [(2, .int (3 : Int32)), (1, .ref (hA 0 0)), (0, .ref (aH 0))]) C 20 rfl 0 rfl rfl (by decide) rfl ?_
  refine J_goto (pc := 31) (tgt := 9) C 21 rfl rfl ?_
  refine J_iload_n (pc := 9) C 7 rfl 0 rfl rfl ?_
  refine J_iconst (pc := 10) (v := (5 : Int32)) C 8 rfl rfl ?_
  refine J_icmp_ge (pc := 11) (tgt := 34) C 9 rfl rfl (fun c4 => absurd c4 (by decide)) (fun c4 => ?_)
  refine J_aload_n (pc := 14) C 10 rfl 2 rfl rfl ?_
  refine J_get (pc := 15) (v := .ref (aH 1)) C 11 rfl TB_l0 rfl 0 0 rfl (by decide) k19 rfl rfl ?_
  refine J_iload_n (pc := 18) C 12 rfl 0 rfl rfl ?_
  refine J_aload_n (pc := 19) C 13 rfl 2 rfl rfl ?_
  refine J_get (pc := 20) (v := .ref (aH 1)) C 14 rfl TB_l0 rfl 0 0 rfl (by decide) k19 rfl rfl ?_
  refine J_iload_n (pc := 23) C 15 rfl 0 rfl rfl ?_
  refine J_iconst (pc := 24) (v := (1 : Int32)) C 16 rfl rfl ?_
  refine J_iadd (pc := 25) C 17 rfl  ?_
  refine J_top (y := (4 : Int32)) rfl ?_
  refine J_aald (pc := 26) (v := (hA 4 0)) (f := (va_up (va_up (va_up (fun i => some (hA i 0)) 0 (some (hA 1 0))) 1 (some (hA 2 0))) 2 (some (hA 3 0)))) C 18 rfl 1 rfl rfl rfl ?_
  refine J_aast (pc := 27) (v := (hA 4 0)) (f := (va_up (va_up (va_up (fun i => some (hA i 0)) 0 (some (hA 1 0))) 1 (some (hA 2 0))) 2 (some (hA 3 0)))) (ws2 := (wHisX G aH (va_up (va_up (va_up (va_up (fun i => some (hA i 0)) 0 (some (hA 1 0))) 1 (some (hA 2 0))) 2 (some (hA 3 0))) 3 (some (hA 4 0))) hA hV (hZ 1 0))) C 19 rfl 1 38 rfl rfl rfl rfl ?_
  refine J_iinc (pc := 28) (v := (4 : Int32)) (lv' := [(2, .int (4 : Int32)), (1, .ref (hA 0 0)), (0, .ref (aH 0))]) C 20 rfl 0 rfl rfl (by decide) rfl ?_
  refine J_goto (pc := 31) (tgt := 9) C 21 rfl rfl ?_
  refine J_iload_n (pc := 9) C 7 rfl 0 rfl rfl ?_
  refine J_iconst (pc := 10) (v := (5 : Int32)) C 8 rfl rfl ?_
  refine J_icmp_ge (pc := 11) (tgt := 34) C 9 rfl rfl (fun c5 => absurd c5 (by decide)) (fun c5 => ?_)
  refine J_aload_n (pc := 14) C 10 rfl 2 rfl rfl ?_
  refine J_get (pc := 15) (v := .ref (aH 1)) C 11 rfl TB_l0 rfl 0 0 rfl (by decide) k19 rfl rfl ?_
  refine J_iload_n (pc := 18) C 12 rfl 0 rfl rfl ?_
  refine J_aload_n (pc := 19) C 13 rfl 2 rfl rfl ?_
  refine J_get (pc := 20) (v := .ref (aH 1)) C 14 rfl TB_l0 rfl 0 0 rfl (by decide) k19 rfl rfl ?_
  refine J_iload_n (pc := 23) C 15 rfl 0 rfl rfl ?_
  refine J_iconst (pc := 24) (v := (1 : Int32)) C 16 rfl rfl ?_
  refine J_iadd (pc := 25) C 17 rfl  ?_
  refine J_top (y := (5 : Int32)) rfl ?_
  refine J_aald (pc := 26) (v := (hA 5 0)) (f := (va_up (va_up (va_up (va_up (fun i => some (hA i 0)) 0 (some (hA 1 0))) 1 (some (hA 2 0))) 2 (some (hA 3 0))) 3 (some (hA 4 0)))) C 18 rfl 1 rfl rfl rfl ?_
  refine J_aast (pc := 27) (v := (hA 5 0)) (f := (va_up (va_up (va_up (va_up (fun i => some (hA i 0)) 0 (some (hA 1 0))) 1 (some (hA 2 0))) 2 (some (hA 3 0))) 3 (some (hA 4 0)))) (ws2 := (wHisX G aH (va_up (va_up (va_up (va_up (va_up (fun i => some (hA i 0)) 0 (some (hA 1 0))) 1 (some (hA 2 0))) 2 (some (hA 3 0))) 3 (some (hA 4 0))) 4 (some (hA 5 0))) hA hV (hZ 1 0))) C 19 rfl 1 47 rfl rfl rfl rfl ?_
  refine J_iinc (pc := 28) (v := (5 : Int32)) (lv' := [(2, .int (5 : Int32)), (1, .ref (hA 0 0)), (0, .ref (aH 0))]) C 20 rfl 0 rfl rfl (by decide) rfl ?_
  refine J_goto (pc := 31) (tgt := 9) C 21 rfl rfl ?_
  refine J_iload_n (pc := 9) C 7 rfl 0 rfl rfl ?_
  refine J_iconst (pc := 10) (v := (5 : Int32)) C 8 rfl rfl ?_
  refine J_icmp_ge (pc := 11) (tgt := 34) C 9 rfl rfl (fun c6 => ?_) (fun c6 => absurd c6 (by decide))
  refine J_aload_n (pc := 34) C 22 rfl 2 rfl rfl ?_
  refine J_get (pc := 35) (v := .ref (aH 1)) C 23 rfl TB_l0 rfl 0 0 rfl (by decide) k19 rfl rfl ?_
  refine J_iconst (pc := 38) (v := (5 : Int32)) C 24 rfl rfl ?_
  refine J_aload_n (pc := 39) C 25 rfl 1 rfl rfl ?_
  refine J_aast (pc := 40) (v := (hA 0 0)) (f := (va_up (va_up (va_up (va_up (va_up (fun i => some (hA i 0)) 0 (some (hA 1 0))) 1 (some (hA 2 0))) 2 (some (hA 3 0))) 3 (some (hA 4 0))) 4 (some (hA 5 0)))) (ws2 := (wHisX G aH (va_up (va_up (va_up (va_up (va_up (va_up (fun i => some (hA i 0)) 0 (some (hA 1 0))) 1 (some (hA 2 0))) 2 (some (hA 3 0))) 3 (some (hA 4 0))) 4 (some (hA 5 0))) 5 (some (hA 0 0))) hA hV (hZ 1 0))) C 26 rfl 1 2 rfl rfl rfl rfl ?_
  refine J_aload_n (pc := 41) C 27 rfl 2 rfl rfl ?_
  refine J_dup (pc := 42) C 28 rfl rfl ?_
  refine J_get (pc := 43) (v := .int (hZ 1 0)) C 29 rfl TB_l0 rfl 0 1 rfl (by decide) k20 rfl rfl ?_
  refine J_iconst (pc := 46) (v := (1 : Int32)) C 30 rfl rfl ?_
  refine J_isub (pc := 47) C 31 rfl  ?_
  refine J_puti (pc := 48) C 32 (fun vv => (wHisX G aH (va_up (va_up (va_up (va_up (va_up (va_up (fun i => some (hA i 0)) 0 (some (hA 1 0))) 1 (some (hA 2 0))) 2 (some (hA 3 0))) 3 (some (hA 4 0))) 4 (some (hA 5 0))) 5 (some (hA 0 0))) hA hV vv)) rfl TB_l0 tyX0 tyX0_ok nmX0 rfl 0 1 rfl (by decide) k20 rfl rfl rfl (Nat.le_of_ble_eq_true rfl) (fun _ => rfl) ?_
  refine J_aeq (q0 := 1) (ws' := wHisX G aH (fun i => some (rot6 hA i 0)) hA hV ((hZ 1 0) - (1 : Int32))) rfl h6 rfl ?_
  refine J_perm (ws' := wHis G aH (rot6 hA) (rot6 hV) ((hZ 1 0) - (1 : Int32))) [0, 1, 11, 12, 13, 14, 15, 16, 17, 18, 19, 20, 21, 22, 23, 24, 25, 26, 27, 28, 29, 30, 31, 32, 33, 34, 35, 36, 37, 38, 39, 40, 41, 42, 43, 44, 45, 46, 47, 48, 49, 50, 51, 52, 53, 54, 55, 2, 3, 4, 5, 6, 7, 8, 9, 10] (by decide +kernel) rfl ?_
  cases h
  exact J_vret (pc := 51) C 33 rfl
def T_X0_remember : List (Nat × ClassFile.Instr × Nat) := [(0, .aload_n 0, 1), (1, .getfield 17, 3), (4, .bipush 6, 2), (6, .if_icmp .ne 7, 3), (9, .aload_n 0, 1), (10, .invokevirtual 22, 3), (13, .aload_n 0, 1), (14, .getfield 11, 3), (17, .aload_n 0, 1), (18, .getfield 17, 3), (21, .aaload, 1), (22, .aload_n 1, 1), (23, .invokevirtual 25, 3), (26, .aload_n 0, 1), (27, .dup, 1), (28, .getfield 17, 3), (31, .iconst 1, 1), (32, .iadd, 1), (33, .putfield 17, 3), (36, .return_, 1)]
theorem D_X0_remember : ∀ q ∈ T_X0_remember, decode cX0_remember q.1 = .ok q.2 := by decide +kernel
theorem V_X0_remember : Vy yX0_remember cX0_remember 2 none 1 := ⟨k26, k30, by decide +kernel⟩
theorem i_X0_remember : Cond.instanceMethod yX0_remember ∈ TB := k224
theorem s_X0_remember : Cond.selects yX0_remember.cls yX0_remember yX0_remember ∈ TB := k225
noncomputable def f_X0_remember_K13 (vS : JV) (hA_13 : Nat → Nat → Nat) (hV_13 : Nat → JV) (hZ_13 : JV) : Option ((Nat → Nat → Nat) × (Nat → JV) × JV) :=
  gd (inb (hZ_13 1 0) 6) ((if (hZ_13 1 0) = (0 : Int32) then (f_X2_copyFrom (hV_13 0) vS).bind (fun q4 => some (hA_13, (up1 hV_13 0 q4), (up2 hZ_13 1 0 ((hZ_13 1 0) + (1 : Int32))))) else (if (hZ_13 1 0) = (1 : Int32) then (f_X2_copyFrom (hV_13 1) vS).bind (fun q6 => some (hA_13, (up1 hV_13 1 q6), (up2 hZ_13 1 0 ((hZ_13 1 0) + (1 : Int32))))) else (if (hZ_13 1 0) = (2 : Int32) then (f_X2_copyFrom (hV_13 2) vS).bind (fun q8 => some (hA_13, (up1 hV_13 2 q8), (up2 hZ_13 1 0 ((hZ_13 1 0) + (1 : Int32))))) else (if (hZ_13 1 0) = (3 : Int32) then (f_X2_copyFrom (hV_13 3) vS).bind (fun q10 => some (hA_13, (up1 hV_13 3 q10), (up2 hZ_13 1 0 ((hZ_13 1 0) + (1 : Int32))))) else (if (hZ_13 1 0) = (4 : Int32) then (f_X2_copyFrom (hV_13 4) vS).bind (fun q12 => some (hA_13, (up1 hV_13 4 q12), (up2 hZ_13 1 0 ((hZ_13 1 0) + (1 : Int32))))) else (if (hZ_13 1 0) = (5 : Int32) then (f_X2_copyFrom (hV_13 5) vS).bind (fun q14 => some (hA_13, (up1 hV_13 5 q14), (up2 hZ_13 1 0 ((hZ_13 1 0) + (1 : Int32))))) else none)))))))
noncomputable def f_X0_remember (vS : JV) (hA : Nat → Nat → Nat) (hV : Nat → JV) (hZ : JV)  : Option ((Nat → Nat → Nat) × (Nat → JV) × JV) :=
  (if (hZ 1 0) = (6 : Int32) then (f_X0_dropOldest hA hV hZ).bind (fun q15 => f_X0_remember_K13 vS (q15.1) (q15.2.1) (q15.2.2)) else f_X0_remember_K13 vS hA hV hZ)
set_option maxRecDepth 100000 in
set_option maxHeartbeats 4000000 in
theorem c_X0_remember {l : Launch} {G : JG} (aS : Nat → Nat) (aH : Nat → Nat) (vS : JV) (hA : Nat → Nat → Nat) (hV : Nat → JV) (hZ : JV)  {Rz : (Nat → Nat → Nat) × (Nat → JV) × JV} (h : f_X0_remember vS hA hV hZ = some Rz) : JM l G yX0_remember cX0_remember 2 none 1 22 [.ref (aH 0), .ref (aS 0)] (wSch G aS (vS 0) (vS 1) (vS 2) (vS 3) (vS 4) (vS 5) (vS 6) (vS 7) (vS 8 0) (vS 9 0) ++ (wHis G aH hA hV (hZ 1 0))) (wSch G aS (vS 0) (vS 1) (vS 2) (vS 3) (vS 4) (vS 5) (vS 6) (vS 7) (vS 8 0) (vS 9 0) ++ (wHis G aH (Rz.1) (Rz.2.1) ((Rz.2.2) 1 0))) none := by
  refine JM.of (own := RX0) (tb := T_X0_remember) (by decide) (Nat.le_of_ble_eq_true rfl) D_X0_remember rfl (fun X C => ?_)
  refine J_sub (lv' := [(0, .ref (aH 0)), (1, .ref (aS 0))]) [0, 1] rfl ?_
  have B13 : ∀ (hA_13 : Nat → Nat → Nat) (hV_13 : Nat → JV) (hZ_13 : JV), f_X0_remember_K13 vS hA_13 hV_13 hZ_13 = some Rz → J l { frames := 1, cells := 0, slots := 0, locals := 22 } G 2 X (QM X G 0 0 none (wSch G aS (vS 0) (vS 1) (vS 2) (vS 3) (vS 4) (vS 5) (vS 6) (vS 7) (vS 8 0) (vS 9 0) ++ (wHis G aH (Rz.1) (Rz.2.1) ((Rz.2.2) 1 0)))) 0 0 13 [(0, .ref (aH 0)), (1, .ref (aS 0))] [] (wSch G aS (vS 0) (vS 1) (vS 2) (vS 3) (vS 4) (vS 5) (vS 6) (vS 7) (vS 8 0) (vS 9 0) ++ (wHis G aH hA_13 hV_13 (hZ_13 1 0))) := by
    intro hA_13 hV_13 hZ_13 h
    unfold f_X0_remember_K13 at h
    refine J_aload_n (pc := 13) C 6 rfl 0 rfl rfl ?_
    refine J_get (pc := 14) (v := .ref (aH 1)) C 7 rfl TB_l0 rfl 9 0 rfl (by decide) k19 rfl rfl ?_
    refine J_aload_n (pc := 17) C 8 rfl 0 rfl rfl ?_
    refine J_get (pc := 18) (v := .int (hZ_13 1 0)) C 9 rfl TB_l0 rfl 9 1 rfl (by decide) k20 rfl rfl ?_
    obtain ⟨g2, h⟩ := gd_some h
    by_cases c3 : (hZ_13 1 0) = (0 : Int32)
    · rw [if_pos c3] at h
      refine J_aald (pc := 21) (v := (hA_13 0 0)) (f := fun i => some (hA_13 i 0)) C 10 rfl 10 rfl g2 (by rw [c3]; rfl) ?_
      refine J_aload_n (pc := 22) C 11 rfl 1 rfl rfl ?_
      obtain ⟨q4, hq4, h⟩ := bnd h
      refine J_callV (pc := 23) (st2 := []) (st3 := []) (ws2 := (wSch G aS (vS 0) (vS 1) (vS 2) (vS 3) (vS 4) (vS 5) (vS 6) (vS 7) (vS 8 0) (vS 9 0) ++ (wHis G aH hA_13 (up1 hV_13 0 q4) (hZ_13 1 0)))) C 12 rfl (c_X2_copyFrom (hA_13 0) aS (hV_13 0) vS hq4) V_X2_copyFrom k31 i_X2_copyFrom s_X2_copyFrom rfl rfl ⟨Nat.le_of_ble_eq_true rfl, Nat.le_of_ble_eq_true rfl⟩ (Nat.le_of_ble_eq_true rfl) ⟨Nat.le_refl _, Nat.le_refl _⟩ 11 2 rfl rfl rfl (isC := [11, 12, 13, 14, 15, 16, 17, 18, 19, 0, 1, 2, 3, 4, 5, 6, 7, 8]) (isR := [9, 10, 20, 21, 22, 23, 24, 25, 26, 27, 28, 29, 30, 31, 32, 33, 34, 35, 36, 37, 38, 39, 40, 41, 42, 43, 44, 45, 46, 47, 48, 49, 50, 51, 52, 53, 54, 55, 56, 57, 58, 59, 60, 61, 62, 63, 64]) (N := 65) ⟨rfl, by decide +kernel, rfl, by decide +kernel, rfl, ⟨⟨_, rfl, rfl⟩, ⟨⟨_, rfl, rfl⟩, ⟨⟨_, rfl, rfl⟩, ⟨⟨_, rfl, rfl⟩, ⟨⟨_, rfl, rfl⟩, ⟨⟨_, rfl, rfl⟩, ⟨⟨_, rfl, rfl⟩, ⟨⟨_, rfl, rfl⟩, ⟨⟨_, rfl, rfl⟩, ⟨⟨_, rfl, rfl⟩, ⟨⟨_, rfl, rfl⟩, ⟨⟨_, rfl, rfl⟩, ⟨⟨_, rfl, rfl⟩, ⟨⟨_, rfl, rfl⟩, ⟨⟨_, rfl, rfl⟩, ⟨⟨_, rfl, rfl⟩, ⟨⟨_, rfl, rfl⟩, ⟨⟨_, rfl, rfl⟩, ⟨⟨_, rfl, rfl⟩, ⟨⟨_, rfl, rfl⟩, ⟨⟨_, rfl, rfl⟩, ⟨⟨_, rfl, rfl⟩, ⟨⟨_, rfl, rfl⟩, ⟨⟨_, rfl, rfl⟩, ⟨⟨_, rfl, rfl⟩, ⟨⟨_, rfl, rfl⟩, ⟨⟨_, rfl, rfl⟩, ⟨⟨_, rfl, rfl⟩, ⟨⟨_, rfl, rfl⟩, ⟨⟨_, rfl, rfl⟩, ⟨⟨_, rfl, rfl⟩, ⟨⟨_, rfl, rfl⟩, ⟨⟨_, rfl, rfl⟩, ⟨⟨_, rfl, rfl⟩, ⟨⟨_, rfl, rfl⟩, ⟨⟨_, rfl, rfl⟩, ⟨⟨_, rfl, rfl⟩, ⟨⟨_, rfl, rfl⟩, ⟨⟨_, rfl, rfl⟩, ⟨⟨_, rfl, rfl⟩, ⟨⟨_, rfl, rfl⟩, ⟨⟨_, rfl, rfl⟩, ⟨⟨_, rfl, rfl⟩, ⟨⟨_, rfl, rfl⟩, ⟨⟨_, rfl, rfl⟩, ⟨⟨_, rfl, rfl⟩, ⟨⟨_, rfl, rfl⟩, trivial⟩⟩⟩⟩⟩⟩⟩⟩⟩⟩⟩⟩⟩⟩⟩⟩⟩⟩⟩⟩⟩⟩⟩⟩⟩⟩⟩⟩⟩⟩⟩⟩⟩⟩⟩⟩⟩⟩⟩⟩⟩⟩⟩⟩⟩⟩⟩⟩ rfl ?_
      refine J_aload_n (pc := 26) C 13 rfl 0 rfl rfl ?_
      refine J_dup (pc := 27) C 14 rfl rfl ?_
      refine J_get (pc := 28) (v := .int (hZ_13 1 0)) C 15 rfl TB_l0 rfl 9 1 rfl (by decide) k20 rfl rfl ?_
      refine J_iconst (pc := 31) (v := (1 : Int32)) C 16 rfl rfl ?_
      refine J_iadd (pc := 32) C 17 rfl  ?_
      refine J_puti (pc := 33) C 18 (fun vv => (wSch G aS (vS 0) (vS 1) (vS 2) (vS 3) (vS 4) (vS 5) (vS 6) (vS 7) (vS 8 0) (vS 9 0) ++ (wHis G aH hA_13 (up1 hV_13 0 q4) vv))) rfl TB_l0 tyX0 tyX0_ok nmX0 rfl 9 1 rfl (by decide) k20 rfl rfl rfl (Nat.le_of_ble_eq_true rfl) (fun _ => rfl) ?_
      cases h
      exact J_vret (pc := 36) C 19 rfl
    · rw [if_neg c3] at h
      by_cases c5 : (hZ_13 1 0) = (1 : Int32)
      · rw [if_pos c5] at h
        refine J_aald (pc := 21) (v := (hA_13 1 0)) (f := fun i => some (hA_13 i 0)) C 10 rfl 10 rfl g2 (by rw [c5]; rfl) ?_
        refine J_aload_n (pc := 22) C 11 rfl 1 rfl rfl ?_
        obtain ⟨q6, hq6, h⟩ := bnd h
        refine J_callV (pc := 23) (st2 := []) (st3 := []) (ws2 := (wSch G aS (vS 0) (vS 1) (vS 2) (vS 3) (vS 4) (vS 5) (vS 6) (vS 7) (vS 8 0) (vS 9 0) ++ (wHis G aH hA_13 (up1 hV_13 1 q6) (hZ_13 1 0)))) C 12 rfl (c_X2_copyFrom (hA_13 1) aS (hV_13 1) vS hq6) V_X2_copyFrom k31 i_X2_copyFrom s_X2_copyFrom rfl rfl ⟨Nat.le_of_ble_eq_true rfl, Nat.le_of_ble_eq_true rfl⟩ (Nat.le_of_ble_eq_true rfl) ⟨Nat.le_refl _, Nat.le_refl _⟩ 20 2 rfl rfl rfl (isC := [20, 21, 22, 23, 24, 25, 26, 27, 28, 0, 1, 2, 3, 4, 5, 6, 7, 8]) (isR := [9, 10, 11, 12, 13, 14, 15, 16, 17, 18, 19, 29, 30, 31, 32, 33, 34, 35, 36, 37, 38, 39, 40, 41, 42, 43, 44, 45, 46, 47, 48, 49, 50, 51, 52, 53, 54, 55, 56, 57, 58, 59, 60, 61, 62, 63, 64]) (N := 65) ⟨rfl, by decide +kernel, rfl, by decide +kernel, rfl, ⟨⟨_, rfl, rfl⟩, ⟨⟨_, rfl, rfl⟩, ⟨⟨_, rfl, rfl⟩, ⟨⟨_, rfl, rfl⟩, ⟨⟨_, rfl, rfl⟩, ⟨⟨_, rfl, rfl⟩, ⟨⟨_, rfl, rfl⟩, ⟨⟨_, rfl, rfl⟩, ⟨⟨_, rfl, rfl⟩, ⟨⟨_, rfl, rfl⟩, ⟨⟨_, rfl, rfl⟩, ⟨⟨_, rfl, rfl⟩, ⟨⟨_, rfl, rfl⟩, ⟨⟨_, rfl, rfl⟩, ⟨⟨_, rfl, rfl⟩, ⟨⟨_, rfl, rfl⟩, ⟨⟨_, rfl, rfl⟩, ⟨⟨_, rfl, rfl⟩, ⟨⟨_, rfl, rfl⟩, ⟨⟨_, rfl, rfl⟩, ⟨⟨_, rfl, rfl⟩, ⟨⟨_, rfl, rfl⟩, ⟨⟨_, rfl, rfl⟩, ⟨⟨_, rfl, rfl⟩, ⟨⟨_, rfl, rfl⟩, ⟨⟨_, rfl, rfl⟩, ⟨⟨_, rfl, rfl⟩, ⟨⟨_, rfl, rfl⟩, ⟨⟨_, rfl, rfl⟩, ⟨⟨_, rfl, rfl⟩, ⟨⟨_, rfl, rfl⟩, ⟨⟨_, rfl, rfl⟩, ⟨⟨_, rfl, rfl⟩, ⟨⟨_, rfl, rfl⟩, ⟨⟨_, rfl, rfl⟩, ⟨⟨_, rfl, rfl⟩, ⟨⟨_, rfl, rfl⟩, ⟨⟨_, rfl, rfl⟩, ⟨⟨_, rfl, rfl⟩, ⟨⟨_, rfl, rfl⟩, ⟨⟨_, rfl, rfl⟩, ⟨⟨_, rfl, rfl⟩, ⟨⟨_, rfl, rfl⟩, ⟨⟨_, rfl, rfl⟩, ⟨⟨_, rfl, rfl⟩, ⟨⟨_, rfl, rfl⟩, ⟨⟨_, rfl, rfl⟩, trivial⟩⟩⟩⟩⟩⟩⟩⟩⟩⟩⟩⟩⟩⟩⟩⟩⟩⟩⟩⟩⟩⟩⟩⟩⟩⟩⟩⟩⟩⟩⟩⟩⟩⟩⟩⟩⟩⟩⟩⟩⟩⟩⟩⟩⟩⟩⟩⟩ rfl ?_
        refine J_aload_n (pc := 26) C 13 rfl 0 rfl rfl ?_
        refine J_dup (pc := 27) C 14 rfl rfl ?_
        refine J_get (pc := 28) (v := .int (hZ_13 1 0)) C 15 rfl TB_l0 rfl 9 1 rfl (by decide) k20 rfl rfl ?_
        refine J_iconst (pc := 31) (v := (1 : Int32)) C 16 rfl rfl ?_
        refine J_iadd (pc := 32) C 17 rfl  ?_
        refine J_puti (pc := 33) C 18 (fun vv => (wSch G aS (vS 0) (vS 1) (vS 2) (vS 3) (vS 4) (vS 5) (vS 6) (vS 7) (vS 8 0) (vS 9 0) ++ (wHis G aH hA_13 (up1 hV_13 1 q6) vv))) rfl TB_l0 tyX0 tyX0_ok nmX0 rfl 9 1 rfl (by decide) k20 rfl rfl rfl (Nat.le_of_ble_eq_true rfl) (fun _ => rfl) ?_
        cases h
        exact J_vret (pc := 36) C 19 rfl
      · rw [if_neg c5] at h
        by_cases c7 : (hZ_13 1 0) = (2 : Int32)
        · rw [if_pos c7] at h
          refine J_aald (pc := 21) (v := (hA_13 2 0)) (f := fun i => some (hA_13 i 0)) C 10 rfl 10 rfl g2 (by rw [c7]; rfl) ?_
          refine J_aload_n (pc := 22) C 11 rfl 1 rfl rfl ?_
          obtain ⟨q8, hq8, h⟩ := bnd h
          refine J_callV (pc := 23) (st2 := []) (st3 := []) (ws2 := (wSch G aS (vS 0) (vS 1) (vS 2) (vS 3) (vS 4) (vS 5) (vS 6) (vS 7) (vS 8 0) (vS 9 0) ++ (wHis G aH hA_13 (up1 hV_13 2 q8) (hZ_13 1 0)))) C 12 rfl (c_X2_copyFrom (hA_13 2) aS (hV_13 2) vS hq8) V_X2_copyFrom k31 i_X2_copyFrom s_X2_copyFrom rfl rfl ⟨Nat.le_of_ble_eq_true rfl, Nat.le_of_ble_eq_true rfl⟩ (Nat.le_of_ble_eq_true rfl) ⟨Nat.le_refl _, Nat.le_refl _⟩ 29 2 rfl rfl rfl (isC := [29, 30, 31, 32, 33, 34, 35, 36, 37, 0, 1, 2, 3, 4, 5, 6, 7, 8]) (isR := [9, 10, 11, 12, 13, 14, 15, 16, 17, 18, 19, 20, 21, 22, 23, 24, 25, 26, 27, 28, 38, 39, 40, 41, 42, 43, 44, 45, 46, 47, 48, 49, 50, 51, 52, 53, 54, 55, 56, 57, 58, 59, 60, 61, 62, 63, 64]) (N := 65) ⟨rfl, by decide +kernel, rfl, by decide +kernel, rfl, ⟨⟨_, rfl, rfl⟩, ⟨⟨_, rfl, rfl⟩, ⟨⟨_, rfl, rfl⟩, ⟨⟨_, rfl, rfl⟩, ⟨⟨_, rfl, rfl⟩, ⟨⟨_, rfl, rfl⟩, ⟨⟨_, rfl, rfl⟩, ⟨⟨_, rfl, rfl⟩, ⟨⟨_, rfl, rfl⟩, ⟨⟨_, rfl, rfl⟩, ⟨⟨_, rfl, rfl⟩, ⟨⟨_, rfl, rfl⟩, ⟨⟨_, rfl, rfl⟩, ⟨⟨_, rfl, rfl⟩, ⟨⟨_, rfl, rfl⟩, ⟨⟨_, rfl, rfl⟩, ⟨⟨_, rfl, rfl⟩, ⟨⟨_, rfl, rfl⟩, ⟨⟨_, rfl, rfl⟩, ⟨⟨_, rfl, rfl⟩, ⟨⟨_, rfl, rfl⟩, ⟨⟨_, rfl, rfl⟩, ⟨⟨_, rfl, rfl⟩, ⟨⟨_, rfl, rfl⟩, ⟨⟨_, rfl, rfl⟩, ⟨⟨_, rfl, rfl⟩, ⟨⟨_, rfl, rfl⟩, ⟨⟨_, rfl, rfl⟩, ⟨⟨_, rfl, rfl⟩, ⟨⟨_, rfl, rfl⟩, ⟨⟨_, rfl, rfl⟩, ⟨⟨_, rfl, rfl⟩, ⟨⟨_, rfl, rfl⟩, ⟨⟨_, rfl, rfl⟩, ⟨⟨_, rfl, rfl⟩, ⟨⟨_, rfl, rfl⟩, ⟨⟨_, rfl, rfl⟩, ⟨⟨_, rfl, rfl⟩, ⟨⟨_, rfl, rfl⟩, ⟨⟨_, rfl, rfl⟩, ⟨⟨_, rfl, rfl⟩, ⟨⟨_, rfl, rfl⟩, ⟨⟨_, rfl, rfl⟩, ⟨⟨_, rfl, rfl⟩, ⟨⟨_, rfl, rfl⟩, ⟨⟨_, rfl, rfl⟩, ⟨⟨_, rfl, rfl⟩, trivial⟩⟩⟩⟩⟩⟩⟩⟩⟩⟩⟩⟩⟩⟩⟩⟩⟩⟩⟩⟩⟩⟩⟩⟩⟩⟩⟩⟩⟩⟩⟩⟩⟩⟩⟩⟩⟩⟩⟩⟩⟩⟩⟩⟩⟩⟩⟩⟩ rfl ?_
          refine J_aload_n (pc := 26) C 13 rfl 0 rfl rfl ?_
          refine J_dup (pc := 27) C 14 rfl rfl ?_
          refine J_get (pc := 28) (v := .int (hZ_13 1 0)) C 15 rfl TB_l0 rfl 9 1 rfl (by decide) k20 rfl rfl ?_
          refine J_iconst (pc := 31) (v := (1 : Int32)) C 16 rfl rfl ?_
          refine J_iadd (pc := 32) C 17 rfl  ?_
          refine J_puti (pc := 33) C 18 (fun vv => (wSch G aS (vS 0) (vS 1) (vS 2) (vS 3) (vS 4) (vS 5) (vS 6) (vS 7) (vS 8 0) (vS 9 0) ++ (wHis G aH hA_13 (up1 hV_13 2 q8) vv))) rfl TB_l0 tyX0 tyX0_ok nmX0 rfl 9 1 rfl (by decide) k20 rfl rfl rfl (Nat.le_of_ble_eq_true rfl) (fun _ => rfl) ?_
          cases h
          exact J_vret (pc := 36) C 19 rfl
        · rw [if_neg c7] at h
          by_cases c9 : (hZ_13 1 0) = (3 : Int32)
          · rw [if_pos c9] at h
            refine J_aald (pc := 21) (v := (hA_13 3 0)) (f := fun i => some (hA_13 i 0)) C 10 rfl 10 rfl g2 (by rw [c9]; rfl) ?_
            refine J_aload_n (pc := 22) C 11 rfl 1 rfl rfl ?_
            obtain ⟨q10, hq10, h⟩ := bnd h
            refine J_callV (pc := 23) (st2 := []) (st3 := []) (ws2 := (wSch G aS (vS 0) (vS 1) (vS 2) (vS 3) (vS 4) (vS 5) (vS 6) (vS 7) (vS 8 0) (vS 9 0) ++ (wHis G aH hA_13 (up1 hV_13 3 q10) (hZ_13 1 0)))) C 12 rfl (c_X2_copyFrom (hA_13 3) aS (hV_13 3) vS hq10) V_X2_copyFrom k31 i_X2_copyFrom s_X2_copyFrom rfl rfl ⟨Nat.le_of_ble_eq_true rfl, Nat.le_of_ble_eq_true rfl⟩ (Nat.le_of_ble_eq_true rfl) ⟨Nat.le_refl _, Nat.le_refl _⟩ 38 2 rfl rfl rfl (isC := [38, 39, 40, 41, 42, 43, 44, 45, 46, 0, 1, 2, 3, 4, 5, 6, 7, 8]) (isR := [9, 10, 11, 12, 13, 14, 15, 16, 17, 18, 19, 20, 21, 22, 23, 24, 25, 26, 27, 28, 29, 30, 31, 32, 33, 34, 35, 36, 37, 47, 48, 49, 50, 51, 52, 53, 54, 55, 56, 57, 58, 59, 60, 61, 62, 63, 64]) (N := 65) ⟨rfl, by decide +kernel, rfl, by decide +kernel, rfl, ⟨⟨_, rfl, rfl⟩, ⟨⟨_, rfl, rfl⟩, ⟨⟨_, rfl, rfl⟩, ⟨⟨_, rfl, rfl⟩, ⟨⟨_, rfl, rfl⟩, ⟨⟨_, rfl, rfl⟩, ⟨⟨_, rfl, rfl⟩, ⟨⟨_, rfl, rfl⟩, ⟨⟨_, rfl, rfl⟩, ⟨⟨_, rfl, rfl⟩, ⟨⟨_, rfl, rfl⟩, ⟨⟨_, rfl, rfl⟩, ⟨⟨_, rfl, rfl⟩, ⟨⟨_, rfl, rfl⟩, ⟨⟨_, rfl, rfl⟩, ⟨⟨_, rfl, rfl⟩, ⟨⟨_, rfl, rfl⟩, ⟨⟨_, rfl, rfl⟩, ⟨⟨_, rfl, rfl⟩, ⟨⟨_, rfl, rfl⟩, ⟨⟨_, rfl, rfl⟩, ⟨⟨_, rfl, rfl⟩, ⟨⟨_, rfl, rfl⟩, ⟨⟨_, rfl, rfl⟩, ⟨⟨_, rfl, rfl⟩, ⟨⟨_, rfl, rfl⟩, ⟨⟨_, rfl, rfl⟩, ⟨⟨_, rfl, rfl⟩, ⟨⟨_, rfl, rfl⟩, ⟨⟨_, rfl, rfl⟩, ⟨⟨_, rfl, rfl⟩, ⟨⟨_, rfl, rfl⟩, ⟨⟨_, rfl, rfl⟩, ⟨⟨_, rfl, rfl⟩, ⟨⟨_, rfl, rfl⟩, ⟨⟨_, rfl, rfl⟩, ⟨⟨_, rfl, rfl⟩, ⟨⟨_, rfl, rfl⟩, ⟨⟨_, rfl, rfl⟩, ⟨⟨_, rfl, rfl⟩, ⟨⟨_, rfl, rfl⟩, ⟨⟨_, rfl, rfl⟩, ⟨⟨_, rfl, rfl⟩, ⟨⟨_, rfl, rfl⟩, ⟨⟨_, rfl, rfl⟩, ⟨⟨_, rfl, rfl⟩, ⟨⟨_, rfl, rfl⟩, trivial⟩⟩⟩⟩⟩⟩⟩⟩⟩⟩⟩⟩⟩⟩⟩⟩⟩⟩⟩⟩⟩⟩⟩⟩⟩⟩⟩⟩⟩⟩⟩⟩⟩⟩⟩⟩⟩⟩⟩⟩⟩⟩⟩⟩⟩⟩⟩⟩ rfl ?_
            refine J_aload_n (pc := 26) C 13 rfl 0 rfl rfl ?_
            refine J_dup (pc := 27) C 14 rfl rfl ?_
            refine J_get (pc := 28) (v := .int (hZ_13 1 0)) C 15 rfl TB_l0 rfl 9 1 rfl (by decide) k20 rfl rfl ?_
            refine J_iconst (pc := 31) (v := (1 : Int32)) C 16 rfl rfl ?_
            refine J_iadd (pc := 32) C 17 rfl  ?_
            refine J_puti (pc := 33) C 18 (fun vv => (wSch G aS (vS 0) (vS 1) (vS 2) (vS 3) (vS 4) (vS 5) (vS 6) (vS 7) (vS 8 0) (vS 9 0) ++ (wHis G aH hA_13 (up1 hV_13 3 q10) vv))) rfl TB_l0 tyX0 tyX0_ok nmX0 rfl 9 1 rfl (by decide) k20 rfl rfl rfl (Nat.le_of_ble_eq_true rfl) (fun _ => rfl) ?_
            cases h
            exact J_vret (pc := 36) C 19 rfl
          · rw [if_neg c9] at h
            by_cases c11 : (hZ_13 1 0) = (4 : Int32)
            · rw [if_pos c11] at h
              refine J_aald (pc := 21) (v := (hA_13 4 0)) (f := fun i => some (hA_13 i 0)) C 10 rfl 10 rfl g2 (by rw [c11]; rfl) ?_
              refine J_aload_n (pc := 22) C 11 rfl 1 rfl rfl ?_
              obtain ⟨q12, hq12, h⟩ := bnd h
              refine J_callV (pc := 23) (st2 := []) (st3 := []) (ws2 := (wSch G aS (vS 0) (vS 1) (vS 2) (vS 3) (vS 4) (vS 5) (vS 6) (vS 7) (vS 8 0) (vS 9 0) ++ (wHis G aH hA_13 (up1 hV_13 4 q12) (hZ_13 1 0)))) C 12 rfl (c_X2_copyFrom (hA_13 4) aS (hV_13 4) vS hq12) V_X2_copyFrom k31 i_X2_copyFrom s_X2_copyFrom rfl rfl ⟨Nat.le_of_ble_eq_true rfl, Nat.le_of_ble_eq_true rfl⟩ (Nat.le_of_ble_eq_true rfl) ⟨Nat.le_refl _, Nat.le_refl _⟩ 47 2 rfl rfl rfl (isC := [47, 48, 49, 50, 51, 52, 53, 54, 55, 0, 1, 2, 3, 4, 5, 6, 7, 8]) (isR := [9, 10, 11, 12, 13, 14, 15, 16, 17, 18, 19, 20, 21, 22, 23, 24, 25, 26, 27, 28, 29, 30, 31, 32, 33, 34, 35, 36, 37, 38, 39, 40, 41, 42, 43, 44, 45, 46, 56, 57, 58, 59, 60, 61, 62, 63, 64]) (N := 65) ⟨rfl, by decide +kernel, rfl, by decide +kernel, rfl, ⟨⟨_, rfl, rfl⟩, ⟨⟨_, rfl, rfl⟩, ⟨⟨_, rfl, rfl⟩, ⟨⟨_, rfl, rfl⟩, ⟨⟨_, rfl, rfl⟩, ⟨⟨_, rfl, rfl⟩, ⟨⟨_, rfl, rfl⟩, ⟨⟨_, rfl, rfl⟩, ⟨⟨_, rfl, rfl⟩, ⟨⟨_, rfl, rfl⟩, ⟨⟨_, rfl, rfl⟩, ⟨⟨_, rfl, rfl⟩, ⟨⟨_, rfl, rfl⟩, ⟨⟨_, rfl, rfl⟩, ⟨⟨_, rfl, rfl⟩, ⟨⟨_, rfl, rfl⟩, ⟨⟨_, rfl, rfl⟩, ⟨⟨_, rfl, rfl⟩, ⟨⟨_, rfl, rfl⟩, ⟨⟨_, rfl, rfl⟩, ⟨⟨_, rfl, rfl⟩, ⟨⟨_, rfl, rfl⟩, ⟨⟨_, rfl, rfl⟩, ⟨⟨_, rfl, rfl⟩, ⟨⟨_, rfl, rfl⟩, ⟨⟨_, rfl, rfl⟩, ⟨⟨_, rfl, rfl⟩, ⟨⟨_, rfl, rfl⟩, ⟨⟨_, rfl, rfl⟩, ⟨⟨_, rfl, rfl⟩, ⟨⟨_, rfl, rfl⟩, ⟨⟨_, rfl, rfl⟩, ⟨⟨_, rfl, rfl⟩, ⟨⟨_, rfl, rfl⟩, ⟨⟨_, rfl, rfl⟩, ⟨⟨_, rfl, rfl⟩, ⟨⟨_, rfl, rfl⟩, ⟨⟨_, rfl, rfl⟩, ⟨⟨_, rfl, rfl⟩, ⟨⟨_, rfl, rfl⟩, ⟨⟨_, rfl, rfl⟩, ⟨⟨_, rfl, rfl⟩, ⟨⟨_, rfl, rfl⟩, ⟨⟨_, rfl, rfl⟩, ⟨⟨_, rfl, rfl⟩, ⟨⟨_, rfl, rfl⟩, ⟨⟨_, rfl, rfl⟩, trivial⟩⟩⟩⟩⟩⟩⟩⟩⟩⟩⟩⟩⟩⟩⟩⟩⟩⟩⟩⟩⟩⟩⟩⟩⟩⟩⟩⟩⟩⟩⟩⟩⟩⟩⟩⟩⟩⟩⟩⟩⟩⟩⟩⟩⟩⟩⟩⟩ rfl ?_
              refine J_aload_n (pc := 26) C 13 rfl 0 rfl rfl ?_
              refine J_dup (pc := 27) C 14 rfl rfl ?_
              refine J_get (pc := 28) (v := .int (hZ_13 1 0)) C 15 rfl TB_l0 rfl 9 1 rfl (by decide) k20 rfl rfl ?_
              refine J_iconst (pc := 31) (v := (1 : Int32)) C 16 rfl rfl ?_
              refine J_iadd (pc := 32) C 17 rfl  ?_
              refine J_puti (pc := 33) C 18 (fun vv => (wSch G aS (vS 0) (vS 1) (vS 2) (vS 3) (vS 4) (vS 5) (vS 6) (vS 7) (vS 8 0) (vS 9 0) ++ (wHis G aH hA_13 (up1 hV_13 4 q12) vv))) rfl TB_l0 tyX0 tyX0_ok nmX0 rfl 9 1 rfl (by decide) k20 rfl rfl rfl (Nat.le_of_ble_eq_true rfl) (fun _ => rfl) ?_
              cases h
              exact J_vret (pc := 36) C 19 rfl
            · rw [if_neg c11] at h
              by_cases c13 : (hZ_13 1 0) = (5 : Int32)
              · rw [if_pos c13] at h
                refine J_aald (pc := 21) (v := (hA_13 5 0)) (f := fun i => some (hA_13 i 0)) C 10 rfl 10 rfl g2 (by rw [c13]; rfl) ?_
                refine J_aload_n (pc := 22) C 11 rfl 1 rfl rfl ?_
                obtain ⟨q14, hq14, h⟩ := bnd h
                refine J_callV (pc := 23) (st2 := []) (st3 := []) (ws2 := (wSch G aS (vS 0) (vS 1) (vS 2) (vS 3) (vS 4) (vS 5) (vS 6) (vS 7) (vS 8 0) (vS 9 0) ++ (wHis G aH hA_13 (up1 hV_13 5 q14) (hZ_13 1 0)))) C 12 rfl (c_X2_copyFrom (hA_13 5) aS (hV_13 5) vS hq14) V_X2_copyFrom k31 i_X2_copyFrom s_X2_copyFrom rfl rfl ⟨Nat.le_of_ble_eq_true rfl, Nat.le_of_ble_eq_true rfl⟩ (Nat.le_of_ble_eq_true rfl) ⟨Nat.le_refl _, Nat.le_refl _⟩ 56 2 rfl rfl rfl (isC := [56, 57, 58, 59, 60, 61, 62, 63, 64, 0, 1, 2, 3, 4, 5, 6, 7, 8]) (isR := [9, 10, 11, 12, 13, 14, 15, 16, 17, 18, 19, 20, 21, 22, 23, 24, 25, 26, 27, 28, 29, 30, 31, 32, 33, 34, 35, 36, 37, 38, 39, 40, 41, 42, 43, 44, 45, 46, 47, 48, 49, 50, 51, 52, 53, 54, 55]) (N := 65) ⟨rfl, by decide +kernel, rfl, by decide +kernel, rfl, ⟨⟨_, rfl, rfl⟩, ⟨⟨_, rfl, rfl⟩, ⟨⟨_, rfl, rfl⟩, ⟨⟨_, rfl, rfl⟩, ⟨⟨_, rfl, rfl⟩, ⟨⟨_, rfl, rfl⟩, ⟨⟨_, rfl, rfl⟩, ⟨⟨_, rfl, rfl⟩, ⟨⟨_, rfl, rfl⟩, ⟨⟨_, rfl, rfl⟩, ⟨⟨_, rfl, rfl⟩, ⟨⟨_, rfl, rfl⟩, ⟨⟨_, rfl, rfl⟩, ⟨⟨_, rfl, rfl⟩, ⟨⟨_, rfl, rfl⟩, ⟨⟨_, rfl, rfl⟩, ⟨⟨_, rfl, rfl⟩, ⟨⟨_, rfl, rfl⟩, ⟨⟨_, rfl, rfl⟩, ⟨⟨_, rfl, rfl⟩, ⟨⟨_, rfl, rfl⟩, ⟨⟨_, rfl, rfl⟩, ⟨⟨_, rfl, rfl⟩, ⟨⟨_, rfl, rfl⟩, ⟨⟨_, rfl, rfl⟩, ⟨⟨_, rfl, rfl⟩, ⟨⟨_, rfl, rfl⟩, ⟨⟨_, rfl, rfl⟩, ⟨⟨_, rfl, rfl⟩, ⟨⟨_, rfl, rfl⟩, ⟨⟨_, rfl, rfl⟩, ⟨⟨_, rfl, rfl⟩, ⟨⟨_, rfl, rfl⟩, ⟨⟨_, rfl, rfl⟩, ⟨⟨_, rfl, rfl⟩, ⟨⟨_, rfl, rfl⟩, ⟨⟨_, rfl, rfl⟩, ⟨⟨_, rfl, rfl⟩, ⟨⟨_, rfl, rfl⟩, ⟨⟨_, rfl, rfl⟩, ⟨⟨_, rfl, rfl⟩, ⟨⟨_, rfl, rfl⟩, ⟨⟨_, rfl, rfl⟩, ⟨⟨_, rfl, rfl⟩, ⟨⟨_, rfl, rfl⟩, ⟨⟨_, rfl, rfl⟩, ⟨⟨_, rfl, rfl⟩, trivial⟩⟩⟩⟩⟩⟩⟩⟩⟩⟩⟩⟩⟩⟩⟩⟩⟩⟩⟩⟩⟩⟩⟩⟩⟩⟩⟩⟩⟩⟩⟩⟩⟩⟩⟩⟩⟩⟩⟩⟩⟩⟩⟩⟩⟩⟩⟩⟩ rfl ?_
                refine J_aload_n (pc := 26) C 13 rfl 0 rfl rfl ?_
                refine J_dup (pc := 27) C 14 rfl rfl ?_
                refine J_get (pc := 28) (v := .int (hZ_13 1 0)) C 15 rfl TB_l0 rfl 9 1 rfl (by decide) k20 rfl rfl ?_
                refine J_iconst (pc := 31) (v := (1 : Int32)) C 16 rfl rfl ?_
                refine J_iadd (pc := 32) C 17 rfl  ?_
                refine J_puti (pc := 33) C 18 (fun vv => (wSch G aS (vS 0) (vS 1) (vS 2) (vS 3) (vS 4) (vS 5) (vS 6) (vS 7) (vS 8 0) (vS 9 0) ++ (wHis G aH hA_13 (up1 hV_13 5 q14) vv))) rfl TB_l0 tyX0 tyX0_ok nmX0 rfl 9 1 rfl (by decide) k20 rfl rfl rfl (Nat.le_of_ble_eq_true rfl) (fun _ => rfl) ?_
                cases h
                exact J_vret (pc := 36) C 19 rfl
              · rw [if_neg c13] at h
                cases h
  unfold f_X0_remember at h
  refine J_aload_n (pc := 0) C 0 rfl 0 rfl rfl ?_
  refine J_get (pc := 1) (v := .int (hZ 1 0)) C 1 rfl TB_l0 rfl 9 1 rfl (by decide) k20 rfl rfl ?_
  refine J_bipush (pc := 4) (v := (6 : Int32)) C 2 rfl rfl ?_
  refine J_icmp_ne (pc := 6) (tgt := 13) C 3 rfl rfl (fun c1 => ?_) (fun c1 => ?_)
  · rw [if_neg c1] at h
    exact J_sub [0, 1] rfl (B13 hA hV hZ h)
  · rw [if_pos c1] at h
    refine J_aload_n (pc := 9) C 4 rfl 0 rfl rfl ?_
    obtain ⟨q15, hq15, h⟩ := bnd h
    refine J_callV (pc := 10) (st2 := []) (st3 := []) (ws2 := (wSch G aS (vS 0) (vS 1) (vS 2) (vS 3) (vS 4) (vS 5) (vS 6) (vS 7) (vS 8 0) (vS 9 0) ++ (wHis G aH (q15.1) (q15.2.1) ((q15.2.2) 1 0)))) C 5 rfl (c_X0_dropOldest aH hA hV hZ hq15) V_X0_dropOldest k27 i_X0_dropOldest s_X0_dropOldest rfl rfl ⟨Nat.le_of_ble_eq_true rfl, Nat.le_of_ble_eq_true rfl⟩ (Nat.le_of_ble_eq_true rfl) ⟨Nat.le_refl _, Nat.le_refl _⟩ 9 0 rfl rfl rfl (isC := [9, 10, 11, 12, 13, 14, 15, 16, 17, 18, 19, 20, 21, 22, 23, 24, 25, 26, 27, 28, 29, 30, 31, 32, 33, 34, 35, 36, 37, 38, 39, 40, 41, 42, 43, 44, 45, 46, 47, 48, 49, 50, 51, 52, 53, 54, 55, 56, 57, 58, 59, 60, 61, 62, 63, 64]) (isR := [0, 1, 2, 3, 4, 5, 6, 7, 8]) (N := 65) ⟨rfl, by decide +kernel, rfl, by decide +kernel, rfl, ⟨⟨_, rfl, rfl⟩, ⟨⟨_, rfl, rfl⟩, ⟨⟨_, rfl, rfl⟩, ⟨⟨_, rfl, rfl⟩, ⟨⟨_, rfl, rfl⟩, ⟨⟨_, rfl, rfl⟩, ⟨⟨_, rfl, rfl⟩, ⟨⟨_, rfl, rfl⟩, ⟨⟨_, rfl, rfl⟩, trivial⟩⟩⟩⟩⟩⟩⟩⟩⟩⟩ rfl ?_
    exact J_sub [0, 1] rfl (B13 (q15.1) (q15.2.1) (q15.2.2) h)
def T_X0_takeBack : List (Nat × ClassFile.Instr × Nat) := [(0, .aload_n 0, 1), (1, .getfield 17, 3), (4, .ifCond .le 26, 3), (7, .aload_n 0, 1), (8, .dup, 1), (9, .getfield 17, 3), (12, .iconst 1, 1), (13, .isub, 1), (14, .putfield 17, 3), (17, .aload_n 1, 1), (18, .aload_n 0, 1), (19, .getfield 11, 3), (22, .aload_n 0, 1), (23, .getfield 17, 3), (26, .aaload, 1), (27, .invokevirtual 25, 3), (30, .return_, 1)]
theorem D_X0_takeBack : ∀ q ∈ T_X0_takeBack, decode cX0_takeBack q.1 = .ok q.2 := by decide +kernel
theorem V_X0_takeBack : Vy yX0_takeBack cX0_takeBack 2 none 1 := ⟨k34, k30, by decide +kernel⟩
theorem i_X0_takeBack : Cond.instanceMethod yX0_takeBack ∈ TB := k332
theorem s_X0_takeBack : Cond.selects yX0_takeBack.cls yX0_takeBack yX0_takeBack ∈ TB := k333
noncomputable def f_X0_takeBack (vS : JV) (hA : Nat → Nat → Nat) (hV : Nat → JV) (hZ : JV)  : Option (JV × JV) :=
  (if (hZ 1 0) ≤ 0 then some (vS, hZ) else gd (inb ((hZ 1 0) - (1 : Int32)) 6) ((if ((hZ 1 0) - (1 : Int32)) = (0 : Int32) then (f_X2_copyFrom vS (hV 0)).bind (fun q4 => some (q4, (up2 hZ 1 0 ((hZ 1 0) - (1 : Int32))))) else (if ((hZ 1 0) - (1 : Int32)) = (1 : Int32) then (f_X2_copyFrom vS (hV 1)).bind (fun q6 => some (q6, (up2 hZ 1 0 ((hZ 1 0) - (1 : Int32))))) else (if ((hZ 1 0) - (1 : Int32)) = (2 : Int32) then (f_X2_copyFrom vS (hV 2)).bind (fun q8 => some (q8, (up2 hZ 1 0 ((hZ 1 0) - (1 : Int32))))) else (if ((hZ 1 0) - (1 : Int32)) = (3 : Int32) then (f_X2_copyFrom vS (hV 3)).bind (fun q10 => some (q10, (up2 hZ 1 0 ((hZ 1 0) - (1 : Int32))))) else (if ((hZ 1 0) - (1 : Int32)) = (4 : Int32) then (f_X2_copyFrom vS (hV 4)).bind (fun q12 => some (q12, (up2 hZ 1 0 ((hZ 1 0) - (1 : Int32))))) else (if ((hZ 1 0) - (1 : Int32)) = (5 : Int32) then (f_X2_copyFrom vS (hV 5)).bind (fun q14 => some (q14, (up2 hZ 1 0 ((hZ 1 0) - (1 : Int32))))) else none))))))))
set_option maxRecDepth 100000 in
set_option maxHeartbeats 4000000 in
theorem c_X0_takeBack {l : Launch} {G : JG} (aS : Nat → Nat) (aH : Nat → Nat) (vS : JV) (hA : Nat → Nat → Nat) (hV : Nat → JV) (hZ : JV)  {Rz : JV × JV} (h : f_X0_takeBack vS hA hV hZ = some Rz) : JM l G yX0_takeBack cX0_takeBack 2 none 1 22 [.ref (aH 0), .ref (aS 0)] (wSch G aS (vS 0) (vS 1) (vS 2) (vS 3) (vS 4) (vS 5) (vS 6) (vS 7) (vS 8 0) (vS 9 0) ++ (wHis G aH hA hV (hZ 1 0))) (wSch G aS ((Rz.1) 0) ((Rz.1) 1) ((Rz.1) 2) ((Rz.1) 3) ((Rz.1) 4) ((Rz.1) 5) ((Rz.1) 6) ((Rz.1) 7) ((Rz.1) 8 0) ((Rz.1) 9 0) ++ (wHis G aH hA hV ((Rz.2) 1 0))) none := by
  refine JM.of (own := RX0) (tb := T_X0_takeBack) (by decide) (Nat.le_of_ble_eq_true rfl) D_X0_takeBack rfl (fun X C => ?_)
  refine J_sub (lv' := [(0, .ref (aH 0)), (1, .ref (aS 0))]) [0, 1] rfl ?_
  unfold f_X0_takeBack at h
  refine J_aload_n (pc := 0) C 0 rfl 0 rfl rfl ?_
  refine J_get (pc := 1) (v := .int (hZ 1 0)) C 1 rfl TB_l0 rfl 9 1 rfl (by decide) k20 rfl rfl ?_
  refine J_if_le (pc := 4) (tgt := 30) C 2 rfl rfl (fun c1 => ?_) (fun c1 => ?_)
  · rw [if_pos c1] at h
    cases h
    exact J_vret (pc := 30) C 16 rfl
  · rw [if_neg c1] at h
    refine J_aload_n (pc := 7) C 3 rfl 0 rfl rfl ?_
    refine J_dup (pc := 8) C 4 rfl rfl ?_
    refine J_get (pc := 9) (v := .int (hZ 1 0)) C 5 rfl TB_l0 rfl 9 1 rfl (by decide) k20 rfl rfl ?_
    refine J_iconst (pc := 12) (v := (1 : Int32)) C 6 rfl rfl ?_
    refine J_isub (pc := 13) C 7 rfl  ?_
    refine J_puti (pc := 14) C 8 (fun vv => (wSch G aS (vS 0) (vS 1) (vS 2) (vS 3) (vS 4) (vS 5) (vS 6) (vS 7) (vS 8 0) (vS 9 0) ++ (wHis G aH hA hV vv))) rfl TB_l0 tyX0 tyX0_ok nmX0 rfl 9 1 rfl (by decide) k20 rfl rfl rfl (Nat.le_of_ble_eq_true rfl) (fun _ => rfl) ?_
    refine J_aload_n (pc := 17) C 9 rfl 1 rfl rfl ?_
    refine J_aload_n (pc := 18) C 10 rfl 0 rfl rfl ?_
    refine J_get (pc := 19) (v := .ref (aH 1)) C 11 rfl TB_l0 rfl 9 0 rfl (by decide) k19 rfl rfl ?_
    refine J_aload_n (pc := 22) C 12 rfl 0 rfl rfl ?_
    refine J_get (pc := 23) (v := .int ((hZ 1 0) - (1 : Int32))) C 13 rfl TB_l0 rfl 9 1 rfl (by decide) k20 rfl rfl ?_
    obtain ⟨g2, h⟩ := gd_some h
    by_cases c3 : ((hZ 1 0) - (1 : Int32)) = (0 : Int32)
    · rw [if_pos c3] at h
      refine J_aald (pc := 26) (v := (hA 0 0)) (f := fun i => some (hA i 0)) C 14 rfl 10 rfl g2 (by rw [c3]; rfl) ?_
      obtain ⟨q4, hq4, h⟩ := bnd h
      refine J_callV (pc := 27) (st2 := []) (st3 := []) (ws2 := (wSch G aS (q4 0) (q4 1) (q4 2) (q4 3) (q4 4) (q4 5) (q4 6) (q4 7) (q4 8 0) (q4 9 0) ++ (wHis G aH hA hV ((hZ 1 0) - (1 : Int32))))) C 15 rfl (c_X2_copyFrom aS (hA 0) vS (hV 0) hq4) V_X2_copyFrom k31 i_X2_copyFrom s_X2_copyFrom rfl rfl ⟨Nat.le_of_ble_eq_true rfl, Nat.le_of_ble_eq_true rfl⟩ (Nat.le_of_ble_eq_true rfl) ⟨Nat.le_refl _, Nat.le_refl _⟩ 0 2 rfl rfl rfl (isC := [0, 1, 2, 3, 4, 5, 6, 7, 8, 11, 12, 13, 14, 15, 16, 17, 18, 19]) (isR := [9, 10, 20, 21, 22, 23, 24, 25, 26, 27, 28, 29, 30, 31, 32, 33, 34, 35, 36, 37, 38, 39, 40, 41, 42, 43, 44, 45, 46, 47, 48, 49, 50, 51, 52, 53, 54, 55, 56, 57, 58, 59, 60, 61, 62, 63, 64]) (N := 65) ⟨rfl, by decide +kernel, rfl, by decide +kernel, rfl, ⟨⟨_, rfl, rfl⟩, ⟨⟨_, rfl, rfl⟩, ⟨⟨_, rfl, rfl⟩, ⟨⟨_, rfl, rfl⟩, ⟨⟨_, rfl, rfl⟩, ⟨⟨_, rfl, rfl⟩, ⟨⟨_, rfl, rfl⟩, ⟨⟨_, rfl, rfl⟩, ⟨⟨_, rfl, rfl⟩, ⟨⟨_, rfl, rfl⟩, ⟨⟨_, rfl, rfl⟩, ⟨⟨_, rfl, rfl⟩, ⟨⟨_, rfl, rfl⟩, ⟨⟨_, rfl, rfl⟩, ⟨⟨_, rfl, rfl⟩, ⟨⟨_, rfl, rfl⟩, ⟨⟨_, rfl, rfl⟩, ⟨⟨_, rfl, rfl⟩, ⟨⟨_, rfl, rfl⟩, ⟨⟨_, rfl, rfl⟩, ⟨⟨_, rfl, rfl⟩, ⟨⟨_, rfl, rfl⟩, ⟨⟨_, rfl, rfl⟩, ⟨⟨_, rfl, rfl⟩, ⟨⟨_, rfl, rfl⟩, ⟨⟨_, rfl, rfl⟩, ⟨⟨_, rfl, rfl⟩, ⟨⟨_, rfl, rfl⟩, ⟨⟨_, rfl, rfl⟩, ⟨⟨_, rfl, rfl⟩, ⟨⟨_, rfl, rfl⟩, ⟨⟨_, rfl, rfl⟩, ⟨⟨_, rfl, rfl⟩, ⟨⟨_, rfl, rfl⟩, ⟨⟨_, rfl, rfl⟩, ⟨⟨_, rfl, rfl⟩, ⟨⟨_, rfl, rfl⟩, ⟨⟨_, rfl, rfl⟩, ⟨⟨_, rfl, rfl⟩, ⟨⟨_, rfl, rfl⟩, ⟨⟨_, rfl, rfl⟩, ⟨⟨_, rfl, rfl⟩, ⟨⟨_, rfl, rfl⟩, ⟨⟨_, rfl, rfl⟩, ⟨⟨_, rfl, rfl⟩, ⟨⟨_, rfl, rfl⟩, ⟨⟨_, rfl, rfl⟩, trivial⟩⟩⟩⟩⟩⟩⟩⟩⟩⟩⟩⟩⟩⟩⟩⟩⟩⟩⟩⟩⟩⟩⟩⟩⟩⟩⟩⟩⟩⟩⟩⟩⟩⟩⟩⟩⟩⟩⟩⟩⟩⟩⟩⟩⟩⟩⟩⟩ rfl ?_
      cases h
      exact J_vret (pc := 30) C 16 rfl
    · rw [if_neg c3] at h
      by_cases c5 : ((hZ 1 0) - (1 : Int32)) = (1 : Int32)
      · rw [if_pos c5] at h
        refine J_aald (pc := 26) (v := (hA 1 0)) (f := fun i => some (hA i 0)) C 14 rfl 10 rfl g2 (by rw [c5]; rfl) ?_
        obtain ⟨q6, hq6, h⟩ := bnd h
        refine J_callV (pc := 27) (st2 := []) (st3 := []) (ws2 := (wSch G aS (q6 0) (q6 1) (q6 2) (q6 3) (q6 4) (q6 5) (q6 6) (q6 7) (q6 8 0) (q6 9 0) ++ (wHis G aH hA hV ((hZ 1 0) - (1 : Int32))))) C 15 rfl (c_X2_copyFrom aS (hA 1) vS (hV 1) hq6) V_X2_copyFrom k31 i_X2_copyFrom s_X2_copyFrom rfl rfl ⟨Nat.le_of_ble_eq_true rfl, Nat.le_of_ble_eq_true rfl⟩ (Nat.le_of_ble_eq_true rfl) ⟨Nat.le_refl _, Nat.le_refl _⟩ 0 2 rfl rfl rfl (isC := [0, 1, 2, 3, 4, 5, 6, 7, 8, 20, 21, 22, 23, 24, 25, 26, 27, 28]) (isR := [9, 10, 11, 12, 13, 14, 15, 16, 17, 18, 19, 29, 30, 31, 32, 33, 34, 35, 36, 37, 38, 39, 40, 41, 42, 43, 44, 45, 46, 47, 48, 49, 50, 51, 52, 53, 54, 55, 56, 57, 58, 59, 60, 61, 62, 63, 64]) (N := 65) ⟨rfl, by decide +kernel, rfl, by decide +kernel, rfl, ⟨⟨_, rfl, rfl⟩, ⟨⟨_, rfl, rfl⟩, ⟨⟨_, rfl, rfl⟩, ⟨⟨_, rfl, rfl⟩, ⟨⟨_, rfl, rfl⟩, ⟨⟨_, rfl, rfl⟩, ⟨⟨_, rfl, rfl⟩, ⟨⟨_, rfl, rfl⟩, ⟨⟨_, rfl, rfl⟩, ⟨⟨_, rfl, rfl⟩, ⟨⟨_, rfl, rfl⟩, ⟨⟨_, rfl, rfl⟩, ⟨⟨_, rfl, rfl⟩, ⟨⟨_, rfl, rfl⟩, ⟨⟨_, rfl, rfl⟩, ⟨⟨_, rfl, rfl⟩, ⟨⟨_, rfl, rfl⟩, ⟨⟨_, rfl, rfl⟩, ⟨⟨_, rfl, rfl⟩, ⟨⟨_, rfl, rfl⟩, ⟨⟨_, rfl, rfl⟩, ⟨⟨_, rfl, rfl⟩, ⟨⟨_, rfl, rfl⟩, ⟨⟨_, rfl, rfl⟩, ⟨⟨_, rfl, rfl⟩, ⟨⟨_, rfl, rfl⟩, ⟨⟨_, rfl, rfl⟩, ⟨⟨_, rfl, rfl⟩, ⟨⟨_, rfl, rfl⟩, ⟨⟨_, rfl, rfl⟩, ⟨⟨_, rfl, rfl⟩, ⟨⟨_, rfl, rfl⟩, ⟨⟨_, rfl, rfl⟩, ⟨⟨_, rfl, rfl⟩, ⟨⟨_, rfl, rfl⟩, ⟨⟨_, rfl, rfl⟩, ⟨⟨_, rfl, rfl⟩, ⟨⟨_, rfl, rfl⟩, ⟨⟨_, rfl, rfl⟩, ⟨⟨_, rfl, rfl⟩, ⟨⟨_, rfl, rfl⟩, ⟨⟨_, rfl, rfl⟩, ⟨⟨_, rfl, rfl⟩, ⟨⟨_, rfl, rfl⟩, ⟨⟨_, rfl, rfl⟩, ⟨⟨_, rfl, rfl⟩, ⟨⟨_, rfl, rfl⟩, trivial⟩⟩⟩⟩⟩⟩⟩⟩⟩⟩⟩⟩⟩⟩⟩⟩⟩⟩⟩⟩⟩⟩⟩⟩⟩⟩⟩⟩⟩⟩⟩⟩⟩⟩⟩⟩⟩⟩⟩⟩⟩⟩⟩⟩⟩⟩⟩⟩ rfl ?_
        cases h
        exact J_vret (pc := 30) C 16 rfl
      · rw [if_neg c5] at h
        by_cases c7 : ((hZ 1 0) - (1 : Int32)) = (2 : Int32)
        · rw [if_pos c7] at h
          refine J_aald (pc := 26) (v := (hA 2 0)) (f := fun i => some (hA i 0)) C 14 rfl 10 rfl g2 (by rw [c7]; rfl) ?_
          obtain ⟨q8, hq8, h⟩ := bnd h
          refine J_callV (pc := 27) (st2 := []) (st3 := []) (ws2 := (wSch G aS (q8 0) (q8 1) (q8 2) (q8 3) (q8 4) (q8 5) (q8 6) (q8 7) (q8 8 0) (q8 9 0) ++ (wHis G aH hA hV ((hZ 1 0) - (1 : Int32))))) C 15 rfl (c_X2_copyFrom aS (hA 2) vS (hV 2) hq8) V_X2_copyFrom k31 i_X2_copyFrom s_X2_copyFrom rfl rfl ⟨Nat.le_of_ble_eq_true rfl, Nat.le_of_ble_eq_true rfl⟩ (Nat.le_of_ble_eq_true rfl) ⟨Nat.le_refl _, Nat.le_refl _⟩ 0 2 rfl rfl rfl (isC := [0, 1, 2, 3, 4, 5, 6, 7, 8, 29, 30, 31, 32, 33, 34, 35, 36, 37]) (isR := [9, 10, 11, 12, 13, 14, 15, 16, 17, 18, 19, 20, 21, 22, 23, 24, 25, 26, 27, 28, 38, 39, 40, 41, 42, 43, 44, 45, 46, 47, 48, 49, 50, 51, 52, 53, 54, 55, 56, 57, 58, 59, 60, 61, 62, 63, 64]) (N := 65) ⟨rfl, by decide +kernel, rfl, by decide +kernel, rfl, ⟨⟨_, rfl, rfl⟩, ⟨⟨_, rfl, rfl⟩, ⟨⟨_, rfl, rfl⟩, ⟨⟨_, rfl, rfl⟩, ⟨⟨_, rfl, rfl⟩, ⟨⟨_, rfl, rfl⟩, ⟨⟨_, rfl, rfl⟩, ⟨⟨_, rfl, rfl⟩, ⟨⟨_, rfl, rfl⟩, ⟨⟨_, rfl, rfl⟩, ⟨⟨_, rfl, rfl⟩, ⟨⟨_, rfl, rfl⟩, ⟨⟨_, rfl, rfl⟩, ⟨⟨_, rfl, rfl⟩, ⟨⟨_, rfl, rfl⟩, ⟨⟨_, rfl, rfl⟩, ⟨⟨_, rfl, rfl⟩, ⟨⟨_, rfl, rfl⟩, ⟨⟨_, rfl, rfl⟩, ⟨⟨_, rfl, rfl⟩, ⟨⟨_, rfl, rfl⟩, ⟨⟨_, rfl, rfl⟩, ⟨⟨_, rfl, rfl⟩, ⟨⟨_, rfl, rfl⟩, ⟨⟨_, rfl, rfl⟩, ⟨⟨_, rfl, rfl⟩, ⟨⟨_, rfl, rfl⟩, ⟨⟨_, rfl, rfl⟩, ⟨⟨_, rfl, rfl⟩, ⟨⟨_, rfl, rfl⟩, ⟨⟨_, rfl, rfl⟩, ⟨⟨_, rfl, rfl⟩, ⟨⟨_, rfl, rfl⟩, ⟨⟨_, rfl, rfl⟩, ⟨⟨_, rfl, rfl⟩, ⟨⟨_, rfl, rfl⟩, ⟨⟨_, rfl, rfl⟩, ⟨⟨_, rfl, rfl⟩, ⟨⟨_, rfl, rfl⟩, ⟨⟨_, rfl, rfl⟩, ⟨⟨_, rfl, rfl⟩, ⟨⟨_, rfl, rfl⟩, ⟨⟨_, rfl, rfl⟩, ⟨⟨_, rfl, rfl⟩, ⟨⟨_, rfl, rfl⟩, ⟨⟨_, rfl, rfl⟩, ⟨⟨_, rfl, rfl⟩, trivial⟩⟩⟩⟩⟩⟩⟩⟩⟩⟩⟩⟩⟩⟩⟩⟩⟩⟩⟩⟩⟩⟩⟩⟩⟩⟩⟩⟩⟩⟩⟩⟩⟩⟩⟩⟩⟩⟩⟩⟩⟩⟩⟩⟩⟩⟩⟩⟩ rfl ?_
          cases h
          exact J_vret (pc := 30) C 16 rfl
        · rw [if_neg c7] at h
          by_cases c9 : ((hZ 1 0) - (1 : Int32)) = (3 : Int32)
          · rw [if_pos c9] at h
            refine J_aald (pc := 26) (v := (hA 3 0)) (f := fun i => some (hA i 0)) C 14 rfl 10 rfl g2 (by rw [c9]; rfl) ?_
            obtain ⟨q10, hq10, h⟩ := bnd h
            refine J_callV (pc := 27) (st2 := []) (st3 := []) (ws2 := (wSch G aS (q10 0) (q10 1) (q10 2) (q10 3) (q10 4) (q10 5) (q10 6) (q10 7) (q10 8 0) (q10 9 0) ++ (wHis G aH hA hV ((hZ 1 0) - (1 : Int32))))) C 15 rfl (c_X2_copyFrom aS (hA 3) vS (hV 3) hq10) V_X2_copyFrom k31 i_X2_copyFrom s_X2_copyFrom rfl rfl ⟨Nat.le_of_ble_eq_true rfl, Nat.le_of_ble_eq_true rfl⟩ (Nat.le_of_ble_eq_true rfl) ⟨Nat.le_refl _, Nat.le_refl _⟩ 0 2 rfl rfl rfl (isC := [0, 1, 2, 3, 4, 5, 6, 7, 8, 38, 39, 40, 41, 42, 43, 44, 45, 46]) (isR := [9, 10, 11, 12, 13, 14, 15, 16, 17, 18, 19, 20, 21, 22, 23, 24, 25, 26, 27, 28, 29, 30, 31, 32, 33, 34, 35, 36, 37, 47, 48, 49, 50, 51, 52, 53, 54, 55, 56, 57, 58, 59, 60, 61, 62, 63, 64]) (N := 65) ⟨rfl, by decide +kernel, rfl, by decide +kernel, rfl, ⟨⟨_, rfl, rfl⟩, ⟨⟨_, rfl, rfl⟩, ⟨⟨_, rfl, rfl⟩, ⟨⟨_, rfl, rfl⟩, ⟨⟨_, rfl, rfl⟩, ⟨⟨_, rfl, rfl⟩, ⟨⟨_, rfl, rfl⟩, ⟨⟨_, rfl, rfl⟩, ⟨⟨_, rfl, rfl⟩, ⟨⟨_, rfl, rfl⟩, ⟨⟨_, rfl, rfl⟩, ⟨⟨_, rfl, rfl⟩, ⟨⟨_, rfl, rfl⟩, ⟨⟨_, rfl, rfl⟩, ⟨⟨_, rfl, rfl⟩, ⟨⟨_, rfl, rfl⟩, ⟨⟨_, rfl, rfl⟩, ⟨⟨_, rfl, rfl⟩, ⟨⟨_, rfl, rfl⟩, ⟨⟨_, rfl, rfl⟩, ⟨⟨_, rfl, rfl⟩, ⟨⟨_, rfl, rfl⟩, ⟨⟨_, rfl, rfl⟩, ⟨⟨_, rfl, rfl⟩, ⟨⟨_, rfl, rfl⟩, ⟨⟨_, rfl, rfl⟩, ⟨⟨_, rfl, rfl⟩, ⟨⟨_, rfl, rfl⟩, ⟨⟨_, rfl, rfl⟩, ⟨⟨_, rfl, rfl⟩, ⟨⟨_, rfl, rfl⟩, ⟨⟨_, rfl, rfl⟩, ⟨⟨_, rfl, rfl⟩, ⟨⟨_, rfl, rfl⟩, ⟨⟨_, rfl, rfl⟩, ⟨⟨_, rfl, rfl⟩, ⟨⟨_, rfl, rfl⟩, ⟨⟨_, rfl, rfl⟩, ⟨⟨_, rfl, rfl⟩, ⟨⟨_, rfl, rfl⟩, ⟨⟨_, rfl, rfl⟩, ⟨⟨_, rfl, rfl⟩, ⟨⟨_, rfl, rfl⟩, ⟨⟨_, rfl, rfl⟩, ⟨⟨_, rfl, rfl⟩, ⟨⟨_, rfl, rfl⟩, ⟨⟨_, rfl, rfl⟩, trivial⟩⟩⟩⟩⟩⟩⟩⟩⟩⟩⟩⟩⟩⟩⟩⟩⟩⟩⟩⟩⟩⟩⟩⟩⟩⟩⟩⟩⟩⟩⟩⟩⟩⟩⟩⟩⟩⟩⟩⟩⟩⟩⟩⟩⟩⟩⟩⟩ rfl ?_
            cases h
            exact J_vret (pc := 30) C 16 rfl
          · rw [if_neg c9] at h
            by_cases c11 : ((hZ 1 0) - (1 : Int32)) = (4 : Int32)
            · rw [if_pos c11] at h
              refine J_aald (pc := 26) (v := (hA 4 0)) (f := fun i => some (hA i 0)) C 14 rfl 10 rfl g2 (by rw [c11]; rfl) ?_
              obtain ⟨q12, hq12, h⟩ := bnd h
              refine J_callV (pc := 27) (st2 := []) (st3 := []) (ws2 := (wSch G aS (q12 0) (q12 1) (q12 2) (q12 3) (q12 4) (q12 5) (q12 6) (q12 7) (q12 8 0) (q12 9 0) ++ (wHis G aH hA hV ((hZ 1 0) - (1 : Int32))))) C 15 rfl (c_X2_copyFrom aS (hA 4) vS (hV 4) hq12) V_X2_copyFrom k31 i_X2_copyFrom s_X2_copyFrom rfl rfl ⟨Nat.le_of_ble_eq_true rfl, Nat.le_of_ble_eq_true rfl⟩ (Nat.le_of_ble_eq_true rfl) ⟨Nat.le_refl _, Nat.le_refl _⟩ 0 2 rfl rfl rfl (isC := [0, 1, 2, 3, 4, 5, 6, 7, 8, 47, 48, 49, 50, 51, 52, 53, 54, 55]) (isR := [9, 10, 11, 12, 13, 14, 15, 16, 17, 18, 19, 20, 21, 22, 23, 24, 25, 26, 27, 28, 29, 30, 31, 32, 33, 34, 35, 36, 37, 38, 39, 40, 41, 42, 43, 44, 45, 46, 56, 57, 58, 59, 60, 61, 62, 63, 64]) (N := 65) ⟨rfl, by decide +kernel, rfl, by decide +kernel, rfl, ⟨⟨_, rfl, rfl⟩, ⟨⟨_, rfl, rfl⟩, ⟨⟨_, rfl, rfl⟩, ⟨⟨_, rfl, rfl⟩, ⟨⟨_, rfl, rfl⟩, ⟨⟨_, rfl, rfl⟩, ⟨⟨_, rfl, rfl⟩, ⟨⟨_, rfl, rfl⟩, ⟨⟨_, rfl, rfl⟩, ⟨⟨_, rfl, rfl⟩, ⟨⟨_, rfl, rfl⟩, ⟨⟨_, rfl, rfl⟩, ⟨⟨_, rfl, rfl⟩, ⟨⟨_, rfl, rfl⟩, ⟨⟨_, rfl, rfl⟩, ⟨⟨_, rfl, rfl⟩, ⟨⟨_, rfl, rfl⟩, ⟨⟨_, rfl, rfl⟩, ⟨⟨_, rfl, rfl⟩, ⟨⟨_, rfl, rfl⟩, ⟨⟨_, rfl, rfl⟩, ⟨⟨_, rfl, rfl⟩, ⟨⟨_, rfl, rfl⟩, ⟨⟨_, rfl, rfl⟩, ⟨⟨_, rfl, rfl⟩, ⟨⟨_, rfl, rfl⟩, ⟨⟨_, rfl, rfl⟩, ⟨⟨_, rfl, rfl⟩, ⟨⟨_, rfl, rfl⟩, ⟨⟨_, rfl, rfl⟩, ⟨⟨_, rfl, rfl⟩, ⟨⟨_, rfl, rfl⟩, ⟨⟨_, rfl, rfl⟩, ⟨⟨_, rfl, rfl⟩, ⟨⟨_, rfl, rfl⟩, ⟨⟨_, rfl, rfl⟩, ⟨⟨_, rfl, rfl⟩, ⟨⟨_, rfl, rfl⟩, ⟨⟨_, rfl, rfl⟩, ⟨⟨_, rfl, rfl⟩, ⟨⟨_, rfl, rfl⟩, ⟨⟨_, rfl, rfl⟩, ⟨⟨_, rfl, rfl⟩, ⟨⟨_, rfl, rfl⟩, ⟨⟨_, rfl, rfl⟩, ⟨⟨_, rfl, rfl⟩, ⟨⟨_, rfl, rfl⟩, trivial⟩⟩⟩⟩⟩⟩⟩⟩⟩⟩⟩⟩⟩⟩⟩⟩⟩⟩⟩⟩⟩⟩⟩⟩⟩⟩⟩⟩⟩⟩⟩⟩⟩⟩⟩⟩⟩⟩⟩⟩⟩⟩⟩⟩⟩⟩⟩⟩ rfl ?_
              cases h
              exact J_vret (pc := 30) C 16 rfl
            · rw [if_neg c11] at h
              by_cases c13 : ((hZ 1 0) - (1 : Int32)) = (5 : Int32)
              · rw [if_pos c13] at h
                refine J_aald (pc := 26) (v := (hA 5 0)) (f := fun i => some (hA i 0)) C 14 rfl 10 rfl g2 (by rw [c13]; rfl) ?_
                obtain ⟨q14, hq14, h⟩ := bnd h
                refine J_callV (pc := 27) (st2 := []) (st3 := []) (ws2 := (wSch G aS (q14 0) (q14 1) (q14 2) (q14 3) (q14 4) (q14 5) (q14 6) (q14 7) (q14 8 0) (q14 9 0) ++ (wHis G aH hA hV ((hZ 1 0) - (1 : Int32))))) C 15 rfl (c_X2_copyFrom aS (hA 5) vS (hV 5) hq14) V_X2_copyFrom k31 i_X2_copyFrom s_X2_copyFrom rfl rfl ⟨Nat.le_of_ble_eq_true rfl, Nat.le_of_ble_eq_true rfl⟩ (Nat.le_of_ble_eq_true rfl) ⟨Nat.le_refl _, Nat.le_refl _⟩ 0 2 rfl rfl rfl (isC := [0, 1, 2, 3, 4, 5, 6, 7, 8, 56, 57, 58, 59, 60, 61, 62, 63, 64]) (isR := [9, 10, 11, 12, 13, 14, 15, 16, 17, 18, 19, 20, 21, 22, 23, 24, 25, 26, 27, 28, 29, 30, 31, 32, 33, 34, 35, 36, 37, 38, 39, 40, 41, 42, 43, 44, 45, 46, 47, 48, 49, 50, 51, 52, 53, 54, 55]) (N := 65) ⟨rfl, by decide +kernel, rfl, by decide +kernel, rfl, ⟨⟨_, rfl, rfl⟩, ⟨⟨_, rfl, rfl⟩, ⟨⟨_, rfl, rfl⟩, ⟨⟨_, rfl, rfl⟩, ⟨⟨_, rfl, rfl⟩, ⟨⟨_, rfl, rfl⟩, ⟨⟨_, rfl, rfl⟩, ⟨⟨_, rfl, rfl⟩, ⟨⟨_, rfl, rfl⟩, ⟨⟨_, rfl, rfl⟩, ⟨⟨_, rfl, rfl⟩, ⟨⟨_, rfl, rfl⟩, ⟨⟨_, rfl, rfl⟩, ⟨⟨_, rfl, rfl⟩, ⟨⟨_, rfl, rfl⟩, ⟨⟨_, rfl, rfl⟩, ⟨⟨_, rfl, rfl⟩, ⟨⟨_, rfl, rfl⟩, ⟨⟨_, rfl, rfl⟩, ⟨⟨_, rfl, rfl⟩, ⟨⟨_, rfl, rfl⟩, ⟨⟨_, rfl, rfl⟩, ⟨⟨_, rfl, rfl⟩, ⟨⟨_, rfl, rfl⟩, ⟨⟨_, rfl, rfl⟩, ⟨⟨_, rfl, rfl⟩, ⟨⟨_, rfl, rfl⟩, ⟨⟨_, rfl, rfl⟩, ⟨⟨_, rfl, rfl⟩, ⟨⟨_, rfl, rfl⟩, ⟨⟨_, rfl, rfl⟩, ⟨⟨_, rfl, rfl⟩, ⟨⟨_, rfl, rfl⟩, ⟨⟨_, rfl, rfl⟩, ⟨⟨_, rfl, rfl⟩, ⟨⟨_, rfl, rfl⟩, ⟨⟨_, rfl, rfl⟩, ⟨⟨_, rfl, rfl⟩, ⟨⟨_, rfl, rfl⟩, ⟨⟨_, rfl, rfl⟩, ⟨⟨_, rfl, rfl⟩, ⟨⟨_, rfl, rfl⟩, ⟨⟨_, rfl, rfl⟩, ⟨⟨_, rfl, rfl⟩, ⟨⟨_, rfl, rfl⟩, ⟨⟨_, rfl, rfl⟩, ⟨⟨_, rfl, rfl⟩, trivial⟩⟩⟩⟩⟩⟩⟩⟩⟩⟩⟩⟩⟩⟩⟩⟩⟩⟩⟩⟩⟩⟩⟩⟩⟩⟩⟩⟩⟩⟩⟩⟩⟩⟩⟩⟩⟩⟩⟩⟩⟩⟩⟩⟩⟩⟩⟩⟩ rfl ?_
                cases h
                exact J_vret (pc := 30) C 16 rfl
              · rw [if_neg c13] at h
                cases h
end
section
def T_X4_set : List (Nat × ClassFile.Instr × Nat) := [(0, .iload_n 1, 1), (1, .iconst 0, 1), (2, .iconst 2, 1), (3, .invokestatic 55, 3), (6, .ifCond .eq 16, 3), (9, .iload_n 2, 1), (10, .iconst 0, 1), (11, .getstatic 59, 3), (14, .iload_n 1, 1), (15, .iaload, 1), (16, .invokestatic 55, 3), (19, .ifCond .ne 6, 3), (22, .bipush (-2), 2), (24, .ireturn, 1), (25, .aload_n 0, 1), (26, .getfield 20, 3), (29, .getfield 63, 3), (32, .iload_n 1, 1), (33, .iaload, 1), (34, .istore_n 3, 1), (35, .aload_n 0, 1), (36, .getfield 37, 3), (39, .aload_n 0, 1), (40, .getfield 20, 3), (43, .invokevirtual 66, 3), (46, .aload_n 0, 1), (47, .getfield 20, 3), (50, .getfield 63, 3), (53, .iload_n 1, 1), (54, .iload_n 2, 1), (55, .iastore, 1), (56, .aload_n 0, 1), (57, .getfield 12, 3), (60, .invokevirtual 52, 3), (63, .iload_n 3, 1), (64, .ireturn, 1)]
theorem D_X4_set : ∀ q ∈ T_X4_set, decode cX4_set q.1 = .ok q.2 := by decide +kernel
theorem V_X4_set : Vy yX4_set cX4_set 4 (some .int) 2 := ⟨k226, k56, by decide +kernel⟩
theorem i_X4_set : Cond.instanceMethod yX4_set ∈ TB := k399
theorem s_X4_set : Cond.selects yX4_set.cls yX4_set yX4_set ∈ TB := k400
noncomputable def f_X4_set (vT : JV) (vS : JV) (hA : Nat → Nat → Nat) (hV : Nat → JV) (hZ : JV) (x1 : Int32) (x2 : Int32) : Option (Int32 × JV × JV × (Nat → Nat → Nat) × (Nat → JV) × JV) :=
  (f_X4_isWithin x1 (0 : Int32) (2 : Int32)).bind (fun q1 => (if q1 = 0 then some ((-2 : Int32), vT, vS, hA, hV, hZ) else gd (inb x1 3) ((f_X4_isWithin x2 (0 : Int32) (hsv (Int32.toNatClampNeg x1))).bind (fun q4 => (if q4 = 0 then some ((-2 : Int32), vT, vS, hA, hV, hZ) else gd (inb x1 3) ((f_X0_remember vS hA hV hZ).bind (fun q7 => gd (inb x1 3) ((f_X3_seatAll vT (up2 vS 0 (Int32.toNatClampNeg x1) x2)).bind (fun q9 => some (((vS 0) (Int32.toNatClampNeg x1)), q9, (up2 vS 0 (Int32.toNatClampNeg x1) x2), (q7.1), (q7.2.1), (q7.2.2)))))))))))
set_option maxRecDepth 100000 in
set_option maxHeartbeats 4000000 in
theorem c_X4_set {l : Launch} {G : JG} (tz : Nat) (aX : Nat) (aT : Nat → Nat) (aS : Nat → Nat) (aT2 : Nat → Nat) (aS2 : Nat → Nat) (aP : Nat → Nat) (aH : Nat → Nat) (aB : Nat) (aU : Nat) (vT : JV) (vS : JV) (hA : Nat → Nat → Nat) (hV : Nat → JV) (hZ : JV) (x1 : Int32) (x2 : Int32) {Rz : Int32 × JV × JV × (Nat → Nat → Nat) × (Nat → JV) × JV} (h : f_X4_set vT vS hA hV hZ x1 x2 = some Rz) : JMZ tz l G yX4_set cX4_set 4 (some .int) 6 141 [.ref aX, .int x1, .int x2] (wEx aX (aT 0) (aT2 0) (aS 0) (aS2 0) (aP 0) (aH 0) aB aU ++ (wSeat G aT (aS 0) (vT 1) (vT 2) (vT 3) (vT 4 0) (vT 5 0) (vT 6) (vT 7) (vT 8) ++ (wSch G aS (vS 0) (vS 1) (vS 2) (vS 3) (vS 4) (vS 5) (vS 6) (vS 7) (vS 8 0) (vS 9 0) ++ (wHis G aH hA hV (hZ 1 0))))) (wEx aX (aT 0) (aT2 0) (aS 0) (aS2 0) (aP 0) (aH 0) aB aU ++ (wSeat G aT (aS 0) ((Rz.2.1) 1) ((Rz.2.1) 2) ((Rz.2.1) 3) ((Rz.2.1) 4 0) ((Rz.2.1) 5 0) ((Rz.2.1) 6) ((Rz.2.1) 7) ((Rz.2.1) 8) ++ (wSch G aS ((Rz.2.2.1) 0) ((Rz.2.2.1) 1) ((Rz.2.2.1) 2) ((Rz.2.2.1) 3) ((Rz.2.2.1) 4) ((Rz.2.2.1) 5) ((Rz.2.2.1) 6) ((Rz.2.2.1) 7) ((Rz.2.2.1) 8 0) ((Rz.2.2.1) 9 0) ++ (wHis G aH (Rz.2.2.2.1) (Rz.2.2.2.2.1) ((Rz.2.2.2.2.2) 1 0))))) (some (.int (Rz.1))) := by
  refine JMZ.of (own := RX4) (tb := T_X4_set) (by decide) (Nat.le_of_ble_eq_true rfl) D_X4_set rfl (fun X C Z => ?_)
  refine J_sub (lv' := [(0, .ref aX), (1, .int x1), (2, .int x2)]) [0, 1, 2] rfl ?_
  unfold f_X4_set at h
  refine J_iload_n (pc := 0) C 0 rfl 1 rfl rfl ?_
  refine J_iconst (pc := 1) (v := (0 : Int32)) C 1 rfl rfl ?_
  refine J_iconst (pc := 2) (v := (2 : Int32)) C 2 rfl rfl ?_
  obtain ⟨q1, hq1, h⟩ := bnd h
  refine J_callS (pc := 3) (st2 := []) (st3 := [.int q1]) (ws2 := (wEx aX (aT 0) (aT2 0) (aS 0) (aS2 0) (aP 0) (aH 0) aB aU ++ (wSeat G aT (aS 0) (vT 1) (vT 2) (vT 3) (vT 4 0) (vT 5 0) (vT 6) (vT 7) (vT 8) ++ (wSch G aS (vS 0) (vS 1) (vS 2) (vS 3) (vS 4) (vS 5) (vS 6) (vS 7) (vS 8 0) (vS 9 0) ++ (wHis G aH hA hV (hZ 1 0)))))) C 3 rfl (c_X4_isWithin x1 (0 : Int32) (2 : Int32) hq1) V_X4_isWithin k221 t_X4_isWithin rfl rfl ⟨Nat.le_of_ble_eq_true rfl, Nat.le_of_ble_eq_true rfl⟩ (Nat.le_of_ble_eq_true rfl) ⟨Nat.le_refl _, Nat.le_refl _⟩ (isC := []) (isR := [0, 1, 2, 3, 4, 5, 6, 7, 8, 9, 10, 11, 12, 13, 14, 15, 16, 17, 18, 19, 20, 21, 22, 23, 24, 25, 26, 27, 28, 29, 30, 31, 32, 33, 34, 35, 36, 37, 38, 39, 40, 41, 42, 43, 44, 45, 46, 47, 48, 49, 50, 51, 52, 53, 54, 55, 56, 57, 58, 59, 60, 61, 62, 63, 64, 65, 66, 67, 68, 69, 70, 71, 72]) (N := 73) ⟨rfl, by decide +kernel, rfl, by decide +kernel, rfl, ⟨⟨_, rfl, rfl⟩, ⟨⟨_, rfl, rfl⟩, ⟨⟨_, rfl, rfl⟩, ⟨⟨_, rfl, rfl⟩, ⟨⟨_, rfl, rfl⟩, ⟨⟨_, rfl, rfl⟩, ⟨⟨_, rfl, rfl⟩, ⟨⟨_, rfl, rfl⟩, ⟨⟨_, rfl, rfl⟩, ⟨⟨_, rfl, rfl⟩, ⟨⟨_, rfl, rfl⟩, ⟨⟨_, rfl, rfl⟩, ⟨⟨_, rfl, rfl⟩, ⟨⟨_, rfl, rfl⟩, ⟨⟨_, rfl, rfl⟩, ⟨⟨_, rfl, rfl⟩, ⟨⟨_, rfl, rfl⟩, ⟨⟨_, rfl, rfl⟩, ⟨⟨_, rfl, rfl⟩, ⟨⟨_, rfl, rfl⟩, ⟨⟨_, rfl, rfl⟩, ⟨⟨_, rfl, rfl⟩, ⟨⟨_, rfl, rfl⟩, ⟨⟨_, rfl, rfl⟩, ⟨⟨_, rfl, rfl⟩, ⟨⟨_, rfl, rfl⟩, ⟨⟨_, rfl, rfl⟩, ⟨⟨_, rfl, rfl⟩, ⟨⟨_, rfl, rfl⟩, ⟨⟨_, rfl, rfl⟩, ⟨⟨_, rfl, rfl⟩, ⟨⟨_, rfl, rfl⟩, ⟨⟨_, rfl, rfl⟩, ⟨⟨_, rfl, rfl⟩, ⟨⟨_, rfl, rfl⟩, ⟨⟨_, rfl, rfl⟩, ⟨⟨_, rfl, rfl⟩, ⟨⟨_, rfl, rfl⟩, ⟨⟨_, rfl, rfl⟩, ⟨⟨_, rfl, rfl⟩, ⟨⟨_, rfl, rfl⟩, ⟨⟨_, rfl, rfl⟩, ⟨⟨_, rfl, rfl⟩, ⟨⟨_, rfl, rfl⟩, ⟨⟨_, rfl, rfl⟩, ⟨⟨_, rfl, rfl⟩, ⟨⟨_, rfl, rfl⟩, ⟨⟨_, rfl, rfl⟩, ⟨⟨_, rfl, rfl⟩, ⟨⟨_, rfl, rfl⟩, ⟨⟨_, rfl, rfl⟩, ⟨⟨_, rfl, rfl⟩, ⟨⟨_, rfl, rfl⟩, ⟨⟨_, rfl, rfl⟩, ⟨⟨_, rfl, rfl⟩, ⟨⟨_, rfl, rfl⟩, ⟨⟨_, rfl, rfl⟩, ⟨⟨_, rfl, rfl⟩, ⟨⟨_, rfl, rfl⟩, ⟨⟨_, rfl, rfl⟩, ⟨⟨_, rfl, rfl⟩, ⟨⟨_, rfl, rfl⟩, ⟨⟨_, rfl, rfl⟩, ⟨⟨_, rfl, rfl⟩, ⟨⟨_, rfl, rfl⟩, ⟨⟨_, rfl, rfl⟩, ⟨⟨_, rfl, rfl⟩, ⟨⟨_, rfl, rfl⟩, ⟨⟨_, rfl, rfl⟩, ⟨⟨_, rfl, rfl⟩, ⟨⟨_, rfl, rfl⟩, ⟨⟨_, rfl, rfl⟩, ⟨⟨_, rfl, rfl⟩, trivial⟩⟩⟩⟩⟩⟩⟩⟩⟩⟩⟩⟩⟩⟩⟩⟩⟩⟩⟩⟩⟩⟩⟩⟩⟩⟩⟩⟩⟩⟩⟩⟩⟩⟩⟩⟩⟩⟩⟩⟩⟩⟩⟩⟩⟩⟩⟩⟩⟩⟩⟩⟩⟩⟩⟩⟩⟩⟩⟩⟩⟩⟩⟩⟩⟩⟩⟩⟩⟩⟩⟩⟩⟩⟩ rfl ?_
  refine J_if_eq (pc := 6) (tgt := 22) C 4 rfl rfl (fun c2 => ?_) (fun c2 => ?_)
  · rw [if_pos c2] at h
    refine J_bipush (pc := 22) (v := (-2 : Int32)) C 12 rfl rfl ?_
    cases h
    exact J_iret (pc := 24) C 13 rfl
  · rw [if_neg c2] at h
    refine J_iload_n (pc := 9) C 5 rfl 2 rfl rfl ?_
    refine J_iconst (pc := 10) (v := (0 : Int32)) C 6 rfl rfl ?_
    refine J_gets (pc := 11) C 7 Z rfl k219 ?_
    refine J_iload_n (pc := 14) C 8 rfl 1 rfl rfl ?_
    obtain ⟨g3, h⟩ := gd_some h
    refine J_tald (pc := 15) C 9 Z rfl g3 ?_
    obtain ⟨q4, hq4, h⟩ := bnd h
    refine J_callS (pc := 16) (st2 := []) (st3 := [.int q4]) (ws2 := (wEx aX (aT 0) (aT2 0) (aS 0) (aS2 0) (aP 0) (aH 0) aB aU ++ (wSeat G aT (aS 0) (vT 1) (vT 2) (vT 3) (vT 4 0) (vT 5 0) (vT 6) (vT 7) (vT 8) ++ (wSch G aS (vS 0) (vS 1) (vS 2) (vS 3) (vS 4) (vS 5) (vS 6) (vS 7) (vS 8 0) (vS 9 0) ++ (wHis G aH hA hV (hZ 1 0)))))) C 10 rfl (c_X4_isWithin x2 (0 : Int32) (hsv (Int32.toNatClampNeg x1)) hq4) V_X4_isWithin k221 t_X4_isWithin rfl rfl ⟨Nat.le_of_ble_eq_true rfl, Nat.le_of_ble_eq_true rfl⟩ (Nat.le_of_ble_eq_true rfl) ⟨Nat.le_refl _, Nat.le_refl _⟩ (isC := []) (isR := [0, 1, 2, 3, 4, 5, 6, 7, 8, 9, 10, 11, 12, 13, 14, 15, 16, 17, 18, 19, 20, 21, 22, 23, 24, 25, 26, 27, 28, 29, 30, 31, 32, 33, 34, 35, 36, 37, 38, 39, 40, 41, 42, 43, 44, 45, 46, 47, 48, 49, 50, 51, 52, 53, 54, 55, 56, 57, 58, 59, 60, 61, 62, 63, 64, 65, 66, 67, 68, 69, 70, 71, 72]) (N := 73) ⟨rfl, by decide +kernel, rfl, by decide +kernel, rfl, ⟨⟨_, rfl, rfl⟩, ⟨⟨_, rfl, rfl⟩, ⟨⟨_, rfl, rfl⟩, ⟨⟨_, rfl, rfl⟩, ⟨⟨_, rfl, rfl⟩, ⟨⟨_, rfl, rfl⟩, ⟨⟨_, rfl, rfl⟩, ⟨⟨_, rfl, rfl⟩, ⟨⟨_, rfl, rfl⟩, ⟨⟨_, rfl, rfl⟩, ⟨⟨_, rfl, rfl⟩, ⟨⟨_, rfl, rfl⟩, ⟨⟨_, rfl, rfl⟩, ⟨⟨_, rfl, rfl⟩, ⟨⟨_, rfl, rfl⟩, ⟨⟨_, rfl, rfl⟩, ⟨⟨_, rfl, rfl⟩, ⟨⟨_, rfl, rfl⟩, ⟨⟨_, rfl, rfl⟩, ⟨⟨_, rfl, rfl⟩, ⟨⟨_, rfl, rfl⟩, ⟨⟨_, rfl, rfl⟩, ⟨⟨_, rfl, rfl⟩, ⟨⟨_, rfl, rfl⟩, ⟨⟨_, rfl, rfl⟩, ⟨⟨_, rfl, rfl⟩, ⟨⟨_, rfl, rfl⟩, ⟨⟨_, rfl, rfl⟩, ⟨⟨_, rfl, rfl⟩, ⟨⟨_, rfl, rfl⟩, ⟨⟨_, rfl, rfl⟩, ⟨⟨_, rfl, rfl⟩, ⟨⟨_, rfl, rfl⟩, ⟨⟨_, rfl, rfl⟩, ⟨⟨_, rfl, rfl⟩, ⟨⟨_, rfl, rfl⟩, ⟨⟨_, rfl, rfl⟩, ⟨⟨_, rfl, rfl⟩, ⟨⟨_, rfl, rfl⟩, ⟨⟨_, rfl, rfl⟩, ⟨⟨_, rfl, rfl⟩, ⟨⟨_, rfl, rfl⟩, ⟨⟨_, rfl, rfl⟩, ⟨⟨_, rfl, rfl⟩, ⟨⟨_, rfl, rfl⟩, ⟨⟨_, rfl, rfl⟩, ⟨⟨_, rfl, rfl⟩, ⟨⟨_, rfl, rfl⟩, ⟨⟨_, rfl, rfl⟩, ⟨⟨_, rfl, rfl⟩, ⟨⟨_, rfl, rfl⟩, ⟨⟨_, rfl, rfl⟩, ⟨⟨_, rfl, rfl⟩, ⟨⟨_, rfl, rfl⟩, ⟨⟨_, rfl, rfl⟩, ⟨⟨_, rfl, rfl⟩, ⟨⟨_, rfl, rfl⟩, ⟨⟨_, rfl, rfl⟩, ⟨⟨_, rfl, rfl⟩, ⟨⟨_, rfl, rfl⟩, ⟨⟨_, rfl, rfl⟩, ⟨⟨_, rfl, rfl⟩, ⟨⟨_, rfl, rfl⟩, ⟨⟨_, rfl, rfl⟩, ⟨⟨_, rfl, rfl⟩, ⟨⟨_, rfl, rfl⟩, ⟨⟨_, rfl, rfl⟩, ⟨⟨_, rfl, rfl⟩, ⟨⟨_, rfl, rfl⟩, ⟨⟨_, rfl, rfl⟩, ⟨⟨_, rfl, rfl⟩, ⟨⟨_, rfl, rfl⟩, ⟨⟨_, rfl, rfl⟩, trivial⟩⟩⟩⟩⟩⟩⟩⟩⟩⟩⟩⟩⟩⟩⟩⟩⟩⟩⟩⟩⟩⟩⟩⟩⟩⟩⟩⟩⟩⟩⟩⟩⟩⟩⟩⟩⟩⟩⟩⟩⟩⟩⟩⟩⟩⟩⟩⟩⟩⟩⟩⟩⟩⟩⟩⟩⟩⟩⟩⟩⟩⟩⟩⟩⟩⟩⟩⟩⟩⟩⟩⟩⟩⟩ rfl ?_
    refine J_if_ne (pc := 19) (tgt := 25) C 11 rfl rfl (fun c5 => ?_) (fun c5 => ?_)
    · rw [if_neg c5] at h
      refine J_aload_n (pc := 25) C 14 rfl 0 rfl rfl ?_
      refine J_get (pc := 26) (v := .ref (aS 0)) C 15 rfl TB_l4 rfl 0 1 rfl (by decide) k197 rfl rfl ?_
      refine J_get (pc := 29) (v := .ref (aS 1)) C 16 rfl TB_l2 rfl 8 0 rfl (by decide) k220 rfl rfl ?_
      refine J_iload_n (pc := 32) C 17 rfl 1 rfl rfl ?_
      obtain ⟨g6, h⟩ := gd_some h
      refine J_iald (pc := 33) (f := (vS 0)) (v := ((vS 0) (Int32.toNatClampNeg x1))) C 18 rfl 9 rfl g6 rfl ?_
      refine J_istore_n (pc := 34) (lv' := [(3, .int ((vS 0) (Int32.toNatClampNeg x1))), (0, .ref aX), (1, .int x1), (2, .int x2)]) C 19 rfl rfl (by decide) rfl ?_
      refine J_aload_n (pc := 35) C 20 rfl 1 rfl rfl ?_
      refine J_get (pc := 36) (v := .ref (aH 0)) C 21 rfl TB_l4 rfl 0 5 rfl (by decide) k206 rfl rfl ?_
      refine J_aload_n (pc := 39) C 22 rfl 1 rfl rfl ?_
      refine J_get (pc := 40) (v := .ref (aS 0)) C 23 rfl TB_l4 rfl 0 1 rfl (by decide) k197 rfl rfl ?_
      obtain ⟨q7, hq7, h⟩ := bnd h
      refine J_callV (pc := 43) (st2 := []) (st3 := []) (ws2 := (wEx aX (aT 0) (aT2 0) (aS 0) (aS2 0) (aP 0) (aH 0) aB aU ++ (wSeat G aT (aS 0) (vT 1) (vT 2) (vT 3) (vT 4 0) (vT 5 0) (vT 6) (vT 7) (vT 8) ++ (wSch G aS (vS 0) (vS 1) (vS 2) (vS 3) (vS 4) (vS 5) (vS 6) (vS 7) (vS 8 0) (vS 9 0) ++ (wHis G aH (q7.1) (q7.2.1) ((q7.2.2) 1 0)))))) C 24 rfl (c_X0_remember aS aH vS hA hV hZ hq7) V_X0_remember k223 i_X0_remember s_X0_remember rfl rfl ⟨Nat.le_of_ble_eq_true rfl, Nat.le_of_ble_eq_true rfl⟩ (Nat.le_of_ble_eq_true rfl) ⟨Nat.le_refl _, Nat.le_refl _⟩ 17 0 rfl rfl rfl (isC := [8, 9, 10, 11, 12, 13, 14, 15, 16, 17, 18, 19, 20, 21, 22, 23, 24, 25, 26, 27, 28, 29, 30, 31, 32, 33, 34, 35, 36, 37, 38, 39, 40, 41, 42, 43, 44, 45, 46, 47, 48, 49, 50, 51, 52, 53, 54, 55, 56, 57, 58, 59, 60, 61, 62, 63, 64, 65, 66, 67, 68, 69, 70, 71, 72]) (isR := [0, 1, 2, 3, 4, 5, 6, 7]) (N := 73) ⟨rfl, by decide +kernel, rfl, by decide +kernel, rfl, ⟨⟨_, rfl, rfl⟩, ⟨⟨_, rfl, rfl⟩, ⟨⟨_, rfl, rfl⟩, ⟨⟨_, rfl, rfl⟩, ⟨⟨_, rfl, rfl⟩, ⟨⟨_, rfl, rfl⟩, ⟨⟨_, rfl, rfl⟩, ⟨⟨_, rfl, rfl⟩, trivial⟩⟩⟩⟩⟩⟩⟩⟩⟩ rfl ?_
      refine J_aload_n (pc := 46) C 25 rfl 1 rfl rfl ?_
      refine J_get (pc := 47) (v := .ref (aS 0)) C 26 rfl TB_l4 rfl 0 1 rfl (by decide) k197 rfl rfl ?_
      refine J_get (pc := 50) (v := .ref (aS 1)) C 27 rfl TB_l2 rfl 8 0 rfl (by decide) k220 rfl rfl ?_
      refine J_iload_n (pc := 53) C 28 rfl 2 rfl rfl ?_
      refine J_iload_n (pc := 54) C 29 rfl 3 rfl rfl ?_
      obtain ⟨g8, h⟩ := gd_some h
      refine J_iast (pc := 55) (f := (vS 0)) (m := (Int32.toNatClampNeg x1)) C 30 (fun mm vv => (wEx aX (aT 0) (aT2 0) (aS 0) (aS2 0) (aP 0) (aH 0) aB aU ++ (wSeat G aT (aS 0) (vT 1) (vT 2) (vT 3) (vT 4 0) (vT 5 0) (vT 6) (vT 7) (vT 8) ++ (wSch G aS (upd (vS 0) mm vv) (vS 1) (vS 2) (vS 3) (vS 4) (vS 5) (vS 6) (vS 7) (vS 8 0) (vS 9 0) ++ (wHis G aH (q7.1) (q7.2.1) ((q7.2.2) 1 0)))))) rfl 9 rfl g8 rfl (fun _ _ => rfl) ?_
      refine J_aload_n (pc := 56) C 31 rfl 1 rfl rfl ?_
      refine J_get (pc := 57) (v := .ref (aT 0)) C 32 rfl TB_l4 rfl 0 0 rfl (by decide) k195 rfl rfl ?_
      obtain ⟨q9, hq9, h⟩ := bnd h
      refine J_callV (pc := 60) (st2 := []) (st3 := []) (ws2 := (wEx aX (aT 0) (aT2 0) (aS 0) (aS2 0) (aP 0) (aH 0) aB aU ++ (wSeat G aT (aS 0) (q9 1) (q9 2) (q9 3) (q9 4 0) (q9 5 0) (q9 6) (q9 7) (q9 8) ++ (wSch G aS (upd (vS 0) (Int32.toNatClampNeg x1) x2) (vS 1) (vS 2) (vS 3) (vS 4) (vS 5) (vS 6) (vS 7) (vS 8 0) (vS 9 0) ++ (wHis G aH (q7.1) (q7.2.1) ((q7.2.2) 1 0)))))) C 33 rfl (c_X3_seatAll aT aS vT (up2 vS 0 (Int32.toNatClampNeg x1) x2) hq9) V_X3_seatAll k214 i_X3_seatAll s_X3_seatAll rfl rfl ⟨Nat.le_of_ble_eq_true rfl, Nat.le_of_ble_eq_true rfl⟩ (Nat.le_of_ble_eq_true rfl) ⟨Nat.le_refl _, Nat.le_refl _⟩ 1 3 rfl rfl rfl (isC := [1, 2, 3, 4, 5, 6, 7, 8, 9, 10, 11, 12, 13, 14, 15, 16]) (isR := [0, 17, 18, 19, 20, 21, 22, 23, 24, 25, 26, 27, 28, 29, 30, 31, 32, 33, 34, 35, 36, 37, 38, 39, 40, 41, 42, 43, 44, 45, 46, 47, 48, 49, 50, 51, 52, 53, 54, 55, 56, 57, 58, 59, 60, 61, 62, 63, 64, 65, 66, 67, 68, 69, 70, 71, 72]) (N := 73) ⟨rfl, by decide +kernel, rfl, by decide +kernel, rfl, ⟨⟨_, rfl, rfl⟩, ⟨⟨_, rfl, rfl⟩, ⟨⟨_, rfl, rfl⟩, ⟨⟨_, rfl, rfl⟩, ⟨⟨_, rfl, rfl⟩, ⟨⟨_, rfl, rfl⟩, ⟨⟨_, rfl, rfl⟩, ⟨⟨_, rfl, rfl⟩, ⟨⟨_, rfl, rfl⟩, ⟨⟨_, rfl, rfl⟩, ⟨⟨_, rfl, rfl⟩, ⟨⟨_, rfl, rfl⟩, ⟨⟨_, rfl, rfl⟩, ⟨⟨_, rfl, rfl⟩, ⟨⟨_, rfl, rfl⟩, ⟨⟨_, rfl, rfl⟩, ⟨⟨_, rfl, rfl⟩, ⟨⟨_, rfl, rfl⟩, ⟨⟨_, rfl, rfl⟩, ⟨⟨_, rfl, rfl⟩, ⟨⟨_, rfl, rfl⟩, ⟨⟨_, rfl, rfl⟩, ⟨⟨_, rfl, rfl⟩, ⟨⟨_, rfl, rfl⟩, ⟨⟨_, rfl, rfl⟩, ⟨⟨_, rfl, rfl⟩, ⟨⟨_, rfl, rfl⟩, ⟨⟨_, rfl, rfl⟩, ⟨⟨_, rfl, rfl⟩, ⟨⟨_, rfl, rfl⟩, ⟨⟨_, rfl, rfl⟩, ⟨⟨_, rfl, rfl⟩, ⟨⟨_, rfl, rfl⟩, ⟨⟨_, rfl, rfl⟩, ⟨⟨_, rfl, rfl⟩, ⟨⟨_, rfl, rfl⟩, ⟨⟨_, rfl, rfl⟩, ⟨⟨_, rfl, rfl⟩, ⟨⟨_, rfl, rfl⟩, ⟨⟨_, rfl, rfl⟩, ⟨⟨_, rfl, rfl⟩, ⟨⟨_, rfl, rfl⟩, ⟨⟨_, rfl, rfl⟩, ⟨⟨_, rfl, rfl⟩, ⟨⟨_, rfl, rfl⟩, ⟨⟨_, rfl, rfl⟩, ⟨⟨_, rfl, rfl⟩, ⟨⟨_, rfl, rfl⟩, ⟨⟨_, rfl, rfl⟩, ⟨⟨_, rfl, rfl⟩, ⟨⟨_, rfl, rfl⟩, ⟨⟨_, rfl, rfl⟩, ⟨⟨_, rfl, rfl⟩, ⟨⟨_, rfl, rfl⟩, ⟨⟨_, rfl, rfl⟩, ⟨⟨_, rfl, rfl⟩, ⟨⟨_, rfl, rfl⟩, trivial⟩⟩⟩⟩⟩⟩⟩⟩⟩⟩⟩⟩⟩⟩⟩⟩⟩⟩⟩⟩⟩⟩⟩⟩⟩⟩⟩⟩⟩⟩⟩⟩⟩⟩⟩⟩⟩⟩⟩⟩⟩⟩⟩⟩⟩⟩⟩⟩⟩⟩⟩⟩⟩⟩⟩⟩⟩⟩ rfl ?_
      refine J_iload_n (pc := 63) C 34 rfl 0 rfl rfl ?_
      cases h
      exact J_iret (pc := 64) C 35 rfl
    · rw [if_pos c5] at h
      refine J_bipush (pc := 22) (v := (-2 : Int32)) C 12 rfl rfl ?_
      cases h
      exact J_iret (pc := 24) C 13 rfl
def T_X4_paper : List (Nat × ClassFile.Instr × Nat) := [(0, .iload_n 1, 1), (1, .invokestatic 70, 3), (4, .ifCond .ne 5, 3), (7, .iconst (-1), 1), (8, .ireturn, 1), (9, .iload_n 2, 1), (10, .invokestatic 74, 3), (13, .ifCond .eq 15, 3), (16, .iload_n 3, 1), (17, .bipush 30, 2), (19, .sipush 180, 3), (22, .invokestatic 55, 3), (25, .ifCond .ne 6, 3), (28, .bipush (-2), 2), (30, .ireturn, 1), (31, .aload_n 0, 1), (32, .getfield 20, 3), (35, .getfield 77, 3), (38, .iload_n 1, 1), (39, .iaload, 1), (40, .istore 4, 2), (42, .aload_n 0, 1), (43, .getfield 37, 3), (46, .aload_n 0, 1), (47, .getfield 20, 3), (50, .invokevirtual 66, 3), (53, .aload_n 0, 1), (54, .getfield 20, 3), (57, .getfield 77, 3), (60, .iload_n 1, 1), (61, .iload_n 2, 1), (62, .iastore, 1), (63, .aload_n 0, 1), (64, .getfield 20, 3), (67, .getfield 80, 3), (70, .iload_n 1, 1), (71, .iload_n 3, 1), (72, .iastore, 1), (73, .aload_n 0, 1), (74, .getfield 12, 3), (77, .invokevirtual 52, 3), (80, .iload 4, 2), (82, .ireturn, 1)]
theorem D_X4_paper : ∀ q ∈ T_X4_paper, decode cX4_paper q.1 = .ok q.2 := by decide +kernel
theorem V_X4_paper : Vy yX4_paper cX4_paper 5 (some .int) 3 := ⟨k235, k56, by decide +kernel⟩
theorem i_X4_paper : Cond.instanceMethod yX4_paper ∈ TB := k390
theorem s_X4_paper : Cond.selects yX4_paper.cls yX4_paper yX4_paper ∈ TB := k391
noncomputable def f_X4_paper (vT : JV) (vS : JV) (hA : Nat → Nat → Nat) (hV : Nat → JV) (hZ : JV) (x1 : Int32) (x2 : Int32) (x3 : Int32) : Option (Int32 × JV × JV × (Nat → Nat → Nat) × (Nat → JV) × JV) :=
  (f_X4_isPaper x1).bind (fun q1 => (if q1 = 0 then some ((-1 : Int32), vT, vS, hA, hV, hZ) else (f_X4_isStart x2).bind (fun q3 => (if q3 = 0 then some ((-2 : Int32), vT, vS, hA, hV, hZ) else (f_X4_isWithin x3 (30 : Int32) (180 : Int32)).bind (fun q5 => (if q5 = 0 then some ((-2 : Int32), vT, vS, hA, hV, hZ) else gd (inb x1 6) ((f_X0_remember vS hA hV hZ).bind (fun q8 => gd (inb x1 6) (gd (inb x1 6) ((f_X3_seatAll vT (up2 (up2 vS 1 (Int32.toNatClampNeg x1) x2) 2 (Int32.toNatClampNeg x1) x3)).bind (fun q11 => some (((vS 1) (Int32.toNatClampNeg x1)), q11, (up2 (up2 vS 1 (Int32.toNatClampNeg x1) x2) 2 (Int32.toNatClampNeg x1) x3), (q8.1), (q8.2.1), (q8.2.2)))))))))))))
set_option maxRecDepth 100000 in
set_option maxHeartbeats 4000000 in
theorem c_X4_paper {l : Launch} {G : JG} (aX : Nat) (aT : Nat → Nat) (aS : Nat → Nat) (aT2 : Nat → Nat) (aS2 : Nat → Nat) (aP : Nat → Nat) (aH : Nat → Nat) (aB : Nat) (aU : Nat) (vT : JV) (vS : JV) (hA : Nat → Nat → Nat) (hV : Nat → JV) (hZ : JV) (x1 : Int32) (x2 : Int32) (x3 : Int32) {Rz : Int32 × JV × JV × (Nat → Nat → Nat) × (Nat → JV) × JV} (h : f_X4_paper vT vS hA hV hZ x1 x2 x3 = some Rz) : JM l G yX4_paper cX4_paper 5 (some .int) 6 141 [.ref aX, .int x1, .int x2, .int x3] (wEx aX (aT 0) (aT2 0) (aS 0) (aS2 0) (aP 0) (aH 0) aB aU ++ (wSeat G aT (aS 0) (vT 1) (vT 2) (vT 3) (vT 4 0) (vT 5 0) (vT 6) (vT 7) (vT 8) ++ (wSch G aS (vS 0) (vS 1) (vS 2) (vS 3) (vS 4) (vS 5) (vS 6) (vS 7) (vS 8 0) (vS 9 0) ++ (wHis G aH hA hV (hZ 1 0))))) (wEx aX (aT 0) (aT2 0) (aS 0) (aS2 0) (aP 0) (aH 0) aB aU ++ (wSeat G aT (aS 0) ((Rz.2.1) 1) ((Rz.2.1) 2) ((Rz.2.1) 3) ((Rz.2.1) 4 0) ((Rz.2.1) 5 0) ((Rz.2.1) 6) ((Rz.2.1) 7) ((Rz.2.1) 8) ++ (wSch G aS ((Rz.2.2.1) 0) ((Rz.2.2.1) 1) ((Rz.2.2.1) 2) ((Rz.2.2.1) 3) ((Rz.2.2.1) 4) ((Rz.2.2.1) 5) ((Rz.2.2.1) 6) ((Rz.2.2.1) 7) ((Rz.2.2.1) 8 0) ((Rz.2.2.1) 9 0) ++ (wHis G aH (Rz.2.2.2.1) (Rz.2.2.2.2.1) ((Rz.2.2.2.2.2) 1 0))))) (some (.int (Rz.1))) := by
  refine JM.of (own := RX4) (tb := T_X4_paper) (by decide) (Nat.le_of_ble_eq_true rfl) D_X4_paper rfl (fun X C => ?_)
  refine J_sub (lv' := [(0, .ref aX), (1, .int x1), (2, .int x2), (3, .int x3)]) [0, 1, 2, 3] rfl ?_
  unfold f_X4_paper at h
  refine J_iload_n (pc := 0) C 0 rfl 1 rfl rfl ?_
  obtain ⟨q1, hq1, h⟩ := bnd h
  refine J_callS (pc := 1) (st2 := []) (st3 := [.int q1]) (ws2 := (wEx aX (aT 0) (aT2 0) (aS 0) (aS2 0) (aP 0) (aH 0) aB aU ++ (wSeat G aT (aS 0) (vT 1) (vT 2) (vT 3) (vT 4 0) (vT 5 0) (vT 6) (vT 7) (vT 8) ++ (wSch G aS (vS 0) (vS 1) (vS 2) (vS 3) (vS 4) (vS 5) (vS 6) (vS 7) (vS 8 0) (vS 9 0) ++ (wHis G aH hA hV (hZ 1 0)))))) C 1 rfl (c_X4_isPaper x1 hq1) V_X4_isPaper k231 t_X4_isPaper rfl rfl ⟨Nat.le_of_ble_eq_true rfl, Nat.le_of_ble_eq_true rfl⟩ (Nat.le_of_ble_eq_true rfl) ⟨Nat.le_refl _, Nat.le_refl _⟩ (isC := []) (isR := [0, 1, 2, 3, 4, 5, 6, 7, 8, 9, 10, 11, 12, 13, 14, 15, 16, 17, 18, 19, 20, 21, 22, 23, 24, 25, 26, 27, 28, 29, 30, 31, 32, 33, 34, 35, 36, 37, 38, 39, 40, 41, 42, 43, 44, 45, 46, 47, 48, 49, 50, 51, 52, 53, 54, 55, 56, 57, 58, 59, 60, 61, 62, 63, 64, 65, 66, 67, 68, 69, 70, 71, 72]) (N := 73) ⟨rfl, by decide +kernel, rfl, by decide +kernel, rfl, ⟨⟨_, rfl, rfl⟩, ⟨⟨_, rfl, rfl⟩, ⟨⟨_, rfl, rfl⟩, ⟨⟨_, rfl, rfl⟩, ⟨⟨_, rfl, rfl⟩, ⟨⟨_, rfl, rfl⟩, ⟨⟨_, rfl, rfl⟩, ⟨⟨_, rfl, rfl⟩, ⟨⟨_, rfl, rfl⟩, ⟨⟨_, rfl, rfl⟩, ⟨⟨_, rfl, rfl⟩, ⟨⟨_, rfl, rfl⟩, ⟨⟨_, rfl, rfl⟩, ⟨⟨_, rfl, rfl⟩, ⟨⟨_, rfl, rfl⟩, ⟨⟨_, rfl, rfl⟩, ⟨⟨_, rfl, rfl⟩, ⟨⟨_, rfl, rfl⟩, ⟨⟨_, rfl, rfl⟩, ⟨⟨_, rfl, rfl⟩, ⟨⟨_, rfl, rfl⟩, ⟨⟨_, rfl, rfl⟩, ⟨⟨_, rfl, rfl⟩, ⟨⟨_, rfl, rfl⟩, ⟨⟨_, rfl, rfl⟩, ⟨⟨_, rfl, rfl⟩, ⟨⟨_, rfl, rfl⟩, ⟨⟨_, rfl, rfl⟩, ⟨⟨_, rfl, rfl⟩, ⟨⟨_, rfl, rfl⟩, ⟨⟨_, rfl, rfl⟩, ⟨⟨_, rfl, rfl⟩, ⟨⟨_, rfl, rfl⟩, ⟨⟨_, rfl, rfl⟩, ⟨⟨_, rfl, rfl⟩, ⟨⟨_, rfl, rfl⟩, ⟨⟨_, rfl, rfl⟩, ⟨⟨_, rfl, rfl⟩, ⟨⟨_, rfl, rfl⟩, ⟨⟨_, rfl, rfl⟩, ⟨⟨_, rfl, rfl⟩, ⟨⟨_, rfl, rfl⟩, ⟨⟨_, rfl, rfl⟩, ⟨⟨_, rfl, rfl⟩, ⟨⟨_, rfl, rfl⟩, ⟨⟨_, rfl, rfl⟩, ⟨⟨_, rfl, rfl⟩, ⟨⟨_, rfl, rfl⟩, ⟨⟨_, rfl, rfl⟩, ⟨⟨_, rfl, rfl⟩, ⟨⟨_, rfl, rfl⟩, ⟨⟨_, rfl, rfl⟩, ⟨⟨_, rfl, rfl⟩, ⟨⟨_, rfl, rfl⟩, ⟨⟨_, rfl, rfl⟩, ⟨⟨_, rfl, rfl⟩, ⟨⟨_, rfl, rfl⟩, ⟨⟨_, rfl, rfl⟩, ⟨⟨_, rfl, rfl⟩, ⟨⟨_, rfl, rfl⟩, ⟨⟨_, rfl, rfl⟩, ⟨⟨_, rfl, rfl⟩, ⟨⟨_, rfl, rfl⟩, ⟨⟨_, rfl, rfl⟩, ⟨⟨_, rfl, rfl⟩, ⟨⟨_, rfl, rfl⟩, ⟨⟨_, rfl, rfl⟩, ⟨⟨_, rfl, rfl⟩, ⟨⟨_, rfl, rfl⟩, ⟨⟨_, rfl, rfl⟩, ⟨⟨_, rfl, rfl⟩, ⟨⟨_, rfl, rfl⟩, ⟨⟨_, rfl, rfl⟩, trivial⟩⟩⟩⟩⟩⟩⟩⟩⟩⟩⟩⟩⟩⟩⟩⟩⟩⟩⟩⟩⟩⟩⟩⟩⟩⟩⟩⟩⟩⟩⟩⟩⟩⟩⟩⟩⟩⟩⟩⟩⟩⟩⟩⟩⟩⟩⟩⟩⟩⟩⟩⟩⟩⟩⟩⟩⟩⟩⟩⟩⟩⟩⟩⟩⟩⟩⟩⟩⟩⟩⟩⟩⟩⟩ rfl ?_
  refine J_if_ne (pc := 4) (tgt := 9) C 2 rfl rfl (fun c2 => ?_) (fun c2 => ?_)
  · rw [if_neg c2] at h
    refine J_iload_n (pc := 9) C 5 rfl 2 rfl rfl ?_
    obtain ⟨q3, hq3, h⟩ := bnd h
    refine J_callS (pc := 10) (st2 := []) (st3 := [.int q3]) (ws2 := (wEx aX (aT 0) (aT2 0) (aS 0) (aS2 0) (aP 0) (aH 0) aB aU ++ (wSeat G aT (aS 0) (vT 1) (vT 2) (vT 3) (vT 4 0) (vT 5 0) (vT 6) (vT 7) (vT 8) ++ (wSch G aS (vS 0) (vS 1) (vS 2) (vS 3) (vS 4) (vS 5) (vS 6) (vS 7) (vS 8 0) (vS 9 0) ++ (wHis G aH hA hV (hZ 1 0)))))) C 6 rfl (c_X4_isStart x2 hq3) V_X4_isStart k233 t_X4_isStart rfl rfl ⟨Nat.le_of_ble_eq_true rfl, Nat.le_of_ble_eq_true rfl⟩ (Nat.le_of_ble_eq_true rfl) ⟨Nat.le_refl _, Nat.le_refl _⟩ (isC := []) (isR := [0, 1, 2, 3, 4, 5, 6, 7, 8, 9, 10, 11, 12, 13, 14, 15, 16, 17, 18, 19, 20, 21, 22, 23, 24, 25, 26, 27, 28, 29, 30, 31, 32, 33, 34, 35, 36, 37, 38, 39, 40, 41, 42, 43, 44, 45, 46, 47, 48, 49, 50, 51, 52, 53, 54, 55, 56, 57, 58, 59, 60, 61, 62, 63, 64, 65, 66, 67, 68, 69, 70, 71, 72]) (N := 73) ⟨rfl, by decide +kernel, rfl, by decide +kernel, rfl, ⟨⟨_, rfl, rfl⟩, ⟨⟨_, rfl, rfl⟩, ⟨⟨_, rfl, rfl⟩, ⟨⟨_, rfl, rfl⟩, ⟨⟨_, rfl, rfl⟩, ⟨⟨_, rfl, rfl⟩, ⟨⟨_, rfl, rfl⟩, ⟨⟨_, rfl, rfl⟩, ⟨⟨_, rfl, rfl⟩, ⟨⟨_, rfl, rfl⟩, ⟨⟨_, rfl, rfl⟩, ⟨⟨_, rfl, rfl⟩, ⟨⟨_, rfl, rfl⟩, ⟨⟨_, rfl, rfl⟩, ⟨⟨_, rfl, rfl⟩, ⟨⟨_, rfl, rfl⟩, ⟨⟨_, rfl, rfl⟩, ⟨⟨_, rfl, rfl⟩, ⟨⟨_, rfl, rfl⟩, ⟨⟨_, rfl, rfl⟩, ⟨⟨_, rfl, rfl⟩, ⟨⟨_, rfl, rfl⟩, ⟨⟨_, rfl, rfl⟩, ⟨⟨_, rfl, rfl⟩, ⟨⟨_, rfl, rfl⟩, ⟨⟨_, rfl, rfl⟩, ⟨⟨_, rfl, rfl⟩, ⟨⟨_, rfl, rfl⟩, ⟨⟨_, rfl, rfl⟩, ⟨⟨_, rfl, rfl⟩, ⟨⟨_, rfl, rfl⟩, ⟨⟨_, rfl, rfl⟩, ⟨⟨_, rfl, rfl⟩, ⟨⟨_, rfl, rfl⟩, ⟨⟨_, rfl, rfl⟩, ⟨⟨_, rfl, rfl⟩, ⟨⟨_, rfl, rfl⟩, ⟨⟨_, rfl, rfl⟩, ⟨⟨_, rfl, rfl⟩, ⟨⟨_, rfl, rfl⟩, ⟨⟨_, rfl, rfl⟩, ⟨⟨_, rfl, rfl⟩, ⟨⟨_, rfl, rfl⟩, ⟨⟨_, rfl, rfl⟩, ⟨⟨_, rfl, rfl⟩, ⟨⟨_, rfl, rfl⟩, ⟨⟨_, rfl, rfl⟩, ⟨⟨_, rfl, rfl⟩, ⟨⟨_, rfl, rfl⟩, ⟨⟨_, rfl, rfl⟩, ⟨⟨_, rfl, rfl⟩, ⟨⟨_, rfl, rfl⟩, ⟨⟨_, rfl, rfl⟩, ⟨⟨_, rfl, rfl⟩, ⟨⟨_, rfl, rfl⟩, ⟨⟨_, rfl, rfl⟩, ⟨⟨_, rfl, rfl⟩, ⟨⟨_, rfl, rfl⟩, ⟨⟨_, rfl, rfl⟩, ⟨⟨_, rfl, rfl⟩, ⟨⟨_, rfl, rfl⟩, ⟨⟨_, rfl, rfl⟩, ⟨⟨_, rfl, rfl⟩, ⟨⟨_, rfl, rfl⟩, ⟨⟨_, rfl, rfl⟩, ⟨⟨_, rfl, rfl⟩, ⟨⟨_, rfl, rfl⟩, ⟨⟨_, rfl, rfl⟩, ⟨⟨_, rfl, rfl⟩, ⟨⟨_, rfl, rfl⟩, ⟨⟨_, rfl, rfl⟩, ⟨⟨_, rfl, rfl⟩, ⟨⟨_, rfl, rfl⟩, trivial⟩⟩⟩⟩⟩⟩⟩⟩⟩⟩⟩⟩⟩⟩⟩⟩⟩⟩⟩⟩⟩⟩⟩⟩⟩⟩⟩⟩⟩⟩⟩⟩⟩⟩⟩⟩⟩⟩⟩⟩⟩⟩⟩⟩⟩⟩⟩⟩⟩⟩⟩⟩⟩⟩⟩⟩⟩⟩⟩⟩⟩⟩⟩⟩⟩⟩⟩⟩⟩⟩⟩⟩⟩⟩ rfl ?_
    refine J_if_eq (pc := 13) (tgt := 28) C 7 rfl rfl (fun c4 => ?_) (fun c4 => ?_)
    · rw [if_pos c4] at h
      refine J_bipush (pc := 28) (v := (-2 : Int32)) C 13 rfl rfl ?_
      cases h
      exact J_iret (pc := 30) C 14 rfl
    · rw [if_neg c4] at h
      refine J_iload_n (pc := 16) C 8 rfl 3 rfl rfl ?_
      refine J_bipush (pc := 17) (v := (30 : Int32)) C 9 rfl rfl ?_
      refine J_sipush (pc := 19) (v := (180 : Int32)) C 10 rfl rfl ?_
      obtain ⟨q5, hq5, h⟩ := bnd h
      refine J_callS (pc := 22) (st2 := []) (st3 := [.int q5]) (ws2 := (wEx aX (aT 0) (aT2 0) (aS 0) (aS2 0) (aP 0) (aH 0) aB aU ++ (wSeat G aT (aS 0) (vT 1) (vT 2) (vT 3) (vT 4 0) (vT 5 0) (vT 6) (vT 7) (vT 8) ++ (wSch G aS (vS 0) (vS 1) (vS 2) (vS 3) (vS 4) (vS 5) (vS 6) (vS 7) (vS 8 0) (vS 9 0) ++ (wHis G aH hA hV (hZ 1 0)))))) C 11 rfl (c_X4_isWithin x3 (30 : Int32) (180 : Int32) hq5) V_X4_isWithin k221 t_X4_isWithin rfl rfl ⟨Nat.le_of_ble_eq_true rfl, Nat.le_of_ble_eq_true rfl⟩ (Nat.le_of_ble_eq_true rfl) ⟨Nat.le_refl _, Nat.le_refl _⟩ (isC := []) (isR := [0, 1, 2, 3, 4, 5, 6, 7, 8, 9, 10, 11, 12, 13, 14, 15, 16, 17, 18, 19, 20, 21, 22, 23, 24, 25, 26, 27, 28, 29, 30, 31, 32, 33, 34, 35, 36, 37, 38, 39, 40, 41, 42, 43, 44, 45, 46, 47, 48, 49, 50, 51, 52, 53, 54, 55, 56, 57, 58, 59, 60, 61, 62, 63, 64, 65, 66, 67, 68, 69, 70, 71, 72]) (N := 73) ⟨rfl, by decide +kernel, rfl, by decide +kernel, rfl, ⟨⟨_, rfl, rfl⟩, ⟨⟨_, rfl, rfl⟩, ⟨⟨_, rfl, rfl⟩, ⟨⟨_, rfl, rfl⟩, ⟨⟨_, rfl, rfl⟩, ⟨⟨_, rfl, rfl⟩, ⟨⟨_, rfl, rfl⟩, ⟨⟨_, rfl, rfl⟩, ⟨⟨_, rfl, rfl⟩, ⟨⟨_, rfl, rfl⟩, ⟨⟨_, rfl, rfl⟩, ⟨⟨_, rfl, rfl⟩, ⟨⟨_, rfl, rfl⟩, ⟨⟨_, rfl, rfl⟩, ⟨⟨_, rfl, rfl⟩, ⟨⟨_, rfl, rfl⟩, ⟨⟨_, rfl, rfl⟩, ⟨⟨_, rfl, rfl⟩, ⟨⟨_, rfl, rfl⟩, ⟨⟨_, rfl, rfl⟩, ⟨⟨_, rfl, rfl⟩, ⟨⟨_, rfl, rfl⟩, ⟨⟨_, rfl, rfl⟩, ⟨⟨_, rfl, rfl⟩, ⟨⟨_, rfl, rfl⟩, ⟨⟨_, rfl, rfl⟩, ⟨⟨_, rfl, rfl⟩, ⟨⟨_, rfl, rfl⟩, ⟨⟨_, rfl, rfl⟩, ⟨⟨_, rfl, rfl⟩, ⟨⟨_, rfl, rfl⟩, ⟨⟨_, rfl, rfl⟩, ⟨⟨_, rfl, rfl⟩, ⟨⟨_, rfl, rfl⟩, ⟨⟨_, rfl, rfl⟩, ⟨⟨_, rfl, rfl⟩, ⟨⟨_, rfl, rfl⟩, ⟨⟨_, rfl, rfl⟩, ⟨⟨_, rfl, rfl⟩, ⟨⟨_, rfl, rfl⟩, ⟨⟨_, rfl, rfl⟩, ⟨⟨_, rfl, rfl⟩, ⟨⟨_, rfl, rfl⟩, ⟨⟨_, rfl, rfl⟩, ⟨⟨_, rfl, rfl⟩, ⟨⟨_, rfl, rfl⟩, ⟨⟨_, rfl, rfl⟩, ⟨⟨_, rfl, rfl⟩, ⟨⟨_, rfl, rfl⟩, ⟨⟨_, rfl, rfl⟩, ⟨⟨_, rfl, rfl⟩, ⟨⟨_, rfl, rfl⟩, ⟨⟨_, rfl, rfl⟩, ⟨⟨_, rfl, rfl⟩, ⟨⟨_, rfl, rfl⟩, ⟨⟨_, rfl, rfl⟩, ⟨⟨_, rfl, rfl⟩, ⟨⟨_, rfl, rfl⟩, ⟨⟨_, rfl, rfl⟩, ⟨⟨_, rfl, rfl⟩, ⟨⟨_, rfl, rfl⟩, ⟨⟨_, rfl, rfl⟩, ⟨⟨_, rfl, rfl⟩, ⟨⟨_, rfl, rfl⟩, ⟨⟨_, rfl, rfl⟩, ⟨⟨_, rfl, rfl⟩, ⟨⟨_, rfl, rfl⟩, ⟨⟨_, rfl, rfl⟩, ⟨⟨_, rfl, rfl⟩, ⟨⟨_, rfl, rfl⟩, ⟨⟨_, rfl, rfl⟩, ⟨⟨_, rfl, rfl⟩, ⟨⟨_, rfl, rfl⟩, trivial⟩⟩⟩⟩⟩⟩⟩⟩⟩⟩⟩⟩⟩⟩⟩⟩⟩⟩⟩⟩⟩⟩⟩⟩⟩⟩⟩⟩⟩⟩⟩⟩⟩⟩⟩⟩⟩⟩⟩⟩⟩⟩⟩⟩⟩⟩⟩⟩⟩⟩⟩⟩⟩⟩⟩⟩⟩⟩⟩⟩⟩⟩⟩⟩⟩⟩⟩⟩⟩⟩⟩⟩⟩⟩ rfl ?_
      refine J_if_ne (pc := 25) (tgt := 31) C 12 rfl rfl (fun c6 => ?_) (fun c6 => ?_)
      · rw [if_neg c6] at h
        refine J_aload_n (pc := 31) C 15 rfl 0 rfl rfl ?_
        refine J_get (pc := 32) (v := .ref (aS 0)) C 16 rfl TB_l4 rfl 0 1 rfl (by decide) k197 rfl rfl ?_
        refine J_get (pc := 35) (v := .ref (aS 2)) C 17 rfl TB_l2 rfl 8 1 rfl (by decide) k229 rfl rfl ?_
        refine J_iload_n (pc := 38) C 18 rfl 1 rfl rfl ?_
        obtain ⟨g7, h⟩ := gd_some h
        refine J_iald (pc := 39) (f := (vS 1)) (v := ((vS 1) (Int32.toNatClampNeg x1))) C 19 rfl 10 rfl g7 rfl ?_
        refine J_istore (pc := 40) (lv' := [(4, .int ((vS 1) (Int32.toNatClampNeg x1))), (0, .ref aX), (1, .int x1), (2, .int x2), (3, .int x3)]) C 20 rfl (by decide) rfl ?_
        refine J_aload_n (pc := 42) C 21 rfl 1 rfl rfl ?_
        refine J_get (pc := 43) (v := .ref (aH 0)) C 22 rfl TB_l4 rfl 0 5 rfl (by decide) k206 rfl rfl ?_
        refine J_aload_n (pc := 46) C 23 rfl 1 rfl rfl ?_
        refine J_get (pc := 47) (v := .ref (aS 0)) C 24 rfl TB_l4 rfl 0 1 rfl (by decide) k197 rfl rfl ?_
        obtain ⟨q8, hq8, h⟩ := bnd h
        refine J_callV (pc := 50) (st2 := []) (st3 := []) (ws2 := (wEx aX (aT 0) (aT2 0) (aS 0) (aS2 0) (aP 0) (aH 0) aB aU ++ (wSeat G aT (aS 0) (vT 1) (vT 2) (vT 3) (vT 4 0) (vT 5 0) (vT 6) (vT 7) (vT 8) ++ (wSch G aS (vS 0) (vS 1) (vS 2) (vS 3) (vS 4) (vS 5) (vS 6) (vS 7) (vS 8 0) (vS 9 0) ++ (wHis G aH (q8.1) (q8.2.1) ((q8.2.2) 1 0)))))) C 25 rfl (c_X0_remember aS aH vS hA hV hZ hq8) V_X0_remember k223 i_X0_remember s_X0_remember rfl rfl ⟨Nat.le_of_ble_eq_true rfl, Nat.le_of_ble_eq_true rfl⟩ (Nat.le_of_ble_eq_true rfl) ⟨Nat.le_refl _, Nat.le_refl _⟩ 17 0 rfl rfl rfl (isC := [8, 9, 10, 11, 12, 13, 14, 15, 16, 17, 18, 19, 20, 21, 22, 23, 24, 25, 26, 27, 28, 29, 30, 31, 32, 33, 34, 35, 36, 37, 38, 39, 40, 41, 42, 43, 44, 45, 46, 47, 48, 49, 50, 51, 52, 53, 54, 55, 56, 57, 58, 59, 60, 61, 62, 63, 64, 65, 66, 67, 68, 69, 70, 71, 72]) (isR := [0, 1, 2, 3, 4, 5, 6, 7]) (N := 73) ⟨rfl, by decide +kernel, rfl, by decide +kernel, rfl, ⟨⟨_, rfl, rfl⟩, ⟨⟨_, rfl, rfl⟩, ⟨⟨_, rfl, rfl⟩, ⟨⟨_, rfl, rfl⟩, ⟨⟨_, rfl, rfl⟩, ⟨⟨_, rfl, rfl⟩, ⟨⟨_, rfl, rfl⟩, ⟨⟨_, rfl, rfl⟩, trivial⟩⟩⟩⟩⟩⟩⟩⟩⟩ rfl ?_
        refine J_aload_n (pc := 53) C 26 rfl 1 rfl rfl ?_
        refine J_get (pc := 54) (v := .ref (aS 0)) C 27 rfl TB_l4 rfl 0 1 rfl (by decide) k197 rfl rfl ?_
        refine J_get (pc := 57) (v := .ref (aS 2)) C 28 rfl TB_l2 rfl 8 1 rfl (by decide) k229 rfl rfl ?_
        refine J_iload_n (pc := 60) C 29 rfl 2 rfl rfl ?_
        refine J_iload_n (pc := 61) C 30 rfl 3 rfl rfl ?_
        obtain ⟨g9, h⟩ := gd_some h
        refine J_iast (pc := 62) (f := (vS 1)) (m := (Int32.toNatClampNeg x1)) C 31 (fun mm vv => (wEx aX (aT 0) (aT2 0) (aS 0) (aS2 0) (aP 0) (aH 0) aB aU ++ (wSeat G aT (aS 0) (vT 1) (vT 2) (vT 3) (vT 4 0) (vT 5 0) (vT 6) (vT 7) (vT 8) ++ (wSch G aS (vS 0) (upd (vS 1) mm vv) (vS 2) (vS 3) (vS 4) (vS 5) (vS 6) (vS 7) (vS 8 0) (vS 9 0) ++ (wHis G aH (q8.1) (q8.2.1) ((q8.2.2) 1 0)))))) rfl 10 rfl g9 rfl (fun _ _ => rfl) ?_
        refine J_aload_n (pc := 63) C 32 rfl 1 rfl rfl ?_
        refine J_get (pc := 64) (v := .ref (aS 0)) C 33 rfl TB_l4 rfl 0 1 rfl (by decide) k197 rfl rfl ?_
        refine J_get (pc := 67) (v := .ref (aS 3)) C 34 rfl TB_l2 rfl 8 2 rfl (by decide) k230 rfl rfl ?_
        refine J_iload_n (pc := 70) C 35 rfl 2 rfl rfl ?_
        refine J_iload_n (pc := 71) C 36 rfl 4 rfl rfl ?_
        obtain ⟨g10, h⟩ := gd_some h
        refine J_iast (pc := 72) (f := (vS 2)) (m := (Int32.toNatClampNeg x1)) C 37 (fun mm vv => (wEx aX (aT 0) (aT2 0) (aS 0) (aS2 0) (aP 0) (aH 0) aB aU ++ (wSeat G aT (aS 0) (vT 1) (vT 2) (vT 3) (vT 4 0) (vT 5 0) (vT 6) (vT 7) (vT 8) ++ (wSch G aS (vS 0) (upd (vS 1) (Int32.toNatClampNeg x1) x2) (upd (vS 2) mm vv) (vS 3) (vS 4) (vS 5) (vS 6) (vS 7) (vS 8 0) (vS 9 0) ++ (wHis G aH (q8.1) (q8.2.1) ((q8.2.2) 1 0)))))) rfl 11 rfl g10 rfl (fun _ _ => rfl) ?_
        refine J_aload_n (pc := 73) C 38 rfl 1 rfl rfl ?_
        refine J_get (pc := 74) (v := .ref (aT 0)) C 39 rfl TB_l4 rfl 0 0 rfl (by decide) k195 rfl rfl ?_
        obtain ⟨q11, hq11, h⟩ := bnd h
        refine J_callV (pc := 77) (st2 := []) (st3 := []) (ws2 := (wEx aX (aT 0) (aT2 0) (aS 0) (aS2 0) (aP 0) (aH 0) aB aU ++ (wSeat G aT (aS 0) (q11 1) (q11 2) (q11 3) (q11 4 0) (q11 5 0) (q11 6) (q11 7) (q11 8) ++ (wSch G aS (vS 0) (upd (vS 1) (Int32.toNatClampNeg x1) x2) (upd (vS 2) (Int32.toNatClampNeg x1) x3) (vS 3) (vS 4) (vS 5) (vS 6) (vS 7) (vS 8 0) (vS 9 0) ++ (wHis G aH (q8.1) (q8.2.1) ((q8.2.2) 1 0)))))) C 40 rfl (c_X3_seatAll aT aS vT (up2 (up2 vS 1 (Int32.toNatClampNeg x1) x2) 2 (Int32.toNatClampNeg x1) x3) hq11) V_X3_seatAll k214 i_X3_seatAll s_X3_seatAll rfl rfl ⟨Nat.le_of_ble_eq_true rfl, Nat.le_of_ble_eq_true rfl⟩ (Nat.le_of_ble_eq_true rfl) ⟨Nat.le_refl _, Nat.le_refl _⟩ 1 3 rfl rfl rfl (isC := [1, 2, 3, 4, 5, 6, 7, 8, 9, 10, 11, 12, 13, 14, 15, 16]) (isR := [0, 17, 18, 19, 20, 21, 22, 23, 24, 25, 26, 27, 28, 29, 30, 31, 32, 33, 34, 35, 36, 37, 38, 39, 40, 41, 42, 43, 44, 45, 46, 47, 48, 49, 50, 51, 52, 53, 54, 55, 56, 57, 58, 59, 60, 61, 62, 63, 64, 65, 66, 67, 68, 69, 70, 71, 72]) (N := 73) ⟨rfl, by decide +kernel, rfl, by decide +kernel, rfl, ⟨⟨_, rfl, rfl⟩, ⟨⟨_, rfl, rfl⟩, ⟨⟨_, rfl, rfl⟩, ⟨⟨_, rfl, rfl⟩, ⟨⟨_, rfl, rfl⟩, ⟨⟨_, rfl, rfl⟩, ⟨⟨_, rfl, rfl⟩, ⟨⟨_, rfl, rfl⟩, ⟨⟨_, rfl, rfl⟩, ⟨⟨_, rfl, rfl⟩, ⟨⟨_, rfl, rfl⟩, ⟨⟨_, rfl, rfl⟩, ⟨⟨_, rfl, rfl⟩, ⟨⟨_, rfl, rfl⟩, ⟨⟨_, rfl, rfl⟩, ⟨⟨_, rfl, rfl⟩, ⟨⟨_, rfl, rfl⟩, ⟨⟨_, rfl, rfl⟩, ⟨⟨_, rfl, rfl⟩, ⟨⟨_, rfl, rfl⟩, ⟨⟨_, rfl, rfl⟩, ⟨⟨_, rfl, rfl⟩, ⟨⟨_, rfl, rfl⟩, ⟨⟨_, rfl, rfl⟩, ⟨⟨_, rfl, rfl⟩, ⟨⟨_, rfl, rfl⟩, ⟨⟨_, rfl, rfl⟩, ⟨⟨_, rfl, rfl⟩, ⟨⟨_, rfl, rfl⟩, ⟨⟨_, rfl, rfl⟩, ⟨⟨_, rfl, rfl⟩, ⟨⟨_, rfl, rfl⟩, ⟨⟨_, rfl, rfl⟩, ⟨⟨_, rfl, rfl⟩, ⟨⟨_, rfl, rfl⟩, ⟨⟨_, rfl, rfl⟩, ⟨⟨_, rfl, rfl⟩, ⟨⟨_, rfl, rfl⟩, ⟨⟨_, rfl, rfl⟩, ⟨⟨_, rfl, rfl⟩, ⟨⟨_, rfl, rfl⟩, ⟨⟨_, rfl, rfl⟩, ⟨⟨_, rfl, rfl⟩, ⟨⟨_, rfl, rfl⟩, ⟨⟨_, rfl, rfl⟩, ⟨⟨_, rfl, rfl⟩, ⟨⟨_, rfl, rfl⟩, ⟨⟨_, rfl, rfl⟩, ⟨⟨_, rfl, rfl⟩, ⟨⟨_, rfl, rfl⟩, ⟨⟨_, rfl, rfl⟩, ⟨⟨_, rfl, rfl⟩, ⟨⟨_, rfl, rfl⟩, ⟨⟨_, rfl, rfl⟩, ⟨⟨_, rfl, rfl⟩, ⟨⟨_, rfl, rfl⟩, ⟨⟨_, rfl, rfl⟩, trivial⟩⟩⟩⟩⟩⟩⟩⟩⟩⟩⟩⟩⟩⟩⟩⟩⟩⟩⟩⟩⟩⟩⟩⟩⟩⟩⟩⟩⟩⟩⟩⟩⟩⟩⟩⟩⟩⟩⟩⟩⟩⟩⟩⟩⟩⟩⟩⟩⟩⟩⟩⟩⟩⟩⟩⟩⟩⟩ rfl ?_
        refine J_iload (pc := 80) C 41 rfl 0 rfl ?_
        cases h
        exact J_iret (pc := 82) C 42 rfl
      · rw [if_pos c6] at h
        refine J_bipush (pc := 28) (v := (-2 : Int32)) C 13 rfl rfl ?_
        cases h
        exact J_iret (pc := 30) C 14 rfl
  · rw [if_pos c2] at h
    refine J_iconst (pc := 7) (v := (-1 : Int32)) C 3 rfl rfl ?_
    cases h
    exact J_iret (pc := 8) C 4 rfl
def T_X4_pupil : List (Nat × ClassFile.Instr × Nat) := [(0, .iload_n 1, 1), (1, .iload_n 2, 1), (2, .invokestatic 83, 3), (5, .ifCond .ne 6, 3), (8, .bipush (-2), 2), (10, .ireturn, 1), (11, .aload_n 0, 1), (12, .getfield 20, 3), (15, .getfield 87, 3), (18, .bipush 16, 2), (20, .if_icmp .lt 6, 3), (23, .bipush (-4), 2), (25, .ireturn, 1), (26, .aload_n 0, 1), (27, .getfield 20, 3), (30, .getfield 87, 3), (33, .istore 4, 2), (35, .aload_n 0, 1), (36, .getfield 37, 3), (39, .aload_n 0, 1), (40, .getfield 20, 3), (43, .invokevirtual 66, 3), (46, .aload_n 0, 1), (47, .getfield 20, 3), (50, .iload_n 1, 1), (51, .iload_n 2, 1), (52, .iload_n 3, 1), (53, .invokevirtual 91, 3), (56, .aload_n 0, 1), (57, .getfield 12, 3), (60, .invokevirtual 52, 3), (63, .iload 4, 2), (65, .ireturn, 1)]
theorem D_X4_pupil : ∀ q ∈ T_X4_pupil, decode cX4_pupil q.1 = .ok q.2 := by decide +kernel
theorem V_X4_pupil : Vy yX4_pupil cX4_pupil 5 (some .int) 3 := ⟨k243, k56, by decide +kernel⟩
theorem i_X4_pupil : Cond.instanceMethod yX4_pupil ∈ TB := k378
theorem s_X4_pupil : Cond.selects yX4_pupil.cls yX4_pupil yX4_pupil ∈ TB := k379
noncomputable def f_X4_pupil (vT : JV) (vS : JV) (hA : Nat → Nat → Nat) (hV : Nat → JV) (hZ : JV) (x1 : Int32) (x2 : Int32) (x3 : Int32) : Option (Int32 × JV × JV × (Nat → Nat → Nat) × (Nat → JV) × JV) :=
  (f_X4_isPupilData x1 x2).bind (fun q1 => (if q1 = 0 then some ((-2 : Int32), vT, vS, hA, hV, hZ) else (if (vS 8 0) < (16 : Int32) then (f_X0_remember vS hA hV hZ).bind (fun q4 => (f_X2_addPupil vS x1 x2 x3).bind (fun q5 => (f_X3_seatAll vT q5).bind (fun q6 => some ((vS 8 0), q6, q5, (q4.1), (q4.2.1), (q4.2.2))))) else some ((-4 : Int32), vT, vS, hA, hV, hZ))))
set_option maxRecDepth 100000 in
set_option maxHeartbeats 4000000 in
theorem c_X4_pupil {l : Launch} {G : JG} (aX : Nat) (aT : Nat → Nat) (aS : Nat → Nat) (aT2 : Nat → Nat) (aS2 : Nat → Nat) (aP : Nat → Nat) (aH : Nat → Nat) (aB : Nat) (aU : Nat) (vT : JV) (vS : JV) (hA : Nat → Nat → Nat) (hV : Nat → JV) (hZ : JV) (x1 : Int32) (x2 : Int32) (x3 : Int32) {Rz : Int32 × JV × JV × (Nat → Nat → Nat) × (Nat → JV) × JV} (h : f_X4_pupil vT vS hA hV hZ x1 x2 x3 = some Rz) : JM l G yX4_pupil cX4_pupil 5 (some .int) 6 141 [.ref aX, .int x1, .int x2, .int x3] (wEx aX (aT 0) (aT2 0) (aS 0) (aS2 0) (aP 0) (aH 0) aB aU ++ (wSeat G aT (aS 0) (vT 1) (vT 2) (vT 3) (vT 4 0) (vT 5 0) (vT 6) (vT 7) (vT 8) ++ (wSch G aS (vS 0) (vS 1) (vS 2) (vS 3) (vS 4) (vS 5) (vS 6) (vS 7) (vS 8 0) (vS 9 0) ++ (wHis G aH hA hV (hZ 1 0))))) (wEx aX (aT 0) (aT2 0) (aS 0) (aS2 0) (aP 0) (aH 0) aB aU ++ (wSeat G aT (aS 0) ((Rz.2.1) 1) ((Rz.2.1) 2) ((Rz.2.1) 3) ((Rz.2.1) 4 0) ((Rz.2.1) 5 0) ((Rz.2.1) 6) ((Rz.2.1) 7) ((Rz.2.1) 8) ++ (wSch G aS ((Rz.2.2.1) 0) ((Rz.2.2.1) 1) ((Rz.2.2.1) 2) ((Rz.2.2.1) 3) ((Rz.2.2.1) 4) ((Rz.2.2.1) 5) ((Rz.2.2.1) 6) ((Rz.2.2.1) 7) ((Rz.2.2.1) 8 0) ((Rz.2.2.1) 9 0) ++ (wHis G aH (Rz.2.2.2.1) (Rz.2.2.2.2.1) ((Rz.2.2.2.2.2) 1 0))))) (some (.int (Rz.1))) := by
  refine JM.of (own := RX4) (tb := T_X4_pupil) (by decide) (Nat.le_of_ble_eq_true rfl) D_X4_pupil rfl (fun X C => ?_)
  refine J_sub (lv' := [(0, .ref aX), (1, .int x1), (2, .int x2), (3, .int x3)]) [0, 1, 2, 3] rfl ?_
  unfold f_X4_pupil at h
  refine J_iload_n (pc := 0) C 0 rfl 1 rfl rfl ?_
  refine J_iload_n (pc := 1) C 1 rfl 2 rfl rfl ?_
  obtain ⟨q1, hq1, h⟩ := bnd h
  refine J_callS (pc := 2) (st2 := []) (st3 := [.int q1]) (ws2 := (wEx aX (aT 0) (aT2 0) (aS 0) (aS2 0) (aP 0) (aH 0) aB aU ++ (wSeat G aT (aS 0) (vT 1) (vT 2) (vT 3) (vT 4 0) (vT 5 0) (vT 6) (vT 7) (vT 8) ++ (wSch G aS (vS 0) (vS 1) (vS 2) (vS 3) (vS 4) (vS 5) (vS 6) (vS 7) (vS 8 0) (vS 9 0) ++ (wHis G aH hA hV (hZ 1 0)))))) C 2 rfl (c_X4_isPupilData x1 x2 hq1) V_X4_isPupilData k238 t_X4_isPupilData rfl rfl ⟨Nat.le_of_ble_eq_true rfl, Nat.le_of_ble_eq_true rfl⟩ (Nat.le_of_ble_eq_true rfl) ⟨Nat.le_refl _, Nat.le_refl _⟩ (isC := []) (isR := [0, 1, 2, 3, 4, 5, 6, 7, 8, 9, 10, 11, 12, 13, 14, 15, 16, 17, 18, 19, 20, 21, 22, 23, 24, 25, 26, 27, 28, 29, 30, 31, 32, 33, 34, 35, 36, 37, 38, 39, 40, 41, 42, 43, 44, 45, 46, 47, 48, 49, 50, 51, 52, 53, 54, 55, 56, 57, 58, 59, 60, 61, 62, 63, 64, 65, 66, 67, 68, 69, 70, 71, 72]) (N := 73) ⟨rfl, by decide +kernel, rfl, by decide +kernel, rfl, ⟨⟨_, rfl, rfl⟩, ⟨⟨_, rfl, rfl⟩, ⟨⟨_, rfl, rfl⟩, ⟨⟨_, rfl, rfl⟩, ⟨⟨_, rfl, rfl⟩, ⟨⟨_, rfl, rfl⟩, ⟨⟨_, rfl, rfl⟩, ⟨⟨_, rfl, rfl⟩, ⟨⟨_, rfl, rfl⟩, ⟨⟨_, rfl, rfl⟩, ⟨⟨_, rfl, rfl⟩, ⟨⟨_, rfl, rfl⟩, ⟨⟨_, rfl, rfl⟩, ⟨⟨_, rfl, rfl⟩, ⟨⟨_, rfl, rfl⟩, ⟨⟨_, rfl, rfl⟩, ⟨⟨_, rfl, rfl⟩, ⟨⟨_, rfl, rfl⟩, ⟨⟨_, rfl, rfl⟩, ⟨⟨_, rfl, rfl⟩, ⟨⟨_, rfl, rfl⟩, ⟨⟨_, rfl, rfl⟩, ⟨⟨_, rfl, rfl⟩, ⟨⟨_, rfl, rfl⟩, ⟨⟨_, rfl, rfl⟩, ⟨⟨_, rfl, rfl⟩, ⟨⟨_, rfl, rfl⟩, ⟨⟨_, rfl, rfl⟩, ⟨⟨_, rfl, rfl⟩, ⟨⟨_, rfl, rfl⟩, ⟨⟨_, rfl, rfl⟩, ⟨⟨_, rfl, rfl⟩, ⟨⟨_, rfl, rfl⟩, ⟨⟨_, rfl, rfl⟩, ⟨⟨_, rfl, rfl⟩, ⟨⟨_, rfl, rfl⟩, ⟨⟨_, rfl, rfl⟩, ⟨⟨_, rfl, rfl⟩, ⟨⟨_, rfl, rfl⟩, ⟨⟨_, rfl, rfl⟩, ⟨⟨_, rfl, rfl⟩, ⟨⟨_, rfl, rfl⟩, ⟨⟨_, rfl, rfl⟩, ⟨⟨_, rfl, rfl⟩, ⟨⟨_, rfl, rfl⟩, ⟨⟨_, rfl, rfl⟩, ⟨⟨_, rfl, rfl⟩, ⟨⟨_, rfl, rfl⟩, ⟨⟨_, rfl, rfl⟩, ⟨⟨_, rfl, rfl⟩, ⟨⟨_, rfl, rfl⟩, ⟨⟨_, rfl, rfl⟩, ⟨⟨_, rfl, rfl⟩, ⟨⟨_, rfl, rfl⟩, ⟨⟨_, rfl, rfl⟩, ⟨⟨_, rfl, rfl⟩, ⟨⟨_, rfl, rfl⟩, ⟨⟨_, rfl, rfl⟩, ⟨⟨_, rfl, rfl⟩, ⟨⟨_, rfl, rfl⟩, ⟨⟨_, rfl, rfl⟩, ⟨⟨_, rfl, rfl⟩, ⟨⟨_, rfl, rfl⟩, ⟨⟨_, rfl, rfl⟩, ⟨⟨_, rfl, rfl⟩, ⟨⟨_, rfl, rfl⟩, ⟨⟨_, rfl, rfl⟩, ⟨⟨_, rfl, rfl⟩, ⟨⟨_, rfl, rfl⟩, ⟨⟨_, rfl, rfl⟩, ⟨⟨_, rfl, rfl⟩, ⟨⟨_, rfl, rfl⟩, ⟨⟨_, rfl, rfl⟩, trivial⟩⟩⟩⟩⟩⟩⟩⟩⟩⟩⟩⟩⟩⟩⟩⟩⟩⟩⟩⟩⟩⟩⟩⟩⟩⟩⟩⟩⟩⟩⟩⟩⟩⟩⟩⟩⟩⟩⟩⟩⟩⟩⟩⟩⟩⟩⟩⟩⟩⟩⟩⟩⟩⟩⟩⟩⟩⟩⟩⟩⟩⟩⟩⟩⟩⟩⟩⟩⟩⟩⟩⟩⟩⟩ rfl ?_
  refine J_if_ne (pc := 5) (tgt := 11) C 3 rfl rfl (fun c2 => ?_) (fun c2 => ?_)
  · rw [if_neg c2] at h
    refine J_aload_n (pc := 11) C 6 rfl 0 rfl rfl ?_
    refine J_get (pc := 12) (v := .ref (aS 0)) C 7 rfl TB_l4 rfl 0 1 rfl (by decide) k197 rfl rfl ?_
    refine J_get (pc := 15) (v := .int (vS 8 0)) C 8 rfl TB_l2 rfl 8 8 rfl (by decide) k237 rfl rfl ?_
    refine J_bipush (pc := 18) (v := (16 : Int32)) C 9 rfl rfl ?_
    refine J_icmp_lt (pc := 20) (tgt := 26) C 10 rfl rfl (fun c3 => ?_) (fun c3 => ?_)
    · rw [if_pos c3] at h
      refine J_aload_n (pc := 26) C 13 rfl 0 rfl rfl ?_
      refine J_get (pc := 27) (v := .ref (aS 0)) C 14 rfl TB_l4 rfl 0 1 rfl (by decide) k197 rfl rfl ?_
      refine J_get (pc := 30) (v := .int (vS 8 0)) C 15 rfl TB_l2 rfl 8 8 rfl (by decide) k237 rfl rfl ?_
      refine J_istore (pc := 33) (lv' := [(4, .int (vS 8 0)), (0, .ref aX), (1, .int x1), (2, .int x2), (3, .int x3)]) C 16 rfl (by decide) rfl ?_
      refine J_aload_n (pc := 35) C 17 rfl 1 rfl rfl ?_
      refine J_get (pc := 36) (v := .ref (aH 0)) C 18 rfl TB_l4 rfl 0 5 rfl (by decide) k206 rfl rfl ?_
      refine J_aload_n (pc := 39) C 19 rfl 1 rfl rfl ?_
      refine J_get (pc := 40) (v := .ref (aS 0)) C 20 rfl TB_l4 rfl 0 1 rfl (by decide) k197 rfl rfl ?_
      obtain ⟨q4, hq4, h⟩ := bnd h
      refine J_callV (pc := 43) (st2 := []) (st3 := []) (ws2 := (wEx aX (aT 0) (aT2 0) (aS 0) (aS2 0) (aP 0) (aH 0) aB aU ++ (wSeat G aT (aS 0) (vT 1) (vT 2) (vT 3) (vT 4 0) (vT 5 0) (vT 6) (vT 7) (vT 8) ++ (wSch G aS (vS 0) (vS 1) (vS 2) (vS 3) (vS 4) (vS 5) (vS 6) (vS 7) (vS 8 0) (vS 9 0) ++ (wHis G aH (q4.1) (q4.2.1) ((q4.2.2) 1 0)))))) C 21 rfl (c_X0_remember aS aH vS hA hV hZ hq4) V_X0_remember k223 i_X0_remember s_X0_remember rfl rfl ⟨Nat.le_of_ble_eq_true rfl, Nat.le_of_ble_eq_true rfl⟩ (Nat.le_of_ble_eq_true rfl) ⟨Nat.le_refl _, Nat.le_refl _⟩ 17 0 rfl rfl rfl (isC := [8, 9, 10, 11, 12, 13, 14, 15, 16, 17, 18, 19, 20, 21, 22, 23, 24, 25, 26, 27, 28, 29, 30, 31, 32, 33, 34, 35, 36, 37, 38, 39, 40, 41, 42, 43, 44, 45, 46, 47, 48, 49, 50, 51, 52, 53, 54, 55, 56, 57, 58, 59, 60, 61, 62, 63, 64, 65, 66, 67, 68, 69, 70, 71, 72]) (isR := [0, 1, 2, 3, 4, 5, 6, 7]) (N := 73) ⟨rfl, by decide +kernel, rfl, by decide +kernel, rfl, ⟨⟨_, rfl, rfl⟩, ⟨⟨_, rfl, rfl⟩, ⟨⟨_, rfl, rfl⟩, ⟨⟨_, rfl, rfl⟩, ⟨⟨_, rfl, rfl⟩, ⟨⟨_, rfl, rfl⟩, ⟨⟨_, rfl, rfl⟩, ⟨⟨_, rfl, rfl⟩, trivial⟩⟩⟩⟩⟩⟩⟩⟩⟩ rfl ?_
      refine J_aload_n (pc := 46) C 22 rfl 1 rfl rfl ?_
      refine J_get (pc := 47) (v := .ref (aS 0)) C 23 rfl TB_l4 rfl 0 1 rfl (by decide) k197 rfl rfl ?_
      refine J_iload_n (pc := 50) C 24 rfl 2 rfl rfl ?_
      refine J_iload_n (pc := 51) C 25 rfl 3 rfl rfl ?_
      refine J_iload_n (pc := 52) C 26 rfl 4 rfl rfl ?_
      obtain ⟨q5, hq5, h⟩ := bnd h
      refine J_callV (pc := 53) (st2 := []) (st3 := []) (ws2 := (wEx aX (aT 0) (aT2 0) (aS 0) (aS2 0) (aP 0) (aH 0) aB aU ++ (wSeat G aT (aS 0) (vT 1) (vT 2) (vT 3) (vT 4 0) (vT 5 0) (vT 6) (vT 7) (vT 8) ++ (wSch G aS (q5 0) (q5 1) (q5 2) (q5 3) (q5 4) (q5 5) (q5 6) (q5 7) (q5 8 0) (q5 9 0) ++ (wHis G aH (q4.1) (q4.2.1) ((q4.2.2) 1 0)))))) C 27 rfl (c_X2_addPupil aS vS x1 x2 x3 hq5) V_X2_addPupil k240 i_X2_addPupil s_X2_addPupil rfl rfl ⟨Nat.le_of_ble_eq_true rfl, Nat.le_of_ble_eq_true rfl⟩ (Nat.le_of_ble_eq_true rfl) ⟨Nat.le_refl _, Nat.le_refl _⟩ 8 2 rfl rfl rfl (isC := [8, 9, 10, 11, 12, 13, 14, 15, 16]) (isR := [0, 1, 2, 3, 4, 5, 6, 7, 17, 18, 19, 20, 21, 22, 23, 24, 25, 26, 27, 28, 29, 30, 31, 32, 33, 34, 35, 36, 37, 38, 39, 40, 41, 42, 43, 44, 45, 46, 47, 48, 49, 50, 51, 52, 53, 54, 55, 56, 57, 58, 59, 60, 61, 62, 63, 64, 65, 66, 67, 68, 69, 70, 71, 72]) (N := 73) ⟨rfl, by decide +kernel, rfl, by decide +kernel, rfl, ⟨⟨_, rfl, rfl⟩, ⟨⟨_, rfl, rfl⟩, ⟨⟨_, rfl, rfl⟩, ⟨⟨_, rfl, rfl⟩, ⟨⟨_, rfl, rfl⟩, ⟨⟨_, rfl, rfl⟩, ⟨⟨_, rfl, rfl⟩, ⟨⟨_, rfl, rfl⟩, ⟨⟨_, rfl, rfl⟩, ⟨⟨_, rfl, rfl⟩, ⟨⟨_, rfl, rfl⟩, ⟨⟨_, rfl, rfl⟩, ⟨⟨_, rfl, rfl⟩, ⟨⟨_, rfl, rfl⟩, ⟨⟨_, rfl, rfl⟩, ⟨⟨_, rfl, rfl⟩, ⟨⟨_, rfl, rfl⟩, ⟨⟨_, rfl, rfl⟩, ⟨⟨_, rfl, rfl⟩, ⟨⟨_, rfl, rfl⟩, ⟨⟨_, rfl, rfl⟩, ⟨⟨_, rfl, rfl⟩, ⟨⟨_, rfl, rfl⟩, ⟨⟨_, rfl, rfl⟩, ⟨⟨_, rfl, rfl⟩, ⟨⟨_, rfl, rfl⟩, ⟨⟨_, rfl, rfl⟩, ⟨⟨_, rfl, rfl⟩, ⟨⟨_, rfl, rfl⟩, ⟨⟨_, rfl, rfl⟩, ⟨⟨_, rfl, rfl⟩, ⟨⟨_, rfl, rfl⟩, ⟨⟨_, rfl, rfl⟩, ⟨⟨_, rfl, rfl⟩, ⟨⟨_, rfl, rfl⟩, ⟨⟨_, rfl, rfl⟩, ⟨⟨_, rfl, rfl⟩, ⟨⟨_, rfl, rfl⟩, ⟨⟨_, rfl, rfl⟩, ⟨⟨_, rfl, rfl⟩, ⟨⟨_, rfl, rfl⟩, ⟨⟨_, rfl, rfl⟩, ⟨⟨_, rfl, rfl⟩, ⟨⟨_, rfl, rfl⟩, ⟨⟨_, rfl, rfl⟩, ⟨⟨_, rfl, rfl⟩, ⟨⟨_, rfl, rfl⟩, ⟨⟨_, rfl, rfl⟩, ⟨⟨_, rfl, rfl⟩, ⟨⟨_, rfl, rfl⟩, ⟨⟨_, rfl, rfl⟩, ⟨⟨_, rfl, rfl⟩, ⟨⟨_, rfl, rfl⟩, ⟨⟨_, rfl, rfl⟩, ⟨⟨_, rfl, rfl⟩, ⟨⟨_, rfl, rfl⟩, ⟨⟨_, rfl, rfl⟩, ⟨⟨_, rfl, rfl⟩, ⟨⟨_, rfl, rfl⟩, ⟨⟨_, rfl, rfl⟩, ⟨⟨_, rfl, rfl⟩, ⟨⟨_, rfl, rfl⟩, ⟨⟨_, rfl, rfl⟩, ⟨⟨_, rfl, rfl⟩, trivial⟩⟩⟩⟩⟩⟩⟩⟩⟩⟩⟩⟩⟩⟩⟩⟩⟩⟩⟩⟩⟩⟩⟩⟩⟩⟩⟩⟩⟩⟩⟩⟩⟩⟩⟩⟩⟩⟩⟩⟩⟩⟩⟩⟩⟩⟩⟩⟩⟩⟩⟩⟩⟩⟩⟩⟩⟩⟩⟩⟩⟩⟩⟩⟩⟩ rfl ?_
      refine J_aload_n (pc := 56) C 28 rfl 1 rfl rfl ?_
      refine J_get (pc := 57) (v := .ref (aT 0)) C 29 rfl TB_l4 rfl 0 0 rfl (by decide) k195 rfl rfl ?_
      obtain ⟨q6, hq6, h⟩ := bnd h
      refine J_callV (pc := 60) (st2 := []) (st3 := []) (ws2 := (wEx aX (aT 0) (aT2 0) (aS 0) (aS2 0) (aP 0) (aH 0) aB aU ++ (wSeat G aT (aS 0) (q6 1) (q6 2) (q6 3) (q6 4 0) (q6 5 0) (q6 6) (q6 7) (q6 8) ++ (wSch G aS (q5 0) (q5 1) (q5 2) (q5 3) (q5 4) (q5 5) (q5 6) (q5 7) (q5 8 0) (q5 9 0) ++ (wHis G aH (q4.1) (q4.2.1) ((q4.2.2) 1 0)))))) C 30 rfl (c_X3_seatAll aT aS vT q5 hq6) V_X3_seatAll k214 i_X3_seatAll s_X3_seatAll rfl rfl ⟨Nat.le_of_ble_eq_true rfl, Nat.le_of_ble_eq_true rfl⟩ (Nat.le_of_ble_eq_true rfl) ⟨Nat.le_refl _, Nat.le_refl _⟩ 1 3 rfl rfl rfl (isC := [1, 2, 3, 4, 5, 6, 7, 8, 9, 10, 11, 12, 13, 14, 15, 16]) (isR := [0, 17, 18, 19, 20, 21, 22, 23, 24, 25, 26, 27, 28, 29, 30, 31, 32, 33, 34, 35, 36, 37, 38, 39, 40, 41, 42, 43, 44, 45, 46, 47, 48, 49, 50, 51, 52, 53, 54, 55, 56, 57, 58, 59, 60, 61, 62, 63, 64, 65, 66, 67, 68, 69, 70, 71, 72]) (N := 73) ⟨rfl, by decide +kernel, rfl, by decide +kernel, rfl, ⟨⟨_, rfl, rfl⟩, ⟨⟨_, rfl, rfl⟩, ⟨⟨_, rfl, rfl⟩, ⟨⟨_, rfl, rfl⟩, ⟨⟨_, rfl, rfl⟩, ⟨⟨_, rfl, rfl⟩, ⟨⟨_, rfl, rfl⟩, ⟨⟨_, rfl, rfl⟩, ⟨⟨_, rfl, rfl⟩, ⟨⟨_, rfl, rfl⟩, ⟨⟨_, rfl, rfl⟩, ⟨⟨_, rfl, rfl⟩, ⟨⟨_, rfl, rfl⟩, ⟨⟨_, rfl, rfl⟩, ⟨⟨_, rfl, rfl⟩, ⟨⟨_, rfl, rfl⟩, ⟨⟨_, rfl, rfl⟩, ⟨⟨_, rfl, rfl⟩, ⟨⟨_, rfl, rfl⟩, ⟨⟨_, rfl, rfl⟩, ⟨⟨_, rfl, rfl⟩, ⟨⟨_, rfl, rfl⟩, ⟨⟨_, rfl, rfl⟩, ⟨⟨_, rfl, rfl⟩, ⟨⟨_, rfl, rfl⟩, ⟨⟨_, rfl, rfl⟩, ⟨⟨_, rfl, rfl⟩, ⟨⟨_, rfl, rfl⟩, ⟨⟨_, rfl, rfl⟩, ⟨⟨_, rfl, rfl⟩, ⟨⟨_, rfl, rfl⟩, ⟨⟨_, rfl, rfl⟩, ⟨⟨_, rfl, rfl⟩, ⟨⟨_, rfl, rfl⟩, ⟨⟨_, rfl, rfl⟩, ⟨⟨_, rfl, rfl⟩, ⟨⟨_, rfl, rfl⟩, ⟨⟨_, rfl, rfl⟩, ⟨⟨_, rfl, rfl⟩, ⟨⟨_, rfl, rfl⟩, ⟨⟨_, rfl, rfl⟩, ⟨⟨_, rfl, rfl⟩, ⟨⟨_, rfl, rfl⟩, ⟨⟨_, rfl, rfl⟩, ⟨⟨_, rfl, rfl⟩, ⟨⟨_, rfl, rfl⟩, ⟨⟨_, rfl, rfl⟩, ⟨⟨_, rfl, rfl⟩, ⟨⟨_, rfl, rfl⟩, ⟨⟨_, rfl, rfl⟩, ⟨⟨_, rfl, rfl⟩, ⟨⟨_, rfl, rfl⟩, ⟨⟨_, rfl, rfl⟩, ⟨⟨_, rfl, rfl⟩, ⟨⟨_, rfl, rfl⟩, ⟨⟨_, rfl, rfl⟩, ⟨⟨_, rfl, rfl⟩, trivial⟩⟩⟩⟩⟩⟩⟩⟩⟩⟩⟩⟩⟩⟩⟩⟩⟩⟩⟩⟩⟩⟩⟩⟩⟩⟩⟩⟩⟩⟩⟩⟩⟩⟩⟩⟩⟩⟩⟩⟩⟩⟩⟩⟩⟩⟩⟩⟩⟩⟩⟩⟩⟩⟩⟩⟩⟩⟩ rfl ?_
      refine J_iload (pc := 63) C 31 rfl 0 rfl ?_
      cases h
      exact J_iret (pc := 65) C 32 rfl
    · rw [if_neg c3] at h
      refine J_bipush (pc := 23) (v := (-4 : Int32)) C 11 rfl rfl ?_
      cases h
      exact J_iret (pc := 25) C 12 rfl
  · rw [if_pos c2] at h
    refine J_bipush (pc := 8) (v := (-2 : Int32)) C 4 rfl rfl ?_
    cases h
    exact J_iret (pc := 10) C 5 rfl
def T_X4_isPupil : List (Nat × ClassFile.Instr × Nat) := [(0, .iload_n 1, 1), (1, .iconst 0, 1), (2, .aload_n 0, 1), (3, .getfield 20, 3), (6, .getfield 87, 3), (9, .iconst 1, 1), (10, .isub, 1), (11, .invokestatic 55, 3), (14, .ireturn, 1)]
theorem D_X4_isPupil : ∀ q ∈ T_X4_isPupil, decode cX4_isPupil q.1 = .ok q.2 := by decide +kernel
theorem V_X4_isPupil : Vy yX4_isPupil cX4_isPupil 2 (some .boolean) 1 := ⟨k244, k56, by decide +kernel⟩
theorem i_X4_isPupil : Cond.instanceMethod yX4_isPupil ∈ TB := k246
theorem s_X4_isPupil : Cond.selects yX4_isPupil.cls yX4_isPupil yX4_isPupil ∈ TB := k247
noncomputable def f_X4_isPupil (vS : JV) (x1 : Int32) : Option (Int32) :=
  (f_X4_isWithin x1 (0 : Int32) ((vS 8 0) - (1 : Int32))).bind (fun q1 => gd (isb q1) (some q1))
set_option maxRecDepth 100000 in
set_option maxHeartbeats 4000000 in
theorem c_X4_isPupil {l : Launch} {G : JG} (aX : Nat) (aT : Nat → Nat) (aS : Nat → Nat) (aT2 : Nat → Nat) (aS2 : Nat → Nat) (aP : Nat → Nat) (aH : Nat → Nat) (aB : Nat) (aU : Nat) (vS : JV) (x1 : Int32) {Rz : Int32} (h : f_X4_isPupil vS x1 = some Rz) : JM l G yX4_isPupil cX4_isPupil 2 (some .boolean) 1 22 [.ref aX, .int x1] (wEx aX (aT 0) (aT2 0) (aS 0) (aS2 0) (aP 0) (aH 0) aB aU ++ (wSch G aS (vS 0) (vS 1) (vS 2) (vS 3) (vS 4) (vS 5) (vS 6) (vS 7) (vS 8 0) (vS 9 0))) (wEx aX (aT 0) (aT2 0) (aS 0) (aS2 0) (aP 0) (aH 0) aB aU ++ (wSch G aS (vS 0) (vS 1) (vS 2) (vS 3) (vS 4) (vS 5) (vS 6) (vS 7) (vS 8 0) (vS 9 0))) (some (.int Rz)) := by
  refine JM.of (own := RX4) (tb := T_X4_isPupil) (by decide) (Nat.le_of_ble_eq_true rfl) D_X4_isPupil rfl (fun X C => ?_)
  refine J_sub (lv' := [(0, .ref aX), (1, .int x1)]) [0, 1] rfl ?_
  unfold f_X4_isPupil at h
  refine J_iload_n (pc := 0) C 0 rfl 1 rfl rfl ?_
  refine J_iconst (pc := 1) (v := (0 : Int32)) C 1 rfl rfl ?_
  refine J_aload_n (pc := 2) C 2 rfl 0 rfl rfl ?_
  refine J_get (pc := 3) (v := .ref (aS 0)) C 3 rfl TB_l4 rfl 0 1 rfl (by decide) k197 rfl rfl ?_
  refine J_get (pc := 6) (v := .int (vS 8 0)) C 4 rfl TB_l2 rfl 1 8 rfl (by decide) k237 rfl rfl ?_
  refine J_iconst (pc := 9) (v := (1 : Int32)) C 5 rfl rfl ?_
  refine J_isub (pc := 10) C 6 rfl  ?_
  obtain ⟨q1, hq1, h⟩ := bnd h
  refine J_callS (pc := 11) (st2 := []) (st3 := [.int q1]) (ws2 := (wEx aX (aT 0) (aT2 0) (aS 0) (aS2 0) (aP 0) (aH 0) aB aU ++ (wSch G aS (vS 0) (vS 1) (vS 2) (vS 3) (vS 4) (vS 5) (vS 6) (vS 7) (vS 8 0) (vS 9 0)))) C 7 rfl (c_X4_isWithin x1 (0 : Int32) ((vS 8 0) - (1 : Int32)) hq1) V_X4_isWithin k221 t_X4_isWithin rfl rfl ⟨Nat.le_of_ble_eq_true rfl, Nat.le_of_ble_eq_true rfl⟩ (Nat.le_of_ble_eq_true rfl) ⟨Nat.le_refl _, Nat.le_refl _⟩ (isC := []) (isR := [0, 1, 2, 3, 4, 5, 6, 7, 8, 9]) (N := 10) ⟨rfl, by decide +kernel, rfl, by decide +kernel, rfl, ⟨⟨_, rfl, rfl⟩, ⟨⟨_, rfl, rfl⟩, ⟨⟨_, rfl, rfl⟩, ⟨⟨_, rfl, rfl⟩, ⟨⟨_, rfl, rfl⟩, ⟨⟨_, rfl, rfl⟩, ⟨⟨_, rfl, rfl⟩, ⟨⟨_, rfl, rfl⟩, ⟨⟨_, rfl, rfl⟩, ⟨⟨_, rfl, rfl⟩, trivial⟩⟩⟩⟩⟩⟩⟩⟩⟩⟩⟩ rfl ?_
  obtain ⟨g2, h⟩ := gd_some h
  cases h
  exact J_zret (pc := 14) C 8 rfl g2
def T_X4_change : List (Nat × ClassFile.Instr × Nat) := [(0, .aload_n 0, 1), (1, .iload_n 1, 1), (2, .invokevirtual 114, 3), (5, .ifCond .ne 5, 3), (8, .iconst (-1), 1), (9, .ireturn, 1), (10, .iload_n 2, 1), (11, .iload_n 3, 1), (12, .invokestatic 83, 3), (15, .ifCond .ne 6, 3), (18, .bipush (-2), 2), (20, .ireturn, 1), (21, .aload_n 0, 1), (22, .getfield 37, 3), (25, .aload_n 0, 1), (26, .getfield 20, 3), (29, .invokevirtual 66, 3), (32, .aload_n 0, 1), (33, .getfield 20, 3), (36, .iload_n 1, 1), (37, .iload_n 2, 1), (38, .iload_n 3, 1), (39, .iload 4, 2), (41, .invokevirtual 117, 3), (44, .aload_n 0, 1), (45, .getfield 12, 3), (48, .invokevirtual 52, 3), (51, .aload_n 0, 1), (52, .getfield 20, 3), (55, .iload_n 1, 1), (56, .invokevirtual 121, 3), (59, .ireturn, 1)]
theorem D_X4_change : ∀ q ∈ T_X4_change, decode cX4_change q.1 = .ok q.2 := by decide +kernel
theorem V_X4_change : Vy yX4_change cX4_change 5 (some .int) 4 := ⟨k250, k56, by decide +kernel⟩
theorem i_X4_change : Cond.instanceMethod yX4_change ∈ TB := k381
theorem s_X4_change : Cond.selects yX4_change.cls yX4_change yX4_change ∈ TB := k382
noncomputable def f_X4_change (vT : JV) (vS : JV) (hA : Nat → Nat → Nat) (hV : Nat → JV) (hZ : JV) (x1 : Int32) (x2 : Int32) (x3 : Int32) (x4 : Int32) : Option (Int32 × JV × JV × (Nat → Nat → Nat) × (Nat → JV) × JV) :=
  (f_X4_isPupil vS x1).bind (fun q1 => (if q1 = 0 then some ((-1 : Int32), vT, vS, hA, hV, hZ) else (f_X4_isPupilData x2 x3).bind (fun q3 => (if q3 = 0 then some ((-2 : Int32), vT, vS, hA, hV, hZ) else (f_X0_remember vS hA hV hZ).bind (fun q5 => (f_X2_writePupil vS x1 x2 x3 x4).bind (fun q6 => (f_X3_seatAll vT q6).bind (fun q7 => (f_X2_clashesOf q6 x1).bind (fun q8 => some (q8, q7, q6, (q5.1), (q5.2.1), (q5.2.2))))))))))
set_option maxRecDepth 100000 in
set_option maxHeartbeats 4000000 in
theorem c_X4_change {l : Launch} {G : JG} (aX : Nat) (aT : Nat → Nat) (aS : Nat → Nat) (aT2 : Nat → Nat) (aS2 : Nat → Nat) (aP : Nat → Nat) (aH : Nat → Nat) (aB : Nat) (aU : Nat) (vT : JV) (vS : JV) (hA : Nat → Nat → Nat) (hV : Nat → JV) (hZ : JV) (x1 : Int32) (x2 : Int32) (x3 : Int32) (x4 : Int32) {Rz : Int32 × JV × JV × (Nat → Nat → Nat) × (Nat → JV) × JV} (h : f_X4_change vT vS hA hV hZ x1 x2 x3 x4 = some Rz) : JM l G yX4_change cX4_change 5 (some .int) 6 141 [.ref aX, .int x1, .int x2, .int x3, .int x4] (wEx aX (aT 0) (aT2 0) (aS 0) (aS2 0) (aP 0) (aH 0) aB aU ++ (wSeat G aT (aS 0) (vT 1) (vT 2) (vT 3) (vT 4 0) (vT 5 0) (vT 6) (vT 7) (vT 8) ++ (wSch G aS (vS 0) (vS 1) (vS 2) (vS 3) (vS 4) (vS 5) (vS 6) (vS 7) (vS 8 0) (vS 9 0) ++ (wHis G aH hA hV (hZ 1 0))))) (wEx aX (aT 0) (aT2 0) (aS 0) (aS2 0) (aP 0) (aH 0) aB aU ++ (wSeat G aT (aS 0) ((Rz.2.1) 1) ((Rz.2.1) 2) ((Rz.2.1) 3) ((Rz.2.1) 4 0) ((Rz.2.1) 5 0) ((Rz.2.1) 6) ((Rz.2.1) 7) ((Rz.2.1) 8) ++ (wSch G aS ((Rz.2.2.1) 0) ((Rz.2.2.1) 1) ((Rz.2.2.1) 2) ((Rz.2.2.1) 3) ((Rz.2.2.1) 4) ((Rz.2.2.1) 5) ((Rz.2.2.1) 6) ((Rz.2.2.1) 7) ((Rz.2.2.1) 8 0) ((Rz.2.2.1) 9 0) ++ (wHis G aH (Rz.2.2.2.1) (Rz.2.2.2.2.1) ((Rz.2.2.2.2.2) 1 0))))) (some (.int (Rz.1))) := by
  refine JM.of (own := RX4) (tb := T_X4_change) (by decide) (Nat.le_of_ble_eq_true rfl) D_X4_change rfl (fun X C => ?_)
  refine J_sub (lv' := [(0, .ref aX), (1, .int x1), (2, .int x2), (3, .int x3), (4, .int x4)]) [0, 1, 2, 3, 4] rfl ?_
  unfold f_X4_change at h
  refine J_aload_n (pc := 0) C 0 rfl 0 rfl rfl ?_
  refine J_iload_n (pc := 1) C 1 rfl 1 rfl rfl ?_
  obtain ⟨q1, hq1, h⟩ := bnd h
  refine J_callV (pc := 2) (st2 := []) (st3 := [.int q1]) (ws2 := (wEx aX (aT 0) (aT2 0) (aS 0) (aS2 0) (aP 0) (aH 0) aB aU ++ (wSeat G aT (aS 0) (vT 1) (vT 2) (vT 3) (vT 4 0) (vT 5 0) (vT 6) (vT 7) (vT 8) ++ (wSch G aS (vS 0) (vS 1) (vS 2) (vS 3) (vS 4) (vS 5) (vS 6) (vS 7) (vS 8 0) (vS 9 0) ++ (wHis G aH hA hV (hZ 1 0)))))) C 2 rfl (c_X4_isPupil aX aT aS aT2 aS2 aP aH aB aU vS x1 hq1) V_X4_isPupil k245 i_X4_isPupil s_X4_isPupil rfl rfl ⟨Nat.le_of_ble_eq_true rfl, Nat.le_of_ble_eq_true rfl⟩ (Nat.le_of_ble_eq_true rfl) ⟨Nat.le_refl _, Nat.le_refl _⟩ 0 4 rfl rfl rfl (isC := [0, 8, 9, 10, 11, 12, 13, 14, 15, 16]) (isR := [1, 2, 3, 4, 5, 6, 7, 17, 18, 19, 20, 21, 22, 23, 24, 25, 26, 27, 28, 29, 30, 31, 32, 33, 34, 35, 36, 37, 38, 39, 40, 41, 42, 43, 44, 45, 46, 47, 48, 49, 50, 51, 52, 53, 54, 55, 56, 57, 58, 59, 60, 61, 62, 63, 64, 65, 66, 67, 68, 69, 70, 71, 72]) (N := 73) ⟨rfl, by decide +kernel, rfl, by decide +kernel, rfl, ⟨⟨_, rfl, rfl⟩, ⟨⟨_, rfl, rfl⟩, ⟨⟨_, rfl, rfl⟩, ⟨⟨_, rfl, rfl⟩, ⟨⟨_, rfl, rfl⟩, ⟨⟨_, rfl, rfl⟩, ⟨⟨_, rfl, rfl⟩, ⟨⟨_, rfl, rfl⟩, ⟨⟨_, rfl, rfl⟩, ⟨⟨_, rfl, rfl⟩, ⟨⟨_, rfl, rfl⟩, ⟨⟨_, rfl, rfl⟩, ⟨⟨_, rfl, rfl⟩, ⟨⟨_, rfl, rfl⟩, ⟨⟨_, rfl, rfl⟩, ⟨⟨_, rfl, rfl⟩, ⟨⟨_, rfl, rfl⟩, ⟨⟨_, rfl, rfl⟩, ⟨⟨_, rfl, rfl⟩, ⟨⟨_, rfl, rfl⟩, ⟨⟨_, rfl, rfl⟩, ⟨⟨_, rfl, rfl⟩, ⟨⟨_, rfl, rfl⟩, ⟨⟨_, rfl, rfl⟩, ⟨⟨_, rfl, rfl⟩, ⟨⟨_, rfl, rfl⟩, ⟨⟨_, rfl, rfl⟩, ⟨⟨_, rfl, rfl⟩, ⟨⟨_, rfl, rfl⟩, ⟨⟨_, rfl, rfl⟩, ⟨⟨_, rfl, rfl⟩, ⟨⟨_, rfl, rfl⟩, ⟨⟨_, rfl, rfl⟩, ⟨⟨_, rfl, rfl⟩, ⟨⟨_, rfl, rfl⟩, ⟨⟨_, rfl, rfl⟩, ⟨⟨_, rfl, rfl⟩, ⟨⟨_, rfl, rfl⟩, ⟨⟨_, rfl, rfl⟩, ⟨⟨_, rfl, rfl⟩, ⟨⟨_, rfl, rfl⟩, ⟨⟨_, rfl, rfl⟩, ⟨⟨_, rfl, rfl⟩, ⟨⟨_, rfl, rfl⟩, ⟨⟨_, rfl, rfl⟩, ⟨⟨_, rfl, rfl⟩, ⟨⟨_, rfl, rfl⟩, ⟨⟨_, rfl, rfl⟩, ⟨⟨_, rfl, rfl⟩, ⟨⟨_, rfl, rfl⟩, ⟨⟨_, rfl, rfl⟩, ⟨⟨_, rfl, rfl⟩, ⟨⟨_, rfl, rfl⟩, ⟨⟨_, rfl, rfl⟩, ⟨⟨_, rfl, rfl⟩, ⟨⟨_, rfl, rfl⟩, ⟨⟨_, rfl, rfl⟩, ⟨⟨_, rfl, rfl⟩, ⟨⟨_, rfl, rfl⟩, ⟨⟨_, rfl, rfl⟩, ⟨⟨_, rfl, rfl⟩, ⟨⟨_, rfl, rfl⟩, ⟨⟨_, rfl, rfl⟩, trivial⟩⟩⟩⟩⟩⟩⟩⟩⟩⟩⟩⟩⟩⟩⟩⟩⟩⟩⟩⟩⟩⟩⟩⟩⟩⟩⟩⟩⟩⟩⟩⟩⟩⟩⟩⟩⟩⟩⟩⟩⟩⟩⟩⟩⟩⟩⟩⟩⟩⟩⟩⟩⟩⟩⟩⟩⟩⟩⟩⟩⟩⟩⟩⟩ rfl ?_
  refine J_if_ne (pc := 5) (tgt := 10) C 3 rfl rfl (fun c2 => ?_) (fun c2 => ?_)
  · rw [if_neg c2] at h
    refine J_iload_n (pc := 10) C 6 rfl 2 rfl rfl ?_
    refine J_iload_n (pc := 11) C 7 rfl 3 rfl rfl ?_
    obtain ⟨q3, hq3, h⟩ := bnd h
    refine J_callS (pc := 12) (st2 := []) (st3 := [.int q3]) (ws2 := (wEx aX (aT 0) (aT2 0) (aS 0) (aS2 0) (aP 0) (aH 0) aB aU ++ (wSeat G aT (aS 0) (vT 1) (vT 2) (vT 3) (vT 4 0) (vT 5 0) (vT 6) (vT 7) (vT 8) ++ (wSch G aS (vS 0) (vS 1) (vS 2) (vS 3) (vS 4) (vS 5) (vS 6) (vS 7) (vS 8 0) (vS 9 0) ++ (wHis G aH hA hV (hZ 1 0)))))) C 8 rfl (c_X4_isPupilData x2 x3 hq3) V_X4_isPupilData k238 t_X4_isPupilData rfl rfl ⟨Nat.le_of_ble_eq_true rfl, Nat.le_of_ble_eq_true rfl⟩ (Nat.le_of_ble_eq_true rfl) ⟨Nat.le_refl _, Nat.le_refl _⟩ (isC := []) (isR := [0, 1, 2, 3, 4, 5, 6, 7, 8, 9, 10, 11, 12, 13, 14, 15, 16, 17, 18, 19, 20, 21, 22, 23, 24, 25, 26, 27, 28, 29, 30, 31, 32, 33, 34, 35, 36, 37, 38, 39, 40, 41, 42, 43, 44, 45, 46, 47, 48, 49, 50, 51, 52, 53, 54, 55, 56, 57, 58, 59, 60, 61, 62, 63, 64, 65, 66, 67, 68, 69, 70, 71, 72]) (N := 73) ⟨rfl, by decide +kernel, rfl, by decide +kernel, rfl, ⟨⟨_, rfl, rfl⟩, ⟨⟨_, rfl, rfl⟩, ⟨⟨_, rfl, rfl⟩, ⟨⟨_, rfl, rfl⟩, ⟨⟨_, rfl, rfl⟩, ⟨⟨_, rfl, rfl⟩, ⟨⟨_, rfl, rfl⟩, ⟨⟨_, rfl, rfl⟩, ⟨⟨_, rfl, rfl⟩, ⟨⟨_, rfl, rfl⟩, ⟨⟨_, rfl, rfl⟩, ⟨⟨_, rfl, rfl⟩, ⟨⟨_, rfl, rfl⟩, ⟨⟨_, rfl, rfl⟩, ⟨⟨_, rfl, rfl⟩, ⟨⟨_, rfl, rfl⟩, ⟨⟨_, rfl, rfl⟩, ⟨⟨_, rfl, rfl⟩, ⟨⟨_, rfl, rfl⟩, ⟨⟨_, rfl, rfl⟩, ⟨⟨_, rfl, rfl⟩, ⟨⟨_, rfl, rfl⟩, ⟨⟨_, rfl, rfl⟩, ⟨⟨_, rfl, rfl⟩, ⟨⟨_, rfl, rfl⟩, ⟨⟨_, rfl, rfl⟩, ⟨⟨_, rfl, rfl⟩, ⟨⟨_, rfl, rfl⟩, ⟨⟨_, rfl, rfl⟩, ⟨⟨_, rfl, rfl⟩, ⟨⟨_, rfl, rfl⟩, ⟨⟨_, rfl, rfl⟩, ⟨⟨_, rfl, rfl⟩, ⟨⟨_, rfl, rfl⟩, ⟨⟨_, rfl, rfl⟩, ⟨⟨_, rfl, rfl⟩, ⟨⟨_, rfl, rfl⟩, ⟨⟨_, rfl, rfl⟩, ⟨⟨_, rfl, rfl⟩, ⟨⟨_, rfl, rfl⟩, ⟨⟨_, rfl, rfl⟩, ⟨⟨_, rfl, rfl⟩, ⟨⟨_, rfl, rfl⟩, ⟨⟨_, rfl, rfl⟩, ⟨⟨_, rfl, rfl⟩, ⟨⟨_, rfl, rfl⟩, ⟨⟨_, rfl, rfl⟩, ⟨⟨_, rfl, rfl⟩, ⟨⟨_, rfl, rfl⟩, ⟨⟨_, rfl, rfl⟩, ⟨⟨_, rfl, rfl⟩, ⟨⟨_, rfl, rfl⟩, ⟨⟨_, rfl, rfl⟩, ⟨⟨_, rfl, rfl⟩, ⟨⟨_, rfl, rfl⟩, ⟨⟨_, rfl, rfl⟩, ⟨⟨_, rfl, rfl⟩, ⟨⟨_, rfl, rfl⟩, ⟨⟨_, rfl, rfl⟩, ⟨⟨_, rfl, rfl⟩, ⟨⟨_, rfl, rfl⟩, ⟨⟨_, rfl, rfl⟩, ⟨⟨_, rfl, rfl⟩, ⟨⟨_, rfl, rfl⟩, ⟨⟨_, rfl, rfl⟩, ⟨⟨_, rfl, rfl⟩, ⟨⟨_, rfl, rfl⟩, ⟨⟨_, rfl, rfl⟩, ⟨⟨_, rfl, rfl⟩, ⟨⟨_, rfl, rfl⟩, ⟨⟨_, rfl, rfl⟩, ⟨⟨_, rfl, rfl⟩, ⟨⟨_, rfl, rfl⟩, trivial⟩⟩⟩⟩⟩⟩⟩⟩⟩⟩⟩⟩⟩⟩⟩⟩⟩⟩⟩⟩⟩⟩⟩⟩⟩⟩⟩⟩⟩⟩⟩⟩⟩⟩⟩⟩⟩⟩⟩⟩⟩⟩⟩⟩⟩⟩⟩⟩⟩⟩⟩⟩⟩⟩⟩⟩⟩⟩⟩⟩⟩⟩⟩⟩⟩⟩⟩⟩⟩⟩⟩⟩⟩⟩ rfl ?_
    refine J_if_ne (pc := 15) (tgt := 21) C 9 rfl rfl (fun c4 => ?_) (fun c4 => ?_)
    · rw [if_neg c4] at h
      refine J_aload_n (pc := 21) C 12 rfl 0 rfl rfl ?_
      refine J_get (pc := 22) (v := .ref (aH 0)) C 13 rfl TB_l4 rfl 0 5 rfl (by decide) k206 rfl rfl ?_
      refine J_aload_n (pc := 25) C 14 rfl 0 rfl rfl ?_
      refine J_get (pc := 26) (v := .ref (aS 0)) C 15 rfl TB_l4 rfl 0 1 rfl (by decide) k197 rfl rfl ?_
      obtain ⟨q5, hq5, h⟩ := bnd h
      refine J_callV (pc := 29) (st2 := []) (st3 := []) (ws2 := (wEx aX (aT 0) (aT2 0) (aS 0) (aS2 0) (aP 0) (aH 0) aB aU ++ (wSeat G aT (aS 0) (vT 1) (vT 2) (vT 3) (vT 4 0) (vT 5 0) (vT 6) (vT 7) (vT 8) ++ (wSch G aS (vS 0) (vS 1) (vS 2) (vS 3) (vS 4) (vS 5) (vS 6) (vS 7) (vS 8 0) (vS 9 0) ++ (wHis G aH (q5.1) (q5.2.1) ((q5.2.2) 1 0)))))) C 16 rfl (c_X0_remember aS aH vS hA hV hZ hq5) V_X0_remember k223 i_X0_remember s_X0_remember rfl rfl ⟨Nat.le_of_ble_eq_true rfl, Nat.le_of_ble_eq_true rfl⟩ (Nat.le_of_ble_eq_true rfl) ⟨Nat.le_refl _, Nat.le_refl _⟩ 17 0 rfl rfl rfl (isC := [8, 9, 10, 11, 12, 13, 14, 15, 16, 17, 18, 19, 20, 21, 22, 23, 24, 25, 26, 27, 28, 29, 30, 31, 32, 33, 34, 35, 36, 37, 38, 39, 40, 41, 42, 43, 44, 45, 46, 47, 48, 49, 50, 51, 52, 53, 54, 55, 56, 57, 58, 59, 60, 61, 62, 63, 64, 65, 66, 67, 68, 69, 70, 71, 72]) (isR := [0, 1, 2, 3, 4, 5, 6, 7]) (N := 73) ⟨rfl, by decide +kernel, rfl, by decide +kernel, rfl, ⟨⟨_, rfl, rfl⟩, ⟨⟨_, rfl, rfl⟩, ⟨⟨_, rfl, rfl⟩, ⟨⟨_, rfl, rfl⟩, ⟨⟨_, rfl, rfl⟩, ⟨⟨_, rfl, rfl⟩, ⟨⟨_, rfl, rfl⟩, ⟨⟨_, rfl, rfl⟩, trivial⟩⟩⟩⟩⟩⟩⟩⟩⟩ rfl ?_
      refine J_aload_n (pc := 32) C 17 rfl 0 rfl rfl ?_
      refine J_get (pc := 33) (v := .ref (aS 0)) C 18 rfl TB_l4 rfl 0 1 rfl (by decide) k197 rfl rfl ?_
      refine J_iload_n (pc := 36) C 19 rfl 1 rfl rfl ?_
      refine J_iload_n (pc := 37) C 20 rfl 2 rfl rfl ?_
      refine J_iload_n (pc := 38) C 21 rfl 3 rfl rfl ?_
      refine J_iload (pc := 39) C 22 rfl 4 rfl ?_
      obtain ⟨q6, hq6, h⟩ := bnd h
      refine J_callV (pc := 41) (st2 := []) (st3 := []) (ws2 := (wEx aX (aT 0) (aT2 0) (aS 0) (aS2 0) (aP 0) (aH 0) aB aU ++ (wSeat G aT (aS 0) (vT 1) (vT 2) (vT 3) (vT 4 0) (vT 5 0) (vT 6) (vT 7) (vT 8) ++ (wSch G aS (q6 0) (q6 1) (q6 2) (q6 3) (q6 4) (q6 5) (q6 6) (q6 7) (q6 8 0) (q6 9 0) ++ (wHis G aH (q5.1) (q5.2.1) ((q5.2.2) 1 0)))))) C 23 rfl (c_X2_writePupil aS vS x1 x2 x3 x4 hq6) V_X2_writePupil k248 i_X2_writePupil s_X2_writePupil rfl rfl ⟨Nat.le_of_ble_eq_true rfl, Nat.le_of_ble_eq_true rfl⟩ (Nat.le_of_ble_eq_true rfl) ⟨Nat.le_refl _, Nat.le_refl _⟩ 8 2 rfl rfl rfl (isC := [8, 9, 10, 11, 12, 13, 14, 15, 16]) (isR := [0, 1, 2, 3, 4, 5, 6, 7, 17, 18, 19, 20, 21, 22, 23, 24, 25, 26, 27, 28, 29, 30, 31, 32, 33, 34, 35, 36, 37, 38, 39, 40, 41, 42, 43, 44, 45, 46, 47, 48, 49, 50, 51, 52, 53, 54, 55, 56, 57, 58, 59, 60, 61, 62, 63, 64, 65, 66, 67, 68, 69, 70, 71, 72]) (N := 73) ⟨rfl, by decide +kernel, rfl, by decide +kernel, rfl, ⟨⟨_, rfl, rfl⟩, ⟨⟨_, rfl, rfl⟩, ⟨⟨_, rfl, rfl⟩, ⟨⟨_, rfl, rfl⟩, ⟨⟨_, rfl, rfl⟩, ⟨⟨_, rfl, rfl⟩, ⟨⟨_, rfl, rfl⟩, ⟨⟨_, rfl, rfl⟩, ⟨⟨_, rfl, rfl⟩, ⟨⟨_, rfl, rfl⟩, ⟨⟨_, rfl, rfl⟩, ⟨⟨_, rfl, rfl⟩, ⟨⟨_, rfl, rfl⟩, ⟨⟨_, rfl, rfl⟩, ⟨⟨_, rfl, rfl⟩, ⟨⟨_, rfl, rfl⟩, ⟨⟨_, rfl, rfl⟩, ⟨⟨_, rfl, rfl⟩, ⟨⟨_, rfl, rfl⟩, ⟨⟨_, rfl, rfl⟩, ⟨⟨_, rfl, rfl⟩, ⟨⟨_, rfl, rfl⟩, ⟨⟨_, rfl, rfl⟩, ⟨⟨_, rfl, rfl⟩, ⟨⟨_, rfl, rfl⟩, ⟨⟨_, rfl, rfl⟩, ⟨⟨_, rfl, rfl⟩, ⟨⟨_, rfl, rfl⟩, ⟨⟨_, rfl, rfl⟩, ⟨⟨_, rfl, rfl⟩, ⟨⟨_, rfl, rfl⟩, ⟨⟨_, rfl, rfl⟩, ⟨⟨_, rfl, rfl⟩, ⟨⟨_, rfl, rfl⟩, ⟨⟨_, rfl, rfl⟩, ⟨⟨_, rfl, rfl⟩, ⟨⟨_, rfl, rfl⟩, ⟨⟨_, rfl, rfl⟩, ⟨⟨_, rfl, rfl⟩, ⟨⟨_, rfl, rfl⟩, ⟨⟨_, rfl, rfl⟩, ⟨⟨_, rfl, rfl⟩, ⟨⟨_, rfl, rfl⟩, ⟨⟨_, rfl, rfl⟩, ⟨⟨_, rfl, rfl⟩, ⟨⟨_, rfl, rfl⟩, ⟨⟨_, rfl, rfl⟩, ⟨⟨_, rfl, rfl⟩, ⟨⟨_, rfl, rfl⟩, ⟨⟨_, rfl, rfl⟩, ⟨⟨_, rfl, rfl⟩, ⟨⟨_, rfl, rfl⟩, ⟨⟨_, rfl, rfl⟩, ⟨⟨_, rfl, rfl⟩, ⟨⟨_, rfl, rfl⟩, ⟨⟨_, rfl, rfl⟩, ⟨⟨_, rfl, rfl⟩, ⟨⟨_, rfl, rfl⟩, ⟨⟨_, rfl, rfl⟩, ⟨⟨_, rfl, rfl⟩, ⟨⟨_, rfl, rfl⟩, ⟨⟨_, rfl, rfl⟩, ⟨⟨_, rfl, rfl⟩, ⟨⟨_, rfl, rfl⟩, trivial⟩⟩⟩⟩⟩⟩⟩⟩⟩⟩⟩⟩⟩⟩⟩⟩⟩⟩⟩⟩⟩⟩⟩⟩⟩⟩⟩⟩⟩⟩⟩⟩⟩⟩⟩⟩⟩⟩⟩⟩⟩⟩⟩⟩⟩⟩⟩⟩⟩⟩⟩⟩⟩⟩⟩⟩⟩⟩⟩⟩⟩⟩⟩⟩⟩ rfl ?_
      refine J_aload_n (pc := 44) C 24 rfl 0 rfl rfl ?_
      refine J_get (pc := 45) (v := .ref (aT 0)) C 25 rfl TB_l4 rfl 0 0 rfl (by decide) k195 rfl rfl ?_
      obtain ⟨q7, hq7, h⟩ := bnd h
      refine J_callV (pc := 48) (st2 := []) (st3 := []) (ws2 := (wEx aX (aT 0) (aT2 0) (aS 0) (aS2 0) (aP 0) (aH 0) aB aU ++ (wSeat G aT (aS 0) (q7 1) (q7 2) (q7 3) (q7 4 0) (q7 5 0) (q7 6) (q7 7) (q7 8) ++ (wSch G aS (q6 0) (q6 1) (q6 2) (q6 3) (q6 4) (q6 5) (q6 6) (q6 7) (q6 8 0) (q6 9 0) ++ (wHis G aH (q5.1) (q5.2.1) ((q5.2.2) 1 0)))))) C 26 rfl (c_X3_seatAll aT aS vT q6 hq7) V_X3_seatAll k214 i_X3_seatAll s_X3_seatAll rfl rfl ⟨Nat.le_of_ble_eq_true rfl, Nat.le_of_ble_eq_true rfl⟩ (Nat.le_of_ble_eq_true rfl) ⟨Nat.le_refl _, Nat.le_refl _⟩ 1 3 rfl rfl rfl (isC := [1, 2, 3, 4, 5, 6, 7, 8, 9, 10, 11, 12, 13, 14, 15, 16]) (isR := [0, 17, 18, 19, 20, 21, 22, 23, 24, 25, 26, 27, 28, 29, 30, 31, 32, 33, 34, 35, 36, 37, 38, 39, 40, 41, 42, 43, 44, 45, 46, 47, 48, 49, 50, 51, 52, 53, 54, 55, 56, 57, 58, 59, 60, 61, 62, 63, 64, 65, 66, 67, 68, 69, 70, 71, 72]) (N := 73) ⟨rfl, by decide +kernel, rfl, by decide +kernel, rfl, ⟨⟨_, rfl, rfl⟩, ⟨⟨_, rfl, rfl⟩, ⟨⟨_, rfl, rfl⟩, ⟨⟨_, rfl, rfl⟩, ⟨⟨_, rfl, rfl⟩, ⟨⟨_, rfl, rfl⟩, ⟨⟨_, rfl, rfl⟩, ⟨⟨_, rfl, rfl⟩, ⟨⟨_, rfl, rfl⟩, ⟨⟨_, rfl, rfl⟩, ⟨⟨_, rfl, rfl⟩, ⟨⟨_, rfl, rfl⟩, ⟨⟨_, rfl, rfl⟩, ⟨⟨_, rfl, rfl⟩, ⟨⟨_, rfl, rfl⟩, ⟨⟨_, rfl, rfl⟩, ⟨⟨_, rfl, rfl⟩, ⟨⟨_, rfl, rfl⟩, ⟨⟨_, rfl, rfl⟩, ⟨⟨_, rfl, rfl⟩, ⟨⟨_, rfl, rfl⟩, ⟨⟨_, rfl, rfl⟩, ⟨⟨_, rfl, rfl⟩, ⟨⟨_, rfl, rfl⟩, ⟨⟨_, rfl, rfl⟩, ⟨⟨_, rfl, rfl⟩, ⟨⟨_, rfl, rfl⟩, ⟨⟨_, rfl, rfl⟩, ⟨⟨_, rfl, rfl⟩, ⟨⟨_, rfl, rfl⟩, ⟨⟨_, rfl, rfl⟩, ⟨⟨_, rfl, rfl⟩, ⟨⟨_, rfl, rfl⟩, ⟨⟨_, rfl, rfl⟩, ⟨⟨_, rfl, rfl⟩, ⟨⟨_, rfl, rfl⟩, ⟨⟨_, rfl, rfl⟩, ⟨⟨_, rfl, rfl⟩, ⟨⟨_, rfl, rfl⟩, ⟨⟨_, rfl, rfl⟩, ⟨⟨_, rfl, rfl⟩, ⟨⟨_, rfl, rfl⟩, ⟨⟨_, rfl, rfl⟩, ⟨⟨_, rfl, rfl⟩, ⟨⟨_, rfl, rfl⟩, ⟨⟨_, rfl, rfl⟩, ⟨⟨_, rfl, rfl⟩, ⟨⟨_, rfl, rfl⟩, ⟨⟨_, rfl, rfl⟩, ⟨⟨_, rfl, rfl⟩, ⟨⟨_, rfl, rfl⟩, ⟨⟨_, rfl, rfl⟩, ⟨⟨_, rfl, rfl⟩, ⟨⟨_, rfl, rfl⟩, ⟨⟨_, rfl, rfl⟩, ⟨⟨_, rfl, rfl⟩, ⟨⟨_, rfl, rfl⟩, trivial⟩⟩⟩⟩⟩⟩⟩⟩⟩⟩⟩⟩⟩⟩⟩⟩⟩⟩⟩⟩⟩⟩⟩⟩⟩⟩⟩⟩⟩⟩⟩⟩⟩⟩⟩⟩⟩⟩⟩⟩⟩⟩⟩⟩⟩⟩⟩⟩⟩⟩⟩⟩⟩⟩⟩⟩⟩⟩ rfl ?_
      refine J_aload_n (pc := 51) C 27 rfl 0 rfl rfl ?_
      refine J_get (pc := 52) (v := .ref (aS 0)) C 28 rfl TB_l4 rfl 0 1 rfl (by decide) k197 rfl rfl ?_
      refine J_iload_n (pc := 55) C 29 rfl 1 rfl rfl ?_
      obtain ⟨q8, hq8, h⟩ := bnd h
      refine J_callV (pc := 56) (st2 := []) (st3 := [.int q8]) (ws2 := (wEx aX (aT 0) (aT2 0) (aS 0) (aS2 0) (aP 0) (aH 0) aB aU ++ (wSeat G aT (aS 0) (q7 1) (q7 2) (q7 3) (q7 4 0) (q7 5 0) (q7 6) (q7 7) (q7 8) ++ (wSch G aS (q6 0) (q6 1) (q6 2) (q6 3) (q6 4) (q6 5) (q6 6) (q6 7) (q6 8 0) (q6 9 0) ++ (wHis G aH (q5.1) (q5.2.1) ((q5.2.2) 1 0)))))) C 30 rfl (c_X2_clashesOf aS q6 x1 hq8) V_X2_clashesOf k249 i_X2_clashesOf s_X2_clashesOf rfl rfl ⟨Nat.le_of_ble_eq_true rfl, Nat.le_of_ble_eq_true rfl⟩ (Nat.le_of_ble_eq_true rfl) ⟨Nat.le_refl _, Nat.le_refl _⟩ 8 2 rfl rfl rfl (isC := [8, 9, 10, 11, 12, 13, 14, 15, 16]) (isR := [0, 1, 2, 3, 4, 5, 6, 7, 17, 18, 19, 20, 21, 22, 23, 24, 25, 26, 27, 28, 29, 30, 31, 32, 33, 34, 35, 36, 37, 38, 39, 40, 41, 42, 43, 44, 45, 46, 47, 48, 49, 50, 51, 52, 53, 54, 55, 56, 57, 58, 59, 60, 61, 62, 63, 64, 65, 66, 67, 68, 69, 70, 71, 72]) (N := 73) ⟨rfl, by decide +kernel, rfl, by decide +kernel, rfl, ⟨⟨_, rfl, rfl⟩, ⟨⟨_, rfl, rfl⟩, ⟨⟨_, rfl, rfl⟩, ⟨⟨_, rfl, rfl⟩, ⟨⟨_, rfl, rfl⟩, ⟨⟨_, rfl, rfl⟩, ⟨⟨_, rfl, rfl⟩, ⟨⟨_, rfl, rfl⟩, ⟨⟨_, rfl, rfl⟩, ⟨⟨_, rfl, rfl⟩, ⟨⟨_, rfl, rfl⟩, ⟨⟨_, rfl, rfl⟩, ⟨⟨_, rfl, rfl⟩, ⟨⟨_, rfl, rfl⟩, ⟨⟨_, rfl, rfl⟩, ⟨⟨_, rfl, rfl⟩, ⟨⟨_, rfl, rfl⟩, ⟨⟨_, rfl, rfl⟩, ⟨⟨_, rfl, rfl⟩, ⟨⟨_, rfl, rfl⟩, ⟨⟨_, rfl, rfl⟩, ⟨⟨_, rfl, rfl⟩, ⟨⟨_, rfl, rfl⟩, ⟨⟨_, rfl, rfl⟩, ⟨⟨_, rfl, rfl⟩, ⟨⟨_, rfl, rfl⟩, ⟨⟨_, rfl, rfl⟩, ⟨⟨_, rfl, rfl⟩, ⟨⟨_, rfl, rfl⟩, ⟨⟨_, rfl, rfl⟩, ⟨⟨_, rfl, rfl⟩, ⟨⟨_, rfl, rfl⟩, ⟨⟨_, rfl, rfl⟩, ⟨⟨_, rfl, rfl⟩, ⟨⟨_, rfl, rfl⟩, ⟨⟨_, rfl, rfl⟩, ⟨⟨_, rfl, rfl⟩, ⟨⟨_, rfl, rfl⟩, ⟨⟨_, rfl, rfl⟩, ⟨⟨_, rfl, rfl⟩, ⟨⟨_, rfl, rfl⟩, ⟨⟨_, rfl, rfl⟩, ⟨⟨_, rfl, rfl⟩, ⟨⟨_, rfl, rfl⟩, ⟨⟨_, rfl, rfl⟩, ⟨⟨_, rfl, rfl⟩, ⟨⟨_, rfl, rfl⟩, ⟨⟨_, rfl, rfl⟩, ⟨⟨_, rfl, rfl⟩, ⟨⟨_, rfl, rfl⟩, ⟨⟨_, rfl, rfl⟩, ⟨⟨_, rfl, rfl⟩, ⟨⟨_, rfl, rfl⟩, ⟨⟨_, rfl, rfl⟩, ⟨⟨_, rfl, rfl⟩, ⟨⟨_, rfl, rfl⟩, ⟨⟨_, rfl, rfl⟩, ⟨⟨_, rfl, rfl⟩, ⟨⟨_, rfl, rfl⟩, ⟨⟨_, rfl, rfl⟩, ⟨⟨_, rfl, rfl⟩, ⟨⟨_, rfl, rfl⟩, ⟨⟨_, rfl, rfl⟩, ⟨⟨_, rfl, rfl⟩, trivial⟩⟩⟩⟩⟩⟩⟩⟩⟩⟩⟩⟩⟩⟩⟩⟩⟩⟩⟩⟩⟩⟩⟩⟩⟩⟩⟩⟩⟩⟩⟩⟩⟩⟩⟩⟩⟩⟩⟩⟩⟩⟩⟩⟩⟩⟩⟩⟩⟩⟩⟩⟩⟩⟩⟩⟩⟩⟩⟩⟩⟩⟩⟩⟩⟩ rfl ?_
      cases h
      exact J_iret (pc := 59) C 31 rfl
    · rw [if_pos c4] at h
      refine J_bipush (pc := 18) (v := (-2 : Int32)) C 10 rfl rfl ?_
      cases h
      exact J_iret (pc := 20) C 11 rfl
  · rw [if_pos c2] at h
    refine J_iconst (pc := 8) (v := (-1 : Int32)) C 4 rfl rfl ?_
    cases h
    exact J_iret (pc := 9) C 5 rfl
def T_X4_leave : List (Nat × ClassFile.Instr × Nat) := [(0, .aload_n 0, 1), (1, .iload_n 1, 1), (2, .invokevirtual 114, 3), (5, .ifCond .ne 5, 3), (8, .iconst (-1), 1), (9, .ireturn, 1), (10, .aload_n 0, 1), (11, .getfield 20, 3), (14, .getfield 125, 3), (17, .iload_n 1, 1), (18, .iaload, 1), (19, .istore_n 2, 1), (20, .aload_n 0, 1), (21, .getfield 37, 3), (24, .aload_n 0, 1), (25, .getfield 20, 3), (28, .invokevirtual 66, 3), (31, .aload_n 0, 1), (32, .getfield 20, 3), (35, .iload_n 1, 1), (36, .invokevirtual 128, 3), (39, .aload_n 0, 1), (40, .getfield 12, 3), (43, .invokevirtual 52, 3), (46, .iload_n 2, 1), (47, .ireturn, 1)]
theorem D_X4_leave : ∀ q ∈ T_X4_leave, decode cX4_leave q.1 = .ok q.2 := by decide +kernel
theorem V_X4_leave : Vy yX4_leave cX4_leave 3 (some .int) 1 := ⟨k255, k56, by decide +kernel⟩
theorem i_X4_leave : Cond.instanceMethod yX4_leave ∈ TB := k384
theorem s_X4_leave : Cond.selects yX4_leave.cls yX4_leave yX4_leave ∈ TB := k385
noncomputable def f_X4_leave (vT : JV) (vS : JV) (hA : Nat → Nat → Nat) (hV : Nat → JV) (hZ : JV) (x1 : Int32) : Option (Int32 × JV × JV × (Nat → Nat → Nat) × (Nat → JV) × JV) :=
  (f_X4_isPupil vS x1).bind (fun q1 => (if q1 = 0 then some ((-1 : Int32), vT, vS, hA, hV, hZ) else gd (inb x1 16) ((f_X0_remember vS hA hV hZ).bind (fun q4 => (f_X2_removePupil vS x1).bind (fun q5 => (f_X3_seatAll vT q5).bind (fun q6 => some (((vS 3) (Int32.toNatClampNeg x1)), q6, q5, (q4.1), (q4.2.1), (q4.2.2))))))))
set_option maxRecDepth 100000 in
set_option maxHeartbeats 4000000 in
theorem c_X4_leave {l : Launch} {G : JG} (aX : Nat) (aT : Nat → Nat) (aS : Nat → Nat) (aT2 : Nat → Nat) (aS2 : Nat → Nat) (aP : Nat → Nat) (aH : Nat → Nat) (aB : Nat) (aU : Nat) (vT : JV) (vS : JV) (hA : Nat → Nat → Nat) (hV : Nat → JV) (hZ : JV) (x1 : Int32) {Rz : Int32 × JV × JV × (Nat → Nat → Nat) × (Nat → JV) × JV} (h : f_X4_leave vT vS hA hV hZ x1 = some Rz) : JM l G yX4_leave cX4_leave 3 (some .int) 6 141 [.ref aX, .int x1] (wEx aX (aT 0) (aT2 0) (aS 0) (aS2 0) (aP 0) (aH 0) aB aU ++ (wSeat G aT (aS 0) (vT 1) (vT 2) (vT 3) (vT 4 0) (vT 5 0) (vT 6) (vT 7) (vT 8) ++ (wSch G aS (vS 0) (vS 1) (vS 2) (vS 3) (vS 4) (vS 5) (vS 6) (vS 7) (vS 8 0) (vS 9 0) ++ (wHis G aH hA hV (hZ 1 0))))) (wEx aX (aT 0) (aT2 0) (aS 0) (aS2 0) (aP 0) (aH 0) aB aU ++ (wSeat G aT (aS 0) ((Rz.2.1) 1) ((Rz.2.1) 2) ((Rz.2.1) 3) ((Rz.2.1) 4 0) ((Rz.2.1) 5 0) ((Rz.2.1) 6) ((Rz.2.1) 7) ((Rz.2.1) 8) ++ (wSch G aS ((Rz.2.2.1) 0) ((Rz.2.2.1) 1) ((Rz.2.2.1) 2) ((Rz.2.2.1) 3) ((Rz.2.2.1) 4) ((Rz.2.2.1) 5) ((Rz.2.2.1) 6) ((Rz.2.2.1) 7) ((Rz.2.2.1) 8 0) ((Rz.2.2.1) 9 0) ++ (wHis G aH (Rz.2.2.2.1) (Rz.2.2.2.2.1) ((Rz.2.2.2.2.2) 1 0))))) (some (.int (Rz.1))) := by
  refine JM.of (own := RX4) (tb := T_X4_leave) (by decide) (Nat.le_of_ble_eq_true rfl) D_X4_leave rfl (fun X C => ?_)
  refine J_sub (lv' := [(0, .ref aX), (1, .int x1)]) [0, 1] rfl ?_
  unfold f_X4_leave at h
  refine J_aload_n (pc := 0) C 0 rfl 0 rfl rfl ?_
  refine J_iload_n (pc := 1) C 1 rfl 1 rfl rfl ?_
  obtain ⟨q1, hq1, h⟩ := bnd h
  refine J_callV (pc := 2) (st2 := []) (st3 := [.int q1]) (ws2 := (wEx aX (aT 0) (aT2 0) (aS 0) (aS2 0) (aP 0) (aH 0) aB aU ++ (wSeat G aT (aS 0) (vT 1) (vT 2) (vT 3) (vT 4 0) (vT 5 0) (vT 6) (vT 7) (vT 8) ++ (wSch G aS (vS 0) (vS 1) (vS 2) (vS 3) (vS 4) (vS 5) (vS 6) (vS 7) (vS 8 0) (vS 9 0) ++ (wHis G aH hA hV (hZ 1 0)))))) C 2 rfl (c_X4_isPupil aX aT aS aT2 aS2 aP aH aB aU vS x1 hq1) V_X4_isPupil k245 i_X4_isPupil s_X4_isPupil rfl rfl ⟨Nat.le_of_ble_eq_true rfl, Nat.le_of_ble_eq_true rfl⟩ (Nat.le_of_ble_eq_true rfl) ⟨Nat.le_refl _, Nat.le_refl _⟩ 0 4 rfl rfl rfl (isC := [0, 8, 9, 10, 11, 12, 13, 14, 15, 16]) (isR := [1, 2, 3, 4, 5, 6, 7, 17, 18, 19, 20, 21, 22, 23, 24, 25, 26, 27, 28, 29, 30, 31, 32, 33, 34, 35, 36, 37, 38, 39, 40, 41, 42, 43, 44, 45, 46, 47, 48, 49, 50, 51, 52, 53, 54, 55, 56, 57, 58, 59, 60, 61, 62, 63, 64, 65, 66, 67, 68, 69, 70, 71, 72]) (N := 73) ⟨rfl, by decide +kernel, rfl, by decide +kernel, rfl, ⟨⟨_, rfl, rfl⟩, ⟨⟨_, rfl, rfl⟩, ⟨⟨_, rfl, rfl⟩, ⟨⟨_, rfl, rfl⟩, ⟨⟨_, rfl, rfl⟩, ⟨⟨_, rfl, rfl⟩, ⟨⟨_, rfl, rfl⟩, ⟨⟨_, rfl, rfl⟩, ⟨⟨_, rfl, rfl⟩, ⟨⟨_, rfl, rfl⟩, ⟨⟨_, rfl, rfl⟩, ⟨⟨_, rfl, rfl⟩, ⟨⟨_, rfl, rfl⟩, ⟨⟨_, rfl, rfl⟩, ⟨⟨_, rfl, rfl⟩, ⟨⟨_, rfl, rfl⟩, ⟨⟨_, rfl, rfl⟩, ⟨⟨_, rfl, rfl⟩, ⟨⟨_, rfl, rfl⟩, ⟨⟨_, rfl, rfl⟩, ⟨⟨_, rfl, rfl⟩, ⟨⟨_, rfl, rfl⟩, ⟨⟨_, rfl, rfl⟩, ⟨⟨_, rfl, rfl⟩, ⟨⟨_, rfl, rfl⟩, ⟨⟨_, rfl, rfl⟩, ⟨⟨_, rfl, rfl⟩, ⟨⟨_, rfl, rfl⟩, ⟨⟨_, rfl, rfl⟩, ⟨⟨_, rfl, rfl⟩, ⟨⟨_, rfl, rfl⟩, ⟨⟨_, rfl, rfl⟩, ⟨⟨_, rfl, rfl⟩, ⟨⟨_, rfl, rfl⟩, ⟨⟨_, rfl, rfl⟩, ⟨⟨_, rfl, rfl⟩, ⟨⟨_, rfl, rfl⟩, ⟨⟨_, rfl, rfl⟩, ⟨⟨_, rfl, rfl⟩, ⟨⟨_, rfl, rfl⟩, ⟨⟨_, rfl, rfl⟩, ⟨⟨_, rfl, rfl⟩, ⟨⟨_, rfl, rfl⟩, ⟨⟨_, rfl, rfl⟩, ⟨⟨_, rfl, rfl⟩, ⟨⟨_, rfl, rfl⟩, ⟨⟨_, rfl, rfl⟩, ⟨⟨_, rfl, rfl⟩, ⟨⟨_, rfl, rfl⟩, ⟨⟨_, rfl, rfl⟩, ⟨⟨_, rfl, rfl⟩, ⟨⟨_, rfl, rfl⟩, ⟨⟨_, rfl, rfl⟩, ⟨⟨_, rfl, rfl⟩, ⟨⟨_, rfl, rfl⟩, ⟨⟨_, rfl, rfl⟩, ⟨⟨_, rfl, rfl⟩, ⟨⟨_, rfl, rfl⟩, ⟨⟨_, rfl, rfl⟩, ⟨⟨_, rfl, rfl⟩, ⟨⟨_, rfl, rfl⟩, ⟨⟨_, rfl, rfl⟩, ⟨⟨_, rfl, rfl⟩, trivial⟩⟩⟩⟩⟩⟩⟩⟩⟩⟩⟩⟩⟩⟩⟩⟩⟩⟩⟩⟩⟩⟩⟩⟩⟩⟩⟩⟩⟩⟩⟩⟩⟩⟩⟩⟩⟩⟩⟩⟩⟩⟩⟩⟩⟩⟩⟩⟩⟩⟩⟩⟩⟩⟩⟩⟩⟩⟩⟩⟩⟩⟩⟩⟩ rfl ?_
  refine J_if_ne (pc := 5) (tgt := 10) C 3 rfl rfl (fun c2 => ?_) (fun c2 => ?_)
  · rw [if_neg c2] at h
    refine J_aload_n (pc := 10) C 6 rfl 0 rfl rfl ?_
    refine J_get (pc := 11) (v := .ref (aS 0)) C 7 rfl TB_l4 rfl 0 1 rfl (by decide) k197 rfl rfl ?_
    refine J_get (pc := 14) (v := .ref (aS 4)) C 8 rfl TB_l2 rfl 8 3 rfl (by decide) k251 rfl rfl ?_
    refine J_iload_n (pc := 17) C 9 rfl 1 rfl rfl ?_
    obtain ⟨g3, h⟩ := gd_some h
    refine J_iald (pc := 18) (f := (vS 3)) (v := ((vS 3) (Int32.toNatClampNeg x1))) C 10 rfl 12 rfl g3 rfl ?_
    refine J_istore_n (pc := 19) (lv' := [(2, .int ((vS 3) (Int32.toNatClampNeg x1))), (0, .ref aX), (1, .int x1)]) C 11 rfl rfl (by decide) rfl ?_
    refine J_aload_n (pc := 20) C 12 rfl 1 rfl rfl ?_
    refine J_get (pc := 21) (v := .ref (aH 0)) C 13 rfl TB_l4 rfl 0 5 rfl (by decide) k206 rfl rfl ?_
    refine J_aload_n (pc := 24) C 14 rfl 1 rfl rfl ?_
    refine J_get (pc := 25) (v := .ref (aS 0)) C 15 rfl TB_l4 rfl 0 1 rfl (by decide) k197 rfl rfl ?_
    obtain ⟨q4, hq4, h⟩ := bnd h
    refine J_callV (pc := 28) (st2 := []) (st3 := []) (ws2 := (wEx aX (aT 0) (aT2 0) (aS 0) (aS2 0) (aP 0) (aH 0) aB aU ++ (wSeat G aT (aS 0) (vT 1) (vT 2) (vT 3) (vT 4 0) (vT 5 0) (vT 6) (vT 7) (vT 8) ++ (wSch G aS (vS 0) (vS 1) (vS 2) (vS 3) (vS 4) (vS 5) (vS 6) (vS 7) (vS 8 0) (vS 9 0) ++ (wHis G aH (q4.1) (q4.2.1) ((q4.2.2) 1 0)))))) C 16 rfl (c_X0_remember aS aH vS hA hV hZ hq4) V_X0_remember k223 i_X0_remember s_X0_remember rfl rfl ⟨Nat.le_of_ble_eq_true rfl, Nat.le_of_ble_eq_true rfl⟩ (Nat.le_of_ble_eq_true rfl) ⟨Nat.le_refl _, Nat.le_refl _⟩ 17 0 rfl rfl rfl (isC := [8, 9, 10, 11, 12, 13, 14, 15, 16, 17, 18, 19, 20, 21, 22, 23, 24, 25, 26, 27, 28, 29, 30, 31, 32, 33, 34, 35, 36, 37, 38, 39, 40, 41, 42, 43, 44, 45, 46, 47, 48, 49, 50, 51, 52, 53, 54, 55, 56, 57, 58, 59, 60, 61, 62, 63, 64, 65, 66, 67, 68, 69, 70, 71, 72]) (isR := [0, 1, 2, 3, 4, 5, 6, 7]) (N := 73) ⟨rfl, by decide +kernel, rfl, by decide +kernel, rfl, ⟨⟨_, rfl, rfl⟩, ⟨⟨_, rfl, rfl⟩, ⟨⟨_, rfl, rfl⟩, ⟨⟨_, rfl, rfl⟩, ⟨⟨_, rfl, rfl⟩, ⟨⟨_, rfl, rfl⟩, ⟨⟨_, rfl, rfl⟩, ⟨⟨_, rfl, rfl⟩, trivial⟩⟩⟩⟩⟩⟩⟩⟩⟩ rfl ?_
    refine J_aload_n (pc := 31) C 17 rfl 1 rfl rfl ?_
    refine J_get (pc := 32) (v := .ref (aS 0)) C 18 rfl TB_l4 rfl 0 1 rfl (by decide) k197 rfl rfl ?_
    refine J_iload_n (pc := 35) C 19 rfl 2 rfl rfl ?_
    obtain ⟨q5, hq5, h⟩ := bnd h
    refine J_callV (pc := 36) (st2 := []) (st3 := []) (ws2 := (wEx aX (aT 0) (aT2 0) (aS 0) (aS2 0) (aP 0) (aH 0) aB aU ++ (wSeat G aT (aS 0) (vT 1) (vT 2) (vT 3) (vT 4 0) (vT 5 0) (vT 6) (vT 7) (vT 8) ++ (wSch G aS (q5 0) (q5 1) (q5 2) (q5 3) (q5 4) (q5 5) (q5 6) (q5 7) (q5 8 0) (q5 9 0) ++ (wHis G aH (q4.1) (q4.2.1) ((q4.2.2) 1 0)))))) C 20 rfl (c_X2_removePupil aS vS x1 hq5) V_X2_removePupil k252 i_X2_removePupil s_X2_removePupil rfl rfl ⟨Nat.le_of_ble_eq_true rfl, Nat.le_of_ble_eq_true rfl⟩ (Nat.le_of_ble_eq_true rfl) ⟨Nat.le_refl _, Nat.le_refl _⟩ 8 2 rfl rfl rfl (isC := [8, 9, 10, 11, 12, 13, 14, 15, 16]) (isR := [0, 1, 2, 3, 4, 5, 6, 7, 17, 18, 19, 20, 21, 22, 23, 24, 25, 26, 27, 28, 29, 30, 31, 32, 33, 34, 35, 36, 37, 38, 39, 40, 41, 42, 43, 44, 45, 46, 47, 48, 49, 50, 51, 52, 53, 54, 55, 56, 57, 58, 59, 60, 61, 62, 63, 64, 65, 66, 67, 68, 69, 70, 71, 72]) (N := 73) ⟨rfl, by decide +kernel, rfl, by decide +kernel, rfl, ⟨⟨_, rfl, rfl⟩, ⟨⟨_, rfl, rfl⟩, ⟨⟨_, rfl, rfl⟩, ⟨⟨_, rfl, rfl⟩, ⟨⟨_, rfl, rfl⟩, ⟨⟨_, rfl, rfl⟩, ⟨⟨_, rfl, rfl⟩, ⟨⟨_, rfl, rfl⟩, ⟨⟨_, rfl, rfl⟩, ⟨⟨_, rfl, rfl⟩, ⟨⟨_, rfl, rfl⟩, ⟨⟨_, rfl, rfl⟩, ⟨⟨_, rfl, rfl⟩, ⟨⟨_, rfl, rfl⟩, ⟨⟨_, rfl, rfl⟩, ⟨⟨_, rfl, rfl⟩, ⟨⟨_, rfl, rfl⟩, ⟨⟨_, rfl, rfl⟩, ⟨⟨_, rfl, rfl⟩, ⟨⟨_, rfl, rfl⟩, ⟨⟨_, rfl, rfl⟩, ⟨⟨_, rfl, rfl⟩, ⟨⟨_, rfl, rfl⟩, ⟨⟨_, rfl, rfl⟩, ⟨⟨_, rfl, rfl⟩, ⟨⟨_, rfl, rfl⟩, ⟨⟨_, rfl, rfl⟩, ⟨⟨_, rfl, rfl⟩, ⟨⟨_, rfl, rfl⟩, ⟨⟨_, rfl, rfl⟩, ⟨⟨_, rfl, rfl⟩, ⟨⟨_, rfl, rfl⟩, ⟨⟨_, rfl, rfl⟩, ⟨⟨_, rfl, rfl⟩, ⟨⟨_, rfl, rfl⟩, ⟨⟨_, rfl, rfl⟩, ⟨⟨_, rfl, rfl⟩, ⟨⟨_, rfl, rfl⟩, ⟨⟨_, rfl, rfl⟩, ⟨⟨_, rfl, rfl⟩, ⟨⟨_, rfl, rfl⟩, ⟨⟨_, rfl, rfl⟩, ⟨⟨_, rfl, rfl⟩, ⟨⟨_, rfl, rfl⟩, ⟨⟨_, rfl, rfl⟩, ⟨⟨_, rfl, rfl⟩, ⟨⟨_, rfl, rfl⟩, ⟨⟨_, rfl, rfl⟩, ⟨⟨_, rfl, rfl⟩, ⟨⟨_, rfl, rfl⟩, ⟨⟨_, rfl, rfl⟩, ⟨⟨_, rfl, rfl⟩, ⟨⟨_, rfl, rfl⟩, ⟨⟨_, rfl, rfl⟩, ⟨⟨_, rfl, rfl⟩, ⟨⟨_, rfl, rfl⟩, ⟨⟨_, rfl, rfl⟩, ⟨⟨_, rfl, rfl⟩, ⟨⟨_, rfl, rfl⟩, ⟨⟨_, rfl, rfl⟩, ⟨⟨_, rfl, rfl⟩, ⟨⟨_, rfl, rfl⟩, ⟨⟨_, rfl, rfl⟩, ⟨⟨_, rfl, rfl⟩, trivial⟩⟩⟩⟩⟩⟩⟩⟩⟩⟩⟩⟩⟩⟩⟩⟩⟩⟩⟩⟩⟩⟩⟩⟩⟩⟩⟩⟩⟩⟩⟩⟩⟩⟩⟩⟩⟩⟩⟩⟩⟩⟩⟩⟩⟩⟩⟩⟩⟩⟩⟩⟩⟩⟩⟩⟩⟩⟩⟩⟩⟩⟩⟩⟩⟩ rfl ?_
    refine J_aload_n (pc := 39) C 21 rfl 1 rfl rfl ?_
    refine J_get (pc := 40) (v := .ref (aT 0)) C 22 rfl TB_l4 rfl 0 0 rfl (by decide) k195 rfl rfl ?_
    obtain ⟨q6, hq6, h⟩ := bnd h
    refine J_callV (pc := 43) (st2 := []) (st3 := []) (ws2 := (wEx aX (aT 0) (aT2 0) (aS 0) (aS2 0) (aP 0) (aH 0) aB aU ++ (wSeat G aT (aS 0) (q6 1) (q6 2) (q6 3) (q6 4 0) (q6 5 0) (q6 6) (q6 7) (q6 8) ++ (wSch G aS (q5 0) (q5 1) (q5 2) (q5 3) (q5 4) (q5 5) (q5 6) (q5 7) (q5 8 0) (q5 9 0) ++ (wHis G aH (q4.1) (q4.2.1) ((q4.2.2) 1 0)))))) C 23 rfl (c_X3_seatAll aT aS vT q5 hq6) V_X3_seatAll k214 i_X3_seatAll s_X3_seatAll rfl rfl ⟨Nat.le_of_ble_eq_true rfl, Nat.le_of_ble_eq_true rfl⟩ (Nat.le_of_ble_eq_true rfl) ⟨Nat.le_refl _, Nat.le_refl _⟩ 1 3 rfl rfl rfl (isC := [1, 2, 3, 4, 5, 6, 7, 8, 9, 10, 11, 12, 13, 14, 15, 16]) (isR := [0, 17, 18, 19, 20, 21, 22, 23, 24, 25, 26, 27, 28, 29, 30, 31, 32, 33, 34, 35, 36, 37, 38, 39, 40, 41, 42, 43, 44, 45, 46, 47, 48, 49, 50, 51, 52, 53, 54, 55, 56, 57, 58, 59, 60, 61, 62, 63, 64, 65, 66, 67, 68, 69, 70, 71, 72]) (N := 73) ⟨rfl, by decide +kernel, rfl, by decide +kernel, rfl, ⟨⟨_, rfl, rfl⟩, ⟨⟨_, rfl, rfl⟩, ⟨⟨_, rfl, rfl⟩, ⟨⟨_, rfl, rfl⟩, ⟨⟨_, rfl, rfl⟩, ⟨⟨_, rfl, rfl⟩, ⟨⟨_, rfl, rfl⟩, ⟨⟨_, rfl, rfl⟩, ⟨⟨_, rfl, rfl⟩, ⟨⟨_, rfl, rfl⟩, ⟨⟨_, rfl, rfl⟩, ⟨⟨_, rfl, rfl⟩, ⟨⟨_, rfl, rfl⟩, ⟨⟨_, rfl, rfl⟩, ⟨⟨_, rfl, rfl⟩, ⟨⟨_, rfl, rfl⟩, ⟨⟨_, rfl, rfl⟩, ⟨⟨_, rfl, rfl⟩, ⟨⟨_, rfl, rfl⟩, ⟨⟨_, rfl, rfl⟩, ⟨⟨_, rfl, rfl⟩, ⟨⟨_, rfl, rfl⟩, ⟨⟨_, rfl, rfl⟩, ⟨⟨_, rfl, rfl⟩, ⟨⟨_, rfl, rfl⟩, ⟨⟨_, rfl, rfl⟩, ⟨⟨_, rfl, rfl⟩, ⟨⟨_, rfl, rfl⟩, ⟨⟨_, rfl, rfl⟩, ⟨⟨_, rfl, rfl⟩, ⟨⟨_, rfl, rfl⟩, ⟨⟨_, rfl, rfl⟩, ⟨⟨_, rfl, rfl⟩, ⟨⟨_, rfl, rfl⟩, ⟨⟨_, rfl, rfl⟩, ⟨⟨_, rfl, rfl⟩, ⟨⟨_, rfl, rfl⟩, ⟨⟨_, rfl, rfl⟩, ⟨⟨_, rfl, rfl⟩, ⟨⟨_, rfl, rfl⟩, ⟨⟨_, rfl, rfl⟩, ⟨⟨_, rfl, rfl⟩, ⟨⟨_, rfl, rfl⟩, ⟨⟨_, rfl, rfl⟩, ⟨⟨_, rfl, rfl⟩, ⟨⟨_, rfl, rfl⟩, ⟨⟨_, rfl, rfl⟩, ⟨⟨_, rfl, rfl⟩, ⟨⟨_, rfl, rfl⟩, ⟨⟨_, rfl, rfl⟩, ⟨⟨_, rfl, rfl⟩, ⟨⟨_, rfl, rfl⟩, ⟨⟨_, rfl, rfl⟩, ⟨⟨_, rfl, rfl⟩, ⟨⟨_, rfl, rfl⟩, ⟨⟨_, rfl, rfl⟩, ⟨⟨_, rfl, rfl⟩, trivial⟩⟩⟩⟩⟩⟩⟩⟩⟩⟩⟩⟩⟩⟩⟩⟩⟩⟩⟩⟩⟩⟩⟩⟩⟩⟩⟩⟩⟩⟩⟩⟩⟩⟩⟩⟩⟩⟩⟩⟩⟩⟩⟩⟩⟩⟩⟩⟩⟩⟩⟩⟩⟩⟩⟩⟩⟩⟩ rfl ?_
    refine J_iload_n (pc := 46) C 24 rfl 0 rfl rfl ?_
    cases h
    exact J_iret (pc := 47) C 25 rfl
  · rw [if_pos c2] at h
    refine J_iconst (pc := 8) (v := (-1 : Int32)) C 4 rfl rfl ?_
    cases h
    exact J_iret (pc := 9) C 5 rfl
def T_X4_hall : List (Nat × ClassFile.Instr × Nat) := [(0, .iload_n 1, 1), (1, .invokestatic 132, 3), (4, .ifCond .ne 5, 3), (7, .iconst (-1), 1), (8, .ireturn, 1), (9, .iload_n 2, 1), (10, .iconst 1, 1), (11, .iconst 4, 1), (12, .invokestatic 55, 3), (15, .ifCond .eq 12, 3), (18, .iload_n 3, 1), (19, .iconst 1, 1), (20, .iconst 4, 1), (21, .invokestatic 55, 3), (24, .ifCond .ne 6, 3), (27, .bipush (-2), 2), (29, .ireturn, 1), (30, .aload_n 0, 1), (31, .getfield 20, 3), (34, .iload_n 1, 1), (35, .invokevirtual 135, 3), (38, .istore 4, 2), (40, .aload_n 0, 1), (41, .getfield 37, 3), (44, .aload_n 0, 1), (45, .getfield 20, 3), (48, .invokevirtual 66, 3), (51, .aload_n 0, 1), (52, .getfield 20, 3), (55, .getfield 138, 3), (58, .iload_n 1, 1), (59, .iload_n 2, 1), (60, .iastore, 1), (61, .aload_n 0, 1), (62, .getfield 20, 3), (65, .getfield 141, 3), (68, .iload_n 1, 1), (69, .iload_n 3, 1), (70, .iastore, 1), (71, .aload_n 0, 1), (72, .getfield 12, 3), (75, .invokevirtual 52, 3), (78, .iload 4, 2), (80, .ireturn, 1)]
theorem D_X4_hall : ∀ q ∈ T_X4_hall, decode cX4_hall q.1 = .ok q.2 := by decide +kernel
theorem V_X4_hall : Vy yX4_hall cX4_hall 5 (some .int) 3 := ⟨k262, k56, by decide +kernel⟩
theorem i_X4_hall : Cond.instanceMethod yX4_hall ∈ TB := k393
theorem s_X4_hall : Cond.selects yX4_hall.cls yX4_hall yX4_hall ∈ TB := k394
noncomputable def f_X4_hall (vT : JV) (vS : JV) (hA : Nat → Nat → Nat) (hV : Nat → JV) (hZ : JV) (x1 : Int32) (x2 : Int32) (x3 : Int32) : Option (Int32 × JV × JV × (Nat → Nat → Nat) × (Nat → JV) × JV) :=
  (f_X4_isHall x1).bind (fun q1 => (if q1 = 0 then some ((-1 : Int32), vT, vS, hA, hV, hZ) else (f_X4_isWithin x2 (1 : Int32) (4 : Int32)).bind (fun q3 => (if q3 = 0 then some ((-2 : Int32), vT, vS, hA, hV, hZ) else (f_X4_isWithin x3 (1 : Int32) (4 : Int32)).bind (fun q5 => (if q5 = 0 then some ((-2 : Int32), vT, vS, hA, hV, hZ) else (f_X2_desksOf vS x1).bind (fun q7 => (f_X0_remember vS hA hV hZ).bind (fun q8 => gd (inb x1 4) (gd (inb x1 4) ((f_X3_seatAll vT (up2 (up2 vS 6 (Int32.toNatClampNeg x1) x2) 7 (Int32.toNatClampNeg x1) x3)).bind (fun q11 => some (q7, q11, (up2 (up2 vS 6 (Int32.toNatClampNeg x1) x2) 7 (Int32.toNatClampNeg x1) x3), (q8.1), (q8.2.1), (q8.2.2)))))))))))))
set_option maxRecDepth 100000 in
set_option maxHeartbeats 4000000 in
theorem c_X4_hall {l : Launch} {G : JG} (aX : Nat) (aT : Nat → Nat) (aS : Nat → Nat) (aT2 : Nat → Nat) (aS2 : Nat → Nat) (aP : Nat → Nat) (aH : Nat → Nat) (aB : Nat) (aU : Nat) (vT : JV) (vS : JV) (hA : Nat → Nat → Nat) (hV : Nat → JV) (hZ : JV) (x1 : Int32) (x2 : Int32) (x3 : Int32) {Rz : Int32 × JV × JV × (Nat → Nat → Nat) × (Nat → JV) × JV} (h : f_X4_hall vT vS hA hV hZ x1 x2 x3 = some Rz) : JM l G yX4_hall cX4_hall 5 (some .int) 6 141 [.ref aX, .int x1, .int x2, .int x3] (wEx aX (aT 0) (aT2 0) (aS 0) (aS2 0) (aP 0) (aH 0) aB aU ++ (wSeat G aT (aS 0) (vT 1) (vT 2) (vT 3) (vT 4 0) (vT 5 0) (vT 6) (vT 7) (vT 8) ++ (wSch G aS (vS 0) (vS 1) (vS 2) (vS 3) (vS 4) (vS 5) (vS 6) (vS 7) (vS 8 0) (vS 9 0) ++ (wHis G aH hA hV (hZ 1 0))))) (wEx aX (aT 0) (aT2 0) (aS 0) (aS2 0) (aP 0) (aH 0) aB aU ++ (wSeat G aT (aS 0) ((Rz.2.1) 1) ((Rz.2.1) 2) ((Rz.2.1) 3) ((Rz.2.1) 4 0) ((Rz.2.1) 5 0) ((Rz.2.1) 6) ((Rz.2.1) 7) ((Rz.2.1) 8) ++ (wSch G aS ((Rz.2.2.1) 0) ((Rz.2.2.1) 1) ((Rz.2.2.1) 2) ((Rz.2.2.1) 3) ((Rz.2.2.1) 4) ((Rz.2.2.1) 5) ((Rz.2.2.1) 6) ((Rz.2.2.1) 7) ((Rz.2.2.1) 8 0) ((Rz.2.2.1) 9 0) ++ (wHis G aH (Rz.2.2.2.1) (Rz.2.2.2.2.1) ((Rz.2.2.2.2.2) 1 0))))) (some (.int (Rz.1))) := by
  refine JM.of (own := RX4) (tb := T_X4_hall) (by decide) (Nat.le_of_ble_eq_true rfl) D_X4_hall rfl (fun X C => ?_)
  refine J_sub (lv' := [(0, .ref aX), (1, .int x1), (2, .int x2), (3, .int x3)]) [0, 1, 2, 3] rfl ?_
  unfold f_X4_hall at h
  refine J_iload_n (pc := 0) C 0 rfl 1 rfl rfl ?_
  obtain ⟨q1, hq1, h⟩ := bnd h
  refine J_callS (pc := 1) (st2 := []) (st3 := [.int q1]) (ws2 := (wEx aX (aT 0) (aT2 0) (aS 0) (aS2 0) (aP 0) (aH 0) aB aU ++ (wSeat G aT (aS 0) (vT 1) (vT 2) (vT 3) (vT 4 0) (vT 5 0) (vT 6) (vT 7) (vT 8) ++ (wSch G aS (vS 0) (vS 1) (vS 2) (vS 3) (vS 4) (vS 5) (vS 6) (vS 7) (vS 8 0) (vS 9 0) ++ (wHis G aH hA hV (hZ 1 0)))))) C 1 rfl (c_X4_isHall x1 hq1) V_X4_isHall k259 t_X4_isHall rfl rfl ⟨Nat.le_of_ble_eq_true rfl, Nat.le_of_ble_eq_true rfl⟩ (Nat.le_of_ble_eq_true rfl) ⟨Nat.le_refl _, Nat.le_refl _⟩ (isC := []) (isR := [0, 1, 2, 3, 4, 5, 6, 7, 8, 9, 10, 11, 12, 13, 14, 15, 16, 17, 18, 19, 20, 21, 22, 23, 24, 25, 26, 27, 28, 29, 30, 31, 32, 33, 34, 35, 36, 37, 38, 39, 40, 41, 42, 43, 44, 45, 46, 47, 48, 49, 50, 51, 52, 53, 54, 55, 56, 57, 58, 59, 60, 61, 62, 63, 64, 65, 66, 67, 68, 69, 70, 71, 72]) (N := 73) ⟨rfl, by decide +kernel, rfl, by decide +kernel, rfl, ⟨⟨_, rfl, rfl⟩, ⟨⟨_, rfl, rfl⟩, ⟨⟨_, rfl, rfl⟩, ⟨⟨_, rfl, rfl⟩, ⟨⟨_, rfl, rfl⟩, ⟨⟨_, rfl, rfl⟩, ⟨⟨_, rfl, rfl⟩, ⟨⟨_, rfl, rfl⟩, ⟨⟨_, rfl, rfl⟩, ⟨⟨_, rfl, rfl⟩, ⟨⟨_, rfl, rfl⟩, ⟨⟨_, rfl, rfl⟩, ⟨⟨_, rfl, rfl⟩, ⟨⟨_, rfl, rfl⟩, ⟨⟨_, rfl, rfl⟩, ⟨⟨_, rfl, rfl⟩, ⟨⟨_, rfl, rfl⟩, ⟨⟨_, rfl, rfl⟩, ⟨⟨_, rfl, rfl⟩, ⟨⟨_, rfl, rfl⟩, ⟨⟨_, rfl, rfl⟩, ⟨⟨_, rfl, rfl⟩, ⟨⟨_, rfl, rfl⟩, ⟨⟨_, rfl, rfl⟩, ⟨⟨_, rfl, rfl⟩, ⟨⟨_, rfl, rfl⟩, ⟨⟨_, rfl, rfl⟩, ⟨⟨_, rfl, rfl⟩, ⟨⟨_, rfl, rfl⟩, ⟨⟨_, rfl, rfl⟩, ⟨⟨_, rfl, rfl⟩, ⟨⟨_, rfl, rfl⟩, ⟨⟨_, rfl, rfl⟩, ⟨⟨_, rfl, rfl⟩, ⟨⟨_, rfl, rfl⟩, ⟨⟨_, rfl, rfl⟩, ⟨⟨_, rfl, rfl⟩, ⟨⟨_, rfl, rfl⟩, ⟨⟨_, rfl, rfl⟩, ⟨⟨_, rfl, rfl⟩, ⟨⟨_, rfl, rfl⟩, ⟨⟨_, rfl, rfl⟩, ⟨⟨_, rfl, rfl⟩, ⟨⟨_, rfl, rfl⟩, ⟨⟨_, rfl, rfl⟩, ⟨⟨_, rfl, rfl⟩, ⟨⟨_, rfl, rfl⟩, ⟨⟨_, rfl, rfl⟩, ⟨⟨_, rfl, rfl⟩, ⟨⟨_, rfl, rfl⟩, ⟨⟨_, rfl, rfl⟩, ⟨⟨_, rfl, rfl⟩, ⟨⟨_, rfl, rfl⟩, ⟨⟨_, rfl, rfl⟩, ⟨⟨_, rfl, rfl⟩, ⟨⟨_, rfl, rfl⟩, ⟨⟨_, rfl, rfl⟩, ⟨⟨_, rfl, rfl⟩, ⟨⟨_, rfl, rfl⟩, ⟨⟨_, rfl, rfl⟩, ⟨⟨_, rfl, rfl⟩, ⟨⟨_, rfl, rfl⟩, ⟨⟨_, rfl, rfl⟩, ⟨⟨_, rfl, rfl⟩, ⟨⟨_, rfl, rfl⟩, ⟨⟨_, rfl, rfl⟩, ⟨⟨_, rfl, rfl⟩, ⟨⟨_, rfl, rfl⟩, ⟨⟨_, rfl, rfl⟩, ⟨⟨_, rfl, rfl⟩, ⟨⟨_, rfl, rfl⟩, ⟨⟨_, rfl, rfl⟩, ⟨⟨_, rfl, rfl⟩, trivial⟩⟩⟩⟩⟩⟩⟩⟩⟩⟩⟩⟩⟩⟩⟩⟩⟩⟩⟩⟩⟩⟩⟩⟩⟩⟩⟩⟩⟩⟩⟩⟩⟩⟩⟩⟩⟩⟩⟩⟩⟩⟩⟩⟩⟩⟩⟩⟩⟩⟩⟩⟩⟩⟩⟩⟩⟩⟩⟩⟩⟩⟩⟩⟩⟩⟩⟩⟩⟩⟩⟩⟩⟩⟩ rfl ?_
  refine J_if_ne (pc := 4) (tgt := 9) C 2 rfl rfl (fun c2 => ?_) (fun c2 => ?_)
  · rw [if_neg c2] at h
    refine J_iload_n (pc := 9) C 5 rfl 2 rfl rfl ?_
    refine J_iconst (pc := 10) (v := (1 : Int32)) C 6 rfl rfl ?_
    refine J_iconst (pc := 11) (v := (4 : Int32)) C 7 rfl rfl ?_
    obtain ⟨q3, hq3, h⟩ := bnd h
    refine J_callS (pc := 12) (st2 := []) (st3 := [.int q3]) (ws2 := (wEx aX (aT 0) (aT2 0) (aS 0) (aS2 0) (aP 0) (aH 0) aB aU ++ (wSeat G aT (aS 0) (vT 1) (vT 2) (vT 3) (vT 4 0) (vT 5 0) (vT 6) (vT 7) (vT 8) ++ (wSch G aS (vS 0) (vS 1) (vS 2) (vS 3) (vS 4) (vS 5) (vS 6) (vS 7) (vS 8 0) (vS 9 0) ++ (wHis G aH hA hV (hZ 1 0)))))) C 8 rfl (c_X4_isWithin x2 (1 : Int32) (4 : Int32) hq3) V_X4_isWithin k221 t_X4_isWithin rfl rfl ⟨Nat.le_of_ble_eq_true rfl, Nat.le_of_ble_eq_true rfl⟩ (Nat.le_of_ble_eq_true rfl) ⟨Nat.le_refl _, Nat.le_refl _⟩ (isC := []) (isR := [0, 1, 2, 3, 4, 5, 6, 7, 8, 9, 10, 11, 12, 13, 14, 15, 16, 17, 18, 19, 20, 21, 22, 23, 24, 25, 26, 27, 28, 29, 30, 31, 32, 33, 34, 35, 36, 37, 38, 39, 40, 41, 42, 43, 44, 45, 46, 47, 48, 49, 50, 51, 52, 53, 54, 55, 56, 57, 58, 59, 60, 61, 62, 63, 64, 65, 66, 67, 68, 69, 70, 71, 72]) (N := 73) ⟨rfl, by decide +kernel, rfl, by decide +kernel, rfl, ⟨⟨_, rfl, rfl⟩, ⟨⟨_, rfl, rfl⟩, ⟨⟨_, rfl, rfl⟩, ⟨⟨_, rfl, rfl⟩, ⟨⟨_, rfl, rfl⟩, ⟨⟨_, rfl, rfl⟩, ⟨⟨_, rfl, rfl⟩, ⟨⟨_, rfl, rfl⟩, ⟨⟨_, rfl, rfl⟩, ⟨⟨_, rfl, rfl⟩, ⟨⟨_, rfl, rfl⟩, ⟨⟨_, rfl, rfl⟩, ⟨⟨_, rfl, rfl⟩, ⟨⟨_, rfl, rfl⟩, ⟨⟨_, rfl, rfl⟩, ⟨⟨_, rfl, rfl⟩, ⟨⟨_, rfl, rfl⟩, ⟨⟨_, rfl, rfl⟩, ⟨⟨_, rfl, rfl⟩, ⟨⟨_, rfl, rfl⟩, ⟨⟨_, rfl, rfl⟩, ⟨⟨_, rfl, rfl⟩, ⟨⟨_, rfl, rfl⟩, ⟨⟨_, rfl, rfl⟩, ⟨⟨_, rfl, rfl⟩, ⟨⟨_, rfl, rfl⟩, ⟨⟨_, rfl, rfl⟩, ⟨⟨_, rfl, rfl⟩, ⟨⟨_, rfl, rfl⟩, ⟨⟨_, rfl, rfl⟩, ⟨⟨_, rfl, rfl⟩, ⟨⟨_, rfl, rfl⟩, ⟨⟨_, rfl, rfl⟩, ⟨⟨_, rfl, rfl⟩, ⟨⟨_, rfl, rfl⟩, ⟨⟨_, rfl, rfl⟩, ⟨⟨_, rfl, rfl⟩, ⟨⟨_, rfl, rfl⟩, ⟨⟨_, rfl, rfl⟩, ⟨⟨_, rfl, rfl⟩, ⟨⟨_, rfl, rfl⟩, ⟨⟨_, rfl, rfl⟩, ⟨⟨_, rfl, rfl⟩, ⟨⟨_, rfl, rfl⟩, ⟨⟨_, rfl, rfl⟩, ⟨⟨_, rfl, rfl⟩, ⟨⟨_, rfl, rfl⟩, ⟨⟨_, rfl, rfl⟩, ⟨⟨_, rfl, rfl⟩, ⟨⟨_, rfl, rfl⟩, ⟨⟨_, rfl, rfl⟩, ⟨⟨_, rfl, rfl⟩, ⟨⟨_, rfl, rfl⟩, ⟨⟨_, rfl, rfl⟩, ⟨⟨_, rfl, rfl⟩, ⟨⟨_, rfl, rfl⟩, ⟨⟨_, rfl, rfl⟩, ⟨⟨_, rfl, rfl⟩, ⟨⟨_, rfl, rfl⟩, ⟨⟨_, rfl, rfl⟩, ⟨⟨_, rfl, rfl⟩, ⟨⟨_, rfl, rfl⟩, ⟨⟨_, rfl, rfl⟩, ⟨⟨_, rfl, rfl⟩, ⟨⟨_, rfl, rfl⟩, ⟨⟨_, rfl, rfl⟩, ⟨⟨_, rfl, rfl⟩, ⟨⟨_, rfl, rfl⟩, ⟨⟨_, rfl, rfl⟩, ⟨⟨_, rfl, rfl⟩, ⟨⟨_, rfl, rfl⟩, ⟨⟨_, rfl, rfl⟩, ⟨⟨_, rfl, rfl⟩, trivial⟩⟩⟩⟩⟩⟩⟩⟩⟩⟩⟩⟩⟩⟩⟩⟩⟩⟩⟩⟩⟩⟩⟩⟩⟩⟩⟩⟩⟩⟩⟩⟩⟩⟩⟩⟩⟩⟩⟩⟩⟩⟩⟩⟩⟩⟩⟩⟩⟩⟩⟩⟩⟩⟩⟩⟩⟩⟩⟩⟩⟩⟩⟩⟩⟩⟩⟩⟩⟩⟩⟩⟩⟩⟩ rfl ?_
    refine J_if_eq (pc := 15) (tgt := 27) C 9 rfl rfl (fun c4 => ?_) (fun c4 => ?_)
    · rw [if_pos c4] at h
      refine J_bipush (pc := 27) (v := (-2 : Int32)) C 15 rfl rfl ?_
      cases h
      exact J_iret (pc := 29) C 16 rfl
    · rw [if_neg c4] at h
      refine J_iload_n (pc := 18) C 10 rfl 3 rfl rfl ?_
      refine J_iconst (pc := 19) (v := (1 : Int32)) C 11 rfl rfl ?_
      refine J_iconst (pc := 20) (v := (4 : Int32)) C 12 rfl rfl ?_
      obtain ⟨q5, hq5, h⟩ := bnd h
      refine J_callS (pc := 21) (st2 := []) (st3 := [.int q5]) (ws2 := (wEx aX (aT 0) (aT2 0) (aS 0) (aS2 0) (aP 0) (aH 0) aB aU ++ (wSeat G aT (aS 0) (vT 1) (vT 2) (vT 3) (vT 4 0) (vT 5 0) (vT 6) (vT 7) (vT 8) ++ (wSch G aS (vS 0) (vS 1) (vS 2) (vS 3) (vS 4) (vS 5) (vS 6) (vS 7) (vS 8 0) (vS 9 0) ++ (wHis G aH hA hV (hZ 1 0)))))) C 13 rfl (c_X4_isWithin x3 (1 : Int32) (4 : Int32) hq5) V_X4_isWithin k221 t_X4_isWithin rfl rfl ⟨Nat.le_of_ble_eq_true rfl, Nat.le_of_ble_eq_true rfl⟩ (Nat.le_of_ble_eq_true rfl) ⟨Nat.le_refl _, Nat.le_refl _⟩ (isC := []) (isR := [0, 1, 2, 3, 4, 5, 6, 7, 8, 9, 10, 11, 12, 13, 14, 15, 16, 17, 18, 19, 20, 21, 22, 23, 24, 25, 26, 27, 28, 29, 30, 31, 32, 33, 34, 35, 36, 37, 38, 39, 40, 41, 42, 43, 44, 45, 46, 47, 48, 49, 50, 51, 52, 53, 54, 55, 56, 57, 58, 59, 60, 61, 62, 63, 64, 65, 66, 67, 68, 69, 70, 71, 72]) (N := 73) ⟨rfl, by decide +kernel, rfl, by decide +kernel, rfl, ⟨⟨_, rfl, rfl⟩, ⟨⟨_, rfl, rfl⟩, ⟨⟨_, rfl, rfl⟩, ⟨⟨_, rfl, rfl⟩, ⟨⟨_, rfl, rfl⟩, ⟨⟨_, rfl, rfl⟩, ⟨⟨_, rfl, rfl⟩, ⟨⟨_, rfl, rfl⟩, ⟨⟨_, rfl, rfl⟩, ⟨⟨_, rfl, rfl⟩, ⟨⟨_, rfl, rfl⟩, ⟨⟨_, rfl, rfl⟩, ⟨⟨_, rfl, rfl⟩, ⟨⟨_, rfl, rfl⟩, ⟨⟨_, rfl, rfl⟩, ⟨⟨_, rfl, rfl⟩, ⟨⟨_, rfl, rfl⟩, ⟨⟨_, rfl, rfl⟩, ⟨⟨_, rfl, rfl⟩, ⟨⟨_, rfl, rfl⟩, ⟨⟨_, rfl, rfl⟩, ⟨⟨_, rfl, rfl⟩, ⟨⟨_, rfl, rfl⟩, ⟨⟨_, rfl, rfl⟩, ⟨⟨_, rfl, rfl⟩, ⟨⟨_, rfl, rfl⟩, ⟨⟨_, rfl, rfl⟩, ⟨⟨_, rfl, rfl⟩, ⟨⟨_, rfl, rfl⟩, ⟨⟨_, rfl, rfl⟩, ⟨⟨_, rfl, rfl⟩, ⟨⟨_, rfl, rfl⟩, ⟨⟨_, rfl, rfl⟩, ⟨⟨_, rfl, rfl⟩, ⟨⟨_, rfl, rfl⟩, ⟨⟨_, rfl, rfl⟩, ⟨⟨_, rfl, rfl⟩, ⟨⟨_, rfl, rfl⟩, ⟨⟨_, rfl, rfl⟩, ⟨⟨_, rfl, rfl⟩, ⟨⟨_, rfl, rfl⟩, ⟨⟨_, rfl, rfl⟩, ⟨⟨_, rfl, rfl⟩, ⟨⟨_, rfl, rfl⟩, ⟨⟨_, rfl, rfl⟩, ⟨⟨_, rfl, rfl⟩, ⟨⟨_, rfl, rfl⟩, ⟨⟨_, rfl, rfl⟩, ⟨⟨_, rfl, rfl⟩, ⟨⟨_, rfl, rfl⟩, ⟨⟨_, rfl, rfl⟩, ⟨⟨_, rfl, rfl⟩, ⟨⟨_, rfl, rfl⟩, ⟨⟨_, rfl, rfl⟩, ⟨⟨_, rfl, rfl⟩, ⟨⟨_, rfl, rfl⟩, ⟨⟨_, rfl, rfl⟩, ⟨⟨_, rfl, rfl⟩, ⟨⟨_, rfl, rfl⟩, ⟨⟨_, rfl, rfl⟩, ⟨⟨_, rfl, rfl⟩, ⟨⟨_, rfl, rfl⟩, ⟨⟨_, rfl, rfl⟩, ⟨⟨_, rfl, rfl⟩, ⟨⟨_, rfl, rfl⟩, ⟨⟨_, rfl, rfl⟩, ⟨⟨_, rfl, rfl⟩, ⟨⟨_, rfl, rfl⟩, ⟨⟨_, rfl, rfl⟩, ⟨⟨_, rfl, rfl⟩, ⟨⟨_, rfl, rfl⟩, ⟨⟨_, rfl, rfl⟩, ⟨⟨_, rfl, rfl⟩, trivial⟩⟩⟩⟩⟩⟩⟩⟩⟩⟩⟩⟩⟩⟩⟩⟩⟩⟩⟩⟩⟩⟩⟩⟩⟩⟩⟩⟩⟩⟩⟩⟩⟩⟩⟩⟩⟩⟩⟩⟩⟩⟩⟩⟩⟩⟩⟩⟩⟩⟩⟩⟩⟩⟩⟩⟩⟩⟩⟩⟩⟩⟩⟩⟩⟩⟩⟩⟩⟩⟩⟩⟩⟩⟩ rfl ?_
      refine J_if_ne (pc := 24) (tgt := 30) C 14 rfl rfl (fun c6 => ?_) (fun c6 => ?_)
      · rw [if_neg c6] at h
        refine J_aload_n (pc := 30) C 17 rfl 0 rfl rfl ?_
        refine J_get (pc := 31) (v := .ref (aS 0)) C 18 rfl TB_l4 rfl 0 1 rfl (by decide) k197 rfl rfl ?_
        refine J_iload_n (pc := 34) C 19 rfl 1 rfl rfl ?_
        obtain ⟨q7, hq7, h⟩ := bnd h
        refine J_callV (pc := 35) (st2 := []) (st3 := [.int q7]) (ws2 := (wEx aX (aT 0) (aT2 0) (aS 0) (aS2 0) (aP 0) (aH 0) aB aU ++ (wSeat G aT (aS 0) (vT 1) (vT 2) (vT 3) (vT 4 0) (vT 5 0) (vT 6) (vT 7) (vT 8) ++ (wSch G aS (vS 0) (vS 1) (vS 2) (vS 3) (vS 4) (vS 5) (vS 6) (vS 7) (vS 8 0) (vS 9 0) ++ (wHis G aH hA hV (hZ 1 0)))))) C 20 rfl (c_X2_desksOf aS vS x1 hq7) V_X2_desksOf k261 i_X2_desksOf s_X2_desksOf rfl rfl ⟨Nat.le_of_ble_eq_true rfl, Nat.le_of_ble_eq_true rfl⟩ (Nat.le_of_ble_eq_true rfl) ⟨Nat.le_refl _, Nat.le_refl _⟩ 8 2 rfl rfl rfl (isC := [8, 9, 10, 11, 12, 13, 14, 15, 16]) (isR := [0, 1, 2, 3, 4, 5, 6, 7, 17, 18, 19, 20, 21, 22, 23, 24, 25, 26, 27, 28, 29, 30, 31, 32, 33, 34, 35, 36, 37, 38, 39, 40, 41, 42, 43, 44, 45, 46, 47, 48, 49, 50, 51, 52, 53, 54, 55, 56, 57, 58, 59, 60, 61, 62, 63, 64, 65, 66, 67, 68, 69, 70, 71, 72]) (N := 73) ⟨rfl, by decide +kernel, rfl, by decide +kernel, rfl, ⟨⟨_, rfl, rfl⟩, ⟨⟨_, rfl, rfl⟩, ⟨⟨_, rfl, rfl⟩, ⟨⟨_, rfl, rfl⟩, ⟨⟨_, rfl, rfl⟩, ⟨⟨_, rfl, rfl⟩, ⟨⟨_, rfl, rfl⟩, ⟨⟨_, rfl, rfl⟩, ⟨⟨_, rfl, rfl⟩, ⟨⟨_, rfl, rfl⟩, ⟨⟨_, rfl, rfl⟩, ⟨⟨_, rfl, rfl⟩, ⟨⟨_, rfl, rfl⟩, ⟨⟨_, rfl, rfl⟩, ⟨⟨_, rfl, rfl⟩, ⟨⟨_, rfl, rfl⟩, ⟨⟨_, rfl, rfl⟩, ⟨⟨_, rfl, rfl⟩, ⟨⟨_, rfl, rfl⟩, ⟨⟨_, rfl, rfl⟩, ⟨⟨_, rfl, rfl⟩, ⟨⟨_, rfl, rfl⟩, ⟨⟨_, rfl, rfl⟩, ⟨⟨_, rfl, rfl⟩, ⟨⟨_, rfl, rfl⟩, ⟨⟨_, rfl, rfl⟩, ⟨⟨_, rfl, rfl⟩, ⟨⟨_, rfl, rfl⟩, ⟨⟨_, rfl, rfl⟩, ⟨⟨_, rfl, rfl⟩, ⟨⟨_, rfl, rfl⟩, ⟨⟨_, rfl, rfl⟩, ⟨⟨_, rfl, rfl⟩, ⟨⟨_, rfl, rfl⟩, ⟨⟨_, rfl, rfl⟩, ⟨⟨_, rfl, rfl⟩, ⟨⟨_, rfl, rfl⟩, ⟨⟨_, rfl, rfl⟩, ⟨⟨_, rfl, rfl⟩, ⟨⟨_, rfl, rfl⟩, ⟨⟨_, rfl, rfl⟩, ⟨⟨_, rfl, rfl⟩, ⟨⟨_, rfl, rfl⟩, ⟨⟨_, rfl, rfl⟩, ⟨⟨_, rfl, rfl⟩, ⟨⟨_, rfl, rfl⟩, ⟨⟨_, rfl, rfl⟩, ⟨⟨_, rfl, rfl⟩, ⟨⟨_, rfl, rfl⟩, ⟨⟨_, rfl, rfl⟩, ⟨⟨_, rfl, rfl⟩, ⟨⟨_, rfl, rfl⟩, ⟨⟨_, rfl, rfl⟩, ⟨⟨_, rfl, rfl⟩, ⟨⟨_, rfl, rfl⟩, ⟨⟨_, rfl, rfl⟩, ⟨⟨_, rfl, rfl⟩, ⟨⟨_, rfl, rfl⟩, ⟨⟨_, rfl, rfl⟩, ⟨⟨_, rfl, rfl⟩, ⟨⟨_, rfl, rfl⟩, ⟨⟨_, rfl, rfl⟩, ⟨⟨_, rfl, rfl⟩, ⟨⟨_, rfl, rfl⟩, trivial⟩⟩⟩⟩⟩⟩⟩⟩⟩⟩⟩⟩⟩⟩⟩⟩⟩⟩⟩⟩⟩⟩⟩⟩⟩⟩⟩⟩⟩⟩⟩⟩⟩⟩⟩⟩⟩⟩⟩⟩⟩⟩⟩⟩⟩⟩⟩⟩⟩⟩⟩⟩⟩⟩⟩⟩⟩⟩⟩⟩⟩⟩⟩⟩⟩ rfl ?_
        refine J_istore (pc := 38) (lv' := [(4, .int q7), (0, .ref aX), (1, .int x1), (2, .int x2), (3, .int x3)]) C 21 rfl (by decide) rfl ?_
        refine J_aload_n (pc := 40) C 22 rfl 1 rfl rfl ?_
        refine J_get (pc := 41) (v := .ref (aH 0)) C 23 rfl TB_l4 rfl 0 5 rfl (by decide) k206 rfl rfl ?_
        refine J_aload_n (pc := 44) C 24 rfl 1 rfl rfl ?_
        refine J_get (pc := 45) (v := .ref (aS 0)) C 25 rfl TB_l4 rfl 0 1 rfl (by decide) k197 rfl rfl ?_
        obtain ⟨q8, hq8, h⟩ := bnd h
        refine J_callV (pc := 48) (st2 := []) (st3 := []) (ws2 := (wEx aX (aT 0) (aT2 0) (aS 0) (aS2 0) (aP 0) (aH 0) aB aU ++ (wSeat G aT (aS 0) (vT 1) (vT 2) (vT 3) (vT 4 0) (vT 5 0) (vT 6) (vT 7) (vT 8) ++ (wSch G aS (vS 0) (vS 1) (vS 2) (vS 3) (vS 4) (vS 5) (vS 6) (vS 7) (vS 8 0) (vS 9 0) ++ (wHis G aH (q8.1) (q8.2.1) ((q8.2.2) 1 0)))))) C 26 rfl (c_X0_remember aS aH vS hA hV hZ hq8) V_X0_remember k223 i_X0_remember s_X0_remember rfl rfl ⟨Nat.le_of_ble_eq_true rfl, Nat.le_of_ble_eq_true rfl⟩ (Nat.le_of_ble_eq_true rfl) ⟨Nat.le_refl _, Nat.le_refl _⟩ 17 0 rfl rfl rfl (isC := [8, 9, 10, 11, 12, 13, 14, 15, 16, 17, 18, 19, 20, 21, 22, 23, 24, 25, 26, 27, 28, 29, 30, 31, 32, 33, 34, 35, 36, 37, 38, 39, 40, 41, 42, 43, 44, 45, 46, 47, 48, 49, 50, 51, 52, 53, 54, 55, 56, 57, 58, 59, 60, 61, 62, 63, 64, 65, 66, 67, 68, 69, 70, 71, 72]) (isR := [0, 1, 2, 3, 4, 5, 6, 7]) (N := 73) ⟨rfl, by decide +kernel, rfl, by decide +kernel, rfl, ⟨⟨_, rfl, rfl⟩, ⟨⟨_, rfl, rfl⟩, ⟨⟨_, rfl, rfl⟩, ⟨⟨_, rfl, rfl⟩, ⟨⟨_, rfl, rfl⟩, ⟨⟨_, rfl, rfl⟩, ⟨⟨_, rfl, rfl⟩, ⟨⟨_, rfl, rfl⟩, trivial⟩⟩⟩⟩⟩⟩⟩⟩⟩ rfl ?_
        refine J_aload_n (pc := 51) C 27 rfl 1 rfl rfl ?_
        refine J_get (pc := 52) (v := .ref (aS 0)) C 28 rfl TB_l4 rfl 0 1 rfl (by decide) k197 rfl rfl ?_
        refine J_get (pc := 55) (v := .ref (aS 7)) C 29 rfl TB_l2 rfl 8 6 rfl (by decide) k257 rfl rfl ?_
        refine J_iload_n (pc := 58) C 30 rfl 2 rfl rfl ?_
        refine J_iload_n (pc := 59) C 31 rfl 3 rfl rfl ?_
        obtain ⟨g9, h⟩ := gd_some h
        refine J_iast (pc := 60) (f := (vS 6)) (m := (Int32.toNatClampNeg x1)) C 32 (fun mm vv => (wEx aX (aT 0) (aT2 0) (aS 0) (aS2 0) (aP 0) (aH 0) aB aU ++ (wSeat G aT (aS 0) (vT 1) (vT 2) (vT 3) (vT 4 0) (vT 5 0) (vT 6) (vT 7) (vT 8) ++ (wSch G aS (vS 0) (vS 1) (vS 2) (vS 3) (vS 4) (vS 5) (upd (vS 6) mm vv) (vS 7) (vS 8 0) (vS 9 0) ++ (wHis G aH (q8.1) (q8.2.1) ((q8.2.2) 1 0)))))) rfl 15 rfl g9 rfl (fun _ _ => rfl) ?_
        refine J_aload_n (pc := 61) C 33 rfl 1 rfl rfl ?_
        refine J_get (pc := 62) (v := .ref (aS 0)) C 34 rfl TB_l4 rfl 0 1 rfl (by decide) k197 rfl rfl ?_
        refine J_get (pc := 65) (v := .ref (aS 8)) C 35 rfl TB_l2 rfl 8 7 rfl (by decide) k258 rfl rfl ?_
        refine J_iload_n (pc := 68) C 36 rfl 2 rfl rfl ?_
        refine J_iload_n (pc := 69) C 37 rfl 4 rfl rfl ?_
        obtain ⟨g10, h⟩ := gd_some h
        refine J_iast (pc := 70) (f := (vS 7)) (m := (Int32.toNatClampNeg x1)) C 38 (fun mm vv => (wEx aX (aT 0) (aT2 0) (aS 0) (aS2 0) (aP 0) (aH 0) aB aU ++ (wSeat G aT (aS 0) (vT 1) (vT 2) (vT 3) (vT 4 0) (vT 5 0) (vT 6) (vT 7) (vT 8) ++ (wSch G aS (vS 0) (vS 1) (vS 2) (vS 3) (vS 4) (vS 5) (upd (vS 6) (Int32.toNatClampNeg x1) x2) (upd (vS 7) mm vv) (vS 8 0) (vS 9 0) ++ (wHis G aH (q8.1) (q8.2.1) ((q8.2.2) 1 0)))))) rfl 16 rfl g10 rfl (fun _ _ => rfl) ?_
        refine J_aload_n (pc := 71) C 39 rfl 1 rfl rfl ?_
        refine J_get (pc := 72) (v := .ref (aT 0)) C 40 rfl TB_l4 rfl 0 0 rfl (by decide) k195 rfl rfl ?_
        obtain ⟨q11, hq11, h⟩ := bnd h
        refine J_callV (pc := 75) (st2 := []) (st3 := []) (ws2 := (wEx aX (aT 0) (aT2 0) (aS 0) (aS2 0) (aP 0) (aH 0) aB aU ++ (wSeat G aT (aS 0) (q11 1) (q11 2) (q11 3) (q11 4 0) (q11 5 0) (q11 6) (q11 7) (q11 8) ++ (wSch G aS (vS 0) (vS 1) (vS 2) (vS 3) (vS 4) (vS 5) (upd (vS 6) (Int32.toNatClampNeg x1) x2) (upd (vS 7) (Int32.toNatClampNeg x1) x3) (vS 8 0) (vS 9 0) ++ (wHis G aH (q8.1) (q8.2.1) ((q8.2.2) 1 0)))))) C 41 rfl (c_X3_seatAll aT aS vT (up2 (up2 vS 6 (Int32.toNatClampNeg x1) x2) 7 (Int32.toNatClampNeg x1) x3) hq11) V_X3_seatAll k214 i_X3_seatAll s_X3_seatAll rfl rfl ⟨Nat.le_of_ble_eq_true rfl, Nat.le_of_ble_eq_true rfl⟩ (Nat.le_of_ble_eq_true rfl) ⟨Nat.le_refl _, Nat.le_refl _⟩ 1 3 rfl rfl rfl (isC := [1, 2, 3, 4, 5, 6, 7, 8, 9, 10, 11, 12, 13, 14, 15, 16]) (isR := [0, 17, 18, 19, 20, 21, 22, 23, 24, 25, 26, 27, 28, 29, 30, 31, 32, 33, 34, 35, 36, 37, 38, 39, 40, 41, 42, 43, 44, 45, 46, 47, 48, 49, 50, 51, 52, 53, 54, 55, 56, 57, 58, 59, 60, 61, 62, 63, 64, 65, 66, 67, 68, 69, 70, 71, 72]) (N := 73) ⟨rfl, by decide +kernel, rfl, by decide +kernel, rfl, ⟨⟨_, rfl, rfl⟩, ⟨⟨_, rfl, rfl⟩, ⟨⟨_, rfl, rfl⟩, ⟨⟨_, rfl, rfl⟩, ⟨⟨_, rfl, rfl⟩, ⟨⟨_, rfl, rfl⟩, ⟨⟨_, rfl, rfl⟩, ⟨⟨_, rfl, rfl⟩, ⟨⟨_, rfl, rfl⟩, ⟨⟨_, rfl, rfl⟩, ⟨⟨_, rfl, rfl⟩, ⟨⟨_, rfl, rfl⟩, ⟨⟨_, rfl, rfl⟩, ⟨⟨_, rfl, rfl⟩, ⟨⟨_, rfl, rfl⟩, ⟨⟨_, rfl, rfl⟩, ⟨⟨_, rfl, rfl⟩, ⟨⟨_, rfl, rfl⟩, ⟨⟨_, rfl, rfl⟩, ⟨⟨_, rfl, rfl⟩, ⟨⟨_, rfl, rfl⟩, ⟨⟨_, rfl, rfl⟩, ⟨⟨_, rfl, rfl⟩, ⟨⟨_, rfl, rfl⟩, ⟨⟨_, rfl, rfl⟩, ⟨⟨_, rfl, rfl⟩, ⟨⟨_, rfl, rfl⟩, ⟨⟨_, rfl, rfl⟩, ⟨⟨_, rfl, rfl⟩, ⟨⟨_, rfl, rfl⟩, ⟨⟨_, rfl, rfl⟩, ⟨⟨_, rfl, rfl⟩, ⟨⟨_, rfl, rfl⟩, ⟨⟨_, rfl, rfl⟩, ⟨⟨_, rfl, rfl⟩, ⟨⟨_, rfl, rfl⟩, ⟨⟨_, rfl, rfl⟩, ⟨⟨_, rfl, rfl⟩, ⟨⟨_, rfl, rfl⟩, ⟨⟨_, rfl, rfl⟩, ⟨⟨_, rfl, rfl⟩, ⟨⟨_, rfl, rfl⟩, ⟨⟨_, rfl, rfl⟩, ⟨⟨_, rfl, rfl⟩, ⟨⟨_, rfl, rfl⟩, ⟨⟨_, rfl, rfl⟩, ⟨⟨_, rfl, rfl⟩, ⟨⟨_, rfl, rfl⟩, ⟨⟨_, rfl, rfl⟩, ⟨⟨_, rfl, rfl⟩, ⟨⟨_, rfl, rfl⟩, ⟨⟨_, rfl, rfl⟩, ⟨⟨_, rfl, rfl⟩, ⟨⟨_, rfl, rfl⟩, ⟨⟨_, rfl, rfl⟩, ⟨⟨_, rfl, rfl⟩, ⟨⟨_, rfl, rfl⟩, trivial⟩⟩⟩⟩⟩⟩⟩⟩⟩⟩⟩⟩⟩⟩⟩⟩⟩⟩⟩⟩⟩⟩⟩⟩⟩⟩⟩⟩⟩⟩⟩⟩⟩⟩⟩⟩⟩⟩⟩⟩⟩⟩⟩⟩⟩⟩⟩⟩⟩⟩⟩⟩⟩⟩⟩⟩⟩⟩ rfl ?_
        refine J_iload (pc := 78) C 42 rfl 0 rfl ?_
        cases h
        exact J_iret (pc := 80) C 43 rfl
      · rw [if_pos c6] at h
        refine J_bipush (pc := 27) (v := (-2 : Int32)) C 15 rfl rfl ?_
        cases h
        exact J_iret (pc := 29) C 16 rfl
  · rw [if_pos c2] at h
    refine J_iconst (pc := 7) (v := (-1 : Int32)) C 3 rfl rfl ?_
    cases h
    exact J_iret (pc := 8) C 4 rfl
def T_X4_open : List (Nat × ClassFile.Instr × Nat) := [(0, .iload_n 1, 1), (1, .invokestatic 132, 3), (4, .ifCond .ne 5, 3), (7, .iconst (-1), 1), (8, .ireturn, 1), (9, .aload_n 0, 1), (10, .getfield 20, 3), (13, .iload_n 1, 1), (14, .invokevirtual 144, 3), (17, .iload_n 2, 1), (18, .if_icmp .ne 6, 3), (21, .bipush (-5), 2), (23, .ireturn, 1), (24, .aload_n 0, 1), (25, .getfield 37, 3), (28, .aload_n 0, 1), (29, .getfield 20, 3), (32, .invokevirtual 66, 3), (35, .aload_n 0, 1), (36, .getfield 20, 3), (39, .dup, 1), (40, .getfield 147, 3), (43, .iconst 1, 1), (44, .iload_n 1, 1), (45, .ishl, 1), (46, .ixor, 1), (47, .putfield 147, 3), (50, .aload_n 0, 1), (51, .getfield 12, 3), (54, .invokevirtual 52, 3), (57, .aload_n 0, 1), (58, .getfield 12, 3), (61, .getfield 150, 3), (64, .ireturn, 1)]
theorem D_X4_open : ∀ q ∈ T_X4_open, decode cX4_open q.1 = .ok q.2 := by decide +kernel
theorem V_X4_open : Vy yX4_open cX4_open 3 (some .int) 2 := ⟨k266, k56, by decide +kernel⟩
theorem i_X4_open : Cond.instanceMethod yX4_open ∈ TB := k396
theorem s_X4_open : Cond.selects yX4_open.cls yX4_open yX4_open ∈ TB := k397
noncomputable def f_X4_open (vT : JV) (vS : JV) (hA : Nat → Nat → Nat) (hV : Nat → JV) (hZ : JV) (x1 : Int32) (x2 : Int32) : Option (Int32 × JV × JV × (Nat → Nat → Nat) × (Nat → JV) × JV) :=
  (f_X4_isHall x1).bind (fun q1 => (if q1 = 0 then some ((-1 : Int32), vT, vS, hA, hV, hZ) else (f_X2_isOpen vS x1).bind (fun q3 => (if q3 = x2 then some ((-5 : Int32), vT, vS, hA, hV, hZ) else (f_X0_remember vS hA hV hZ).bind (fun q5 => (f_X3_seatAll vT (up2 vS 9 0 ((vS 9 0) ^^^ ((1 : Int32) <<< (x1 &&& 31))))).bind (fun q6 => some ((q6 4 0), q6, (up2 vS 9 0 ((vS 9 0) ^^^ ((1 : Int32) <<< (x1 &&& 31)))), (q5.1), (q5.2.1), (q5.2.2))))))))
set_option maxRecDepth 100000 in
set_option maxHeartbeats 4000000 in
theorem c_X4_open {l : Launch} {G : JG} (aX : Nat) (aT : Nat → Nat) (aS : Nat → Nat) (aT2 : Nat → Nat) (aS2 : Nat → Nat) (aP : Nat → Nat) (aH : Nat → Nat) (aB : Nat) (aU : Nat) (vT : JV) (vS : JV) (hA : Nat → Nat → Nat) (hV : Nat → JV) (hZ : JV) (x1 : Int32) (x2 : Int32) {Rz : Int32 × JV × JV × (Nat → Nat → Nat) × (Nat → JV) × JV} (h : f_X4_open vT vS hA hV hZ x1 x2 = some Rz) : JM l G yX4_open cX4_open 3 (some .int) 6 141 [.ref aX, .int x1, .int x2] (wEx aX (aT 0) (aT2 0) (aS 0) (aS2 0) (aP 0) (aH 0) aB aU ++ (wSeat G aT (aS 0) (vT 1) (vT 2) (vT 3) (vT 4 0) (vT 5 0) (vT 6) (vT 7) (vT 8) ++ (wSch G aS (vS 0) (vS 1) (vS 2) (vS 3) (vS 4) (vS 5) (vS 6) (vS 7) (vS 8 0) (vS 9 0) ++ (wHis G aH hA hV (hZ 1 0))))) (wEx aX (aT 0) (aT2 0) (aS 0) (aS2 0) (aP 0) (aH 0) aB aU ++ (wSeat G aT (aS 0) ((Rz.2.1) 1) ((Rz.2.1) 2) ((Rz.2.1) 3) ((Rz.2.1) 4 0) ((Rz.2.1) 5 0) ((Rz.2.1) 6) ((Rz.2.1) 7) ((Rz.2.1) 8) ++ (wSch G aS ((Rz.2.2.1) 0) ((Rz.2.2.1) 1) ((Rz.2.2.1) 2) ((Rz.2.2.1) 3) ((Rz.2.2.1) 4) ((Rz.2.2.1) 5) ((Rz.2.2.1) 6) ((Rz.2.2.1) 7) ((Rz.2.2.1) 8 0) ((Rz.2.2.1) 9 0) ++ (wHis G aH (Rz.2.2.2.1) (Rz.2.2.2.2.1) ((Rz.2.2.2.2.2) 1 0))))) (some (.int (Rz.1))) := by
  refine JM.of (own := RX4) (tb := T_X4_open) (by decide) (Nat.le_of_ble_eq_true rfl) D_X4_open rfl (fun X C => ?_)
  refine J_sub (lv' := [(0, .ref aX), (1, .int x1), (2, .int x2)]) [0, 1, 2] rfl ?_
  unfold f_X4_open at h
  refine J_iload_n (pc := 0) C 0 rfl 1 rfl rfl ?_
  obtain ⟨q1, hq1, h⟩ := bnd h
  refine J_callS (pc := 1) (st2 := []) (st3 := [.int q1]) (ws2 := (wEx aX (aT 0) (aT2 0) (aS 0) (aS2 0) (aP 0) (aH 0) aB aU ++ (wSeat G aT (aS 0) (vT 1) (vT 2) (vT 3) (vT 4 0) (vT 5 0) (vT 6) (vT 7) (vT 8) ++ (wSch G aS (vS 0) (vS 1) (vS 2) (vS 3) (vS 4) (vS 5) (vS 6) (vS 7) (vS 8 0) (vS 9 0) ++ (wHis G aH hA hV (hZ 1 0)))))) C 1 rfl (c_X4_isHall x1 hq1) V_X4_isHall k259 t_X4_isHall rfl rfl ⟨Nat.le_of_ble_eq_true rfl, Nat.le_of_ble_eq_true rfl⟩ (Nat.le_of_ble_eq_true rfl) ⟨Nat.le_refl _, Nat.le_refl _⟩ (isC := []) (isR := [0, 1, 2, 3, 4, 5, 6, 7, 8, 9, 10, 11, 12, 13, 14, 15, 16, 17, 18, 19, 20, 21, 22, 23, 24, 25, 26, 27, 28, 29, 30, 31, 32, 33, 34, 35, 36, 37, 38, 39, 40, 41, 42, 43, 44, 45, 46, 47, 48, 49, 50, 51, 52, 53, 54, 55, 56, 57, 58, 59, 60, 61, 62, 63, 64, 65, 66, 67, 68, 69, 70, 71, 72]) (N := 73) ⟨rfl, by decide +kernel, rfl, by decide +kernel, rfl, ⟨⟨_, rfl, rfl⟩, ⟨⟨_, rfl, rfl⟩, ⟨⟨_, rfl, rfl⟩, ⟨⟨_, rfl, rfl⟩, ⟨⟨_, rfl, rfl⟩, ⟨⟨_, rfl, rfl⟩, ⟨⟨_, rfl, rfl⟩, ⟨⟨_, rfl, rfl⟩, ⟨⟨_, rfl, rfl⟩, ⟨⟨_, rfl, rfl⟩, ⟨⟨_, rfl, rfl⟩, ⟨⟨_, rfl, rfl⟩, ⟨⟨_, rfl, rfl⟩, ⟨⟨_, rfl, rfl⟩, ⟨⟨_, rfl, rfl⟩, ⟨⟨_, rfl, rfl⟩, ⟨⟨_, rfl, rfl⟩, ⟨⟨_, rfl, rfl⟩, ⟨⟨_, rfl, rfl⟩, ⟨⟨_, rfl, rfl⟩, ⟨⟨_, rfl, rfl⟩, ⟨⟨_, rfl, rfl⟩, ⟨⟨_, rfl, rfl⟩, ⟨⟨_, rfl, rfl⟩, ⟨⟨_, rfl, rfl⟩, ⟨⟨_, rfl, rfl⟩, ⟨⟨_, rfl, rfl⟩, ⟨⟨_, rfl, rfl⟩, ⟨⟨_, rfl, rfl⟩, ⟨⟨_, rfl, rfl⟩, ⟨⟨_, rfl, rfl⟩, ⟨⟨_, rfl, rfl⟩, ⟨⟨_, rfl, rfl⟩, ⟨⟨_, rfl, rfl⟩, ⟨⟨_, rfl, rfl⟩, ⟨⟨_, rfl, rfl⟩, ⟨⟨_, rfl, rfl⟩, ⟨⟨_, rfl, rfl⟩, ⟨⟨_, rfl, rfl⟩, ⟨⟨_, rfl, rfl⟩, ⟨⟨_, rfl, rfl⟩, ⟨⟨_, rfl, rfl⟩, ⟨⟨_, rfl, rfl⟩, ⟨⟨_, rfl, rfl⟩, ⟨⟨_, rfl, rfl⟩, ⟨⟨_, rfl, rfl⟩, ⟨⟨_, rfl, rfl⟩, ⟨⟨_, rfl, rfl⟩, ⟨⟨_, rfl, rfl⟩, ⟨⟨_, rfl, rfl⟩, ⟨⟨_, rfl, rfl⟩, ⟨⟨_, rfl, rfl⟩, ⟨⟨_, rfl, rfl⟩, ⟨⟨_, rfl, rfl⟩, ⟨⟨_, rfl, rfl⟩, ⟨⟨_, rfl, rfl⟩, ⟨⟨_, rfl, rfl⟩, ⟨⟨_, rfl, rfl⟩, ⟨⟨_, rfl, rfl⟩, ⟨⟨_, rfl, rfl⟩, ⟨⟨_, rfl, rfl⟩, ⟨⟨_, rfl, rfl⟩, ⟨⟨_, rfl, rfl⟩, ⟨⟨_, rfl, rfl⟩, ⟨⟨_, rfl, rfl⟩, ⟨⟨_, rfl, rfl⟩, ⟨⟨_, rfl, rfl⟩, ⟨⟨_, rfl, rfl⟩, ⟨⟨_, rfl, rfl⟩, ⟨⟨_, rfl, rfl⟩, ⟨⟨_, rfl, rfl⟩, ⟨⟨_, rfl, rfl⟩, ⟨⟨_, rfl, rfl⟩, trivial⟩⟩⟩⟩⟩⟩⟩⟩⟩⟩⟩⟩⟩⟩⟩⟩⟩⟩⟩⟩⟩⟩⟩⟩⟩⟩⟩⟩⟩⟩⟩⟩⟩⟩⟩⟩⟩⟩⟩⟩⟩⟩⟩⟩⟩⟩⟩⟩⟩⟩⟩⟩⟩⟩⟩⟩⟩⟩⟩⟩⟩⟩⟩⟩⟩⟩⟩⟩⟩⟩⟩⟩⟩⟩ rfl ?_
  refine J_if_ne (pc := 4) (tgt := 9) C 2 rfl rfl (fun c2 => ?_) (fun c2 => ?_)
  · rw [if_neg c2] at h
    refine J_aload_n (pc := 9) C 5 rfl 0 rfl rfl ?_
    refine J_get (pc := 10) (v := .ref (aS 0)) C 6 rfl TB_l4 rfl 0 1 rfl (by decide) k197 rfl rfl ?_
    refine J_iload_n (pc := 13) C 7 rfl 1 rfl rfl ?_
    obtain ⟨q3, hq3, h⟩ := bnd h
    refine J_callV (pc := 14) (st2 := []) (st3 := [.int q3]) (ws2 := (wEx aX (aT 0) (aT2 0) (aS 0) (aS2 0) (aP 0) (aH 0) aB aU ++ (wSeat G aT (aS 0) (vT 1) (vT 2) (vT 3) (vT 4 0) (vT 5 0) (vT 6) (vT 7) (vT 8) ++ (wSch G aS (vS 0) (vS 1) (vS 2) (vS 3) (vS 4) (vS 5) (vS 6) (vS 7) (vS 8 0) (vS 9 0) ++ (wHis G aH hA hV (hZ 1 0)))))) C 8 rfl (c_X2_isOpen aS vS x1 hq3) V_X2_isOpen k265 i_X2_isOpen s_X2_isOpen rfl rfl ⟨Nat.le_of_ble_eq_true rfl, Nat.le_of_ble_eq_true rfl⟩ (Nat.le_of_ble_eq_true rfl) ⟨Nat.le_refl _, Nat.le_refl _⟩ 8 2 rfl rfl rfl (isC := [8, 9, 10, 11, 12, 13, 14, 15, 16]) (isR := [0, 1, 2, 3, 4, 5, 6, 7, 17, 18, 19, 20, 21, 22, 23, 24, 25, 26, 27, 28, 29, 30, 31, 32, 33, 34, 35, 36, 37, 38, 39, 40, 41, 42, 43, 44, 45, 46, 47, 48, 49, 50, 51, 52, 53, 54, 55, 56, 57, 58, 59, 60, 61, 62, 63, 64, 65, 66, 67, 68, 69, 70, 71, 72]) (N := 73) ⟨rfl, by decide +kernel, rfl, by decide +kernel, rfl, ⟨⟨_, rfl, rfl⟩, ⟨⟨_, rfl, rfl⟩, ⟨⟨_, rfl, rfl⟩, ⟨⟨_, rfl, rfl⟩, ⟨⟨_, rfl, rfl⟩, ⟨⟨_, rfl, rfl⟩, ⟨⟨_, rfl, rfl⟩, ⟨⟨_, rfl, rfl⟩, ⟨⟨_, rfl, rfl⟩, ⟨⟨_, rfl, rfl⟩, ⟨⟨_, rfl, rfl⟩, ⟨⟨_, rfl, rfl⟩, ⟨⟨_, rfl, rfl⟩, ⟨⟨_, rfl, rfl⟩, ⟨⟨_, rfl, rfl⟩, ⟨⟨_, rfl, rfl⟩, ⟨⟨_, rfl, rfl⟩, ⟨⟨_, rfl, rfl⟩, ⟨⟨_, rfl, rfl⟩, ⟨⟨_, rfl, rfl⟩, ⟨⟨_, rfl, rfl⟩, ⟨⟨_, rfl, rfl⟩, ⟨⟨_, rfl, rfl⟩, ⟨⟨_, rfl, rfl⟩, ⟨⟨_, rfl, rfl⟩, ⟨⟨_, rfl, rfl⟩, ⟨⟨_, rfl, rfl⟩, ⟨⟨_, rfl, rfl⟩, ⟨⟨_, rfl, rfl⟩, ⟨⟨_, rfl, rfl⟩, ⟨⟨_, rfl, rfl⟩, ⟨⟨_, rfl, rfl⟩, ⟨⟨_, rfl, rfl⟩, ⟨⟨_, rfl, rfl⟩, ⟨⟨_, rfl, rfl⟩, ⟨⟨_, rfl, rfl⟩, ⟨⟨_, rfl, rfl⟩, ⟨⟨_, rfl, rfl⟩, ⟨⟨_, rfl, rfl⟩, ⟨⟨_, rfl, rfl⟩, ⟨⟨_, rfl, rfl⟩, ⟨⟨_, rfl, rfl⟩, ⟨⟨_, rfl, rfl⟩, ⟨⟨_, rfl, rfl⟩, ⟨⟨_, rfl, rfl⟩, ⟨⟨_, rfl, rfl⟩, ⟨⟨_, rfl, rfl⟩, ⟨⟨_, rfl, rfl⟩, ⟨⟨_, rfl, rfl⟩, ⟨⟨_, rfl, rfl⟩, ⟨⟨_, rfl, rfl⟩, ⟨⟨_, rfl, rfl⟩, ⟨⟨_, rfl, rfl⟩, ⟨⟨_, rfl, rfl⟩, ⟨⟨_, rfl, rfl⟩, ⟨⟨_, rfl, rfl⟩, ⟨⟨_, rfl, rfl⟩, ⟨⟨_, rfl, rfl⟩, ⟨⟨_, rfl, rfl⟩, ⟨⟨_, rfl, rfl⟩, ⟨⟨_, rfl, rfl⟩, ⟨⟨_, rfl, rfl⟩, ⟨⟨_, rfl, rfl⟩, ⟨⟨_, rfl, rfl⟩, trivial⟩⟩⟩⟩⟩⟩⟩⟩⟩⟩⟩⟩⟩⟩⟩⟩⟩⟩⟩⟩⟩⟩⟩⟩⟩⟩⟩⟩⟩⟩⟩⟩⟩⟩⟩⟩⟩⟩⟩⟩⟩⟩⟩⟩⟩⟩⟩⟩⟩⟩⟩⟩⟩⟩⟩⟩⟩⟩⟩⟩⟩⟩⟩⟩⟩ rfl ?_
    refine J_iload_n (pc := 17) C 9 rfl 2 rfl rfl ?_
    refine J_icmp_ne (pc := 18) (tgt := 24) C 10 rfl rfl (fun c4 => ?_) (fun c4 => ?_)
    · rw [if_neg c4] at h
      refine J_aload_n (pc := 24) C 13 rfl 0 rfl rfl ?_
      refine J_get (pc := 25) (v := .ref (aH 0)) C 14 rfl TB_l4 rfl 0 5 rfl (by decide) k206 rfl rfl ?_
      refine J_aload_n (pc := 28) C 15 rfl 0 rfl rfl ?_
      refine J_get (pc := 29) (v := .ref (aS 0)) C 16 rfl TB_l4 rfl 0 1 rfl (by decide) k197 rfl rfl ?_
      obtain ⟨q5, hq5, h⟩ := bnd h
      refine J_callV (pc := 32) (st2 := []) (st3 := []) (ws2 := (wEx aX (aT 0) (aT2 0) (aS 0) (aS2 0) (aP 0) (aH 0) aB aU ++ (wSeat G aT (aS 0) (vT 1) (vT 2) (vT 3) (vT 4 0) (vT 5 0) (vT 6) (vT 7) (vT 8) ++ (wSch G aS (vS 0) (vS 1) (vS 2) (vS 3) (vS 4) (vS 5) (vS 6) (vS 7) (vS 8 0) (vS 9 0) ++ (wHis G aH (q5.1) (q5.2.1) ((q5.2.2) 1 0)))))) C 17 rfl (c_X0_remember aS aH vS hA hV hZ hq5) V_X0_remember k223 i_X0_remember s_X0_remember rfl rfl ⟨Nat.le_of_ble_eq_true rfl, Nat.le_of_ble_eq_true rfl⟩ (Nat.le_of_ble_eq_true rfl) ⟨Nat.le_refl _, Nat.le_refl _⟩ 17 0 rfl rfl rfl (isC := [8, 9, 10, 11, 12, 13, 14, 15, 16, 17, 18, 19, 20, 21, 22, 23, 24, 25, 26, 27, 28, 29, 30, 31, 32, 33, 34, 35, 36, 37, 38, 39, 40, 41, 42, 43, 44, 45, 46, 47, 48, 49, 50, 51, 52, 53, 54, 55, 56, 57, 58, 59, 60, 61, 62, 63, 64, 65, 66, 67, 68, 69, 70, 71, 72]) (isR := [0, 1, 2, 3, 4, 5, 6, 7]) (N := 73) ⟨rfl, by decide +kernel, rfl, by decide +kernel, rfl, ⟨⟨_, rfl, rfl⟩, ⟨⟨_, rfl, rfl⟩, ⟨⟨_, rfl, rfl⟩, ⟨⟨_, rfl, rfl⟩, ⟨⟨_, rfl, rfl⟩, ⟨⟨_, rfl, rfl⟩, ⟨⟨_, rfl, rfl⟩, ⟨⟨_, rfl, rfl⟩, trivial⟩⟩⟩⟩⟩⟩⟩⟩⟩ rfl ?_
      refine J_aload_n (pc := 35) C 18 rfl 0 rfl rfl ?_
      refine J_get (pc := 36) (v := .ref (aS 0)) C 19 rfl TB_l4 rfl 0 1 rfl (by decide) k197 rfl rfl ?_
      refine J_dup (pc := 39) C 20 rfl rfl ?_
      refine J_get (pc := 40) (v := .int (vS 9 0)) C 21 rfl TB_l2 rfl 8 9 rfl (by decide) k263 rfl rfl ?_
      refine J_iconst (pc := 43) (v := (1 : Int32)) C 22 rfl rfl ?_
      refine J_iload_n (pc := 44) C 23 rfl 1 rfl rfl ?_
      refine J_ishl (pc := 45) C 24 rfl  ?_
      refine J_ixor (pc := 46) C 25 rfl  ?_
      refine J_puti (pc := 47) C 26 (fun vv => (wEx aX (aT 0) (aT2 0) (aS 0) (aS2 0) (aP 0) (aH 0) aB aU ++ (wSeat G aT (aS 0) (vT 1) (vT 2) (vT 3) (vT 4 0) (vT 5 0) (vT 6) (vT 7) (vT 8) ++ (wSch G aS (vS 0) (vS 1) (vS 2) (vS 3) (vS 4) (vS 5) (vS 6) (vS 7) (vS 8 0) vv ++ (wHis G aH (q5.1) (q5.2.1) ((q5.2.2) 1 0)))))) rfl TB_l2 tyX2 tyX2_ok nmX2 rfl 8 9 rfl (by decide) k263 rfl rfl rfl (Nat.le_of_ble_eq_true rfl) (fun _ => rfl) ?_
      refine J_aload_n (pc := 50) C 27 rfl 0 rfl rfl ?_
      refine J_get (pc := 51) (v := .ref (aT 0)) C 28 rfl TB_l4 rfl 0 0 rfl (by decide) k195 rfl rfl ?_
      obtain ⟨q6, hq6, h⟩ := bnd h
      refine J_callV (pc := 54) (st2 := []) (st3 := []) (ws2 := (wEx aX (aT 0) (aT2 0) (aS 0) (aS2 0) (aP 0) (aH 0) aB aU ++ (wSeat G aT (aS 0) (q6 1) (q6 2) (q6 3) (q6 4 0) (q6 5 0) (q6 6) (q6 7) (q6 8) ++ (wSch G aS (vS 0) (vS 1) (vS 2) (vS 3) (vS 4) (vS 5) (vS 6) (vS 7) (vS 8 0) ((vS 9 0) ^^^ ((1 : Int32) <<< (x1 &&& 31))) ++ (wHis G aH (q5.1) (q5.2.1) ((q5.2.2) 1 0)))))) C 29 rfl (c_X3_seatAll aT aS vT (up2 vS 9 0 ((vS 9 0) ^^^ ((1 : Int32) <<< (x1 &&& 31)))) hq6) V_X3_seatAll k214 i_X3_seatAll s_X3_seatAll rfl rfl ⟨Nat.le_of_ble_eq_true rfl, Nat.le_of_ble_eq_true rfl⟩ (Nat.le_of_ble_eq_true rfl) ⟨Nat.le_refl _, Nat.le_refl _⟩ 1 3 rfl rfl rfl (isC := [1, 2, 3, 4, 5, 6, 7, 8, 9, 10, 11, 12, 13, 14, 15, 16]) (isR := [0, 17, 18, 19, 20, 21, 22, 23, 24, 25, 26, 27, 28, 29, 30, 31, 32, 33, 34, 35, 36, 37, 38, 39, 40, 41, 42, 43, 44, 45, 46, 47, 48, 49, 50, 51, 52, 53, 54, 55, 56, 57, 58, 59, 60, 61, 62, 63, 64, 65, 66, 67, 68, 69, 70, 71, 72]) (N := 73) ⟨rfl, by decide +kernel, rfl, by decide +kernel, rfl, ⟨⟨_, rfl, rfl⟩, ⟨⟨_, rfl, rfl⟩, ⟨⟨_, rfl, rfl⟩, ⟨⟨_, rfl, rfl⟩, ⟨⟨_, rfl, rfl⟩, ⟨⟨_, rfl, rfl⟩, ⟨⟨_, rfl, rfl⟩, ⟨⟨_, rfl, rfl⟩, ⟨⟨_, rfl, rfl⟩, ⟨⟨_, rfl, rfl⟩, ⟨⟨_, rfl, rfl⟩, ⟨⟨_, rfl, rfl⟩, ⟨⟨_, rfl, rfl⟩, ⟨⟨_, rfl, rfl⟩, ⟨⟨_, rfl, rfl⟩, ⟨⟨_, rfl, rfl⟩, ⟨⟨_, rfl, rfl⟩, ⟨⟨_, rfl, rfl⟩, ⟨⟨_, rfl, rfl⟩, ⟨⟨_, rfl, rfl⟩, ⟨⟨_, rfl, rfl⟩, ⟨⟨_, rfl, rfl⟩, ⟨⟨_, rfl, rfl⟩, ⟨⟨_, rfl, rfl⟩, ⟨⟨_, rfl, rfl⟩, ⟨⟨_, rfl, rfl⟩, ⟨⟨_, rfl, rfl⟩, ⟨⟨_, rfl, rfl⟩, ⟨⟨_, rfl, rfl⟩, ⟨⟨_, rfl, rfl⟩, ⟨⟨_, rfl, rfl⟩, ⟨⟨_, rfl, rfl⟩, ⟨⟨_, rfl, rfl⟩, ⟨⟨_, rfl, rfl⟩, ⟨⟨_, rfl, rfl⟩, ⟨⟨_, rfl, rfl⟩, ⟨⟨_, rfl, rfl⟩, ⟨⟨_, rfl, rfl⟩, ⟨⟨_, rfl, rfl⟩, ⟨⟨_, rfl, rfl⟩, ⟨⟨_, rfl, rfl⟩, ⟨⟨_, rfl, rfl⟩, ⟨⟨_, rfl, rfl⟩, ⟨⟨_, rfl, rfl⟩, ⟨⟨_, rfl, rfl⟩, ⟨⟨_, rfl, rfl⟩, ⟨⟨_, rfl, rfl⟩, ⟨⟨_, rfl, rfl⟩, ⟨⟨_, rfl, rfl⟩, ⟨⟨_, rfl, rfl⟩, ⟨⟨_, rfl, rfl⟩, ⟨⟨_, rfl, rfl⟩, ⟨⟨_, rfl, rfl⟩, ⟨⟨_, rfl, rfl⟩, ⟨⟨_, rfl, rfl⟩, ⟨⟨_, rfl, rfl⟩, ⟨⟨_, rfl, rfl⟩, trivial⟩⟩⟩⟩⟩⟩⟩⟩⟩⟩⟩⟩⟩⟩⟩⟩⟩⟩⟩⟩⟩⟩⟩⟩⟩⟩⟩⟩⟩⟩⟩⟩⟩⟩⟩⟩⟩⟩⟩⟩⟩⟩⟩⟩⟩⟩⟩⟩⟩⟩⟩⟩⟩⟩⟩⟩⟩⟩ rfl ?_
      refine J_aload_n (pc := 57) C 30 rfl 0 rfl rfl ?_
      refine J_get (pc := 58) (v := .ref (aT 0)) C 31 rfl TB_l4 rfl 0 0 rfl (by decide) k195 rfl rfl ?_
      refine J_get (pc := 61) (v := .int (q6 4 0)) C 32 rfl TB_l3 rfl 1 4 rfl (by decide) k264 rfl rfl ?_
      cases h
      exact J_iret (pc := 64) C 33 rfl
    · rw [if_pos c4] at h
      refine J_bipush (pc := 21) (v := (-5 : Int32)) C 11 rfl rfl ?_
      cases h
      exact J_iret (pc := 23) C 12 rfl
  · rw [if_pos c2] at h
    refine J_iconst (pc := 7) (v := (-1 : Int32)) C 3 rfl rfl ?_
    cases h
    exact J_iret (pc := 8) C 4 rfl
def T_X4_pupilOf : List (Nat × ClassFile.Instr × Nat) := [(0, .aload_n 0, 1), (1, .iload_n 1, 1), (2, .invokevirtual 114, 3), (5, .ifCond .ne 5, 3), (8, .iconst (-1), 1), (9, .ireturn, 1), (10, .iload_n 2, 1), (11, .tableswitch 102 0 5 #[37, 47, 57, 75, 84, 93], 37), (48, .aload_n 0, 1), (49, .getfield 20, 3), (52, .getfield 125, 3), (55, .iload_n 1, 1), (56, .iaload, 1), (57, .ireturn, 1), (58, .aload_n 0, 1), (59, .getfield 20, 3), (62, .getfield 153, 3), (65, .iload_n 1, 1), (66, .iaload, 1), (67, .ireturn, 1), (68, .aload_n 0, 1), (69, .getfield 20, 3), (72, .getfield 156, 3), (75, .iload_n 1, 1), (76, .baload, 1), (77, .ifCond .eq 7, 3), (80, .iconst 1, 1), (81, .goto 4, 3), (84, .iconst 0, 1), (85, .ireturn, 1), (86, .aload_n 0, 1), (87, .getfield 20, 3), (90, .iload_n 1, 1), (91, .invokevirtual 121, 3), (94, .ireturn, 1), (95, .aload_n 0, 1), (96, .getfield 12, 3), (99, .iload_n 1, 1), (100, .invokevirtual 159, 3), (103, .ireturn, 1), (104, .aload_n 0, 1), (105, .getfield 20, 3), (108, .iload_n 1, 1), (109, .invokevirtual 162, 3), (112, .ireturn, 1), (113, .bipush (-2), 2), (115, .ireturn, 1)]
theorem D_X4_pupilOf : ∀ q ∈ T_X4_pupilOf, decode cX4_pupilOf q.1 = .ok q.2 := by decide +kernel
theorem V_X4_pupilOf : Vy yX4_pupilOf cX4_pupilOf 3 (some .int) 2 := ⟨k275, k56, by decide +kernel⟩
theorem i_X4_pupilOf : Cond.instanceMethod yX4_pupilOf ∈ TB := k360
theorem s_X4_pupilOf : Cond.selects yX4_pupilOf.cls yX4_pupilOf yX4_pupilOf ∈ TB := k361
noncomputable def f_X4_pupilOf (vT : JV) (vS : JV) (x1 : Int32) (x2 : Int32) : Option (Int32) :=
  (f_X4_isPupil vS x1).bind (fun q1 => (if q1 = 0 then some (-1 : Int32) else (if x2 = (0 : Int32) then gd (inb x1 16) (some ((vS 3) (Int32.toNatClampNeg x1))) else (if x2 = (1 : Int32) then gd (inb x1 16) (some ((vS 4) (Int32.toNatClampNeg x1))) else (if x2 = (2 : Int32) then gd (inb x1 16) ((if ((vS 5) (Int32.toNatClampNeg x1)) = 0 then some (0 : Int32) else some (1 : Int32))) else (if x2 = (3 : Int32) then (f_X2_clashesOf vS x1).bind (fun q11 => some q11) else (if x2 = (4 : Int32) then (f_X3_unplacedPapersOf vT vS x1).bind (fun q13 => some q13) else (if x2 = (5 : Int32) then (f_X2_minutesOf vS x1).bind (fun q15 => some q15) else some (-2 : Int32)))))))))
set_option maxRecDepth 100000 in
set_option maxHeartbeats 4000000 in
theorem c_X4_pupilOf {l : Launch} {G : JG} (aX : Nat) (aT : Nat → Nat) (aS : Nat → Nat) (aT2 : Nat → Nat) (aS2 : Nat → Nat) (aP : Nat → Nat) (aH : Nat → Nat) (aB : Nat) (aU : Nat) (vT : JV) (vS : JV) (x1 : Int32) (x2 : Int32) {Rz : Int32} (h : f_X4_pupilOf vT vS x1 x2 = some Rz) : JM l G yX4_pupilOf cX4_pupilOf 3 (some .int) 4 91 [.ref aX, .int x1, .int x2] (wEx aX (aT 0) (aT2 0) (aS 0) (aS2 0) (aP 0) (aH 0) aB aU ++ (wSeat G aT (aS 0) (vT 1) (vT 2) (vT 3) (vT 4 0) (vT 5 0) (vT 6) (vT 7) (vT 8) ++ (wSch G aS (vS 0) (vS 1) (vS 2) (vS 3) (vS 4) (vS 5) (vS 6) (vS 7) (vS 8 0) (vS 9 0)))) (wEx aX (aT 0) (aT2 0) (aS 0) (aS2 0) (aP 0) (aH 0) aB aU ++ (wSeat G aT (aS 0) (vT 1) (vT 2) (vT 3) (vT 4 0) (vT 5 0) (vT 6) (vT 7) (vT 8) ++ (wSch G aS (vS 0) (vS 1) (vS 2) (vS 3) (vS 4) (vS 5) (vS 6) (vS 7) (vS 8 0) (vS 9 0)))) (some (.int Rz)) := by
  refine JM.of (own := RX4) (tb := T_X4_pupilOf) (by decide) (Nat.le_of_ble_eq_true rfl) D_X4_pupilOf rfl (fun X C => ?_)
  refine J_sub (lv' := [(0, .ref aX), (1, .int x1), (2, .int x2)]) [0, 1, 2] rfl ?_
  unfold f_X4_pupilOf at h
  refine J_aload_n (pc := 0) C 0 rfl 0 rfl rfl ?_
  refine J_iload_n (pc := 1) C 1 rfl 1 rfl rfl ?_
  obtain ⟨q1, hq1, h⟩ := bnd h
  refine J_callV (pc := 2) (st2 := []) (st3 := [.int q1]) (ws2 := (wEx aX (aT 0) (aT2 0) (aS 0) (aS2 0) (aP 0) (aH 0) aB aU ++ (wSeat G aT (aS 0) (vT 1) (vT 2) (vT 3) (vT 4 0) (vT 5 0) (vT 6) (vT 7) (vT 8) ++ (wSch G aS (vS 0) (vS 1) (vS 2) (vS 3) (vS 4) (vS 5) (vS 6) (vS 7) (vS 8 0) (vS 9 0))))) C 2 rfl (c_X4_isPupil aX aT aS aT2 aS2 aP aH aB aU vS x1 hq1) V_X4_isPupil k245 i_X4_isPupil s_X4_isPupil rfl rfl ⟨Nat.le_of_ble_eq_true rfl, Nat.le_of_ble_eq_true rfl⟩ (Nat.le_of_ble_eq_true rfl) ⟨Nat.le_refl _, Nat.le_refl _⟩ 0 4 rfl rfl rfl (isC := [0, 8, 9, 10, 11, 12, 13, 14, 15, 16]) (isR := [1, 2, 3, 4, 5, 6, 7]) (N := 17) ⟨rfl, by decide +kernel, rfl, by decide +kernel, rfl, ⟨⟨_, rfl, rfl⟩, ⟨⟨_, rfl, rfl⟩, ⟨⟨_, rfl, rfl⟩, ⟨⟨_, rfl, rfl⟩, ⟨⟨_, rfl, rfl⟩, ⟨⟨_, rfl, rfl⟩, ⟨⟨_, rfl, rfl⟩, trivial⟩⟩⟩⟩⟩⟩⟩⟩ rfl ?_
  refine J_if_ne (pc := 5) (tgt := 10) C 3 rfl rfl (fun c2 => ?_) (fun c2 => ?_)
  · rw [if_neg c2] at h
    refine J_iload_n (pc := 10) C 6 rfl 2 rfl rfl ?_
    by_cases c3 : x2 = (0 : Int32)
    · rw [if_pos c3] at h
      refine J_tabIn (pc := 11) (tgt := 48) C 7 rfl (by rw [c3]; decide) (by rw [c3]; decide) (by rw [c3]; rfl) rfl ?_
      refine J_aload_n (pc := 48) C 8 rfl 0 rfl rfl ?_
      refine J_get (pc := 49) (v := .ref (aS 0)) C 9 rfl TB_l4 rfl 0 1 rfl (by decide) k197 rfl rfl ?_
      refine J_get (pc := 52) (v := .ref (aS 4)) C 10 rfl TB_l2 rfl 8 3 rfl (by decide) k251 rfl rfl ?_
      refine J_iload_n (pc := 55) C 11 rfl 1 rfl rfl ?_
      obtain ⟨g4, h⟩ := gd_some h
      refine J_iald (pc := 56) (f := (vS 3)) (v := ((vS 3) (Int32.toNatClampNeg x1))) C 12 rfl 12 rfl g4 rfl ?_
      cases h
      exact J_iret (pc := 57) C 13 rfl
    · rw [if_neg c3] at h
      by_cases c5 : x2 = (1 : Int32)
      · rw [if_pos c5] at h
        refine J_tabIn (pc := 11) (tgt := 58) C 7 rfl (by rw [c5]; decide) (by rw [c5]; decide) (by rw [c5]; rfl) rfl ?_
        refine J_aload_n (pc := 58) C 14 rfl 0 rfl rfl ?_
        refine J_get (pc := 59) (v := .ref (aS 0)) C 15 rfl TB_l4 rfl 0 1 rfl (by decide) k197 rfl rfl ?_
        refine J_get (pc := 62) (v := .ref (aS 5)) C 16 rfl TB_l2 rfl 8 4 rfl (by decide) k267 rfl rfl ?_
        refine J_iload_n (pc := 65) C 17 rfl 1 rfl rfl ?_
        obtain ⟨g6, h⟩ := gd_some h
        refine J_iald (pc := 66) (f := (vS 4)) (v := ((vS 4) (Int32.toNatClampNeg x1))) C 18 rfl 13 rfl g6 rfl ?_
        cases h
        exact J_iret (pc := 67) C 19 rfl
      · rw [if_neg c5] at h
        by_cases c7 : x2 = (2 : Int32)
        · rw [if_pos c7] at h
          refine J_tabIn (pc := 11) (tgt := 68) C 7 rfl (by rw [c7]; decide) (by rw [c7]; decide) (by rw [c7]; rfl) rfl ?_
          refine J_aload_n (pc := 68) C 20 rfl 0 rfl rfl ?_
          refine J_get (pc := 69) (v := .ref (aS 0)) C 21 rfl TB_l4 rfl 0 1 rfl (by decide) k197 rfl rfl ?_
          refine J_get (pc := 72) (v := .ref (aS 6)) C 22 rfl TB_l2 rfl 8 5 rfl (by decide) k268 rfl rfl ?_
          refine J_iload_n (pc := 75) C 23 rfl 1 rfl rfl ?_
          obtain ⟨g8, h⟩ := gd_some h
          refine J_zald (pc := 76) (f := (vS 5)) (v := ((vS 5) (Int32.toNatClampNeg x1))) C 24 rfl 14 rfl g8 rfl ?_
          refine J_if_eq (pc := 77) (tgt := 84) C 25 rfl rfl (fun c9 => ?_) (fun c9 => ?_)
          · rw [if_pos c9] at h
            refine J_iconst (pc := 84) (v := (0 : Int32)) C 28 rfl rfl ?_
            cases h
            exact J_iret (pc := 85) C 29 rfl
          · rw [if_neg c9] at h
            refine J_iconst (pc := 80) (v := (1 : Int32)) C 26 rfl rfl ?_
            refine J_goto (pc := 81) (tgt := 85) C 27 rfl rfl ?_
            cases h
            exact J_iret (pc := 85) C 29 rfl
        · rw [if_neg c7] at h
          by_cases c10 : x2 = (3 : Int32)
          · rw [if_pos c10] at h
            refine J_tabIn (pc := 11) (tgt := 86) C 7 rfl (by rw [c10]; decide) (by rw [c10]; decide) (by rw [c10]; rfl) rfl ?_
            refine J_aload_n (pc := 86) C 30 rfl 0 rfl rfl ?_
            refine J_get (pc := 87) (v := .ref (aS 0)) C 31 rfl TB_l4 rfl 0 1 rfl (by decide) k197 rfl rfl ?_
            refine J_iload_n (pc := 90) C 32 rfl 1 rfl rfl ?_
            obtain ⟨q11, hq11, h⟩ := bnd h
            refine J_callV (pc := 91) (st2 := []) (st3 := [.int q11]) (ws2 := (wEx aX (aT 0) (aT2 0) (aS 0) (aS2 0) (aP 0) (aH 0) aB aU ++ (wSeat G aT (aS 0) (vT 1) (vT 2) (vT 3) (vT 4 0) (vT 5 0) (vT 6) (vT 7) (vT 8) ++ (wSch G aS (vS 0) (vS 1) (vS 2) (vS 3) (vS 4) (vS 5) (vS 6) (vS 7) (vS 8 0) (vS 9 0))))) C 33 rfl (c_X2_clashesOf aS vS x1 hq11) V_X2_clashesOf k249 i_X2_clashesOf s_X2_clashesOf rfl rfl ⟨Nat.le_of_ble_eq_true rfl, Nat.le_of_ble_eq_true rfl⟩ (Nat.le_of_ble_eq_true rfl) ⟨Nat.le_refl _, Nat.le_refl _⟩ 8 2 rfl rfl rfl (isC := [8, 9, 10, 11, 12, 13, 14, 15, 16]) (isR := [0, 1, 2, 3, 4, 5, 6, 7]) (N := 17) ⟨rfl, by decide +kernel, rfl, by decide +kernel, rfl, ⟨⟨_, rfl, rfl⟩, ⟨⟨_, rfl, rfl⟩, ⟨⟨_, rfl, rfl⟩, ⟨⟨_, rfl, rfl⟩, ⟨⟨_, rfl, rfl⟩, ⟨⟨_, rfl, rfl⟩, ⟨⟨_, rfl, rfl⟩, ⟨⟨_, rfl, rfl⟩, trivial⟩⟩⟩⟩⟩⟩⟩⟩⟩ rfl ?_
            cases h
            exact J_iret (pc := 94) C 34 rfl
          · rw [if_neg c10] at h
            by_cases c12 : x2 = (4 : Int32)
            · rw [if_pos c12] at h
              refine J_tabIn (pc := 11) (tgt := 95) C 7 rfl (by rw [c12]; decide) (by rw [c12]; decide) (by rw [c12]; rfl) rfl ?_
              refine J_aload_n (pc := 95) C 35 rfl 0 rfl rfl ?_
              refine J_get (pc := 96) (v := .ref (aT 0)) C 36 rfl TB_l4 rfl 0 0 rfl (by decide) k195 rfl rfl ?_
              refine J_iload_n (pc := 99) C 37 rfl 1 rfl rfl ?_
              obtain ⟨q13, hq13, h⟩ := bnd h
              refine J_callV (pc := 100) (st2 := []) (st3 := [.int q13]) (ws2 := (wEx aX (aT 0) (aT2 0) (aS 0) (aS2 0) (aP 0) (aH 0) aB aU ++ (wSeat G aT (aS 0) (vT 1) (vT 2) (vT 3) (vT 4 0) (vT 5 0) (vT 6) (vT 7) (vT 8) ++ (wSch G aS (vS 0) (vS 1) (vS 2) (vS 3) (vS 4) (vS 5) (vS 6) (vS 7) (vS 8 0) (vS 9 0))))) C 38 rfl (c_X3_unplacedPapersOf aT aS vT vS x1 hq13) V_X3_unplacedPapersOf k269 i_X3_unplacedPapersOf s_X3_unplacedPapersOf rfl rfl ⟨Nat.le_of_ble_eq_true rfl, Nat.le_of_ble_eq_true rfl⟩ (Nat.le_of_ble_eq_true rfl) ⟨Nat.le_refl _, Nat.le_refl _⟩ 1 3 rfl rfl rfl (isC := [1, 2, 3, 4, 5, 6, 7, 8, 9, 10, 11, 12, 13, 14, 15, 16]) (isR := [0]) (N := 17) ⟨rfl, by decide +kernel, rfl, by decide +kernel, rfl, ⟨⟨_, rfl, rfl⟩, trivial⟩⟩ rfl ?_
              cases h
              exact J_iret (pc := 103) C 39 rfl
            · rw [if_neg c12] at h
              by_cases c14 : x2 = (5 : Int32)
              · rw [if_pos c14] at h
                refine J_tabIn (pc := 11) (tgt := 104) C 7 rfl (by rw [c14]; decide) (by rw [c14]; decide) (by rw [c14]; rfl) rfl ?_
                refine J_aload_n (pc := 104) C 40 rfl 0 rfl rfl ?_
                refine J_get (pc := 105) (v := .ref (aS 0)) C 41 rfl TB_l4 rfl 0 1 rfl (by decide) k197 rfl rfl ?_
                refine J_iload_n (pc := 108) C 42 rfl 1 rfl rfl ?_
                obtain ⟨q15, hq15, h⟩ := bnd h
                refine J_callV (pc := 109) (st2 := []) (st3 := [.int q15]) (ws2 := (wEx aX (aT 0) (aT2 0) (aS 0) (aS2 0) (aP 0) (aH 0) aB aU ++ (wSeat G aT (aS 0) (vT 1) (vT 2) (vT 3) (vT 4 0) (vT 5 0) (vT 6) (vT 7) (vT 8) ++ (wSch G aS (vS 0) (vS 1) (vS 2) (vS 3) (vS 4) (vS 5) (vS 6) (vS 7) (vS 8 0) (vS 9 0))))) C 43 rfl (c_X2_minutesOf aS vS x1 hq15) V_X2_minutesOf k272 i_X2_minutesOf s_X2_minutesOf rfl rfl ⟨Nat.le_of_ble_eq_true rfl, Nat.le_of_ble_eq_true rfl⟩ (Nat.le_of_ble_eq_true rfl) ⟨Nat.le_refl _, Nat.le_refl _⟩ 8 2 rfl rfl rfl (isC := [8, 9, 10, 11, 12, 13, 14, 15, 16]) (isR := [0, 1, 2, 3, 4, 5, 6, 7]) (N := 17) ⟨rfl, by decide +kernel, rfl, by decide +kernel, rfl, ⟨⟨_, rfl, rfl⟩, ⟨⟨_, rfl, rfl⟩, ⟨⟨_, rfl, rfl⟩, ⟨⟨_, rfl, rfl⟩, ⟨⟨_, rfl, rfl⟩, ⟨⟨_, rfl, rfl⟩, ⟨⟨_, rfl, rfl⟩, ⟨⟨_, rfl, rfl⟩, trivial⟩⟩⟩⟩⟩⟩⟩⟩⟩ rfl ?_
                cases h
                exact J_iret (pc := 112) C 44 rfl
              · rw [if_neg c14] at h
                have ec3 := lv_neT (a := 0) c3 rfl
                have ec5 := lv_neT (a := 1) c5 rfl
                have ec7 := lv_neT (a := 2) c7 rfl
                have ec10 := lv_neT (a := 3) c10 rfl
                have ec12 := lv_neT (a := 4) c12 rfl
                have ec14 := lv_neT (a := 5) c14 rfl
                refine J_tabOut (pc := 11) (tgt := 113) C 7 rfl (by omega) rfl ?_
                refine J_bipush (pc := 113) (v := (-2 : Int32)) C 45 rfl rfl ?_
                cases h
                exact J_iret (pc := 115) C 46 rfl
  · rw [if_pos c2] at h
    refine J_iconst (pc := 8) (v := (-1 : Int32)) C 4 rfl rfl ?_
    cases h
    exact J_iret (pc := 9) C 5 rfl
def T_X4_paperOf : List (Nat × ClassFile.Instr × Nat) := [(0, .iload_n 1, 1), (1, .invokestatic 70, 3), (4, .ifCond .ne 5, 3), (7, .iconst (-1), 1), (8, .ireturn, 1), (9, .iload_n 2, 1), (10, .tableswitch 94 0 5 #[38, 48, 58, 67, 76, 85], 38), (48, .aload_n 0, 1), (49, .getfield 20, 3), (52, .getfield 77, 3), (55, .iload_n 1, 1), (56, .iaload, 1), (57, .ireturn, 1), (58, .aload_n 0, 1), (59, .getfield 20, 3), (62, .getfield 80, 3), (65, .iload_n 1, 1), (66, .iaload, 1), (67, .ireturn, 1), (68, .aload_n 0, 1), (69, .getfield 20, 3), (72, .iload_n 1, 1), (73, .invokevirtual 165, 3), (76, .ireturn, 1), (77, .aload_n 0, 1), (78, .getfield 20, 3), (81, .iload_n 1, 1), (82, .invokevirtual 168, 3), (85, .ireturn, 1), (86, .aload_n 0, 1), (87, .getfield 12, 3), (90, .iload_n 1, 1), (91, .invokevirtual 171, 3), (94, .ireturn, 1), (95, .aload_n 0, 1), (96, .getfield 12, 3), (99, .iload_n 1, 1), (100, .invokevirtual 174, 3), (103, .ireturn, 1), (104, .bipush (-2), 2), (106, .ireturn, 1)]
theorem D_X4_paperOf : ∀ q ∈ T_X4_paperOf, decode cX4_paperOf q.1 = .ok q.2 := by decide +kernel
theorem V_X4_paperOf : Vy yX4_paperOf cX4_paperOf 3 (some .int) 2 := ⟨k286, k56, by decide +kernel⟩
theorem i_X4_paperOf : Cond.instanceMethod yX4_paperOf ∈ TB := k354
theorem s_X4_paperOf : Cond.selects yX4_paperOf.cls yX4_paperOf yX4_paperOf ∈ TB := k355
noncomputable def f_X4_paperOf (vT : JV) (vS : JV) (x1 : Int32) (x2 : Int32) : Option (Int32) :=
  (f_X4_isPaper x1).bind (fun q1 => (if q1 = 0 then some (-1 : Int32) else (if x2 = (0 : Int32) then gd (inb x1 6) (some ((vS 1) (Int32.toNatClampNeg x1))) else (if x2 = (1 : Int32) then gd (inb x1 6) (some ((vS 2) (Int32.toNatClampNeg x1))) else (if x2 = (2 : Int32) then (f_X2_pupilsOf vS x1).bind (fun q8 => some q8) else (if x2 = (3 : Int32) then (f_X2_lastEndOf vS x1).bind (fun q10 => some q10) else (if x2 = (4 : Int32) then (f_X3_unplacedOf vT vS x1).bind (fun q12 => some q12) else (if x2 = (5 : Int32) then (f_X3_hallsOf vT vS x1).bind (fun q14 => some q14) else some (-2 : Int32)))))))))
set_option maxRecDepth 100000 in
set_option maxHeartbeats 4000000 in
theorem c_X4_paperOf {l : Launch} {G : JG} (aX : Nat) (aT : Nat → Nat) (aS : Nat → Nat) (aT2 : Nat → Nat) (aS2 : Nat → Nat) (aP : Nat → Nat) (aH : Nat → Nat) (aB : Nat) (aU : Nat) (vT : JV) (vS : JV) (x1 : Int32) (x2 : Int32) {Rz : Int32} (h : f_X4_paperOf vT vS x1 x2 = some Rz) : JM l G yX4_paperOf cX4_paperOf 3 (some .int) 4 89 [.ref aX, .int x1, .int x2] (wEx aX (aT 0) (aT2 0) (aS 0) (aS2 0) (aP 0) (aH 0) aB aU ++ (wSeat G aT (aS 0) (vT 1) (vT 2) (vT 3) (vT 4 0) (vT 5 0) (vT 6) (vT 7) (vT 8) ++ (wSch G aS (vS 0) (vS 1) (vS 2) (vS 3) (vS 4) (vS 5) (vS 6) (vS 7) (vS 8 0) (vS 9 0)))) (wEx aX (aT 0) (aT2 0) (aS 0) (aS2 0) (aP 0) (aH 0) aB aU ++ (wSeat G aT (aS 0) (vT 1) (vT 2) (vT 3) (vT 4 0) (vT 5 0) (vT 6) (vT 7) (vT 8) ++ (wSch G aS (vS 0) (vS 1) (vS 2) (vS 3) (vS 4) (vS 5) (vS 6) (vS 7) (vS 8 0) (vS 9 0)))) (some (.int Rz)) := by
  refine JM.of (own := RX4) (tb := T_X4_paperOf) (by decide) (Nat.le_of_ble_eq_true rfl) D_X4_paperOf rfl (fun X C => ?_)
  refine J_sub (lv' := [(0, .ref aX), (1, .int x1), (2, .int x2)]) [0, 1, 2] rfl ?_
  unfold f_X4_paperOf at h
  refine J_iload_n (pc := 0) C 0 rfl 1 rfl rfl ?_
  obtain ⟨q1, hq1, h⟩ := bnd h
  refine J_callS (pc := 1) (st2 := []) (st3 := [.int q1]) (ws2 := (wEx aX (aT 0) (aT2 0) (aS 0) (aS2 0) (aP 0) (aH 0) aB aU ++ (wSeat G aT (aS 0) (vT 1) (vT 2) (vT 3) (vT 4 0) (vT 5 0) (vT 6) (vT 7) (vT 8) ++ (wSch G aS (vS 0) (vS 1) (vS 2) (vS 3) (vS 4) (vS 5) (vS 6) (vS 7) (vS 8 0) (vS 9 0))))) C 1 rfl (c_X4_isPaper x1 hq1) V_X4_isPaper k231 t_X4_isPaper rfl rfl ⟨Nat.le_of_ble_eq_true rfl, Nat.le_of_ble_eq_true rfl⟩ (Nat.le_of_ble_eq_true rfl) ⟨Nat.le_refl _, Nat.le_refl _⟩ (isC := []) (isR := [0, 1, 2, 3, 4, 5, 6, 7, 8, 9, 10, 11, 12, 13, 14, 15, 16]) (N := 17) ⟨rfl, by decide +kernel, rfl, by decide +kernel, rfl, ⟨⟨_, rfl, rfl⟩, ⟨⟨_, rfl, rfl⟩, ⟨⟨_, rfl, rfl⟩, ⟨⟨_, rfl, rfl⟩, ⟨⟨_, rfl, rfl⟩, ⟨⟨_, rfl, rfl⟩, ⟨⟨_, rfl, rfl⟩, ⟨⟨_, rfl, rfl⟩, ⟨⟨_, rfl, rfl⟩, ⟨⟨_, rfl, rfl⟩, ⟨⟨_, rfl, rfl⟩, ⟨⟨_, rfl, rfl⟩, ⟨⟨_, rfl, rfl⟩, ⟨⟨_, rfl, rfl⟩, ⟨⟨_, rfl, rfl⟩, ⟨⟨_, rfl, rfl⟩, ⟨⟨_, rfl, rfl⟩, trivial⟩⟩⟩⟩⟩⟩⟩⟩⟩⟩⟩⟩⟩⟩⟩⟩⟩⟩ rfl ?_
  refine J_if_ne (pc := 4) (tgt := 9) C 2 rfl rfl (fun c2 => ?_) (fun c2 => ?_)
  · rw [if_neg c2] at h
    refine J_iload_n (pc := 9) C 5 rfl 2 rfl rfl ?_
    by_cases c3 : x2 = (0 : Int32)
    · rw [if_pos c3] at h
      refine J_tabIn (pc := 10) (tgt := 48) C 6 rfl (by rw [c3]; decide) (by rw [c3]; decide) (by rw [c3]; rfl) rfl ?_
      refine J_aload_n (pc := 48) C 7 rfl 0 rfl rfl ?_
      refine J_get (pc := 49) (v := .ref (aS 0)) C 8 rfl TB_l4 rfl 0 1 rfl (by decide) k197 rfl rfl ?_
      refine J_get (pc := 52) (v := .ref (aS 2)) C 9 rfl TB_l2 rfl 8 1 rfl (by decide) k229 rfl rfl ?_
      refine J_iload_n (pc := 55) C 10 rfl 1 rfl rfl ?_
      obtain ⟨g4, h⟩ := gd_some h
      refine J_iald (pc := 56) (f := (vS 1)) (v := ((vS 1) (Int32.toNatClampNeg x1))) C 11 rfl 10 rfl g4 rfl ?_
      cases h
      exact J_iret (pc := 57) C 12 rfl
    · rw [if_neg c3] at h
      by_cases c5 : x2 = (1 : Int32)
      · rw [if_pos c5] at h
        refine J_tabIn (pc := 10) (tgt := 58) C 6 rfl (by rw [c5]; decide) (by rw [c5]; decide) (by rw [c5]; rfl) rfl ?_
        refine J_aload_n (pc := 58) C 13 rfl 0 rfl rfl ?_
        refine J_get (pc := 59) (v := .ref (aS 0)) C 14 rfl TB_l4 rfl 0 1 rfl (by decide) k197 rfl rfl ?_
        refine J_get (pc := 62) (v := .ref (aS 3)) C 15 rfl TB_l2 rfl 8 2 rfl (by decide) k230 rfl rfl ?_
        refine J_iload_n (pc := 65) C 16 rfl 1 rfl rfl ?_
        obtain ⟨g6, h⟩ := gd_some h
        refine J_iald (pc := 66) (f := (vS 2)) (v := ((vS 2) (Int32.toNatClampNeg x1))) C 17 rfl 11 rfl g6 rfl ?_
        cases h
        exact J_iret (pc := 67) C 18 rfl
      · rw [if_neg c5] at h
        by_cases c7 : x2 = (2 : Int32)
        · rw [if_pos c7] at h
          refine J_tabIn (pc := 10) (tgt := 68) C 6 rfl (by rw [c7]; decide) (by rw [c7]; decide) (by rw [c7]; rfl) rfl ?_
          refine J_aload_n (pc := 68) C 19 rfl 0 rfl rfl ?_
          refine J_get (pc := 69) (v := .ref (aS 0)) C 20 rfl TB_l4 rfl 0 1 rfl (by decide) k197 rfl rfl ?_
          refine J_iload_n (pc := 72) C 21 rfl 1 rfl rfl ?_
          obtain ⟨q8, hq8, h⟩ := bnd h
          refine J_callV (pc := 73) (st2 := []) (st3 := [.int q8]) (ws2 := (wEx aX (aT 0) (aT2 0) (aS 0) (aS2 0) (aP 0) (aH 0) aB aU ++ (wSeat G aT (aS 0) (vT 1) (vT 2) (vT 3) (vT 4 0) (vT 5 0) (vT 6) (vT 7) (vT 8) ++ (wSch G aS (vS 0) (vS 1) (vS 2) (vS 3) (vS 4) (vS 5) (vS 6) (vS 7) (vS 8 0) (vS 9 0))))) C 22 rfl (c_X2_pupilsOf aS vS x1 hq8) V_X2_pupilsOf k276 i_X2_pupilsOf s_X2_pupilsOf rfl rfl ⟨Nat.le_of_ble_eq_true rfl, Nat.le_of_ble_eq_true rfl⟩ (Nat.le_of_ble_eq_true rfl) ⟨Nat.le_refl _, Nat.le_refl _⟩ 8 2 rfl rfl rfl (isC := [8, 9, 10, 11, 12, 13, 14, 15, 16]) (isR := [0, 1, 2, 3, 4, 5, 6, 7]) (N := 17) ⟨rfl, by decide +kernel, rfl, by decide +kernel, rfl, ⟨⟨_, rfl, rfl⟩, ⟨⟨_, rfl, rfl⟩, ⟨⟨_, rfl, rfl⟩, ⟨⟨_, rfl, rfl⟩, ⟨⟨_, rfl, rfl⟩, ⟨⟨_, rfl, rfl⟩, ⟨⟨_, rfl, rfl⟩, ⟨⟨_, rfl, rfl⟩, trivial⟩⟩⟩⟩⟩⟩⟩⟩⟩ rfl ?_
          cases h
          exact J_iret (pc := 76) C 23 rfl
        · rw [if_neg c7] at h
          by_cases c9 : x2 = (3 : Int32)
          · rw [if_pos c9] at h
            refine J_tabIn (pc := 10) (tgt := 77) C 6 rfl (by rw [c9]; decide) (by rw [c9]; decide) (by rw [c9]; rfl) rfl ?_
            refine J_aload_n (pc := 77) C 24 rfl 0 rfl rfl ?_
            refine J_get (pc := 78) (v := .ref (aS 0)) C 25 rfl TB_l4 rfl 0 1 rfl (by decide) k197 rfl rfl ?_
            refine J_iload_n (pc := 81) C 26 rfl 1 rfl rfl ?_
            obtain ⟨q10, hq10, h⟩ := bnd h
            refine J_callV (pc := 82) (st2 := []) (st3 := [.int q10]) (ws2 := (wEx aX (aT 0) (aT2 0) (aS 0) (aS2 0) (aP 0) (aH 0) aB aU ++ (wSeat G aT (aS 0) (vT 1) (vT 2) (vT 3) (vT 4 0) (vT 5 0) (vT 6) (vT 7) (vT 8) ++ (wSch G aS (vS 0) (vS 1) (vS 2) (vS 3) (vS 4) (vS 5) (vS 6) (vS 7) (vS 8 0) (vS 9 0))))) C 27 rfl (c_X2_lastEndOf aS vS x1 hq10) V_X2_lastEndOf k279 i_X2_lastEndOf s_X2_lastEndOf rfl rfl ⟨Nat.le_of_ble_eq_true rfl, Nat.le_of_ble_eq_true rfl⟩ (Nat.le_of_ble_eq_true rfl) ⟨Nat.le_refl _, Nat.le_refl _⟩ 8 2 rfl rfl rfl (isC := [8, 9, 10, 11, 12, 13, 14, 15, 16]) (isR := [0, 1, 2, 3, 4, 5, 6, 7]) (N := 17) ⟨rfl, by decide +kernel, rfl, by decide +kernel, rfl, ⟨⟨_, rfl, rfl⟩, ⟨⟨_, rfl, rfl⟩, ⟨⟨_, rfl, rfl⟩, ⟨⟨_, rfl, rfl⟩, ⟨⟨_, rfl, rfl⟩, ⟨⟨_, rfl, rfl⟩, ⟨⟨_, rfl, rfl⟩, ⟨⟨_, rfl, rfl⟩, trivial⟩⟩⟩⟩⟩⟩⟩⟩⟩ rfl ?_
            cases h
            exact J_iret (pc := 85) C 28 rfl
          · rw [if_neg c9] at h
            by_cases c11 : x2 = (4 : Int32)
            · rw [if_pos c11] at h
              refine J_tabIn (pc := 10) (tgt := 86) C 6 rfl (by rw [c11]; decide) (by rw [c11]; decide) (by rw [c11]; rfl) rfl ?_
              refine J_aload_n (pc := 86) C 29 rfl 0 rfl rfl ?_
              refine J_get (pc := 87) (v := .ref (aT 0)) C 30 rfl TB_l4 rfl 0 0 rfl (by decide) k195 rfl rfl ?_
              refine J_iload_n (pc := 90) C 31 rfl 1 rfl rfl ?_
              obtain ⟨q12, hq12, h⟩ := bnd h
              refine J_callV (pc := 91) (st2 := []) (st3 := [.int q12]) (ws2 := (wEx aX (aT 0) (aT2 0) (aS 0) (aS2 0) (aP 0) (aH 0) aB aU ++ (wSeat G aT (aS 0) (vT 1) (vT 2) (vT 3) (vT 4 0) (vT 5 0) (vT 6) (vT 7) (vT 8) ++ (wSch G aS (vS 0) (vS 1) (vS 2) (vS 3) (vS 4) (vS 5) (vS 6) (vS 7) (vS 8 0) (vS 9 0))))) C 32 rfl (c_X3_unplacedOf aT aS vT vS x1 hq12) V_X3_unplacedOf k280 i_X3_unplacedOf s_X3_unplacedOf rfl rfl ⟨Nat.le_of_ble_eq_true rfl, Nat.le_of_ble_eq_true rfl⟩ (Nat.le_of_ble_eq_true rfl) ⟨Nat.le_refl _, Nat.le_refl _⟩ 1 3 rfl rfl rfl (isC := [1, 2, 3, 4, 5, 6, 7, 8, 9, 10, 11, 12, 13, 14, 15, 16]) (isR := [0]) (N := 17) ⟨rfl, by decide +kernel, rfl, by decide +kernel, rfl, ⟨⟨_, rfl, rfl⟩, trivial⟩⟩ rfl ?_
              cases h
              exact J_iret (pc := 94) C 33 rfl
            · rw [if_neg c11] at h
              by_cases c13 : x2 = (5 : Int32)
              · rw [if_pos c13] at h
                refine J_tabIn (pc := 10) (tgt := 95) C 6 rfl (by rw [c13]; decide) (by rw [c13]; decide) (by rw [c13]; rfl) rfl ?_
                refine J_aload_n (pc := 95) C 34 rfl 0 rfl rfl ?_
                refine J_get (pc := 96) (v := .ref (aT 0)) C 35 rfl TB_l4 rfl 0 0 rfl (by decide) k195 rfl rfl ?_
                refine J_iload_n (pc := 99) C 36 rfl 1 rfl rfl ?_
                obtain ⟨q14, hq14, h⟩ := bnd h
                refine J_callV (pc := 100) (st2 := []) (st3 := [.int q14]) (ws2 := (wEx aX (aT 0) (aT2 0) (aS 0) (aS2 0) (aP 0) (aH 0) aB aU ++ (wSeat G aT (aS 0) (vT 1) (vT 2) (vT 3) (vT 4 0) (vT 5 0) (vT 6) (vT 7) (vT 8) ++ (wSch G aS (vS 0) (vS 1) (vS 2) (vS 3) (vS 4) (vS 5) (vS 6) (vS 7) (vS 8 0) (vS 9 0))))) C 37 rfl (c_X3_hallsOf aT aS vT vS x1 hq14) V_X3_hallsOf k283 i_X3_hallsOf s_X3_hallsOf rfl rfl ⟨Nat.le_of_ble_eq_true rfl, Nat.le_of_ble_eq_true rfl⟩ (Nat.le_of_ble_eq_true rfl) ⟨Nat.le_refl _, Nat.le_refl _⟩ 1 3 rfl rfl rfl (isC := [1, 2, 3, 4, 5, 6, 7, 8, 9, 10, 11, 12, 13, 14, 15, 16]) (isR := [0]) (N := 17) ⟨rfl, by decide +kernel, rfl, by decide +kernel, rfl, ⟨⟨_, rfl, rfl⟩, trivial⟩⟩ rfl ?_
                cases h
                exact J_iret (pc := 103) C 38 rfl
              · rw [if_neg c13] at h
                have ec3 := lv_neT (a := 0) c3 rfl
                have ec5 := lv_neT (a := 1) c5 rfl
                have ec7 := lv_neT (a := 2) c7 rfl
                have ec9 := lv_neT (a := 3) c9 rfl
                have ec11 := lv_neT (a := 4) c11 rfl
                have ec13 := lv_neT (a := 5) c13 rfl
                refine J_tabOut (pc := 10) (tgt := 104) C 6 rfl (by omega) rfl ?_
                refine J_bipush (pc := 104) (v := (-2 : Int32)) C 39 rfl rfl ?_
                cases h
                exact J_iret (pc := 106) C 40 rfl
  · rw [if_pos c2] at h
    refine J_iconst (pc := 7) (v := (-1 : Int32)) C 3 rfl rfl ?_
    cases h
    exact J_iret (pc := 8) C 4 rfl
def T_X4_sitting : List (Nat × ClassFile.Instr × Nat) := [(0, .aload_n 0, 1), (1, .iload_n 1, 1), (2, .invokevirtual 114, 3), (5, .ifCond .eq 10, 3), (8, .iload_n 2, 1), (9, .invokestatic 70, 3), (12, .ifCond .ne 5, 3), (15, .iconst (-1), 1), (16, .ireturn, 1), (17, .iload_n 3, 1), (18, .iconst 0, 1), (19, .iconst 5, 1), (20, .invokestatic 55, 3), (23, .ifCond .ne 6, 3), (26, .bipush (-2), 2), (28, .ireturn, 1), (29, .aload_n 0, 1), (30, .getfield 20, 3), (33, .iload_n 1, 1), (34, .iload_n 2, 1), (35, .invokevirtual 177, 3), (38, .ifCond .ne 6, 3), (41, .bipush (-5), 2), (43, .ireturn, 1), (44, .iload_n 1, 1), (45, .iload_n 2, 1), (46, .invokestatic 180, 3), (49, .istore 4, 2), (51, .iload_n 3, 1), (52, .tableswitch 88 0 4 #[36, 45, 55, 66, 77], 36), (88, .aload_n 0, 1), (89, .getfield 20, 3), (92, .iload_n 2, 1), (93, .invokevirtual 184, 3), (96, .ireturn, 1), (97, .aload_n 0, 1), (98, .getfield 20, 3), (101, .iload_n 1, 1), (102, .iload_n 2, 1), (103, .invokevirtual 187, 3), (106, .ireturn, 1), (107, .aload_n 0, 1), (108, .getfield 12, 3), (111, .getfield 190, 3), (114, .iload 4, 2), (116, .iaload, 1), (117, .ireturn, 1), (118, .aload_n 0, 1), (119, .getfield 12, 3), (122, .getfield 193, 3), (125, .iload 4, 2), (127, .iaload, 1), (128, .ireturn, 1), (129, .aload_n 0, 1), (130, .getfield 12, 3), (133, .getfield 196, 3), (136, .iload 4, 2), (138, .iaload, 1), (139, .ireturn, 1), (140, .aload_n 0, 1), (141, .getfield 20, 3), (144, .iload_n 1, 1), (145, .iload_n 2, 1), (146, .invokevirtual 199, 3), (149, .ireturn, 1)]
theorem D_X4_sitting : ∀ q ∈ T_X4_sitting, decode cX4_sitting q.1 = .ok q.2 := by decide +kernel
theorem V_X4_sitting : Vy yX4_sitting cX4_sitting 5 (some .int) 3 := ⟨k295, k56, by decide +kernel⟩
theorem i_X4_sitting : Cond.instanceMethod yX4_sitting ∈ TB := k346
theorem s_X4_sitting : Cond.selects yX4_sitting.cls yX4_sitting yX4_sitting ∈ TB := k347
noncomputable def f_X4_sitting (vT : JV) (vS : JV) (x1 : Int32) (x2 : Int32) (x3 : Int32) : Option (Int32) :=
  (f_X4_isPupil vS x1).bind (fun q1 => (if q1 = 0 then some (-1 : Int32) else (f_X4_isPaper x2).bind (fun q3 => (if q3 = 0 then some (-1 : Int32) else (f_X4_isWithin x3 (0 : Int32) (5 : Int32)).bind (fun q5 => (if q5 = 0 then some (-2 : Int32) else (f_X2_sits vS x1 x2).bind (fun q7 => (if q7 = 0 then some (-5 : Int32) else (f_X4_sittingNumber x1 x2).bind (fun q9 => (if x3 = (0 : Int32) then (f_X2_beginOf vS x2).bind (fun q11 => some q11) else (if x3 = (1 : Int32) then (f_X2_endOf vS x1 x2).bind (fun q13 => some q13) else (if x3 = (2 : Int32) then gd (inb q9 96) (some ((vT 1) (Int32.toNatClampNeg q9))) else (if x3 = (3 : Int32) then gd (inb q9 96) (some ((vT 2) (Int32.toNatClampNeg q9))) else (if x3 = (4 : Int32) then gd (inb q9 96) (some ((vT 3) (Int32.toNatClampNeg q9))) else (f_X2_clashingPapers vS x1 x2).bind (fun q20 => some q20)))))))))))))))
set_option maxRecDepth 100000 in
set_option maxHeartbeats 4000000 in
theorem c_X4_sitting {l : Launch} {G : JG} (aX : Nat) (aT : Nat → Nat) (aS : Nat → Nat) (aT2 : Nat → Nat) (aS2 : Nat → Nat) (aP : Nat → Nat) (aH : Nat → Nat) (aB : Nat) (aU : Nat) (vT : JV) (vS : JV) (x1 : Int32) (x2 : Int32) (x3 : Int32) {Rz : Int32} (h : f_X4_sitting vT vS x1 x2 x3 = some Rz) : JM l G yX4_sitting cX4_sitting 5 (some .int) 3 68 [.ref aX, .int x1, .int x2, .int x3] (wEx aX (aT 0) (aT2 0) (aS 0) (aS2 0) (aP 0) (aH 0) aB aU ++ (wSeat G aT (aS 0) (vT 1) (vT 2) (vT 3) (vT 4 0) (vT 5 0) (vT 6) (vT 7) (vT 8) ++ (wSch G aS (vS 0) (vS 1) (vS 2) (vS 3) (vS 4) (vS 5) (vS 6) (vS 7) (vS 8 0) (vS 9 0)))) (wEx aX (aT 0) (aT2 0) (aS 0) (aS2 0) (aP 0) (aH 0) aB aU ++ (wSeat G aT (aS 0) (vT 1) (vT 2) (vT 3) (vT 4 0) (vT 5 0) (vT 6) (vT 7) (vT 8) ++ (wSch G aS (vS 0) (vS 1) (vS 2) (vS 3) (vS 4) (vS 5) (vS 6) (vS 7) (vS 8 0) (vS 9 0)))) (some (.int Rz)) := by
  refine JM.of (own := RX4) (tb := T_X4_sitting) (by decide) (Nat.le_of_ble_eq_true rfl) D_X4_sitting rfl (fun X C => ?_)
  refine J_sub (lv' := [(0, .ref aX), (1, .int x1), (2, .int x2), (3, .int x3)]) [0, 1, 2, 3] rfl ?_
  unfold f_X4_sitting at h
  refine J_aload_n (pc := 0) C 0 rfl 0 rfl rfl ?_
  refine J_iload_n (pc := 1) C 1 rfl 1 rfl rfl ?_
  obtain ⟨q1, hq1, h⟩ := bnd h
  refine J_callV (pc := 2) (st2 := []) (st3 := [.int q1]) (ws2 := (wEx aX (aT 0) (aT2 0) (aS 0) (aS2 0) (aP 0) (aH 0) aB aU ++ (wSeat G aT (aS 0) (vT 1) (vT 2) (vT 3) (vT 4 0) (vT 5 0) (vT 6) (vT 7) (vT 8) ++ (wSch G aS (vS 0) (vS 1) (vS 2) (vS 3) (vS 4) (vS 5) (vS 6) (vS 7) (vS 8 0) (vS 9 0))))) C 2 rfl (c_X4_isPupil aX aT aS aT2 aS2 aP aH aB aU vS x1 hq1) V_X4_isPupil k245 i_X4_isPupil s_X4_isPupil rfl rfl ⟨Nat.le_of_ble_eq_true rfl, Nat.le_of_ble_eq_true rfl⟩ (Nat.le_of_ble_eq_true rfl) ⟨Nat.le_refl _, Nat.le_refl _⟩ 0 4 rfl rfl rfl (isC := [0, 8, 9, 10, 11, 12, 13, 14, 15, 16]) (isR := [1, 2, 3, 4, 5, 6, 7]) (N := 17) ⟨rfl, by decide +kernel, rfl, by decide +kernel, rfl, ⟨⟨_, rfl, rfl⟩, ⟨⟨_, rfl, rfl⟩, ⟨⟨_, rfl, rfl⟩, ⟨⟨_, rfl, rfl⟩, ⟨⟨_, rfl, rfl⟩, ⟨⟨_, rfl, rfl⟩, ⟨⟨_, rfl, rfl⟩, trivial⟩⟩⟩⟩⟩⟩⟩⟩ rfl ?_
  refine J_if_eq (pc := 5) (tgt := 15) C 3 rfl rfl (fun c2 => ?_) (fun c2 => ?_)
  · rw [if_pos c2] at h
    refine J_iconst (pc := 15) (v := (-1 : Int32)) C 7 rfl rfl ?_
    cases h
    exact J_iret (pc := 16) C 8 rfl
  · rw [if_neg c2] at h
    refine J_iload_n (pc := 8) C 4 rfl 2 rfl rfl ?_
    obtain ⟨q3, hq3, h⟩ := bnd h
    refine J_callS (pc := 9) (st2 := []) (st3 := [.int q3]) (ws2 := (wEx aX (aT 0) (aT2 0) (aS 0) (aS2 0) (aP 0) (aH 0) aB aU ++ (wSeat G aT (aS 0) (vT 1) (vT 2) (vT 3) (vT 4 0) (vT 5 0) (vT 6) (vT 7) (vT 8) ++ (wSch G aS (vS 0) (vS 1) (vS 2) (vS 3) (vS 4) (vS 5) (vS 6) (vS 7) (vS 8 0) (vS 9 0))))) C 5 rfl (c_X4_isPaper x2 hq3) V_X4_isPaper k231 t_X4_isPaper rfl rfl ⟨Nat.le_of_ble_eq_true rfl, Nat.le_of_ble_eq_true rfl⟩ (Nat.le_of_ble_eq_true rfl) ⟨Nat.le_refl _, Nat.le_refl _⟩ (isC := []) (isR := [0, 1, 2, 3, 4, 5, 6, 7, 8, 9, 10, 11, 12, 13, 14, 15, 16]) (N := 17) ⟨rfl, by decide +kernel, rfl, by decide +kernel, rfl, ⟨⟨_, rfl, rfl⟩, ⟨⟨_, rfl, rfl⟩, ⟨⟨_, rfl, rfl⟩, ⟨⟨_, rfl, rfl⟩, ⟨⟨_, rfl, rfl⟩, ⟨⟨_, rfl, rfl⟩, ⟨⟨_, rfl, rfl⟩, ⟨⟨_, rfl, rfl⟩, ⟨⟨_, rfl, rfl⟩, ⟨⟨_, rfl, rfl⟩, ⟨⟨_, rfl, rfl⟩, ⟨⟨_, rfl, rfl⟩, ⟨⟨_, rfl, rfl⟩, ⟨⟨_, rfl, rfl⟩, ⟨⟨_, rfl, rfl⟩, ⟨⟨_, rfl, rfl⟩, ⟨⟨_, rfl, rfl⟩, trivial⟩⟩⟩⟩⟩⟩⟩⟩⟩⟩⟩⟩⟩⟩⟩⟩⟩⟩ rfl ?_
    refine J_if_ne (pc := 12) (tgt := 17) C 6 rfl rfl (fun c4 => ?_) (fun c4 => ?_)
    · rw [if_neg c4] at h
      refine J_iload_n (pc := 17) C 9 rfl 3 rfl rfl ?_
      refine J_iconst (pc := 18) (v := (0 : Int32)) C 10 rfl rfl ?_
      refine J_iconst (pc := 19) (v := (5 : Int32)) C 11 rfl rfl ?_
      obtain ⟨q5, hq5, h⟩ := bnd h
      refine J_callS (pc := 20) (st2 := []) (st3 := [.int q5]) (ws2 := (wEx aX (aT 0) (aT2 0) (aS 0) (aS2 0) (aP 0) (aH 0) aB aU ++ (wSeat G aT (aS 0) (vT 1) (vT 2) (vT 3) (vT 4 0) (vT 5 0) (vT 6) (vT 7) (vT 8) ++ (wSch G aS (vS 0) (vS 1) (vS 2) (vS 3) (vS 4) (vS 5) (vS 6) (vS 7) (vS 8 0) (vS 9 0))))) C 12 rfl (c_X4_isWithin x3 (0 : Int32) (5 : Int32) hq5) V_X4_isWithin k221 t_X4_isWithin rfl rfl ⟨Nat.le_of_ble_eq_true rfl, Nat.le_of_ble_eq_true rfl⟩ (Nat.le_of_ble_eq_true rfl) ⟨Nat.le_refl _, Nat.le_refl _⟩ (isC := []) (isR := [0, 1, 2, 3, 4, 5, 6, 7, 8, 9, 10, 11, 12, 13, 14, 15, 16]) (N := 17) ⟨rfl, by decide +kernel, rfl, by decide +kernel, rfl, ⟨⟨_, rfl, rfl⟩, ⟨⟨_, rfl, rfl⟩, ⟨⟨_, rfl, rfl⟩, ⟨⟨_, rfl, rfl⟩, ⟨⟨_, rfl, rfl⟩, ⟨⟨_, rfl, rfl⟩, ⟨⟨_, rfl, rfl⟩, ⟨⟨_, rfl, rfl⟩, ⟨⟨_, rfl, rfl⟩, ⟨⟨_, rfl, rfl⟩, ⟨⟨_, rfl, rfl⟩, ⟨⟨_, rfl, rfl⟩, ⟨⟨_, rfl, rfl⟩, ⟨⟨_, rfl, rfl⟩, ⟨⟨_, rfl, rfl⟩, ⟨⟨_, rfl, rfl⟩, ⟨⟨_, rfl, rfl⟩, trivial⟩⟩⟩⟩⟩⟩⟩⟩⟩⟩⟩⟩⟩⟩⟩⟩⟩⟩ rfl ?_
      refine J_if_ne (pc := 23) (tgt := 29) C 13 rfl rfl (fun c6 => ?_) (fun c6 => ?_)
      · rw [if_neg c6] at h
        refine J_aload_n (pc := 29) C 16 rfl 0 rfl rfl ?_
        refine J_get (pc := 30) (v := .ref (aS 0)) C 17 rfl TB_l4 rfl 0 1 rfl (by decide) k197 rfl rfl ?_
        refine J_iload_n (pc := 33) C 18 rfl 1 rfl rfl ?_
        refine J_iload_n (pc := 34) C 19 rfl 2 rfl rfl ?_
        obtain ⟨q7, hq7, h⟩ := bnd h
        refine J_callV (pc := 35) (st2 := []) (st3 := [.int q7]) (ws2 := (wEx aX (aT 0) (aT2 0) (aS 0) (aS2 0) (aP 0) (aH 0) aB aU ++ (wSeat G aT (aS 0) (vT 1) (vT 2) (vT 3) (vT 4 0) (vT 5 0) (vT 6) (vT 7) (vT 8) ++ (wSch G aS (vS 0) (vS 1) (vS 2) (vS 3) (vS 4) (vS 5) (vS 6) (vS 7) (vS 8 0) (vS 9 0))))) C 20 rfl (c_X2_sits aS vS x1 x2 hq7) V_X2_sits k290 i_X2_sits s_X2_sits rfl rfl ⟨Nat.le_of_ble_eq_true rfl, Nat.le_of_ble_eq_true rfl⟩ (Nat.le_of_ble_eq_true rfl) ⟨Nat.le_refl _, Nat.le_refl _⟩ 8 2 rfl rfl rfl (isC := [8, 9, 10, 11, 12, 13, 14, 15, 16]) (isR := [0, 1, 2, 3, 4, 5, 6, 7]) (N := 17) ⟨rfl, by decide +kernel, rfl, by decide +kernel, rfl, ⟨⟨_, rfl, rfl⟩, ⟨⟨_, rfl, rfl⟩, ⟨⟨_, rfl, rfl⟩, ⟨⟨_, rfl, rfl⟩, ⟨⟨_, rfl, rfl⟩, ⟨⟨_, rfl, rfl⟩, ⟨⟨_, rfl, rfl⟩, ⟨⟨_, rfl, rfl⟩, trivial⟩⟩⟩⟩⟩⟩⟩⟩⟩ rfl ?_
        refine J_if_ne (pc := 38) (tgt := 44) C 21 rfl rfl (fun c8 => ?_) (fun c8 => ?_)
        · rw [if_neg c8] at h
          refine J_iload_n (pc := 44) C 24 rfl 1 rfl rfl ?_
          refine J_iload_n (pc := 45) C 25 rfl 2 rfl rfl ?_
          obtain ⟨q9, hq9, h⟩ := bnd h
          refine J_callS (pc := 46) (st2 := []) (st3 := [.int q9]) (ws2 := (wEx aX (aT 0) (aT2 0) (aS 0) (aS2 0) (aP 0) (aH 0) aB aU ++ (wSeat G aT (aS 0) (vT 1) (vT 2) (vT 3) (vT 4 0) (vT 5 0) (vT 6) (vT 7) (vT 8) ++ (wSch G aS (vS 0) (vS 1) (vS 2) (vS 3) (vS 4) (vS 5) (vS 6) (vS 7) (vS 8 0) (vS 9 0))))) C 26 rfl (c_X4_sittingNumber x1 x2 hq9) V_X4_sittingNumber k291 t_X4_sittingNumber rfl rfl ⟨Nat.le_of_ble_eq_true rfl, Nat.le_of_ble_eq_true rfl⟩ (Nat.le_of_ble_eq_true rfl) ⟨Nat.le_refl _, Nat.le_refl _⟩ (isC := []) (isR := [0, 1, 2, 3, 4, 5, 6, 7, 8, 9, 10, 11, 12, 13, 14, 15, 16]) (N := 17) ⟨rfl, by decide +kernel, rfl, by decide +kernel, rfl, ⟨⟨_, rfl, rfl⟩, ⟨⟨_, rfl, rfl⟩, ⟨⟨_, rfl, rfl⟩, ⟨⟨_, rfl, rfl⟩, ⟨⟨_, rfl, rfl⟩, ⟨⟨_, rfl, rfl⟩, ⟨⟨_, rfl, rfl⟩, ⟨⟨_, rfl, rfl⟩, ⟨⟨_, rfl, rfl⟩, ⟨⟨_, rfl, rfl⟩, ⟨⟨_, rfl, rfl⟩, ⟨⟨_, rfl, rfl⟩, ⟨⟨_, rfl, rfl⟩, ⟨⟨_, rfl, rfl⟩, ⟨⟨_, rfl, rfl⟩, ⟨⟨_, rfl, rfl⟩, ⟨⟨_, rfl, rfl⟩, trivial⟩⟩⟩⟩⟩⟩⟩⟩⟩⟩⟩⟩⟩⟩⟩⟩⟩⟩ rfl ?_
          refine J_istore (pc := 49) (lv' := [(4, .int q9), (0, .ref aX), (1, .int x1), (2, .int x2), (3, .int x3)]) C 27 rfl (by decide) rfl ?_
          refine J_iload_n (pc := 51) C 28 rfl 4 rfl rfl ?_
          by_cases c10 : x3 = (0 : Int32)
          · rw [if_pos c10] at h
            refine J_tabIn (pc := 52) (tgt := 88) C 29 rfl (by rw [c10]; decide) (by rw [c10]; decide) (by rw [c10]; rfl) rfl ?_
            refine J_aload_n (pc := 88) C 30 rfl 1 rfl rfl ?_
            refine J_get (pc := 89) (v := .ref (aS 0)) C 31 rfl TB_l4 rfl 0 1 rfl (by decide) k197 rfl rfl ?_
            refine J_iload_n (pc := 92) C 32 rfl 3 rfl rfl ?_
            obtain ⟨q11, hq11, h⟩ := bnd h
            refine J_callV (pc := 93) (st2 := []) (st3 := [.int q11]) (ws2 := (wEx aX (aT 0) (aT2 0) (aS 0) (aS2 0) (aP 0) (aH 0) aB aU ++ (wSeat G aT (aS 0) (vT 1) (vT 2) (vT 3) (vT 4 0) (vT 5 0) (vT 6) (vT 7) (vT 8) ++ (wSch G aS (vS 0) (vS 1) (vS 2) (vS 3) (vS 4) (vS 5) (vS 6) (vS 7) (vS 8 0) (vS 9 0))))) C 33 rfl (c_X2_beginOf aS vS x2 hq11) V_X2_beginOf k292 i_X2_beginOf s_X2_beginOf rfl rfl ⟨Nat.le_of_ble_eq_true rfl, Nat.le_of_ble_eq_true rfl⟩ (Nat.le_of_ble_eq_true rfl) ⟨Nat.le_refl _, Nat.le_refl _⟩ 8 2 rfl rfl rfl (isC := [8, 9, 10, 11, 12, 13, 14, 15, 16]) (isR := [0, 1, 2, 3, 4, 5, 6, 7]) (N := 17) ⟨rfl, by decide +kernel, rfl, by decide +kernel, rfl, ⟨⟨_, rfl, rfl⟩, ⟨⟨_, rfl, rfl⟩, ⟨⟨_, rfl, rfl⟩, ⟨⟨_, rfl, rfl⟩, ⟨⟨_, rfl, rfl⟩, ⟨⟨_, rfl, rfl⟩, ⟨⟨_, rfl, rfl⟩, ⟨⟨_, rfl, rfl⟩, trivial⟩⟩⟩⟩⟩⟩⟩⟩⟩ rfl ?_
            cases h
            exact J_iret (pc := 96) C 34 rfl
          · rw [if_neg c10] at h
            by_cases c12 : x3 = (1 : Int32)
            · rw [if_pos c12] at h
              refine J_tabIn (pc := 52) (tgt := 97) C 29 rfl (by rw [c12]; decide) (by rw [c12]; decide) (by rw [c12]; rfl) rfl ?_
              refine J_aload_n (pc := 97) C 35 rfl 1 rfl rfl ?_
              refine J_get (pc := 98) (v := .ref (aS 0)) C 36 rfl TB_l4 rfl 0 1 rfl (by decide) k197 rfl rfl ?_
              refine J_iload_n (pc := 101) C 37 rfl 2 rfl rfl ?_
              refine J_iload_n (pc := 102) C 38 rfl 3 rfl rfl ?_
              obtain ⟨q13, hq13, h⟩ := bnd h
              refine J_callV (pc := 103) (st2 := []) (st3 := [.int q13]) (ws2 := (wEx aX (aT 0) (aT2 0) (aS 0) (aS2 0) (aP 0) (aH 0) aB aU ++ (wSeat G aT (aS 0) (vT 1) (vT 2) (vT 3) (vT 4 0) (vT 5 0) (vT 6) (vT 7) (vT 8) ++ (wSch G aS (vS 0) (vS 1) (vS 2) (vS 3) (vS 4) (vS 5) (vS 6) (vS 7) (vS 8 0) (vS 9 0))))) C 39 rfl (c_X2_endOf aS vS x1 x2 hq13) V_X2_endOf k293 i_X2_endOf s_X2_endOf rfl rfl ⟨Nat.le_of_ble_eq_true rfl, Nat.le_of_ble_eq_true rfl⟩ (Nat.le_of_ble_eq_true rfl) ⟨Nat.le_refl _, Nat.le_refl _⟩ 8 2 rfl rfl rfl (isC := [8, 9, 10, 11, 12, 13, 14, 15, 16]) (isR := [0, 1, 2, 3, 4, 5, 6, 7]) (N := 17) ⟨rfl, by decide +kernel, rfl, by decide +kernel, rfl, ⟨⟨_, rfl, rfl⟩, ⟨⟨_, rfl, rfl⟩, ⟨⟨_, rfl, rfl⟩, ⟨⟨_, rfl, rfl⟩, ⟨⟨_, rfl, rfl⟩, ⟨⟨_, rfl, rfl⟩, ⟨⟨_, rfl, rfl⟩, ⟨⟨_, rfl, rfl⟩, trivial⟩⟩⟩⟩⟩⟩⟩⟩⟩ rfl ?_
              cases h
              exact J_iret (pc := 106) C 40 rfl
            · rw [if_neg c12] at h
              by_cases c14 : x3 = (2 : Int32)
              · rw [if_pos c14] at h
                refine J_tabIn (pc := 52) (tgt := 107) C 29 rfl (by rw [c14]; decide) (by rw [c14]; decide) (by rw [c14]; rfl) rfl ?_
                refine J_aload_n (pc := 107) C 41 rfl 1 rfl rfl ?_
                refine J_get (pc := 108) (v := .ref (aT 0)) C 42 rfl TB_l4 rfl 0 0 rfl (by decide) k195 rfl rfl ?_
                refine J_get (pc := 111) (v := .ref (aT 1)) C 43 rfl TB_l3 rfl 1 1 rfl (by decide) k287 rfl rfl ?_
                refine J_iload (pc := 114) C 44 rfl 0 rfl ?_
                obtain ⟨g15, h⟩ := gd_some h
                refine J_iald (pc := 116) (f := (vT 1)) (v := ((vT 1) (Int32.toNatClampNeg q9))) C 45 rfl 2 rfl g15 rfl ?_
                cases h
                exact J_iret (pc := 117) C 46 rfl
              · rw [if_neg c14] at h
                by_cases c16 : x3 = (3 : Int32)
                · rw [if_pos c16] at h
                  refine J_tabIn (pc := 52) (tgt := 118) C 29 rfl (by rw [c16]; decide) (by rw [c16]; decide) (by rw [c16]; rfl) rfl ?_
                  refine J_aload_n (pc := 118) C 47 rfl 1 rfl rfl ?_
                  refine J_get (pc := 119) (v := .ref (aT 0)) C 48 rfl TB_l4 rfl 0 0 rfl (by decide) k195 rfl rfl ?_
                  refine J_get (pc := 122) (v := .ref (aT 2)) C 49 rfl TB_l3 rfl 1 2 rfl (by decide) k288 rfl rfl ?_
                  refine J_iload (pc := 125) C 50 rfl 0 rfl ?_
                  obtain ⟨g17, h⟩ := gd_some h
                  refine J_iald (pc := 127) (f := (vT 2)) (v := ((vT 2) (Int32.toNatClampNeg q9))) C 51 rfl 3 rfl g17 rfl ?_
                  cases h
                  exact J_iret (pc := 128) C 52 rfl
                · rw [if_neg c16] at h
                  by_cases c18 : x3 = (4 : Int32)
                  · rw [if_pos c18] at h
                    refine J_tabIn (pc := 52) (tgt := 129) C 29 rfl (by rw [c18]; decide) (by rw [c18]; decide) (by rw [c18]; rfl) rfl ?_
                    refine J_aload_n (pc := 129) C 53 rfl 1 rfl rfl ?_
                    refine J_get (pc := 130) (v := .ref (aT 0)) C 54 rfl TB_l4 rfl 0 0 rfl (by decide) k195 rfl rfl ?_
                    refine J_get (pc := 133) (v := .ref (aT 3)) C 55 rfl TB_l3 rfl 1 3 rfl (by decide) k289 rfl rfl ?_
                    refine J_iload (pc := 136) C 56 rfl 0 rfl ?_
                    obtain ⟨g19, h⟩ := gd_some h
                    refine J_iald (pc := 138) (f := (vT 3)) (v := ((vT 3) (Int32.toNatClampNeg q9))) C 57 rfl 4 rfl g19 rfl ?_
                    cases h
                    exact J_iret (pc := 139) C 58 rfl
                  · rw [if_neg c18] at h
                    have ec10 := lv_neT (a := 0) c10 rfl
                    have ec12 := lv_neT (a := 1) c12 rfl
                    have ec14 := lv_neT (a := 2) c14 rfl
                    have ec16 := lv_neT (a := 3) c16 rfl
                    have ec18 := lv_neT (a := 4) c18 rfl
                    refine J_tabOut (pc := 52) (tgt := 140) C 29 rfl (by omega) rfl ?_
                    refine J_aload_n (pc := 140) C 59 rfl 1 rfl rfl ?_
                    refine J_get (pc := 141) (v := .ref (aS 0)) C 60 rfl TB_l4 rfl 0 1 rfl (by decide) k197 rfl rfl ?_
                    refine J_iload_n (pc := 144) C 61 rfl 2 rfl rfl ?_
                    refine J_iload_n (pc := 145) C 62 rfl 3 rfl rfl ?_
                    obtain ⟨q20, hq20, h⟩ := bnd h
                    refine J_callV (pc := 146) (st2 := []) (st3 := [.int q20]) (ws2 := (wEx aX (aT 0) (aT2 0) (aS 0) (aS2 0) (aP 0) (aH 0) aB aU ++ (wSeat G aT (aS 0) (vT 1) (vT 2) (vT 3) (vT 4 0) (vT 5 0) (vT 6) (vT 7) (vT 8) ++ (wSch G aS (vS 0) (vS 1) (vS 2) (vS 3) (vS 4) (vS 5) (vS 6) (vS 7) (vS 8 0) (vS 9 0))))) C 63 rfl (c_X2_clashingPapers aS vS x1 x2 hq20) V_X2_clashingPapers k294 i_X2_clashingPapers s_X2_clashingPapers rfl rfl ⟨Nat.le_of_ble_eq_true rfl, Nat.le_of_ble_eq_true rfl⟩ (Nat.le_of_ble_eq_true rfl) ⟨Nat.le_refl _, Nat.le_refl _⟩ 8 2 rfl rfl rfl (isC := [8, 9, 10, 11, 12, 13, 14, 15, 16]) (isR := [0, 1, 2, 3, 4, 5, 6, 7]) (N := 17) ⟨rfl, by decide +kernel, rfl, by decide +kernel, rfl, ⟨⟨_, rfl, rfl⟩, ⟨⟨_, rfl, rfl⟩, ⟨⟨_, rfl, rfl⟩, ⟨⟨_, rfl, rfl⟩, ⟨⟨_, rfl, rfl⟩, ⟨⟨_, rfl, rfl⟩, ⟨⟨_, rfl, rfl⟩, ⟨⟨_, rfl, rfl⟩, trivial⟩⟩⟩⟩⟩⟩⟩⟩⟩ rfl ?_
                    cases h
                    exact J_iret (pc := 149) C 64 rfl
        · rw [if_pos c8] at h
          refine J_bipush (pc := 41) (v := (-5 : Int32)) C 22 rfl rfl ?_
          cases h
          exact J_iret (pc := 43) C 23 rfl
      · rw [if_pos c6] at h
        refine J_bipush (pc := 26) (v := (-2 : Int32)) C 14 rfl rfl ?_
        cases h
        exact J_iret (pc := 28) C 15 rfl
    · rw [if_pos c4] at h
      refine J_iconst (pc := 15) (v := (-1 : Int32)) C 7 rfl rfl ?_
      cases h
      exact J_iret (pc := 16) C 8 rfl
def T_X4_hallOf : List (Nat × ClassFile.Instr × Nat) := [(0, .iload_n 1, 1), (1, .invokestatic 132, 3), (4, .ifCond .ne 5, 3), (7, .iconst (-1), 1), (8, .ireturn, 1), (9, .iload_n 2, 1), (10, .tableswitch 89 0 4 #[34, 44, 54, 71, 80], 34), (44, .aload_n 0, 1), (45, .getfield 20, 3), (48, .getfield 138, 3), (51, .iload_n 1, 1), (52, .iaload, 1), (53, .ireturn, 1), (54, .aload_n 0, 1), (55, .getfield 20, 3), (58, .getfield 141, 3), (61, .iload_n 1, 1), (62, .iaload, 1), (63, .ireturn, 1), (64, .aload_n 0, 1), (65, .getfield 20, 3), (68, .iload_n 1, 1), (69, .invokevirtual 144, 3), (72, .ifCond .eq 7, 3), (75, .iconst 1, 1), (76, .goto 4, 3), (79, .iconst 0, 1), (80, .ireturn, 1), (81, .aload_n 0, 1), (82, .getfield 12, 3), (85, .iload_n 1, 1), (86, .invokevirtual 202, 3), (89, .ireturn, 1), (90, .aload_n 0, 1), (91, .getfield 12, 3), (94, .iload_n 1, 1), (95, .invokevirtual 205, 3), (98, .ireturn, 1), (99, .bipush (-2), 2), (101, .ireturn, 1)]
theorem D_X4_hallOf : ∀ q ∈ T_X4_hallOf, decode cX4_hallOf q.1 = .ok q.2 := by decide +kernel
theorem V_X4_hallOf : Vy yX4_hallOf cX4_hallOf 3 (some .int) 2 := ⟨k302, k56, by decide +kernel⟩
theorem i_X4_hallOf : Cond.instanceMethod yX4_hallOf ∈ TB := k351
theorem s_X4_hallOf : Cond.selects yX4_hallOf.cls yX4_hallOf yX4_hallOf ∈ TB := k352
noncomputable def f_X4_hallOf (vT : JV) (vS : JV) (x1 : Int32) (x2 : Int32) : Option (Int32) :=
  (f_X4_isHall x1).bind (fun q1 => (if q1 = 0 then some (-1 : Int32) else (if x2 = (0 : Int32) then gd (inb x1 4) (some ((vS 6) (Int32.toNatClampNeg x1))) else (if x2 = (1 : Int32) then gd (inb x1 4) (some ((vS 7) (Int32.toNatClampNeg x1))) else (if x2 = (2 : Int32) then (f_X2_isOpen vS x1).bind (fun q8 => (if q8 = 0 then some (0 : Int32) else some (1 : Int32))) else (if x2 = (3 : Int32) then (f_X3_seatedIn vT x1).bind (fun q11 => some q11) else (if x2 = (4 : Int32) then (f_X3_mostTakenIn vT vS x1).bind (fun q13 => some q13) else some (-2 : Int32))))))))
set_option maxRecDepth 100000 in
set_option maxHeartbeats 4000000 in
theorem c_X4_hallOf {l : Launch} {G : JG} (aX : Nat) (aT : Nat → Nat) (aS : Nat → Nat) (aT2 : Nat → Nat) (aS2 : Nat → Nat) (aP : Nat → Nat) (aH : Nat → Nat) (aB : Nat) (aU : Nat) (vT : JV) (vS : JV) (x1 : Int32) (x2 : Int32) {Rz : Int32} (h : f_X4_hallOf vT vS x1 x2 = some Rz) : JM l G yX4_hallOf cX4_hallOf 3 (some .int) 6 136 [.ref aX, .int x1, .int x2] (wEx aX (aT 0) (aT2 0) (aS 0) (aS2 0) (aP 0) (aH 0) aB aU ++ (wSeat G aT (aS 0) (vT 1) (vT 2) (vT 3) (vT 4 0) (vT 5 0) (vT 6) (vT 7) (vT 8) ++ (wSch G aS (vS 0) (vS 1) (vS 2) (vS 3) (vS 4) (vS 5) (vS 6) (vS 7) (vS 8 0) (vS 9 0)))) (wEx aX (aT 0) (aT2 0) (aS 0) (aS2 0) (aP 0) (aH 0) aB aU ++ (wSeat G aT (aS 0) (vT 1) (vT 2) (vT 3) (vT 4 0) (vT 5 0) (vT 6) (vT 7) (vT 8) ++ (wSch G aS (vS 0) (vS 1) (vS 2) (vS 3) (vS 4) (vS 5) (vS 6) (vS 7) (vS 8 0) (vS 9 0)))) (some (.int Rz)) := by
  refine JM.of (own := RX4) (tb := T_X4_hallOf) (by decide) (Nat.le_of_ble_eq_true rfl) D_X4_hallOf rfl (fun X C => ?_)
  refine J_sub (lv' := [(0, .ref aX), (1, .int x1), (2, .int x2)]) [0, 1, 2] rfl ?_
  unfold f_X4_hallOf at h
  refine J_iload_n (pc := 0) C 0 rfl 1 rfl rfl ?_
  obtain ⟨q1, hq1, h⟩ := bnd h
  refine J_callS (pc := 1) (st2 := []) (st3 := [.int q1]) (ws2 := (wEx aX (aT 0) (aT2 0) (aS 0) (aS2 0) (aP 0) (aH 0) aB aU ++ (wSeat G aT (aS 0) (vT 1) (vT 2) (vT 3) (vT 4 0) (vT 5 0) (vT 6) (vT 7) (vT 8) ++ (wSch G aS (vS 0) (vS 1) (vS 2) (vS 3) (vS 4) (vS 5) (vS 6) (vS 7) (vS 8 0) (vS 9 0))))) C 1 rfl (c_X4_isHall x1 hq1) V_X4_isHall k259 t_X4_isHall rfl rfl ⟨Nat.le_of_ble_eq_true rfl, Nat.le_of_ble_eq_true rfl⟩ (Nat.le_of_ble_eq_true rfl) ⟨Nat.le_refl _, Nat.le_refl _⟩ (isC := []) (isR := [0, 1, 2, 3, 4, 5, 6, 7, 8, 9, 10, 11, 12, 13, 14, 15, 16]) (N := 17) ⟨rfl, by decide +kernel, rfl, by decide +kernel, rfl, ⟨⟨_, rfl, rfl⟩, ⟨⟨_, rfl, rfl⟩, ⟨⟨_, rfl, rfl⟩, ⟨⟨_, rfl, rfl⟩, ⟨⟨_, rfl, rfl⟩, ⟨⟨_, rfl, rfl⟩, ⟨⟨_, rfl, rfl⟩, ⟨⟨_, rfl, rfl⟩, ⟨⟨_, rfl, rfl⟩, ⟨⟨_, rfl, rfl⟩, ⟨⟨_, rfl, rfl⟩, ⟨⟨_, rfl, rfl⟩, ⟨⟨_, rfl, rfl⟩, ⟨⟨_, rfl, rfl⟩, ⟨⟨_, rfl, rfl⟩, ⟨⟨_, rfl, rfl⟩, ⟨⟨_, rfl, rfl⟩, trivial⟩⟩⟩⟩⟩⟩⟩⟩⟩⟩⟩⟩⟩⟩⟩⟩⟩⟩ rfl ?_
  refine J_if_ne (pc := 4) (tgt := 9) C 2 rfl rfl (fun c2 => ?_) (fun c2 => ?_)
  · rw [if_neg c2] at h
    refine J_iload_n (pc := 9) C 5 rfl 2 rfl rfl ?_
    by_cases c3 : x2 = (0 : Int32)
    · rw [if_pos c3] at h
      refine J_tabIn (pc := 10) (tgt := 44) C 6 rfl (by rw [c3]; decide) (by rw [c3]; decide) (by rw [c3]; rfl) rfl ?_
      refine J_aload_n (pc := 44) C 7 rfl 0 rfl rfl ?_
      refine J_get (pc := 45) (v := .ref (aS 0)) C 8 rfl TB_l4 rfl 0 1 rfl (by decide) k197 rfl rfl ?_
      refine J_get (pc := 48) (v := .ref (aS 7)) C 9 rfl TB_l2 rfl 8 6 rfl (by decide) k257 rfl rfl ?_
      refine J_iload_n (pc := 51) C 10 rfl 1 rfl rfl ?_
      obtain ⟨g4, h⟩ := gd_some h
      refine J_iald (pc := 52) (f := (vS 6)) (v := ((vS 6) (Int32.toNatClampNeg x1))) C 11 rfl 15 rfl g4 rfl ?_
      cases h
      exact J_iret (pc := 53) C 12 rfl
    · rw [if_neg c3] at h
      by_cases c5 : x2 = (1 : Int32)
      · rw [if_pos c5] at h
        refine J_tabIn (pc := 10) (tgt := 54) C 6 rfl (by rw [c5]; decide) (by rw [c5]; decide) (by rw [c5]; rfl) rfl ?_
        refine J_aload_n (pc := 54) C 13 rfl 0 rfl rfl ?_
        refine J_get (pc := 55) (v := .ref (aS 0)) C 14 rfl TB_l4 rfl 0 1 rfl (by decide) k197 rfl rfl ?_
        refine J_get (pc := 58) (v := .ref (aS 8)) C 15 rfl TB_l2 rfl 8 7 rfl (by decide) k258 rfl rfl ?_
        refine J_iload_n (pc := 61) C 16 rfl 1 rfl rfl ?_
        obtain ⟨g6, h⟩ := gd_some h
        refine J_iald (pc := 62) (f := (vS 7)) (v := ((vS 7) (Int32.toNatClampNeg x1))) C 17 rfl 16 rfl g6 rfl ?_
        cases h
        exact J_iret (pc := 63) C 18 rfl
      · rw [if_neg c5] at h
        by_cases c7 : x2 = (2 : Int32)
        · rw [if_pos c7] at h
          refine J_tabIn (pc := 10) (tgt := 64) C 6 rfl (by rw [c7]; decide) (by rw [c7]; decide) (by rw [c7]; rfl) rfl ?_
          refine J_aload_n (pc := 64) C 19 rfl 0 rfl rfl ?_
          refine J_get (pc := 65) (v := .ref (aS 0)) C 20 rfl TB_l4 rfl 0 1 rfl (by decide) k197 rfl rfl ?_
          refine J_iload_n (pc := 68) C 21 rfl 1 rfl rfl ?_
          obtain ⟨q8, hq8, h⟩ := bnd h
          refine J_callV (pc := 69) (st2 := []) (st3 := [.int q8]) (ws2 := (wEx aX (aT 0) (aT2 0) (aS 0) (aS2 0) (aP 0) (aH 0) aB aU ++ (wSeat G aT (aS 0) (vT 1) (vT 2) (vT 3) (vT 4 0) (vT 5 0) (vT 6) (vT 7) (vT 8) ++ (wSch G aS (vS 0) (vS 1) (vS 2) (vS 3) (vS 4) (vS 5) (vS 6) (vS 7) (vS 8 0) (vS 9 0))))) C 22 rfl (c_X2_isOpen aS vS x1 hq8) V_X2_isOpen k265 i_X2_isOpen s_X2_isOpen rfl rfl ⟨Nat.le_of_ble_eq_true rfl, Nat.le_of_ble_eq_true rfl⟩ (Nat.le_of_ble_eq_true rfl) ⟨Nat.le_refl _, Nat.le_refl _⟩ 8 2 rfl rfl rfl (isC := [8, 9, 10, 11, 12, 13, 14, 15, 16]) (isR := [0, 1, 2, 3, 4, 5, 6, 7]) (N := 17) ⟨rfl, by decide +kernel, rfl, by decide +kernel, rfl, ⟨⟨_, rfl, rfl⟩, ⟨⟨_, rfl, rfl⟩, ⟨⟨_, rfl, rfl⟩, ⟨⟨_, rfl, rfl⟩, ⟨⟨_, rfl, rfl⟩, ⟨⟨_, rfl, rfl⟩, ⟨⟨_, rfl, rfl⟩, ⟨⟨_, rfl, rfl⟩, trivial⟩⟩⟩⟩⟩⟩⟩⟩⟩ rfl ?_
          refine J_if_eq (pc := 72) (tgt := 79) C 23 rfl rfl (fun c9 => ?_) (fun c9 => ?_)
          · rw [if_pos c9] at h
            refine J_iconst (pc := 79) (v := (0 : Int32)) C 26 rfl rfl ?_
            cases h
            exact J_iret (pc := 80) C 27 rfl
          · rw [if_neg c9] at h
            refine J_iconst (pc := 75) (v := (1 : Int32)) C 24 rfl rfl ?_
            refine J_goto (pc := 76) (tgt := 80) C 25 rfl rfl ?_
            cases h
            exact J_iret (pc := 80) C 27 rfl
        · rw [if_neg c7] at h
          by_cases c10 : x2 = (3 : Int32)
          · rw [if_pos c10] at h
            refine J_tabIn (pc := 10) (tgt := 81) C 6 rfl (by rw [c10]; decide) (by rw [c10]; decide) (by rw [c10]; rfl) rfl ?_
            refine J_aload_n (pc := 81) C 28 rfl 0 rfl rfl ?_
            refine J_get (pc := 82) (v := .ref (aT 0)) C 29 rfl TB_l4 rfl 0 0 rfl (by decide) k195 rfl rfl ?_
            refine J_iload_n (pc := 85) C 30 rfl 1 rfl rfl ?_
            obtain ⟨q11, hq11, h⟩ := bnd h
            refine J_callV (pc := 86) (st2 := []) (st3 := [.int q11]) (ws2 := (wEx aX (aT 0) (aT2 0) (aS 0) (aS2 0) (aP 0) (aH 0) aB aU ++ (wSeat G aT (aS 0) (vT 1) (vT 2) (vT 3) (vT 4 0) (vT 5 0) (vT 6) (vT 7) (vT 8) ++ (wSch G aS (vS 0) (vS 1) (vS 2) (vS 3) (vS 4) (vS 5) (vS 6) (vS 7) (vS 8 0) (vS 9 0))))) C 31 rfl (c_X3_seatedIn aT aS vT x1 hq11) V_X3_seatedIn k296 i_X3_seatedIn s_X3_seatedIn rfl rfl ⟨Nat.le_of_ble_eq_true rfl, Nat.le_of_ble_eq_true rfl⟩ (Nat.le_of_ble_eq_true rfl) ⟨Nat.le_refl _, Nat.le_refl _⟩ 1 3 rfl rfl rfl (isC := [1, 2, 3, 4, 5, 6, 7]) (isR := [0, 8, 9, 10, 11, 12, 13, 14, 15, 16]) (N := 17) ⟨rfl, by decide +kernel, rfl, by decide +kernel, rfl, ⟨⟨_, rfl, rfl⟩, ⟨⟨_, rfl, rfl⟩, ⟨⟨_, rfl, rfl⟩, ⟨⟨_, rfl, rfl⟩, ⟨⟨_, rfl, rfl⟩, ⟨⟨_, rfl, rfl⟩, ⟨⟨_, rfl, rfl⟩, ⟨⟨_, rfl, rfl⟩, ⟨⟨_, rfl, rfl⟩, ⟨⟨_, rfl, rfl⟩, trivial⟩⟩⟩⟩⟩⟩⟩⟩⟩⟩⟩ rfl ?_
            cases h
            exact J_iret (pc := 89) C 32 rfl
          · rw [if_neg c10] at h
            by_cases c12 : x2 = (4 : Int32)
            · rw [if_pos c12] at h
              refine J_tabIn (pc := 10) (tgt := 90) C 6 rfl (by rw [c12]; decide) (by rw [c12]; decide) (by rw [c12]; rfl) rfl ?_
              refine J_aload_n (pc := 90) C 33 rfl 0 rfl rfl ?_
              refine J_get (pc := 91) (v := .ref (aT 0)) C 34 rfl TB_l4 rfl 0 0 rfl (by decide) k195 rfl rfl ?_
              refine J_iload_n (pc := 94) C 35 rfl 1 rfl rfl ?_
              obtain ⟨q13, hq13, h⟩ := bnd h
              refine J_callV (pc := 95) (st2 := []) (st3 := [.int q13]) (ws2 := (wEx aX (aT 0) (aT2 0) (aS 0) (aS2 0) (aP 0) (aH 0) aB aU ++ (wSeat G aT (aS 0) (vT 1) (vT 2) (vT 3) (vT 4 0) (vT 5 0) (vT 6) (vT 7) (vT 8) ++ (wSch G aS (vS 0) (vS 1) (vS 2) (vS 3) (vS 4) (vS 5) (vS 6) (vS 7) (vS 8 0) (vS 9 0))))) C 36 rfl (c_X3_mostTakenIn aT aS vT vS x1 hq13) V_X3_mostTakenIn k299 i_X3_mostTakenIn s_X3_mostTakenIn rfl rfl ⟨Nat.le_of_ble_eq_true rfl, Nat.le_of_ble_eq_true rfl⟩ (Nat.le_of_ble_eq_true rfl) ⟨Nat.le_refl _, Nat.le_refl _⟩ 1 3 rfl rfl rfl (isC := [1, 2, 3, 4, 5, 6, 7, 8, 9, 10, 11, 12, 13, 14, 15, 16]) (isR := [0]) (N := 17) ⟨rfl, by decide +kernel, rfl, by decide +kernel, rfl, ⟨⟨_, rfl, rfl⟩, trivial⟩⟩ rfl ?_
              cases h
              exact J_iret (pc := 98) C 37 rfl
            · rw [if_neg c12] at h
              have ec3 := lv_neT (a := 0) c3 rfl
              have ec5 := lv_neT (a := 1) c5 rfl
              have ec7 := lv_neT (a := 2) c7 rfl
              have ec10 := lv_neT (a := 3) c10 rfl
              have ec12 := lv_neT (a := 4) c12 rfl
              refine J_tabOut (pc := 10) (tgt := 99) C 6 rfl (by omega) rfl ?_
              refine J_bipush (pc := 99) (v := (-2 : Int32)) C 38 rfl rfl ?_
              cases h
              exact J_iret (pc := 101) C 39 rfl
  · rw [if_pos c2] at h
    refine J_iconst (pc := 7) (v := (-1 : Int32)) C 3 rfl rfl ?_
    cases h
    exact J_iret (pc := 8) C 4 rfl
def T_X4_count : List (Nat × ClassFile.Instr × Nat) := [(0, .iload_n 1, 1), (1, .tableswitch 157 0 12 #[67, 67, 67, 77, 85, 93, 101, 109, 117, 125, 133, 141, 149], 67), (68, .aload_n 0, 1), (69, .getfield 20, 3), (72, .getfield 63, 3), (75, .iload_n 1, 1), (76, .iaload, 1), (77, .ireturn, 1), (78, .aload_n 0, 1), (79, .getfield 20, 3), (82, .getfield 87, 3), (85, .ireturn, 1), (86, .aload_n 0, 1), (87, .getfield 20, 3), (90, .invokevirtual 208, 3), (93, .ireturn, 1), (94, .aload_n 0, 1), (95, .getfield 12, 3), (98, .getfield 150, 3), (101, .ireturn, 1), (102, .aload_n 0, 1), (103, .getfield 20, 3), (106, .invokevirtual 211, 3), (109, .ireturn, 1), (110, .aload_n 0, 1), (111, .getfield 20, 3), (114, .getfield 147, 3), (117, .ireturn, 1), (118, .aload_n 0, 1), (119, .getfield 20, 3), (122, .invokevirtual 214, 3), (125, .ireturn, 1), (126, .aload_n 0, 1), (127, .getfield 20, 3), (130, .invokevirtual 217, 3), (133, .ireturn, 1), (134, .aload_n 0, 1), (135, .getfield 20, 3), (138, .invokevirtual 220, 3), (141, .ireturn, 1), (142, .aload_n 0, 1), (143, .getfield 30, 3), (146, .getfield 111, 3), (149, .ireturn, 1), (150, .aload_n 0, 1), (151, .getfield 37, 3), (154, .getfield 223, 3), (157, .ireturn, 1), (158, .bipush (-2), 2), (160, .ireturn, 1)]
theorem D_X4_count : ∀ q ∈ T_X4_count, decode cX4_count q.1 = .ok q.2 := by decide +kernel
theorem V_X4_count : Vy yX4_count cX4_count 2 (some .int) 1 := ⟨k320, k56, by decide +kernel⟩
theorem i_X4_count : Cond.instanceMethod yX4_count ∈ TB := k363
theorem s_X4_count : Cond.selects yX4_count.cls yX4_count yX4_count ∈ TB := k364
noncomputable def f_X4_count (vT : JV) (vS : JV) (vP : JV) (hA : Nat → Nat → Nat) (hV : Nat → JV) (hZ : JV) (x1 : Int32) : Option (Int32) :=
  (if x1 = (0 : Int32) then gd (inb x1 3) (some ((vS 0) (Int32.toNatClampNeg x1))) else (if x1 = (1 : Int32) then gd (inb x1 3) (some ((vS 0) (Int32.toNatClampNeg x1))) else (if x1 = (2 : Int32) then gd (inb x1 3) (some ((vS 0) (Int32.toNatClampNeg x1))) else (if x1 = (3 : Int32) then some (vS 8 0) else (if x1 = (4 : Int32) then (f_X2_sittings vS).bind (fun q9 => some q9) else (if x1 = (5 : Int32) then some (vT 4 0) else (if x1 = (6 : Int32) then (f_X2_clashes vS).bind (fun q12 => some q12) else (if x1 = (7 : Int32) then some (vS 9 0) else (if x1 = (8 : Int32) then (f_X2_openDesks vS).bind (fun q15 => some q15) else (if x1 = (9 : Int32) then (f_X2_mostReaders vS).bind (fun q17 => some q17) else (if x1 = (10 : Int32) then (f_X2_lastEnd vS).bind (fun q19 => some q19) else (if x1 = (11 : Int32) then some (vP 1 0) else (if x1 = (12 : Int32) then some (hZ 1 0) else some (-2 : Int32))))))))))))))
set_option maxRecDepth 100000 in
set_option maxHeartbeats 4000000 in
theorem c_X4_count {l : Launch} {G : JG} (aX : Nat) (aT : Nat → Nat) (aS : Nat → Nat) (aT2 : Nat → Nat) (aS2 : Nat → Nat) (aP : Nat → Nat) (aH : Nat → Nat) (aB : Nat) (aU : Nat) (vT : JV) (vS : JV) (vP : JV) (hA : Nat → Nat → Nat) (hV : Nat → JV) (hZ : JV) (x1 : Int32) {Rz : Int32} (h : f_X4_count vT vS vP hA hV hZ x1 = some Rz) : JM l G yX4_count cX4_count 2 (some .int) 5 113 [.ref aX, .int x1] (wEx aX (aT 0) (aT2 0) (aS 0) (aS2 0) (aP 0) (aH 0) aB aU ++ (wSeat G aT (aS 0) (vT 1) (vT 2) (vT 3) (vT 4 0) (vT 5 0) (vT 6) (vT 7) (vT 8) ++ (wSch G aS (vS 0) (vS 1) (vS 2) (vS 3) (vS 4) (vS 5) (vS 6) (vS 7) (vS 8 0) (vS 9 0) ++ (wPad G aP (vP 0) (vP 1 0) (vP 2) (vP 3) (vP 4) (vP 5 0) (vP 6 0) (vP 7 0) (vP 8 0) (vP 9 0) ++ (wHis G aH hA hV (hZ 1 0)))))) (wEx aX (aT 0) (aT2 0) (aS 0) (aS2 0) (aP 0) (aH 0) aB aU ++ (wSeat G aT (aS 0) (vT 1) (vT 2) (vT 3) (vT 4 0) (vT 5 0) (vT 6) (vT 7) (vT 8) ++ (wSch G aS (vS 0) (vS 1) (vS 2) (vS 3) (vS 4) (vS 5) (vS 6) (vS 7) (vS 8 0) (vS 9 0) ++ (wPad G aP (vP 0) (vP 1 0) (vP 2) (vP 3) (vP 4) (vP 5 0) (vP 6 0) (vP 7 0) (vP 8 0) (vP 9 0) ++ (wHis G aH hA hV (hZ 1 0)))))) (some (.int Rz)) := by
  refine JM.of (own := RX4) (tb := T_X4_count) (by decide) (Nat.le_of_ble_eq_true rfl) D_X4_count rfl (fun X C => ?_)
  refine J_sub (lv' := [(0, .ref aX), (1, .int x1)]) [0, 1] rfl ?_
  unfold f_X4_count at h
  refine J_iload_n (pc := 0) C 0 rfl 1 rfl rfl ?_
  by_cases c1 : x1 = (0 : Int32)
  · rw [if_pos c1] at h
    refine J_tabIn (pc := 1) (tgt := 68) C 1 rfl (by rw [c1]; decide) (by rw [c1]; decide) (by rw [c1]; rfl) rfl ?_
    refine J_aload_n (pc := 68) C 2 rfl 0 rfl rfl ?_
    refine J_get (pc := 69) (v := .ref (aS 0)) C 3 rfl TB_l4 rfl 0 1 rfl (by decide) k197 rfl rfl ?_
    refine J_get (pc := 72) (v := .ref (aS 1)) C 4 rfl TB_l2 rfl 8 0 rfl (by decide) k220 rfl rfl ?_
    refine J_iload_n (pc := 75) C 5 rfl 1 rfl rfl ?_
    obtain ⟨g2, h⟩ := gd_some h
    refine J_iald (pc := 76) (f := (vS 0)) (v := ((vS 0) (Int32.toNatClampNeg x1))) C 6 rfl 9 rfl g2 rfl ?_
    cases h
    exact J_iret (pc := 77) C 7 rfl
  · rw [if_neg c1] at h
    by_cases c3 : x1 = (1 : Int32)
    · rw [if_pos c3] at h
      refine J_tabIn (pc := 1) (tgt := 68) C 1 rfl (by rw [c3]; decide) (by rw [c3]; decide) (by rw [c3]; rfl) rfl ?_
      refine J_aload_n (pc := 68) C 2 rfl 0 rfl rfl ?_
      refine J_get (pc := 69) (v := .ref (aS 0)) C 3 rfl TB_l4 rfl 0 1 rfl (by decide) k197 rfl rfl ?_
      refine J_get (pc := 72) (v := .ref (aS 1)) C 4 rfl TB_l2 rfl 8 0 rfl (by decide) k220 rfl rfl ?_
      refine J_iload_n (pc := 75) C 5 rfl 1 rfl rfl ?_
      obtain ⟨g4, h⟩ := gd_some h
      refine J_iald (pc := 76) (f := (vS 0)) (v := ((vS 0) (Int32.toNatClampNeg x1))) C 6 rfl 9 rfl g4 rfl ?_
      cases h
      exact J_iret (pc := 77) C 7 rfl
    · rw [if_neg c3] at h
      by_cases c5 : x1 = (2 : Int32)
      · rw [if_pos c5] at h
        refine J_tabIn (pc := 1) (tgt := 68) C 1 rfl (by rw [c5]; decide) (by rw [c5]; decide) (by rw [c5]; rfl) rfl ?_
        refine J_aload_n (pc := 68) C 2 rfl 0 rfl rfl ?_
        refine J_get (pc := 69) (v := .ref (aS 0)) C 3 rfl TB_l4 rfl 0 1 rfl (by decide) k197 rfl rfl ?_
        refine J_get (pc := 72) (v := .ref (aS 1)) C 4 rfl TB_l2 rfl 8 0 rfl (by decide) k220 rfl rfl ?_
        refine J_iload_n (pc := 75) C 5 rfl 1 rfl rfl ?_
        obtain ⟨g6, h⟩ := gd_some h
        refine J_iald (pc := 76) (f := (vS 0)) (v := ((vS 0) (Int32.toNatClampNeg x1))) C 6 rfl 9 rfl g6 rfl ?_
        cases h
        exact J_iret (pc := 77) C 7 rfl
      · rw [if_neg c5] at h
        by_cases c7 : x1 = (3 : Int32)
        · rw [if_pos c7] at h
          refine J_tabIn (pc := 1) (tgt := 78) C 1 rfl (by rw [c7]; decide) (by rw [c7]; decide) (by rw [c7]; rfl) rfl ?_
          refine J_aload_n (pc := 78) C 8 rfl 0 rfl rfl ?_
          refine J_get (pc := 79) (v := .ref (aS 0)) C 9 rfl TB_l4 rfl 0 1 rfl (by decide) k197 rfl rfl ?_
          refine J_get (pc := 82) (v := .int (vS 8 0)) C 10 rfl TB_l2 rfl 8 8 rfl (by decide) k237 rfl rfl ?_
          cases h
          exact J_iret (pc := 85) C 11 rfl
        · rw [if_neg c7] at h
          by_cases c8 : x1 = (4 : Int32)
          · rw [if_pos c8] at h
            refine J_tabIn (pc := 1) (tgt := 86) C 1 rfl (by rw [c8]; decide) (by rw [c8]; decide) (by rw [c8]; rfl) rfl ?_
            refine J_aload_n (pc := 86) C 12 rfl 0 rfl rfl ?_
            refine J_get (pc := 87) (v := .ref (aS 0)) C 13 rfl TB_l4 rfl 0 1 rfl (by decide) k197 rfl rfl ?_
            obtain ⟨q9, hq9, h⟩ := bnd h
            refine J_callV (pc := 90) (st2 := []) (st3 := [.int q9]) (ws2 := (wEx aX (aT 0) (aT2 0) (aS 0) (aS2 0) (aP 0) (aH 0) aB aU ++ (wSeat G aT (aS 0) (vT 1) (vT 2) (vT 3) (vT 4 0) (vT 5 0) (vT 6) (vT 7) (vT 8) ++ (wSch G aS (vS 0) (vS 1) (vS 2) (vS 3) (vS 4) (vS 5) (vS 6) (vS 7) (vS 8 0) (vS 9 0) ++ (wPad G aP (vP 0) (vP 1 0) (vP 2) (vP 3) (vP 4) (vP 5 0) (vP 6 0) (vP 7 0) (vP 8 0) (vP 9 0) ++ (wHis G aH hA hV (hZ 1 0))))))) C 14 rfl (c_X2_sittings aS vS hq9) V_X2_sittings k305 i_X2_sittings s_X2_sittings rfl rfl ⟨Nat.le_of_ble_eq_true rfl, Nat.le_of_ble_eq_true rfl⟩ (Nat.le_of_ble_eq_true rfl) ⟨Nat.le_refl _, Nat.le_refl _⟩ 8 2 rfl rfl rfl (isC := [8, 9, 10, 11, 12, 13, 14, 15, 16]) (isR := [0, 1, 2, 3, 4, 5, 6, 7, 17, 18, 19, 20, 21, 22, 23, 24, 25, 26, 27, 28, 29, 30, 31, 32, 33, 34, 35, 36, 37, 38, 39, 40, 41, 42, 43, 44, 45, 46, 47, 48, 49, 50, 51, 52, 53, 54, 55, 56, 57, 58, 59, 60, 61, 62, 63, 64, 65, 66, 67, 68, 69, 70, 71, 72, 73, 74, 75, 76, 77]) (N := 78) ⟨rfl, by decide +kernel, rfl, by decide +kernel, rfl, ⟨⟨_, rfl, rfl⟩, ⟨⟨_, rfl, rfl⟩, ⟨⟨_, rfl, rfl⟩, ⟨⟨_, rfl, rfl⟩, ⟨⟨_, rfl, rfl⟩, ⟨⟨_, rfl, rfl⟩, ⟨⟨_, rfl, rfl⟩, ⟨⟨_, rfl, rfl⟩, ⟨⟨_, rfl, rfl⟩, ⟨⟨_, rfl, rfl⟩, ⟨⟨_, rfl, rfl⟩, ⟨⟨_, rfl, rfl⟩, ⟨⟨_, rfl, rfl⟩, ⟨⟨_, rfl, rfl⟩, ⟨⟨_, rfl, rfl⟩, ⟨⟨_, rfl, rfl⟩, ⟨⟨_, rfl, rfl⟩, ⟨⟨_, rfl, rfl⟩, ⟨⟨_, rfl, rfl⟩, ⟨⟨_, rfl, rfl⟩, ⟨⟨_, rfl, rfl⟩, ⟨⟨_, rfl, rfl⟩, ⟨⟨_, rfl, rfl⟩, ⟨⟨_, rfl, rfl⟩, ⟨⟨_, rfl, rfl⟩, ⟨⟨_, rfl, rfl⟩, ⟨⟨_, rfl, rfl⟩, ⟨⟨_, rfl, rfl⟩, ⟨⟨_, rfl, rfl⟩, ⟨⟨_, rfl, rfl⟩, ⟨⟨_, rfl, rfl⟩, ⟨⟨_, rfl, rfl⟩, ⟨⟨_, rfl, rfl⟩, ⟨⟨_, rfl, rfl⟩, ⟨⟨_, rfl, rfl⟩, ⟨⟨_, rfl, rfl⟩, ⟨⟨_, rfl, rfl⟩, ⟨⟨_, rfl, rfl⟩, ⟨⟨_, rfl, rfl⟩, ⟨⟨_, rfl, rfl⟩, ⟨⟨_, rfl, rfl⟩, ⟨⟨_, rfl, rfl⟩, ⟨⟨_, rfl, rfl⟩, ⟨⟨_, rfl, rfl⟩, ⟨⟨_, rfl, rfl⟩, ⟨⟨_, rfl, rfl⟩, ⟨⟨_, rfl, rfl⟩, ⟨⟨_, rfl, rfl⟩, ⟨⟨_, rfl, rfl⟩, ⟨⟨_, rfl, rfl⟩, ⟨⟨_, rfl, rfl⟩, ⟨⟨_, rfl, rfl⟩, ⟨⟨_, rfl, rfl⟩, ⟨⟨_, rfl, rfl⟩, ⟨⟨_, rfl, rfl⟩, ⟨⟨_, rfl, rfl⟩, ⟨⟨_, rfl, rfl⟩, ⟨⟨_, rfl, rfl⟩, ⟨⟨_, rfl, rfl⟩, ⟨⟨_, rfl, rfl⟩, ⟨⟨_, rfl, rfl⟩, ⟨⟨_, rfl, rfl⟩, ⟨⟨_, rfl, rfl⟩, ⟨⟨_, rfl, rfl⟩, ⟨⟨_, rfl, rfl⟩, ⟨⟨_, rfl, rfl⟩, ⟨⟨_, rfl, rfl⟩, ⟨⟨_, rfl, rfl⟩, ⟨⟨_, rfl, rfl⟩, trivial⟩⟩⟩⟩⟩⟩⟩⟩⟩⟩⟩⟩⟩⟩⟩⟩⟩⟩⟩⟩⟩⟩⟩⟩⟩⟩⟩⟩⟩⟩⟩⟩⟩⟩⟩⟩⟩⟩⟩⟩⟩⟩⟩⟩⟩⟩⟩⟩⟩⟩⟩⟩⟩⟩⟩⟩⟩⟩⟩⟩⟩⟩⟩⟩⟩⟩⟩⟩⟩⟩ rfl ?_
            cases h
            exact J_iret (pc := 93) C 15 rfl
          · rw [if_neg c8] at h
            by_cases c10 : x1 = (5 : Int32)
            · rw [if_pos c10] at h
              refine J_tabIn (pc := 1) (tgt := 94) C 1 rfl (by rw [c10]; decide) (by rw [c10]; decide) (by rw [c10]; rfl) rfl ?_
              refine J_aload_n (pc := 94) C 16 rfl 0 rfl rfl ?_
              refine J_get (pc := 95) (v := .ref (aT 0)) C 17 rfl TB_l4 rfl 0 0 rfl (by decide) k195 rfl rfl ?_
              refine J_get (pc := 98) (v := .int (vT 4 0)) C 18 rfl TB_l3 rfl 1 4 rfl (by decide) k264 rfl rfl ?_
              cases h
              exact J_iret (pc := 101) C 19 rfl
            · rw [if_neg c10] at h
              by_cases c11 : x1 = (6 : Int32)
              · rw [if_pos c11] at h
                refine J_tabIn (pc := 1) (tgt := 102) C 1 rfl (by rw [c11]; decide) (by rw [c11]; decide) (by rw [c11]; rfl) rfl ?_
                refine J_aload_n (pc := 102) C 20 rfl 0 rfl rfl ?_
                refine J_get (pc := 103) (v := .ref (aS 0)) C 21 rfl TB_l4 rfl 0 1 rfl (by decide) k197 rfl rfl ?_
                obtain ⟨q12, hq12, h⟩ := bnd h
                refine J_callV (pc := 106) (st2 := []) (st3 := [.int q12]) (ws2 := (wEx aX (aT 0) (aT2 0) (aS 0) (aS2 0) (aP 0) (aH 0) aB aU ++ (wSeat G aT (aS 0) (vT 1) (vT 2) (vT 3) (vT 4 0) (vT 5 0) (vT 6) (vT 7) (vT 8) ++ (wSch G aS (vS 0) (vS 1) (vS 2) (vS 3) (vS 4) (vS 5) (vS 6) (vS 7) (vS 8 0) (vS 9 0) ++ (wPad G aP (vP 0) (vP 1 0) (vP 2) (vP 3) (vP 4) (vP 5 0) (vP 6 0) (vP 7 0) (vP 8 0) (vP 9 0) ++ (wHis G aH hA hV (hZ 1 0))))))) C 22 rfl (c_X2_clashes aS vS hq12) V_X2_clashes k308 i_X2_clashes s_X2_clashes rfl rfl ⟨Nat.le_of_ble_eq_true rfl, Nat.le_of_ble_eq_true rfl⟩ (Nat.le_of_ble_eq_true rfl) ⟨Nat.le_refl _, Nat.le_refl _⟩ 8 2 rfl rfl rfl (isC := [8, 9, 10, 11, 12, 13, 14, 15, 16]) (isR := [0, 1, 2, 3, 4, 5, 6, 7, 17, 18, 19, 20, 21, 22, 23, 24, 25, 26, 27, 28, 29, 30, 31, 32, 33, 34, 35, 36, 37, 38, 39, 40, 41, 42, 43, 44, 45, 46, 47, 48, 49, 50, 51, 52, 53, 54, 55, 56, 57, 58, 59, 60, 61, 62, 63, 64, 65, 66, 67, 68, 69, 70, 71, 72, 73, 74, 75, 76, 77]) (N := 78) ⟨rfl, by decide +kernel, rfl, by decide +kernel, rfl, ⟨⟨_, rfl, rfl⟩, ⟨⟨_, rfl, rfl⟩, ⟨⟨_, rfl, rfl⟩, ⟨⟨_, rfl, rfl⟩, ⟨⟨_, rfl, rfl⟩, ⟨⟨_, rfl, rfl⟩, ⟨⟨_, rfl, rfl⟩, ⟨⟨_, rfl, rfl⟩, ⟨⟨_, rfl, rfl⟩, ⟨⟨_, rfl, rfl⟩, ⟨⟨_, rfl, rfl⟩, ⟨⟨_, rfl, rfl⟩, ⟨⟨_, rfl, rfl⟩, ⟨⟨_, rfl, rfl⟩, ⟨⟨_, rfl, rfl⟩, ⟨⟨_, rfl, rfl⟩, ⟨⟨_, rfl, rfl⟩, ⟨⟨_, rfl, rfl⟩, ⟨⟨_, rfl, rfl⟩, ⟨⟨_, rfl, rfl⟩, ⟨⟨_, rfl, rfl⟩, ⟨⟨_, rfl, rfl⟩, ⟨⟨_, rfl, rfl⟩, ⟨⟨_, rfl, rfl⟩, ⟨⟨_, rfl, rfl⟩, ⟨⟨_, rfl, rfl⟩, ⟨⟨_, rfl, rfl⟩, ⟨⟨_, rfl, rfl⟩, ⟨⟨_, rfl, rfl⟩, ⟨⟨_, rfl, rfl⟩, ⟨⟨_, rfl, rfl⟩, ⟨⟨_, rfl, rfl⟩, ⟨⟨_, rfl, rfl⟩, ⟨⟨_, rfl, rfl⟩, ⟨⟨_, rfl, rfl⟩, ⟨⟨_, rfl, rfl⟩, ⟨⟨_, rfl, rfl⟩, ⟨⟨_, rfl, rfl⟩, ⟨⟨_, rfl, rfl⟩, ⟨⟨_, rfl, rfl⟩, ⟨⟨_, rfl, rfl⟩, ⟨⟨_, rfl, rfl⟩, ⟨⟨_, rfl, rfl⟩, ⟨⟨_, rfl, rfl⟩, ⟨⟨_, rfl, rfl⟩, ⟨⟨_, rfl, rfl⟩, ⟨⟨_, rfl, rfl⟩, ⟨⟨_, rfl, rfl⟩, ⟨⟨_, rfl, rfl⟩, ⟨⟨_, rfl, rfl⟩, ⟨⟨_, rfl, rfl⟩, ⟨⟨_, rfl, rfl⟩, ⟨⟨_, rfl, rfl⟩, ⟨⟨_, rfl, rfl⟩, ⟨⟨_, rfl, rfl⟩, ⟨⟨_, rfl, rfl⟩, ⟨⟨_, rfl, rfl⟩, ⟨⟨_, rfl, rfl⟩, ⟨⟨_, rfl, rfl⟩, ⟨⟨_, rfl, rfl⟩, ⟨⟨_, rfl, rfl⟩, ⟨⟨_, rfl, rfl⟩, ⟨⟨_, rfl, rfl⟩, ⟨⟨_, rfl, rfl⟩, ⟨⟨_, rfl, rfl⟩, ⟨⟨_, rfl, rfl⟩, ⟨⟨_, rfl, rfl⟩, ⟨⟨_, rfl, rfl⟩, ⟨⟨_, rfl, rfl⟩, trivial⟩⟩⟩⟩⟩⟩⟩⟩⟩⟩⟩⟩⟩⟩⟩⟩⟩⟩⟩⟩⟩⟩⟩⟩⟩⟩⟩⟩⟩⟩⟩⟩⟩⟩⟩⟩⟩⟩⟩⟩⟩⟩⟩⟩⟩⟩⟩⟩⟩⟩⟩⟩⟩⟩⟩⟩⟩⟩⟩⟩⟩⟩⟩⟩⟩⟩⟩⟩⟩⟩ rfl ?_
                cases h
                exact J_iret (pc := 109) C 23 rfl
              · rw [if_neg c11] at h
                by_cases c13 : x1 = (7 : Int32)
                · rw [if_pos c13] at h
                  refine J_tabIn (pc := 1) (tgt := 110) C 1 rfl (by rw [c13]; decide) (by rw [c13]; decide) (by rw [c13]; rfl) rfl ?_
                  refine J_aload_n (pc := 110) C 24 rfl 0 rfl rfl ?_
                  refine J_get (pc := 111) (v := .ref (aS 0)) C 25 rfl TB_l4 rfl 0 1 rfl (by decide) k197 rfl rfl ?_
                  refine J_get (pc := 114) (v := .int (vS 9 0)) C 26 rfl TB_l2 rfl 8 9 rfl (by decide) k263 rfl rfl ?_
                  cases h
                  exact J_iret (pc := 117) C 27 rfl
                · rw [if_neg c13] at h
                  by_cases c14 : x1 = (8 : Int32)
                  · rw [if_pos c14] at h
                    refine J_tabIn (pc := 1) (tgt := 118) C 1 rfl (by rw [c14]; decide) (by rw [c14]; decide) (by rw [c14]; rfl) rfl ?_
                    refine J_aload_n (pc := 118) C 28 rfl 0 rfl rfl ?_
                    refine J_get (pc := 119) (v := .ref (aS 0)) C 29 rfl TB_l4 rfl 0 1 rfl (by decide) k197 rfl rfl ?_
                    obtain ⟨q15, hq15, h⟩ := bnd h
                    refine J_callV (pc := 122) (st2 := []) (st3 := [.int q15]) (ws2 := (wEx aX (aT 0) (aT2 0) (aS 0) (aS2 0) (aP 0) (aH 0) aB aU ++ (wSeat G aT (aS 0) (vT 1) (vT 2) (vT 3) (vT 4 0) (vT 5 0) (vT 6) (vT 7) (vT 8) ++ (wSch G aS (vS 0) (vS 1) (vS 2) (vS 3) (vS 4) (vS 5) (vS 6) (vS 7) (vS 8 0) (vS 9 0) ++ (wPad G aP (vP 0) (vP 1 0) (vP 2) (vP 3) (vP 4) (vP 5 0) (vP 6 0) (vP 7 0) (vP 8 0) (vP 9 0) ++ (wHis G aH hA hV (hZ 1 0))))))) C 30 rfl (c_X2_openDesks aS vS hq15) V_X2_openDesks k311 i_X2_openDesks s_X2_openDesks rfl rfl ⟨Nat.le_of_ble_eq_true rfl, Nat.le_of_ble_eq_true rfl⟩ (Nat.le_of_ble_eq_true rfl) ⟨Nat.le_refl _, Nat.le_refl _⟩ 8 2 rfl rfl rfl (isC := [8, 9, 10, 11, 12, 13, 14, 15, 16]) (isR := [0, 1, 2, 3, 4, 5, 6, 7, 17, 18, 19, 20, 21, 22, 23, 24, 25, 26, 27, 28, 29, 30, 31, 32, 33, 34, 35, 36, 37, 38, 39, 40, 41, 42, 43, 44, 45, 46, 47, 48, 49, 50, 51, 52, 53, 54, 55, 56, 57, 58, 59, 60, 61, 62, 63, 64, 65, 66, 67, 68, 69, 70, 71, 72, 73, 74, 75, 76, 77]) (N := 78) ⟨rfl, by decide +kernel, rfl, by decide +kernel, rfl, ⟨⟨_, rfl, rfl⟩, ⟨⟨_, rfl, rfl⟩, ⟨⟨_, rfl, rfl⟩, ⟨⟨_, rfl, rfl⟩, ⟨⟨_, rfl, rfl⟩, ⟨⟨_, rfl, rfl⟩, ⟨⟨_, rfl, rfl⟩, ⟨⟨_, rfl, rfl⟩, ⟨⟨_, rfl, rfl⟩, ⟨⟨_, rfl, rfl⟩, ⟨⟨_, rfl, rfl⟩, ⟨⟨_, rfl, rfl⟩, ⟨⟨_, rfl, rfl⟩, ⟨⟨_, rfl, rfl⟩, ⟨⟨_, rfl, rfl⟩, ⟨⟨_, rfl, rfl⟩, ⟨⟨_, rfl, rfl⟩, ⟨⟨_, rfl, rfl⟩, ⟨⟨_, rfl, rfl⟩, ⟨⟨_, rfl, rfl⟩, ⟨⟨_, rfl, rfl⟩, ⟨⟨_, rfl, rfl⟩, ⟨⟨_, rfl, rfl⟩, ⟨⟨_, rfl, rfl⟩, ⟨⟨_, rfl, rfl⟩, ⟨⟨_, rfl, rfl⟩, ⟨⟨_, rfl, rfl⟩, ⟨⟨_, rfl, rfl⟩, ⟨⟨_, rfl, rfl⟩, ⟨⟨_, rfl, rfl⟩, ⟨⟨_, rfl, rfl⟩, ⟨⟨_, rfl, rfl⟩, ⟨⟨_, rfl, rfl⟩, ⟨⟨_, rfl, rfl⟩, ⟨⟨_, rfl, rfl⟩, ⟨⟨_, rfl, rfl⟩, ⟨⟨_, rfl, rfl⟩, ⟨⟨_, rfl, rfl⟩, ⟨⟨_, rfl, rfl⟩, ⟨⟨_, rfl, rfl⟩, ⟨⟨_, rfl, rfl⟩, ⟨⟨_, rfl, rfl⟩, ⟨⟨_, rfl, rfl⟩, ⟨⟨_, rfl, rfl⟩, ⟨⟨_, rfl, rfl⟩, ⟨⟨_, rfl, rfl⟩, ⟨⟨_, rfl, rfl⟩, ⟨⟨_, rfl, rfl⟩, ⟨⟨_, rfl, rfl⟩, ⟨⟨_, rfl, rfl⟩, ⟨⟨_, rfl, rfl⟩, ⟨⟨_, rfl, rfl⟩, ⟨⟨_, rfl, rfl⟩, ⟨⟨_, rfl, rfl⟩, ⟨⟨_, rfl, rfl⟩, ⟨⟨_, rfl, rfl⟩, ⟨⟨_, rfl, rfl⟩, ⟨⟨_, rfl, rfl⟩, ⟨⟨_, rfl, rfl⟩, ⟨⟨_, rfl, rfl⟩, ⟨⟨_, rfl, rfl⟩, ⟨⟨_, rfl, rfl⟩, ⟨⟨_, rfl, rfl⟩, ⟨⟨_, rfl, rfl⟩, ⟨⟨_, rfl, rfl⟩, ⟨⟨_, rfl, rfl⟩, ⟨⟨_, rfl, rfl⟩, ⟨⟨_, rfl, rfl⟩, ⟨⟨_, rfl, rfl⟩, trivial⟩⟩⟩⟩⟩⟩⟩⟩⟩⟩⟩⟩⟩⟩⟩⟩⟩⟩⟩⟩⟩⟩⟩⟩⟩⟩⟩⟩⟩⟩⟩⟩⟩⟩⟩⟩⟩⟩⟩⟩⟩⟩⟩⟩⟩⟩⟩⟩⟩⟩⟩⟩⟩⟩⟩⟩⟩⟩⟩⟩⟩⟩⟩⟩⟩⟩⟩⟩⟩⟩ rfl ?_
                    cases h
                    exact J_iret (pc := 125) C 31 rfl
                  · rw [if_neg c14] at h
                    by_cases c16 : x1 = (9 : Int32)
                    · rw [if_pos c16] at h
                      refine J_tabIn (pc := 1) (tgt := 126) C 1 rfl (by rw [c16]; decide) (by rw [c16]; decide) (by rw [c16]; rfl) rfl ?_
                      refine J_aload_n (pc := 126) C 32 rfl 0 rfl rfl ?_
                      refine J_get (pc := 127) (v := .ref (aS 0)) C 33 rfl TB_l4 rfl 0 1 rfl (by decide) k197 rfl rfl ?_
                      obtain ⟨q17, hq17, h⟩ := bnd h
                      refine J_callV (pc := 130) (st2 := []) (st3 := [.int q17]) (ws2 := (wEx aX (aT 0) (aT2 0) (aS 0) (aS2 0) (aP 0) (aH 0) aB aU ++ (wSeat G aT (aS 0) (vT 1) (vT 2) (vT 3) (vT 4 0) (vT 5 0) (vT 6) (vT 7) (vT 8) ++ (wSch G aS (vS 0) (vS 1) (vS 2) (vS 3) (vS 4) (vS 5) (vS 6) (vS 7) (vS 8 0) (vS 9 0) ++ (wPad G aP (vP 0) (vP 1 0) (vP 2) (vP 3) (vP 4) (vP 5 0) (vP 6 0) (vP 7 0) (vP 8 0) (vP 9 0) ++ (wHis G aH hA hV (hZ 1 0))))))) C 34 rfl (c_X2_mostReaders aS vS hq17) V_X2_mostReaders k314 i_X2_mostReaders s_X2_mostReaders rfl rfl ⟨Nat.le_of_ble_eq_true rfl, Nat.le_of_ble_eq_true rfl⟩ (Nat.le_of_ble_eq_true rfl) ⟨Nat.le_refl _, Nat.le_refl _⟩ 8 2 rfl rfl rfl (isC := [8, 9, 10, 11, 12, 13, 14, 15, 16]) (isR := [0, 1, 2, 3, 4, 5, 6, 7, 17, 18, 19, 20, 21, 22, 23, 24, 25, 26, 27, 28, 29, 30, 31, 32, 33, 34, 35, 36, 37, 38, 39, 40, 41, 42, 43, 44, 45, 46, 47, 48, 49, 50, 51, 52, 53, 54, 55, 56, 57, 58, 59, 60, 61, 62, 63, 64, 65, 66, 67, 68, 69, 70, 71, 72, 73, 74, 75, 76, 77]) (N := 78) ⟨rfl, by decide +kernel, rfl, by decide +kernel, rfl, ⟨⟨_, rfl, rfl⟩, ⟨⟨_, rfl, rfl⟩, ⟨⟨_, rfl, rfl⟩, ⟨⟨_, rfl, rfl⟩, ⟨⟨_, rfl, rfl⟩, ⟨⟨_, rfl, rfl⟩, ⟨⟨_, rfl, rfl⟩, ⟨⟨_, rfl, rfl⟩, ⟨⟨_, rfl, rfl⟩, ⟨⟨_, rfl, rfl⟩, ⟨⟨_, rfl, rfl⟩, ⟨⟨_, rfl, rfl⟩, ⟨⟨_, rfl, rfl⟩, ⟨⟨_, rfl, rfl⟩, ⟨⟨_, rfl, rfl⟩, ⟨⟨_, rfl, rfl⟩, ⟨⟨_, rfl, rfl⟩, ⟨⟨_, rfl, rfl⟩, ⟨⟨_, rfl, rfl⟩, ⟨⟨_, rfl, rfl⟩, ⟨⟨_, rfl, rfl⟩, ⟨⟨_, rfl, rfl⟩, ⟨⟨_, rfl, rfl⟩, ⟨⟨_, rfl, rfl⟩, ⟨⟨_, rfl, rfl⟩, ⟨⟨_, rfl, rfl⟩, ⟨⟨_, rfl, rfl⟩, ⟨⟨_, rfl, rfl⟩, ⟨⟨_, rfl, rfl⟩, ⟨⟨_, rfl, rfl⟩, ⟨⟨_, rfl, rfl⟩, ⟨⟨_, rfl, rfl⟩, ⟨⟨_, rfl, rfl⟩, ⟨⟨_, rfl, rfl⟩, ⟨⟨_, rfl, rfl⟩, ⟨⟨_, rfl, rfl⟩, ⟨⟨_, rfl, rfl⟩, ⟨⟨_, rfl, rfl⟩, ⟨⟨_, rfl, rfl⟩, ⟨⟨_, rfl, rfl⟩, ⟨⟨_, rfl, rfl⟩, ⟨⟨_, rfl, rfl⟩, ⟨⟨_, rfl, rfl⟩, ⟨⟨_, rfl, rfl⟩, ⟨⟨_, rfl, rfl⟩, ⟨⟨_, rfl, rfl⟩, ⟨⟨_, rfl, rfl⟩, ⟨⟨_, rfl, rfl⟩, ⟨⟨_, rfl, rfl⟩, ⟨⟨_, rfl, rfl⟩, ⟨⟨_, rfl, rfl⟩, ⟨⟨_, rfl, rfl⟩, ⟨⟨_, rfl, rfl⟩, ⟨⟨_, rfl, rfl⟩, ⟨⟨_, rfl, rfl⟩, ⟨⟨_, rfl, rfl⟩, ⟨⟨_, rfl, rfl⟩, ⟨⟨_, rfl, rfl⟩, ⟨⟨_, rfl, rfl⟩, ⟨⟨_, rfl, rfl⟩, ⟨⟨_, rfl, rfl⟩, ⟨⟨_, rfl, rfl⟩, ⟨⟨_, rfl, rfl⟩, ⟨⟨_, rfl, rfl⟩, ⟨⟨_, rfl, rfl⟩, ⟨⟨_, rfl, rfl⟩, ⟨⟨_, rfl, rfl⟩, ⟨⟨_, rfl, rfl⟩, ⟨⟨_, rfl, rfl⟩, trivial⟩⟩⟩⟩⟩⟩⟩⟩⟩⟩⟩⟩⟩⟩⟩⟩⟩⟩⟩⟩⟩⟩⟩⟩⟩⟩⟩⟩⟩⟩⟩⟩⟩⟩⟩⟩⟩⟩⟩⟩⟩⟩⟩⟩⟩⟩⟩⟩⟩⟩⟩⟩⟩⟩⟩⟩⟩⟩⟩⟩⟩⟩⟩⟩⟩⟩⟩⟩⟩⟩ rfl ?_
                      cases h
                      exact J_iret (pc := 133) C 35 rfl
                    · rw [if_neg c16] at h
                      by_cases c18 : x1 = (10 : Int32)
                      · rw [if_pos c18] at h
                        refine J_tabIn (pc := 1) (tgt := 134) C 1 rfl (by rw [c18]; decide) (by rw [c18]; decide) (by rw [c18]; rfl) rfl ?_
                        refine J_aload_n (pc := 134) C 36 rfl 0 rfl rfl ?_
                        refine J_get (pc := 135) (v := .ref (aS 0)) C 37 rfl TB_l4 rfl 0 1 rfl (by decide) k197 rfl rfl ?_
                        obtain ⟨q19, hq19, h⟩ := bnd h
                        refine J_callV (pc := 138) (st2 := []) (st3 := [.int q19]) (ws2 := (wEx aX (aT 0) (aT2 0) (aS 0) (aS2 0) (aP 0) (aH 0) aB aU ++ (wSeat G aT (aS 0) (vT 1) (vT 2) (vT 3) (vT 4 0) (vT 5 0) (vT 6) (vT 7) (vT 8) ++ (wSch G aS (vS 0) (vS 1) (vS 2) (vS 3) (vS 4) (vS 5) (vS 6) (vS 7) (vS 8 0) (vS 9 0) ++ (wPad G aP (vP 0) (vP 1 0) (vP 2) (vP 3) (vP 4) (vP 5 0) (vP 6 0) (vP 7 0) (vP 8 0) (vP 9 0) ++ (wHis G aH hA hV (hZ 1 0))))))) C 38 rfl (c_X2_lastEnd aS vS hq19) V_X2_lastEnd k317 i_X2_lastEnd s_X2_lastEnd rfl rfl ⟨Nat.le_of_ble_eq_true rfl, Nat.le_of_ble_eq_true rfl⟩ (Nat.le_of_ble_eq_true rfl) ⟨Nat.le_refl _, Nat.le_refl _⟩ 8 2 rfl rfl rfl (isC := [8, 9, 10, 11, 12, 13, 14, 15, 16]) (isR := [0, 1, 2, 3, 4, 5, 6, 7, 17, 18, 19, 20, 21, 22, 23, 24, 25, 26, 27, 28, 29, 30, 31, 32, 33, 34, 35, 36, 37, 38, 39, 40, 41, 42, 43, 44, 45, 46, 47, 48, 49, 50, 51, 52, 53, 54, 55, 56, 57, 58, 59, 60, 61, 62, 63, 64, 65, 66, 67, 68, 69, 70, 71, 72, 73, 74, 75, 76, 77]) (N := 78) ⟨rfl, by decide +kernel, rfl, by decide +kernel, rfl, ⟨⟨_, rfl, rfl⟩, ⟨⟨_, rfl, rfl⟩, ⟨⟨_, rfl, rfl⟩, ⟨⟨_, rfl, rfl⟩, ⟨⟨_, rfl, rfl⟩, ⟨⟨_, rfl, rfl⟩, ⟨⟨_, rfl, rfl⟩, ⟨⟨_, rfl, rfl⟩, ⟨⟨_, rfl, rfl⟩, ⟨⟨_, rfl, rfl⟩, ⟨⟨_, rfl, rfl⟩, ⟨⟨_, rfl, rfl⟩, ⟨⟨_, rfl, rfl⟩, ⟨⟨_, rfl, rfl⟩, ⟨⟨_, rfl, rfl⟩, ⟨⟨_, rfl, rfl⟩, ⟨⟨_, rfl, rfl⟩, ⟨⟨_, rfl, rfl⟩, ⟨⟨_, rfl, rfl⟩, ⟨⟨_, rfl, rfl⟩, ⟨⟨_, rfl, rfl⟩, ⟨⟨_, rfl, rfl⟩, ⟨⟨_, rfl, rfl⟩, ⟨⟨_, rfl, rfl⟩, ⟨⟨_, rfl, rfl⟩, ⟨⟨_, rfl, rfl⟩, ⟨⟨_, rfl, rfl⟩, ⟨⟨_, rfl, rfl⟩, ⟨⟨_, rfl, rfl⟩, ⟨⟨_, rfl, rfl⟩, ⟨⟨_, rfl, rfl⟩, ⟨⟨_, rfl, rfl⟩, ⟨⟨_, rfl, rfl⟩, ⟨⟨_, rfl, rfl⟩, ⟨⟨_, rfl, rfl⟩, ⟨⟨_, rfl, rfl⟩, ⟨⟨_, rfl, rfl⟩, ⟨⟨_, rfl, rfl⟩, ⟨⟨_, rfl, rfl⟩, ⟨⟨_, rfl, rfl⟩, ⟨⟨_, rfl, rfl⟩, ⟨⟨_, rfl, rfl⟩, ⟨⟨_, rfl, rfl⟩, ⟨⟨_, rfl, rfl⟩, ⟨⟨_, rfl, rfl⟩, ⟨⟨_, rfl, rfl⟩, ⟨⟨_, rfl, rfl⟩, ⟨⟨_, rfl, rfl⟩, ⟨⟨_, rfl, rfl⟩, ⟨⟨_, rfl, rfl⟩, ⟨⟨_, rfl, rfl⟩, ⟨⟨_, rfl, rfl⟩, ⟨⟨_, rfl, rfl⟩, ⟨⟨_, rfl, rfl⟩, ⟨⟨_, rfl, rfl⟩, ⟨⟨_, rfl, rfl⟩, ⟨⟨_, rfl, rfl⟩, ⟨⟨_, rfl, rfl⟩, ⟨⟨_, rfl, rfl⟩, ⟨⟨_, rfl, rfl⟩, ⟨⟨_, rfl, rfl⟩, ⟨⟨_, rfl, rfl⟩, ⟨⟨_, rfl, rfl⟩, ⟨⟨_, rfl, rfl⟩, ⟨⟨_, rfl, rfl⟩, ⟨⟨_, rfl, rfl⟩, ⟨⟨_, rfl, rfl⟩, ⟨⟨_, rfl, rfl⟩, ⟨⟨_, rfl, rfl⟩, trivial⟩⟩⟩⟩⟩⟩⟩⟩⟩⟩⟩⟩⟩⟩⟩⟩⟩⟩⟩⟩⟩⟩⟩⟩⟩⟩⟩⟩⟩⟩⟩⟩⟩⟩⟩⟩⟩⟩⟩⟩⟩⟩⟩⟩⟩⟩⟩⟩⟩⟩⟩⟩⟩⟩⟩⟩⟩⟩⟩⟩⟩⟩⟩⟩⟩⟩⟩⟩⟩⟩ rfl ?_
                        cases h
                        exact J_iret (pc := 141) C 39 rfl
                      · rw [if_neg c18] at h
                        by_cases c20 : x1 = (11 : Int32)
                        · rw [if_pos c20] at h
                          refine J_tabIn (pc := 1) (tgt := 142) C 1 rfl (by rw [c20]; decide) (by rw [c20]; decide) (by rw [c20]; rfl) rfl ?_
                          refine J_aload_n (pc := 142) C 40 rfl 0 rfl rfl ?_
                          refine J_get (pc := 143) (v := .ref (aP 0)) C 41 rfl TB_l4 rfl 0 4 rfl (by decide) k203 rfl rfl ?_
                          refine J_get (pc := 146) (v := .int (vP 1 0)) C 42 rfl TB_l1 rfl 17 1 rfl (by decide) k303 rfl rfl ?_
                          cases h
                          exact J_iret (pc := 149) C 43 rfl
                        · rw [if_neg c20] at h
                          by_cases c21 : x1 = (12 : Int32)
                          · rw [if_pos c21] at h
                            refine J_tabIn (pc := 1) (tgt := 150) C 1 rfl (by rw [c21]; decide) (by rw [c21]; decide) (by rw [c21]; rfl) rfl ?_
                            refine J_aload_n (pc := 150) C 44 rfl 0 rfl rfl ?_
                            refine J_get (pc := 151) (v := .ref (aH 0)) C 45 rfl TB_l4 rfl 0 5 rfl (by decide) k206 rfl rfl ?_
                            refine J_get (pc := 154) (v := .int (hZ 1 0)) C 46 rfl TB_l0 rfl 22 1 rfl (by decide) k304 rfl rfl ?_
                            cases h
                            exact J_iret (pc := 157) C 47 rfl
                          · rw [if_neg c21] at h
                            have ec1 := lv_neT (a := 0) c1 rfl
                            have ec3 := lv_neT (a := 1) c3 rfl
                            have ec5 := lv_neT (a := 2) c5 rfl
                            have ec7 := lv_neT (a := 3) c7 rfl
                            have ec8 := lv_neT (a := 4) c8 rfl
                            have ec10 := lv_neT (a := 5) c10 rfl
                            have ec11 := lv_neT (a := 6) c11 rfl
                            have ec13 := lv_neT (a := 7) c13 rfl
                            have ec14 := lv_neT (a := 8) c14 rfl
                            have ec16 := lv_neT (a := 9) c16 rfl
                            have ec18 := lv_neT (a := 10) c18 rfl
                            have ec20 := lv_neT (a := 11) c20 rfl
                            have ec21 := lv_neT (a := 12) c21 rfl
                            refine J_tabOut (pc := 1) (tgt := 158) C 1 rfl (by omega) rfl ?_
                            refine J_bipush (pc := 158) (v := (-2 : Int32)) C 48 rfl rfl ?_
                            cases h
                            exact J_iret (pc := 160) C 49 rfl
def T_X4_at : List (Nat × ClassFile.Instr × Nat) := [(0, .iload_n 1, 1), (1, .invokestatic 132, 3), (4, .ifCond .eq 21, 3), (7, .iload_n 2, 1), (8, .iconst 0, 1), (9, .aload_n 0, 1), (10, .getfield 20, 3), (13, .iload_n 1, 1), (14, .invokevirtual 135, 3), (17, .iconst 1, 1), (18, .isub, 1), (19, .invokestatic 55, 3), (22, .ifCond .ne 5, 3), (25, .iconst (-1), 1), (26, .ireturn, 1), (27, .iload_n 3, 1), (28, .ifCond .ge 6, 3), (31, .bipush (-2), 2), (33, .ireturn, 1), (34, .aload_n 0, 1), (35, .getfield 12, 3), (38, .iload_n 1, 1), (39, .iload_n 2, 1), (40, .iload_n 3, 1), (41, .invokevirtual 226, 3), (44, .ireturn, 1)]
theorem D_X4_at : ∀ q ∈ T_X4_at, decode cX4_at q.1 = .ok q.2 := by decide +kernel
theorem V_X4_at : Vy yX4_at cX4_at 4 (some .int) 3 := ⟨k324, k56, by decide +kernel⟩
theorem i_X4_at : Cond.instanceMethod yX4_at ∈ TB := k357
theorem s_X4_at : Cond.selects yX4_at.cls yX4_at yX4_at ∈ TB := k358
noncomputable def f_X4_at (vT : JV) (vS : JV) (x1 : Int32) (x2 : Int32) (x3 : Int32) : Option (Int32) :=
  (f_X4_isHall x1).bind (fun q1 => (if q1 = 0 then some (-1 : Int32) else (f_X2_desksOf vS x1).bind (fun q3 => (f_X4_isWithin x2 (0 : Int32) (q3 - (1 : Int32))).bind (fun q4 => (if q4 = 0 then some (-1 : Int32) else (if 0 ≤ x3 then (f_X3_sittingAt vT vS x1 x2 x3).bind (fun q7 => some q7) else some (-2 : Int32)))))))
set_option maxRecDepth 100000 in
set_option maxHeartbeats 4000000 in
theorem c_X4_at {l : Launch} {G : JG} (aX : Nat) (aT : Nat → Nat) (aS : Nat → Nat) (aT2 : Nat → Nat) (aS2 : Nat → Nat) (aP : Nat → Nat) (aH : Nat → Nat) (aB : Nat) (aU : Nat) (vT : JV) (vS : JV) (x1 : Int32) (x2 : Int32) (x3 : Int32) {Rz : Int32} (h : f_X4_at vT vS x1 x2 x3 = some Rz) : JM l G yX4_at cX4_at 4 (some .int) 5 113 [.ref aX, .int x1, .int x2, .int x3] (wEx aX (aT 0) (aT2 0) (aS 0) (aS2 0) (aP 0) (aH 0) aB aU ++ (wSeat G aT (aS 0) (vT 1) (vT 2) (vT 3) (vT 4 0) (vT 5 0) (vT 6) (vT 7) (vT 8) ++ (wSch G aS (vS 0) (vS 1) (vS 2) (vS 3) (vS 4) (vS 5) (vS 6) (vS 7) (vS 8 0) (vS 9 0)))) (wEx aX (aT 0) (aT2 0) (aS 0) (aS2 0) (aP 0) (aH 0) aB aU ++ (wSeat G aT (aS 0) (vT 1) (vT 2) (vT 3) (vT 4 0) (vT 5 0) (vT 6) (vT 7) (vT 8) ++ (wSch G aS (vS 0) (vS 1) (vS 2) (vS 3) (vS 4) (vS 5) (vS 6) (vS 7) (vS 8 0) (vS 9 0)))) (some (.int Rz)) := by
  refine JM.of (own := RX4) (tb := T_X4_at) (by decide) (Nat.le_of_ble_eq_true rfl) D_X4_at rfl (fun X C => ?_)
  refine J_sub (lv' := [(0, .ref aX), (1, .int x1), (2, .int x2), (3, .int x3)]) [0, 1, 2, 3] rfl ?_
  unfold f_X4_at at h
  refine J_iload_n (pc := 0) C 0 rfl 1 rfl rfl ?_
  obtain ⟨q1, hq1, h⟩ := bnd h
  refine J_callS (pc := 1) (st2 := []) (st3 := [.int q1]) (ws2 := (wEx aX (aT 0) (aT2 0) (aS 0) (aS2 0) (aP 0) (aH 0) aB aU ++ (wSeat G aT (aS 0) (vT 1) (vT 2) (vT 3) (vT 4 0) (vT 5 0) (vT 6) (vT 7) (vT 8) ++ (wSch G aS (vS 0) (vS 1) (vS 2) (vS 3) (vS 4) (vS 5) (vS 6) (vS 7) (vS 8 0) (vS 9 0))))) C 1 rfl (c_X4_isHall x1 hq1) V_X4_isHall k259 t_X4_isHall rfl rfl ⟨Nat.le_of_ble_eq_true rfl, Nat.le_of_ble_eq_true rfl⟩ (Nat.le_of_ble_eq_true rfl) ⟨Nat.le_refl _, Nat.le_refl _⟩ (isC := []) (isR := [0, 1, 2, 3, 4, 5, 6, 7, 8, 9, 10, 11, 12, 13, 14, 15, 16]) (N := 17) ⟨rfl, by decide +kernel, rfl, by decide +kernel, rfl, ⟨⟨_, rfl, rfl⟩, ⟨⟨_, rfl, rfl⟩, ⟨⟨_, rfl, rfl⟩, ⟨⟨_, rfl, rfl⟩, ⟨⟨_, rfl, rfl⟩, ⟨⟨_, rfl, rfl⟩, ⟨⟨_, rfl, rfl⟩, ⟨⟨_, rfl, rfl⟩, ⟨⟨_, rfl, rfl⟩, ⟨⟨_, rfl, rfl⟩, ⟨⟨_, rfl, rfl⟩, ⟨⟨_, rfl, rfl⟩, ⟨⟨_, rfl, rfl⟩, ⟨⟨_, rfl, rfl⟩, ⟨⟨_, rfl, rfl⟩, ⟨⟨_, rfl, rfl⟩, ⟨⟨_, rfl, rfl⟩, trivial⟩⟩⟩⟩⟩⟩⟩⟩⟩⟩⟩⟩⟩⟩⟩⟩⟩⟩ rfl ?_
  refine J_if_eq (pc := 4) (tgt := 25) C 2 rfl rfl (fun c2 => ?_) (fun c2 => ?_)
  · rw [if_pos c2] at h
    refine J_iconst (pc := 25) (v := (-1 : Int32)) C 13 rfl rfl ?_
    cases h
    exact J_iret (pc := 26) C 14 rfl
  · rw [if_neg c2] at h
    refine J_iload_n (pc := 7) C 3 rfl 2 rfl rfl ?_
    refine J_iconst (pc := 8) (v := (0 : Int32)) C 4 rfl rfl ?_
    refine J_aload_n (pc := 9) C 5 rfl 0 rfl rfl ?_
    refine J_get (pc := 10) (v := .ref (aS 0)) C 6 rfl TB_l4 rfl 0 1 rfl (by decide) k197 rfl rfl ?_
    refine J_iload_n (pc := 13) C 7 rfl 1 rfl rfl ?_
    obtain ⟨q3, hq3, h⟩ := bnd h
    refine J_callV (pc := 14) (st2 := [.int (0 : Int32), .int x2]) (st3 := [.int q3, .int (0 : Int32), .int x2]) (ws2 := (wEx aX (aT 0) (aT2 0) (aS 0) (aS2 0) (aP 0) (aH 0) aB aU ++ (wSeat G aT (aS 0) (vT 1) (vT 2) (vT 3) (vT 4 0) (vT 5 0) (vT 6) (vT 7) (vT 8) ++ (wSch G aS (vS 0) (vS 1) (vS 2) (vS 3) (vS 4) (vS 5) (vS 6) (vS 7) (vS 8 0) (vS 9 0))))) C 8 rfl (c_X2_desksOf aS vS x1 hq3) V_X2_desksOf k261 i_X2_desksOf s_X2_desksOf rfl rfl ⟨Nat.le_of_ble_eq_true rfl, Nat.le_of_ble_eq_true rfl⟩ (Nat.le_of_ble_eq_true rfl) ⟨Nat.le_refl _, Nat.le_refl _⟩ 8 2 rfl rfl rfl (isC := [8, 9, 10, 11, 12, 13, 14, 15, 16]) (isR := [0, 1, 2, 3, 4, 5, 6, 7]) (N := 17) ⟨rfl, by decide +kernel, rfl, by decide +kernel, rfl, ⟨⟨_, rfl, rfl⟩, ⟨⟨_, rfl, rfl⟩, ⟨⟨_, rfl, rfl⟩, ⟨⟨_, rfl, rfl⟩, ⟨⟨_, rfl, rfl⟩, ⟨⟨_, rfl, rfl⟩, ⟨⟨_, rfl, rfl⟩, ⟨⟨_, rfl, rfl⟩, trivial⟩⟩⟩⟩⟩⟩⟩⟩⟩ rfl ?_
    refine J_iconst (pc := 17) (v := (1 : Int32)) C 9 rfl rfl ?_
    refine J_isub (pc := 18) C 10 rfl  ?_
    obtain ⟨q4, hq4, h⟩ := bnd h
    refine J_callS (pc := 19) (st2 := []) (st3 := [.int q4]) (ws2 := (wEx aX (aT 0) (aT2 0) (aS 0) (aS2 0) (aP 0) (aH 0) aB aU ++ (wSeat G aT (aS 0) (vT 1) (vT 2) (vT 3) (vT 4 0) (vT 5 0) (vT 6) (vT 7) (vT 8) ++ (wSch G aS (vS 0) (vS 1) (vS 2) (vS 3) (vS 4) (vS 5) (vS 6) (vS 7) (vS 8 0) (vS 9 0))))) C 11 rfl (c_X4_isWithin x2 (0 : Int32) (q3 - (1 : Int32)) hq4) V_X4_isWithin k221 t_X4_isWithin rfl rfl ⟨Nat.le_of_ble_eq_true rfl, Nat.le_of_ble_eq_true rfl⟩ (Nat.le_of_ble_eq_true rfl) ⟨Nat.le_refl _, Nat.le_refl _⟩ (isC := []) (isR := [0, 1, 2, 3, 4, 5, 6, 7, 8, 9, 10, 11, 12, 13, 14, 15, 16]) (N := 17) ⟨rfl, by decide +kernel, rfl, by decide +kernel, rfl, ⟨⟨_, rfl, rfl⟩, ⟨⟨_, rfl, rfl⟩, ⟨⟨_, rfl, rfl⟩, ⟨⟨_, rfl, rfl⟩, ⟨⟨_, rfl, rfl⟩, ⟨⟨_, rfl, rfl⟩, ⟨⟨_, rfl, rfl⟩, ⟨⟨_, rfl, rfl⟩, ⟨⟨_, rfl, rfl⟩, ⟨⟨_, rfl, rfl⟩, ⟨⟨_, rfl, rfl⟩, ⟨⟨_, rfl, rfl⟩, ⟨⟨_, rfl, rfl⟩, ⟨⟨_, rfl, rfl⟩, ⟨⟨_, rfl, rfl⟩, ⟨⟨_, rfl, rfl⟩, ⟨⟨_, rfl, rfl⟩, trivial⟩⟩⟩⟩⟩⟩⟩⟩⟩⟩⟩⟩⟩⟩⟩⟩⟩⟩ rfl ?_
    refine J_if_ne (pc := 22) (tgt := 27) C 12 rfl rfl (fun c5 => ?_) (fun c5 => ?_)
    · rw [if_neg c5] at h
      refine J_iload_n (pc := 27) C 15 rfl 3 rfl rfl ?_
      refine J_if_ge (pc := 28) (tgt := 34) C 16 rfl rfl (fun c6 => ?_) (fun c6 => ?_)
      · rw [if_pos c6] at h
        refine J_aload_n (pc := 34) C 19 rfl 0 rfl rfl ?_
        refine J_get (pc := 35) (v := .ref (aT 0)) C 20 rfl TB_l4 rfl 0 0 rfl (by decide) k195 rfl rfl ?_
        refine J_iload_n (pc := 38) C 21 rfl 1 rfl rfl ?_
        refine J_iload_n (pc := 39) C 22 rfl 2 rfl rfl ?_
        refine J_iload_n (pc := 40) C 23 rfl 3 rfl rfl ?_
        obtain ⟨q7, hq7, h⟩ := bnd h
        refine J_callV (pc := 41) (st2 := []) (st3 := [.int q7]) (ws2 := (wEx aX (aT 0) (aT2 0) (aS 0) (aS2 0) (aP 0) (aH 0) aB aU ++ (wSeat G aT (aS 0) (vT 1) (vT 2) (vT 3) (vT 4 0) (vT 5 0) (vT 6) (vT 7) (vT 8) ++ (wSch G aS (vS 0) (vS 1) (vS 2) (vS 3) (vS 4) (vS 5) (vS 6) (vS 7) (vS 8 0) (vS 9 0))))) C 24 rfl (c_X3_sittingAt aT aS vT vS x1 x2 x3 hq7) V_X3_sittingAt k321 i_X3_sittingAt s_X3_sittingAt rfl rfl ⟨Nat.le_of_ble_eq_true rfl, Nat.le_of_ble_eq_true rfl⟩ (Nat.le_of_ble_eq_true rfl) ⟨Nat.le_refl _, Nat.le_refl _⟩ 1 3 rfl rfl rfl (isC := [1, 2, 3, 4, 5, 6, 7, 8, 9, 10, 11, 12, 13, 14, 15, 16]) (isR := [0]) (N := 17) ⟨rfl, by decide +kernel, rfl, by decide +kernel, rfl, ⟨⟨_, rfl, rfl⟩, trivial⟩⟩ rfl ?_
        cases h
        exact J_iret (pc := 44) C 25 rfl
      · rw [if_neg c6] at h
        refine J_bipush (pc := 31) (v := (-2 : Int32)) C 17 rfl rfl ?_
        cases h
        exact J_iret (pc := 33) C 18 rfl
    · rw [if_pos c5] at h
      refine J_iconst (pc := 25) (v := (-1 : Int32)) C 13 rfl rfl ?_
      cases h
      exact J_iret (pc := 26) C 14 rfl
def T_X4_ifStart : List (Nat × ClassFile.Instr × Nat) := [(0, .iload_n 1, 1), (1, .invokestatic 70, 3), (4, .ifCond .ne 5, 3), (7, .iconst (-1), 1), (8, .ireturn, 1), (9, .iload_n 2, 1), (10, .invokestatic 74, 3), (13, .ifCond .eq 12, 3), (16, .iload_n 3, 1), (17, .iconst 0, 1), (18, .iconst 2, 1), (19, .invokestatic 55, 3), (22, .ifCond .ne 6, 3), (25, .bipush (-2), 2), (27, .ireturn, 1), (28, .aload_n 0, 1), (29, .getfield 24, 3), (32, .aload_n 0, 1), (33, .getfield 20, 3), (36, .invokevirtual 230, 3), (39, .aload_n 0, 1), (40, .getfield 24, 3), (43, .getfield 77, 3), (46, .iload_n 1, 1), (47, .iload_n 2, 1), (48, .iastore, 1), (49, .iload_n 3, 1), (50, .lookupswitch 49 #[(0, 26), (1, 34)], 26), (76, .aload_n 0, 1), (77, .getfield 24, 3), (80, .invokevirtual 211, 3), (83, .ireturn, 1), (84, .aload_n 0, 1), (85, .getfield 21, 3), (88, .invokevirtual 52, 3), (91, .aload_n 0, 1), (92, .getfield 21, 3), (95, .getfield 150, 3), (98, .ireturn, 1), (99, .aload_n 0, 1), (100, .getfield 24, 3), (103, .invokevirtual 220, 3), (106, .ireturn, 1)]
theorem D_X4_ifStart : ∀ q ∈ T_X4_ifStart, decode cX4_ifStart q.1 = .ok q.2 := by decide +kernel
theorem V_X4_ifStart : Vy yX4_ifStart cX4_ifStart 4 (some .int) 3 := ⟨k326, k56, by decide +kernel⟩
theorem i_X4_ifStart : Cond.instanceMethod yX4_ifStart ∈ TB := k387
theorem s_X4_ifStart : Cond.selects yX4_ifStart.cls yX4_ifStart yX4_ifStart ∈ TB := k388
noncomputable def f_X4_ifStart (vS : JV) (vT2 : JV) (vS2 : JV) (x1 : Int32) (x2 : Int32) (x3 : Int32) : Option (Int32 × JV × JV) :=
  (f_X4_isPaper x1).bind (fun q1 => (if q1 = 0 then some ((-1 : Int32), vT2, vS2) else (f_X4_isStart x2).bind (fun q3 => (if q3 = 0 then some ((-2 : Int32), vT2, vS2) else (f_X4_isWithin x3 (0 : Int32) (2 : Int32)).bind (fun q5 => (if q5 = 0 then some ((-2 : Int32), vT2, vS2) else (f_X2_copyFrom vS2 vS).bind (fun q7 => gd (inb x1 6) ((if x3 = (0 : Int32) then (f_X2_clashes (up2 q7 1 (Int32.toNatClampNeg x1) x2)).bind (fun q10 => some (q10, vT2, (up2 q7 1 (Int32.toNatClampNeg x1) x2))) else (if x3 = (1 : Int32) then (f_X3_seatAll vT2 (up2 q7 1 (Int32.toNatClampNeg x1) x2)).bind (fun q12 => some ((q12 4 0), q12, (up2 q7 1 (Int32.toNatClampNeg x1) x2))) else (f_X2_lastEnd (up2 q7 1 (Int32.toNatClampNeg x1) x2)).bind (fun q13 => some (q13, vT2, (up2 q7 1 (Int32.toNatClampNeg x1) x2)))))))))))))
set_option maxRecDepth 100000 in
set_option maxHeartbeats 4000000 in
theorem c_X4_ifStart {l : Launch} {G : JG} (aX : Nat) (aT : Nat → Nat) (aS : Nat → Nat) (aT2 : Nat → Nat) (aS2 : Nat → Nat) (aP : Nat → Nat) (aH : Nat → Nat) (aB : Nat) (aU : Nat) (vS : JV) (vT2 : JV) (vS2 : JV) (x1 : Int32) (x2 : Int32) (x3 : Int32) {Rz : Int32 × JV × JV} (h : f_X4_ifStart vS vT2 vS2 x1 x2 x3 = some Rz) : JM l G yX4_ifStart cX4_ifStart 4 (some .int) 6 141 [.ref aX, .int x1, .int x2, .int x3] (wEx aX (aT 0) (aT2 0) (aS 0) (aS2 0) (aP 0) (aH 0) aB aU ++ (wSch G aS (vS 0) (vS 1) (vS 2) (vS 3) (vS 4) (vS 5) (vS 6) (vS 7) (vS 8 0) (vS 9 0) ++ (wSeat G aT2 (aS2 0) (vT2 1) (vT2 2) (vT2 3) (vT2 4 0) (vT2 5 0) (vT2 6) (vT2 7) (vT2 8) ++ (wSch G aS2 (vS2 0) (vS2 1) (vS2 2) (vS2 3) (vS2 4) (vS2 5) (vS2 6) (vS2 7) (vS2 8 0) (vS2 9 0))))) (wEx aX (aT 0) (aT2 0) (aS 0) (aS2 0) (aP 0) (aH 0) aB aU ++ (wSch G aS (vS 0) (vS 1) (vS 2) (vS 3) (vS 4) (vS 5) (vS 6) (vS 7) (vS 8 0) (vS 9 0) ++ (wSeat G aT2 (aS2 0) ((Rz.2.1) 1) ((Rz.2.1) 2) ((Rz.2.1) 3) ((Rz.2.1) 4 0) ((Rz.2.1) 5 0) ((Rz.2.1) 6) ((Rz.2.1) 7) ((Rz.2.1) 8) ++ (wSch G aS2 ((Rz.2.2) 0) ((Rz.2.2) 1) ((Rz.2.2) 2) ((Rz.2.2) 3) ((Rz.2.2) 4) ((Rz.2.2) 5) ((Rz.2.2) 6) ((Rz.2.2) 7) ((Rz.2.2) 8 0) ((Rz.2.2) 9 0))))) (some (.int (Rz.1))) := by
  refine JM.of (own := RX4) (tb := T_X4_ifStart) (by decide) (Nat.le_of_ble_eq_true rfl) D_X4_ifStart rfl (fun X C => ?_)
  refine J_sub (lv' := [(0, .ref aX), (1, .int x1), (2, .int x2), (3, .int x3)]) [0, 1, 2, 3] rfl ?_
  unfold f_X4_ifStart at h
  refine J_iload_n (pc := 0) C 0 rfl 1 rfl rfl ?_
  obtain ⟨q1, hq1, h⟩ := bnd h
  refine J_callS (pc := 1) (st2 := []) (st3 := [.int q1]) (ws2 := (wEx aX (aT 0) (aT2 0) (aS 0) (aS2 0) (aP 0) (aH 0) aB aU ++ (wSch G aS (vS 0) (vS 1) (vS 2) (vS 3) (vS 4) (vS 5) (vS 6) (vS 7) (vS 8 0) (vS 9 0) ++ (wSeat G aT2 (aS2 0) (vT2 1) (vT2 2) (vT2 3) (vT2 4 0) (vT2 5 0) (vT2 6) (vT2 7) (vT2 8) ++ (wSch G aS2 (vS2 0) (vS2 1) (vS2 2) (vS2 3) (vS2 4) (vS2 5) (vS2 6) (vS2 7) (vS2 8 0) (vS2 9 0)))))) C 1 rfl (c_X4_isPaper x1 hq1) V_X4_isPaper k231 t_X4_isPaper rfl rfl ⟨Nat.le_of_ble_eq_true rfl, Nat.le_of_ble_eq_true rfl⟩ (Nat.le_of_ble_eq_true rfl) ⟨Nat.le_refl _, Nat.le_refl _⟩ (isC := []) (isR := [0, 1, 2, 3, 4, 5, 6, 7, 8, 9, 10, 11, 12, 13, 14, 15, 16, 17, 18, 19, 20, 21, 22, 23, 24, 25]) (N := 26) ⟨rfl, by decide +kernel, rfl, by decide +kernel, rfl, ⟨⟨_, rfl, rfl⟩, ⟨⟨_, rfl, rfl⟩, ⟨⟨_, rfl, rfl⟩, ⟨⟨_, rfl, rfl⟩, ⟨⟨_, rfl, rfl⟩, ⟨⟨_, rfl, rfl⟩, ⟨⟨_, rfl, rfl⟩, ⟨⟨_, rfl, rfl⟩, ⟨⟨_, rfl, rfl⟩, ⟨⟨_, rfl, rfl⟩, ⟨⟨_, rfl, rfl⟩, ⟨⟨_, rfl, rfl⟩, ⟨⟨_, rfl, rfl⟩, ⟨⟨_, rfl, rfl⟩, ⟨⟨_, rfl, rfl⟩, ⟨⟨_, rfl, rfl⟩, ⟨⟨_, rfl, rfl⟩, ⟨⟨_, rfl, rfl⟩, ⟨⟨_, rfl, rfl⟩, ⟨⟨_, rfl, rfl⟩, ⟨⟨_, rfl, rfl⟩, ⟨⟨_, rfl, rfl⟩, ⟨⟨_, rfl, rfl⟩, ⟨⟨_, rfl, rfl⟩, ⟨⟨_, rfl, rfl⟩, ⟨⟨_, rfl, rfl⟩, trivial⟩⟩⟩⟩⟩⟩⟩⟩⟩⟩⟩⟩⟩⟩⟩⟩⟩⟩⟩⟩⟩⟩⟩⟩⟩⟩⟩ rfl ?_
  refine J_if_ne (pc := 4) (tgt := 9) C 2 rfl rfl (fun c2 => ?_) (fun c2 => ?_)
  · rw [if_neg c2] at h
    refine J_iload_n (pc := 9) C 5 rfl 2 rfl rfl ?_
    obtain ⟨q3, hq3, h⟩ := bnd h
    refine J_callS (pc := 10) (st2 := []) (st3 := [.int q3]) (ws2 := (wEx aX (aT 0) (aT2 0) (aS 0) (aS2 0) (aP 0) (aH 0) aB aU ++ (wSch G aS (vS 0) (vS 1) (vS 2) (vS 3) (vS 4) (vS 5) (vS 6) (vS 7) (vS 8 0) (vS 9 0) ++ (wSeat G aT2 (aS2 0) (vT2 1) (vT2 2) (vT2 3) (vT2 4 0) (vT2 5 0) (vT2 6) (vT2 7) (vT2 8) ++ (wSch G aS2 (vS2 0) (vS2 1) (vS2 2) (vS2 3) (vS2 4) (vS2 5) (vS2 6) (vS2 7) (vS2 8 0) (vS2 9 0)))))) C 6 rfl (c_X4_isStart x2 hq3) V_X4_isStart k233 t_X4_isStart rfl rfl ⟨Nat.le_of_ble_eq_true rfl, Nat.le_of_ble_eq_true rfl⟩ (Nat.le_of_ble_eq_true rfl) ⟨Nat.le_refl _, Nat.le_refl _⟩ (isC := []) (isR := [0, 1, 2, 3, 4, 5, 6, 7, 8, 9, 10, 11, 12, 13, 14, 15, 16, 17, 18, 19, 20, 21, 22, 23, 24, 25]) (N := 26) ⟨rfl, by decide +kernel, rfl, by decide +kernel, rfl, ⟨⟨_, rfl, rfl⟩, ⟨⟨_, rfl, rfl⟩, ⟨⟨_, rfl, rfl⟩, ⟨⟨_, rfl, rfl⟩, ⟨⟨_, rfl, rfl⟩, ⟨⟨_, rfl, rfl⟩, ⟨⟨_, rfl, rfl⟩, ⟨⟨_, rfl, rfl⟩, ⟨⟨_, rfl, rfl⟩, ⟨⟨_, rfl, rfl⟩, ⟨⟨_, rfl, rfl⟩, ⟨⟨_, rfl, rfl⟩, ⟨⟨_, rfl, rfl⟩, ⟨⟨_, rfl, rfl⟩, ⟨⟨_, rfl, rfl⟩, ⟨⟨_, rfl, rfl⟩, ⟨⟨_, rfl, rfl⟩, ⟨⟨_, rfl, rfl⟩, ⟨⟨_, rfl, rfl⟩, ⟨⟨_, rfl, rfl⟩, ⟨⟨_, rfl, rfl⟩, ⟨⟨_, rfl, rfl⟩, ⟨⟨_, rfl, rfl⟩, ⟨⟨_, rfl, rfl⟩, ⟨⟨_, rfl, rfl⟩, ⟨⟨_, rfl, rfl⟩, trivial⟩⟩⟩⟩⟩⟩⟩⟩⟩⟩⟩⟩⟩⟩⟩⟩⟩⟩⟩⟩⟩⟩⟩⟩⟩⟩⟩ rfl ?_
    refine J_if_eq (pc := 13) (tgt := 25) C 7 rfl rfl (fun c4 => ?_) (fun c4 => ?_)
    · rw [if_pos c4] at h
      refine J_bipush (pc := 25) (v := (-2 : Int32)) C 13 rfl rfl ?_
      cases h
      exact J_iret (pc := 27) C 14 rfl
    · rw [if_neg c4] at h
      refine J_iload_n (pc := 16) C 8 rfl 3 rfl rfl ?_
      refine J_iconst (pc := 17) (v := (0 : Int32)) C 9 rfl rfl ?_
      refine J_iconst (pc := 18) (v := (2 : Int32)) C 10 rfl rfl ?_
      obtain ⟨q5, hq5, h⟩ := bnd h
      refine J_callS (pc := 19) (st2 := []) (st3 := [.int q5]) (ws2 := (wEx aX (aT 0) (aT2 0) (aS 0) (aS2 0) (aP 0) (aH 0) aB aU ++ (wSch G aS (vS 0) (vS 1) (vS 2) (vS 3) (vS 4) (vS 5) (vS 6) (vS 7) (vS 8 0) (vS 9 0) ++ (wSeat G aT2 (aS2 0) (vT2 1) (vT2 2) (vT2 3) (vT2 4 0) (vT2 5 0) (vT2 6) (vT2 7) (vT2 8) ++ (wSch G aS2 (vS2 0) (vS2 1) (vS2 2) (vS2 3) (vS2 4) (vS2 5) (vS2 6) (vS2 7) (vS2 8 0) (vS2 9 0)))))) C 11 rfl (c_X4_isWithin x3 (0 : Int32) (2 : Int32) hq5) V_X4_isWithin k221 t_X4_isWithin rfl rfl ⟨Nat.le_of_ble_eq_true rfl, Nat.le_of_ble_eq_true rfl⟩ (Nat.le_of_ble_eq_true rfl) ⟨Nat.le_refl _, Nat.le_refl _⟩ (isC := []) (isR := [0, 1, 2, 3, 4, 5, 6, 7, 8, 9, 10, 11, 12, 13, 14, 15, 16, 17, 18, 19, 20, 21, 22, 23, 24, 25]) (N := 26) ⟨rfl, by decide +kernel, rfl, by decide +kernel, rfl, ⟨⟨_, rfl, rfl⟩, ⟨⟨_, rfl, rfl⟩, ⟨⟨_, rfl, rfl⟩, ⟨⟨_, rfl, rfl⟩, ⟨⟨_, rfl, rfl⟩, ⟨⟨_, rfl, rfl⟩, ⟨⟨_, rfl, rfl⟩, ⟨⟨_, rfl, rfl⟩, ⟨⟨_, rfl, rfl⟩, ⟨⟨_, rfl, rfl⟩, ⟨⟨_, rfl, rfl⟩, ⟨⟨_, rfl, rfl⟩, ⟨⟨_, rfl, rfl⟩, ⟨⟨_, rfl, rfl⟩, ⟨⟨_, rfl, rfl⟩, ⟨⟨_, rfl, rfl⟩, ⟨⟨_, rfl, rfl⟩, ⟨⟨_, rfl, rfl⟩, ⟨⟨_, rfl, rfl⟩, ⟨⟨_, rfl, rfl⟩, ⟨⟨_, rfl, rfl⟩, ⟨⟨_, rfl, rfl⟩, ⟨⟨_, rfl, rfl⟩, ⟨⟨_, rfl, rfl⟩, ⟨⟨_, rfl, rfl⟩, ⟨⟨_, rfl, rfl⟩, trivial⟩⟩⟩⟩⟩⟩⟩⟩⟩⟩⟩⟩⟩⟩⟩⟩⟩⟩⟩⟩⟩⟩⟩⟩⟩⟩⟩ rfl ?_
      refine J_if_ne (pc := 22) (tgt := 28) C 12 rfl rfl (fun c6 => ?_) (fun c6 => ?_)
      · rw [if_neg c6] at h
        refine J_aload_n (pc := 28) C 15 rfl 0 rfl rfl ?_
        refine J_get (pc := 29) (v := .ref (aS2 0)) C 16 rfl TB_l4 rfl 0 3 rfl (by decide) k199 rfl rfl ?_
        refine J_aload_n (pc := 32) C 17 rfl 0 rfl rfl ?_
        refine J_get (pc := 33) (v := .ref (aS 0)) C 18 rfl TB_l4 rfl 0 1 rfl (by decide) k197 rfl rfl ?_
        obtain ⟨q7, hq7, h⟩ := bnd h
        refine J_callV (pc := 36) (st2 := []) (st3 := []) (ws2 := (wEx aX (aT 0) (aT2 0) (aS 0) (aS2 0) (aP 0) (aH 0) aB aU ++ (wSch G aS (vS 0) (vS 1) (vS 2) (vS 3) (vS 4) (vS 5) (vS 6) (vS 7) (vS 8 0) (vS 9 0) ++ (wSeat G aT2 (aS2 0) (vT2 1) (vT2 2) (vT2 3) (vT2 4 0) (vT2 5 0) (vT2 6) (vT2 7) (vT2 8) ++ (wSch G aS2 (q7 0) (q7 1) (q7 2) (q7 3) (q7 4) (q7 5) (q7 6) (q7 7) (q7 8 0) (q7 9 0)))))) C 19 rfl (c_X2_copyFrom aS2 aS vS2 vS hq7) V_X2_copyFrom k325 i_X2_copyFrom s_X2_copyFrom rfl rfl ⟨Nat.le_of_ble_eq_true rfl, Nat.le_of_ble_eq_true rfl⟩ (Nat.le_of_ble_eq_true rfl) ⟨Nat.le_refl _, Nat.le_refl _⟩ 17 2 rfl rfl rfl (isC := [17, 18, 19, 20, 21, 22, 23, 24, 25, 1, 2, 3, 4, 5, 6, 7, 8, 9]) (isR := [0, 10, 11, 12, 13, 14, 15, 16]) (N := 26) ⟨rfl, by decide +kernel, rfl, by decide +kernel, rfl, ⟨⟨_, rfl, rfl⟩, ⟨⟨_, rfl, rfl⟩, ⟨⟨_, rfl, rfl⟩, ⟨⟨_, rfl, rfl⟩, ⟨⟨_, rfl, rfl⟩, ⟨⟨_, rfl, rfl⟩, ⟨⟨_, rfl, rfl⟩, ⟨⟨_, rfl, rfl⟩, trivial⟩⟩⟩⟩⟩⟩⟩⟩⟩ rfl ?_
        refine J_aload_n (pc := 39) C 20 rfl 0 rfl rfl ?_
        refine J_get (pc := 40) (v := .ref (aS2 0)) C 21 rfl TB_l4 rfl 0 3 rfl (by decide) k199 rfl rfl ?_
        refine J_get (pc := 43) (v := .ref (aS2 2)) C 22 rfl TB_l2 rfl 17 1 rfl (by decide) k229 rfl rfl ?_
        refine J_iload_n (pc := 46) C 23 rfl 1 rfl rfl ?_
        refine J_iload_n (pc := 47) C 24 rfl 2 rfl rfl ?_
        obtain ⟨g8, h⟩ := gd_some h
        refine J_iast (pc := 48) (f := (q7 1)) (m := (Int32.toNatClampNeg x1)) C 25 (fun mm vv => (wEx aX (aT 0) (aT2 0) (aS 0) (aS2 0) (aP 0) (aH 0) aB aU ++ (wSch G aS (vS 0) (vS 1) (vS 2) (vS 3) (vS 4) (vS 5) (vS 6) (vS 7) (vS 8 0) (vS 9 0) ++ (wSeat G aT2 (aS2 0) (vT2 1) (vT2 2) (vT2 3) (vT2 4 0) (vT2 5 0) (vT2 6) (vT2 7) (vT2 8) ++ (wSch G aS2 (q7 0) (upd (q7 1) mm vv) (q7 2) (q7 3) (q7 4) (q7 5) (q7 6) (q7 7) (q7 8 0) (q7 9 0)))))) rfl 19 rfl g8 rfl (fun _ _ => rfl) ?_
        refine J_iload_n (pc := 49) C 26 rfl 3 rfl rfl ?_
        by_cases c9 : x3 = (0 : Int32)
        · rw [if_pos c9] at h
          refine J_look (pc := 50) (tgt := 76) (off := 26) C 27 rfl (by decide) (by rw [c9]; rfl) rfl ?_
          refine J_aload_n (pc := 76) C 28 rfl 0 rfl rfl ?_
          refine J_get (pc := 77) (v := .ref (aS2 0)) C 29 rfl TB_l4 rfl 0 3 rfl (by decide) k199 rfl rfl ?_
          obtain ⟨q10, hq10, h⟩ := bnd h
          refine J_callV (pc := 80) (st2 := []) (st3 := [.int q10]) (ws2 := (wEx aX (aT 0) (aT2 0) (aS 0) (aS2 0) (aP 0) (aH 0) aB aU ++ (wSch G aS (vS 0) (vS 1) (vS 2) (vS 3) (vS 4) (vS 5) (vS 6) (vS 7) (vS 8 0) (vS 9 0) ++ (wSeat G aT2 (aS2 0) (vT2 1) (vT2 2) (vT2 3) (vT2 4 0) (vT2 5 0) (vT2 6) (vT2 7) (vT2 8) ++ (wSch G aS2 (q7 0) (upd (q7 1) (Int32.toNatClampNeg x1) x2) (q7 2) (q7 3) (q7 4) (q7 5) (q7 6) (q7 7) (q7 8 0) (q7 9 0)))))) C 30 rfl (c_X2_clashes aS2 (up2 q7 1 (Int32.toNatClampNeg x1) x2) hq10) V_X2_clashes k308 i_X2_clashes s_X2_clashes rfl rfl ⟨Nat.le_of_ble_eq_true rfl, Nat.le_of_ble_eq_true rfl⟩ (Nat.le_of_ble_eq_true rfl) ⟨Nat.le_refl _, Nat.le_refl _⟩ 17 2 rfl rfl rfl (isC := [17, 18, 19, 20, 21, 22, 23, 24, 25]) (isR := [0, 1, 2, 3, 4, 5, 6, 7, 8, 9, 10, 11, 12, 13, 14, 15, 16]) (N := 26) ⟨rfl, by decide +kernel, rfl, by decide +kernel, rfl, ⟨⟨_, rfl, rfl⟩, ⟨⟨_, rfl, rfl⟩, ⟨⟨_, rfl, rfl⟩, ⟨⟨_, rfl, rfl⟩, ⟨⟨_, rfl, rfl⟩, ⟨⟨_, rfl, rfl⟩, ⟨⟨_, rfl, rfl⟩, ⟨⟨_, rfl, rfl⟩, ⟨⟨_, rfl, rfl⟩, ⟨⟨_, rfl, rfl⟩, ⟨⟨_, rfl, rfl⟩, ⟨⟨_, rfl, rfl⟩, ⟨⟨_, rfl, rfl⟩, ⟨⟨_, rfl, rfl⟩, ⟨⟨_, rfl, rfl⟩, ⟨⟨_, rfl, rfl⟩, ⟨⟨_, rfl, rfl⟩, trivial⟩⟩⟩⟩⟩⟩⟩⟩⟩⟩⟩⟩⟩⟩⟩⟩⟩⟩ rfl ?_
          cases h
          exact J_iret (pc := 83) C 31 rfl
        · rw [if_neg c9] at h
          by_cases c11 : x3 = (1 : Int32)
          · rw [if_pos c11] at h
            refine J_look (pc := 50) (tgt := 84) (off := 34) C 27 rfl (by decide) (by rw [c11]; rfl) rfl ?_
            refine J_aload_n (pc := 84) C 32 rfl 0 rfl rfl ?_
            refine J_get (pc := 85) (v := .ref (aT2 0)) C 33 rfl TB_l4 rfl 0 2 rfl (by decide) k198 rfl rfl ?_
            obtain ⟨q12, hq12, h⟩ := bnd h
            refine J_callV (pc := 88) (st2 := []) (st3 := []) (ws2 := (wEx aX (aT 0) (aT2 0) (aS 0) (aS2 0) (aP 0) (aH 0) aB aU ++ (wSch G aS (vS 0) (vS 1) (vS 2) (vS 3) (vS 4) (vS 5) (vS 6) (vS 7) (vS 8 0) (vS 9 0) ++ (wSeat G aT2 (aS2 0) (q12 1) (q12 2) (q12 3) (q12 4 0) (q12 5 0) (q12 6) (q12 7) (q12 8) ++ (wSch G aS2 (q7 0) (upd (q7 1) (Int32.toNatClampNeg x1) x2) (q7 2) (q7 3) (q7 4) (q7 5) (q7 6) (q7 7) (q7 8 0) (q7 9 0)))))) C 34 rfl (c_X3_seatAll aT2 aS2 vT2 (up2 q7 1 (Int32.toNatClampNeg x1) x2) hq12) V_X3_seatAll k214 i_X3_seatAll s_X3_seatAll rfl rfl ⟨Nat.le_of_ble_eq_true rfl, Nat.le_of_ble_eq_true rfl⟩ (Nat.le_of_ble_eq_true rfl) ⟨Nat.le_refl _, Nat.le_refl _⟩ 10 3 rfl rfl rfl (isC := [10, 11, 12, 13, 14, 15, 16, 17, 18, 19, 20, 21, 22, 23, 24, 25]) (isR := [0, 1, 2, 3, 4, 5, 6, 7, 8, 9]) (N := 26) ⟨rfl, by decide +kernel, rfl, by decide +kernel, rfl, ⟨⟨_, rfl, rfl⟩, ⟨⟨_, rfl, rfl⟩, ⟨⟨_, rfl, rfl⟩, ⟨⟨_, rfl, rfl⟩, ⟨⟨_, rfl, rfl⟩, ⟨⟨_, rfl, rfl⟩, ⟨⟨_, rfl, rfl⟩, ⟨⟨_, rfl, rfl⟩, ⟨⟨_, rfl, rfl⟩, ⟨⟨_, rfl, rfl⟩, trivial⟩⟩⟩⟩⟩⟩⟩⟩⟩⟩⟩ rfl ?_
            refine J_aload_n (pc := 91) C 35 rfl 0 rfl rfl ?_
            refine J_get (pc := 92) (v := .ref (aT2 0)) C 36 rfl TB_l4 rfl 0 2 rfl (by decide) k198 rfl rfl ?_
            refine J_get (pc := 95) (v := .int (q12 4 0)) C 37 rfl TB_l3 rfl 10 4 rfl (by decide) k264 rfl rfl ?_
            cases h
            exact J_iret (pc := 98) C 38 rfl
          · rw [if_neg c11] at h
            have ec9 := lv_neT (a := 0) c9 rfl
            have ec11 := lv_neT (a := 1) c11 rfl
            refine J_look (pc := 50) (tgt := 99) (off := 49) C 27 rfl (by decide) (by show Op.lookupswitch.offset [(0, 26), (1, 34)] 49 _ = 49; rw [lv_osw (a := 0) c9 rfl]; rw [lv_osw (a := 1) c11 rfl]; rfl) rfl ?_
            refine J_aload_n (pc := 99) C 39 rfl 0 rfl rfl ?_
            refine J_get (pc := 100) (v := .ref (aS2 0)) C 40 rfl TB_l4 rfl 0 3 rfl (by decide) k199 rfl rfl ?_
            obtain ⟨q13, hq13, h⟩ := bnd h
            refine J_callV (pc := 103) (st2 := []) (st3 := [.int q13]) (ws2 := (wEx aX (aT 0) (aT2 0) (aS 0) (aS2 0) (aP 0) (aH 0) aB aU ++ (wSch G aS (vS 0) (vS 1) (vS 2) (vS 3) (vS 4) (vS 5) (vS 6) (vS 7) (vS 8 0) (vS 9 0) ++ (wSeat G aT2 (aS2 0) (vT2 1) (vT2 2) (vT2 3) (vT2 4 0) (vT2 5 0) (vT2 6) (vT2 7) (vT2 8) ++ (wSch G aS2 (q7 0) (upd (q7 1) (Int32.toNatClampNeg x1) x2) (q7 2) (q7 3) (q7 4) (q7 5) (q7 6) (q7 7) (q7 8 0) (q7 9 0)))))) C 41 rfl (c_X2_lastEnd aS2 (up2 q7 1 (Int32.toNatClampNeg x1) x2) hq13) V_X2_lastEnd k317 i_X2_lastEnd s_X2_lastEnd rfl rfl ⟨Nat.le_of_ble_eq_true rfl, Nat.le_of_ble_eq_true rfl⟩ (Nat.le_of_ble_eq_true rfl) ⟨Nat.le_refl _, Nat.le_refl _⟩ 17 2 rfl rfl rfl (isC := [17, 18, 19, 20, 21, 22, 23, 24, 25]) (isR := [0, 1, 2, 3, 4, 5, 6, 7, 8, 9, 10, 11, 12, 13, 14, 15, 16]) (N := 26) ⟨rfl, by decide +kernel, rfl, by decide +kernel, rfl, ⟨⟨_, rfl, rfl⟩, ⟨⟨_, rfl, rfl⟩, ⟨⟨_, rfl, rfl⟩, ⟨⟨_, rfl, rfl⟩, ⟨⟨_, rfl, rfl⟩, ⟨⟨_, rfl, rfl⟩, ⟨⟨_, rfl, rfl⟩, ⟨⟨_, rfl, rfl⟩, ⟨⟨_, rfl, rfl⟩, ⟨⟨_, rfl, rfl⟩, ⟨⟨_, rfl, rfl⟩, ⟨⟨_, rfl, rfl⟩, ⟨⟨_, rfl, rfl⟩, ⟨⟨_, rfl, rfl⟩, ⟨⟨_, rfl, rfl⟩, ⟨⟨_, rfl, rfl⟩, ⟨⟨_, rfl, rfl⟩, trivial⟩⟩⟩⟩⟩⟩⟩⟩⟩⟩⟩⟩⟩⟩⟩⟩⟩⟩ rfl ?_
            cases h
            exact J_iret (pc := 106) C 42 rfl
      · rw [if_pos c6] at h
        refine J_bipush (pc := 25) (v := (-2 : Int32)) C 13 rfl rfl ?_
        cases h
        exact J_iret (pc := 27) C 14 rfl
  · rw [if_pos c2] at h
    refine J_iconst (pc := 7) (v := (-1 : Int32)) C 3 rfl rfl ?_
    cases h
    exact J_iret (pc := 8) C 4 rfl
def T_X4_bestStart : List (Nat × ClassFile.Instr × Nat) := [(0, .iload_n 1, 1), (1, .invokestatic 70, 3), (4, .ifCond .ne 5, 3), (7, .iconst (-1), 1), (8, .ireturn, 1), (9, .iconst 0, 1), (10, .istore_n 2, 1), (11, .sipush 1000, 3), (14, .istore_n 3, 1), (15, .sipush 1000, 3), (18, .istore 4, 2), (20, .aload_n 0, 1), (21, .getfield 24, 3), (24, .aload_n 0, 1), (25, .getfield 20, 3), (28, .invokevirtual 230, 3), (31, .iconst 0, 1), (32, .istore 5, 2), (34, .iload 5, 2), (36, .bipush 20, 2), (38, .if_icmp .ge 78, 3), (41, .aload_n 0, 1), (42, .getfield 24, 3), (45, .getfield 77, 3), (48, .iload_n 1, 1), (49, .iload 5, 2), (51, .iastore, 1), (52, .aload_n 0, 1), (53, .getfield 24, 3), (56, .invokevirtual 211, 3), (59, .istore 6, 2), (61, .iload 6, 2), (63, .iload_n 3, 1), (64, .if_icmp .le 6, 3), (67, .goto 43, 3), (70, .aload_n 0, 1), (71, .getfield 21, 3), (74, .invokevirtual 52, 3), (77, .iload 6, 2), (79, .iload_n 3, 1), (80, .if_icmp .lt 15, 3), (83, .aload_n 0, 1), (84, .getfield 21, 3), (87, .getfield 150, 3), (90, .iload 4, 2), (92, .if_icmp .ge 18, 3), (95, .iload 5, 2), (97, .istore_n 2, 1), (98, .iload 6, 2), (100, .istore_n 3, 1), (101, .aload_n 0, 1), (102, .getfield 21, 3), (105, .getfield 150, 3), (108, .istore 4, 2), (110, .iinc 5 1, 3), (113, .goto (-79), 3), (116, .iload_n 2, 1), (117, .ireturn, 1)]
theorem D_X4_bestStart : ∀ q ∈ T_X4_bestStart, decode cX4_bestStart q.1 = .ok q.2 := by decide +kernel
theorem V_X4_bestStart : Vy yX4_bestStart cX4_bestStart 7 (some .int) 1 := ⟨k327, k56, by decide +kernel⟩
theorem i_X4_bestStart : Cond.instanceMethod yX4_bestStart ∈ TB := k420
theorem s_X4_bestStart : Cond.selects yX4_bestStart.cls yX4_bestStart yX4_bestStart ∈ TB := k421
noncomputable def f_X4_bestStart_b34 (vS : JV) (x1_34 : Int32) (r34 : JV → JV → Int32 → Int32 → Int32 → Int32 → Option (Int32 × JV × JV)) (vT2_34 : JV) (vS2_34 : JV) (x2_34 : Int32) (x3_34 : Int32) (x4_34 : Int32) (x5_34 : Int32) : Option (Int32 × JV × JV) :=
  (if (20 : Int32) ≤ x5_34 then some (x2_34, vT2_34, vS2_34) else gd (inb x1_34 6) ((f_X2_clashes (up2 vS2_34 1 (Int32.toNatClampNeg x1_34) x5_34)).bind (fun q6 => (if q6 ≤ x3_34 then (f_X3_seatAll vT2_34 (up2 vS2_34 1 (Int32.toNatClampNeg x1_34) x5_34)).bind (fun q8 => (if q6 < x3_34 then r34 q8 (up2 vS2_34 1 (Int32.toNatClampNeg x1_34) x5_34) x5_34 q6 (q8 4 0) (x5_34 + (1 : Int32)) else (if x4_34 ≤ (q8 4 0) then r34 q8 (up2 vS2_34 1 (Int32.toNatClampNeg x1_34) x5_34) x2_34 x3_34 x4_34 (x5_34 + (1 : Int32)) else r34 q8 (up2 vS2_34 1 (Int32.toNatClampNeg x1_34) x5_34) x5_34 q6 (q8 4 0) (x5_34 + (1 : Int32))))) else r34 vT2_34 (up2 vS2_34 1 (Int32.toNatClampNeg x1_34) x5_34) x2_34 x3_34 x4_34 (x5_34 + (1 : Int32))))))
noncomputable def f_X4_bestStart_L34 (vS : JV) (x1_34 : Int32) (n : Nat) (vT2_34 : JV) (vS2_34 : JV) (x2_34 : Int32) (x3_34 : Int32) (x4_34 : Int32) (x5_34 : Int32) : Option (Int32 × JV × JV) :=
  lp (fun (rec : JV × JV × Int32 × Int32 × Int32 × Int32 → Option (Int32 × JV × JV)) a => f_X4_bestStart_b34 vS x1_34 (fun vT2_34 vS2_34 x2_34 x3_34 x4_34 x5_34 => rec (vT2_34, vS2_34, x2_34, x3_34, x4_34, x5_34)) a.1 a.2.1 a.2.2.1 a.2.2.2.1 a.2.2.2.2.1 a.2.2.2.2.2) n (vT2_34, vS2_34, x2_34, x3_34, x4_34, x5_34)
noncomputable def f_X4_bestStart (vS : JV) (vT2 : JV) (vS2 : JV) (x1 : Int32) : Option (Int32 × JV × JV) :=
  (f_X4_isPaper x1).bind (fun q1 => (if q1 = 0 then some ((-1 : Int32), vT2, vS2) else (f_X2_copyFrom vS2 vS).bind (fun q3 => f_X4_bestStart_L34 vS x1 FU vT2 q3 (0 : Int32) (1000 : Int32) (1000 : Int32) (0 : Int32))))
set_option maxRecDepth 100000 in
set_option maxHeartbeats 4000000 in
theorem c_X4_bestStart {l : Launch} {G : JG} (aX : Nat) (aT : Nat → Nat) (aS : Nat → Nat) (aT2 : Nat → Nat) (aS2 : Nat → Nat) (aP : Nat → Nat) (aH : Nat → Nat) (aB : Nat) (aU : Nat) (vS : JV) (vT2 : JV) (vS2 : JV) (x1 : Int32) {Rz : Int32 × JV × JV} (h : f_X4_bestStart vS vT2 vS2 x1 = some Rz) : JM l G yX4_bestStart cX4_bestStart 7 (some .int) 6 141 [.ref aX, .int x1] (wEx aX (aT 0) (aT2 0) (aS 0) (aS2 0) (aP 0) (aH 0) aB aU ++ (wSch G aS (vS 0) (vS 1) (vS 2) (vS 3) (vS 4) (vS 5) (vS 6) (vS 7) (vS 8 0) (vS 9 0) ++ (wSeat G aT2 (aS2 0) (vT2 1) (vT2 2) (vT2 3) (vT2 4 0) (vT2 5 0) (vT2 6) (vT2 7) (vT2 8) ++ (wSch G aS2 (vS2 0) (vS2 1) (vS2 2) (vS2 3) (vS2 4) (vS2 5) (vS2 6) (vS2 7) (vS2 8 0) (vS2 9 0))))) (wEx aX (aT 0) (aT2 0) (aS 0) (aS2 0) (aP 0) (aH 0) aB aU ++ (wSch G aS (vS 0) (vS 1) (vS 2) (vS 3) (vS 4) (vS 5) (vS 6) (vS 7) (vS 8 0) (vS 9 0) ++ (wSeat G aT2 (aS2 0) ((Rz.2.1) 1) ((Rz.2.1) 2) ((Rz.2.1) 3) ((Rz.2.1) 4 0) ((Rz.2.1) 5 0) ((Rz.2.1) 6) ((Rz.2.1) 7) ((Rz.2.1) 8) ++ (wSch G aS2 ((Rz.2.2) 0) ((Rz.2.2) 1) ((Rz.2.2) 2) ((Rz.2.2) 3) ((Rz.2.2) 4) ((Rz.2.2) 5) ((Rz.2.2) 6) ((Rz.2.2) 7) ((Rz.2.2) 8 0) ((Rz.2.2) 9 0))))) (some (.int (Rz.1))) := by
  refine JM.of (own := RX4) (tb := T_X4_bestStart) (by decide) (Nat.le_of_ble_eq_true rfl) D_X4_bestStart rfl (fun X C => ?_)
  refine J_sub (lv' := [(0, .ref aX), (1, .int x1)]) [0, 1] rfl ?_
  have B34 : ∀ (x1_34 : Int32) (n34 : Nat) (vT2_34 : JV) (vS2_34 : JV) (x2_34 : Int32) (x3_34 : Int32) (x4_34 : Int32) (x5_34 : Int32), f_X4_bestStart_L34 vS x1_34 n34 vT2_34 vS2_34 x2_34 x3_34 x4_34 x5_34 = some Rz → J l { frames := 6, cells := 0, slots := 0, locals := 141 } G 7 X (QM X G 0 0 (some (.int (Rz.1))) (wEx aX (aT 0) (aT2 0) (aS 0) (aS2 0) (aP 0) (aH 0) aB aU ++ (wSch G aS (vS 0) (vS 1) (vS 2) (vS 3) (vS 4) (vS 5) (vS 6) (vS 7) (vS 8 0) (vS 9 0) ++ (wSeat G aT2 (aS2 0) ((Rz.2.1) 1) ((Rz.2.1) 2) ((Rz.2.1) 3) ((Rz.2.1) 4 0) ((Rz.2.1) 5 0) ((Rz.2.1) 6) ((Rz.2.1) 7) ((Rz.2.1) 8) ++ (wSch G aS2 ((Rz.2.2) 0) ((Rz.2.2) 1) ((Rz.2.2) 2) ((Rz.2.2) 3) ((Rz.2.2) 4) ((Rz.2.2) 5) ((Rz.2.2) 6) ((Rz.2.2) 7) ((Rz.2.2) 8 0) ((Rz.2.2) 9 0)))))) 0 0 34 [(0, .ref aX), (1, .int x1_34), (2, .int x2_34), (3, .int x3_34), (4, .int x4_34), (5, .int x5_34)] [] (wEx aX (aT 0) (aT2 0) (aS 0) (aS2 0) (aP 0) (aH 0) aB aU ++ (wSch G aS (vS 0) (vS 1) (vS 2) (vS 3) (vS 4) (vS 5) (vS 6) (vS 7) (vS 8 0) (vS 9 0) ++ (wSeat G aT2 (aS2 0) (vT2_34 1) (vT2_34 2) (vT2_34 3) (vT2_34 4 0) (vT2_34 5 0) (vT2_34 6) (vT2_34 7) (vT2_34 8) ++ (wSch G aS2 (vS2_34 0) (vS2_34 1) (vS2_34 2) (vS2_34 3) (vS2_34 4) (vS2_34 5) (vS2_34 6) (vS2_34 7) (vS2_34 8 0) (vS2_34 9 0))))) := by
    intro x1_34 n34
    induction n34 with
    | zero =>
      intro vT2_34 vS2_34 x2_34 x3_34 x4_34 x5_34 h
      exact (no_none rfl h).elim
    | succ n34 ih34 =>
      intro vT2_34 vS2_34 x2_34 x3_34 x4_34 x5_34 h
      replace h : f_X4_bestStart_b34 vS x1_34 (fun vT2_34 vS2_34 x2_34 x3_34 x4_34 x5_34 => f_X4_bestStart_L34 vS x1_34 n34 vT2_34 vS2_34 x2_34 x3_34 x4_34 x5_34) vT2_34 vS2_34 x2_34 x3_34 x4_34 x5_34 = some Rz := h
      unfold f_X4_bestStart_b34 at h
      refine J_iload (pc := 34) C 18 rfl 5 rfl ?_
      refine J_bipush (pc := 36) (v := (20 : Int32)) C 19 rfl rfl ?_
      refine J_icmp_ge (pc := 38) (tgt := 116) C 20 rfl rfl (fun c4 => ?_) (fun c4 => ?_)
      · rw [if_pos c4] at h
        refine J_iload_n (pc := 116) C 56 rfl 2 rfl rfl ?_
        cases h
        exact J_iret (pc := 117) C 57 rfl
      · rw [if_neg c4] at h
        refine J_aload_n (pc := 41) C 21 rfl 0 rfl rfl ?_
        refine J_get (pc := 42) (v := .ref (aS2 0)) C 22 rfl TB_l4 rfl 0 3 rfl (by decide) k199 rfl rfl ?_
        refine J_get (pc := 45) (v := .ref (aS2 2)) C 23 rfl TB_l2 rfl 17 1 rfl (by decide) k229 rfl rfl ?_
        refine J_iload_n (pc := 48) C 24 rfl 1 rfl rfl ?_
        refine J_iload (pc := 49) C 25 rfl 5 rfl ?_
        obtain ⟨g5, h⟩ := gd_some h
        refine J_iast (pc := 51) (f := (vS2_34 1)) (m := (Int32.toNatClampNeg x1_34)) C 26 (fun mm vv => (wEx aX (aT 0) (aT2 0) (aS 0) (aS2 0) (aP 0) (aH 0) aB aU ++ (wSch G aS (vS 0) (vS 1) (vS 2) (vS 3) (vS 4) (vS 5) (vS 6) (vS 7) (vS 8 0) (vS 9 0) ++ (wSeat G aT2 (aS2 0) (vT2_34 1) (vT2_34 2) (vT2_34 3) (vT2_34 4 0) (vT2_34 5 0) (vT2_34 6) (vT2_34 7) (vT2_34 8) ++ (wSch G aS2 (vS2_34 0) (upd (vS2_34 1) mm vv) (vS2_34 2) (vS2_34 3) (vS2_34 4) (vS2_34 5) (vS2_34 6) (vS2_34 7) (vS2_34 8 0) (vS2_34 9 0)))))) rfl 19 rfl g5 rfl (fun _ _ => rfl) ?_
        refine J_aload_n (pc := 52) C 27 rfl 0 rfl rfl ?_
        refine J_get (pc := 53) (v := .ref (aS2 0)) C 28 rfl TB_l4 rfl 0 3 rfl (by decide) k199 rfl rfl ?_
        obtain ⟨q6, hq6, h⟩ := bnd h
        refine J_callV (pc := 56) (st2 := []) (st3 := [.int q6]) (ws2 := (wEx aX (aT 0) (aT2 0) (aS 0) (aS2 0) (aP 0) (aH 0) aB aU ++ (wSch G aS (vS 0) (vS 1) (vS 2) (vS 3) (vS 4) (vS 5) (vS 6) (vS 7) (vS 8 0) (vS 9 0) ++ (wSeat G aT2 (aS2 0) (vT2_34 1) (vT2_34 2) (vT2_34 3) (vT2_34 4 0) (vT2_34 5 0) (vT2_34 6) (vT2_34 7) (vT2_34 8) ++ (wSch G aS2 (vS2_34 0) (upd (vS2_34 1) (Int32.toNatClampNeg x1_34) x5_34) (vS2_34 2) (vS2_34 3) (vS2_34 4) (vS2_34 5) (vS2_34 6) (vS2_34 7) (vS2_34 8 0) (vS2_34 9 0)))))) C 29 rfl (c_X2_clashes aS2 (up2 vS2_34 1 (Int32.toNatClampNeg x1_34) x5_34) hq6) V_X2_clashes k308 i_X2_clashes s_X2_clashes rfl rfl ⟨Nat.le_of_ble_eq_true rfl, Nat.le_of_ble_eq_true rfl⟩ (Nat.le_of_ble_eq_true rfl) ⟨Nat.le_refl _, Nat.le_refl _⟩ 17 2 rfl rfl rfl (isC := [17, 18, 19, 20, 21, 22, 23, 24, 25]) (isR := [0, 1, 2, 3, 4, 5, 6, 7, 8, 9, 10, 11, 12, 13, 14, 15, 16]) (N := 26) ⟨rfl, by decide +kernel, rfl, by decide +kernel, rfl, ⟨⟨_, rfl, rfl⟩, ⟨⟨_, rfl, rfl⟩, ⟨⟨_, rfl, rfl⟩, ⟨⟨_, rfl, rfl⟩, ⟨⟨_, rfl, rfl⟩, ⟨⟨_, rfl, rfl⟩, ⟨⟨_, rfl, rfl⟩, ⟨⟨_, rfl, rfl⟩, ⟨⟨_, rfl, rfl⟩, ⟨⟨_, rfl, rfl⟩, ⟨⟨_, rfl, rfl⟩, ⟨⟨_, rfl, rfl⟩, ⟨⟨_, rfl, rfl⟩, ⟨⟨_, rfl, rfl⟩, ⟨⟨_, rfl, rfl⟩, ⟨⟨_, rfl, rfl⟩, ⟨⟨_, rfl, rfl⟩, trivial⟩⟩⟩⟩⟩⟩⟩⟩⟩⟩⟩⟩⟩⟩⟩⟩⟩⟩ rfl ?_
        refine J_istore (pc := 59) (lv' := [(6, .int q6), (0, .ref aX), (1, .int x1_34), (2, .int x2_34), (3, .int x3_34), (4, .int x4_34), (5, .int x5_34)]) C 30 rfl (by decide) rfl ?_
        refine J_iload (pc := 61) C 31 rfl 0 rfl ?_
        refine J_iload_n (pc := 63) C 32 rfl 4 rfl rfl ?_
        refine J_icmp_le (pc := 64) (tgt := 70) C 33 rfl rfl (fun c7 => ?_) (fun c7 => ?_)
        · rw [if_pos c7] at h
          refine J_aload_n (pc := 70) C 35 rfl 1 rfl rfl ?_
          refine J_get (pc := 71) (v := .ref (aT2 0)) C 36 rfl TB_l4 rfl 0 2 rfl (by decide) k198 rfl rfl ?_
          obtain ⟨q8, hq8, h⟩ := bnd h
          refine J_callV (pc := 74) (st2 := []) (st3 := []) (ws2 := (wEx aX (aT 0) (aT2 0) (aS 0) (aS2 0) (aP 0) (aH 0) aB aU ++ (wSch G aS (vS 0) (vS 1) (vS 2) (vS 3) (vS 4) (vS 5) (vS 6) (vS 7) (vS 8 0) (vS 9 0) ++ (wSeat G aT2 (aS2 0) (q8 1) (q8 2) (q8 3) (q8 4 0) (q8 5 0) (q8 6) (q8 7) (q8 8) ++ (wSch G aS2 (vS2_34 0) (upd (vS2_34 1) (Int32.toNatClampNeg x1_34) x5_34) (vS2_34 2) (vS2_34 3) (vS2_34 4) (vS2_34 5) (vS2_34 6) (vS2_34 7) (vS2_34 8 0) (vS2_34 9 0)))))) C 37 rfl (c_X3_seatAll aT2 aS2 vT2_34 (up2 vS2_34 1 (Int32.toNatClampNeg x1_34) x5_34) hq8) V_X3_seatAll k214 i_X3_seatAll s_X3_seatAll rfl rfl ⟨Nat.le_of_ble_eq_true rfl, Nat.le_of_ble_eq_true rfl⟩ (Nat.le_of_ble_eq_true rfl) ⟨Nat.le_refl _, Nat.le_refl _⟩ 10 3 rfl rfl rfl (isC := [10, 11, 12, 13, 14, 15, 16, 17, 18, 19, 20, 21, 22, 23, 24, 25]) (isR := [0, 1, 2, 3, 4, 5, 6, 7, 8, 9]) (N := 26) ⟨rfl, by decide +kernel, rfl, by decide +kernel, rfl, ⟨⟨_, rfl, rfl⟩, ⟨⟨_, rfl, rfl⟩, ⟨⟨_, rfl, rfl⟩, ⟨⟨_, rfl, rfl⟩, ⟨⟨_, rfl, rfl⟩, ⟨⟨_, rfl, rfl⟩, ⟨⟨_, rfl, rfl⟩, ⟨⟨_, rfl, rfl⟩, ⟨⟨_, rfl, rfl⟩, ⟨⟨_, rfl, rfl⟩, trivial⟩⟩⟩⟩⟩⟩⟩⟩⟩⟩⟩ rfl ?_
          refine J_iload (pc := 77) C 38 rfl 0 rfl ?_
          refine J_iload_n (pc := 79) C 39 rfl 4 rfl rfl ?_
          refine J_icmp_lt (pc := 80) (tgt := 95) C 40 rfl rfl (fun c9 => ?_) (fun c9 => ?_)
          · rw [if_pos c9] at h
            refine J_iload (pc := 95) C 46 rfl 6 rfl ?_
            refine J_istore_n (pc := 97) (lv' := [(2, .int x5_34), (6, .int q6), (0, .ref aX), (1, .int x1_34), (3, .int x3_34), (4, .int x4_34), (5, .int x5_34)]) C 47 rfl rfl (by decide) rfl ?_
            refine J_iload (pc := 98) C 48 rfl 1 rfl ?_
            refine J_istore_n (pc := 100) (lv' := [(3, .int q6), (2, .int x5_34), (6, .int q6), (0, .ref aX), (1, .int x1_34), (4, .int x4_34), (5, .int x5_34)]) C 49 rfl rfl (by decide) rfl ?_
            refine J_aload_n (pc := 101) C 50 rfl 3 rfl rfl ?_
            refine J_get (pc := 102) (v := .ref (aT2 0)) C 51 rfl TB_l4 rfl 0 2 rfl (by decide) k198 rfl rfl ?_
            refine J_get (pc := 105) (v := .int (q8 4 0)) C 52 rfl TB_l3 rfl 10 4 rfl (by decide) k264 rfl rfl ?_
            refine J_istore (pc := 108) (lv' := [(4, .int (q8 4 0)), (3, .int q6), (2, .int x5_34), (6, .int q6), (0, .ref aX), (1, .int x1_34), (5, .int x5_34)]) C 53 rfl (by decide) rfl ?_
            refine J_iinc (pc := 110) (v := (x5_34 + (1 : Int32))) (lv' := [(5, .int (x5_34 + (1 : Int32))), (4, .int (q8 4 0)), (3, .int q6), (2, .int x5_34), (6, .int q6), (0, .ref aX), (1, .int x1_34)]) C 54 rfl 6 rfl rfl (by decide) rfl ?_
            refine J_goto (pc := 113) (tgt := 34) C 55 rfl rfl ?_
            exact J_sub [5, 6, 3, 2, 1, 0] rfl (ih34 q8 (up2 vS2_34 1 (Int32.toNatClampNeg x1_34) x5_34) x5_34 q6 (q8 4 0) (x5_34 + (1 : Int32)) h)
          · rw [if_neg c9] at h
            refine J_aload_n (pc := 83) C 41 rfl 1 rfl rfl ?_
            refine J_get (pc := 84) (v := .ref (aT2 0)) C 42 rfl TB_l4 rfl 0 2 rfl (by decide) k198 rfl rfl ?_
            refine J_get (pc := 87) (v := .int (q8 4 0)) C 43 rfl TB_l3 rfl 10 4 rfl (by decide) k264 rfl rfl ?_
            refine J_iload (pc := 90) C 44 rfl 5 rfl ?_
            refine J_icmp_ge (pc := 92) (tgt := 110) C 45 rfl rfl (fun c10 => ?_) (fun c10 => ?_)
            · rw [if_pos c10] at h
              refine J_iinc (pc := 110) (v := (x5_34 + (1 : Int32))) (lv' := [(5, .int (x5_34 + (1 : Int32))), (6, .int q6), (0, .ref aX), (1, .int x1_34), (2, .int x2_34), (3, .int x3_34), (4, .int x4_34)]) C 54 rfl 6 rfl rfl (by decide) rfl ?_
              refine J_goto (pc := 113) (tgt := 34) C 55 rfl rfl ?_
              exact J_sub [2, 3, 4, 5, 6, 0] rfl (ih34 q8 (up2 vS2_34 1 (Int32.toNatClampNeg x1_34) x5_34) x2_34 x3_34 x4_34 (x5_34 + (1 : Int32)) h)
            · rw [if_neg c10] at h
              refine J_iload (pc := 95) C 46 rfl 6 rfl ?_
              refine J_istore_n (pc := 97) (lv' := [(2, .int x5_34), (6, .int q6), (0, .ref aX), (1, .int x1_34), (3, .int x3_34), (4, .int x4_34), (5, .int x5_34)]) C 47 rfl rfl (by decide) rfl ?_
              refine J_iload (pc := 98) C 48 rfl 1 rfl ?_
              refine J_istore_n (pc := 100) (lv' := [(3, .int q6), (2, .int x5_34), (6, .int q6), (0, .ref aX), (1, .int x1_34), (4, .int x4_34), (5, .int x5_34)]) C 49 rfl rfl (by decide) rfl ?_
              refine J_aload_n (pc := 101) C 50 rfl 3 rfl rfl ?_
              refine J_get (pc := 102) (v := .ref (aT2 0)) C 51 rfl TB_l4 rfl 0 2 rfl (by decide) k198 rfl rfl ?_
              refine J_get (pc := 105) (v := .int (q8 4 0)) C 52 rfl TB_l3 rfl 10 4 rfl (by decide) k264 rfl rfl ?_
              refine J_istore (pc := 108) (lv' := [(4, .int (q8 4 0)), (3, .int q6), (2, .int x5_34), (6, .int q6), (0, .ref aX), (1, .int x1_34), (5, .int x5_34)]) C 53 rfl (by decide) rfl ?_
              refine J_iinc (pc := 110) (v := (x5_34 + (1 : Int32))) (lv' := [(5, .int (x5_34 + (1 : Int32))), (4, .int (q8 4 0)), (3, .int q6), (2, .int x5_34), (6, .int q6), (0, .ref aX), (1, .int x1_34)]) C 54 rfl 6 rfl rfl (by decide) rfl ?_
              refine J_goto (pc := 113) (tgt := 34) C 55 rfl rfl ?_
              exact J_sub [5, 6, 3, 2, 1, 0] rfl (ih34 q8 (up2 vS2_34 1 (Int32.toNatClampNeg x1_34) x5_34) x5_34 q6 (q8 4 0) (x5_34 + (1 : Int32)) h)
        · rw [if_neg c7] at h
          refine J_goto (pc := 67) (tgt := 110) C 34 rfl rfl ?_
          refine J_iinc (pc := 110) (v := (x5_34 + (1 : Int32))) (lv' := [(5, .int (x5_34 + (1 : Int32))), (6, .int q6), (0, .ref aX), (1, .int x1_34), (2, .int x2_34), (3, .int x3_34), (4, .int x4_34)]) C 54 rfl 6 rfl rfl (by decide) rfl ?_
          refine J_goto (pc := 113) (tgt := 34) C 55 rfl rfl ?_
          exact J_sub [2, 3, 4, 5, 6, 0] rfl (ih34 vT2_34 (up2 vS2_34 1 (Int32.toNatClampNeg x1_34) x5_34) x2_34 x3_34 x4_34 (x5_34 + (1 : Int32)) h)
  unfold f_X4_bestStart at h
  refine J_iload_n (pc := 0) C 0 rfl 1 rfl rfl ?_
  obtain ⟨q1, hq1, h⟩ := bnd h
  refine J_callS (pc := 1) (st2 := []) (st3 := [.int q1]) (ws2 := (wEx aX (aT 0) (aT2 0) (aS 0) (aS2 0) (aP 0) (aH 0) aB aU ++ (wSch G aS (vS 0) (vS 1) (vS 2) (vS 3) (vS 4) (vS 5) (vS 6) (vS 7) (vS 8 0) (vS 9 0) ++ (wSeat G aT2 (aS2 0) (vT2 1) (vT2 2) (vT2 3) (vT2 4 0) (vT2 5 0) (vT2 6) (vT2 7) (vT2 8) ++ (wSch G aS2 (vS2 0) (vS2 1) (vS2 2) (vS2 3) (vS2 4) (vS2 5) (vS2 6) (vS2 7) (vS2 8 0) (vS2 9 0)))))) C 1 rfl (c_X4_isPaper x1 hq1) V_X4_isPaper k231 t_X4_isPaper rfl rfl ⟨Nat.le_of_ble_eq_true rfl, Nat.le_of_ble_eq_true rfl⟩ (Nat.le_of_ble_eq_true rfl) ⟨Nat.le_refl _, Nat.le_refl _⟩ (isC := []) (isR := [0, 1, 2, 3, 4, 5, 6, 7, 8, 9, 10, 11, 12, 13, 14, 15, 16, 17, 18, 19, 20, 21, 22, 23, 24, 25]) (N := 26) ⟨rfl, by decide +kernel, rfl, by decide +kernel, rfl, ⟨⟨_, rfl, rfl⟩, ⟨⟨_, rfl, rfl⟩, ⟨⟨_, rfl, rfl⟩, ⟨⟨_, rfl, rfl⟩, ⟨⟨_, rfl, rfl⟩, ⟨⟨_, rfl, rfl⟩, ⟨⟨_, rfl, rfl⟩, ⟨⟨_, rfl, rfl⟩, ⟨⟨_, rfl, rfl⟩, ⟨⟨_, rfl, rfl⟩, ⟨⟨_, rfl, rfl⟩, ⟨⟨_, rfl, rfl⟩, ⟨⟨_, rfl, rfl⟩, ⟨⟨_, rfl, rfl⟩, ⟨⟨_, rfl, rfl⟩, ⟨⟨_, rfl, rfl⟩, ⟨⟨_, rfl, rfl⟩, ⟨⟨_, rfl, rfl⟩, ⟨⟨_, rfl, rfl⟩, ⟨⟨_, rfl, rfl⟩, ⟨⟨_, rfl, rfl⟩, ⟨⟨_, rfl, rfl⟩, ⟨⟨_, rfl, rfl⟩, ⟨⟨_, rfl, rfl⟩, ⟨⟨_, rfl, rfl⟩, ⟨⟨_, rfl, rfl⟩, trivial⟩⟩⟩⟩⟩⟩⟩⟩⟩⟩⟩⟩⟩⟩⟩⟩⟩⟩⟩⟩⟩⟩⟩⟩⟩⟩⟩ rfl ?_
  refine J_if_ne (pc := 4) (tgt := 9) C 2 rfl rfl (fun c2 => ?_) (fun c2 => ?_)
  · rw [if_neg c2] at h
    refine J_iconst (pc := 9) (v := (0 : Int32)) C 5 rfl rfl ?_
    refine J_istore_n (pc := 10) (lv' := [(2, .int (0 : Int32)), (0, .ref aX), (1, .int x1)]) C 6 rfl rfl (by decide) rfl ?_
    refine J_sipush (pc := 11) (v := (1000 : Int32)) C 7 rfl rfl ?_
    refine J_istore_n (pc := 14) (lv' := [(3, .int (1000 : Int32)), (2, .int (0 : Int32)), (0, .ref aX), (1, .int x1)]) C 8 rfl rfl (by decide) rfl ?_
    refine J_sipush (pc := 15) (v := (1000 : Int32)) C 9 rfl rfl ?_
    refine J_istore (pc := 18) (lv' := [(4, .int (1000 : Int32)), (3, .int (1000 : Int32)), (2, .int (0 : Int32)), (0, .ref aX), (1, .int x1)]) C 10 rfl (by decide) rfl ?_
    refine J_aload_n (pc := 20) C 11 rfl 3 rfl rfl ?_
    refine J_get (pc := 21) (v := .ref (aS2 0)) C 12 rfl TB_l4 rfl 0 3 rfl (by decide) k199 rfl rfl ?_
    refine J_aload_n (pc := 24) C 13 rfl 3 rfl rfl ?_
    refine J_get (pc := 25) (v := .ref (aS 0)) C 14 rfl TB_l4 rfl 0 1 rfl (by decide) k197 rfl rfl ?_
    obtain ⟨q3, hq3, h⟩ := bnd h
    refine J_callV (pc := 28) (st2 := []) (st3 := []) (ws2 := (wEx aX (aT 0) (aT2 0) (aS 0) (aS2 0) (aP 0) (aH 0) aB aU ++ (wSch G aS (vS 0) (vS 1) (vS 2) (vS 3) (vS 4) (vS 5) (vS 6) (vS 7) (vS 8 0) (vS 9 0) ++ (wSeat G aT2 (aS2 0) (vT2 1) (vT2 2) (vT2 3) (vT2 4 0) (vT2 5 0) (vT2 6) (vT2 7) (vT2 8) ++ (wSch G aS2 (q3 0) (q3 1) (q3 2) (q3 3) (q3 4) (q3 5) (q3 6) (q3 7) (q3 8 0) (q3 9 0)))))) C 15 rfl (c_X2_copyFrom aS2 aS vS2 vS hq3) V_X2_copyFrom k325 i_X2_copyFrom s_X2_copyFrom rfl rfl ⟨Nat.le_of_ble_eq_true rfl, Nat.le_of_ble_eq_true rfl⟩ (Nat.le_of_ble_eq_true rfl) ⟨Nat.le_refl _, Nat.le_refl _⟩ 17 2 rfl rfl rfl (isC := [17, 18, 19, 20, 21, 22, 23, 24, 25, 1, 2, 3, 4, 5, 6, 7, 8, 9]) (isR := [0, 10, 11, 12, 13, 14, 15, 16]) (N := 26) ⟨rfl, by decide +kernel, rfl, by decide +kernel, rfl, ⟨⟨_, rfl, rfl⟩, ⟨⟨_, rfl, rfl⟩, ⟨⟨_, rfl, rfl⟩, ⟨⟨_, rfl, rfl⟩, ⟨⟨_, rfl, rfl⟩, ⟨⟨_, rfl, rfl⟩, ⟨⟨_, rfl, rfl⟩, ⟨⟨_, rfl, rfl⟩, trivial⟩⟩⟩⟩⟩⟩⟩⟩⟩ rfl ?_
    refine J_iconst (pc := 31) (v := (0 : Int32)) C 16 rfl rfl ?_
    refine J_istore (pc := 32) (lv' := [(5, .int (0 : Int32)), (4, .int (1000 : Int32)), (3, .int (1000 : Int32)), (2, .int (0 : Int32)), (0, .ref aX), (1, .int x1)]) C 17 rfl (by decide) rfl ?_
    exact J_sub [4, 5, 3, 2, 1, 0] rfl (B34 x1 FU vT2 q3 (0 : Int32) (1000 : Int32) (1000 : Int32) (0 : Int32) h)
  · rw [if_pos c2] at h
    refine J_iconst (pc := 7) (v := (-1 : Int32)) C 3 rfl rfl ?_
    cases h
    exact J_iret (pc := 8) C 4 rfl
def T_X4_bestHalls : List (Nat × ClassFile.Instr × Nat) := [(0, .iload_n 1, 1), (1, .iconst 0, 1), (2, .iconst 1, 1), (3, .invokestatic 55, 3), (6, .ifCond .ne 6, 3), (9, .bipush (-2), 2), (11, .ireturn, 1), (12, .iconst 0, 1), (13, .istore_n 2, 1), (14, .sipush 1000, 3), (17, .istore_n 3, 1), (18, .sipush 1000, 3), (21, .istore 4, 2), (23, .aload_n 0, 1), (24, .getfield 24, 3), (27, .aload_n 0, 1), (28, .getfield 20, 3), (31, .invokevirtual 230, 3), (34, .iconst 0, 1), (35, .istore 5, 2), (37, .iload 5, 2), (39, .bipush 16, 2), (41, .if_icmp .ge 72, 3), (44, .aload_n 0, 1), (45, .getfield 24, 3), (48, .iload 5, 2), (50, .putfield 147, 3), (53, .aload_n 0, 1), (54, .getfield 21, 3), (57, .invokevirtual 52, 3), (60, .aload_n 0, 1), (61, .getfield 21, 3), (64, .getfield 150, 3), (67, .istore 6, 2), (69, .aload_n 0, 1), (70, .getfield 24, 3), (73, .invokevirtual 214, 3), (76, .istore 7, 2), (78, .iload 6, 2), (80, .iload_n 3, 1), (81, .if_icmp .lt 16, 3), (84, .iload 6, 2), (86, .iload_n 3, 1), (87, .if_icmp .ne 20, 3), (90, .iload 7, 2), (92, .iload 4, 2), (94, .if_icmp .ge 13, 3), (97, .iload 5, 2), (99, .istore_n 2, 1), (100, .iload 6, 2), (102, .istore_n 3, 1), (103, .iload 7, 2), (105, .istore 4, 2), (107, .iinc 5 1, 3), (110, .goto (-73), 3), (113, .iload_n 1, 1), (114, .ifCond .ne 7, 3), (117, .iload_n 2, 1), (118, .goto 4, 3), (121, .iload_n 3, 1), (122, .ireturn, 1)]
theorem D_X4_bestHalls : ∀ q ∈ T_X4_bestHalls, decode cX4_bestHalls q.1 = .ok q.2 := by decide +kernel
theorem V_X4_bestHalls : Vy yX4_bestHalls cX4_bestHalls 8 (some .int) 1 := ⟨k328, k56, by decide +kernel⟩
theorem i_X4_bestHalls : Cond.instanceMethod yX4_bestHalls ∈ TB := k403
theorem s_X4_bestHalls : Cond.selects yX4_bestHalls.cls yX4_bestHalls yX4_bestHalls ∈ TB := k404
noncomputable def f_X4_bestHalls_b37 (vS : JV) (x1_37 : Int32) (r37 : JV → JV → Int32 → Int32 → Int32 → Int32 → Option (Int32 × JV × JV)) (vT2_37 : JV) (vS2_37 : JV) (x2_37 : Int32) (x3_37 : Int32) (x4_37 : Int32) (x5_37 : Int32) : Option (Int32 × JV × JV) :=
  (if (16 : Int32) ≤ x5_37 then (if x1_37 = 0 then some (x2_37, vT2_37, vS2_37) else some (x3_37, vT2_37, vS2_37)) else (f_X3_seatAll vT2_37 (up2 vS2_37 9 0 x5_37)).bind (fun q6 => (f_X2_openDesks (up2 vS2_37 9 0 x5_37)).bind (fun q7 => (if (q6 4 0) < x3_37 then r37 q6 (up2 vS2_37 9 0 x5_37) x5_37 (q6 4 0) q7 (x5_37 + (1 : Int32)) else (if (q6 4 0) = x3_37 then (if x4_37 ≤ q7 then r37 q6 (up2 vS2_37 9 0 x5_37) x2_37 x3_37 x4_37 (x5_37 + (1 : Int32)) else r37 q6 (up2 vS2_37 9 0 x5_37) x5_37 (q6 4 0) q7 (x5_37 + (1 : Int32))) else r37 q6 (up2 vS2_37 9 0 x5_37) x2_37 x3_37 x4_37 (x5_37 + (1 : Int32)))))))
noncomputable def f_X4_bestHalls_L37 (vS : JV) (x1_37 : Int32) (n : Nat) (vT2_37 : JV) (vS2_37 : JV) (x2_37 : Int32) (x3_37 : Int32) (x4_37 : Int32) (x5_37 : Int32) : Option (Int32 × JV × JV) :=
  lp (fun (rec : JV × JV × Int32 × Int32 × Int32 × Int32 → Option (Int32 × JV × JV)) a => f_X4_bestHalls_b37 vS x1_37 (fun vT2_37 vS2_37 x2_37 x3_37 x4_37 x5_37 => rec (vT2_37, vS2_37, x2_37, x3_37, x4_37, x5_37)) a.1 a.2.1 a.2.2.1 a.2.2.2.1 a.2.2.2.2.1 a.2.2.2.2.2) n (vT2_37, vS2_37, x2_37, x3_37, x4_37, x5_37)
noncomputable def f_X4_bestHalls (vS : JV) (vT2 : JV) (vS2 : JV) (x1 : Int32) : Option (Int32 × JV × JV) :=
  (f_X4_isWithin x1 (0 : Int32) (1 : Int32)).bind (fun q1 => (if q1 = 0 then some ((-2 : Int32), vT2, vS2) else (f_X2_copyFrom vS2 vS).bind (fun q3 => f_X4_bestHalls_L37 vS x1 FU vT2 q3 (0 : Int32) (1000 : Int32) (1000 : Int32) (0 : Int32))))
set_option maxRecDepth 100000 in
set_option maxHeartbeats 4000000 in
theorem c_X4_bestHalls {l : Launch} {G : JG} (aX : Nat) (aT : Nat → Nat) (aS : Nat → Nat) (aT2 : Nat → Nat) (aS2 : Nat → Nat) (aP : Nat → Nat) (aH : Nat → Nat) (aB : Nat) (aU : Nat) (vS : JV) (vT2 : JV) (vS2 : JV) (x1 : Int32) {Rz : Int32 × JV × JV} (h : f_X4_bestHalls vS vT2 vS2 x1 = some Rz) : JM l G yX4_bestHalls cX4_bestHalls 8 (some .int) 6 141 [.ref aX, .int x1] (wEx aX (aT 0) (aT2 0) (aS 0) (aS2 0) (aP 0) (aH 0) aB aU ++ (wSch G aS (vS 0) (vS 1) (vS 2) (vS 3) (vS 4) (vS 5) (vS 6) (vS 7) (vS 8 0) (vS 9 0) ++ (wSeat G aT2 (aS2 0) (vT2 1) (vT2 2) (vT2 3) (vT2 4 0) (vT2 5 0) (vT2 6) (vT2 7) (vT2 8) ++ (wSch G aS2 (vS2 0) (vS2 1) (vS2 2) (vS2 3) (vS2 4) (vS2 5) (vS2 6) (vS2 7) (vS2 8 0) (vS2 9 0))))) (wEx aX (aT 0) (aT2 0) (aS 0) (aS2 0) (aP 0) (aH 0) aB aU ++ (wSch G aS (vS 0) (vS 1) (vS 2) (vS 3) (vS 4) (vS 5) (vS 6) (vS 7) (vS 8 0) (vS 9 0) ++ (wSeat G aT2 (aS2 0) ((Rz.2.1) 1) ((Rz.2.1) 2) ((Rz.2.1) 3) ((Rz.2.1) 4 0) ((Rz.2.1) 5 0) ((Rz.2.1) 6) ((Rz.2.1) 7) ((Rz.2.1) 8) ++ (wSch G aS2 ((Rz.2.2) 0) ((Rz.2.2) 1) ((Rz.2.2) 2) ((Rz.2.2) 3) ((Rz.2.2) 4) ((Rz.2.2) 5) ((Rz.2.2) 6) ((Rz.2.2) 7) ((Rz.2.2) 8 0) ((Rz.2.2) 9 0))))) (some (.int (Rz.1))) := by
  refine JM.of (own := RX4) (tb := T_X4_bestHalls) (by decide) (Nat.le_of_ble_eq_true rfl) D_X4_bestHalls rfl (fun X C => ?_)
  refine J_sub (lv' := [(0, .ref aX), (1, .int x1)]) [0, 1] rfl ?_
  have B37 : ∀ (x1_37 : Int32) (n37 : Nat) (vT2_37 : JV) (vS2_37 : JV) (x2_37 : Int32) (x3_37 : Int32) (x4_37 : Int32) (x5_37 : Int32), f_X4_bestHalls_L37 vS x1_37 n37 vT2_37 vS2_37 x2_37 x3_37 x4_37 x5_37 = some Rz → J l { frames := 6, cells := 0, slots := 0, locals := 141 } G 8 X (QM X G 0 0 (some (.int (Rz.1))) (wEx aX (aT 0) (aT2 0) (aS 0) (aS2 0) (aP 0) (aH 0) aB aU ++ (wSch G aS (vS 0) (vS 1) (vS 2) (vS 3) (vS 4) (vS 5) (vS 6) (vS 7) (vS 8 0) (vS 9 0) ++ (wSeat G aT2 (aS2 0) ((Rz.2.1) 1) ((Rz.2.1) 2) ((Rz.2.1) 3) ((Rz.2.1) 4 0) ((Rz.2.1) 5 0) ((Rz.2.1) 6) ((Rz.2.1) 7) ((Rz.2.1) 8) ++ (wSch G aS2 ((Rz.2.2) 0) ((Rz.2.2) 1) ((Rz.2.2) 2) ((Rz.2.2) 3) ((Rz.2.2) 4) ((Rz.2.2) 5) ((Rz.2.2) 6) ((Rz.2.2) 7) ((Rz.2.2) 8 0) ((Rz.2.2) 9 0)))))) 0 0 37 [(0, .ref aX), (1, .int x1_37), (2, .int x2_37), (3, .int x3_37), (4, .int x4_37), (5, .int x5_37)] [] (wEx aX (aT 0) (aT2 0) (aS 0) (aS2 0) (aP 0) (aH 0) aB aU ++ (wSch G aS (vS 0) (vS 1) (vS 2) (vS 3) (vS 4) (vS 5) (vS 6) (vS 7) (vS 8 0) (vS 9 0) ++ (wSeat G aT2 (aS2 0) (vT2_37 1) (vT2_37 2) (vT2_37 3) (vT2_37 4 0) (vT2_37 5 0) (vT2_37 6) (vT2_37 7) (vT2_37 8) ++ (wSch G aS2 (vS2_37 0) (vS2_37 1) (vS2_37 2) (vS2_37 3) (vS2_37 4) (vS2_37 5) (vS2_37 6) (vS2_37 7) (vS2_37 8 0) (vS2_37 9 0))))) := by
    intro x1_37 n37
    induction n37 with
    | zero =>
      intro vT2_37 vS2_37 x2_37 x3_37 x4_37 x5_37 h
      exact (no_none rfl h).elim
    | succ n37 ih37 =>
      intro vT2_37 vS2_37 x2_37 x3_37 x4_37 x5_37 h
      replace h : f_X4_bestHalls_b37 vS x1_37 (fun vT2_37 vS2_37 x2_37 x3_37 x4_37 x5_37 => f_X4_bestHalls_L37 vS x1_37 n37 vT2_37 vS2_37 x2_37 x3_37 x4_37 x5_37) vT2_37 vS2_37 x2_37 x3_37 x4_37 x5_37 = some Rz := h
      unfold f_X4_bestHalls_b37 at h
      refine J_iload (pc := 37) C 20 rfl 5 rfl ?_
      refine J_bipush (pc := 39) (v := (16 : Int32)) C 21 rfl rfl ?_
      refine J_icmp_ge (pc := 41) (tgt := 113) C 22 rfl rfl (fun c4 => ?_) (fun c4 => ?_)
      · rw [if_pos c4] at h
        refine J_iload_n (pc := 113) C 55 rfl 1 rfl rfl ?_
        refine J_if_ne (pc := 114) (tgt := 121) C 56 rfl rfl (fun c5 => ?_) (fun c5 => ?_)
        · rw [if_neg c5] at h
          refine J_iload_n (pc := 121) C 59 rfl 3 rfl rfl ?_
          cases h
          exact J_iret (pc := 122) C 60 rfl
        · rw [if_pos c5] at h
          refine J_iload_n (pc := 117) C 57 rfl 2 rfl rfl ?_
          refine J_goto (pc := 118) (tgt := 122) C 58 rfl rfl ?_
          cases h
          exact J_iret (pc := 122) C 60 rfl
      · rw [if_neg c4] at h
        refine J_aload_n (pc := 44) C 23 rfl 0 rfl rfl ?_
        refine J_get (pc := 45) (v := .ref (aS2 0)) C 24 rfl TB_l4 rfl 0 3 rfl (by decide) k199 rfl rfl ?_
        refine J_iload (pc := 48) C 25 rfl 5 rfl ?_
        refine J_puti (pc := 50) C 26 (fun vv => (wEx aX (aT 0) (aT2 0) (aS 0) (aS2 0) (aP 0) (aH 0) aB aU ++ (wSch G aS (vS 0) (vS 1) (vS 2) (vS 3) (vS 4) (vS 5) (vS 6) (vS 7) (vS 8 0) (vS 9 0) ++ (wSeat G aT2 (aS2 0) (vT2_37 1) (vT2_37 2) (vT2_37 3) (vT2_37 4 0) (vT2_37 5 0) (vT2_37 6) (vT2_37 7) (vT2_37 8) ++ (wSch G aS2 (vS2_37 0) (vS2_37 1) (vS2_37 2) (vS2_37 3) (vS2_37 4) (vS2_37 5) (vS2_37 6) (vS2_37 7) (vS2_37 8 0) vv))))) rfl TB_l2 tyX2 tyX2_ok nmX2 rfl 17 9 rfl (by decide) k263 rfl rfl rfl (Nat.le_of_ble_eq_true rfl) (fun _ => rfl) ?_
        refine J_aload_n (pc := 53) C 27 rfl 0 rfl rfl ?_
        refine J_get (pc := 54) (v := .ref (aT2 0)) C 28 rfl TB_l4 rfl 0 2 rfl (by decide) k198 rfl rfl ?_
        obtain ⟨q6, hq6, h⟩ := bnd h
        refine J_callV (pc := 57) (st2 := []) (st3 := []) (ws2 := (wEx aX (aT 0) (aT2 0) (aS 0) (aS2 0) (aP 0) (aH 0) aB aU ++ (wSch G aS (vS 0) (vS 1) (vS 2) (vS 3) (vS 4) (vS 5) (vS 6) (vS 7) (vS 8 0) (vS 9 0) ++ (wSeat G aT2 (aS2 0) (q6 1) (q6 2) (q6 3) (q6 4 0) (q6 5 0) (q6 6) (q6 7) (q6 8) ++ (wSch G aS2 (vS2_37 0) (vS2_37 1) (vS2_37 2) (vS2_37 3) (vS2_37 4) (vS2_37 5) (vS2_37 6) (vS2_37 7) (vS2_37 8 0) x5_37))))) C 29 rfl (c_X3_seatAll aT2 aS2 vT2_37 (up2 vS2_37 9 0 x5_37) hq6) V_X3_seatAll k214 i_X3_seatAll s_X3_seatAll rfl rfl ⟨Nat.le_of_ble_eq_true rfl, Nat.le_of_ble_eq_true rfl⟩ (Nat.le_of_ble_eq_true rfl) ⟨Nat.le_refl _, Nat.le_refl _⟩ 10 3 rfl rfl rfl (isC := [10, 11, 12, 13, 14, 15, 16, 17, 18, 19, 20, 21, 22, 23, 24, 25]) (isR := [0, 1, 2, 3, 4, 5, 6, 7, 8, 9]) (N := 26) ⟨rfl, by decide +kernel, rfl, by decide +kernel, rfl, ⟨⟨_, rfl, rfl⟩, ⟨⟨_, rfl, rfl⟩, ⟨⟨_, rfl, rfl⟩, ⟨⟨_, rfl, rfl⟩, ⟨⟨_, rfl, rfl⟩, ⟨⟨_, rfl, rfl⟩, ⟨⟨_, rfl, rfl⟩, ⟨⟨_, rfl, rfl⟩, ⟨⟨_, rfl, rfl⟩, ⟨⟨_, rfl, rfl⟩, trivial⟩⟩⟩⟩⟩⟩⟩⟩⟩⟩⟩ rfl ?_
        refine J_aload_n (pc := 60) C 30 rfl 0 rfl rfl ?_
        refine J_get (pc := 61) (v := .ref (aT2 0)) C 31 rfl TB_l4 rfl 0 2 rfl (by decide) k198 rfl rfl ?_
        refine J_get (pc := 64) (v := .int (q6 4 0)) C 32 rfl TB_l3 rfl 10 4 rfl (by decide) k264 rfl rfl ?_
        refine J_istore (pc := 67) (lv' := [(6, .int (q6 4 0)), (0, .ref aX), (1, .int x1_37), (2, .int x2_37), (3, .int x3_37), (4, .int x4_37), (5, .int x5_37)]) C 33 rfl (by decide) rfl ?_
        refine J_aload_n (pc := 69) C 34 rfl 1 rfl rfl ?_
        refine J_get (pc := 70) (v := .ref (aS2 0)) C 35 rfl TB_l4 rfl 0 3 rfl (by decide) k199 rfl rfl ?_
        obtain ⟨q7, hq7, h⟩ := bnd h
        refine J_callV (pc := 73) (st2 := []) (st3 := [.int q7]) (ws2 := (wEx aX (aT 0) (aT2 0) (aS 0) (aS2 0) (aP 0) (aH 0) aB aU ++ (wSch G aS (vS 0) (vS 1) (vS 2) (vS 3) (vS 4) (vS 5) (vS 6) (vS 7) (vS 8 0) (vS 9 0) ++ (wSeat G aT2 (aS2 0) (q6 1) (q6 2) (q6 3) (q6 4 0) (q6 5 0) (q6 6) (q6 7) (q6 8) ++ (wSch G aS2 (vS2_37 0) (vS2_37 1) (vS2_37 2) (vS2_37 3) (vS2_37 4) (vS2_37 5) (vS2_37 6) (vS2_37 7) (vS2_37 8 0) x5_37))))) C 36 rfl (c_X2_openDesks aS2 (up2 vS2_37 9 0 x5_37) hq7) V_X2_openDesks k311 i_X2_openDesks s_X2_openDesks rfl rfl ⟨Nat.le_of_ble_eq_true rfl, Nat.le_of_ble_eq_true rfl⟩ (Nat.le_of_ble_eq_true rfl) ⟨Nat.le_refl _, Nat.le_refl _⟩ 17 2 rfl rfl rfl (isC := [17, 18, 19, 20, 21, 22, 23, 24, 25]) (isR := [0, 1, 2, 3, 4, 5, 6, 7, 8, 9, 10, 11, 12, 13, 14, 15, 16]) (N := 26) ⟨rfl, by decide +kernel, rfl, by decide +kernel, rfl, ⟨⟨_, rfl, rfl⟩, ⟨⟨_, rfl, rfl⟩, ⟨⟨_, rfl, rfl⟩, ⟨⟨_, rfl, rfl⟩, ⟨⟨_, rfl, rfl⟩, ⟨⟨_, rfl, rfl⟩, ⟨⟨_, rfl, rfl⟩, ⟨⟨_, rfl, rfl⟩, ⟨⟨_, rfl, rfl⟩, ⟨⟨_, rfl, rfl⟩, ⟨⟨_, rfl, rfl⟩, ⟨⟨_, rfl, rfl⟩, ⟨⟨_, rfl, rfl⟩, ⟨⟨_, rfl, rfl⟩, ⟨⟨_, rfl, rfl⟩, ⟨⟨_, rfl, rfl⟩, ⟨⟨_, rfl, rfl⟩, trivial⟩⟩⟩⟩⟩⟩⟩⟩⟩⟩⟩⟩⟩⟩⟩⟩⟩⟩ rfl ?_
        refine J_istore (pc := 76) (lv' := [(7, .int q7), (6, .int (q6 4 0)), (0, .ref aX), (1, .int x1_37), (2, .int x2_37), (3, .int x3_37), (4, .int x4_37), (5, .int x5_37)]) C 37 rfl (by decide) rfl ?_
        refine J_iload (pc := 78) C 38 rfl 1 rfl ?_
        refine J_iload_n (pc := 80) C 39 rfl 5 rfl rfl ?_
        refine J_icmp_lt (pc := 81) (tgt := 97) C 40 rfl rfl (fun c8 => ?_) (fun c8 => ?_)
        · rw [if_pos c8] at h
          refine J_iload (pc := 97) C 47 rfl 7 rfl ?_
          refine J_istore_n (pc := 99) (lv' := [(2, .int x5_37), (7, .int q7), (6, .int (q6 4 0)), (0, .ref aX), (1, .int x1_37), (3, .int x3_37), (4, .int x4_37), (5, .int x5_37)]) C 48 rfl rfl (by decide) rfl ?_
          refine J_iload (pc := 100) C 49 rfl 2 rfl ?_
          refine J_istore_n (pc := 102) (lv' := [(3, .int (q6 4 0)), (2, .int x5_37), (7, .int q7), (6, .int (q6 4 0)), (0, .ref aX), (1, .int x1_37), (4, .int x4_37), (5, .int x5_37)]) C 50 rfl rfl (by decide) rfl ?_
          refine J_iload (pc := 103) C 51 rfl 2 rfl ?_
          refine J_istore (pc := 105) (lv' := [(4, .int q7), (3, .int (q6 4 0)), (2, .int x5_37), (7, .int q7), (6, .int (q6 4 0)), (0, .ref aX), (1, .int x1_37), (5, .int x5_37)]) C 52 rfl (by decide) rfl ?_
          refine J_iinc (pc := 107) (v := (x5_37 + (1 : Int32))) (lv' := [(5, .int (x5_37 + (1 : Int32))), (4, .int q7), (3, .int (q6 4 0)), (2, .int x5_37), (7, .int q7), (6, .int (q6 4 0)), (0, .ref aX), (1, .int x1_37)]) C 53 rfl 7 rfl rfl (by decide) rfl ?_
          refine J_goto (pc := 110) (tgt := 37) C 54 rfl rfl ?_
          exact J_sub [6, 7, 3, 2, 1, 0] rfl (ih37 q6 (up2 vS2_37 9 0 x5_37) x5_37 (q6 4 0) q7 (x5_37 + (1 : Int32)) h)
        · rw [if_neg c8] at h
          refine J_iload (pc := 84) C 41 rfl 1 rfl ?_
          refine J_iload_n (pc := 86) C 42 rfl 5 rfl rfl ?_
          refine J_icmp_ne (pc := 87) (tgt := 107) C 43 rfl rfl (fun c9 => ?_) (fun c9 => ?_)
          · rw [if_neg c9] at h
            refine J_iinc (pc := 107) (v := (x5_37 + (1 : Int32))) (lv' := [(5, .int (x5_37 + (1 : Int32))), (7, .int q7), (6, .int (q6 4 0)), (0, .ref aX), (1, .int x1_37), (2, .int x2_37), (3, .int x3_37), (4, .int x4_37)]) C 53 rfl 7 rfl rfl (by decide) rfl ?_
            refine J_goto (pc := 110) (tgt := 37) C 54 rfl rfl ?_
            exact J_sub [3, 4, 5, 6, 7, 0] rfl (ih37 q6 (up2 vS2_37 9 0 x5_37) x2_37 x3_37 x4_37 (x5_37 + (1 : Int32)) h)
          · rw [if_pos c9] at h
            refine J_iload (pc := 90) C 44 rfl 0 rfl ?_
            refine J_iload (pc := 92) C 45 rfl 6 rfl ?_
            refine J_icmp_ge (pc := 94) (tgt := 107) C 46 rfl rfl (fun c10 => ?_) (fun c10 => ?_)
            · rw [if_pos c10] at h
              refine J_iinc (pc := 107) (v := (x5_37 + (1 : Int32))) (lv' := [(5, .int (x5_37 + (1 : Int32))), (7, .int q7), (6, .int (q6 4 0)), (0, .ref aX), (1, .int x1_37), (2, .int x2_37), (3, .int x3_37), (4, .int x4_37)]) C 53 rfl 7 rfl rfl (by decide) rfl ?_
              refine J_goto (pc := 110) (tgt := 37) C 54 rfl rfl ?_
              exact J_sub [3, 4, 5, 6, 7, 0] rfl (ih37 q6 (up2 vS2_37 9 0 x5_37) x2_37 x3_37 x4_37 (x5_37 + (1 : Int32)) h)
            · rw [if_neg c10] at h
              refine J_iload (pc := 97) C 47 rfl 7 rfl ?_
              refine J_istore_n (pc := 99) (lv' := [(2, .int x5_37), (7, .int q7), (6, .int (q6 4 0)), (0, .ref aX), (1, .int x1_37), (3, .int x3_37), (4, .int x4_37), (5, .int x5_37)]) C 48 rfl rfl (by decide) rfl ?_
              refine J_iload (pc := 100) C 49 rfl 2 rfl ?_
              refine J_istore_n (pc := 102) (lv' := [(3, .int (q6 4 0)), (2, .int x5_37), (7, .int q7), (6, .int (q6 4 0)), (0, .ref aX), (1, .int x1_37), (4, .int x4_37), (5, .int x5_37)]) C 50 rfl rfl (by decide) rfl ?_
              refine J_iload (pc := 103) C 51 rfl 2 rfl ?_
              refine J_istore (pc := 105) (lv' := [(4, .int q7), (3, .int (q6 4 0)), (2, .int x5_37), (7, .int q7), (6, .int (q6 4 0)), (0, .ref aX), (1, .int x1_37), (5, .int x5_37)]) C 52 rfl (by decide) rfl ?_
              refine J_iinc (pc := 107) (v := (x5_37 + (1 : Int32))) (lv' := [(5, .int (x5_37 + (1 : Int32))), (4, .int q7), (3, .int (q6 4 0)), (2, .int x5_37), (7, .int q7), (6, .int (q6 4 0)), (0, .ref aX), (1, .int x1_37)]) C 53 rfl 7 rfl rfl (by decide) rfl ?_
              refine J_goto (pc := 110) (tgt := 37) C 54 rfl rfl ?_
              exact J_sub [6, 7, 3, 2, 1, 0] rfl (ih37 q6 (up2 vS2_37 9 0 x5_37) x5_37 (q6 4 0) q7 (x5_37 + (1 : Int32)) h)
  unfold f_X4_bestHalls at h
  refine J_iload_n (pc := 0) C 0 rfl 1 rfl rfl ?_
  refine J_iconst (pc := 1) (v := (0 : Int32)) C 1 rfl rfl ?_
  refine J_iconst (pc := 2) (v := (1 : Int32)) C 2 rfl rfl ?_
  obtain ⟨q1, hq1, h⟩ := bnd h
  refine J_callS (pc := 3) (st2 := []) (st3 := [.int q1]) (ws2 := (wEx aX (aT 0) (aT2 0) (aS 0) (aS2 0) (aP 0) (aH 0) aB aU ++ (wSch G aS (vS 0) (vS 1) (vS 2) (vS 3) (vS 4) (vS 5) (vS 6) (vS 7) (vS 8 0) (vS 9 0) ++ (wSeat G aT2 (aS2 0) (vT2 1) (vT2 2) (vT2 3) (vT2 4 0) (vT2 5 0) (vT2 6) (vT2 7) (vT2 8) ++ (wSch G aS2 (vS2 0) (vS2 1) (vS2 2) (vS2 3) (vS2 4) (vS2 5) (vS2 6) (vS2 7) (vS2 8 0) (vS2 9 0)))))) C 3 rfl (c_X4_isWithin x1 (0 : Int32) (1 : Int32) hq1) V_X4_isWithin k221 t_X4_isWithin rfl rfl ⟨Nat.le_of_ble_eq_true rfl, Nat.le_of_ble_eq_true rfl⟩ (Nat.le_of_ble_eq_true rfl) ⟨Nat.le_refl _, Nat.le_refl _⟩ (isC := []) (isR := [0, 1, 2, 3, 4, 5, 6, 7, 8, 9, 10, 11, 12, 13, 14, 15, 16, 17, 18, 19, 20, 21, 22, 23, 24, 25]) (N := 26) ⟨rfl, by decide +kernel, rfl, by decide +kernel, rfl, ⟨⟨_, rfl, rfl⟩, ⟨⟨_, rfl, rfl⟩, ⟨⟨_, rfl, rfl⟩, ⟨⟨_, rfl, rfl⟩, ⟨⟨_, rfl, rfl⟩, ⟨⟨_, rfl, rfl⟩, ⟨⟨_, rfl, rfl⟩, ⟨⟨_, rfl, rfl⟩, ⟨⟨_, rfl, rfl⟩, ⟨⟨_, rfl, rfl⟩, ⟨⟨_, rfl, rfl⟩, ⟨⟨_, rfl, rfl⟩, ⟨⟨_, rfl, rfl⟩, ⟨⟨_, rfl, rfl⟩, ⟨⟨_, rfl, rfl⟩, ⟨⟨_, rfl, rfl⟩, ⟨⟨_, rfl, rfl⟩, ⟨⟨_, rfl, rfl⟩, ⟨⟨_, rfl, rfl⟩, ⟨⟨_, rfl, rfl⟩, ⟨⟨_, rfl, rfl⟩, ⟨⟨_, rfl, rfl⟩, ⟨⟨_, rfl, rfl⟩, ⟨⟨_, rfl, rfl⟩, ⟨⟨_, rfl, rfl⟩, ⟨⟨_, rfl, rfl⟩, trivial⟩⟩⟩⟩⟩⟩⟩⟩⟩⟩⟩⟩⟩⟩⟩⟩⟩⟩⟩⟩⟩⟩⟩⟩⟩⟩⟩ rfl ?_
  refine J_if_ne (pc := 6) (tgt := 12) C 4 rfl rfl (fun c2 => ?_) (fun c2 => ?_)
  · rw [if_neg c2] at h
    refine J_iconst (pc := 12) (v := (0 : Int32)) C 7 rfl rfl ?_
    refine J_istore_n (pc := 13) (lv' := [(2, .int (0 : Int32)), (0, .ref aX), (1, .int x1)]) C 8 rfl rfl (by decide) rfl ?_
    refine J_sipush (pc := 14) (v := (1000 : Int32)) C 9 rfl rfl ?_
    refine J_istore_n (pc := 17) (lv' := [(3, .int (1000 : Int32)), (2, .int (0 : Int32)), (0, .ref aX), (1, .int x1)]) C 10 rfl rfl (by decide) rfl ?_
    refine J_sipush (pc := 18) (v := (1000 : Int32)) C 11 rfl rfl ?_
    refine J_istore (pc := 21) (lv' := [(4, .int (1000 : Int32)), (3, .int (1000 : Int32)), (2, .int (0 : Int32)), (0, .ref aX), (1, .int x1)]) C 12 rfl (by decide) rfl ?_
    refine J_aload_n (pc := 23) C 13 rfl 3 rfl rfl ?_
    refine J_get (pc := 24) (v := .ref (aS2 0)) C 14 rfl TB_l4 rfl 0 3 rfl (by decide) k199 rfl rfl ?_
    refine J_aload_n (pc := 27) C 15 rfl 3 rfl rfl ?_
    refine J_get (pc := 28) (v := .ref (aS 0)) C 16 rfl TB_l4 rfl 0 1 rfl (by decide) k197 rfl rfl ?_
    obtain ⟨q3, hq3, h⟩ := bnd h
    refine J_callV (pc := 31) (st2 := []) (st3 := []) (ws2 := (wEx aX (aT 0) (aT2 0) (aS 0) (aS2 0) (aP 0) (aH 0) aB aU ++ (wSch G aS (vS 0) (vS 1) (vS 2) (vS 3) (vS 4) (vS 5) (vS 6) (vS 7) (vS 8 0) (vS 9 0) ++ (wSeat G aT2 (aS2 0) (vT2 1) (vT2 2) (vT2 3) (vT2 4 0) (vT2 5 0) (vT2 6) (vT2 7) (vT2 8) ++ (wSch G aS2 (q3 0) (q3 1) (q3 2) (q3 3) (q3 4) (q3 5) (q3 6) (q3 7) (q3 8 0) (q3 9 0)))))) C 17 rfl (c_X2_copyFrom aS2 aS vS2 vS hq3) V_X2_copyFrom k325 i_X2_copyFrom s_X2_copyFrom rfl rfl ⟨Nat.le_of_ble_eq_true rfl, Nat.le_of_ble_eq_true rfl⟩ (Nat.le_of_ble_eq_true rfl) ⟨Nat.le_refl _, Nat.le_refl _⟩ 17 2 rfl rfl rfl (isC := [17, 18, 19, 20, 21, 22, 23, 24, 25, 1, 2, 3, 4, 5, 6, 7, 8, 9]) (isR := [0, 10, 11, 12, 13, 14, 15, 16]) (N := 26) ⟨rfl, by decide +kernel, rfl, by decide +kernel, rfl, ⟨⟨_, rfl, rfl⟩, ⟨⟨_, rfl, rfl⟩, ⟨⟨_, rfl, rfl⟩, ⟨⟨_, rfl, rfl⟩, ⟨⟨_, rfl, rfl⟩, ⟨⟨_, rfl, rfl⟩, ⟨⟨_, rfl, rfl⟩, ⟨⟨_, rfl, rfl⟩, trivial⟩⟩⟩⟩⟩⟩⟩⟩⟩ rfl ?_
    refine J_iconst (pc := 34) (v := (0 : Int32)) C 18 rfl rfl ?_
    refine J_istore (pc := 35) (lv' := [(5, .int (0 : Int32)), (4, .int (1000 : Int32)), (3, .int (1000 : Int32)), (2, .int (0 : Int32)), (0, .ref aX), (1, .int x1)]) C 19 rfl (by decide) rfl ?_
    exact J_sub [4, 5, 3, 2, 1, 0] rfl (B37 x1 FU vT2 q3 (0 : Int32) (1000 : Int32) (1000 : Int32) (0 : Int32) h)
  · rw [if_pos c2] at h
    refine J_bipush (pc := 9) (v := (-2 : Int32)) C 5 rfl rfl ?_
    cases h
    exact J_iret (pc := 11) C 6 rfl
def T_X4_leastRooms : List (Nat × ClassFile.Instr × Nat) := [(0, .aload_n 0, 1), (1, .getfield 24, 3), (4, .aload_n 0, 1), (5, .getfield 20, 3), (8, .invokevirtual 230, 3), (11, .iconst 0, 1), (12, .istore_n 1, 1), (13, .iload_n 1, 1), (14, .bipush 6, 2), (16, .if_icmp .gt 38, 3), (19, .aload_n 0, 1), (20, .getfield 24, 3), (23, .getfield 63, 3), (26, .iconst 1, 1), (27, .iload_n 1, 1), (28, .iastore, 1), (29, .aload_n 0, 1), (30, .getfield 21, 3), (33, .invokevirtual 52, 3), (36, .aload_n 0, 1), (37, .getfield 21, 3), (40, .getfield 233, 3), (43, .ifCond .ne 5, 3), (46, .iload_n 1, 1), (47, .ireturn, 1), (48, .iinc 1 1, 3), (51, .goto (-38), 3), (54, .bipush (-6), 2), (56, .ireturn, 1)]
theorem D_X4_leastRooms : ∀ q ∈ T_X4_leastRooms, decode cX4_leastRooms q.1 = .ok q.2 := by decide +kernel
theorem V_X4_leastRooms : Vy yX4_leastRooms cX4_leastRooms 2 (some .int) 0 := ⟨k330, k56, by decide +kernel⟩
theorem i_X4_leastRooms : Cond.instanceMethod yX4_leastRooms ∈ TB := k406
theorem s_X4_leastRooms : Cond.selects yX4_leastRooms.cls yX4_leastRooms yX4_leastRooms ∈ TB := k407
noncomputable def f_X4_leastRooms_b13 (vS : JV) (r13 : JV → JV → Int32 → Option (Int32 × JV × JV)) (vT2_13 : JV) (vS2_13 : JV) (x1_13 : Int32) : Option (Int32 × JV × JV) :=
  (if (6 : Int32) < x1_13 then some ((-6 : Int32), vT2_13, vS2_13) else (f_X3_seatAll vT2_13 (up2 vS2_13 0 1 x1_13)).bind (fun q3 => (if (q3 5 0) = 0 then some (x1_13, q3, (up2 vS2_13 0 1 x1_13)) else r13 q3 (up2 vS2_13 0 1 x1_13) (x1_13 + (1 : Int32)))))
noncomputable def f_X4_leastRooms_L13 (vS : JV) (n : Nat) (vT2_13 : JV) (vS2_13 : JV) (x1_13 : Int32) : Option (Int32 × JV × JV) :=
  lp (fun (rec : JV × JV × Int32 → Option (Int32 × JV × JV)) a => f_X4_leastRooms_b13 vS (fun vT2_13 vS2_13 x1_13 => rec (vT2_13, vS2_13, x1_13)) a.1 a.2.1 a.2.2) n (vT2_13, vS2_13, x1_13)
noncomputable def f_X4_leastRooms (vS : JV) (vT2 : JV) (vS2 : JV)  : Option (Int32 × JV × JV) :=
  (f_X2_copyFrom vS2 vS).bind (fun q1 => f_X4_leastRooms_L13 vS  FU vT2 q1 (0 : Int32))
set_option maxRecDepth 100000 in
set_option maxHeartbeats 4000000 in
theorem c_X4_leastRooms {l : Launch} {G : JG} (aX : Nat) (aT : Nat → Nat) (aS : Nat → Nat) (aT2 : Nat → Nat) (aS2 : Nat → Nat) (aP : Nat → Nat) (aH : Nat → Nat) (aB : Nat) (aU : Nat) (vS : JV) (vT2 : JV) (vS2 : JV)  {Rz : Int32 × JV × JV} (h : f_X4_leastRooms vS vT2 vS2 = some Rz) : JM l G yX4_leastRooms cX4_leastRooms 2 (some .int) 6 141 [.ref aX] (wEx aX (aT 0) (aT2 0) (aS 0) (aS2 0) (aP 0) (aH 0) aB aU ++ (wSch G aS (vS 0) (vS 1) (vS 2) (vS 3) (vS 4) (vS 5) (vS 6) (vS 7) (vS 8 0) (vS 9 0) ++ (wSeat G aT2 (aS2 0) (vT2 1) (vT2 2) (vT2 3) (vT2 4 0) (vT2 5 0) (vT2 6) (vT2 7) (vT2 8) ++ (wSch G aS2 (vS2 0) (vS2 1) (vS2 2) (vS2 3) (vS2 4) (vS2 5) (vS2 6) (vS2 7) (vS2 8 0) (vS2 9 0))))) (wEx aX (aT 0) (aT2 0) (aS 0) (aS2 0) (aP 0) (aH 0) aB aU ++ (wSch G aS (vS 0) (vS 1) (vS 2) (vS 3) (vS 4) (vS 5) (vS 6) (vS 7) (vS 8 0) (vS 9 0) ++ (wSeat G aT2 (aS2 0) ((Rz.2.1) 1) ((Rz.2.1) 2) ((Rz.2.1) 3) ((Rz.2.1) 4 0) ((Rz.2.1) 5 0) ((Rz.2.1) 6) ((Rz.2.1) 7) ((Rz.2.1) 8) ++ (wSch G aS2 ((Rz.2.2) 0) ((Rz.2.2) 1) ((Rz.2.2) 2) ((Rz.2.2) 3) ((Rz.2.2) 4) ((Rz.2.2) 5) ((Rz.2.2) 6) ((Rz.2.2) 7) ((Rz.2.2) 8 0) ((Rz.2.2) 9 0))))) (some (.int (Rz.1))) := by
  refine JM.of (own := RX4) (tb := T_X4_leastRooms) (by decide) (Nat.le_of_ble_eq_true rfl) D_X4_leastRooms rfl (fun X C => ?_)
  refine J_sub (lv' := [(0, .ref aX)]) [0] rfl ?_
  have B13 : ∀ (n13 : Nat) (vT2_13 : JV) (vS2_13 : JV) (x1_13 : Int32), f_X4_leastRooms_L13 vS n13 vT2_13 vS2_13 x1_13 = some Rz → J l { frames := 6, cells := 0, slots := 0, locals := 141 } G 2 X (QM X G 0 0 (some (.int (Rz.1))) (wEx aX (aT 0) (aT2 0) (aS 0) (aS2 0) (aP 0) (aH 0) aB aU ++ (wSch G aS (vS 0) (vS 1) (vS 2) (vS 3) (vS 4) (vS 5) (vS 6) (vS 7) (vS 8 0) (vS 9 0) ++ (wSeat G aT2 (aS2 0) ((Rz.2.1) 1) ((Rz.2.1) 2) ((Rz.2.1) 3) ((Rz.2.1) 4 0) ((Rz.2.1) 5 0) ((Rz.2.1) 6) ((Rz.2.1) 7) ((Rz.2.1) 8) ++ (wSch G aS2 ((Rz.2.2) 0) ((Rz.2.2) 1) ((Rz.2.2) 2) ((Rz.2.2) 3) ((Rz.2.2) 4) ((Rz.2.2) 5) ((Rz.2.2) 6) ((Rz.2.2) 7) ((Rz.2.2) 8 0) ((Rz.2.2) 9 0)))))) 0 0 13 [(0, .ref aX), (1, .int x1_13)] [] (wEx aX (aT 0) (aT2 0) (aS 0) (aS2 0) (aP 0) (aH 0) aB aU ++ (wSch G aS (vS 0) (vS 1) (vS 2) (vS 3) (vS 4) (vS 5) (vS 6) (vS 7) (vS 8 0) (vS 9 0) ++ (wSeat G aT2 (aS2 0) (vT2_13 1) (vT2_13 2) (vT2_13 3) (vT2_13 4 0) (vT2_13 5 0) (vT2_13 6) (vT2_13 7) (vT2_13 8) ++ (wSch G aS2 (vS2_13 0) (vS2_13 1) (vS2_13 2) (vS2_13 3) (vS2_13 4) (vS2_13 5) (vS2_13 6) (vS2_13 7) (vS2_13 8 0) (vS2_13 9 0))))) := by
    intro  n13
    induction n13 with
    | zero =>
      intro vT2_13 vS2_13 x1_13 h
      exact (no_none rfl h).elim
    | succ n13 ih13 =>
      intro vT2_13 vS2_13 x1_13 h
      replace h : f_X4_leastRooms_b13 vS (fun vT2_13 vS2_13 x1_13 => f_X4_leastRooms_L13 vS n13 vT2_13 vS2_13 x1_13) vT2_13 vS2_13 x1_13 = some Rz := h
      unfold f_X4_leastRooms_b13 at h
      refine J_iload_n (pc := 13) C 7 rfl 1 rfl rfl ?_
      refine J_bipush (pc := 14) (v := (6 : Int32)) C 8 rfl rfl ?_
      refine J_icmp_gt (pc := 16) (tgt := 54) C 9 rfl rfl (fun c2 => ?_) (fun c2 => ?_)
      · rw [if_pos c2] at h
        refine J_bipush (pc := 54) (v := (-6 : Int32)) C 27 rfl rfl ?_
        cases h
        exact J_iret (pc := 56) C 28 rfl
      · rw [if_neg c2] at h
        refine J_aload_n (pc := 19) C 10 rfl 0 rfl rfl ?_
        refine J_get (pc := 20) (v := .ref (aS2 0)) C 11 rfl TB_l4 rfl 0 3 rfl (by decide) k199 rfl rfl ?_
        refine J_get (pc := 23) (v := .ref (aS2 1)) C 12 rfl TB_l2 rfl 17 0 rfl (by decide) k220 rfl rfl ?_
        refine J_iconst (pc := 26) (v := (1 : Int32)) C 13 rfl rfl ?_
        refine J_iload_n (pc := 27) C 14 rfl 1 rfl rfl ?_
        refine J_iast (pc := 28) (f := (vS2_13 0)) (m := 1) C 15 (fun mm vv => (wEx aX (aT 0) (aT2 0) (aS 0) (aS2 0) (aP 0) (aH 0) aB aU ++ (wSch G aS (vS 0) (vS 1) (vS 2) (vS 3) (vS 4) (vS 5) (vS 6) (vS 7) (vS 8 0) (vS 9 0) ++ (wSeat G aT2 (aS2 0) (vT2_13 1) (vT2_13 2) (vT2_13 3) (vT2_13 4 0) (vT2_13 5 0) (vT2_13 6) (vT2_13 7) (vT2_13 8) ++ (wSch G aS2 (upd (vS2_13 0) mm vv) (vS2_13 1) (vS2_13 2) (vS2_13 3) (vS2_13 4) (vS2_13 5) (vS2_13 6) (vS2_13 7) (vS2_13 8 0) (vS2_13 9 0)))))) rfl 18 rfl rfl rfl (fun _ _ => rfl) ?_
        refine J_aload_n (pc := 29) C 16 rfl 0 rfl rfl ?_
        refine J_get (pc := 30) (v := .ref (aT2 0)) C 17 rfl TB_l4 rfl 0 2 rfl (by decide) k198 rfl rfl ?_
        obtain ⟨q3, hq3, h⟩ := bnd h
        refine J_callV (pc := 33) (st2 := []) (st3 := []) (ws2 := (wEx aX (aT 0) (aT2 0) (aS 0) (aS2 0) (aP 0) (aH 0) aB aU ++ (wSch G aS (vS 0) (vS 1) (vS 2) (vS 3) (vS 4) (vS 5) (vS 6) (vS 7) (vS 8 0) (vS 9 0) ++ (wSeat G aT2 (aS2 0) (q3 1) (q3 2) (q3 3) (q3 4 0) (q3 5 0) (q3 6) (q3 7) (q3 8) ++ (wSch G aS2 (upd (vS2_13 0) 1 x1_13) (vS2_13 1) (vS2_13 2) (vS2_13 3) (vS2_13 4) (vS2_13 5) (vS2_13 6) (vS2_13 7) (vS2_13 8 0) (vS2_13 9 0)))))) C 18 rfl (c_X3_seatAll aT2 aS2 vT2_13 (up2 vS2_13 0 1 x1_13) hq3) V_X3_seatAll k214 i_X3_seatAll s_X3_seatAll rfl rfl ⟨Nat.le_of_ble_eq_true rfl, Nat.le_of_ble_eq_true rfl⟩ (Nat.le_of_ble_eq_true rfl) ⟨Nat.le_refl _, Nat.le_refl _⟩ 10 3 rfl rfl rfl (isC := [10, 11, 12, 13, 14, 15, 16, 17, 18, 19, 20, 21, 22, 23, 24, 25]) (isR := [0, 1, 2, 3, 4, 5, 6, 7, 8, 9]) (N := 26) ⟨rfl, by decide +kernel, rfl, by decide +kernel, rfl, ⟨⟨_, rfl, rfl⟩, ⟨⟨_, rfl, rfl⟩, ⟨⟨_, rfl, rfl⟩, ⟨⟨_, rfl, rfl⟩, ⟨⟨_, rfl, rfl⟩, ⟨⟨_, rfl, rfl⟩, ⟨⟨_, rfl, rfl⟩, ⟨⟨_, rfl, rfl⟩, ⟨⟨_, rfl, rfl⟩, ⟨⟨_, rfl, rfl⟩, trivial⟩⟩⟩⟩⟩⟩⟩⟩⟩⟩⟩ rfl ?_
        refine J_aload_n (pc := 36) C 19 rfl 0 rfl rfl ?_
        refine J_get (pc := 37) (v := .ref (aT2 0)) C 20 rfl TB_l4 rfl 0 2 rfl (by decide) k198 rfl rfl ?_
        refine J_get (pc := 40) (v := .int (q3 5 0)) C 21 rfl TB_l3 rfl 10 5 rfl (by decide) k329 rfl rfl ?_
        refine J_if_ne (pc := 43) (tgt := 48) C 22 rfl rfl (fun c4 => ?_) (fun c4 => ?_)
        · rw [if_neg c4] at h
          refine J_iinc (pc := 48) (v := (x1_13 + (1 : Int32))) (lv' := [(1, .int (x1_13 + (1 : Int32))), (0, .ref aX)]) C 25 rfl 1 rfl rfl (by decide) rfl ?_
          refine J_goto (pc := 51) (tgt := 13) C 26 rfl rfl ?_
          exact J_sub [1, 0] rfl (ih13 q3 (up2 vS2_13 0 1 x1_13) (x1_13 + (1 : Int32)) h)
        · rw [if_pos c4] at h
          refine J_iload_n (pc := 46) C 23 rfl 1 rfl rfl ?_
          cases h
          exact J_iret (pc := 47) C 24 rfl
  unfold f_X4_leastRooms at h
  refine J_aload_n (pc := 0) C 0 rfl 0 rfl rfl ?_
  refine J_get (pc := 1) (v := .ref (aS2 0)) C 1 rfl TB_l4 rfl 0 3 rfl (by decide) k199 rfl rfl ?_
  refine J_aload_n (pc := 4) C 2 rfl 0 rfl rfl ?_
  refine J_get (pc := 5) (v := .ref (aS 0)) C 3 rfl TB_l4 rfl 0 1 rfl (by decide) k197 rfl rfl ?_
  obtain ⟨q1, hq1, h⟩ := bnd h
  refine J_callV (pc := 8) (st2 := []) (st3 := []) (ws2 := (wEx aX (aT 0) (aT2 0) (aS 0) (aS2 0) (aP 0) (aH 0) aB aU ++ (wSch G aS (vS 0) (vS 1) (vS 2) (vS 3) (vS 4) (vS 5) (vS 6) (vS 7) (vS 8 0) (vS 9 0) ++ (wSeat G aT2 (aS2 0) (vT2 1) (vT2 2) (vT2 3) (vT2 4 0) (vT2 5 0) (vT2 6) (vT2 7) (vT2 8) ++ (wSch G aS2 (q1 0) (q1 1) (q1 2) (q1 3) (q1 4) (q1 5) (q1 6) (q1 7) (q1 8 0) (q1 9 0)))))) C 4 rfl (c_X2_copyFrom aS2 aS vS2 vS hq1) V_X2_copyFrom k325 i_X2_copyFrom s_X2_copyFrom rfl rfl ⟨Nat.le_of_ble_eq_true rfl, Nat.le_of_ble_eq_true rfl⟩ (Nat.le_of_ble_eq_true rfl) ⟨Nat.le_refl _, Nat.le_refl _⟩ 17 2 rfl rfl rfl (isC := [17, 18, 19, 20, 21, 22, 23, 24, 25, 1, 2, 3, 4, 5, 6, 7, 8, 9]) (isR := [0, 10, 11, 12, 13, 14, 15, 16]) (N := 26) ⟨rfl, by decide +kernel, rfl, by decide +kernel, rfl, ⟨⟨_, rfl, rfl⟩, ⟨⟨_, rfl, rfl⟩, ⟨⟨_, rfl, rfl⟩, ⟨⟨_, rfl, rfl⟩, ⟨⟨_, rfl, rfl⟩, ⟨⟨_, rfl, rfl⟩, ⟨⟨_, rfl, rfl⟩, ⟨⟨_, rfl, rfl⟩, trivial⟩⟩⟩⟩⟩⟩⟩⟩⟩ rfl ?_
  refine J_iconst (pc := 11) (v := (0 : Int32)) C 5 rfl rfl ?_
  refine J_istore_n (pc := 12) (lv' := [(1, .int (0 : Int32)), (0, .ref aX)]) C 6 rfl rfl (by decide) rfl ?_
  exact J_sub [1, 0] rfl (B13  FU vT2 q1 (0 : Int32) h)
def T_X4_undo : List (Nat × ClassFile.Instr × Nat) := [(0, .aload_n 0, 1), (1, .getfield 37, 3), (4, .getfield 223, 3), (7, .ifCond .ne 6, 3), (10, .bipush (-5), 2), (12, .ireturn, 1), (13, .aload_n 0, 1), (14, .getfield 37, 3), (17, .aload_n 0, 1), (18, .getfield 20, 3), (21, .invokevirtual 244, 3), (24, .aload_n 0, 1), (25, .getfield 12, 3), (28, .invokevirtual 52, 3), (31, .aload_n 0, 1), (32, .getfield 37, 3), (35, .getfield 223, 3), (38, .ireturn, 1)]
theorem D_X4_undo : ∀ q ∈ T_X4_undo, decode cX4_undo q.1 = .ok q.2 := by decide +kernel
theorem V_X4_undo : Vy yX4_undo cX4_undo 1 (some .int) 0 := ⟨k334, k56, by decide +kernel⟩
theorem i_X4_undo : Cond.instanceMethod yX4_undo ∈ TB := k414
theorem s_X4_undo : Cond.selects yX4_undo.cls yX4_undo yX4_undo ∈ TB := k415
noncomputable def f_X4_undo (vT : JV) (vS : JV) (hA : Nat → Nat → Nat) (hV : Nat → JV) (hZ : JV)  : Option (Int32 × JV × JV × JV) :=
  (if (hZ 1 0) = 0 then some ((-5 : Int32), vT, vS, hZ) else (f_X0_takeBack vS hA hV hZ).bind (fun q2 => (f_X3_seatAll vT (q2.1)).bind (fun q3 => some (((q2.2) 1 0), q3, (q2.1), (q2.2)))))
set_option maxRecDepth 100000 in
set_option maxHeartbeats 4000000 in
theorem c_X4_undo {l : Launch} {G : JG} (aX : Nat) (aT : Nat → Nat) (aS : Nat → Nat) (aT2 : Nat → Nat) (aS2 : Nat → Nat) (aP : Nat → Nat) (aH : Nat → Nat) (aB : Nat) (aU : Nat) (vT : JV) (vS : JV) (hA : Nat → Nat → Nat) (hV : Nat → JV) (hZ : JV)  {Rz : Int32 × JV × JV × JV} (h : f_X4_undo vT vS hA hV hZ = some Rz) : JM l G yX4_undo cX4_undo 1 (some .int) 6 141 [.ref aX] (wEx aX (aT 0) (aT2 0) (aS 0) (aS2 0) (aP 0) (aH 0) aB aU ++ (wSeat G aT (aS 0) (vT 1) (vT 2) (vT 3) (vT 4 0) (vT 5 0) (vT 6) (vT 7) (vT 8) ++ (wSch G aS (vS 0) (vS 1) (vS 2) (vS 3) (vS 4) (vS 5) (vS 6) (vS 7) (vS 8 0) (vS 9 0) ++ (wHis G aH hA hV (hZ 1 0))))) (wEx aX (aT 0) (aT2 0) (aS 0) (aS2 0) (aP 0) (aH 0) aB aU ++ (wSeat G aT (aS 0) ((Rz.2.1) 1) ((Rz.2.1) 2) ((Rz.2.1) 3) ((Rz.2.1) 4 0) ((Rz.2.1) 5 0) ((Rz.2.1) 6) ((Rz.2.1) 7) ((Rz.2.1) 8) ++ (wSch G aS ((Rz.2.2.1) 0) ((Rz.2.2.1) 1) ((Rz.2.2.1) 2) ((Rz.2.2.1) 3) ((Rz.2.2.1) 4) ((Rz.2.2.1) 5) ((Rz.2.2.1) 6) ((Rz.2.2.1) 7) ((Rz.2.2.1) 8 0) ((Rz.2.2.1) 9 0) ++ (wHis G aH hA hV ((Rz.2.2.2) 1 0))))) (some (.int (Rz.1))) := by
  refine JM.of (own := RX4) (tb := T_X4_undo) (by decide) (Nat.le_of_ble_eq_true rfl) D_X4_undo rfl (fun X C => ?_)
  refine J_sub (lv' := [(0, .ref aX)]) [0] rfl ?_
  unfold f_X4_undo at h
  refine J_aload_n (pc := 0) C 0 rfl 0 rfl rfl ?_
  refine J_get (pc := 1) (v := .ref (aH 0)) C 1 rfl TB_l4 rfl 0 5 rfl (by decide) k206 rfl rfl ?_
  refine J_get (pc := 4) (v := .int (hZ 1 0)) C 2 rfl TB_l0 rfl 17 1 rfl (by decide) k304 rfl rfl ?_
  refine J_if_ne (pc := 7) (tgt := 13) C 3 rfl rfl (fun c1 => ?_) (fun c1 => ?_)
  · rw [if_neg c1] at h
    refine J_aload_n (pc := 13) C 6 rfl 0 rfl rfl ?_
    refine J_get (pc := 14) (v := .ref (aH 0)) C 7 rfl TB_l4 rfl 0 5 rfl (by decide) k206 rfl rfl ?_
    refine J_aload_n (pc := 17) C 8 rfl 0 rfl rfl ?_
    refine J_get (pc := 18) (v := .ref (aS 0)) C 9 rfl TB_l4 rfl 0 1 rfl (by decide) k197 rfl rfl ?_
    obtain ⟨q2, hq2, h⟩ := bnd h
    refine J_callV (pc := 21) (st2 := []) (st3 := []) (ws2 := (wEx aX (aT 0) (aT2 0) (aS 0) (aS2 0) (aP 0) (aH 0) aB aU ++ (wSeat G aT (aS 0) (vT 1) (vT 2) (vT 3) (vT 4 0) (vT 5 0) (vT 6) (vT 7) (vT 8) ++ (wSch G aS ((q2.1) 0) ((q2.1) 1) ((q2.1) 2) ((q2.1) 3) ((q2.1) 4) ((q2.1) 5) ((q2.1) 6) ((q2.1) 7) ((q2.1) 8 0) ((q2.1) 9 0) ++ (wHis G aH hA hV ((q2.2) 1 0)))))) C 10 rfl (c_X0_takeBack aS aH vS hA hV hZ hq2) V_X0_takeBack k331 i_X0_takeBack s_X0_takeBack rfl rfl ⟨Nat.le_of_ble_eq_true rfl, Nat.le_of_ble_eq_true rfl⟩ (Nat.le_of_ble_eq_true rfl) ⟨Nat.le_refl _, Nat.le_refl _⟩ 17 0 rfl rfl rfl (isC := [8, 9, 10, 11, 12, 13, 14, 15, 16, 17, 18, 19, 20, 21, 22, 23, 24, 25, 26, 27, 28, 29, 30, 31, 32, 33, 34, 35, 36, 37, 38, 39, 40, 41, 42, 43, 44, 45, 46, 47, 48, 49, 50, 51, 52, 53, 54, 55, 56, 57, 58, 59, 60, 61, 62, 63, 64, 65, 66, 67, 68, 69, 70, 71, 72]) (isR := [0, 1, 2, 3, 4, 5, 6, 7]) (N := 73) ⟨rfl, by decide +kernel, rfl, by decide +kernel, rfl, ⟨⟨_, rfl, rfl⟩, ⟨⟨_, rfl, rfl⟩, ⟨⟨_, rfl, rfl⟩, ⟨⟨_, rfl, rfl⟩, ⟨⟨_, rfl, rfl⟩, ⟨⟨_, rfl, rfl⟩, ⟨⟨_, rfl, rfl⟩, ⟨⟨_, rfl, rfl⟩, trivial⟩⟩⟩⟩⟩⟩⟩⟩⟩ rfl ?_
    refine J_aload_n (pc := 24) C 11 rfl 0 rfl rfl ?_
    refine J_get (pc := 25) (v := .ref (aT 0)) C 12 rfl TB_l4 rfl 0 0 rfl (by decide) k195 rfl rfl ?_
    obtain ⟨q3, hq3, h⟩ := bnd h
    refine J_callV (pc := 28) (st2 := []) (st3 := []) (ws2 := (wEx aX (aT 0) (aT2 0) (aS 0) (aS2 0) (aP 0) (aH 0) aB aU ++ (wSeat G aT (aS 0) (q3 1) (q3 2) (q3 3) (q3 4 0) (q3 5 0) (q3 6) (q3 7) (q3 8) ++ (wSch G aS ((q2.1) 0) ((q2.1) 1) ((q2.1) 2) ((q2.1) 3) ((q2.1) 4) ((q2.1) 5) ((q2.1) 6) ((q2.1) 7) ((q2.1) 8 0) ((q2.1) 9 0) ++ (wHis G aH hA hV ((q2.2) 1 0)))))) C 13 rfl (c_X3_seatAll aT aS vT (q2.1) hq3) V_X3_seatAll k214 i_X3_seatAll s_X3_seatAll rfl rfl ⟨Nat.le_of_ble_eq_true rfl, Nat.le_of_ble_eq_true rfl⟩ (Nat.le_of_ble_eq_true rfl) ⟨Nat.le_refl _, Nat.le_refl _⟩ 1 3 rfl rfl rfl (isC := [1, 2, 3, 4, 5, 6, 7, 8, 9, 10, 11, 12, 13, 14, 15, 16]) (isR := [0, 17, 18, 19, 20, 21, 22, 23, 24, 25, 26, 27, 28, 29, 30, 31, 32, 33, 34, 35, 36, 37, 38, 39, 40, 41, 42, 43, 44, 45, 46, 47, 48, 49, 50, 51, 52, 53, 54, 55, 56, 57, 58, 59, 60, 61, 62, 63, 64, 65, 66, 67, 68, 69, 70, 71, 72]) (N := 73) ⟨rfl, by decide +kernel, rfl, by decide +kernel, rfl, ⟨⟨_, rfl, rfl⟩, ⟨⟨_, rfl, rfl⟩, ⟨⟨_, rfl, rfl⟩, ⟨⟨_, rfl, rfl⟩, ⟨⟨_, rfl, rfl⟩, ⟨⟨_, rfl, rfl⟩, ⟨⟨_, rfl, rfl⟩, ⟨⟨_, rfl, rfl⟩, ⟨⟨_, rfl, rfl⟩, ⟨⟨_, rfl, rfl⟩, ⟨⟨_, rfl, rfl⟩, ⟨⟨_, rfl, rfl⟩, ⟨⟨_, rfl, rfl⟩, ⟨⟨_, rfl, rfl⟩, ⟨⟨_, rfl, rfl⟩, ⟨⟨_, rfl, rfl⟩, ⟨⟨_, rfl, rfl⟩, ⟨⟨_, rfl, rfl⟩, ⟨⟨_, rfl, rfl⟩, ⟨⟨_, rfl, rfl⟩, ⟨⟨_, rfl, rfl⟩, ⟨⟨_, rfl, rfl⟩, ⟨⟨_, rfl, rfl⟩, ⟨⟨_, rfl, rfl⟩, ⟨⟨_, rfl, rfl⟩, ⟨⟨_, rfl, rfl⟩, ⟨⟨_, rfl, rfl⟩, ⟨⟨_, rfl, rfl⟩, ⟨⟨_, rfl, rfl⟩, ⟨⟨_, rfl, rfl⟩, ⟨⟨_, rfl, rfl⟩, ⟨⟨_, rfl, rfl⟩, ⟨⟨_, rfl, rfl⟩, ⟨⟨_, rfl, rfl⟩, ⟨⟨_, rfl, rfl⟩, ⟨⟨_, rfl, rfl⟩, ⟨⟨_, rfl, rfl⟩, ⟨⟨_, rfl, rfl⟩, ⟨⟨_, rfl, rfl⟩, ⟨⟨_, rfl, rfl⟩, ⟨⟨_, rfl, rfl⟩, ⟨⟨_, rfl, rfl⟩, ⟨⟨_, rfl, rfl⟩, ⟨⟨_, rfl, rfl⟩, ⟨⟨_, rfl, rfl⟩, ⟨⟨_, rfl, rfl⟩, ⟨⟨_, rfl, rfl⟩, ⟨⟨_, rfl, rfl⟩, ⟨⟨_, rfl, rfl⟩, ⟨⟨_, rfl, rfl⟩, ⟨⟨_, rfl, rfl⟩, ⟨⟨_, rfl, rfl⟩, ⟨⟨_, rfl, rfl⟩, ⟨⟨_, rfl, rfl⟩, ⟨⟨_, rfl, rfl⟩, ⟨⟨_, rfl, rfl⟩, ⟨⟨_, rfl, rfl⟩, trivial⟩⟩⟩⟩⟩⟩⟩⟩⟩⟩⟩⟩⟩⟩⟩⟩⟩⟩⟩⟩⟩⟩⟩⟩⟩⟩⟩⟩⟩⟩⟩⟩⟩⟩⟩⟩⟩⟩⟩⟩⟩⟩⟩⟩⟩⟩⟩⟩⟩⟩⟩⟩⟩⟩⟩⟩⟩⟩ rfl ?_
    refine J_aload_n (pc := 31) C 14 rfl 0 rfl rfl ?_
    refine J_get (pc := 32) (v := .ref (aH 0)) C 15 rfl TB_l4 rfl 0 5 rfl (by decide) k206 rfl rfl ?_
    refine J_get (pc := 35) (v := .int ((q2.2) 1 0)) C 16 rfl TB_l0 rfl 17 1 rfl (by decide) k304 rfl rfl ?_
    cases h
    exact J_iret (pc := 38) C 17 rfl
  · rw [if_pos c1] at h
    refine J_bipush (pc := 10) (v := (-5 : Int32)) C 4 rfl rfl ?_
    cases h
    exact J_iret (pc := 12) C 5 rfl
def T_X4_save : List (Nat × ClassFile.Instr × Nat) := [(0, .iload_n 1, 1), (1, .invokestatic 247, 3), (4, .ifCond .ne 6, 3), (7, .bipush (-2), 2), (9, .ireturn, 1), (10, .aload_n 0, 1), (11, .getfield 44, 3), (14, .iload_n 1, 1), (15, .aaload, 1), (16, .aload_n 0, 1), (17, .getfield 20, 3), (20, .invokevirtual 230, 3), (23, .aload_n 0, 1), (24, .getfield 48, 3), (27, .iload_n 1, 1), (28, .iconst 1, 1), (29, .bastore, 1), (30, .aload_n 0, 1), (31, .getfield 20, 3), (34, .getfield 87, 3), (37, .ireturn, 1)]
theorem D_X4_save : ∀ q ∈ T_X4_save, decode cX4_save q.1 = .ok q.2 := by decide +kernel
theorem V_X4_save : Vy yX4_save cX4_save 2 (some .int) 1 := ⟨k338, k56, by decide +kernel⟩
theorem i_X4_save : Cond.instanceMethod yX4_save ∈ TB := k431
theorem s_X4_save : Cond.selects yX4_save.cls yX4_save yX4_save ∈ TB := k432
noncomputable def f_X4_save (vS : JV) (sV : Nat → JV) (vU : JV) (x1 : Int32) : Option (Int32 × (Nat → JV) × JV) :=
  (f_X4_isSlot x1).bind (fun q1 => (if q1 = 0 then some ((-2 : Int32), sV, vU) else gd (inb x1 2) ((if x1 = (0 : Int32) then (f_X2_copyFrom (sV 0) vS).bind (fun q5 => gd (inb x1 2) (some ((vS 8 0), (up1 sV 0 q5), (up2 vU 0 (Int32.toNatClampNeg x1) (1 : Int32))))) else (if x1 = (1 : Int32) then (f_X2_copyFrom (sV 1) vS).bind (fun q8 => gd (inb x1 2) (some ((vS 8 0), (up1 sV 1 q8), (up2 vU 0 (Int32.toNatClampNeg x1) (1 : Int32))))) else none)))))
set_option maxRecDepth 100000 in
set_option maxHeartbeats 4000000 in
theorem c_X4_save {l : Launch} {G : JG} (aX : Nat) (aT : Nat → Nat) (aS : Nat → Nat) (aT2 : Nat → Nat) (aS2 : Nat → Nat) (aP : Nat → Nat) (aH : Nat → Nat) (aB : Nat) (aU : Nat) (sA : Nat → Nat → Nat) (vS : JV) (sV : Nat → JV) (vU : JV) (x1 : Int32) {Rz : Int32 × (Nat → JV) × JV} (h : f_X4_save vS sV vU x1 = some Rz) : JM l G yX4_save cX4_save 2 (some .int) 2 42 [.ref aX, .int x1] (wEx aX (aT 0) (aT2 0) (aS 0) (aS2 0) (aP 0) (aH 0) aB aU ++ (wSch G aS (vS 0) (vS 1) (vS 2) (vS 3) (vS 4) (vS 5) (vS 6) (vS 7) (vS 8 0) (vS 9 0) ++ (wSlots G aB sA sV ++ (wUsed G aU (vU 0))))) (wEx aX (aT 0) (aT2 0) (aS 0) (aS2 0) (aP 0) (aH 0) aB aU ++ (wSch G aS (vS 0) (vS 1) (vS 2) (vS 3) (vS 4) (vS 5) (vS 6) (vS 7) (vS 8 0) (vS 9 0) ++ (wSlots G aB sA (Rz.2.1) ++ (wUsed G aU ((Rz.2.2) 0))))) (some (.int (Rz.1))) := by
  refine JM.of (own := RX4) (tb := T_X4_save) (by decide) (Nat.le_of_ble_eq_true rfl) D_X4_save rfl (fun X C => ?_)
  refine J_sub (lv' := [(0, .ref aX), (1, .int x1)]) [0, 1] rfl ?_
  unfold f_X4_save at h
  refine J_iload_n (pc := 0) C 0 rfl 1 rfl rfl ?_
  obtain ⟨q1, hq1, h⟩ := bnd h
  refine J_callS (pc := 1) (st2 := []) (st3 := [.int q1]) (ws2 := (wEx aX (aT 0) (aT2 0) (aS 0) (aS2 0) (aP 0) (aH 0) aB aU ++ (wSch G aS (vS 0) (vS 1) (vS 2) (vS 3) (vS 4) (vS 5) (vS 6) (vS 7) (vS 8 0) (vS 9 0) ++ (wSlots G aB sA sV ++ (wUsed G aU (vU 0)))))) C 1 rfl (c_X4_isSlot x1 hq1) V_X4_isSlot k336 t_X4_isSlot rfl rfl ⟨Nat.le_of_ble_eq_true rfl, Nat.le_of_ble_eq_true rfl⟩ (Nat.le_of_ble_eq_true rfl) ⟨Nat.le_refl _, Nat.le_refl _⟩ (isC := []) (isR := [0, 1, 2, 3, 4, 5, 6, 7, 8, 9, 10, 11, 12, 13, 14, 15, 16, 17, 18, 19, 20, 21, 22, 23, 24, 25, 26, 27, 28, 29]) (N := 30) ⟨rfl, by decide +kernel, rfl, by decide +kernel, rfl, ⟨⟨_, rfl, rfl⟩, ⟨⟨_, rfl, rfl⟩, ⟨⟨_, rfl, rfl⟩, ⟨⟨_, rfl, rfl⟩, ⟨⟨_, rfl, rfl⟩, ⟨⟨_, rfl, rfl⟩, ⟨⟨_, rfl, rfl⟩, ⟨⟨_, rfl, rfl⟩, ⟨⟨_, rfl, rfl⟩, ⟨⟨_, rfl, rfl⟩, ⟨⟨_, rfl, rfl⟩, ⟨⟨_, rfl, rfl⟩, ⟨⟨_, rfl, rfl⟩, ⟨⟨_, rfl, rfl⟩, ⟨⟨_, rfl, rfl⟩, ⟨⟨_, rfl, rfl⟩, ⟨⟨_, rfl, rfl⟩, ⟨⟨_, rfl, rfl⟩, ⟨⟨_, rfl, rfl⟩, ⟨⟨_, rfl, rfl⟩, ⟨⟨_, rfl, rfl⟩, ⟨⟨_, rfl, rfl⟩, ⟨⟨_, rfl, rfl⟩, ⟨⟨_, rfl, rfl⟩, ⟨⟨_, rfl, rfl⟩, ⟨⟨_, rfl, rfl⟩, ⟨⟨_, rfl, rfl⟩, ⟨⟨_, rfl, rfl⟩, ⟨⟨_, rfl, rfl⟩, ⟨⟨_, rfl, rfl⟩, trivial⟩⟩⟩⟩⟩⟩⟩⟩⟩⟩⟩⟩⟩⟩⟩⟩⟩⟩⟩⟩⟩⟩⟩⟩⟩⟩⟩⟩⟩⟩⟩ rfl ?_
  refine J_if_ne (pc := 4) (tgt := 10) C 2 rfl rfl (fun c2 => ?_) (fun c2 => ?_)
  · rw [if_neg c2] at h
    refine J_aload_n (pc := 10) C 5 rfl 0 rfl rfl ?_
    refine J_get (pc := 11) (v := .ref aB) C 6 rfl TB_l4 rfl 0 6 rfl (by decide) k208 rfl rfl ?_
    refine J_iload_n (pc := 14) C 7 rfl 1 rfl rfl ?_
    obtain ⟨g3, h⟩ := gd_some h
    by_cases c4 : x1 = (0 : Int32)
    · rw [if_pos c4] at h
      refine J_aald (pc := 15) (v := ((sA 0) 0)) (f := fun i => some (sA i 0)) C 8 rfl 10 rfl g3 (by rw [c4]; rfl) ?_
      refine J_aload_n (pc := 16) C 9 rfl 0 rfl rfl ?_
      refine J_get (pc := 17) (v := .ref (aS 0)) C 10 rfl TB_l4 rfl 0 1 rfl (by decide) k197 rfl rfl ?_
      obtain ⟨q5, hq5, h⟩ := bnd h
      refine J_callV (pc := 20) (st2 := []) (st3 := []) (ws2 := (wEx aX (aT 0) (aT2 0) (aS 0) (aS2 0) (aP 0) (aH 0) aB aU ++ (wSch G aS (vS 0) (vS 1) (vS 2) (vS 3) (vS 4) (vS 5) (vS 6) (vS 7) (vS 8 0) (vS 9 0) ++ (wSlots G aB sA (up1 sV 0 q5) ++ (wUsed G aU (vU 0)))))) C 11 rfl (c_X2_copyFrom (sA 0) aS (sV 0) vS hq5) V_X2_copyFrom k325 i_X2_copyFrom s_X2_copyFrom rfl rfl ⟨Nat.le_of_ble_eq_true rfl, Nat.le_of_ble_eq_true rfl⟩ (Nat.le_of_ble_eq_true rfl) ⟨Nat.le_refl _, Nat.le_refl _⟩ 11 2 rfl rfl rfl (isC := [11, 12, 13, 14, 15, 16, 17, 18, 19, 1, 2, 3, 4, 5, 6, 7, 8, 9]) (isR := [0, 10, 20, 21, 22, 23, 24, 25, 26, 27, 28, 29]) (N := 30) ⟨rfl, by decide +kernel, rfl, by decide +kernel, rfl, ⟨⟨_, rfl, rfl⟩, ⟨⟨_, rfl, rfl⟩, ⟨⟨_, rfl, rfl⟩, ⟨⟨_, rfl, rfl⟩, ⟨⟨_, rfl, rfl⟩, ⟨⟨_, rfl, rfl⟩, ⟨⟨_, rfl, rfl⟩, ⟨⟨_, rfl, rfl⟩, ⟨⟨_, rfl, rfl⟩, ⟨⟨_, rfl, rfl⟩, ⟨⟨_, rfl, rfl⟩, ⟨⟨_, rfl, rfl⟩, trivial⟩⟩⟩⟩⟩⟩⟩⟩⟩⟩⟩⟩⟩ rfl ?_
      refine J_aload_n (pc := 23) C 12 rfl 0 rfl rfl ?_
      refine J_get (pc := 24) (v := .ref aU) C 13 rfl TB_l4 rfl 0 7 rfl (by decide) k209 rfl rfl ?_
      refine J_iload_n (pc := 27) C 14 rfl 1 rfl rfl ?_
      refine J_iconst (pc := 28) (v := (1 : Int32)) C 15 rfl rfl ?_
      obtain ⟨g6, h⟩ := gd_some h
      refine J_zast (pc := 29) (f := (vU 0)) (m := (Int32.toNatClampNeg x1)) C 16 (fun mm vv => (wEx aX (aT 0) (aT2 0) (aS 0) (aS2 0) (aP 0) (aH 0) aB aU ++ (wSch G aS (vS 0) (vS 1) (vS 2) (vS 3) (vS 4) (vS 5) (vS 6) (vS 7) (vS 8 0) (vS 9 0) ++ (wSlots G aB sA (up1 sV 0 q5) ++ (wUsed G aU (upd (vU 0) mm vv)))))) rfl 29 rfl g6 rfl rfl (fun _ _ => rfl) ?_
      refine J_aload_n (pc := 30) C 17 rfl 0 rfl rfl ?_
      refine J_get (pc := 31) (v := .ref (aS 0)) C 18 rfl TB_l4 rfl 0 1 rfl (by decide) k197 rfl rfl ?_
      refine J_get (pc := 34) (v := .int (vS 8 0)) C 19 rfl TB_l2 rfl 1 8 rfl (by decide) k237 rfl rfl ?_
      cases h
      exact J_iret (pc := 37) C 20 rfl
    · rw [if_neg c4] at h
      by_cases c7 : x1 = (1 : Int32)
      · rw [if_pos c7] at h
        refine J_aald (pc := 15) (v := ((sA 1) 0)) (f := fun i => some (sA i 0)) C 8 rfl 10 rfl g3 (by rw [c7]; rfl) ?_
        refine J_aload_n (pc := 16) C 9 rfl 0 rfl rfl ?_
        refine J_get (pc := 17) (v := .ref (aS 0)) C 10 rfl TB_l4 rfl 0 1 rfl (by decide) k197 rfl rfl ?_
        obtain ⟨q8, hq8, h⟩ := bnd h
        refine J_callV (pc := 20) (st2 := []) (st3 := []) (ws2 := (wEx aX (aT 0) (aT2 0) (aS 0) (aS2 0) (aP 0) (aH 0) aB aU ++ (wSch G aS (vS 0) (vS 1) (vS 2) (vS 3) (vS 4) (vS 5) (vS 6) (vS 7) (vS 8 0) (vS 9 0) ++ (wSlots G aB sA (up1 sV 1 q8) ++ (wUsed G aU (vU 0)))))) C 11 rfl (c_X2_copyFrom (sA 1) aS (sV 1) vS hq8) V_X2_copyFrom k325 i_X2_copyFrom s_X2_copyFrom rfl rfl ⟨Nat.le_of_ble_eq_true rfl, Nat.le_of_ble_eq_true rfl⟩ (Nat.le_of_ble_eq_true rfl) ⟨Nat.le_refl _, Nat.le_refl _⟩ 20 2 rfl rfl rfl (isC := [20, 21, 22, 23, 24, 25, 26, 27, 28, 1, 2, 3, 4, 5, 6, 7, 8, 9]) (isR := [0, 10, 11, 12, 13, 14, 15, 16, 17, 18, 19, 29]) (N := 30) ⟨rfl, by decide +kernel, rfl, by decide +kernel, rfl, ⟨⟨_, rfl, rfl⟩, ⟨⟨_, rfl, rfl⟩, ⟨⟨_, rfl, rfl⟩, ⟨⟨_, rfl, rfl⟩, ⟨⟨_, rfl, rfl⟩, ⟨⟨_, rfl, rfl⟩, ⟨⟨_, rfl, rfl⟩, ⟨⟨_, rfl, rfl⟩, ⟨⟨_, rfl, rfl⟩, ⟨⟨_, rfl, rfl⟩, ⟨⟨_, rfl, rfl⟩, ⟨⟨_, rfl, rfl⟩, trivial⟩⟩⟩⟩⟩⟩⟩⟩⟩⟩⟩⟩⟩ rfl ?_
        refine J_aload_n (pc := 23) C 12 rfl 0 rfl rfl ?_
        refine J_get (pc := 24) (v := .ref aU) C 13 rfl TB_l4 rfl 0 7 rfl (by decide) k209 rfl rfl ?_
        refine J_iload_n (pc := 27) C 14 rfl 1 rfl rfl ?_
        refine J_iconst (pc := 28) (v := (1 : Int32)) C 15 rfl rfl ?_
        obtain ⟨g9, h⟩ := gd_some h
        refine J_zast (pc := 29) (f := (vU 0)) (m := (Int32.toNatClampNeg x1)) C 16 (fun mm vv => (wEx aX (aT 0) (aT2 0) (aS 0) (aS2 0) (aP 0) (aH 0) aB aU ++ (wSch G aS (vS 0) (vS 1) (vS 2) (vS 3) (vS 4) (vS 5) (vS 6) (vS 7) (vS 8 0) (vS 9 0) ++ (wSlots G aB sA (up1 sV 1 q8) ++ (wUsed G aU (upd (vU 0) mm vv)))))) rfl 29 rfl g9 rfl rfl (fun _ _ => rfl) ?_
        refine J_aload_n (pc := 30) C 17 rfl 0 rfl rfl ?_
        refine J_get (pc := 31) (v := .ref (aS 0)) C 18 rfl TB_l4 rfl 0 1 rfl (by decide) k197 rfl rfl ?_
        refine J_get (pc := 34) (v := .int (vS 8 0)) C 19 rfl TB_l2 rfl 1 8 rfl (by decide) k237 rfl rfl ?_
        cases h
        exact J_iret (pc := 37) C 20 rfl
      · rw [if_neg c7] at h
        cases h
  · rw [if_pos c2] at h
    refine J_bipush (pc := 7) (v := (-2 : Int32)) C 3 rfl rfl ?_
    cases h
    exact J_iret (pc := 9) C 4 rfl
def T_X4_restore : List (Nat × ClassFile.Instr × Nat) := [(0, .iload_n 1, 1), (1, .invokestatic 247, 3), (4, .ifCond .ne 6, 3), (7, .bipush (-2), 2), (9, .ireturn, 1), (10, .aload_n 0, 1), (11, .getfield 48, 3), (14, .iload_n 1, 1), (15, .baload, 1), (16, .ifCond .ne 6, 3), (19, .bipush (-5), 2), (21, .ireturn, 1), (22, .aload_n 0, 1), (23, .getfield 37, 3), (26, .aload_n 0, 1), (27, .getfield 20, 3), (30, .invokevirtual 66, 3), (33, .aload_n 0, 1), (34, .getfield 20, 3), (37, .aload_n 0, 1), (38, .getfield 44, 3), (41, .iload_n 1, 1), (42, .aaload, 1), (43, .invokevirtual 230, 3), (46, .aload_n 0, 1), (47, .getfield 12, 3), (50, .invokevirtual 52, 3), (53, .aload_n 0, 1), (54, .getfield 20, 3), (57, .getfield 87, 3), (60, .ireturn, 1)]
theorem D_X4_restore : ∀ q ∈ T_X4_restore, decode cX4_restore q.1 = .ok q.2 := by decide +kernel
theorem V_X4_restore : Vy yX4_restore cX4_restore 2 (some .int) 1 := ⟨k339, k56, by decide +kernel⟩
theorem i_X4_restore : Cond.instanceMethod yX4_restore ∈ TB := k417
theorem s_X4_restore : Cond.selects yX4_restore.cls yX4_restore yX4_restore ∈ TB := k418
noncomputable def f_X4_restore (vT : JV) (vS : JV) (hA : Nat → Nat → Nat) (hV : Nat → JV) (hZ : JV) (sV : Nat → JV) (vU : JV) (x1 : Int32) : Option (Int32 × JV × JV × (Nat → Nat → Nat) × (Nat → JV) × JV) :=
  (f_X4_isSlot x1).bind (fun q1 => (if q1 = 0 then some ((-2 : Int32), vT, vS, hA, hV, hZ) else gd (inb x1 2) ((if ((vU 0) (Int32.toNatClampNeg x1)) = 0 then some ((-5 : Int32), vT, vS, hA, hV, hZ) else (f_X0_remember vS hA hV hZ).bind (fun q5 => gd (inb x1 2) ((if x1 = (0 : Int32) then (f_X2_copyFrom vS (sV 0)).bind (fun q8 => (f_X3_seatAll vT q8).bind (fun q9 => some ((q8 8 0), q9, q8, (q5.1), (q5.2.1), (q5.2.2)))) else (if x1 = (1 : Int32) then (f_X2_copyFrom vS (sV 1)).bind (fun q11 => (f_X3_seatAll vT q11).bind (fun q12 => some ((q11 8 0), q12, q11, (q5.1), (q5.2.1), (q5.2.2)))) else none))))))))
set_option maxRecDepth 100000 in
set_option maxHeartbeats 4000000 in
theorem c_X4_restore {l : Launch} {G : JG} (aX : Nat) (aT : Nat → Nat) (aS : Nat → Nat) (aT2 : Nat → Nat) (aS2 : Nat → Nat) (aP : Nat → Nat) (aH : Nat → Nat) (aB : Nat) (aU : Nat) (sA : Nat → Nat → Nat) (vT : JV) (vS : JV) (hA : Nat → Nat → Nat) (hV : Nat → JV) (hZ : JV) (sV : Nat → JV) (vU : JV) (x1 : Int32) {Rz : Int32 × JV × JV × (Nat → Nat → Nat) × (Nat → JV) × JV} (h : f_X4_restore vT vS hA hV hZ sV vU x1 = some Rz) : JM l G yX4_restore cX4_restore 2 (some .int) 6 141 [.ref aX, .int x1] (wEx aX (aT 0) (aT2 0) (aS 0) (aS2 0) (aP 0) (aH 0) aB aU ++ (wSeat G aT (aS 0) (vT 1) (vT 2) (vT 3) (vT 4 0) (vT 5 0) (vT 6) (vT 7) (vT 8) ++ (wSch G aS (vS 0) (vS 1) (vS 2) (vS 3) (vS 4) (vS 5) (vS 6) (vS 7) (vS 8 0) (vS 9 0) ++ (wHis G aH hA hV (hZ 1 0) ++ (wSlots G aB sA sV ++ (wUsed G aU (vU 0))))))) (wEx aX (aT 0) (aT2 0) (aS 0) (aS2 0) (aP 0) (aH 0) aB aU ++ (wSeat G aT (aS 0) ((Rz.2.1) 1) ((Rz.2.1) 2) ((Rz.2.1) 3) ((Rz.2.1) 4 0) ((Rz.2.1) 5 0) ((Rz.2.1) 6) ((Rz.2.1) 7) ((Rz.2.1) 8) ++ (wSch G aS ((Rz.2.2.1) 0) ((Rz.2.2.1) 1) ((Rz.2.2.1) 2) ((Rz.2.2.1) 3) ((Rz.2.2.1) 4) ((Rz.2.2.1) 5) ((Rz.2.2.1) 6) ((Rz.2.2.1) 7) ((Rz.2.2.1) 8 0) ((Rz.2.2.1) 9 0) ++ (wHis G aH (Rz.2.2.2.1) (Rz.2.2.2.2.1) ((Rz.2.2.2.2.2) 1 0) ++ (wSlots G aB sA sV ++ (wUsed G aU (vU 0))))))) (some (.int (Rz.1))) := by
  refine JM.of (own := RX4) (tb := T_X4_restore) (by decide) (Nat.le_of_ble_eq_true rfl) D_X4_restore rfl (fun X C => ?_)
  refine J_sub (lv' := [(0, .ref aX), (1, .int x1)]) [0, 1] rfl ?_
  unfold f_X4_restore at h
  refine J_iload_n (pc := 0) C 0 rfl 1 rfl rfl ?_
  obtain ⟨q1, hq1, h⟩ := bnd h
  refine J_callS (pc := 1) (st2 := []) (st3 := [.int q1]) (ws2 := (wEx aX (aT 0) (aT2 0) (aS 0) (aS2 0) (aP 0) (aH 0) aB aU ++ (wSeat G aT (aS 0) (vT 1) (vT 2) (vT 3) (vT 4 0) (vT 5 0) (vT 6) (vT 7) (vT 8) ++ (wSch G aS (vS 0) (vS 1) (vS 2) (vS 3) (vS 4) (vS 5) (vS 6) (vS 7) (vS 8 0) (vS 9 0) ++ (wHis G aH hA hV (hZ 1 0) ++ (wSlots G aB sA sV ++ (wUsed G aU (vU 0)))))))) C 1 rfl (c_X4_isSlot x1 hq1) V_X4_isSlot k336 t_X4_isSlot rfl rfl ⟨Nat.le_of_ble_eq_true rfl, Nat.le_of_ble_eq_true rfl⟩ (Nat.le_of_ble_eq_true rfl) ⟨Nat.le_refl _, Nat.le_refl _⟩ (isC := []) (isR := [0, 1, 2, 3, 4, 5, 6, 7, 8, 9, 10, 11, 12, 13, 14, 15, 16, 17, 18, 19, 20, 21, 22, 23, 24, 25, 26, 27, 28, 29, 30, 31, 32, 33, 34, 35, 36, 37, 38, 39, 40, 41, 42, 43, 44, 45, 46, 47, 48, 49, 50, 51, 52, 53, 54, 55, 56, 57, 58, 59, 60, 61, 62, 63, 64, 65, 66, 67, 68, 69, 70, 71, 72, 73, 74, 75, 76, 77, 78, 79, 80, 81, 82, 83, 84, 85, 86, 87, 88, 89, 90, 91, 92]) (N := 93) ⟨rfl, by decide +kernel, rfl, by decide +kernel, rfl, ⟨⟨_, rfl, rfl⟩, ⟨⟨_, rfl, rfl⟩, ⟨⟨_, rfl, rfl⟩, ⟨⟨_, rfl, rfl⟩, ⟨⟨_, rfl, rfl⟩, ⟨⟨_, rfl, rfl⟩, ⟨⟨_, rfl, rfl⟩, ⟨⟨_, rfl, rfl⟩, ⟨⟨_, rfl, rfl⟩, ⟨⟨_, rfl, rfl⟩, ⟨⟨_, rfl, rfl⟩, ⟨⟨_, rfl, rfl⟩, ⟨⟨_, rfl, rfl⟩, ⟨⟨_, rfl, rfl⟩, ⟨⟨_, rfl, rfl⟩, ⟨⟨_, rfl, rfl⟩, ⟨⟨_, rfl, rfl⟩, ⟨⟨_, rfl, rfl⟩, ⟨⟨_, rfl, rfl⟩, ⟨⟨_, rfl, rfl⟩, ⟨⟨_, rfl, rfl⟩, ⟨⟨_, rfl, rfl⟩, ⟨⟨_, rfl, rfl⟩, ⟨⟨_, rfl, rfl⟩, ⟨⟨_, rfl, rfl⟩, ⟨⟨_, rfl, rfl⟩, ⟨⟨_, rfl, rfl⟩, ⟨⟨_, rfl, rfl⟩, ⟨⟨_, rfl, rfl⟩, ⟨⟨_, rfl, rfl⟩, ⟨⟨_, rfl, rfl⟩, ⟨⟨_, rfl, rfl⟩, ⟨⟨_, rfl, rfl⟩, ⟨⟨_, rfl, rfl⟩, ⟨⟨_, rfl, rfl⟩, ⟨⟨_, rfl, rfl⟩, ⟨⟨_, rfl, rfl⟩, ⟨⟨_, rfl, rfl⟩, ⟨⟨_, rfl, rfl⟩, ⟨⟨_, rfl, rfl⟩, ⟨⟨_, rfl, rfl⟩, ⟨⟨_, rfl, rfl⟩, ⟨⟨_, rfl, rfl⟩, ⟨⟨_, rfl, rfl⟩, ⟨⟨_, rfl, rfl⟩, ⟨⟨_, rfl, rfl⟩, ⟨⟨_, rfl, rfl⟩, ⟨⟨_, rfl, rfl⟩, ⟨⟨_, rfl, rfl⟩, ⟨⟨_, rfl, rfl⟩, ⟨⟨_, rfl, rfl⟩, ⟨⟨_, rfl, rfl⟩, ⟨⟨_, rfl, rfl⟩, ⟨⟨_, rfl, rfl⟩, ⟨⟨_, rfl, rfl⟩, ⟨⟨_, rfl, rfl⟩, ⟨⟨_, rfl, rfl⟩, ⟨⟨_, rfl, rfl⟩, ⟨⟨_, rfl, rfl⟩, ⟨⟨_, rfl, rfl⟩, ⟨⟨_, rfl, rfl⟩, ⟨⟨_, rfl, rfl⟩, ⟨⟨_, rfl, rfl⟩, ⟨⟨_, rfl, rfl⟩, ⟨⟨_, rfl, rfl⟩, ⟨⟨_, rfl, rfl⟩, ⟨⟨_, rfl, rfl⟩, ⟨⟨_, rfl, rfl⟩, ⟨⟨_, rfl, rfl⟩, ⟨⟨_, rfl, rfl⟩, ⟨⟨_, rfl, rfl⟩, ⟨⟨_, rfl, rfl⟩, ⟨⟨_, rfl, rfl⟩, ⟨⟨_, rfl, rfl⟩, ⟨⟨_, rfl, rfl⟩, ⟨⟨_, rfl, rfl⟩, ⟨⟨_, rfl, rfl⟩, ⟨⟨_, rfl, rfl⟩, ⟨⟨_, rfl, rfl⟩, ⟨⟨_, rfl, rfl⟩, ⟨⟨_, rfl, rfl⟩, ⟨⟨_, rfl, rfl⟩, ⟨⟨_, rfl, rfl⟩, ⟨⟨_, rfl, rfl⟩, ⟨⟨_, rfl, rfl⟩, ⟨⟨_, rfl, rfl⟩, ⟨⟨_, rfl, rfl⟩, ⟨⟨_, rfl, rfl⟩, ⟨⟨_, rfl, rfl⟩, ⟨⟨_, rfl, rfl⟩, ⟨⟨_, rfl, rfl⟩, ⟨⟨_, rfl, rfl⟩, ⟨⟨_, rfl, rfl⟩, trivial⟩⟩⟩⟩⟩⟩⟩⟩⟩⟩⟩⟩⟩⟩⟩⟩⟩⟩⟩⟩⟩⟩⟩⟩⟩⟩⟩⟩⟩⟩⟩⟩⟩⟩⟩⟩⟩⟩⟩⟩⟩⟩⟩⟩⟩⟩⟩⟩⟩⟩⟩⟩⟩⟩⟩⟩⟩⟩⟩⟩⟩⟩⟩⟩⟩⟩⟩⟩⟩⟩⟩⟩⟩⟩⟩⟩⟩⟩⟩⟩⟩⟩⟩⟩⟩⟩⟩⟩⟩⟩⟩⟩⟩⟩ rfl ?_
  refine J_if_ne (pc := 4) (tgt := 10) C 2 rfl rfl (fun c2 => ?_) (fun c2 => ?_)
  · rw [if_neg c2] at h
    refine J_aload_n (pc := 10) C 5 rfl 0 rfl rfl ?_
    refine J_get (pc := 11) (v := .ref aU) C 6 rfl TB_l4 rfl 0 7 rfl (by decide) k209 rfl rfl ?_
    refine J_iload_n (pc := 14) C 7 rfl 1 rfl rfl ?_
    obtain ⟨g3, h⟩ := gd_some h
    refine J_zald (pc := 15) (f := (vU 0)) (v := ((vU 0) (Int32.toNatClampNeg x1))) C 8 rfl 92 rfl g3 rfl ?_
    refine J_if_ne (pc := 16) (tgt := 22) C 9 rfl rfl (fun c4 => ?_) (fun c4 => ?_)
    · rw [if_neg c4] at h
      refine J_aload_n (pc := 22) C 12 rfl 0 rfl rfl ?_
      refine J_get (pc := 23) (v := .ref (aH 0)) C 13 rfl TB_l4 rfl 0 5 rfl (by decide) k206 rfl rfl ?_
      refine J_aload_n (pc := 26) C 14 rfl 0 rfl rfl ?_
      refine J_get (pc := 27) (v := .ref (aS 0)) C 15 rfl TB_l4 rfl 0 1 rfl (by decide) k197 rfl rfl ?_
      obtain ⟨q5, hq5, h⟩ := bnd h
      refine J_callV (pc := 30) (st2 := []) (st3 := []) (ws2 := (wEx aX (aT 0) (aT2 0) (aS 0) (aS2 0) (aP 0) (aH 0) aB aU ++ (wSeat G aT (aS 0) (vT 1) (vT 2) (vT 3) (vT 4 0) (vT 5 0) (vT 6) (vT 7) (vT 8) ++ (wSch G aS (vS 0) (vS 1) (vS 2) (vS 3) (vS 4) (vS 5) (vS 6) (vS 7) (vS 8 0) (vS 9 0) ++ (wHis G aH (q5.1) (q5.2.1) ((q5.2.2) 1 0) ++ (wSlots G aB sA sV ++ (wUsed G aU (vU 0)))))))) C 16 rfl (c_X0_remember aS aH vS hA hV hZ hq5) V_X0_remember k223 i_X0_remember s_X0_remember rfl rfl ⟨Nat.le_of_ble_eq_true rfl, Nat.le_of_ble_eq_true rfl⟩ (Nat.le_of_ble_eq_true rfl) ⟨Nat.le_refl _, Nat.le_refl _⟩ 17 0 rfl rfl rfl (isC := [8, 9, 10, 11, 12, 13, 14, 15, 16, 17, 18, 19, 20, 21, 22, 23, 24, 25, 26, 27, 28, 29, 30, 31, 32, 33, 34, 35, 36, 37, 38, 39, 40, 41, 42, 43, 44, 45, 46, 47, 48, 49, 50, 51, 52, 53, 54, 55, 56, 57, 58, 59, 60, 61, 62, 63, 64, 65, 66, 67, 68, 69, 70, 71, 72]) (isR := [0, 1, 2, 3, 4, 5, 6, 7, 73, 74, 75, 76, 77, 78, 79, 80, 81, 82, 83, 84, 85, 86, 87, 88, 89, 90, 91, 92]) (N := 93) ⟨rfl, by decide +kernel, rfl, by decide +kernel, rfl, ⟨⟨_, rfl, rfl⟩, ⟨⟨_, rfl, rfl⟩, ⟨⟨_, rfl, rfl⟩, ⟨⟨_, rfl, rfl⟩, ⟨⟨_, rfl, rfl⟩, ⟨⟨_, rfl, rfl⟩, ⟨⟨_, rfl, rfl⟩, ⟨⟨_, rfl, rfl⟩, ⟨⟨_, rfl, rfl⟩, ⟨⟨_, rfl, rfl⟩, ⟨⟨_, rfl, rfl⟩, ⟨⟨_, rfl, rfl⟩, ⟨⟨_, rfl, rfl⟩, ⟨⟨_, rfl, rfl⟩, ⟨⟨_, rfl, rfl⟩, ⟨⟨_, rfl, rfl⟩, ⟨⟨_, rfl, rfl⟩, ⟨⟨_, rfl, rfl⟩, ⟨⟨_, rfl, rfl⟩, ⟨⟨_, rfl, rfl⟩, ⟨⟨_, rfl, rfl⟩, ⟨⟨_, rfl, rfl⟩, ⟨⟨_, rfl, rfl⟩, ⟨⟨_, rfl, rfl⟩, ⟨⟨_, rfl, rfl⟩, ⟨⟨_, rfl, rfl⟩, ⟨⟨_, rfl, rfl⟩, ⟨⟨_, rfl, rfl⟩, trivial⟩⟩⟩⟩⟩⟩⟩⟩⟩⟩⟩⟩⟩⟩⟩⟩⟩⟩⟩⟩⟩⟩⟩⟩⟩⟩⟩⟩⟩ rfl ?_
      refine J_aload_n (pc := 33) C 17 rfl 0 rfl rfl ?_
      refine J_get (pc := 34) (v := .ref (aS 0)) C 18 rfl TB_l4 rfl 0 1 rfl (by decide) k197 rfl rfl ?_
      refine J_aload_n (pc := 37) C 19 rfl 0 rfl rfl ?_
      refine J_get (pc := 38) (v := .ref aB) C 20 rfl TB_l4 rfl 0 6 rfl (by decide) k208 rfl rfl ?_
      refine J_iload_n (pc := 41) C 21 rfl 1 rfl rfl ?_
      obtain ⟨g6, h⟩ := gd_some h
      by_cases c7 : x1 = (0 : Int32)
      · rw [if_pos c7] at h
        refine J_aald (pc := 42) (v := ((sA 0) 0)) (f := fun i => some (sA i 0)) C 22 rfl 73 rfl g6 (by rw [c7]; rfl) ?_
        obtain ⟨q8, hq8, h⟩ := bnd h
        refine J_callV (pc := 43) (st2 := []) (st3 := []) (ws2 := (wEx aX (aT 0) (aT2 0) (aS 0) (aS2 0) (aP 0) (aH 0) aB aU ++ (wSeat G aT (aS 0) (vT 1) (vT 2) (vT 3) (vT 4 0) (vT 5 0) (vT 6) (vT 7) (vT 8) ++ (wSch G aS (q8 0) (q8 1) (q8 2) (q8 3) (q8 4) (q8 5) (q8 6) (q8 7) (q8 8 0) (q8 9 0) ++ (wHis G aH (q5.1) (q5.2.1) ((q5.2.2) 1 0) ++ (wSlots G aB sA sV ++ (wUsed G aU (vU 0)))))))) C 23 rfl (c_X2_copyFrom aS (sA 0) vS (sV 0) hq8) V_X2_copyFrom k325 i_X2_copyFrom s_X2_copyFrom rfl rfl ⟨Nat.le_of_ble_eq_true rfl, Nat.le_of_ble_eq_true rfl⟩ (Nat.le_of_ble_eq_true rfl) ⟨Nat.le_refl _, Nat.le_refl _⟩ 8 2 rfl rfl rfl (isC := [8, 9, 10, 11, 12, 13, 14, 15, 16, 74, 75, 76, 77, 78, 79, 80, 81, 82]) (isR := [0, 1, 2, 3, 4, 5, 6, 7, 17, 18, 19, 20, 21, 22, 23, 24, 25, 26, 27, 28, 29, 30, 31, 32, 33, 34, 35, 36, 37, 38, 39, 40, 41, 42, 43, 44, 45, 46, 47, 48, 49, 50, 51, 52, 53, 54, 55, 56, 57, 58, 59, 60, 61, 62, 63, 64, 65, 66, 67, 68, 69, 70, 71, 72, 73, 83, 84, 85, 86, 87, 88, 89, 90, 91, 92]) (N := 93) ⟨rfl, by decide +kernel, rfl, by decide +kernel, rfl, ⟨⟨_, rfl, rfl⟩, ⟨⟨_, rfl, rfl⟩, ⟨⟨_, rfl, rfl⟩, ⟨⟨_, rfl, rfl⟩, ⟨⟨_, rfl, rfl⟩, ⟨⟨_, rfl, rfl⟩, ⟨⟨_, rfl, rfl⟩, ⟨⟨_, rfl, rfl⟩, ⟨⟨_, rfl, rfl⟩, ⟨⟨_, rfl, rfl⟩, ⟨⟨_, rfl, rfl⟩, ⟨⟨_, rfl, rfl⟩, ⟨⟨_, rfl, rfl⟩, ⟨⟨_, rfl, rfl⟩, ⟨⟨_, rfl, rfl⟩, ⟨⟨_, rfl, rfl⟩, ⟨⟨_, rfl, rfl⟩, ⟨⟨_, rfl, rfl⟩, ⟨⟨_, rfl, rfl⟩, ⟨⟨_, rfl, rfl⟩, ⟨⟨_, rfl, rfl⟩, ⟨⟨_, rfl, rfl⟩, ⟨⟨_, rfl, rfl⟩, ⟨⟨_, rfl, rfl⟩, ⟨⟨_, rfl, rfl⟩, ⟨⟨_, rfl, rfl⟩, ⟨⟨_, rfl, rfl⟩, ⟨⟨_, rfl, rfl⟩, ⟨⟨_, rfl, rfl⟩, ⟨⟨_, rfl, rfl⟩, ⟨⟨_, rfl, rfl⟩, ⟨⟨_, rfl, rfl⟩, ⟨⟨_, rfl, rfl⟩, ⟨⟨_, rfl, rfl⟩, ⟨⟨_, rfl, rfl⟩, ⟨⟨_, rfl, rfl⟩, ⟨⟨_, rfl, rfl⟩, ⟨⟨_, rfl, rfl⟩, ⟨⟨_, rfl, rfl⟩, ⟨⟨_, rfl, rfl⟩, ⟨⟨_, rfl, rfl⟩, ⟨⟨_, rfl, rfl⟩, ⟨⟨_, rfl, rfl⟩, ⟨⟨_, rfl, rfl⟩, ⟨⟨_, rfl, rfl⟩, ⟨⟨_, rfl, rfl⟩, ⟨⟨_, rfl, rfl⟩, ⟨⟨_, rfl, rfl⟩, ⟨⟨_, rfl, rfl⟩, ⟨⟨_, rfl, rfl⟩, ⟨⟨_, rfl, rfl⟩, ⟨⟨_, rfl, rfl⟩, ⟨⟨_, rfl, rfl⟩, ⟨⟨_, rfl, rfl⟩, ⟨⟨_, rfl, rfl⟩, ⟨⟨_, rfl, rfl⟩, ⟨⟨_, rfl, rfl⟩, ⟨⟨_, rfl, rfl⟩, ⟨⟨_, rfl, rfl⟩, ⟨⟨_, rfl, rfl⟩, ⟨⟨_, rfl, rfl⟩, ⟨⟨_, rfl, rfl⟩, ⟨⟨_, rfl, rfl⟩, ⟨⟨_, rfl, rfl⟩, ⟨⟨_, rfl, rfl⟩, ⟨⟨_, rfl, rfl⟩, ⟨⟨_, rfl, rfl⟩, ⟨⟨_, rfl, rfl⟩, ⟨⟨_, rfl, rfl⟩, ⟨⟨_, rfl, rfl⟩, ⟨⟨_, rfl, rfl⟩, ⟨⟨_, rfl, rfl⟩, ⟨⟨_, rfl, rfl⟩, ⟨⟨_, rfl, rfl⟩, ⟨⟨_, rfl, rfl⟩, trivial⟩⟩⟩⟩⟩⟩⟩⟩⟩⟩⟩⟩⟩⟩⟩⟩⟩⟩⟩⟩⟩⟩⟩⟩⟩⟩⟩⟩⟩⟩⟩⟩⟩⟩⟩⟩⟩⟩⟩⟩⟩⟩⟩⟩⟩⟩⟩⟩⟩⟩⟩⟩⟩⟩⟩⟩⟩⟩⟩⟩⟩⟩⟩⟩⟩⟩⟩⟩⟩⟩⟩⟩⟩⟩⟩⟩ rfl ?_
        refine J_aload_n (pc := 46) C 24 rfl 0 rfl rfl ?_
        refine J_get (pc := 47) (v := .ref (aT 0)) C 25 rfl TB_l4 rfl 0 0 rfl (by decide) k195 rfl rfl ?_
        obtain ⟨q9, hq9, h⟩ := bnd h
        refine J_callV (pc := 50) (st2 := []) (st3 := []) (ws2 := (wEx aX (aT 0) (aT2 0) (aS 0) (aS2 0) (aP 0) (aH 0) aB aU ++ (wSeat G aT (aS 0) (q9 1) (q9 2) (q9 3) (q9 4 0) (q9 5 0) (q9 6) (q9 7) (q9 8) ++ (wSch G aS (q8 0) (q8 1) (q8 2) (q8 3) (q8 4) (q8 5) (q8 6) (q8 7) (q8 8 0) (q8 9 0) ++ (wHis G aH (q5.1) (q5.2.1) ((q5.2.2) 1 0) ++ (wSlots G aB sA sV ++ (wUsed G aU (vU 0)))))))) C 26 rfl (c_X3_seatAll aT aS vT q8 hq9) V_X3_seatAll k214 i_X3_seatAll s_X3_seatAll rfl rfl ⟨Nat.le_of_ble_eq_true rfl, Nat.le_of_ble_eq_true rfl⟩ (Nat.le_of_ble_eq_true rfl) ⟨Nat.le_refl _, Nat.le_refl _⟩ 1 3 rfl rfl rfl (isC := [1, 2, 3, 4, 5, 6, 7, 8, 9, 10, 11, 12, 13, 14, 15, 16]) (isR := [0, 17, 18, 19, 20, 21, 22, 23, 24, 25, 26, 27, 28, 29, 30, 31, 32, 33, 34, 35, 36, 37, 38, 39, 40, 41, 42, 43, 44, 45, 46, 47, 48, 49, 50, 51, 52, 53, 54, 55, 56, 57, 58, 59, 60, 61, 62, 63, 64, 65, 66, 67, 68, 69, 70, 71, 72, 73, 74, 75, 76, 77, 78, 79, 80, 81, 82, 83, 84, 85, 86, 87, 88, 89, 90, 91, 92]) (N := 93) ⟨rfl, by decide +kernel, rfl, by decide +kernel, rfl, ⟨⟨_, rfl, rfl⟩, ⟨⟨_, rfl, rfl⟩, ⟨⟨_, rfl, rfl⟩, ⟨⟨_, rfl, rfl⟩, ⟨⟨_, rfl, rfl⟩, ⟨⟨_, rfl, rfl⟩, ⟨⟨_, rfl, rfl⟩, ⟨⟨_, rfl, rfl⟩, ⟨⟨_, rfl, rfl⟩, ⟨⟨_, rfl, rfl⟩, ⟨⟨_, rfl, rfl⟩, ⟨⟨_, rfl, rfl⟩, ⟨⟨_, rfl, rfl⟩, ⟨⟨_, rfl, rfl⟩, ⟨⟨_, rfl, rfl⟩, ⟨⟨_, rfl, rfl⟩, ⟨⟨_, rfl, rfl⟩, ⟨⟨_, rfl, rfl⟩, ⟨⟨_, rfl, rfl⟩, ⟨⟨_, rfl, rfl⟩, ⟨⟨_, rfl, rfl⟩, ⟨⟨_, rfl, rfl⟩, ⟨⟨_, rfl, rfl⟩, ⟨⟨_, rfl, rfl⟩, ⟨⟨_, rfl, rfl⟩, ⟨⟨_, rfl, rfl⟩, ⟨⟨_, rfl, rfl⟩, ⟨⟨_, rfl, rfl⟩, ⟨⟨_, rfl, rfl⟩, ⟨⟨_, rfl, rfl⟩, ⟨⟨_, rfl, rfl⟩, ⟨⟨_, rfl, rfl⟩, ⟨⟨_, rfl, rfl⟩, ⟨⟨_, rfl, rfl⟩, ⟨⟨_, rfl, rfl⟩, ⟨⟨_, rfl, rfl⟩, ⟨⟨_, rfl, rfl⟩, ⟨⟨_, rfl, rfl⟩, ⟨⟨_, rfl, rfl⟩, ⟨⟨_, rfl, rfl⟩, ⟨⟨_, rfl, rfl⟩, ⟨⟨_, rfl, rfl⟩, ⟨⟨_, rfl, rfl⟩, ⟨⟨_, rfl, rfl⟩, ⟨⟨_, rfl, rfl⟩, ⟨⟨_, rfl, rfl⟩, ⟨⟨_, rfl, rfl⟩, ⟨⟨_, rfl, rfl⟩, ⟨⟨_, rfl, rfl⟩, ⟨⟨_, rfl, rfl⟩, ⟨⟨_, rfl, rfl⟩, ⟨⟨_, rfl, rfl⟩, ⟨⟨_, rfl, rfl⟩, ⟨⟨_, rfl, rfl⟩, ⟨⟨_, rfl, rfl⟩, ⟨⟨_, rfl, rfl⟩, ⟨⟨_, rfl, rfl⟩, ⟨⟨_, rfl, rfl⟩, ⟨⟨_, rfl, rfl⟩, ⟨⟨_, rfl, rfl⟩, ⟨⟨_, rfl, rfl⟩, ⟨⟨_, rfl, rfl⟩, ⟨⟨_, rfl, rfl⟩, ⟨⟨_, rfl, rfl⟩, ⟨⟨_, rfl, rfl⟩, ⟨⟨_, rfl, rfl⟩, ⟨⟨_, rfl, rfl⟩, ⟨⟨_, rfl, rfl⟩, ⟨⟨_, rfl, rfl⟩, ⟨⟨_, rfl, rfl⟩, ⟨⟨_, rfl, rfl⟩, ⟨⟨_, rfl, rfl⟩, ⟨⟨_, rfl, rfl⟩, ⟨⟨_, rfl, rfl⟩, ⟨⟨_, rfl, rfl⟩, ⟨⟨_, rfl, rfl⟩, ⟨⟨_, rfl, rfl⟩, trivial⟩⟩⟩⟩⟩⟩⟩⟩⟩⟩⟩⟩⟩⟩⟩⟩⟩⟩⟩⟩⟩⟩⟩⟩⟩⟩⟩⟩⟩⟩⟩⟩⟩⟩⟩⟩⟩⟩⟩⟩⟩⟩⟩⟩⟩⟩⟩⟩⟩⟩⟩⟩⟩⟩⟩⟩⟩⟩⟩⟩⟩⟩⟩⟩⟩⟩⟩⟩⟩⟩⟩⟩⟩⟩⟩⟩⟩⟩ rfl ?_
        refine J_aload_n (pc := 53) C 27 rfl 0 rfl rfl ?_
        refine J_get (pc := 54) (v := .ref (aS 0)) C 28 rfl TB_l4 rfl 0 1 rfl (by decide) k197 rfl rfl ?_
        refine J_get (pc := 57) (v := .int (q8 8 0)) C 29 rfl TB_l2 rfl 8 8 rfl (by decide) k237 rfl rfl ?_
        cases h
        exact J_iret (pc := 60) C 30 rfl
      · rw [if_neg c7] at h
        by_cases c10 : x1 = (1 : Int32)
        · rw [if_pos c10] at h
          refine J_aald (pc := 42) (v := ((sA 1) 0)) (f := fun i => some (sA i 0)) C 22 rfl 73 rfl g6 (by rw [c10]; rfl) ?_
          obtain ⟨q11, hq11, h⟩ := bnd h
          refine J_callV (pc := 43) (st2 := []) (st3 := []) (ws2 := (wEx aX (aT 0) (aT2 0) (aS 0) (aS2 0) (aP 0) (aH 0) aB aU ++ (wSeat G aT (aS 0) (vT 1) (vT 2) (vT 3) (vT 4 0) (vT 5 0) (vT 6) (vT 7) (vT 8) ++ (wSch G aS (q11 0) (q11 1) (q11 2) (q11 3) (q11 4) (q11 5) (q11 6) (q11 7) (q11 8 0) (q11 9 0) ++ (wHis G aH (q5.1) (q5.2.1) ((q5.2.2) 1 0) ++ (wSlots G aB sA sV ++ (wUsed G aU (vU 0)))))))) C 23 rfl (c_X2_copyFrom aS (sA 1) vS (sV 1) hq11) V_X2_copyFrom k325 i_X2_copyFrom s_X2_copyFrom rfl rfl ⟨Nat.le_of_ble_eq_true rfl, Nat.le_of_ble_eq_true rfl⟩ (Nat.le_of_ble_eq_true rfl) ⟨Nat.le_refl _, Nat.le_refl _⟩ 8 2 rfl rfl rfl (isC := [8, 9, 10, 11, 12, 13, 14, 15, 16, 83, 84, 85, 86, 87, 88, 89, 90, 91]) (isR := [0, 1, 2, 3, 4, 5, 6, 7, 17, 18, 19, 20, 21, 22, 23, 24, 25, 26, 27, 28, 29, 30, 31, 32, 33, 34, 35, 36, 37, 38, 39, 40, 41, 42, 43, 44, 45, 46, 47, 48, 49, 50, 51, 52, 53, 54, 55, 56, 57, 58, 59, 60, 61, 62, 63, 64, 65, 66, 67, 68, 69, 70, 71, 72, 73, 74, 75, 76, 77, 78, 79, 80, 81, 82, 92]) (N := 93) ⟨rfl, by decide +kernel, rfl, by decide +kernel, rfl, ⟨⟨_, rfl, rfl⟩, ⟨⟨_, rfl, rfl⟩, ⟨⟨_, rfl, rfl⟩, ⟨⟨_, rfl, rfl⟩, ⟨⟨_, rfl, rfl⟩, ⟨⟨_, rfl, rfl⟩, ⟨⟨_, rfl, rfl⟩, ⟨⟨_, rfl, rfl⟩, ⟨⟨_, rfl, rfl⟩, ⟨⟨_, rfl, rfl⟩, ⟨⟨_, rfl, rfl⟩, ⟨⟨_, rfl, rfl⟩, ⟨⟨_, rfl, rfl⟩, ⟨⟨_, rfl, rfl⟩, ⟨⟨_, rfl, rfl⟩, ⟨⟨_, rfl, rfl⟩, ⟨⟨_, rfl, rfl⟩, ⟨⟨_, rfl, rfl⟩, ⟨⟨_, rfl, rfl⟩, ⟨⟨_, rfl, rfl⟩, ⟨⟨_, rfl, rfl⟩, ⟨⟨_, rfl, rfl⟩, ⟨⟨_, rfl, rfl⟩, ⟨⟨_, rfl, rfl⟩, ⟨⟨_, rfl, rfl⟩, ⟨⟨_, rfl, rfl⟩, ⟨⟨_, rfl, rfl⟩, ⟨⟨_, rfl, rfl⟩, ⟨⟨_, rfl, rfl⟩, ⟨⟨_, rfl, rfl⟩, ⟨⟨_, rfl, rfl⟩, ⟨⟨_, rfl, rfl⟩, ⟨⟨_, rfl, rfl⟩, ⟨⟨_, rfl, rfl⟩, ⟨⟨_, rfl, rfl⟩, ⟨⟨_, rfl, rfl⟩, ⟨⟨_, rfl, rfl⟩, ⟨⟨_, rfl, rfl⟩, ⟨⟨_, rfl, rfl⟩, ⟨⟨_, rfl, rfl⟩, ⟨⟨_, rfl, rfl⟩, ⟨⟨_, rfl, rfl⟩, ⟨⟨_, rfl, rfl⟩, ⟨⟨_, rfl, rfl⟩, ⟨⟨_, rfl, rfl⟩, ⟨⟨_, rfl, rfl⟩, ⟨⟨_, rfl, rfl⟩, ⟨⟨_, rfl, rfl⟩, ⟨⟨_, rfl, rfl⟩, ⟨⟨_, rfl, rfl⟩, ⟨⟨_, rfl, rfl⟩, ⟨⟨_, rfl, rfl⟩, ⟨⟨_, rfl, rfl⟩, ⟨⟨_, rfl, rfl⟩, ⟨⟨_, rfl, rfl⟩, ⟨⟨_, rfl, rfl⟩, ⟨⟨_, rfl, rfl⟩, ⟨⟨_, rfl, rfl⟩, ⟨⟨_, rfl, rfl⟩, ⟨⟨_, rfl, rfl⟩, ⟨⟨_, rfl, rfl⟩, ⟨⟨_, rfl, rfl⟩, ⟨⟨_, rfl, rfl⟩, ⟨⟨_, rfl, rfl⟩, ⟨⟨_, rfl, rfl⟩, ⟨⟨_, rfl, rfl⟩, ⟨⟨_, rfl, rfl⟩, ⟨⟨_, rfl, rfl⟩, ⟨⟨_, rfl, rfl⟩, ⟨⟨_, rfl, rfl⟩, ⟨⟨_, rfl, rfl⟩, ⟨⟨_, rfl, rfl⟩, ⟨⟨_, rfl, rfl⟩, ⟨⟨_, rfl, rfl⟩, ⟨⟨_, rfl, rfl⟩, trivial⟩⟩⟩⟩⟩⟩⟩⟩⟩⟩⟩⟩⟩⟩⟩⟩⟩⟩⟩⟩⟩⟩⟩⟩⟩⟩⟩⟩⟩⟩⟩⟩⟩⟩⟩⟩⟩⟩⟩⟩⟩⟩⟩⟩⟩⟩⟩⟩⟩⟩⟩⟩⟩⟩⟩⟩⟩⟩⟩⟩⟩⟩⟩⟩⟩⟩⟩⟩⟩⟩⟩⟩⟩⟩⟩⟩ rfl ?_
          refine J_aload_n (pc := 46) C 24 rfl 0 rfl rfl ?_
          refine J_get (pc := 47) (v := .ref (aT 0)) C 25 rfl TB_l4 rfl 0 0 rfl (by decide) k195 rfl rfl ?_
          obtain ⟨q12, hq12, h⟩ := bnd h
          refine J_callV (pc := 50) (st2 := []) (st3 := []) (ws2 := (wEx aX (aT 0) (aT2 0) (aS 0) (aS2 0) (aP 0) (aH 0) aB aU ++ (wSeat G aT (aS 0) (q12 1) (q12 2) (q12 3) (q12 4 0) (q12 5 0) (q12 6) (q12 7) (q12 8) ++ (wSch G aS (q11 0) (q11 1) (q11 2) (q11 3) (q11 4) (q11 5) (q11 6) (q11 7) (q11 8 0) (q11 9 0) ++ (wHis G aH (q5.1) (q5.2.1) ((q5.2.2) 1 0) ++ (wSlots G aB sA sV ++ (wUsed G aU (vU 0)))))))) C 26 rfl (c_X3_seatAll aT aS vT q11 hq12) V_X3_seatAll k214 i_X3_seatAll s_X3_seatAll rfl rfl ⟨Nat.le_of_ble_eq_true rfl, Nat.le_of_ble_eq_true rfl⟩ (Nat.le_of_ble_eq_true rfl) ⟨Nat.le_refl _, Nat.le_refl _⟩ 1 3 rfl rfl rfl (isC := [1, 2, 3, 4, 5, 6, 7, 8, 9, 10, 11, 12, 13, 14, 15, 16]) (isR := [0, 17, 18, 19, 20, 21, 22, 23, 24, 25, 26, 27, 28, 29, 30, 31, 32, 33, 34, 35, 36, 37, 38, 39, 40, 41, 42, 43, 44, 45, 46, 47, 48, 49, 50, 51, 52, 53, 54, 55, 56, 57, 58, 59, 60, 61, 62, 63, 64, 65, 66, 67, 68, 69, 70, 71, 72, 73, 74, 75, 76, 77, 78, 79, 80, 81, 82, 83, 84, 85, 86, 87, 88, 89, 90, 91, 92]) (N := 93) ⟨rfl, by decide +kernel, rfl, by decide +kernel, rfl, ⟨⟨_, rfl, rfl⟩, ⟨⟨_, rfl, rfl⟩, ⟨⟨_, rfl, rfl⟩, ⟨⟨_, rfl, rfl⟩, ⟨⟨_, rfl, rfl⟩, ⟨⟨_, rfl, rfl⟩, ⟨⟨_, rfl, rfl⟩, ⟨⟨_, rfl, rfl⟩, ⟨⟨_, rfl, rfl⟩, ⟨⟨_, rfl, rfl⟩, ⟨⟨_, rfl, rfl⟩, ⟨⟨_, rfl, rfl⟩, ⟨⟨_, rfl, rfl⟩, ⟨⟨_, rfl, rfl⟩, ⟨⟨_, rfl, rfl⟩, ⟨⟨_, rfl, rfl⟩, ⟨⟨_, rfl, rfl⟩, ⟨⟨_, rfl, rfl⟩, ⟨⟨_, rfl, rfl⟩, ⟨⟨_, rfl, rfl⟩, ⟨⟨_, rfl, rfl⟩, ⟨⟨_, rfl, rfl⟩, ⟨⟨_, rfl, rfl⟩, ⟨⟨_, rfl, rfl⟩, ⟨⟨_, rfl, rfl⟩, ⟨⟨_, rfl, rfl⟩, ⟨⟨_, rfl, rfl⟩, ⟨⟨_, rfl, rfl⟩, ⟨⟨_, rfl, rfl⟩, ⟨⟨_, rfl, rfl⟩, ⟨⟨_, rfl, rfl⟩, ⟨⟨_, rfl, rfl⟩, ⟨⟨_, rfl, rfl⟩, ⟨⟨_, rfl, rfl⟩, ⟨⟨_, rfl, rfl⟩, ⟨⟨_, rfl, rfl⟩, ⟨⟨_, rfl, rfl⟩, ⟨⟨_, rfl, rfl⟩, ⟨⟨_, rfl, rfl⟩, ⟨⟨_, rfl, rfl⟩, ⟨⟨_, rfl, rfl⟩, ⟨⟨_, rfl, rfl⟩, ⟨⟨_, rfl, rfl⟩, ⟨⟨_, rfl, rfl⟩, ⟨⟨_, rfl, rfl⟩, ⟨⟨_, rfl, rfl⟩, ⟨⟨_, rfl, rfl⟩, ⟨⟨_, rfl, rfl⟩, ⟨⟨_, rfl, rfl⟩, ⟨⟨_, rfl, rfl⟩, ⟨⟨_, rfl, rfl⟩, ⟨⟨_, rfl, rfl⟩, ⟨⟨_, rfl, rfl⟩, ⟨⟨_, rfl, rfl⟩, ⟨⟨_, rfl, rfl⟩, ⟨⟨_, rfl, rfl⟩, ⟨⟨_, rfl, rfl⟩, ⟨⟨_, rfl, rfl⟩, ⟨⟨_, rfl, rfl⟩, ⟨⟨_, rfl, rfl⟩, ⟨⟨_, rfl, rfl⟩, ⟨⟨_, rfl, rfl⟩, ⟨⟨_, rfl, rfl⟩, ⟨⟨_, rfl, rfl⟩, ⟨⟨_, rfl, rfl⟩, ⟨⟨_, rfl, rfl⟩, ⟨⟨_, rfl, rfl⟩, ⟨⟨_, rfl, rfl⟩, ⟨⟨_, rfl, rfl⟩, ⟨⟨_, rfl, rfl⟩, ⟨⟨_, rfl, rfl⟩, ⟨⟨_, rfl, rfl⟩, ⟨⟨_, rfl, rfl⟩, ⟨⟨_, rfl, rfl⟩, ⟨⟨_, rfl, rfl⟩, ⟨⟨_, rfl, rfl⟩, ⟨⟨_, rfl, rfl⟩, trivial⟩⟩⟩⟩⟩⟩⟩⟩⟩⟩⟩⟩⟩⟩⟩⟩⟩⟩⟩⟩⟩⟩⟩⟩⟩⟩⟩⟩⟩⟩⟩⟩⟩⟩⟩⟩⟩⟩⟩⟩⟩⟩⟩⟩⟩⟩⟩⟩⟩⟩⟩⟩⟩⟩⟩⟩⟩⟩⟩⟩⟩⟩⟩⟩⟩⟩⟩⟩⟩⟩⟩⟩⟩⟩⟩⟩⟩⟩ rfl ?_
          refine J_aload_n (pc := 53) C 27 rfl 0 rfl rfl ?_
          refine J_get (pc := 54) (v := .ref (aS 0)) C 28 rfl TB_l4 rfl 0 1 rfl (by decide) k197 rfl rfl ?_
          refine J_get (pc := 57) (v := .int (q11 8 0)) C 29 rfl TB_l2 rfl 8 8 rfl (by decide) k237 rfl rfl ?_
          cases h
          exact J_iret (pc := 60) C 30 rfl
        · rw [if_neg c10] at h
          cases h
    · rw [if_pos c4] at h
      refine J_bipush (pc := 19) (v := (-5 : Int32)) C 10 rfl rfl ?_
      cases h
      exact J_iret (pc := 21) C 11 rfl
  · rw [if_pos c2] at h
    refine J_bipush (pc := 7) (v := (-2 : Int32)) C 3 rfl rfl ?_
    cases h
    exact J_iret (pc := 9) C 4 rfl
end
section
/-! ===== what makes: constructors ===== -/
def JQC {U : Type} (G : JG) (φ : U → Prop) (W' : U → va_W) (A : Nat → Prop) : Array Value → State → Outcome → State → Prop := fun _ s o t => (∃ u : U, o = .returned none ∧ φ u ∧ va_P G.1 vwCl (W' u) t.heap ∧ va_D A (W' u)) ∧ va_F A s t
def JMC {U : Type} (l : Launch) (G : JG) (y : MethodName) (b : ByteArray) (nL fr lo mc ms h0 ci : Nat) (fs : List Value) (φ : U → Prop) (W' : U → va_W) : Prop :=
  ∀ sz : Nat, Met l y (.code y b nL none :: TB) { frames := fr, cells := mc, slots := ms, locals := lo } (JPc G [.ref h0] sz [(h0, .inr (ci, fs))]) (JQC G φ W' (va_A [(h0, .inr (ci, fs))] sz)) mc ms (va_A [(h0, .inr (ci, fs))] sz)
def QC {U : Type} (X : JX) (G : JG) (k n : Nat) (φ : U → Prop) (W' : U → va_W) : State → Prop := MQ X.2.2.2.2.2.1 (JQC G φ W' X.2.2.2.2.2.2.2.2) X.2.2.2.2.1 X.2.2.1 k n X.2.2.2.2.2.2.2.2
section JINIT
variable {l : Launch} {R : Room} {G : JG} {nL : Nat} {X : JX} {Q : State → Prop} {k n pc : Nat} {lv : List (Nat × Value)} {st st2 : List Value} {ws : va_W} {cc : ByteArray} {own : String} {ret : Option FieldType} {tb : List (Nat × ClassFile.Instr × Nat)}
theorem JMC.of {U : Type} {y : MethodName} {b : ByteArray} {fr lo mc ms h0 ci : Nat} {fs : List Value} {φ : U → Prop} {W' : U → va_W} (hy : plainName y.cls = true) (hlen : 1 ≤ nL) (hT : ∀ q ∈ tb, decode b q.1 = .ok q.2) (ho : y.cls = own) (hi : y.name = "<init>")
    (body : ∀ X : JX, Cx G nL X b own none tb → X.2.2.2.2.2.2.1.name = "<init>" → J l { frames := fr, cells := mc, slots := ms, locals := lo } G nL X (QC X G mc ms φ W') 0 0 0 [(0, .ref h0)] [] [(h0, .inr (ci, fs))]) : JMC l G y b nL fr lo mc ms h0 ci fs φ W' := by
  intro sz
  refine Met.ofW (cc := b) (maxL := nL) (ret := none) hy rfl ?_
  intro p e s m args below meth c s₁ B hml hv
  obtain ⟨rfl, hsz, hP, hK, hD0⟩ := hv
  have hts := atoms_spec (ws := .code y b nL none :: TB) B.pre
  have hown : s.vm.findClass y.cls = some m.cls := findClass_of_methodNamed B.named
  have hnm : meth.name = "<init>" := (name_of_methodNamed B.named B.method).1.trans hi
  rw [ho] at hown
  subst hsz
  have hD := hD0.self (sz := s.heap.size)
  have Z := body (p, e, s, m, ([.ref h0] : List Value).toArray, below, meth, c, va_A [(h0, .inr (ci, fs))] s.heap.size) ⟨B.exec, B.bytes, hml, hown, fun w hw => hts w (List.mem_cons_of_mem _ hw), hK, fun q h => Or.inr h, B.notSynchronized, B.returns, hT⟩ hnm
  rw [lg_entry_eq]
  exact Z s.heap [] _ hP hD va_S.rf (lv_entry [.ref h0] hlen)
theorem J_cret {U : Type} {φ : U → Prop} {W' : U → va_W} (C : Cx G nL X cc own none tb) (j : Nat) (u : U) (hφ : φ u) (hd : tb[j]? = some (pc, .return_, 1)) : J l R G nL X (QC X G k n φ W') k n pc lv [] (W' u) :=
  fun _ _ _ hP hD hS _ => W.vret C.1 C.2.1 C.2.2.2.2.2.2.2.2.1 (fun t ht _ => ⟨⟨u, rfl, hφ, by rw [ht]; exact hP, hD⟩, hS.F ht⟩) hS.2.2 (C.d j hd) C.2.2.2.2.2.2.2.1
theorem J_oinit (C : Cx G nL X cc own ret tb) (j : Nat) {index a : Nat} (hd : tb[j]? = some (pc, .invokespecial index, 3)) (hl : Cond.methodLink own index Lib.objectInit ∈ TB) (hf : 1 ≤ R.frames) (hlo : (st.map fun v => v.category).sum + 12 ≤ R.locals) (kk : J l R G nL X Q k n (pc + 3) lv st ws) : J l R G nL X Q k n pc lv (.ref a :: st) ws :=
  fun H locs ls hP hD hS h => W.objInit C.1 C.2.1 C.2.2.2.1 (C.2.2.2.2.1 _ hl) (C.2.2.2.2.1 _ k2) (C.2.2.2.2.1 _ k3) rfl (h.1.trans C.2.2.1.symm) rfl (C.d j hd) hf (by show 2 * 0 + _ + 12 ≤ _; omega) (kk H locs ls hP hD hS h)
theorem J_new (C : Cx G nL X cc own ret tb) (j : Nat) {Cn : String} {T : u_T} {N ci index : Nat} {fs : List Value} (hd : tb[j]? = some (pc, .new index, 3)) (hin : ∀ w ∈ u_ws Cn T N, w ∈ TB) (ty : Nat → FieldType) (hty : ∀ k, k < N → parseFieldDescriptor (T k).2.2.1 = some (ty k)) (hcl : Cond.classLink own index Cn ∈ TB) (hinst : Cond.instantiable Cn N ∈ TB) (hini : Cond.initialized Cn ∈ TB) (hc : vwCl[ci]? = some (Cn, T, N)) (hfs : ∀ j, j < N → defaultValue (ty j) = vp_V fs j) (hk : k + 1 ≤ R.cells) (hn : n + N ≤ R.slots) (kk : ∀ q : Nat, J l R G nL X Q (k + 1) (n + N) (pc + 3) lv (.ref q :: st) (ws ++ [(q, .inr (ci, fs))])) : J l R G nL X Q k n pc lv st ws :=
  fun H locs ls hP hD hS h => va_new C.1 C.2.1 C.2.2.2.2.1 hin ty hty C.2.2.2.1 (C.2.2.2.2.1 _ hcl) (C.2.2.2.2.1 _ hinst) (C.2.2.2.2.1 _ hini) C.2.2.2.2.2.1.1 hP hD hS C.2.2.2.2.2.2.1 hc hfs hk hn (C.d j hd) (fun q H1 hP1 hD1 hS1 => kk q H1 locs ls hP1 hD1 hS1 h)
theorem J_newaI (C : Cx G nL X cc own ret tb) (j : Nat) {z : Int32} {N : Nat} (hd : tb[j]? = some (pc, .newarray .int, 2)) (harr : Cond.arrayClass .int ∈ TB) (hz : ¬ z < 0) (hN : z.toNatClampNeg = N) (hb : N * 4 ≤ 536870912) (hk : k + 1 ≤ R.cells) (hn : n + N ≤ R.slots) (kk : ∀ q : Nat, J l R G nL X Q (k + 1) (n + N) (pc + 2) lv (.ref q :: st) (ws ++ [(q, .inl (G.2 0, N, .inl (fun _ => 0)))])) : J l R G nL X Q k n pc lv (.int z :: st) ws := by
  intro H locs ls hP hD hS h
  refine va_newa (atype := .int) (a0 := (N, .inl (fun _ => 0))) C.1 C.2.1 (C.2.2.2.2.1 _ harr) (ty := .int) rfl C.2.2.2.2.2.1.1 hP hD hS C.2.2.2.2.2.2.1 (fun cA => rfl) hz hN hb hk hn (C.d j hd) (fun q cA H1 hK1 hP1 hD1 hS1 => ?_)
  have e1 := (hK1.2 4 (cA, .int) rfl).2
  have e2 := (hK1.2 0 (G.2 0, .int) rfl).2
  have e : cA = G.2 0 := Option.some.inj (Eq.trans (Eq.symm e1) e2)
  subst e
  exact kk q H1 locs ls hP1 hD1 hS1 h
theorem J_newaZ (C : Cx G nL X cc own ret tb) (j : Nat) {z : Int32} {N : Nat} (hd : tb[j]? = some (pc, .newarray .boolean, 2)) (harr : Cond.arrayClass .boolean ∈ TB) (hz : ¬ z < 0) (hN : z.toNatClampNeg = N) (hb : N * 1 ≤ 536870912) (hk : k + 1 ≤ R.cells) (hn : n + N ≤ R.slots) (kk : ∀ q : Nat, J l R G nL X Q (k + 1) (n + N) (pc + 2) lv (.ref q :: st) (ws ++ [(q, .inl (G.2 1, N, .inl (fun _ => 0)))])) : J l R G nL X Q k n pc lv (.int z :: st) ws := by
  intro H locs ls hP hD hS h
  refine va_newa (atype := .boolean) (a0 := (N, .inl (fun _ => 0))) C.1 C.2.1 (C.2.2.2.2.1 _ harr) (ty := .boolean) rfl C.2.2.2.2.2.1.1 hP hD hS C.2.2.2.2.2.2.1 (fun cA => rfl) hz hN hb hk hn (C.d j hd) (fun q cA H1 hK1 hP1 hD1 hS1 => ?_)
  have e1 := (hK1.2 4 (cA, .boolean) rfl).2
  have e2 := (hK1.2 1 (G.2 1, .boolean) rfl).2
  have e : cA = G.2 1 := Option.some.inj (Eq.trans (Eq.symm e1) e2)
  subst e
  exact kk q H1 locs ls hP1 hD1 hS1 h
theorem J_anew (C : Cx G nL X cc own ret tb) (j : Nat) {z : Int32} {N index : Nat} (hd : tb[j]? = some (pc, .anewarray index, 3)) (hcl : Cond.classLink own index "ExamHalls$School" ∈ TB) (hz : ¬ z < 0) (hN : z.toNatClampNeg = N) (hb : N * 4 ≤ 536870912) (hk : k + 1 ≤ R.cells) (hn : n + N ≤ R.slots) (kk : ∀ q : Nat, J l R G nL X Q (k + 1) (n + N) (pc + 3) lv (.ref q :: st) (ws ++ [(q, .inl (G.2 3, N, .inr (.inr (.inr (.inr (fun _ => none))))))])) : J l R G nL X Q k n pc lv (.int z :: st) ws := by
  intro H locs ls hP hD hS h
  refine va_newq C.1 C.2.1 C.2.2.2.1 (C.2.2.2.2.1 _ hcl) C.2.2.2.2.2.1.2.2 C.2.2.2.2.2.1.1 hP hD hS C.2.2.2.2.2.2.1 hz hN hb hk hn (C.d j hd) (fun q cA H1 hK1 hP1 hD1 hS1 => ?_)
  obtain ⟨_, _, _, _, _, e1⟩ := (hK1.2 4 (cA, .object "ExamHalls$School") rfl).2
  obtain ⟨_, _, _, _, _, e2⟩ := (hK1.2 3 (G.2 3, .object "ExamHalls$School") rfl).2
  have e : cA = G.2 3 := Option.some.inj (Eq.trans (Eq.symm e1) e2)
  subst e
  exact kk q H1 locs ls hP1 hD1 hS1 h
theorem J_putF (C : Cx G nL X cc own ret tb) (j : Nat) (hin2 : X.2.2.2.2.2.2.1.name = "<init>") {ref Cn : String} {T : u_T} {N ci index a : Nat} {fs : List Value} {v : Value} {ty : FieldType} {ws2 : va_W} (hd : tb[j]? = some (pc, .putfield index, 3)) (hin : ∀ w ∈ u_ws Cn T N, w ∈ TB) (ty0 : Nat → FieldType) (hty : ∀ k, k < N → parseFieldDescriptor (T k).2.2.1 = some (ty0 k)) (hnm : ∀ a, a < N → ∀ b, b < N → a ≠ b → (T a).2.1 ≠ (T b).2.1) (hc : vwCl[ci]? = some (Cn, T, N)) (q0 kf : Nat) (he : ws[q0]? = some (a, .inr (ci, fs))) (hk : kf < N) (hlink : Cond.fieldLink own index ref (T kf).2.1 (T kf).2.2.1 ∈ TB) (hsame : (T kf).1 = ref) (hfin : (T kf).2.2.2 = true) (hdecl : (T kf).1 = own) (hty2 : ty0 kf = ty) (hn : narrow ty v = v) (hfit : fits ty v = true) (hl : kf < fs.length) (h2 : ws.set q0 (a, .inr (ci, fs.set kf v)) = ws2) (kk : J l R G nL X Q k n (pc + 3) lv st ws2) : J l R G nL X Q k n pc lv (v :: .ref a :: st) ws :=
  fun H locs ls hP hD hS h => va_putF C.1 C.2.1 C.2.2.2.2.1 hin ty0 hty hnm C.2.2.2.1 C.2.2.2.2.2.1.1 hP hD hS q0 he hc kf hk (C.2.2.2.2.1 _ hlink) (fun x hx => hsame ▸ hx) hfin hin2 hdecl (hty2 ▸ hty kf hk) hn hfit hl (C.d j hd) (fun H1 locs1 hP1 hD1 hS1 => kk H1 locs1 ls (h2 ▸ hP1) (h2 ▸ hD1) hS1 h)
variable {U : Type} {y : MethodName} {b : ByteArray} {a nc fr lo mc ms ci index : Nat} {fs : List Value} {φ : U → Prop} {W' : U → va_W}
theorem J_coreC (C : Cx G nL X cc own ret tb) {av : Array Value} (q0 : Nat) (hq : ws[q0]? = some (a, .inr (ci, fs))) (isR : List Nat) {wr : va_W} (hR2 : isR.map (fun i => ws[i]?) = wr.map some) (hn : va_nd isR = true) (hdis : ∀ i ∈ isR, i ∉ [q0])
    (hr : ∀ (H : Heap) (locs : List Loc) (ls : Array Slot), va_P G.1 vwCl [(a, .inr (ci, fs))] H → va_D (fun _ => True) [(a, .inr (ci, fs))] → ls.size = nL → va_Run X.1 l X.2.1 R X.2.2.1 X.2.2.2.1 X.2.2.2.2.1 X.2.2.2.2.2.1 X.2.2.2.2.2.2.1 X.2.2.2.2.2.2.2.1 H locs k n mc ms (F0 X.2.2.2.1 pc ls st) st2 (JQC G φ W' (va_A [(a, .inr (ci, fs))] H.size) av) (va_A [(a, .inr (ci, fs))] H.size))
    (kk : ∀ u : U, φ u → J l R G nL X Q (k + mc) (n + ms) (pc + 3) lv st2 (wr ++ W' u)) : J l R G nL X Q k n pc lv st ws := by
  intro H locs ls hP hD hS h T hT XT
  have hC : [q0].map (fun i => ws[i]?) = [(a, .inr (ci, fs))].map some := by simp [hq]
  have hPc : va_P G.1 vwCl [(a, .inr (ci, fs))] H := hP.sub [q0] (by simp [hq])
  have hDc : va_D X.2.2.2.2.2.2.2.2 [(a, .inr (ci, fs))] := hD.sub [q0] rfl hC
  have hF := va_free hD hS C.2.2.2.2.2.2.1 [q0] hC
  obtain ⟨v, st₀, t, T', L, h0, X', hL, e1, e2, ⟨⟨u, hv, hφ, hP1, hD1⟩, hz, hk⟩, stp⟩ := hr H locs ls hPc (hDc.weaken fun _ _ _ _ => trivial) h.1 T hT XT
  cases hv
  rw [h0] at hz hk
  obtain ⟨hPn, hDn⟩ := va_join (wr := wr) (w1 := W' u) hP hD [q0] isR hC hR2 hn hdis hk hF hP1 hD1
  obtain ⟨t2, a1, b1⟩ := kk u hφ T'.heap (locs ++ L) ls (by rw [e1]; exact hPn) hDn
    ⟨Nat.le_trans hS.1 (by rw [e1]; exact hz), fun q h1 h2 => by rw [e1, hk q (Nat.lt_of_lt_of_le h1 hS.1) (fun z => h2 (hF q z))]; exact hS.2.1 q h1 h2, fun q hq => by
      rcases List.mem_append.mp hq with h | h
      · exact hS.2.2 q h
      · exact hF _ (hL q h)⟩ h T' rfl X'
  exact ⟨t2, stp t2 a1, b1⟩
theorem J_callC (C : Cx G nL X cc own ret tb) (j : Nat) (hd : tb[j]? = some (pc, .invokespecial index, 3)) (hM : JMC l G y b nc fr lo mc ms a ci fs φ W') (V : Vy y b nc none 0) (hl : Cond.methodLink own index y ∈ TB) (hi : Cond.instanceMethod y ∈ TB) (hy1 : y.name = "<init>") (hst : st = .ref a :: st2) (hR : fr + 1 ≤ R.frames ∧ 8 + (nc + 11) + lo ≤ R.locals) (hcat : (st2.map fun v => v.category).sum ≤ 8) (hkn : k + mc ≤ R.cells ∧ n + ms ≤ R.slots)
    (q0 : Nat) (hq : ws[q0]? = some (a, .inr (ci, fs))) (isR : List Nat) {wr : va_W} (hR2 : isR.map (fun i => ws[i]?) = wr.map some) (hn : va_nd isR = true) (hdis : ∀ i ∈ isR, i ∉ [q0])
    (kk : ∀ u : U, φ u → J l R G nL X Q (k + mc) (n + ms) (pc + 3) lv st2 (wr ++ W' u)) : J l R G nL X Q k n pc lv st ws := by
  refine J_coreC C (av := [Value.ref a].toArray) q0 hq isR hR2 hn hdis (fun H locs ls hPc hDc hls => ?_) kk
  exact va_runI (As := []) (rest := st2) ⟨C.1, C.2.1, C.2.2.1, C.2.2.2.1, C.2.2.2.2.1⟩ (hM H.size)
    ⟨callB_of 0 C.2.2.2.2.1 (TB_in _ _ _ _ V.1) rfl rfl rfl (C.2.2.2.2.1 _ V.2.1) (C.2.2.2.2.1 _ hl) V.2.2 hR, hy1, C.2.2.2.2.1 _ hi⟩
    ⟨JPc_blind, fun U hU hW => JPc_at C.2.2.2.2.2.1 hPc hDc hU hW⟩ rfl rfl hls hst (lv_room hcat) (C.d j hd) hkn
theorem J_callCN (C : Cx G nL X cc own ret tb) (j : Nat) {host : String} (hd : tb[j]? = some (pc, .invokespecial index, 3)) (hM : JMC l G y b nc fr lo mc ms a ci fs φ W') (V : Vy y b nc none 0) (hl : Cond.methodLinkNest own index y host ∈ nestL) (hi : Cond.instanceMethod y ∈ TB) (hy1 : y.name = "<init>") (hst : st = .ref a :: st2) (hR : fr + 1 ≤ R.frames ∧ 8 + (nc + 11) + lo ≤ R.locals) (hcat : (st2.map fun v => v.category).sum ≤ 8) (hkn : k + mc ≤ R.cells ∧ n + ms ≤ R.slots)
    (q0 : Nat) (hq : ws[q0]? = some (a, .inr (ci, fs))) (isR : List Nat) {wr : va_W} (hR2 : isR.map (fun i => ws[i]?) = wr.map some) (hn : va_nd isR = true) (hdis : ∀ i ∈ isR, i ∉ [q0])
    (kk : ∀ u : U, φ u → J l R G nL X Q (k + mc) (n + ms) (pc + 3) lv st2 (wr ++ W' u)) : J l R G nL X Q k n pc lv st ws := by
  refine J_coreC C (av := [Value.ref a].toArray) q0 hq isR hR2 hn hdis (fun H locs ls hPc hDc hls => ?_) kk
  exact va_runIN (As := []) (rest := st2) ⟨C.1, C.2.1, C.2.2.1, C.2.2.2.1, C.2.2.2.2.1⟩ (hM H.size)
    ⟨va_cnB 0 C.2.2.2.2.1 (TB_in _ _ _ _ V.1) rfl rfl rfl (C.2.2.2.2.2.1.2.1 _ hl) (C.2.2.2.2.1 _ V.2.1) V.2.2 hR, hy1, C.2.2.2.2.1 _ hi⟩
    ⟨JPc_blind, fun U hU hW => JPc_at C.2.2.2.2.2.1 hPc hDc hU hW⟩ rfl rfl hls hst (lv_room hcat) (C.d j hd) hkn
end JINIT

def T_X2_init : List (Nat × ClassFile.Instr × Nat) := [(0, .aload_n 0, 1), (1, .invokespecial 3, 3), (4, .aload_n 0, 1), (5, .iconst 3, 1), (6, .newarray .int, 2), (8, .dup, 1), (9, .iconst 0, 1), (10, .iconst 1, 1), (11, .iastore, 1), (12, .dup, 1), (13, .iconst 1, 1), (14, .iconst 1, 1), (15, .iastore, 1), (16, .dup, 1), (17, .iconst 2, 1), (18, .bipush 10, 2), (20, .iastore, 1), (21, .putfield 9, 3), (24, .aload_n 0, 1), (25, .bipush 6, 2), (27, .newarray .int, 2), (29, .putfield 15, 3), (32, .aload_n 0, 1), (33, .bipush 6, 2), (35, .newarray .int, 2), (37, .dup, 1), (38, .iconst 0, 1), (39, .bipush 60, 2), (41, .iastore, 1), (42, .dup, 1), (43, .iconst 1, 1), (44, .bipush 60, 2), (46, .iastore, 1), (47, .dup, 1), (48, .iconst 2, 1), (49, .bipush 60, 2), (51, .iastore, 1), (52, .dup, 1), (53, .iconst 3, 1), (54, .bipush 60, 2), (56, .iastore, 1), (57, .dup, 1), (58, .iconst 4, 1), (59, .bipush 60, 2), (61, .iastore, 1), (62, .dup, 1), (63, .iconst 5, 1), (64, .bipush 60, 2), (66, .iastore, 1), (67, .putfield 18, 3), (70, .aload_n 0, 1), (71, .bipush 16, 2), (73, .newarray .int, 2), (75, .putfield 21, 3), (78, .aload_n 0, 1), (79, .bipush 16, 2), (81, .newarray .int, 2), (83, .putfield 24, 3), (86, .aload_n 0, 1), (87, .bipush 16, 2), (89, .newarray .boolean, 2), (91, .putfield 27, 3), (94, .aload_n 0, 1), (95, .iconst 4, 1), (96, .newarray .int, 2), (98, .dup, 1), (99, .iconst 0, 1), (100, .iconst 2, 1), (101, .iastore, 1), (102, .dup, 1), (103, .iconst 1, 1), (104, .iconst 2, 1), (105, .iastore, 1), (106, .dup, 1), (107, .iconst 2, 1), (108, .iconst 2, 1), (109, .iastore, 1), (110, .dup, 1), (111, .iconst 3, 1), (112, .iconst 2, 1), (113, .iastore, 1), (114, .putfield 31, 3), (117, .aload_n 0, 1), (118, .iconst 4, 1), (119, .newarray .int, 2), (121, .dup, 1), (122, .iconst 0, 1), (123, .iconst 2, 1), (124, .iastore, 1), (125, .dup, 1), (126, .iconst 1, 1), (127, .iconst 2, 1), (128, .iastore, 1), (129, .dup, 1), (130, .iconst 2, 1), (131, .iconst 2, 1), (132, .iastore, 1), (133, .dup, 1), (134, .iconst 3, 1), (135, .iconst 2, 1), (136, .iastore, 1), (137, .putfield 34, 3), (140, .aload_n 0, 1), (141, .iconst 0, 1), (142, .putfield 37, 3), (145, .aload_n 0, 1), (146, .iconst 1, 1), (147, .putfield 41, 3), (150, .return_, 1)]
theorem D_X2_init : ∀ q ∈ T_X2_init, decode cX2_init q.1 = .ok q.2 := by decide +kernel
theorem V_X2_init : Vy yX2_init cX2_init 1 none 0 := ⟨k0, k22, by decide +kernel⟩
def vi_X2 : JV := fun k => match k with
  | 0 => (upd (upd (upd (fun _ => 0) 0 (1 : Int32)) 1 (1 : Int32)) 2 (10 : Int32))
  | 1 => (fun _ => 0)
  | 2 => (upd (upd (upd (upd (upd (upd (fun _ => 0) 0 (60 : Int32)) 1 (60 : Int32)) 2 (60 : Int32)) 3 (60 : Int32)) 4 (60 : Int32)) 5 (60 : Int32))
  | 3 => (fun _ => 0)
  | 4 => (fun _ => 0)
  | 5 => (fun _ => 0)
  | 6 => (upd (upd (upd (upd (fun _ => 0) 0 (2 : Int32)) 1 (2 : Int32)) 2 (2 : Int32)) 3 (2 : Int32))
  | 7 => (upd (upd (upd (upd (fun _ => 0) 0 (2 : Int32)) 1 (2 : Int32)) 2 (2 : Int32)) 3 (2 : Int32))
  | 8 => (fun _ => (0 : Int32))
  | 9 => (fun _ => (1 : Int32))
  | _ => (fun _ => 0)
set_option maxRecDepth 100000 in
set_option maxHeartbeats 4000000 in
theorem c_X2_init {l : Launch} {G : JG} {h0 : Nat} : JMC (U := Nat → Nat) l G yX2_init cX2_init 1 1 12 8 71 h0 2 [.null, .null, .null, .null, .null, .null, .null, .null, .int 0, .int 0] (fun u => u 0 = h0) (fun u => wSch G u (vi_X2 0) (vi_X2 1) (vi_X2 2) (vi_X2 3) (vi_X2 4) (vi_X2 5) (vi_X2 6) (vi_X2 7) (vi_X2 8 0) (vi_X2 9 0)) := by
  refine JMC.of (own := RX2) (tb := T_X2_init) (by decide) (Nat.le_of_ble_eq_true rfl) D_X2_init rfl rfl (fun X C hin => ?_)
  refine J_aload_n (pc := 0) C 0 rfl 0 rfl rfl ?_
  refine J_oinit (pc := 1) C 1 rfl k1 (by decide) (Nat.le_of_ble_eq_true rfl) ?_
  refine J_aload_n (pc := 4) C 2 rfl 0 rfl rfl ?_
  refine J_iconst (pc := 5) (v := (3 : Int32)) C 3 rfl rfl ?_
  refine J_newaI (pc := 6) (N := 3) C 4 rfl k4 (by decide) rfl (Nat.le_of_ble_eq_true rfl) (Nat.le_of_ble_eq_true rfl) (Nat.le_of_ble_eq_true rfl) (fun q1 => ?_)
  refine J_dup (pc := 8) C 5 rfl rfl ?_
  refine J_iconst (pc := 9) (v := (0 : Int32)) C 6 rfl rfl ?_
  refine J_iconst (pc := 10) (v := (1 : Int32)) C 7 rfl rfl ?_
  refine J_iast (pc := 11) (f := (fun _ => 0)) (m := 0) C 8 (fun mm vv => ([(h0, .inr (2, [.null, .null, .null, .null, .null, .null, .null, .null, .int 0, .int 0])), (q1, .inl (G.2 0, 3, .inl (upd (fun _ => 0) mm vv)))] : va_W)) rfl 1 rfl rfl rfl (fun _ _ => rfl) ?_
  refine J_dup (pc := 12) C 9 rfl rfl ?_
  refine J_iconst (pc := 13) (v := (1 : Int32)) C 10 rfl rfl ?_
  refine J_iconst (pc := 14) (v := (1 : Int32)) C 11 rfl rfl ?_
  refine J_iast (pc := 15) (f := (upd (fun _ => 0) 0 (1 : Int32))) (m := 1) C 12 (fun mm vv => ([(h0, .inr (2, [.null, .null, .null, .null, .null, .null, .null, .null, .int 0, .int 0])), (q1, .inl (G.2 0, 3, .inl (upd (upd (fun _ => 0) 0 (1 : Int32)) mm vv)))] : va_W)) rfl 1 rfl rfl rfl (fun _ _ => rfl) ?_
  refine J_dup (pc := 16) C 13 rfl rfl ?_
  refine J_iconst (pc := 17) (v := (2 : Int32)) C 14 rfl rfl ?_
  refine J_bipush (pc := 18) (v := (10 : Int32)) C 15 rfl rfl ?_
  refine J_iast (pc := 20) (f := (upd (upd (fun _ => 0) 0 (1 : Int32)) 1 (1 : Int32))) (m := 2) C 16 (fun mm vv => ([(h0, .inr (2, [.null, .null, .null, .null, .null, .null, .null, .null, .int 0, .int 0])), (q1, .inl (G.2 0, 3, .inl (upd (upd (upd (fun _ => 0) 0 (1 : Int32)) 1 (1 : Int32)) mm vv)))] : va_W)) rfl 1 rfl rfl rfl (fun _ _ => rfl) ?_
  refine J_putF (pc := 21) (ws2 := ([(h0, .inr (2, [.ref q1, .null, .null, .null, .null, .null, .null, .null, .int 0, .int 0])), (q1, .inl (G.2 0, 3, .inl (upd (upd (upd (fun _ => 0) 0 (1 : Int32)) 1 (1 : Int32)) 2 (10 : Int32))))] : va_W)) C 17 hin rfl TB_l2 tyX2 tyX2_ok nmX2 rfl 0 0 rfl (by decide) k5 rfl rfl rfl rfl rfl rfl (Nat.le_of_ble_eq_true rfl) rfl ?_
  refine J_aload_n (pc := 24) C 18 rfl 0 rfl rfl ?_
  refine J_bipush (pc := 25) (v := (6 : Int32)) C 19 rfl rfl ?_
  refine J_newaI (pc := 27) (N := 6) C 20 rfl k4 (by decide) rfl (Nat.le_of_ble_eq_true rfl) (Nat.le_of_ble_eq_true rfl) (Nat.le_of_ble_eq_true rfl) (fun q2 => ?_)
  refine J_putF (pc := 29) (ws2 := ([(h0, .inr (2, [.ref q1, .ref q2, .null, .null, .null, .null, .null, .null, .int 0, .int 0])), (q1, .inl (G.2 0, 3, .inl (upd (upd (upd (fun _ => 0) 0 (1 : Int32)) 1 (1 : Int32)) 2 (10 : Int32)))), (q2, .inl (G.2 0, 6, .inl (fun _ => 0)))] : va_W)) C 21 hin rfl TB_l2 tyX2 tyX2_ok nmX2 rfl 0 1 rfl (by decide) k6 rfl rfl rfl rfl rfl rfl (Nat.le_of_ble_eq_true rfl) rfl ?_
  refine J_aload_n (pc := 32) C 22 rfl 0 rfl rfl ?_
  refine J_bipush (pc := 33) (v := (6 : Int32)) C 23 rfl rfl ?_
  refine J_newaI (pc := 35) (N := 6) C 24 rfl k4 (by decide) rfl (Nat.le_of_ble_eq_true rfl) (Nat.le_of_ble_eq_true rfl) (Nat.le_of_ble_eq_true rfl) (fun q3 => ?_)
  refine J_dup (pc := 37) C 25 rfl rfl ?_
  refine J_iconst (pc := 38) (v := (0 : Int32)) C 26 rfl rfl ?_
  refine J_bipush (pc := 39) (v := (60 : Int32)) C 27 rfl rfl ?_
  refine J_iast (pc := 41) (f := (fun _ => 0)) (m := 0) C 28 (fun mm vv => ([(h0, .inr (2, [.ref q1, .ref q2, .null, .null, .null, .null, .null, .null, .int 0, .int 0])), (q1, .inl (G.2 0, 3, .inl (upd (upd (upd (fun _ => 0) 0 (1 : Int32)) 1 (1 : Int32)) 2 (10 : Int32)))), (q2, .inl (G.2 0, 6, .inl (fun _ => 0))), (q3, .inl (G.2 0, 6, .inl (upd (fun _ => 0) mm vv)))] : va_W)) rfl 3 rfl rfl rfl (fun _ _ => rfl) ?_
  refine J_dup (pc := 42) C 29 rfl rfl ?_
  refine J_iconst (pc := 43) (v := (1 : Int32)) C 30 rfl rfl ?_
  refine J_bipush (pc := 44) (v := (60 : Int32)) C 31 rfl rfl ?_
  refine J_iast (pc := 46) (f := (upd (fun _ => 0) 0 (60 : Int32))) (m := 1) C 32 (fun mm vv => ([(h0, .inr (2, [.ref q1, .ref q2, .null, .null, .null, .null, .null, .null, .int 0, .int 0])), (q1, .inl (G.2 0, 3, .inl (upd (upd (upd (fun _ => 0) 0 (1 : Int32)) 1 (1 : Int32)) 2 (10 : Int32)))), (q2, .inl (G.2 0, 6, .inl (fun _ => 0))), (q3, .inl (G.2 0, 6, .inl (upd (upd (fun _ => 0) 0 (60 : Int32)) mm vv)))] : va_W)) rfl 3 rfl rfl rfl (fun _ _ => rfl) ?_
  refine J_dup (pc := 47) C 33 rfl rfl ?_
  refine J_iconst (pc := 48) (v := (2 : Int32)) C 34 rfl rfl ?_
  refine J_bipush (pc := 49) (v := (60 : Int32)) C 35 rfl rfl ?_
  refine J_iast (pc := 51) (f := (upd (upd (fun _ => 0) 0 (60 : Int32)) 1 (60 : Int32))) (m := 2) C 36 (fun mm vv => ([(h0, .inr (2, [.ref q1, .ref q2, .null, .null, .null, .null, .null, .null, .int 0, .int 0])), (q1, .inl (G.2 0, 3, .inl (upd (upd (upd (fun _ => 0) 0 (1 : Int32)) 1 (1 : Int32)) 2 (10 : Int32)))), (q2, .inl (G.2 0, 6, .inl (fun _ => 0))), (q3, .inl (G.2 0, 6, .inl (upd (upd (upd (fun _ => 0) 0 (60 : Int32)) 1 (60 : Int32)) mm vv)))] : va_W)) rfl 3 rfl rfl rfl (fun _ _ => rfl) ?_
  refine J_dup (pc := 52) C 37 rfl rfl ?_
  refine J_iconst (pc := 53) (v := (3 : Int32)) C 38 rfl rfl ?_
  refine J_bipush (pc := 54) (v := (60 : Int32)) C 39 rfl rfl ?_
  refine J_iast (pc := 56) (f := (upd (upd (upd (fun _ => 0) 0 (60 : Int32)) 1 (60 : Int32)) 2 (60 : Int32))) (m := 3) C 40 (fun mm vv => ([(h0, .inr (2, [.ref q1, .ref q2, .null, .null, .null, .null, .null, .null, .int 0, .int 0])), (q1, .inl (G.2 0, 3, .inl (upd (upd (upd (fun _ => 0) 0 (1 : Int32)) 1 (1 : Int32)) 2 (10 : Int32)))), (q2, .inl (G.2 0, 6, .inl (fun _ => 0))), (q3, .inl (G.2 0, 6, .inl (upd (upd (upd (upd (fun _ => 0) 0 (60 : Int32)) 1 (60 : Int32)) 2 (60 : Int32)) mm vv)))] : va_W)) rfl 3 rfl rfl rfl (fun _ _ => rfl) ?_
  refine J_dup (pc := 57) C 41 rfl rfl ?_
  refine J_iconst (pc := 58) (v := (4 : Int32)) C 42 rfl rfl ?_
  refine J_bipush (pc := 59) (v := (60 : Int32)) C 43 rfl rfl ?_
  refine J_iast (pc := 61) (f := (upd (upd (upd (upd (fun _ => 0) 0 (60 : Int32)) 1 (60 : Int32)) 2 (60 : Int32)) 3 (60 : Int32))) (m := 4) C 44 (fun mm vv => ([(h0, .inr (2, [.ref q1, .ref q2, .null, .null, .null, .null, .null, .null, .int 0, .int 0])), (q1, .inl (G.2 0, 3, .inl (upd (upd (upd (fun _ => 0) 0 (1 : Int32)) 1 (1 : Int32)) 2 (10 : Int32)))), (q2, .inl (G.2 0, 6, .inl (fun _ => 0))), (q3, .inl (G.2 0, 6, .inl (upd (upd (upd (upd (upd (fun _ => 0) 0 (60 : Int32)) 1 (60 : Int32)) 2 (60 : Int32)) 3 (60 : Int32)) mm vv)))] : va_W)) rfl 3 rfl rfl rfl (fun _ _ => rfl) ?_
  refine J_dup (pc := 62) C 45 rfl rfl ?_
  refine J_iconst (pc := 63) (v := (5 : Int32)) C 46 rfl rfl ?_
  refine J_bipush (pc := 64) (v := (60 : Int32)) C 47 rfl rfl ?_
  refine J_iast (pc := 66) (f := (upd (upd (upd (upd (upd (fun _ => 0) 0 (60 : Int32)) 1 (60 : Int32)) 2 (60 : Int32)) 3 (60 : Int32)) 4 (60 : Int32))) (m := 5) C 48 (fun mm vv => ([(h0, .inr (2, [.ref q1, .ref q2, .null, .null, .null, .null, .null, .null, .int 0, .int 0])), (q1, .inl (G.2 0, 3, .inl (upd (upd (upd (fun _ => 0) 0 (1 : Int32)) 1 (1 : Int32)) 2 (10 : Int32)))), (q2, .inl (G.2 0, 6, .inl (fun _ => 0))), (q3, .inl (G.2 0, 6, .inl (upd (upd (upd (upd (upd (upd (fun _ => 0) 0 (60 : Int32)) 1 (60 : Int32)) 2 (60 : Int32)) 3 (60 : Int32)) 4 (60 : Int32)) mm vv)))] : va_W)) rfl 3 rfl rfl rfl (fun _ _ => rfl) ?_
  refine J_putF (pc := 67) (ws2 := ([(h0, .inr (2, [.ref q1, .ref q2, .ref q3, .null, .null, .null, .null, .null, .int 0, .int 0])), (q1, .inl (G.2 0, 3, .inl (upd (upd (upd (fun _ => 0) 0 (1 : Int32)) 1 (1 : Int32)) 2 (10 : Int32)))), (q2, .inl (G.2 0, 6, .inl (fun _ => 0))), (q3, .inl (G.2 0, 6, .inl (upd (upd (upd (upd (upd (upd (fun _ => 0) 0 (60 : Int32)) 1 (60 : Int32)) 2 (60 : Int32)) 3 (60 : Int32)) 4 (60 : Int32)) 5 (60 : Int32))))] : va_W)) C 49 hin rfl TB_l2 tyX2 tyX2_ok nmX2 rfl 0 2 rfl (by decide) k7 rfl rfl rfl rfl rfl rfl (Nat.le_of_ble_eq_true rfl) rfl ?_
  refine J_aload_n (pc := 70) C 50 rfl 0 rfl rfl ?_
  refine J_bipush (pc := 71) (v := (16 : Int32)) C 51 rfl rfl ?_
  refine J_newaI (pc := 73) (N := 16) C 52 rfl k4 (by decide) rfl (Nat.le_of_ble_eq_true rfl) (Nat.le_of_ble_eq_true rfl) (Nat.le_of_ble_eq_true rfl) (fun q4 => ?_)
  refine J_putF (pc := 75) (ws2 := ([(h0, .inr (2, [.ref q1, .ref q2, .ref q3, .ref q4, .null, .null, .null, .null, .int 0, .int 0])), (q1, .inl (G.2 0, 3, .inl (upd (upd (upd (fun _ => 0) 0 (1 : Int32)) 1 (1 : Int32)) 2 (10 : Int32)))), (q2, .inl (G.2 0, 6, .inl (fun _ => 0))), (q3, .inl (G.2 0, 6, .inl (upd (upd (upd (upd (upd (upd (fun _ => 0) 0 (60 : Int32)) 1 (60 : Int32)) 2 (60 : Int32)) 3 (60 : Int32)) 4 (60 : Int32)) 5 (60 : Int32)))), (q4, .inl (G.2 0, 16, .inl (fun _ => 0)))] : va_W)) C 53 hin rfl TB_l2 tyX2 tyX2_ok nmX2 rfl 0 3 rfl (by decide) k8 rfl rfl rfl rfl rfl rfl (Nat.le_of_ble_eq_true rfl) rfl ?_
  refine J_aload_n (pc := 78) C 54 rfl 0 rfl rfl ?_
  refine J_bipush (pc := 79) (v := (16 : Int32)) C 55 rfl rfl ?_
  refine J_newaI (pc := 81) (N := 16) C 56 rfl k4 (by decide) rfl (Nat.le_of_ble_eq_true rfl) (Nat.le_of_ble_eq_true rfl) (Nat.le_of_ble_eq_true rfl) (fun q5 => ?_)
  refine J_putF (pc := 83) (ws2 := ([(h0, .inr (2, [.ref q1, .ref q2, .ref q3, .ref q4, .ref q5, .null, .null, .null, .int 0, .int 0])), (q1, .inl (G.2 0, 3, .inl (upd (upd (upd (fun _ => 0) 0 (1 : Int32)) 1 (1 : Int32)) 2 (10 : Int32)))), (q2, .inl (G.2 0, 6, .inl (fun _ => 0))), (q3, .inl (G.2 0, 6, .inl (upd (upd (upd (upd (upd (upd (fun _ => 0) 0 (60 : Int32)) 1 (60 : Int32)) 2 (60 : Int32)) 3 (60 : Int32)) 4 (60 : Int32)) 5 (60 : Int32)))), (q4, .inl (G.2 0, 16, .inl (fun _ => 0))), (q5, .inl (G.2 0, 16, .inl (fun _ => 0)))] : va_W)) C 57 hin rfl TB_l2 tyX2 tyX2_ok nmX2 rfl 0 4 rfl (by decide) k9 rfl rfl rfl rfl rfl rfl (Nat.le_of_ble_eq_true rfl) rfl ?_
  refine J_aload_n (pc := 86) C 58 rfl 0 rfl rfl ?_
  refine J_bipush (pc := 87) (v := (16 : Int32)) C 59 rfl rfl ?_
  refine J_newaZ (pc := 89) (N := 16) C 60 rfl k10 (by decide) rfl (Nat.le_of_ble_eq_true rfl) (Nat.le_of_ble_eq_true rfl) (Nat.le_of_ble_eq_true rfl) (fun q6 => ?_)
  refine J_putF (pc := 91) (ws2 := ([(h0, .inr (2, [.ref q1, .ref q2, .ref q3, .ref q4, .ref q5, .ref q6, .null, .null, .int 0, .int 0])), (q1, .inl (G.2 0, 3, .inl (upd (upd (upd (fun _ => 0) 0 (1 : Int32)) 1 (1 : Int32)) 2 (10 : Int32)))), (q2, .inl (G.2 0, 6, .inl (fun _ => 0))), (q3, .inl (G.2 0, 6, .inl (upd (upd (upd (upd (upd (upd (fun _ => 0) 0 (60 : Int32)) 1 (60 : Int32)) 2 (60 : Int32)) 3 (60 : Int32)) 4 (60 : Int32)) 5 (60 : Int32)))), (q4, .inl (G.2 0, 16, .inl (fun _ => 0))), (q5, .inl (G.2 0, 16, .inl (fun _ => 0))), (q6, .inl (G.2 1, 16, .inl (fun _ => 0)))] : va_W)) C 61 hin rfl TB_l2 tyX2 tyX2_ok nmX2 rfl 0 5 rfl (by decide) k11 rfl rfl rfl rfl rfl rfl (Nat.le_of_ble_eq_true rfl) rfl ?_
  refine J_aload_n (pc := 94) C 62 rfl 0 rfl rfl ?_
  refine J_iconst (pc := 95) (v := (4 : Int32)) C 63 rfl rfl ?_
  refine J_newaI (pc := 96) (N := 4) C 64 rfl k4 (by decide) rfl (Nat.le_of_ble_eq_true rfl) (Nat.le_of_ble_eq_true rfl) (Nat.le_of_ble_eq_true rfl) (fun q7 => ?_)
  refine J_dup (pc := 98) C 65 rfl rfl ?_
  refine J_iconst (pc := 99) (v := (0 : Int32)) C 66 rfl rfl ?_
  refine J_iconst (pc := 100) (v := (2 : Int32)) C 67 rfl rfl ?_
  refine J_iast (pc := 101) (f := (fun _ => 0)) (m := 0) C 68 (fun mm vv => ([(h0, .inr (2, [.ref q1, .ref q2, .ref q3, .ref q4, .ref q5, .ref q6, .null, .null, .int 0, .int 0])), (q1, .inl (G.2 0, 3, .inl (upd (upd (upd (fun _ => 0) 0 (1 : Int32)) 1 (1 : Int32)) 2 (10 : Int32)))), (q2, .inl (G.2 0, 6, .inl (fun _ => 0))), (q3, .inl (G.2 0, 6, .inl (upd (upd (upd (upd (upd (upd (fun _ => 0) 0 (60 : Int32)) 1 (60 : Int32)) 2 (60 : Int32)) 3 (60 : Int32)) 4 (60 : Int32)) 5 (60 : Int32)))), (q4, .inl (G.2 0, 16, .inl (fun _ => 0))), (q5, .inl (G.2 0, 16, .inl (fun _ => 0))), (q6, .inl (G.2 1, 16, .inl (fun _ => 0))), (q7, .inl (G.2 0, 4, .inl (upd (fun _ => 0) mm vv)))] : va_W)) rfl 7 rfl rfl rfl (fun _ _ => rfl) ?_
  refine J_dup (pc := 102) C 69 rfl rfl ?_
  refine J_iconst (pc := 103) (v := (1 : Int32)) C 70 rfl rfl ?_
  refine J_iconst (pc := 104) (v := (2 : Int32)) C 71 rfl rfl ?_
  refine J_iast (pc := 105) (f := (upd (fun _ => 0) 0 (2 : Int32))) (m := 1) C 72 (fun mm vv => ([(h0, .inr (2, [.ref q1, .ref q2, .ref q3, .ref q4, .ref q5, .ref q6, .null, .null, .int 0, .int 0])), (q1, .inl (G.2 0, 3, .inl (upd (upd (upd (fun _ => 0) 0 (1 : Int32)) 1 (1 : Int32)) 2 (10 : Int32)))), (q2, .inl (G.2 0, 6, .inl (fun _ => 0))), (q3, .inl (G.2 0, 6, .inl (upd (upd (upd (upd (upd (upd (fun _ => 0) 0 (60 : Int32)) 1 (60 : Int32)) 2 (60 : Int32)) 3 (60 : Int32)) 4 (60 : Int32)) 5 (60 : Int32)))), (q4, .inl (G.2 0, 16, .inl (fun _ => 0))), (q5, .inl (G.2 0, 16, .inl (fun _ => 0))), (q6, .inl (G.2 1, 16, .inl (fun _ => 0))), (q7, .inl (G.2 0, 4, .inl (upd (upd (fun _ => 0) 0 (2 : Int32)) mm vv)))] : va_W)) rfl 7 rfl rfl rfl (fun _ _ => rfl) ?_
  refine J_dup (pc := 106) C 73 rfl rfl ?_
  refine J_iconst (pc := 107) (v := (2 : Int32)) C 74 rfl rfl ?_
  refine J_iconst (pc := 108) (v := (2 : Int32)) C 75 rfl rfl ?_
  refine J_iast (pc := 109) (f := (upd (upd (fun _ => 0) 0 (2 : Int32)) 1 (2 : Int32))) (m := 2) C 76 (fun mm vv => ([(h0, .inr (2, [.ref q1, .ref q2, .ref q3, .ref q4, .ref q5, .ref q6, .null, .null, .int 0, .int 0])), (q1, .inl (G.2 0, 3, .inl (upd (upd (upd (fun _ => 0) 0 (1 : Int32)) 1 (1 : Int32)) 2 (10 : Int32)))), (q2, .inl (G.2 0, 6, .inl (fun _ => 0))), (q3, .inl (G.2 0, 6, .inl (upd (upd (upd (upd (upd (upd (fun _ => 0) 0 (60 : Int32)) 1 (60 : Int32)) 2 (60 : Int32)) 3 (60 : Int32)) 4 (60 : Int32)) 5 (60 : Int32)))), (q4, .inl (G.2 0, 16, .inl (fun _ => 0))), (q5, .inl (G.2 0, 16, .inl (fun _ => 0))), (q6, .inl (G.2 1, 16, .inl (fun _ => 0))), (q7, .inl (G.2 0, 4, .inl (upd (upd (upd (fun _ => 0) 0 (2 : Int32)) 1 (2 : Int32)) mm vv)))] : va_W)) rfl 7 rfl rfl rfl (fun _ _ => rfl) ?_
  refine J_dup (pc := 110) C 77 rfl rfl ?_
  refine J_iconst (pc := 111) (v := (3 : Int32)) C 78 rfl rfl ?_
  refine J_iconst (pc := 112) (v := (2 : Int32)) C 79 rfl rfl ?_
  refine J_iast (pc := 113) (f := (upd (upd (upd (fun _ => 0) 0 (2 : Int32)) 1 (2 : Int32)) 2 (2 : Int32))) (m := 3) C 80 (fun mm vv => ([(h0, .inr (2, [.ref q1, .ref q2, .ref q3, .ref q4, .ref q5, .ref q6, .null, .null, .int 0, .int 0])), (q1, .inl (G.2 0, 3, .inl (upd (upd (upd (fun _ => 0) 0 (1 : Int32)) 1 (1 : Int32)) 2 (10 : Int32)))), (q2, .inl (G.2 0, 6, .inl (fun _ => 0))), (q3, .inl (G.2 0, 6, .inl (upd (upd (upd (upd (upd (upd (fun _ => 0) 0 (60 : Int32)) 1 (60 : Int32)) 2 (60 : Int32)) 3 (60 : Int32)) 4 (60 : Int32)) 5 (60 : Int32)))), (q4, .inl (G.2 0, 16, .inl (fun _ => 0))), (q5, .inl (G.2 0, 16, .inl (fun _ => 0))), (q6, .inl (G.2 1, 16, .inl (fun _ => 0))), (q7, .inl (G.2 0, 4, .inl (upd (upd (upd (upd (fun _ => 0) 0 (2 : Int32)) 1 (2 : Int32)) 2 (2 : Int32)) mm vv)))] : va_W)) rfl 7 rfl rfl rfl (fun _ _ => rfl) ?_
  refine J_putF (pc := 114) (ws2 := ([(h0, .inr (2, [.ref q1, .ref q2, .ref q3, .ref q4, .ref q5, .ref q6, .ref q7, .null, .int 0, .int 0])), (q1, .inl (G.2 0, 3, .inl (upd (upd (upd (fun _ => 0) 0 (1 : Int32)) 1 (1 : Int32)) 2 (10 : Int32)))), (q2, .inl (G.2 0, 6, .inl (fun _ => 0))), (q3, .inl (G.2 0, 6, .inl (upd (upd (upd (upd (upd (upd (fun _ => 0) 0 (60 : Int32)) 1 (60 : Int32)) 2 (60 : Int32)) 3 (60 : Int32)) 4 (60 : Int32)) 5 (60 : Int32)))), (q4, .inl (G.2 0, 16, .inl (fun _ => 0))), (q5, .inl (G.2 0, 16, .inl (fun _ => 0))), (q6, .inl (G.2 1, 16, .inl (fun _ => 0))), (q7, .inl (G.2 0, 4, .inl (upd (upd (upd (upd (fun _ => 0) 0 (2 : Int32)) 1 (2 : Int32)) 2 (2 : Int32)) 3 (2 : Int32))))] : va_W)) C 81 hin rfl TB_l2 tyX2 tyX2_ok nmX2 rfl 0 6 rfl (by decide) k12 rfl rfl rfl rfl rfl rfl (Nat.le_of_ble_eq_true rfl) rfl ?_
  refine J_aload_n (pc := 117) C 82 rfl 0 rfl rfl ?_
  refine J_iconst (pc := 118) (v := (4 : Int32)) C 83 rfl rfl ?_
  refine J_newaI (pc := 119) (N := 4) C 84 rfl k4 (by decide) rfl (Nat.le_of_ble_eq_true rfl) (Nat.le_of_ble_eq_true rfl) (Nat.le_of_ble_eq_true rfl) (fun q8 => ?_)
  refine J_dup (pc := 121) C 85 rfl rfl ?_
  refine J_iconst (pc := 122) (v := (0 : Int32)) C 86 rfl rfl ?_
  refine J_iconst (pc := 123) (v := (2 : Int32)) C 87 rfl rfl ?_
  refine J_iast (pc := 124) (f := (fun _ => 0)) (m := 0) C 88 (fun mm vv => ([(h0, .inr (2, [.ref q1, .ref q2, .ref q3, .ref q4, .ref q5, .ref q6, .ref q7, .null, .int 0, .int 0])), (q1, .inl (G.2 0, 3, .inl (upd (upd (upd (fun _ => 0) 0 (1 : Int32)) 1 (1 : Int32)) 2 (10 : Int32)))), (q2, .inl (G.2 0, 6, .inl (fun _ => 0))), (q3, .inl (G.2 0, 6, .inl (upd (upd (upd (upd (upd (upd (fun _ => 0) 0 (60 : Int32)) 1 (60 : Int32)) 2 (60 : Int32)) 3 (60 : Int32)) 4 (60 : Int32)) 5 (60 : Int32)))), (q4, .inl (G.2 0, 16, .inl (fun _ => 0))), (q5, .inl (G.2 0, 16, .inl (fun _ => 0))), (q6, .inl (G.2 1, 16, .inl (fun _ => 0))), (q7, .inl (G.2 0, 4, .inl (upd (upd (upd (upd (fun _ => 0) 0 (2 : Int32)) 1 (2 : Int32)) 2 (2 : Int32)) 3 (2 : Int32)))), (q8, .inl (G.2 0, 4, .inl (upd (fun _ => 0) mm vv)))] : va_W)) rfl 8 rfl rfl rfl (fun _ _ => rfl) ?_
  refine J_dup (pc := 125) C 89 rfl rfl ?_
  refine J_iconst (pc := 126) (v := (1 : Int32)) C 90 rfl rfl ?_
  refine J_iconst (pc := 127) (v := (2 : Int32)) C 91 rfl rfl ?_
  refine J_iast (pc := 128) (f := (upd (fun _ => 0) 0 (2 : Int32))) (m := 1) C 92 (fun mm vv => ([(h0, .inr (2, [.ref q1, .ref q2, .ref q3, .ref q4, .ref q5, .ref q6, .ref q7, .null, .int 0, .int 0])), (q1, .inl (G.2 0, 3, .inl (upd (upd (upd (fun _ => 0) 0 (1 : Int32)) 1 (1 : Int32)) 2 (10 : Int32)))), (q2, .inl (G.2 0, 6, .inl (fun _ => 0))), (q3, .inl (G.2 0, 6, .inl (upd (upd (upd (upd (upd (upd (fun _ => 0) 0 (60 : Int32)) 1 (60 : Int32)) 2 (60 : Int32)) 3 (60 : Int32)) 4 (60 : Int32)) 5 (60 : Int32)))), (q4, .inl (G.2 0, 16, .inl (fun _ => 0))), (q5, .inl (G.2 0, 16, .inl (fun _ => 0))), (q6, .inl (G.2 1, 16, .inl (fun _ => 0))), (q7, .inl (G.2 0, 4, .inl (upd (upd (upd (upd (fun _ => 0) 0 (2 : Int32)) 1 (2 : Int32)) 2 (2 : Int32)) 3 (2 : Int32)))), (q8, .inl (G.2 0, 4, .inl (upd (upd (fun _ => 0) 0 (2 : Int32)) mm vv)))] : va_W)) rfl 8 rfl rfl rfl (fun _ _ => rfl) ?_
  refine J_dup (pc := 129) C 93 rfl rfl ?_
  refine J_iconst (pc := 130) (v := (2 : Int32)) C 94 rfl rfl ?_
  refine J_iconst (pc := 131) (v := (2 : Int32)) C 95 rfl rfl ?_
  refine J_iast (pc := 132) (f := (upd (upd (fun _ => 0) 0 (2 : Int32)) 1 (2 : Int32))) (m := 2) C 96 (fun mm vv => ([(h0, .inr (2, [.ref q1, .ref q2, .ref q3, .ref q4, .ref q5, .ref q6, .ref q7, .null, .int 0, .int 0])), (q1, .inl (G.2 0, 3, .inl (upd (upd (upd (fun _ => 0) 0 (1 : Int32)) 1 (1 : Int32)) 2 (10 : Int32)))), (q2, .inl (G.2 0, 6, .inl (fun _ => 0))), (q3, .inl (G.2 0, 6, .inl (upd (upd (upd (upd (upd (upd (fun _ => 0) 0 (60 : Int32)) 1 (60 : Int32)) 2 (60 : Int32)) 3 (60 : Int32)) 4 (60 : Int32)) 5 (60 : Int32)))), (q4, .inl (G.2 0, 16, .inl (fun _ => 0))), (q5, .inl (G.2 0, 16, .inl (fun _ => 0))), (q6, .inl (G.2 1, 16, .inl (fun _ => 0))), (q7, .inl (G.2 0, 4, .inl (upd (upd (upd (upd (fun _ => 0) 0 (2 : Int32)) 1 (2 : Int32)) 2 (2 : Int32)) 3 (2 : Int32)))), (q8, .inl (G.2 0, 4, .inl (upd (upd (upd (fun _ => 0) 0 (2 : Int32)) 1 (2 : Int32)) mm vv)))] : va_W)) rfl 8 rfl rfl rfl (fun _ _ => rfl) ?_
  refine J_dup (pc := 133) C 97 rfl rfl ?_
  refine J_iconst (pc := 134) (v := (3 : Int32)) C 98 rfl rfl ?_
  refine J_iconst (pc := 135) (v := (2 : Int32)) C 99 rfl rfl ?_
  refine J_iast (pc := 136) (f := (upd (upd (upd (fun _ => 0) 0 (2 : Int32)) 1 (2 : Int32)) 2 (2 : Int32))) (m := 3) C 100 (fun mm vv => ([(h0, .inr (2, [.ref q1, .ref q2, .ref q3, .ref q4, .ref q5, .ref q6, .ref q7, .null, .int 0, .int 0])), (q1, .inl (G.2 0, 3, .inl (upd (upd (upd (fun _ => 0) 0 (1 : Int32)) 1 (1 : Int32)) 2 (10 : Int32)))), (q2, .inl (G.2 0, 6, .inl (fun _ => 0))), (q3, .inl (G.2 0, 6, .inl (upd (upd (upd (upd (upd (upd (fun _ => 0) 0 (60 : Int32)) 1 (60 : Int32)) 2 (60 : Int32)) 3 (60 : Int32)) 4 (60 : Int32)) 5 (60 : Int32)))), (q4, .inl (G.2 0, 16, .inl (fun _ => 0))), (q5, .inl (G.2 0, 16, .inl (fun _ => 0))), (q6, .inl (G.2 1, 16, .inl (fun _ => 0))), (q7, .inl (G.2 0, 4, .inl (upd (upd (upd (upd (fun _ => 0) 0 (2 : Int32)) 1 (2 : Int32)) 2 (2 : Int32)) 3 (2 : Int32)))), (q8, .inl (G.2 0, 4, .inl (upd (upd (upd (upd (fun _ => 0) 0 (2 : Int32)) 1 (2 : Int32)) 2 (2 : Int32)) mm vv)))] : va_W)) rfl 8 rfl rfl rfl (fun _ _ => rfl) ?_
  refine J_putF (pc := 137) (ws2 := ([(h0, .inr (2, [.ref q1, .ref q2, .ref q3, .ref q4, .ref q5, .ref q6, .ref q7, .ref q8, .int 0, .int 0])), (q1, .inl (G.2 0, 3, .inl (upd (upd (upd (fun _ => 0) 0 (1 : Int32)) 1 (1 : Int32)) 2 (10 : Int32)))), (q2, .inl (G.2 0, 6, .inl (fun _ => 0))), (q3, .inl (G.2 0, 6, .inl (upd (upd (upd (upd (upd (upd (fun _ => 0) 0 (60 : Int32)) 1 (60 : Int32)) 2 (60 : Int32)) 3 (60 : Int32)) 4 (60 : Int32)) 5 (60 : Int32)))), (q4, .inl (G.2 0, 16, .inl (fun _ => 0))), (q5, .inl (G.2 0, 16, .inl (fun _ => 0))), (q6, .inl (G.2 1, 16, .inl (fun _ => 0))), (q7, .inl (G.2 0, 4, .inl (upd (upd (upd (upd (fun _ => 0) 0 (2 : Int32)) 1 (2 : Int32)) 2 (2 : Int32)) 3 (2 : Int32)))), (q8, .inl (G.2 0, 4, .inl (upd (upd (upd (upd (fun _ => 0) 0 (2 : Int32)) 1 (2 : Int32)) 2 (2 : Int32)) 3 (2 : Int32))))] : va_W)) C 101 hin rfl TB_l2 tyX2 tyX2_ok nmX2 rfl 0 7 rfl (by decide) k13 rfl rfl rfl rfl rfl rfl (Nat.le_of_ble_eq_true rfl) rfl ?_
  refine J_aload_n (pc := 140) C 102 rfl 0 rfl rfl ?_
  refine J_iconst (pc := 141) (v := (0 : Int32)) C 103 rfl rfl ?_
  refine J_puti (pc := 142) C 104 (fun vv => ([(h0, .inr (2, [.ref q1, .ref q2, .ref q3, .ref q4, .ref q5, .ref q6, .ref q7, .ref q8, .int vv, .int 0])), (q1, .inl (G.2 0, 3, .inl (upd (upd (upd (fun _ => 0) 0 (1 : Int32)) 1 (1 : Int32)) 2 (10 : Int32)))), (q2, .inl (G.2 0, 6, .inl (fun _ => 0))), (q3, .inl (G.2 0, 6, .inl (upd (upd (upd (upd (upd (upd (fun _ => 0) 0 (60 : Int32)) 1 (60 : Int32)) 2 (60 : Int32)) 3 (60 : Int32)) 4 (60 : Int32)) 5 (60 : Int32)))), (q4, .inl (G.2 0, 16, .inl (fun _ => 0))), (q5, .inl (G.2 0, 16, .inl (fun _ => 0))), (q6, .inl (G.2 1, 16, .inl (fun _ => 0))), (q7, .inl (G.2 0, 4, .inl (upd (upd (upd (upd (fun _ => 0) 0 (2 : Int32)) 1 (2 : Int32)) 2 (2 : Int32)) 3 (2 : Int32)))), (q8, .inl (G.2 0, 4, .inl (upd (upd (upd (upd (fun _ => 0) 0 (2 : Int32)) 1 (2 : Int32)) 2 (2 : Int32)) 3 (2 : Int32))))] : va_W)) rfl TB_l2 tyX2 tyX2_ok nmX2 rfl 0 8 rfl (by decide) k14 rfl rfl rfl (Nat.le_of_ble_eq_true rfl) (fun _ => rfl) ?_
  refine J_aload_n (pc := 145) C 105 rfl 0 rfl rfl ?_
  refine J_iconst (pc := 146) (v := (1 : Int32)) C 106 rfl rfl ?_
  refine J_puti (pc := 147) C 107 (fun vv => ([(h0, .inr (2, [.ref q1, .ref q2, .ref q3, .ref q4, .ref q5, .ref q6, .ref q7, .ref q8, .int (0 : Int32), .int vv])), (q1, .inl (G.2 0, 3, .inl (upd (upd (upd (fun _ => 0) 0 (1 : Int32)) 1 (1 : Int32)) 2 (10 : Int32)))), (q2, .inl (G.2 0, 6, .inl (fun _ => 0))), (q3, .inl (G.2 0, 6, .inl (upd (upd (upd (upd (upd (upd (fun _ => 0) 0 (60 : Int32)) 1 (60 : Int32)) 2 (60 : Int32)) 3 (60 : Int32)) 4 (60 : Int32)) 5 (60 : Int32)))), (q4, .inl (G.2 0, 16, .inl (fun _ => 0))), (q5, .inl (G.2 0, 16, .inl (fun _ => 0))), (q6, .inl (G.2 1, 16, .inl (fun _ => 0))), (q7, .inl (G.2 0, 4, .inl (upd (upd (upd (upd (fun _ => 0) 0 (2 : Int32)) 1 (2 : Int32)) 2 (2 : Int32)) 3 (2 : Int32)))), (q8, .inl (G.2 0, 4, .inl (upd (upd (upd (upd (fun _ => 0) 0 (2 : Int32)) 1 (2 : Int32)) 2 (2 : Int32)) 3 (2 : Int32))))] : va_W)) rfl TB_l2 tyX2 tyX2_ok nmX2 rfl 0 9 rfl (by decide) k15 rfl rfl rfl (Nat.le_of_ble_eq_true rfl) (fun _ => rfl) ?_
  exact J_cret (pc := 150) C 108 (fun i => [h0, q1, q2, q3, q4, q5, q6, q7, q8].getD i 0) rfl rfl
def T_X1_init : List (Nat × ClassFile.Instr × Nat) := [(0, .aload_n 0, 1), (1, .invokespecial 3, 3), (4, .aload_n 0, 1), (5, .bipush 60, 2), (7, .newarray .int, 2), (9, .putfield 9, 3), (12, .aload_n 0, 1), (13, .iconst 0, 1), (14, .putfield 15, 3), (17, .aload_n 0, 1), (18, .bipush 30, 2), (20, .newarray .int, 2), (22, .putfield 19, 3), (25, .aload_n 0, 1), (26, .bipush 30, 2), (28, .newarray .int, 2), (30, .putfield 22, 3), (33, .aload_n 0, 1), (34, .bipush 30, 2), (36, .newarray .boolean, 2), (38, .putfield 25, 3), (41, .aload_n 0, 1), (42, .iconst 0, 1), (43, .putfield 29, 3), (46, .aload_n 0, 1), (47, .iconst 0, 1), (48, .putfield 32, 3), (51, .aload_n 0, 1), (52, .iconst 0, 1), (53, .putfield 35, 3), (56, .aload_n 0, 1), (57, .iconst 0, 1), (58, .putfield 38, 3), (61, .aload_n 0, 1), (62, .iconst 0, 1), (63, .putfield 41, 3), (66, .return_, 1)]
theorem D_X1_init : ∀ q ∈ T_X1_init, decode cX1_init q.1 = .ok q.2 := by decide +kernel
theorem V_X1_init : Vy yX1_init cX1_init 1 none 0 := ⟨k35, k202, by decide +kernel⟩
def vi_X1 : JV := fun k => match k with
  | 0 => (fun _ => 0)
  | 1 => (fun _ => (0 : Int32))
  | 2 => (fun _ => 0)
  | 3 => (fun _ => 0)
  | 4 => (fun _ => 0)
  | 5 => (fun _ => (0 : Int32))
  | 6 => (fun _ => (0 : Int32))
  | 7 => (fun _ => (0 : Int32))
  | 8 => (fun _ => (0 : Int32))
  | 9 => (fun _ => (0 : Int32))
  | _ => (fun _ => 0)
set_option maxRecDepth 100000 in
set_option maxHeartbeats 4000000 in
theorem c_X1_init {l : Launch} {G : JG} {h0 : Nat} : JMC (U := Nat → Nat) l G yX1_init cX1_init 1 1 12 4 150 h0 1 [.null, .int 0, .null, .null, .null, .int 0, .int 0, .int 0, .int 0, .int 0] (fun u => u 0 = h0) (fun u => wPad G u (vi_X1 0) (vi_X1 1 0) (vi_X1 2) (vi_X1 3) (vi_X1 4) (vi_X1 5 0) (vi_X1 6 0) (vi_X1 7 0) (vi_X1 8 0) (vi_X1 9 0)) := by
  refine JMC.of (own := RX1) (tb := T_X1_init) (by decide) (Nat.le_of_ble_eq_true rfl) D_X1_init rfl rfl (fun X C hin => ?_)
  refine J_aload_n (pc := 0) C 0 rfl 0 rfl rfl ?_
  refine J_oinit (pc := 1) C 1 rfl k36 (by decide) (Nat.le_of_ble_eq_true rfl) ?_
  refine J_aload_n (pc := 4) C 2 rfl 0 rfl rfl ?_
  refine J_bipush (pc := 5) (v := (60 : Int32)) C 3 rfl rfl ?_
  refine J_newaI (pc := 7) (N := 60) C 4 rfl k4 (by decide) rfl (Nat.le_of_ble_eq_true rfl) (Nat.le_of_ble_eq_true rfl) (Nat.le_of_ble_eq_true rfl) (fun q1 => ?_)
  refine J_putF (pc := 9) (ws2 := ([(h0, .inr (1, [.ref q1, .int 0, .null, .null, .null, .int 0, .int 0, .int 0, .int 0, .int 0])), (q1, .inl (G.2 0, 60, .inl (fun _ => 0)))] : va_W)) C 5 hin rfl TB_l1 tyX1 tyX1_ok nmX1 rfl 0 0 rfl (by decide) k37 rfl rfl rfl rfl rfl rfl (Nat.le_of_ble_eq_true rfl) rfl ?_
  refine J_aload_n (pc := 12) C 6 rfl 0 rfl rfl ?_
  refine J_iconst (pc := 13) (v := (0 : Int32)) C 7 rfl rfl ?_
  refine J_puti (pc := 14) C 8 (fun vv => ([(h0, .inr (1, [.ref q1, .int vv, .null, .null, .null, .int 0, .int 0, .int 0, .int 0, .int 0])), (q1, .inl (G.2 0, 60, .inl (fun _ => 0)))] : va_W)) rfl TB_l1 tyX1 tyX1_ok nmX1 rfl 0 1 rfl (by decide) k38 rfl rfl rfl (Nat.le_of_ble_eq_true rfl) (fun _ => rfl) ?_
  refine J_aload_n (pc := 17) C 9 rfl 0 rfl rfl ?_
  refine J_bipush (pc := 18) (v := (30 : Int32)) C 10 rfl rfl ?_
  refine J_newaI (pc := 20) (N := 30) C 11 rfl k4 (by decide) rfl (Nat.le_of_ble_eq_true rfl) (Nat.le_of_ble_eq_true rfl) (Nat.le_of_ble_eq_true rfl) (fun q2 => ?_)
  refine J_putF (pc := 22) (ws2 := ([(h0, .inr (1, [.ref q1, .int (0 : Int32), .ref q2, .null, .null, .int 0, .int 0, .int 0, .int 0, .int 0])), (q1, .inl (G.2 0, 60, .inl (fun _ => 0))), (q2, .inl (G.2 0, 30, .inl (fun _ => 0)))] : va_W)) C 12 hin rfl TB_l1 tyX1 tyX1_ok nmX1 rfl 0 2 rfl (by decide) k39 rfl rfl rfl rfl rfl rfl (Nat.le_of_ble_eq_true rfl) rfl ?_
  refine J_aload_n (pc := 25) C 13 rfl 0 rfl rfl ?_
  refine J_bipush (pc := 26) (v := (30 : Int32)) C 14 rfl rfl ?_
  refine J_newaI (pc := 28) (N := 30) C 15 rfl k4 (by decide) rfl (Nat.le_of_ble_eq_true rfl) (Nat.le_of_ble_eq_true rfl) (Nat.le_of_ble_eq_true rfl) (fun q3 => ?_)
  refine J_putF (pc := 30) (ws2 := ([(h0, .inr (1, [.ref q1, .int (0 : Int32), .ref q2, .ref q3, .null, .int 0, .int 0, .int 0, .int 0, .int 0])), (q1, .inl (G.2 0, 60, .inl (fun _ => 0))), (q2, .inl (G.2 0, 30, .inl (fun _ => 0))), (q3, .inl (G.2 0, 30, .inl (fun _ => 0)))] : va_W)) C 16 hin rfl TB_l1 tyX1 tyX1_ok nmX1 rfl 0 3 rfl (by decide) k40 rfl rfl rfl rfl rfl rfl (Nat.le_of_ble_eq_true rfl) rfl ?_
  refine J_aload_n (pc := 33) C 17 rfl 0 rfl rfl ?_
  refine J_bipush (pc := 34) (v := (30 : Int32)) C 18 rfl rfl ?_
  refine J_newaZ (pc := 36) (N := 30) C 19 rfl k10 (by decide) rfl (Nat.le_of_ble_eq_true rfl) (Nat.le_of_ble_eq_true rfl) (Nat.le_of_ble_eq_true rfl) (fun q4 => ?_)
  refine J_putF (pc := 38) (ws2 := ([(h0, .inr (1, [.ref q1, .int (0 : Int32), .ref q2, .ref q3, .ref q4, .int 0, .int 0, .int 0, .int 0, .int 0])), (q1, .inl (G.2 0, 60, .inl (fun _ => 0))), (q2, .inl (G.2 0, 30, .inl (fun _ => 0))), (q3, .inl (G.2 0, 30, .inl (fun _ => 0))), (q4, .inl (G.2 1, 30, .inl (fun _ => 0)))] : va_W)) C 20 hin rfl TB_l1 tyX1 tyX1_ok nmX1 rfl 0 4 rfl (by decide) k41 rfl rfl rfl rfl rfl rfl (Nat.le_of_ble_eq_true rfl) rfl ?_
  refine J_aload_n (pc := 41) C 21 rfl 0 rfl rfl ?_
  refine J_iconst (pc := 42) (v := (0 : Int32)) C 22 rfl rfl ?_
  refine J_puti (pc := 43) C 23 (fun vv => ([(h0, .inr (1, [.ref q1, .int (0 : Int32), .ref q2, .ref q3, .ref q4, .int vv, .int 0, .int 0, .int 0, .int 0])), (q1, .inl (G.2 0, 60, .inl (fun _ => 0))), (q2, .inl (G.2 0, 30, .inl (fun _ => 0))), (q3, .inl (G.2 0, 30, .inl (fun _ => 0))), (q4, .inl (G.2 1, 30, .inl (fun _ => 0)))] : va_W)) rfl TB_l1 tyX1 tyX1_ok nmX1 rfl 0 5 rfl (by decide) k42 rfl rfl rfl (Nat.le_of_ble_eq_true rfl) (fun _ => rfl) ?_
  refine J_aload_n (pc := 46) C 24 rfl 0 rfl rfl ?_
  refine J_iconst (pc := 47) (v := (0 : Int32)) C 25 rfl rfl ?_
  refine J_puti (pc := 48) C 26 (fun vv => ([(h0, .inr (1, [.ref q1, .int (0 : Int32), .ref q2, .ref q3, .ref q4, .int (0 : Int32), .int vv, .int 0, .int 0, .int 0])), (q1, .inl (G.2 0, 60, .inl (fun _ => 0))), (q2, .inl (G.2 0, 30, .inl (fun _ => 0))), (q3, .inl (G.2 0, 30, .inl (fun _ => 0))), (q4, .inl (G.2 1, 30, .inl (fun _ => 0)))] : va_W)) rfl TB_l1 tyX1 tyX1_ok nmX1 rfl 0 6 rfl (by decide) k43 rfl rfl rfl (Nat.le_of_ble_eq_true rfl) (fun _ => rfl) ?_
  refine J_aload_n (pc := 51) C 27 rfl 0 rfl rfl ?_
  refine J_iconst (pc := 52) (v := (0 : Int32)) C 28 rfl rfl ?_
  refine J_puti (pc := 53) C 29 (fun vv => ([(h0, .inr (1, [.ref q1, .int (0 : Int32), .ref q2, .ref q3, .ref q4, .int (0 : Int32), .int (0 : Int32), .int vv, .int 0, .int 0])), (q1, .inl (G.2 0, 60, .inl (fun _ => 0))), (q2, .inl (G.2 0, 30, .inl (fun _ => 0))), (q3, .inl (G.2 0, 30, .inl (fun _ => 0))), (q4, .inl (G.2 1, 30, .inl (fun _ => 0)))] : va_W)) rfl TB_l1 tyX1 tyX1_ok nmX1 rfl 0 7 rfl (by decide) k44 rfl rfl rfl (Nat.le_of_ble_eq_true rfl) (fun _ => rfl) ?_
  refine J_aload_n (pc := 56) C 30 rfl 0 rfl rfl ?_
  refine J_iconst (pc := 57) (v := (0 : Int32)) C 31 rfl rfl ?_
  refine J_puti (pc := 58) C 32 (fun vv => ([(h0, .inr (1, [.ref q1, .int (0 : Int32), .ref q2, .ref q3, .ref q4, .int (0 : Int32), .int (0 : Int32), .int (0 : Int32), .int vv, .int 0])), (q1, .inl (G.2 0, 60, .inl (fun _ => 0))), (q2, .inl (G.2 0, 30, .inl (fun _ => 0))), (q3, .inl (G.2 0, 30, .inl (fun _ => 0))), (q4, .inl (G.2 1, 30, .inl (fun _ => 0)))] : va_W)) rfl TB_l1 tyX1 tyX1_ok nmX1 rfl 0 8 rfl (by decide) k45 rfl rfl rfl (Nat.le_of_ble_eq_true rfl) (fun _ => rfl) ?_
  refine J_aload_n (pc := 61) C 33 rfl 0 rfl rfl ?_
  refine J_iconst (pc := 62) (v := (0 : Int32)) C 34 rfl rfl ?_
  refine J_putz (pc := 63) C 35 (fun vv => ([(h0, .inr (1, [.ref q1, .int (0 : Int32), .ref q2, .ref q3, .ref q4, .int (0 : Int32), .int (0 : Int32), .int (0 : Int32), .int (0 : Int32), .int vv])), (q1, .inl (G.2 0, 60, .inl (fun _ => 0))), (q2, .inl (G.2 0, 30, .inl (fun _ => 0))), (q3, .inl (G.2 0, 30, .inl (fun _ => 0))), (q4, .inl (G.2 1, 30, .inl (fun _ => 0)))] : va_W)) rfl rfl TB_l1 tyX1 tyX1_ok nmX1 rfl 0 9 rfl (by decide) k46 rfl rfl rfl (Nat.le_of_ble_eq_true rfl) (fun _ => rfl) ?_
  exact J_cret (pc := 66) C 36 (fun i => [h0, q1, q2, q3, q4].getD i 0) rfl rfl
def T_X3_init : List (Nat × ClassFile.Instr × Nat) := [(0, .aload_n 0, 1), (1, .invokespecial 3, 3), (4, .aload_n 0, 1), (5, .new 9, 3), (8, .dup, 1), (9, .invokespecial 11, 3), (12, .putfield 12, 3), (15, .aload_n 0, 1), (16, .bipush 96, 2), (18, .newarray .int, 2), (20, .putfield 18, 3), (23, .aload_n 0, 1), (24, .bipush 96, 2), (26, .newarray .int, 2), (28, .putfield 22, 3), (31, .aload_n 0, 1), (32, .bipush 96, 2), (34, .newarray .int, 2), (36, .putfield 25, 3), (39, .aload_n 0, 1), (40, .iconst 0, 1), (41, .putfield 28, 3), (44, .aload_n 0, 1), (45, .iconst 0, 1), (46, .putfield 32, 3), (49, .aload_n 0, 1), (50, .bipush 64, 2), (52, .newarray .int, 2), (54, .putfield 35, 3), (57, .aload_n 0, 1), (58, .bipush 64, 2), (60, .newarray .int, 2), (62, .putfield 38, 3), (65, .aload_n 0, 1), (66, .bipush 6, 2), (68, .newarray .int, 2), (70, .putfield 41, 3), (73, .return_, 1)]
theorem D_X3_init : ∀ q ∈ T_X3_init, decode cX3_init q.1 = .ok q.2 := by decide +kernel
theorem V_X3_init : Vy yX3_init cX3_init 1 none 0 := ⟨k129, k138, by decide +kernel⟩
def vi_X3 : JV := fun k => match k with
  | 1 => (fun _ => 0)
  | 2 => (fun _ => 0)
  | 3 => (fun _ => 0)
  | 4 => (fun _ => (0 : Int32))
  | 5 => (fun _ => (0 : Int32))
  | 6 => (fun _ => 0)
  | 7 => (fun _ => 0)
  | 8 => (fun _ => 0)
  | _ => (fun _ => 0)
set_option maxRecDepth 100000 in
set_option maxHeartbeats 4000000 in
theorem c_X3_init {l : Launch} {G : JG} {h0 : Nat} : JMC (U := (Nat → Nat) × (Nat → Nat)) l G yX3_init cX3_init 1 2 32 15 503 h0 3 [.null, .null, .null, .null, .int 0, .int 0, .null, .null, .null] (fun u => u.1 0 = h0) (fun u => wSeat G u.1 (u.2 0) (vi_X3 1) (vi_X3 2) (vi_X3 3) (vi_X3 4 0) (vi_X3 5 0) (vi_X3 6) (vi_X3 7) (vi_X3 8) ++ wSch G u.2 (vi_X2 0) (vi_X2 1) (vi_X2 2) (vi_X2 3) (vi_X2 4) (vi_X2 5) (vi_X2 6) (vi_X2 7) (vi_X2 8 0) (vi_X2 9 0)) := by
  refine JMC.of (own := RX3) (tb := T_X3_init) (by decide) (Nat.le_of_ble_eq_true rfl) D_X3_init rfl rfl (fun X C hin => ?_)
  refine J_aload_n (pc := 0) C 0 rfl 0 rfl rfl ?_
  refine J_oinit (pc := 1) C 1 rfl k118 (by decide) (Nat.le_of_ble_eq_true rfl) ?_
  refine J_aload_n (pc := 4) C 2 rfl 0 rfl rfl ?_
  refine J_new (pc := 5) (fs := [.null, .null, .null, .null, .null, .null, .null, .null, .int 0, .int 0]) (ci := 2) C 3 rfl TB_l2 tyX2 tyX2_ok k119 k21 k22 rfl (fun j hj => by rcases (show j = 0 ∨ j = 1 ∨ j = 2 ∨ j = 3 ∨ j = 4 ∨ j = 5 ∨ j = 6 ∨ j = 7 ∨ j = 8 ∨ j = 9 by omega) with rfl | rfl | rfl | rfl | rfl | rfl | rfl | rfl | rfl | rfl <;> rfl) (Nat.le_of_ble_eq_true rfl) (Nat.le_of_ble_eq_true rfl) (fun q1 => ?_)
  refine J_dup (pc := 8) C 4 rfl rfl ?_
  refine J_callCN (pc := 9) C 5 rfl (c_X2_init (h0 := q1)) V_X2_init (List.mem_of_getElem? (i := 1) rfl) k23 rfl rfl ⟨Nat.le_of_ble_eq_true rfl, Nat.le_of_ble_eq_true rfl⟩ (Nat.le_of_ble_eq_true rfl) ⟨Nat.le_of_ble_eq_true rfl, Nat.le_of_ble_eq_true rfl⟩ 1 rfl [0] (wr := ([(h0, .inr (3, [.null, .null, .null, .null, .int 0, .int 0, .null, .null, .null]))] : va_W)) rfl (by decide +kernel) (by decide +kernel) (fun u2 hu => ?_)
  subst hu
  refine J_putF (pc := 12) (ws2 := ([(h0, .inr (3, [.ref (u2 0), .null, .null, .null, .int 0, .int 0, .null, .null, .null]))] ++ (wSch G u2 (vi_X2 0) (vi_X2 1) (vi_X2 2) (vi_X2 3) (vi_X2 4) (vi_X2 5) (vi_X2 6) (vi_X2 7) (vi_X2 8 0) (vi_X2 9 0)) : va_W)) C 6 hin rfl TB_l3 tyX3 tyX3_ok nmX3 rfl 0 0 rfl (by decide) k120 rfl rfl rfl rfl rfl rfl (Nat.le_of_ble_eq_true rfl) rfl ?_
  refine J_aload_n (pc := 15) C 7 rfl 0 rfl rfl ?_
  refine J_bipush (pc := 16) (v := (96 : Int32)) C 8 rfl rfl ?_
  refine J_newaI (pc := 18) (N := 96) C 9 rfl k4 (by decide) rfl (Nat.le_of_ble_eq_true rfl) (Nat.le_of_ble_eq_true rfl) (Nat.le_of_ble_eq_true rfl) (fun q3 => ?_)
  refine J_putF (pc := 20) (ws2 := ([(h0, .inr (3, [.ref (u2 0), .ref q3, .null, .null, .int 0, .int 0, .null, .null, .null]))] ++ (wSch G u2 (vi_X2 0) (vi_X2 1) (vi_X2 2) (vi_X2 3) (vi_X2 4) (vi_X2 5) (vi_X2 6) (vi_X2 7) (vi_X2 8 0) (vi_X2 9 0) ++ ([(q3, .inl (G.2 0, 96, .inl (fun _ => 0)))])) : va_W)) C 10 hin rfl TB_l3 tyX3 tyX3_ok nmX3 rfl 0 1 rfl (by decide) k121 rfl rfl rfl rfl rfl rfl (Nat.le_of_ble_eq_true rfl) rfl ?_
  refine J_aload_n (pc := 23) C 11 rfl 0 rfl rfl ?_
  refine J_bipush (pc := 24) (v := (96 : Int32)) C 12 rfl rfl ?_
  refine J_newaI (pc := 26) (N := 96) C 13 rfl k4 (by decide) rfl (Nat.le_of_ble_eq_true rfl) (Nat.le_of_ble_eq_true rfl) (Nat.le_of_ble_eq_true rfl) (fun q4 => ?_)
  refine J_putF (pc := 28) (ws2 := ([(h0, .inr (3, [.ref (u2 0), .ref q3, .ref q4, .null, .int 0, .int 0, .null, .null, .null]))] ++ (wSch G u2 (vi_X2 0) (vi_X2 1) (vi_X2 2) (vi_X2 3) (vi_X2 4) (vi_X2 5) (vi_X2 6) (vi_X2 7) (vi_X2 8 0) (vi_X2 9 0) ++ ([(q3, .inl (G.2 0, 96, .inl (fun _ => 0))), (q4, .inl (G.2 0, 96, .inl (fun _ => 0)))])) : va_W)) C 14 hin rfl TB_l3 tyX3 tyX3_ok nmX3 rfl 0 2 rfl (by decide) k122 rfl rfl rfl rfl rfl rfl (Nat.le_of_ble_eq_true rfl) rfl ?_
  refine J_aload_n (pc := 31) C 15 rfl 0 rfl rfl ?_
  refine J_bipush (pc := 32) (v := (96 : Int32)) C 16 rfl rfl ?_
  refine J_newaI (pc := 34) (N := 96) C 17 rfl k4 (by decide) rfl (Nat.le_of_ble_eq_true rfl) (Nat.le_of_ble_eq_true rfl) (Nat.le_of_ble_eq_true rfl) (fun q5 => ?_)
  refine J_putF (pc := 36) (ws2 := ([(h0, .inr (3, [.ref (u2 0), .ref q3, .ref q4, .ref q5, .int 0, .int 0, .null, .null, .null]))] ++ (wSch G u2 (vi_X2 0) (vi_X2 1) (vi_X2 2) (vi_X2 3) (vi_X2 4) (vi_X2 5) (vi_X2 6) (vi_X2 7) (vi_X2 8 0) (vi_X2 9 0) ++ ([(q3, .inl (G.2 0, 96, .inl (fun _ => 0))), (q4, .inl (G.2 0, 96, .inl (fun _ => 0))), (q5, .inl (G.2 0, 96, .inl (fun _ => 0)))])) : va_W)) C 18 hin rfl TB_l3 tyX3 tyX3_ok nmX3 rfl 0 3 rfl (by decide) k123 rfl rfl rfl rfl rfl rfl (Nat.le_of_ble_eq_true rfl) rfl ?_
  refine J_aload_n (pc := 39) C 19 rfl 0 rfl rfl ?_
  refine J_iconst (pc := 40) (v := (0 : Int32)) C 20 rfl rfl ?_
  refine J_puti (pc := 41) C 21 (fun vv => ([(h0, .inr (3, [.ref (u2 0), .ref q3, .ref q4, .ref q5, .int vv, .int 0, .null, .null, .null]))] ++ (wSch G u2 (vi_X2 0) (vi_X2 1) (vi_X2 2) (vi_X2 3) (vi_X2 4) (vi_X2 5) (vi_X2 6) (vi_X2 7) (vi_X2 8 0) (vi_X2 9 0) ++ ([(q3, .inl (G.2 0, 96, .inl (fun _ => 0))), (q4, .inl (G.2 0, 96, .inl (fun _ => 0))), (q5, .inl (G.2 0, 96, .inl (fun _ => 0)))])) : va_W)) rfl TB_l3 tyX3 tyX3_ok nmX3 rfl 0 4 rfl (by decide) k124 rfl rfl rfl (Nat.le_of_ble_eq_true rfl) (fun _ => rfl) ?_
  refine J_aload_n (pc := 44) C 22 rfl 0 rfl rfl ?_
  refine J_iconst (pc := 45) (v := (0 : Int32)) C 23 rfl rfl ?_
  refine J_puti (pc := 46) C 24 (fun vv => ([(h0, .inr (3, [.ref (u2 0), .ref q3, .ref q4, .ref q5, .int (0 : Int32), .int vv, .null, .null, .null]))] ++ (wSch G u2 (vi_X2 0) (vi_X2 1) (vi_X2 2) (vi_X2 3) (vi_X2 4) (vi_X2 5) (vi_X2 6) (vi_X2 7) (vi_X2 8 0) (vi_X2 9 0) ++ ([(q3, .inl (G.2 0, 96, .inl (fun _ => 0))), (q4, .inl (G.2 0, 96, .inl (fun _ => 0))), (q5, .inl (G.2 0, 96, .inl (fun _ => 0)))])) : va_W)) rfl TB_l3 tyX3 tyX3_ok nmX3 rfl 0 5 rfl (by decide) k125 rfl rfl rfl (Nat.le_of_ble_eq_true rfl) (fun _ => rfl) ?_
  refine J_aload_n (pc := 49) C 25 rfl 0 rfl rfl ?_
  refine J_bipush (pc := 50) (v := (64 : Int32)) C 26 rfl rfl ?_
  refine J_newaI (pc := 52) (N := 64) C 27 rfl k4 (by decide) rfl (Nat.le_of_ble_eq_true rfl) (Nat.le_of_ble_eq_true rfl) (Nat.le_of_ble_eq_true rfl) (fun q6 => ?_)
  refine J_putF (pc := 54) (ws2 := ([(h0, .inr (3, [.ref (u2 0), .ref q3, .ref q4, .ref q5, .int (0 : Int32), .int (0 : Int32), .ref q6, .null, .null]))] ++ (wSch G u2 (vi_X2 0) (vi_X2 1) (vi_X2 2) (vi_X2 3) (vi_X2 4) (vi_X2 5) (vi_X2 6) (vi_X2 7) (vi_X2 8 0) (vi_X2 9 0) ++ ([(q3, .inl (G.2 0, 96, .inl (fun _ => 0))), (q4, .inl (G.2 0, 96, .inl (fun _ => 0))), (q5, .inl (G.2 0, 96, .inl (fun _ => 0))), (q6, .inl (G.2 0, 64, .inl (fun _ => 0)))])) : va_W)) C 28 hin rfl TB_l3 tyX3 tyX3_ok nmX3 rfl 0 6 rfl (by decide) k126 rfl rfl rfl rfl rfl rfl (Nat.le_of_ble_eq_true rfl) rfl ?_
  refine J_aload_n (pc := 57) C 29 rfl 0 rfl rfl ?_
  refine J_bipush (pc := 58) (v := (64 : Int32)) C 30 rfl rfl ?_
  refine J_newaI (pc := 60) (N := 64) C 31 rfl k4 (by decide) rfl (Nat.le_of_ble_eq_true rfl) (Nat.le_of_ble_eq_true rfl) (Nat.le_of_ble_eq_true rfl) (fun q7 => ?_)
  refine J_putF (pc := 62) (ws2 := ([(h0, .inr (3, [.ref (u2 0), .ref q3, .ref q4, .ref q5, .int (0 : Int32), .int (0 : Int32), .ref q6, .ref q7, .null]))] ++ (wSch G u2 (vi_X2 0) (vi_X2 1) (vi_X2 2) (vi_X2 3) (vi_X2 4) (vi_X2 5) (vi_X2 6) (vi_X2 7) (vi_X2 8 0) (vi_X2 9 0) ++ ([(q3, .inl (G.2 0, 96, .inl (fun _ => 0))), (q4, .inl (G.2 0, 96, .inl (fun _ => 0))), (q5, .inl (G.2 0, 96, .inl (fun _ => 0))), (q6, .inl (G.2 0, 64, .inl (fun _ => 0))), (q7, .inl (G.2 0, 64, .inl (fun _ => 0)))])) : va_W)) C 32 hin rfl TB_l3 tyX3 tyX3_ok nmX3 rfl 0 7 rfl (by decide) k127 rfl rfl rfl rfl rfl rfl (Nat.le_of_ble_eq_true rfl) rfl ?_
  refine J_aload_n (pc := 65) C 33 rfl 0 rfl rfl ?_
  refine J_bipush (pc := 66) (v := (6 : Int32)) C 34 rfl rfl ?_
  refine J_newaI (pc := 68) (N := 6) C 35 rfl k4 (by decide) rfl (Nat.le_of_ble_eq_true rfl) (Nat.le_of_ble_eq_true rfl) (Nat.le_of_ble_eq_true rfl) (fun q8 => ?_)
  refine J_putF (pc := 70) (ws2 := ([(h0, .inr (3, [.ref (u2 0), .ref q3, .ref q4, .ref q5, .int (0 : Int32), .int (0 : Int32), .ref q6, .ref q7, .ref q8]))] ++ (wSch G u2 (vi_X2 0) (vi_X2 1) (vi_X2 2) (vi_X2 3) (vi_X2 4) (vi_X2 5) (vi_X2 6) (vi_X2 7) (vi_X2 8 0) (vi_X2 9 0) ++ ([(q3, .inl (G.2 0, 96, .inl (fun _ => 0))), (q4, .inl (G.2 0, 96, .inl (fun _ => 0))), (q5, .inl (G.2 0, 96, .inl (fun _ => 0))), (q6, .inl (G.2 0, 64, .inl (fun _ => 0))), (q7, .inl (G.2 0, 64, .inl (fun _ => 0))), (q8, .inl (G.2 0, 6, .inl (fun _ => 0)))])) : va_W)) C 36 hin rfl TB_l3 tyX3 tyX3_ok nmX3 rfl 0 8 rfl (by decide) k128 rfl rfl rfl rfl rfl rfl (Nat.le_of_ble_eq_true rfl) rfl ?_
  refine J_perm (ws' := (wSeat G (fun i => [h0, q3, q4, q5, q6, q7, q8].getD i 0) (u2 0) (vi_X3 1) (vi_X3 2) (vi_X3 3) (vi_X3 4 0) (vi_X3 5 0) (vi_X3 6) (vi_X3 7) (vi_X3 8) ++ wSch G u2 (vi_X2 0) (vi_X2 1) (vi_X2 2) (vi_X2 3) (vi_X2 4) (vi_X2 5) (vi_X2 6) (vi_X2 7) (vi_X2 8 0) (vi_X2 9 0))) [0, 10, 11, 12, 13, 14, 15, 1, 2, 3, 4, 5, 6, 7, 8, 9] (by decide +kernel) rfl ?_
  exact J_cret (pc := 73) C 37 ((fun i => [h0, q3, q4, q5, q6, q7, q8].getD i 0), u2) rfl rfl
def T_X0_init : List (Nat × ClassFile.Instr × Nat) := [(0, .aload_n 0, 1), (1, .invokespecial 3, 3), (4, .aload_n 0, 1), (5, .bipush 6, 2), (7, .anewarray 9, 3), (10, .putfield 11, 3), (13, .aload_n 0, 1), (14, .iconst 0, 1), (15, .putfield 17, 3), (18, .iconst 0, 1), (19, .istore_n 1, 1), (20, .iload_n 1, 1), (21, .bipush 6, 2), (23, .if_icmp .ge 22, 3), (26, .aload_n 0, 1), (27, .getfield 11, 3), (30, .iload_n 1, 1), (31, .new 9, 3), (34, .dup, 1), (35, .invokespecial 21, 3), (38, .aastore, 1), (39, .iinc 1 1, 3), (42, .goto (-22), 3), (45, .return_, 1)]
theorem D_X0_init : ∀ q ∈ T_X0_init, decode cX0_init q.1 = .ok q.2 := by decide +kernel
theorem V_X0_init : Vy yX0_init cX0_init 2 none 0 := ⟨k16, k30, by decide +kernel⟩
set_option maxRecDepth 100000 in
set_option maxHeartbeats 4000000 in
theorem c_X0_init {l : Launch} {G : JG} {h0 : Nat} : JMC (U := (Nat → Nat) × (Nat → Nat → Nat)) l G yX0_init cX0_init 2 2 32 55 492 h0 0 [.null, .int 0] (fun u => u.1 0 = h0) (fun u => wHis G u.1 u.2 (fun _ => vi_X2) 0) := by
  refine JMC.of (own := RX0) (tb := T_X0_init) (by decide) (Nat.le_of_ble_eq_true rfl) D_X0_init rfl rfl (fun X C hin => ?_)
  refine J_aload_n (pc := 0) C 0 rfl 0 rfl rfl ?_
  refine J_oinit (pc := 1) C 1 rfl k17 (by decide) (Nat.le_of_ble_eq_true rfl) ?_
  refine J_aload_n (pc := 4) C 2 rfl 0 rfl rfl ?_
  refine J_bipush (pc := 5) (v := (6 : Int32)) C 3 rfl rfl ?_
  refine J_anew (pc := 7) (N := 6) C 4 rfl k18 (by decide) rfl (Nat.le_of_ble_eq_true rfl) (Nat.le_of_ble_eq_true rfl) (Nat.le_of_ble_eq_true rfl) (fun q1 => ?_)
  refine J_putF (pc := 10) (ws2 := ([(h0, .inr (0, [.ref q1, .int 0])), (q1, .inl (G.2 3, 6, .inr (.inr (.inr (.inr (fun _ => none))))))] : va_W)) C 5 hin rfl TB_l0 tyX0 tyX0_ok nmX0 rfl 0 0 rfl (by decide) k19 rfl rfl rfl rfl rfl rfl (Nat.le_of_ble_eq_true rfl) rfl ?_
  refine J_aload_n (pc := 13) C 6 rfl 0 rfl rfl ?_
  refine J_iconst (pc := 14) (v := (0 : Int32)) C 7 rfl rfl ?_
  refine J_puti (pc := 15) C 8 (fun vv => ([(h0, .inr (0, [.ref q1, .int vv])), (q1, .inl (G.2 3, 6, .inr (.inr (.inr (.inr (fun _ => none))))))] : va_W)) rfl TB_l0 tyX0 tyX0_ok nmX0 rfl 0 1 rfl (by decide) k20 rfl rfl rfl (Nat.le_of_ble_eq_true rfl) (fun _ => rfl) ?_
  refine J_iconst (pc := 18) (v := (0 : Int32)) C 9 rfl rfl ?_
  refine J_istore_n (pc := 19) (lv' := [(1, .int (0 : Int32)), (0, .ref h0)]) C 10 rfl rfl (by decide) rfl ?_
  refine J_iload_n (pc := 20) C 11 rfl 0 rfl rfl ?_
  refine J_bipush (pc := 21) (v := (6 : Int32)) C 12 rfl rfl ?_
  refine J_icmp_ge (pc := 23) (tgt := 45) C 13 rfl rfl (fun c2 => absurd c2 (by decide)) (fun c2 => ?_)
  refine J_aload_n (pc := 26) C 14 rfl 1 rfl rfl ?_
  refine J_get (pc := 27) (v := .ref q1) C 15 rfl TB_l0 rfl 0 0 rfl (by decide) k19 rfl rfl ?_
  refine J_iload_n (pc := 30) C 16 rfl 0 rfl rfl ?_
  refine J_new (pc := 31) (fs := [.null, .null, .null, .null, .null, .null, .null, .null, .int 0, .int 0]) (ci := 2) C 17 rfl TB_l2 tyX2 tyX2_ok k18 k21 k22 rfl (fun j hj => by rcases (show j = 0 ∨ j = 1 ∨ j = 2 ∨ j = 3 ∨ j = 4 ∨ j = 5 ∨ j = 6 ∨ j = 7 ∨ j = 8 ∨ j = 9 by omega) with rfl | rfl | rfl | rfl | rfl | rfl | rfl | rfl | rfl | rfl <;> rfl) (Nat.le_of_ble_eq_true rfl) (Nat.le_of_ble_eq_true rfl) (fun q3 => ?_)
  refine J_dup (pc := 34) C 18 rfl rfl ?_
  refine J_callCN (pc := 35) C 19 rfl (c_X2_init (h0 := q3)) V_X2_init (List.mem_of_getElem? (i := 3) rfl) k23 rfl rfl ⟨Nat.le_of_ble_eq_true rfl, Nat.le_of_ble_eq_true rfl⟩ (Nat.le_of_ble_eq_true rfl) ⟨Nat.le_of_ble_eq_true rfl, Nat.le_of_ble_eq_true rfl⟩ 2 rfl [0, 1] (wr := ([(h0, .inr (0, [.ref q1, .int (0 : Int32)])), (q1, .inl (G.2 3, 6, .inr (.inr (.inr (.inr (fun _ => none))))))] : va_W)) rfl (by decide +kernel) (by decide +kernel) (fun u4 hu => ?_)
  subst hu
  refine J_aast (pc := 38) (v := (u4 0)) (f := (fun _ => none)) (ws2 := ([(h0, .inr (0, [.ref q1, .int (0 : Int32)])), (q1, .inl (G.2 3, 6, .inr (.inr (.inr (.inr (va_up (fun _ => none) 0 (some (u4 0))))))))] ++ (wSch G u4 (vi_X2 0) (vi_X2 1) (vi_X2 2) (vi_X2 3) (vi_X2 4) (vi_X2 5) (vi_X2 6) (vi_X2 7) (vi_X2 8 0) (vi_X2 9 0)) : va_W)) C 20 rfl 1 2 rfl rfl rfl rfl ?_
  refine J_iinc (pc := 39) (v := (1 : Int32)) (lv' := [(1, .int (1 : Int32)), (0, .ref h0)]) C 21 rfl 0 rfl rfl (by decide) rfl ?_
  refine J_goto (pc := 42) (tgt := 20) C 22 rfl rfl ?_
  refine J_iload_n (pc := 20) C 11 rfl 0 rfl rfl ?_
  refine J_bipush (pc := 21) (v := (6 : Int32)) C 12 rfl rfl ?_
  refine J_icmp_ge (pc := 23) (tgt := 45) C 13 rfl rfl (fun c5 => absurd c5 (by decide)) (fun c5 => ?_)
  refine J_aload_n (pc := 26) C 14 rfl 1 rfl rfl ?_
  refine J_get (pc := 27) (v := .ref q1) C 15 rfl TB_l0 rfl 0 0 rfl (by decide) k19 rfl rfl ?_
  refine J_iload_n (pc := 30) C 16 rfl 0 rfl rfl ?_
  refine J_new (pc := 31) (fs := [.null, .null, .null, .null, .null, .null, .null, .null, .int 0, .int 0]) (ci := 2) C 17 rfl TB_l2 tyX2 tyX2_ok k18 k21 k22 rfl (fun j hj => by rcases (show j = 0 ∨ j = 1 ∨ j = 2 ∨ j = 3 ∨ j = 4 ∨ j = 5 ∨ j = 6 ∨ j = 7 ∨ j = 8 ∨ j = 9 by omega) with rfl | rfl | rfl | rfl | rfl | rfl | rfl | rfl | rfl | rfl <;> rfl) (Nat.le_of_ble_eq_true rfl) (Nat.le_of_ble_eq_true rfl) (fun q6 => ?_)
  refine J_dup (pc := 34) C 18 rfl rfl ?_
  refine J_callCN (pc := 35) C 19 rfl (c_X2_init (h0 := q6)) V_X2_init (List.mem_of_getElem? (i := 3) rfl) k23 rfl rfl ⟨Nat.le_of_ble_eq_true rfl, Nat.le_of_ble_eq_true rfl⟩ (Nat.le_of_ble_eq_true rfl) ⟨Nat.le_of_ble_eq_true rfl, Nat.le_of_ble_eq_true rfl⟩ 11 rfl [0, 1, 2, 3, 4, 5, 6, 7, 8, 9, 10] (wr := ([(h0, .inr (0, [.ref q1, .int (0 : Int32)])), (q1, .inl (G.2 3, 6, .inr (.inr (.inr (.inr (va_up (fun _ => none) 0 (some (u4 0))))))))] ++ (wSch G u4 (vi_X2 0) (vi_X2 1) (vi_X2 2) (vi_X2 3) (vi_X2 4) (vi_X2 5) (vi_X2 6) (vi_X2 7) (vi_X2 8 0) (vi_X2 9 0)) : va_W)) rfl (by decide +kernel) (by decide +kernel) (fun u7 hu => ?_)
  subst hu
  refine J_aast (pc := 38) (v := (u7 0)) (f := (va_up (fun _ => none) 0 (some (u4 0)))) (ws2 := ([(h0, .inr (0, [.ref q1, .int (0 : Int32)])), (q1, .inl (G.2 3, 6, .inr (.inr (.inr (.inr (va_up (va_up (fun _ => none) 0 (some (u4 0))) 1 (some (u7 0))))))))] ++ (wSch G u4 (vi_X2 0) (vi_X2 1) (vi_X2 2) (vi_X2 3) (vi_X2 4) (vi_X2 5) (vi_X2 6) (vi_X2 7) (vi_X2 8 0) (vi_X2 9 0) ++ (wSch G u7 (vi_X2 0) (vi_X2 1) (vi_X2 2) (vi_X2 3) (vi_X2 4) (vi_X2 5) (vi_X2 6) (vi_X2 7) (vi_X2 8 0) (vi_X2 9 0))) : va_W)) C 20 rfl 1 11 rfl rfl rfl rfl ?_
  refine J_iinc (pc := 39) (v := (2 : Int32)) (lv' := [(1, .int (2 : Int32)), (0, .ref h0)]) C 21 rfl 0 rfl rfl (by decide) rfl ?_
  refine J_goto (pc := 42) (tgt := 20) C 22 rfl rfl ?_
  refine J_iload_n (pc := 20) C 11 rfl 0 rfl rfl ?_
  refine J_bipush (pc := 21) (v := (6 : Int32)) C 12 rfl rfl ?_
  refine J_icmp_ge (pc := 23) (tgt := 45) C 13 rfl rfl (fun c8 => absurd c8 (by decide)) (fun c8 => ?_)
  refine J_aload_n (pc := 26) C 14 rfl 1 rfl rfl ?_
  refine J_get (pc := 27) (v := .ref q1) C 15 rfl TB_l0 rfl 0 0 rfl (by decide) k19 rfl rfl ?_
  refine J_iload_n (pc := 30) C 16 rfl 0 rfl rfl ?_
  refine J_new (pc := 31) (fs := [.null, .null, .null, .null, .null, .null, .null, .null, .int 0, .int 0]) (ci := 2) C 17 rfl TB_l2 tyX2 tyX2_ok k18 k21 k22 rfl (fun j hj => by rcases (show j = 0 ∨ j = 1 ∨ j = 2 ∨ j = 3 ∨ j = 4 ∨ j = 5 ∨ j = 6 ∨ j = 7 ∨ j = 8 ∨ j = 9 by omega) with rfl | rfl | rfl | rfl | rfl | rfl | rfl | rfl | rfl | rfl <;> rfl) (Nat.le_of_ble_eq_true rfl) (Nat.le_of_ble_eq_true rfl) (fun q9 => ?_)
  refine J_dup (pc := 34) C 18 rfl rfl ?_
  refine J_callCN (pc := 35) C 19 rfl (c_X2_init (h0 := q9)) V_X2_init (List.mem_of_getElem? (i := 3) rfl) k23 rfl rfl ⟨Nat.le_of_ble_eq_true rfl, Nat.le_of_ble_eq_true rfl⟩ (Nat.le_of_ble_eq_true rfl) ⟨Nat.le_of_ble_eq_true rfl, Nat.le_of_ble_eq_true rfl⟩ 20 rfl [0, 1, 2, 3, 4, 5, 6, 7, 8, 9, 10, 11, 12, 13, 14, 15, 16, 17, 18, 19] (wr := ([(h0, .inr (0, [.ref q1, .int (0 : Int32)])), (q1, .inl (G.2 3, 6, .inr (.inr (.inr (.inr (va_up (va_up (fun _ => none) 0 (some (u4 0))) 1 (some (u7 0))))))))] ++ (wSch G u4 (vi_X2 0) (vi_X2 1) (vi_X2 2) (vi_X2 3) (vi_X2 4) (vi_X2 5) (vi_X2 6) (vi_X2 7) (vi_X2 8 0) (vi_X2 9 0) ++ (wSch G u7 (vi_X2 0) (vi_X2 1) (vi_X2 2) (vi_X2 3) (vi_X2 4) (vi_X2 5) (vi_X2 6) (vi_X2 7) (vi_X2 8 0) (vi_X2 9 0))) : va_W)) rfl (by decide +kernel) (by decide +kernel) (fun u10 hu => ?_)
  subst hu
  refine J_aast (pc := 38) (v := (u10 0)) (f := (va_up (va_up (fun _ => none) 0 (some (u4 0))) 1 (some (u7 0)))) (ws2 := ([(h0, .inr (0, [.ref q1, .int (0 : Int32)])), (q1, .inl (G.2 3, 6, .inr (.inr (.inr (.inr (va_up (va_up (va_up (fun _ => none) 0 (some (u4 0))) 1 (some (u7 0))) 2 (some (u10 0))))))))] ++ (wSch G u4 (vi_X2 0) (vi_X2 1) (vi_X2 2) (vi_X2 3) (vi_X2 4) (vi_X2 5) (vi_X2 6) (vi_X2 7) (vi_X2 8 0) (vi_X2 9 0) ++ (wSch G u7 (vi_X2 0) (vi_X2 1) (vi_X2 2) (vi_X2 3) (vi_X2 4) (vi_X2 5) (vi_X2 6) (vi_X2 7) (vi_X2 8 0) (vi_X2 9 0) ++ (wSch G u10 (vi_X2 0) (vi_X2 1) (vi_X2 2) (vi_X2 3) (vi_X2 4) (vi_X2 5) (vi_X2 6) (vi_X2 7) (vi_X2 8 0) (vi_X2 9 0)))) : va_W)) C 20 rfl 1 20 rfl rfl rfl rfl ?_
  refine J_iinc (pc := 39) (v := (3 : Int32)) (lv' := [(1, .int (3 : Int32)), (0, .ref h0)]) C 21 rfl 0 rfl rfl (by decide) rfl ?_
  refine J_goto (pc := 42) (tgt := 20) C 22 rfl rfl ?_
  refine J_iload_n (pc := 20) C 11 rfl 0 rfl rfl ?_
  refine J_bipush (pc := 21) (v := (6 : Int32)) C 12 rfl rfl ?_
  refine J_icmp_ge (pc := 23) (tgt := 45) C 13 rfl rfl (fun c11 => absurd c11 (by decide)) (fun c11 => ?_)
  refine J_aload_n (pc := 26) C 14 rfl 1 rfl rfl ?_
  refine J_get (pc := 27) (v := .ref q1) C 15 rfl TB_l0 rfl 0 0 rfl (by decide) k19 rfl rfl ?_
  refine J_iload_n (pc := 30) C 16 rfl 0 rfl rfl ?_
  refine J_new (pc := 31) (fs := [.null, .null, .null, .null, .null, .null, .null, .null, .int 0, .int 0]) (ci := 2) C 17 rfl TB_l2 tyX2 tyX2_ok k18 k21 k22 rfl (fun j hj => by rcases (show j = 0 ∨ j = 1 ∨ j = 2 ∨ j = 3 ∨ j = 4 ∨ j = 5 ∨ j = 6 ∨ j = 7 ∨ j = 8 ∨ j = 9 by omega) with rfl | rfl | rfl | rfl | rfl | rfl | rfl | rfl | rfl | rfl <;> rfl) (Nat.le_of_ble_eq_true rfl) (Nat.le_of_ble_eq_true rfl) (fun q12 => ?_)
  refine J_dup (pc := 34) C 18 rfl rfl ?_
  refine J_callCN (pc := 35) C 19 rfl (c_X2_init (h0 := q12)) V_X2_init (List.mem_of_getElem? (i := 3) rfl) k23 rfl rfl ⟨Nat.le_of_ble_eq_true rfl, Nat.le_of_ble_eq_true rfl⟩ (Nat.le_of_ble_eq_true rfl) ⟨Nat.le_of_ble_eq_true rfl, Nat.le_of_ble_eq_true rfl⟩ 29 rfl [0, 1, 2, 3, 4, 5, 6, 7, 8, 9, 10, 11, 12, 13, 14, 15, 16, 17, 18, 19, 20, 21, 22, 23, 24, 25, 26, 27, 28] (wr := ([(h0, .inr (0, [.ref q1, .int (0 : Int32)])), (q1, .inl (G.2 3, 6, .inr (.inr (.inr (.inr (va_up (va_up (va_up (fun _ => none) 0 (some (u4 0))) 1 (some (u7 0))) 2 (some (u10 0))))))))] ++ (wSch G u4 (vi_X2 0) (vi_X2 1) (vi_X2 2) (vi_X2 3) (vi_X2 4) (vi_X2 5) (vi_X2 6) (vi_X2 7) (vi_X2 8 0) (vi_X2 9 0) ++ (wSch G u7 (vi_X2 0) (vi_X2 1) (vi_X2 2) (vi_X2 3) (vi_X2 4) (vi_X2 5) (vi_X2 6) (vi_X2 7) (vi_X2 8 0) (vi_X2 9 0) ++ (wSch G u10 (vi_X2 0) (vi_X2 1) (vi_X2 2) (vi_X2 3) (vi_X2 4) (vi_X2 5) (vi_X2 6) (vi_X2 7) (vi_X2 8 0) (vi_X2 9 0)))) : va_W)) rfl (by decide +kernel) (by decide +kernel) (fun u13 hu => ?_)
  subst hu
  refine J_aast (pc := 38) (v := (u13 0)) (f := (va_up (va_up (va_up (fun _ => none) 0 (some (u4 0))) 1 (some (u7 0))) 2 (some (u10 0)))) (ws2 := ([(h0, .inr (0, [.ref q1, .int (0 : Int32)])), (q1, .inl (G.2 3, 6, .inr (.inr (.inr (.inr (va_up (va_up (va_up (va_up (fun _ => none) 0 (some (u4 0))) 1 (some (u7 0))) 2 (some (u10 0))) 3 (some (u13 0))))))))] ++ (wSch G u4 (vi_X2 0) (vi_X2 1) (vi_X2 2) (vi_X2 3) (vi_X2 4) (vi_X2 5) (vi_X2 6) (vi_X2 7) (vi_X2 8 0) (vi_X2 9 0) ++ (wSch G u7 (vi_X2 0) (vi_X2 1) (vi_X2 2) (vi_X2 3) (vi_X2 4) (vi_X2 5) (vi_X2 6) (vi_X2 7) (vi_X2 8 0) (vi_X2 9 0) ++ (wSch G u10 (vi_X2 0) (vi_X2 1) (vi_X2 2) (vi_X2 3) (vi_X2 4) (vi_X2 5) (vi_X2 6) (vi_X2 7) (vi_X2 8 0) (vi_X2 9 0) ++ (wSch G u13 (vi_X2 0) (vi_X2 1) (vi_X2 2) (vi_X2 3) (vi_X2 4) (vi_X2 5) (vi_X2 6) (vi_X2 7) (vi_X2 8 0) (vi_X2 9 0))))) : va_W)) C 20 rfl 1 29 rfl rfl rfl rfl ?_
  refine J_iinc (pc := 39) (v := (4 : Int32)) (lv' := [(1, .int (4 : Int32)), (0, .ref h0)]) C 21 rfl 0 rfl rfl (by decide) rfl ?_
  refine J_goto (pc := 42) (tgt := 20) C 22 rfl rfl ?_
  refine J_iload_n (pc := 20) C 11 rfl 0 rfl rfl ?_
  refine J_bipush (pc := 21) (v := (6 : Int32)) C 12 rfl rfl ?_
  refine J_icmp_ge (pc := 23) (tgt := 45) C 13 rfl rfl (fun c14 => absurd c14 (by decide)) (fun c14 => ?_)
  refine J_aload_n (pc := 26) C 14 rfl 1 rfl rfl ?_
  refine J_get (pc := 27) (v := .ref q1) C 15 rfl TB_l0 rfl 0 0 rfl (by decide) k19 rfl rfl ?_
  refine J_iload_n (pc := 30) C 16 rfl 0 rfl rfl ?_
  refine J_new (pc := 31) (fs := [.null, .null, .null, .null, .null, .null, .null, .null, .int 0, .int 0]) (ci := 2) C 17 rfl TB_l2 tyX2 tyX2_ok k18 k21 k22 rfl (fun j hj => by rcases (show j = 0 ∨ j = 1 ∨ j = 2 ∨ j = 3 ∨ j = 4 ∨ j = 5 ∨ j = 6 ∨ j = 7 ∨ j = 8 ∨ j = 9 by omega) with rfl | rfl | rfl | rfl | rfl | rfl | rfl | rfl | rfl | rfl <;> rfl) (Nat.le_of_ble_eq_true rfl) (Nat.le_of_ble_eq_true rfl) (fun q15 => ?_)
  refine J_dup (pc := 34) C 18 rfl rfl ?_
  refine J_callCN (pc := 35) C 19 rfl (c_X2_init (h0 := q15)) V_X2_init (List.mem_of_getElem? (i := 3) rfl) k23 rfl rfl ⟨Nat.le_of_ble_eq_true rfl, Nat.le_of_ble_eq_true rfl⟩ (Nat.le_of_ble_eq_true rfl) ⟨Nat.le_of_ble_eq_true rfl, Nat.le_of_ble_eq_true rfl⟩ 38 rfl [0, 1, 2, 3, 4, 5, 6, 7, 8, 9, 10, 11, 12, 13, 14, 15, 16, 17, 18, 19, 20, 21, 22, 23, 24, 25, 26, 27, 28, 29, 30, 31, 32, 33, 34, 35, 36, 37] (wr := ([(h0, .inr (0, [.ref q1, .int (0 : Int32)])), (q1, .inl (G.2 3, 6, .inr (.inr (.inr (.inr (va_up (va_up (va_up (va_up (fun _ => none) 0 (some (u4 0))) 1 (some (u7 0))) 2 (some (u10 0))) 3 (some (u13 0))))))))] ++ (wSch G u4 (vi_X2 0) (vi_X2 1) (vi_X2 2) (vi_X2 3) (vi_X2 4) (vi_X2 5) (vi_X2 6) (vi_X2 7) (vi_X2 8 0) (vi_X2 9 0) ++ (wSch G u7 (vi_X2 0) (vi_X2 1) (vi_X2 2) (vi_X2 3) (vi_X2 4) (vi_X2 5) (vi_X2 6) (vi_X2 7) (vi_X2 8 0) (vi_X2 9 0) ++ (wSch G u10 (vi_X2 0) (vi_X2 1) (vi_X2 2) (vi_X2 3) (vi_X2 4) (vi_X2 5) (vi_X2 6) (vi_X2 7) (vi_X2 8 0) (vi_X2 9 0) ++ (wSch G u13 (vi_X2 0) (vi_X2 1) (vi_X2 2) (vi_X2 3) (vi_X2 4) (vi_X2 5) (vi_X2 6) (vi_X2 7) (vi_X2 8 0) (vi_X2 9 0))))) : va_W)) rfl (by decide +kernel) (by decide +kernel) (fun u16 hu => ?_)
  subst hu
  refine J_aast (pc := 38) (v := (u16 0)) (f := (va_up (va_up (va_up (va_up (fun _ => none) 0 (some (u4 0))) 1 (some (u7 0))) 2 (some (u10 0))) 3 (some (u13 0)))) (ws2 := ([(h0, .inr (0, [.ref q1, .int (0 : Int32)])), (q1, .inl (G.2 3, 6, .inr (.inr (.inr (.inr (va_up (va_up (va_up (va_up (va_up (fun _ => none) 0 (some (u4 0))) 1 (some (u7 0))) 2 (some (u10 0))) 3 (some (u13 0))) 4 (some (u16 0))))))))] ++ (wSch G u4 (vi_X2 0) (vi_X2 1) (vi_X2 2) (vi_X2 3) (vi_X2 4) (vi_X2 5) (vi_X2 6) (vi_X2 7) (vi_X2 8 0) (vi_X2 9 0) ++ (wSch G u7 (vi_X2 0) (vi_X2 1) (vi_X2 2) (vi_X2 3) (vi_X2 4) (vi_X2 5) (vi_X2 6) (vi_X2 7) (vi_X2 8 0) (vi_X2 9 0) ++ (wSch G u10 (vi_X2 0) (vi_X2 1) (vi_X2 2) (vi_X2 3) (vi_X2 4) (vi_X2 5) (vi_X2 6) (vi_X2 7) (vi_X2 8 0) (vi_X2 9 0) ++ (wSch G u13 (vi_X2 0) (vi_X2 1) (vi_X2 2) (vi_X2 3) (vi_X2 4) (vi_X2 5) (vi_X2 6) (vi_X2 7) (vi_X2 8 0) (vi_X2 9 0) ++ (wSch G u16 (vi_X2 0) (vi_X2 1) (vi_X2 2) (vi_X2 3) (vi_X2 4) (vi_X2 5) (vi_X2 6) (vi_X2 7) (vi_X2 8 0) (vi_X2 9 0)))))) : va_W)) C 20 rfl 1 38 rfl rfl rfl rfl ?_
  refine J_iinc (pc := 39) (v := (5 : Int32)) (lv' := [(1, .int (5 : Int32)), (0, .ref h0)]) C 21 rfl 0 rfl rfl (by decide) rfl ?_
  refine J_goto (pc := 42) (tgt := 20) C 22 rfl rfl ?_
  refine J_iload_n (pc := 20) C 11 rfl 0 rfl rfl ?_
  refine J_bipush (pc := 21) (v := (6 : Int32)) C 12 rfl rfl ?_
  refine J_icmp_ge (pc := 23) (tgt := 45) C 13 rfl rfl (fun c17 => absurd c17 (by decide)) (fun c17 => ?_)
  refine J_aload_n (pc := 26) C 14 rfl 1 rfl rfl ?_
  refine J_get (pc := 27) (v := .ref q1) C 15 rfl TB_l0 rfl 0 0 rfl (by decide) k19 rfl rfl ?_
  refine J_iload_n (pc := 30) C 16 rfl 0 rfl rfl ?_
  refine J_new (pc := 31) (fs := [.null, .null, .null, .null, .null, .null, .null, .null, .int 0, .int 0]) (ci := 2) C 17 rfl TB_l2 tyX2 tyX2_ok k18 k21 k22 rfl (fun j hj => by rcases (show j = 0 ∨ j = 1 ∨ j = 2 ∨ j = 3 ∨ j = 4 ∨ j = 5 ∨ j = 6 ∨ j = 7 ∨ j = 8 ∨ j = 9 by omega) with rfl | rfl | rfl | rfl | rfl | rfl | rfl | rfl | rfl | rfl <;> rfl) (Nat.le_of_ble_eq_true rfl) (Nat.le_of_ble_eq_true rfl) (fun q18 => ?_)
  refine J_dup (pc := 34) C 18 rfl rfl ?_
  refine J_callCN (pc := 35) C 19 rfl (c_X2_init (h0 := q18)) V_X2_init (List.mem_of_getElem? (i := 3) rfl) k23 rfl rfl ⟨Nat.le_of_ble_eq_true rfl, Nat.le_of_ble_eq_true rfl⟩ (Nat.le_of_ble_eq_true rfl) ⟨Nat.le_of_ble_eq_true rfl, Nat.le_of_ble_eq_true rfl⟩ 47 rfl [0, 1, 2, 3, 4, 5, 6, 7, 8, 9, 10, 11, 12, 13, 14, 15, 16, 17, 18, 19, 20, 21, 22, 23, 24, 25, 26, 27, 28, 29, 30, 31, 32, 33, 34, 35, 36, 37, 38, 39, 40, 41, 42, 43, 44, 45, 46] (wr := ([(h0, .inr (0, [.ref q1, .int (0 : Int32)])), (q1, .inl (G.2 3, 6, .inr (.inr (.inr (.inr (va_up (va_up (va_up (va_up (va_up (fun _ => none) 0 (some (u4 0))) 1 (some (u7 0))) 2 (some (u10 0))) 3 (some (u13 0))) 4 (some (u16 0))))))))] ++ (wSch G u4 (vi_X2 0) (vi_X2 1) (vi_X2 2) (vi_X2 3) (vi_X2 4) (vi_X2 5) (vi_X2 6) (vi_X2 7) (vi_X2 8 0) (vi_X2 9 0) ++ (wSch G u7 (vi_X2 0) (vi_X2 1) (vi_X2 2) (vi_X2 3) (vi_X2 4) (vi_X2 5) (vi_X2 6) (vi_X2 7) (vi_X2 8 0) (vi_X2 9 0) ++ (wSch G u10 (vi_X2 0) (vi_X2 1) (vi_X2 2) (vi_X2 3) (vi_X2 4) (vi_X2 5) (vi_X2 6) (vi_X2 7) (vi_X2 8 0) (vi_X2 9 0) ++ (wSch G u13 (vi_X2 0) (vi_X2 1) (vi_X2 2) (vi_X2 3) (vi_X2 4) (vi_X2 5) (vi_X2 6) (vi_X2 7) (vi_X2 8 0) (vi_X2 9 0) ++ (wSch G u16 (vi_X2 0) (vi_X2 1) (vi_X2 2) (vi_X2 3) (vi_X2 4) (vi_X2 5) (vi_X2 6) (vi_X2 7) (vi_X2 8 0) (vi_X2 9 0)))))) : va_W)) rfl (by decide +kernel) (by decide +kernel) (fun u19 hu => ?_)
  subst hu
  refine J_aast (pc := 38) (v := (u19 0)) (f := (va_up (va_up (va_up (va_up (va_up (fun _ => none) 0 (some (u4 0))) 1 (some (u7 0))) 2 (some (u10 0))) 3 (some (u13 0))) 4 (some (u16 0)))) (ws2 := ([(h0, .inr (0, [.ref q1, .int (0 : Int32)])), (q1, .inl (G.2 3, 6, .inr (.inr (.inr (.inr (va_up (va_up (va_up (va_up (va_up (va_up (fun _ => none) 0 (some (u4 0))) 1 (some (u7 0))) 2 (some (u10 0))) 3 (some (u13 0))) 4 (some (u16 0))) 5 (some (u19 0))))))))] ++ (wSch G u4 (vi_X2 0) (vi_X2 1) (vi_X2 2) (vi_X2 3) (vi_X2 4) (vi_X2 5) (vi_X2 6) (vi_X2 7) (vi_X2 8 0) (vi_X2 9 0) ++ (wSch G u7 (vi_X2 0) (vi_X2 1) (vi_X2 2) (vi_X2 3) (vi_X2 4) (vi_X2 5) (vi_X2 6) (vi_X2 7) (vi_X2 8 0) (vi_X2 9 0) ++ (wSch G u10 (vi_X2 0) (vi_X2 1) (vi_X2 2) (vi_X2 3) (vi_X2 4) (vi_X2 5) (vi_X2 6) (vi_X2 7) (vi_X2 8 0) (vi_X2 9 0) ++ (wSch G u13 (vi_X2 0) (vi_X2 1) (vi_X2 2) (vi_X2 3) (vi_X2 4) (vi_X2 5) (vi_X2 6) (vi_X2 7) (vi_X2 8 0) (vi_X2 9 0) ++ (wSch G u16 (vi_X2 0) (vi_X2 1) (vi_X2 2) (vi_X2 3) (vi_X2 4) (vi_X2 5) (vi_X2 6) (vi_X2 7) (vi_X2 8 0) (vi_X2 9 0) ++ (wSch G u19 (vi_X2 0) (vi_X2 1) (vi_X2 2) (vi_X2 3) (vi_X2 4) (vi_X2 5) (vi_X2 6) (vi_X2 7) (vi_X2 8 0) (vi_X2 9 0))))))) : va_W)) C 20 rfl 1 47 rfl rfl rfl rfl ?_
  refine J_iinc (pc := 39) (v := (6 : Int32)) (lv' := [(1, .int (6 : Int32)), (0, .ref h0)]) C 21 rfl 0 rfl rfl (by decide) rfl ?_
  refine J_goto (pc := 42) (tgt := 20) C 22 rfl rfl ?_
  refine J_iload_n (pc := 20) C 11 rfl 0 rfl rfl ?_
  refine J_bipush (pc := 21) (v := (6 : Int32)) C 12 rfl rfl ?_
  refine J_icmp_ge (pc := 23) (tgt := 45) C 13 rfl rfl (fun c20 => ?_) (fun c20 => absurd c20 (by decide))
  have h6 : ∀ i : Nat, i < 6 → (va_up (va_up (va_up (va_up (va_up (va_up (fun _ => none) 0 (some (u4 0))) 1 (some (u7 0))) 2 (some (u10 0))) 3 (some (u13 0))) 4 (some (u16 0))) 5 (some (u19 0))) i = some ((fun i => [u4, u7, u10, u13, u16, u19].getD i (fun _ => 0)) i 0) := by
    intro i hi
    rcases (show i = 0 ∨ i = 1 ∨ i = 2 ∨ i = 3 ∨ i = 4 ∨ i = 5 by omega) with rfl | rfl | rfl | rfl | rfl | rfl <;> rfl
  refine J_aeq (q0 := 1) (ws' := ([(h0, .inr (0, [.ref q1, .int (0 : Int32)])), (q1, .inl (G.2 3, 6, .inr (.inr (.inr (.inr (fun i => some ((fun i => [u4, u7, u10, u13, u16, u19].getD i (fun _ => 0)) i 0)))))))] ++ (wSch G u4 (vi_X2 0) (vi_X2 1) (vi_X2 2) (vi_X2 3) (vi_X2 4) (vi_X2 5) (vi_X2 6) (vi_X2 7) (vi_X2 8 0) (vi_X2 9 0) ++ (wSch G u7 (vi_X2 0) (vi_X2 1) (vi_X2 2) (vi_X2 3) (vi_X2 4) (vi_X2 5) (vi_X2 6) (vi_X2 7) (vi_X2 8 0) (vi_X2 9 0) ++ (wSch G u10 (vi_X2 0) (vi_X2 1) (vi_X2 2) (vi_X2 3) (vi_X2 4) (vi_X2 5) (vi_X2 6) (vi_X2 7) (vi_X2 8 0) (vi_X2 9 0) ++ (wSch G u13 (vi_X2 0) (vi_X2 1) (vi_X2 2) (vi_X2 3) (vi_X2 4) (vi_X2 5) (vi_X2 6) (vi_X2 7) (vi_X2 8 0) (vi_X2 9 0) ++ (wSch G u16 (vi_X2 0) (vi_X2 1) (vi_X2 2) (vi_X2 3) (vi_X2 4) (vi_X2 5) (vi_X2 6) (vi_X2 7) (vi_X2 8 0) (vi_X2 9 0) ++ (wSch G u19 (vi_X2 0) (vi_X2 1) (vi_X2 2) (vi_X2 3) (vi_X2 4) (vi_X2 5) (vi_X2 6) (vi_X2 7) (vi_X2 8 0) (vi_X2 9 0))))))) : va_W)) rfl h6 rfl ?_
  refine J_perm (ws' := (wHis G (fun i => [h0, q1].getD i 0) (fun i => [u4, u7, u10, u13, u16, u19].getD i (fun _ => 0)) (fun _ => vi_X2) 0)) [0, 1, 2, 3, 4, 5, 6, 7, 8, 9, 10, 11, 12, 13, 14, 15, 16, 17, 18, 19, 20, 21, 22, 23, 24, 25, 26, 27, 28, 29, 30, 31, 32, 33, 34, 35, 36, 37, 38, 39, 40, 41, 42, 43, 44, 45, 46, 47, 48, 49, 50, 51, 52, 53, 54, 55] (by decide +kernel) rfl ?_
  exact J_cret (pc := 45) C 23 ((fun i => [h0, q1].getD i 0), (fun i => [u4, u7, u10, u13, u16, u19].getD i (fun _ => 0))) rfl rfl
def T_X4_init : List (Nat × ClassFile.Instr × Nat) := [(0, .aload_n 0, 1), (1, .invokespecial 3, 3), (4, .aload_n 0, 1), (5, .new 9, 3), (8, .dup, 1), (9, .invokespecial 11, 3), (12, .putfield 12, 3), (15, .aload_n 0, 1), (16, .aload_n 0, 1), (17, .getfield 12, 3), (20, .getfield 16, 3), (23, .putfield 20, 3), (26, .aload_n 0, 1), (27, .new 9, 3), (30, .dup, 1), (31, .invokespecial 11, 3), (34, .putfield 21, 3), (37, .aload_n 0, 1), (38, .aload_n 0, 1), (39, .getfield 21, 3), (42, .getfield 16, 3), (45, .putfield 24, 3), (48, .aload_n 0, 1), (49, .new 27, 3), (52, .dup, 1), (53, .invokespecial 29, 3), (56, .putfield 30, 3), (59, .aload_n 0, 1), (60, .new 34, 3), (63, .dup, 1), (64, .invokespecial 36, 3), (67, .putfield 37, 3), (70, .aload_n 0, 1), (71, .iconst 2, 1), (72, .anewarray 41, 3), (75, .dup, 1), (76, .iconst 0, 1), (77, .new 41, 3), (80, .dup, 1), (81, .invokespecial 43, 3), (84, .aastore, 1), (85, .dup, 1), (86, .iconst 1, 1), (87, .new 41, 3), (90, .dup, 1), (91, .invokespecial 43, 3), (94, .aastore, 1), (95, .putfield 44, 3), (98, .aload_n 0, 1), (99, .iconst 2, 1), (100, .newarray .boolean, 2), (102, .putfield 48, 3), (105, .aload_n 0, 1), (106, .getfield 12, 3), (109, .invokevirtual 52, 3), (112, .return_, 1)]
theorem D_X4_init : ∀ q ∈ T_X4_init, decode cX4_init q.1 = .ok q.2 := by decide +kernel
theorem V_X4_init : Vy yX4_init cX4_init 1 none 0 := ⟨k217, k56, by decide +kernel⟩
set_option maxRecDepth 100000 in
set_option maxHeartbeats 4000000 in
theorem c_X4_init {l : Launch} {G : JG} {h0 : Nat} (vT0 : JV) (hv0 : f_X3_seatAll vi_X3 vi_X2 = some vT0) : JMC (U := Nat × (Nat → Nat) × (Nat → Nat) × (Nat → Nat) × (Nat → Nat) × (Nat → Nat) × (Nat → Nat) × (Nat → Nat → Nat) × Nat × (Nat → Nat → Nat) × Nat) l G yX4_init cX4_init 1 6 141 113 1844 h0 4 [.null, .null, .null, .null, .null, .null, .null, .null] (fun u => u.1 = h0) (fun u => wEx u.1 (u.2.1 0) (u.2.2.2.1 0) (u.2.2.1 0) (u.2.2.2.2.1 0) (u.2.2.2.2.2.1 0) (u.2.2.2.2.2.2.1 0) u.2.2.2.2.2.2.2.2.1 u.2.2.2.2.2.2.2.2.2.2 ++ (wSeat G u.2.1 (u.2.2.1 0) (vT0 1) (vT0 2) (vT0 3) (vT0 4 0) (vT0 5 0) (vT0 6) (vT0 7) (vT0 8) ++ (wSch G u.2.2.1 (vi_X2 0) (vi_X2 1) (vi_X2 2) (vi_X2 3) (vi_X2 4) (vi_X2 5) (vi_X2 6) (vi_X2 7) (vi_X2 8 0) (vi_X2 9 0) ++ (wSeat G u.2.2.2.1 (u.2.2.2.2.1 0) (vi_X3 1) (vi_X3 2) (vi_X3 3) (vi_X3 4 0) (vi_X3 5 0) (vi_X3 6) (vi_X3 7) (vi_X3 8) ++ (wSch G u.2.2.2.2.1 (vi_X2 0) (vi_X2 1) (vi_X2 2) (vi_X2 3) (vi_X2 4) (vi_X2 5) (vi_X2 6) (vi_X2 7) (vi_X2 8 0) (vi_X2 9 0) ++ (wPad G u.2.2.2.2.2.1 (vi_X1 0) (vi_X1 1 0) (vi_X1 2) (vi_X1 3) (vi_X1 4) (vi_X1 5 0) (vi_X1 6 0) (vi_X1 7 0) (vi_X1 8 0) (vi_X1 9 0) ++ (wHis G u.2.2.2.2.2.2.1 u.2.2.2.2.2.2.2.1 (fun _ => vi_X2) 0 ++ (wSlots G u.2.2.2.2.2.2.2.2.1 u.2.2.2.2.2.2.2.2.2.1 (fun _ => vi_X2) ++ wUsed G u.2.2.2.2.2.2.2.2.2.2 (fun _ => 0))))))))) := by
  refine JMC.of (own := RX4) (tb := T_X4_init) (by decide) (Nat.le_of_ble_eq_true rfl) D_X4_init rfl rfl (fun X C hin => ?_)
  refine J_aload_n (pc := 0) C 0 rfl 0 rfl rfl ?_
  refine J_oinit (pc := 1) C 1 rfl k192 (by decide) (Nat.le_of_ble_eq_true rfl) ?_
  refine J_aload_n (pc := 4) C 2 rfl 0 rfl rfl ?_
  refine J_new (pc := 5) (fs := [.null, .null, .null, .null, .int 0, .int 0, .null, .null, .null]) (ci := 3) C 3 rfl TB_l3 tyX3 tyX3_ok k193 k194 k138 rfl (fun j hj => by rcases (show j = 0 ∨ j = 1 ∨ j = 2 ∨ j = 3 ∨ j = 4 ∨ j = 5 ∨ j = 6 ∨ j = 7 ∨ j = 8 by omega) with rfl | rfl | rfl | rfl | rfl | rfl | rfl | rfl | rfl <;> rfl) (Nat.le_of_ble_eq_true rfl) (Nat.le_of_ble_eq_true rfl) (fun q1 => ?_)
  refine J_dup (pc := 8) C 4 rfl rfl ?_
  refine J_callCN (pc := 9) C 5 rfl (c_X3_init (h0 := q1)) V_X3_init (List.mem_of_getElem? (i := 0) rfl) k210 rfl rfl ⟨Nat.le_of_ble_eq_true rfl, Nat.le_of_ble_eq_true rfl⟩ (Nat.le_of_ble_eq_true rfl) ⟨Nat.le_of_ble_eq_true rfl, Nat.le_of_ble_eq_true rfl⟩ 1 rfl [0] (wr := ([(h0, .inr (4, [.null, .null, .null, .null, .null, .null, .null, .null]))] : va_W)) rfl (by decide +kernel) (by decide +kernel) (fun u2 hu => ?_)
  subst hu
  refine J_putF (pc := 12) (ws2 := ([(h0, .inr (4, [.ref (u2.1 0), .null, .null, .null, .null, .null, .null, .null]))] ++ ((wSeat G u2.1 (u2.2 0) (vi_X3 1) (vi_X3 2) (vi_X3 3) (vi_X3 4 0) (vi_X3 5 0) (vi_X3 6) (vi_X3 7) (vi_X3 8) ++ wSch G u2.2 (vi_X2 0) (vi_X2 1) (vi_X2 2) (vi_X2 3) (vi_X2 4) (vi_X2 5) (vi_X2 6) (vi_X2 7) (vi_X2 8 0) (vi_X2 9 0))) : va_W)) C 6 hin rfl TB_l4 tyX4 tyX4_ok nmX4 rfl 0 0 rfl (by decide) k195 rfl rfl rfl rfl rfl rfl (Nat.le_of_ble_eq_true rfl) rfl ?_
  refine J_aload_n (pc := 15) C 7 rfl 0 rfl rfl ?_
  refine J_aload_n (pc := 16) C 8 rfl 0 rfl rfl ?_
  refine J_get (pc := 17) (v := .ref (u2.1 0)) C 9 rfl TB_l4 rfl 0 0 rfl (by decide) k195 rfl rfl ?_
  refine J_get (pc := 20) (v := .ref (u2.2 0)) C 10 rfl TB_l3 rfl 1 0 rfl (by decide) k196 rfl rfl ?_
  refine J_putF (pc := 23) (ws2 := ([(h0, .inr (4, [.ref (u2.1 0), .ref (u2.2 0), .null, .null, .null, .null, .null, .null]))] ++ ((wSeat G u2.1 (u2.2 0) (vi_X3 1) (vi_X3 2) (vi_X3 3) (vi_X3 4 0) (vi_X3 5 0) (vi_X3 6) (vi_X3 7) (vi_X3 8) ++ wSch G u2.2 (vi_X2 0) (vi_X2 1) (vi_X2 2) (vi_X2 3) (vi_X2 4) (vi_X2 5) (vi_X2 6) (vi_X2 7) (vi_X2 8 0) (vi_X2 9 0))) : va_W)) C 11 hin rfl TB_l4 tyX4 tyX4_ok nmX4 rfl 0 1 rfl (by decide) k197 rfl rfl rfl rfl rfl rfl (Nat.le_of_ble_eq_true rfl) rfl ?_
  refine J_aload_n (pc := 26) C 12 rfl 0 rfl rfl ?_
  refine J_new (pc := 27) (fs := [.null, .null, .null, .null, .int 0, .int 0, .null, .null, .null]) (ci := 3) C 13 rfl TB_l3 tyX3 tyX3_ok k193 k194 k138 rfl (fun j hj => by rcases (show j = 0 ∨ j = 1 ∨ j = 2 ∨ j = 3 ∨ j = 4 ∨ j = 5 ∨ j = 6 ∨ j = 7 ∨ j = 8 by omega) with rfl | rfl | rfl | rfl | rfl | rfl | rfl | rfl | rfl <;> rfl) (Nat.le_of_ble_eq_true rfl) (Nat.le_of_ble_eq_true rfl) (fun q3 => ?_)
  refine J_dup (pc := 30) C 14 rfl rfl ?_
  refine J_callCN (pc := 31) C 15 rfl (c_X3_init (h0 := q3)) V_X3_init (List.mem_of_getElem? (i := 0) rfl) k210 rfl rfl ⟨Nat.le_of_ble_eq_true rfl, Nat.le_of_ble_eq_true rfl⟩ (Nat.le_of_ble_eq_true rfl) ⟨Nat.le_of_ble_eq_true rfl, Nat.le_of_ble_eq_true rfl⟩ 17 rfl [0, 1, 2, 3, 4, 5, 6, 7, 8, 9, 10, 11, 12, 13, 14, 15, 16] (wr := ([(h0, .inr (4, [.ref (u2.1 0), .ref (u2.2 0), .null, .null, .null, .null, .null, .null]))] ++ ((wSeat G u2.1 (u2.2 0) (vi_X3 1) (vi_X3 2) (vi_X3 3) (vi_X3 4 0) (vi_X3 5 0) (vi_X3 6) (vi_X3 7) (vi_X3 8) ++ wSch G u2.2 (vi_X2 0) (vi_X2 1) (vi_X2 2) (vi_X2 3) (vi_X2 4) (vi_X2 5) (vi_X2 6) (vi_X2 7) (vi_X2 8 0) (vi_X2 9 0))) : va_W)) rfl (by decide +kernel) (by decide +kernel) (fun u4 hu => ?_)
  subst hu
  refine J_putF (pc := 34) (ws2 := ([(h0, .inr (4, [.ref (u2.1 0), .ref (u2.2 0), .ref (u4.1 0), .null, .null, .null, .null, .null]))] ++ ((wSeat G u2.1 (u2.2 0) (vi_X3 1) (vi_X3 2) (vi_X3 3) (vi_X3 4 0) (vi_X3 5 0) (vi_X3 6) (vi_X3 7) (vi_X3 8) ++ wSch G u2.2 (vi_X2 0) (vi_X2 1) (vi_X2 2) (vi_X2 3) (vi_X2 4) (vi_X2 5) (vi_X2 6) (vi_X2 7) (vi_X2 8 0) (vi_X2 9 0)) ++ ((wSeat G u4.1 (u4.2 0) (vi_X3 1) (vi_X3 2) (vi_X3 3) (vi_X3 4 0) (vi_X3 5 0) (vi_X3 6) (vi_X3 7) (vi_X3 8) ++ wSch G u4.2 (vi_X2 0) (vi_X2 1) (vi_X2 2) (vi_X2 3) (vi_X2 4) (vi_X2 5) (vi_X2 6) (vi_X2 7) (vi_X2 8 0) (vi_X2 9 0)))) : va_W)) C 16 hin rfl TB_l4 tyX4 tyX4_ok nmX4 rfl 0 2 rfl (by decide) k198 rfl rfl rfl rfl rfl rfl (Nat.le_of_ble_eq_true rfl) rfl ?_
  refine J_aload_n (pc := 37) C 17 rfl 0 rfl rfl ?_
  refine J_aload_n (pc := 38) C 18 rfl 0 rfl rfl ?_
  refine J_get (pc := 39) (v := .ref (u4.1 0)) C 19 rfl TB_l4 rfl 0 2 rfl (by decide) k198 rfl rfl ?_
  refine J_get (pc := 42) (v := .ref (u4.2 0)) C 20 rfl TB_l3 rfl 17 0 rfl (by decide) k196 rfl rfl ?_
  refine J_putF (pc := 45) (ws2 := ([(h0, .inr (4, [.ref (u2.1 0), .ref (u2.2 0), .ref (u4.1 0), .ref (u4.2 0), .null, .null, .null, .null]))] ++ ((wSeat G u2.1 (u2.2 0) (vi_X3 1) (vi_X3 2) (vi_X3 3) (vi_X3 4 0) (vi_X3 5 0) (vi_X3 6) (vi_X3 7) (vi_X3 8) ++ wSch G u2.2 (vi_X2 0) (vi_X2 1) (vi_X2 2) (vi_X2 3) (vi_X2 4) (vi_X2 5) (vi_X2 6) (vi_X2 7) (vi_X2 8 0) (vi_X2 9 0)) ++ ((wSeat G u4.1 (u4.2 0) (vi_X3 1) (vi_X3 2) (vi_X3 3) (vi_X3 4 0) (vi_X3 5 0) (vi_X3 6) (vi_X3 7) (vi_X3 8) ++ wSch G u4.2 (vi_X2 0) (vi_X2 1) (vi_X2 2) (vi_X2 3) (vi_X2 4) (vi_X2 5) (vi_X2 6) (vi_X2 7) (vi_X2 8 0) (vi_X2 9 0)))) : va_W)) C 21 hin rfl TB_l4 tyX4 tyX4_ok nmX4 rfl 0 3 rfl (by decide) k199 rfl rfl rfl rfl rfl rfl (Nat.le_of_ble_eq_true rfl) rfl ?_
  refine J_aload_n (pc := 48) C 22 rfl 0 rfl rfl ?_
  refine J_new (pc := 49) (fs := [.null, .int 0, .null, .null, .null, .int 0, .int 0, .int 0, .int 0, .int 0]) (ci := 1) C 23 rfl TB_l1 tyX1 tyX1_ok k200 k201 k202 rfl (fun j hj => by rcases (show j = 0 ∨ j = 1 ∨ j = 2 ∨ j = 3 ∨ j = 4 ∨ j = 5 ∨ j = 6 ∨ j = 7 ∨ j = 8 ∨ j = 9 by omega) with rfl | rfl | rfl | rfl | rfl | rfl | rfl | rfl | rfl | rfl <;> rfl) (Nat.le_of_ble_eq_true rfl) (Nat.le_of_ble_eq_true rfl) (fun q5 => ?_)
  refine J_dup (pc := 52) C 24 rfl rfl ?_
  refine J_callCN (pc := 53) C 25 rfl (c_X1_init (h0 := q5)) V_X1_init (List.mem_of_getElem? (i := 2) rfl) k211 rfl rfl ⟨Nat.le_of_ble_eq_true rfl, Nat.le_of_ble_eq_true rfl⟩ (Nat.le_of_ble_eq_true rfl) ⟨Nat.le_of_ble_eq_true rfl, Nat.le_of_ble_eq_true rfl⟩ 33 rfl [0, 1, 2, 3, 4, 5, 6, 7, 8, 9, 10, 11, 12, 13, 14, 15, 16, 17, 18, 19, 20, 21, 22, 23, 24, 25, 26, 27, 28, 29, 30, 31, 32] (wr := ([(h0, .inr (4, [.ref (u2.1 0), .ref (u2.2 0), .ref (u4.1 0), .ref (u4.2 0), .null, .null, .null, .null]))] ++ ((wSeat G u2.1 (u2.2 0) (vi_X3 1) (vi_X3 2) (vi_X3 3) (vi_X3 4 0) (vi_X3 5 0) (vi_X3 6) (vi_X3 7) (vi_X3 8) ++ wSch G u2.2 (vi_X2 0) (vi_X2 1) (vi_X2 2) (vi_X2 3) (vi_X2 4) (vi_X2 5) (vi_X2 6) (vi_X2 7) (vi_X2 8 0) (vi_X2 9 0)) ++ ((wSeat G u4.1 (u4.2 0) (vi_X3 1) (vi_X3 2) (vi_X3 3) (vi_X3 4 0) (vi_X3 5 0) (vi_X3 6) (vi_X3 7) (vi_X3 8) ++ wSch G u4.2 (vi_X2 0) (vi_X2 1) (vi_X2 2) (vi_X2 3) (vi_X2 4) (vi_X2 5) (vi_X2 6) (vi_X2 7) (vi_X2 8 0) (vi_X2 9 0)))) : va_W)) rfl (by decide +kernel) (by decide +kernel) (fun u6 hu => ?_)
  subst hu
  refine J_putF (pc := 56) (ws2 := ([(h0, .inr (4, [.ref (u2.1 0), .ref (u2.2 0), .ref (u4.1 0), .ref (u4.2 0), .ref (u6 0), .null, .null, .null]))] ++ ((wSeat G u2.1 (u2.2 0) (vi_X3 1) (vi_X3 2) (vi_X3 3) (vi_X3 4 0) (vi_X3 5 0) (vi_X3 6) (vi_X3 7) (vi_X3 8) ++ wSch G u2.2 (vi_X2 0) (vi_X2 1) (vi_X2 2) (vi_X2 3) (vi_X2 4) (vi_X2 5) (vi_X2 6) (vi_X2 7) (vi_X2 8 0) (vi_X2 9 0)) ++ ((wSeat G u4.1 (u4.2 0) (vi_X3 1) (vi_X3 2) (vi_X3 3) (vi_X3 4 0) (vi_X3 5 0) (vi_X3 6) (vi_X3 7) (vi_X3 8) ++ wSch G u4.2 (vi_X2 0) (vi_X2 1) (vi_X2 2) (vi_X2 3) (vi_X2 4) (vi_X2 5) (vi_X2 6) (vi_X2 7) (vi_X2 8 0) (vi_X2 9 0)) ++ (wPad G u6 (vi_X1 0) (vi_X1 1 0) (vi_X1 2) (vi_X1 3) (vi_X1 4) (vi_X1 5 0) (vi_X1 6 0) (vi_X1 7 0) (vi_X1 8 0) (vi_X1 9 0)))) : va_W)) C 26 hin rfl TB_l4 tyX4 tyX4_ok nmX4 rfl 0 4 rfl (by decide) k203 rfl rfl rfl rfl rfl rfl (Nat.le_of_ble_eq_true rfl) rfl ?_
  refine J_aload_n (pc := 59) C 27 rfl 0 rfl rfl ?_
  refine J_new (pc := 60) (fs := [.null, .int 0]) (ci := 0) C 28 rfl TB_l0 tyX0 tyX0_ok k204 k205 k30 rfl (fun j hj => by rcases (show j = 0 ∨ j = 1 by omega) with rfl | rfl <;> rfl) (Nat.le_of_ble_eq_true rfl) (Nat.le_of_ble_eq_true rfl) (fun q7 => ?_)
  refine J_dup (pc := 63) C 29 rfl rfl ?_
  refine J_callC (pc := 64) C 30 rfl (c_X0_init (h0 := q7)) V_X0_init k212 k213 rfl rfl ⟨Nat.le_of_ble_eq_true rfl, Nat.le_of_ble_eq_true rfl⟩ (Nat.le_of_ble_eq_true rfl) ⟨Nat.le_of_ble_eq_true rfl, Nat.le_of_ble_eq_true rfl⟩ 38 rfl [0, 1, 2, 3, 4, 5, 6, 7, 8, 9, 10, 11, 12, 13, 14, 15, 16, 17, 18, 19, 20, 21, 22, 23, 24, 25, 26, 27, 28, 29, 30, 31, 32, 33, 34, 35, 36, 37] (wr := ([(h0, .inr (4, [.ref (u2.1 0), .ref (u2.2 0), .ref (u4.1 0), .ref (u4.2 0), .ref (u6 0), .null, .null, .null]))] ++ ((wSeat G u2.1 (u2.2 0) (vi_X3 1) (vi_X3 2) (vi_X3 3) (vi_X3 4 0) (vi_X3 5 0) (vi_X3 6) (vi_X3 7) (vi_X3 8) ++ wSch G u2.2 (vi_X2 0) (vi_X2 1) (vi_X2 2) (vi_X2 3) (vi_X2 4) (vi_X2 5) (vi_X2 6) (vi_X2 7) (vi_X2 8 0) (vi_X2 9 0)) ++ ((wSeat G u4.1 (u4.2 0) (vi_X3 1) (vi_X3 2) (vi_X3 3) (vi_X3 4 0) (vi_X3 5 0) (vi_X3 6) (vi_X3 7) (vi_X3 8) ++ wSch G u4.2 (vi_X2 0) (vi_X2 1) (vi_X2 2) (vi_X2 3) (vi_X2 4) (vi_X2 5) (vi_X2 6) (vi_X2 7) (vi_X2 8 0) (vi_X2 9 0)) ++ (wPad G u6 (vi_X1 0) (vi_X1 1 0) (vi_X1 2) (vi_X1 3) (vi_X1 4) (vi_X1 5 0) (vi_X1 6 0) (vi_X1 7 0) (vi_X1 8 0) (vi_X1 9 0)))) : va_W)) rfl (by decide +kernel) (by decide +kernel) (fun u8 hu => ?_)
  subst hu
  refine J_putF (pc := 67) (ws2 := ([(h0, .inr (4, [.ref (u2.1 0), .ref (u2.2 0), .ref (u4.1 0), .ref (u4.2 0), .ref (u6 0), .ref (u8.1 0), .null, .null]))] ++ ((wSeat G u2.1 (u2.2 0) (vi_X3 1) (vi_X3 2) (vi_X3 3) (vi_X3 4 0) (vi_X3 5 0) (vi_X3 6) (vi_X3 7) (vi_X3 8) ++ wSch G u2.2 (vi_X2 0) (vi_X2 1) (vi_X2 2) (vi_X2 3) (vi_X2 4) (vi_X2 5) (vi_X2 6) (vi_X2 7) (vi_X2 8 0) (vi_X2 9 0)) ++ ((wSeat G u4.1 (u4.2 0) (vi_X3 1) (vi_X3 2) (vi_X3 3) (vi_X3 4 0) (vi_X3 5 0) (vi_X3 6) (vi_X3 7) (vi_X3 8) ++ wSch G u4.2 (vi_X2 0) (vi_X2 1) (vi_X2 2) (vi_X2 3) (vi_X2 4) (vi_X2 5) (vi_X2 6) (vi_X2 7) (vi_X2 8 0) (vi_X2 9 0)) ++ (wPad G u6 (vi_X1 0) (vi_X1 1 0) (vi_X1 2) (vi_X1 3) (vi_X1 4) (vi_X1 5 0) (vi_X1 6 0) (vi_X1 7 0) (vi_X1 8 0) (vi_X1 9 0) ++ ((wHis G u8.1 u8.2 (fun _ => vi_X2) 0))))) : va_W)) C 31 hin rfl TB_l4 tyX4 tyX4_ok nmX4 rfl 0 5 rfl (by decide) k206 rfl rfl rfl rfl rfl rfl (Nat.le_of_ble_eq_true rfl) rfl ?_
  refine J_aload_n (pc := 70) C 32 rfl 0 rfl rfl ?_
  refine J_iconst (pc := 71) (v := (2 : Int32)) C 33 rfl rfl ?_
  refine J_anew (pc := 72) (N := 2) C 34 rfl k207 (by decide) rfl (Nat.le_of_ble_eq_true rfl) (Nat.le_of_ble_eq_true rfl) (Nat.le_of_ble_eq_true rfl) (fun q9 => ?_)
  refine J_dup (pc := 75) C 35 rfl rfl ?_
  refine J_iconst (pc := 76) (v := (0 : Int32)) C 36 rfl rfl ?_
  refine J_new (pc := 77) (fs := [.null, .null, .null, .null, .null, .null, .null, .null, .int 0, .int 0]) (ci := 2) C 37 rfl TB_l2 tyX2 tyX2_ok k207 k21 k22 rfl (fun j hj => by rcases (show j = 0 ∨ j = 1 ∨ j = 2 ∨ j = 3 ∨ j = 4 ∨ j = 5 ∨ j = 6 ∨ j = 7 ∨ j = 8 ∨ j = 9 by omega) with rfl | rfl | rfl | rfl | rfl | rfl | rfl | rfl | rfl | rfl <;> rfl) (Nat.le_of_ble_eq_true rfl) (Nat.le_of_ble_eq_true rfl) (fun q10 => ?_)
  refine J_dup (pc := 80) C 38 rfl rfl ?_
  refine J_callCN (pc := 81) C 39 rfl (c_X2_init (h0 := q10)) V_X2_init (List.mem_of_getElem? (i := 4) rfl) k23 rfl rfl ⟨Nat.le_of_ble_eq_true rfl, Nat.le_of_ble_eq_true rfl⟩ (Nat.le_of_ble_eq_true rfl) ⟨Nat.le_of_ble_eq_true rfl, Nat.le_of_ble_eq_true rfl⟩ 95 rfl [0, 1, 2, 3, 4, 5, 6, 7, 8, 9, 10, 11, 12, 13, 14, 15, 16, 17, 18, 19, 20, 21, 22, 23, 24, 25, 26, 27, 28, 29, 30, 31, 32, 33, 34, 35, 36, 37, 38, 39, 40, 41, 42, 43, 44, 45, 46, 47, 48, 49, 50, 51, 52, 53, 54, 55, 56, 57, 58, 59, 60, 61, 62, 63, 64, 65, 66, 67, 68, 69, 70, 71, 72, 73, 74, 75, 76, 77, 78, 79, 80, 81, 82, 83, 84, 85, 86, 87, 88, 89, 90, 91, 92, 93, 94] (wr := ([(h0, .inr (4, [.ref (u2.1 0), .ref (u2.2 0), .ref (u4.1 0), .ref (u4.2 0), .ref (u6 0), .ref (u8.1 0), .null, .null]))] ++ ((wSeat G u2.1 (u2.2 0) (vi_X3 1) (vi_X3 2) (vi_X3 3) (vi_X3 4 0) (vi_X3 5 0) (vi_X3 6) (vi_X3 7) (vi_X3 8) ++ wSch G u2.2 (vi_X2 0) (vi_X2 1) (vi_X2 2) (vi_X2 3) (vi_X2 4) (vi_X2 5) (vi_X2 6) (vi_X2 7) (vi_X2 8 0) (vi_X2 9 0)) ++ ((wSeat G u4.1 (u4.2 0) (vi_X3 1) (vi_X3 2) (vi_X3 3) (vi_X3 4 0) (vi_X3 5 0) (vi_X3 6) (vi_X3 7) (vi_X3 8) ++ wSch G u4.2 (vi_X2 0) (vi_X2 1) (vi_X2 2) (vi_X2 3) (vi_X2 4) (vi_X2 5) (vi_X2 6) (vi_X2 7) (vi_X2 8 0) (vi_X2 9 0)) ++ (wPad G u6 (vi_X1 0) (vi_X1 1 0) (vi_X1 2) (vi_X1 3) (vi_X1 4) (vi_X1 5 0) (vi_X1 6 0) (vi_X1 7 0) (vi_X1 8 0) (vi_X1 9 0) ++ ((wHis G u8.1 u8.2 (fun _ => vi_X2) 0) ++ ([(q9, .inl (G.2 3, 2, .inr (.inr (.inr (.inr (fun _ => none))))))]))))) : va_W)) rfl (by decide +kernel) (by decide +kernel) (fun u11 hu => ?_)
  subst hu
  refine J_aast (pc := 84) (v := (u11 0)) (f := (fun _ => none)) (ws2 := ([(h0, .inr (4, [.ref (u2.1 0), .ref (u2.2 0), .ref (u4.1 0), .ref (u4.2 0), .ref (u6 0), .ref (u8.1 0), .null, .null]))] ++ ((wSeat G u2.1 (u2.2 0) (vi_X3 1) (vi_X3 2) (vi_X3 3) (vi_X3 4 0) (vi_X3 5 0) (vi_X3 6) (vi_X3 7) (vi_X3 8) ++ wSch G u2.2 (vi_X2 0) (vi_X2 1) (vi_X2 2) (vi_X2 3) (vi_X2 4) (vi_X2 5) (vi_X2 6) (vi_X2 7) (vi_X2 8 0) (vi_X2 9 0)) ++ ((wSeat G u4.1 (u4.2 0) (vi_X3 1) (vi_X3 2) (vi_X3 3) (vi_X3 4 0) (vi_X3 5 0) (vi_X3 6) (vi_X3 7) (vi_X3 8) ++ wSch G u4.2 (vi_X2 0) (vi_X2 1) (vi_X2 2) (vi_X2 3) (vi_X2 4) (vi_X2 5) (vi_X2 6) (vi_X2 7) (vi_X2 8 0) (vi_X2 9 0)) ++ (wPad G u6 (vi_X1 0) (vi_X1 1 0) (vi_X1 2) (vi_X1 3) (vi_X1 4) (vi_X1 5 0) (vi_X1 6 0) (vi_X1 7 0) (vi_X1 8 0) (vi_X1 9 0) ++ ((wHis G u8.1 u8.2 (fun _ => vi_X2) 0) ++ ([(q9, .inl (G.2 3, 2, .inr (.inr (.inr (.inr (va_up (fun _ => none) 0 (some (u11 0))))))))] ++ (wSch G u11 (vi_X2 0) (vi_X2 1) (vi_X2 2) (vi_X2 3) (vi_X2 4) (vi_X2 5) (vi_X2 6) (vi_X2 7) (vi_X2 8 0) (vi_X2 9 0))))))) : va_W)) C 40 rfl 94 95 rfl rfl rfl rfl ?_
  refine J_dup (pc := 85) C 41 rfl rfl ?_
  refine J_iconst (pc := 86) (v := (1 : Int32)) C 42 rfl rfl ?_
  refine J_new (pc := 87) (fs := [.null, .null, .null, .null, .null, .null, .null, .null, .int 0, .int 0]) (ci := 2) C 43 rfl TB_l2 tyX2 tyX2_ok k207 k21 k22 rfl (fun j hj => by rcases (show j = 0 ∨ j = 1 ∨ j = 2 ∨ j = 3 ∨ j = 4 ∨ j = 5 ∨ j = 6 ∨ j = 7 ∨ j = 8 ∨ j = 9 by omega) with rfl | rfl | rfl | rfl | rfl | rfl | rfl | rfl | rfl | rfl <;> rfl) (Nat.le_of_ble_eq_true rfl) (Nat.le_of_ble_eq_true rfl) (fun q12 => ?_)
  refine J_dup (pc := 90) C 44 rfl rfl ?_
  refine J_callCN (pc := 91) C 45 rfl (c_X2_init (h0 := q12)) V_X2_init (List.mem_of_getElem? (i := 4) rfl) k23 rfl rfl ⟨Nat.le_of_ble_eq_true rfl, Nat.le_of_ble_eq_true rfl⟩ (Nat.le_of_ble_eq_true rfl) ⟨Nat.le_of_ble_eq_true rfl, Nat.le_of_ble_eq_true rfl⟩ 104 rfl [0, 1, 2, 3, 4, 5, 6, 7, 8, 9, 10, 11, 12, 13, 14, 15, 16, 17, 18, 19, 20, 21, 22, 23, 24, 25, 26, 27, 28, 29, 30, 31, 32, 33, 34, 35, 36, 37, 38, 39, 40, 41, 42, 43, 44, 45, 46, 47, 48, 49, 50, 51, 52, 53, 54, 55, 56, 57, 58, 59, 60, 61, 62, 63, 64, 65, 66, 67, 68, 69, 70, 71, 72, 73, 74, 75, 76, 77, 78, 79, 80, 81, 82, 83, 84, 85, 86, 87, 88, 89, 90, 91, 92, 93, 94, 95, 96, 97, 98, 99, 100, 101, 102, 103] (wr := ([(h0, .inr (4, [.ref (u2.1 0), .ref (u2.2 0), .ref (u4.1 0), .ref (u4.2 0), .ref (u6 0), .ref (u8.1 0), .null, .null]))] ++ ((wSeat G u2.1 (u2.2 0) (vi_X3 1) (vi_X3 2) (vi_X3 3) (vi_X3 4 0) (vi_X3 5 0) (vi_X3 6) (vi_X3 7) (vi_X3 8) ++ wSch G u2.2 (vi_X2 0) (vi_X2 1) (vi_X2 2) (vi_X2 3) (vi_X2 4) (vi_X2 5) (vi_X2 6) (vi_X2 7) (vi_X2 8 0) (vi_X2 9 0)) ++ ((wSeat G u4.1 (u4.2 0) (vi_X3 1) (vi_X3 2) (vi_X3 3) (vi_X3 4 0) (vi_X3 5 0) (vi_X3 6) (vi_X3 7) (vi_X3 8) ++ wSch G u4.2 (vi_X2 0) (vi_X2 1) (vi_X2 2) (vi_X2 3) (vi_X2 4) (vi_X2 5) (vi_X2 6) (vi_X2 7) (vi_X2 8 0) (vi_X2 9 0)) ++ (wPad G u6 (vi_X1 0) (vi_X1 1 0) (vi_X1 2) (vi_X1 3) (vi_X1 4) (vi_X1 5 0) (vi_X1 6 0) (vi_X1 7 0) (vi_X1 8 0) (vi_X1 9 0) ++ ((wHis G u8.1 u8.2 (fun _ => vi_X2) 0) ++ ([(q9, .inl (G.2 3, 2, .inr (.inr (.inr (.inr (va_up (fun _ => none) 0 (some (u11 0))))))))] ++ (wSch G u11 (vi_X2 0) (vi_X2 1) (vi_X2 2) (vi_X2 3) (vi_X2 4) (vi_X2 5) (vi_X2 6) (vi_X2 7) (vi_X2 8 0) (vi_X2 9 0))))))) : va_W)) rfl (by decide +kernel) (by decide +kernel) (fun u13 hu => ?_)
  subst hu
  refine J_aast (pc := 94) (v := (u13 0)) (f := (va_up (fun _ => none) 0 (some (u11 0)))) (ws2 := ([(h0, .inr (4, [.ref (u2.1 0), .ref (u2.2 0), .ref (u4.1 0), .ref (u4.2 0), .ref (u6 0), .ref (u8.1 0), .null, .null]))] ++ ((wSeat G u2.1 (u2.2 0) (vi_X3 1) (vi_X3 2) (vi_X3 3) (vi_X3 4 0) (vi_X3 5 0) (vi_X3 6) (vi_X3 7) (vi_X3 8) ++ wSch G u2.2 (vi_X2 0) (vi_X2 1) (vi_X2 2) (vi_X2 3) (vi_X2 4) (vi_X2 5) (vi_X2 6) (vi_X2 7) (vi_X2 8 0) (vi_X2 9 0)) ++ ((wSeat G u4.1 (u4.2 0) (vi_X3 1) (vi_X3 2) (vi_X3 3) (vi_X3 4 0) (vi_X3 5 0) (vi_X3 6) (vi_X3 7) (vi_X3 8) ++ wSch G u4.2 (vi_X2 0) (vi_X2 1) (vi_X2 2) (vi_X2 3) (vi_X2 4) (vi_X2 5) (vi_X2 6) (vi_X2 7) (vi_X2 8 0) (vi_X2 9 0)) ++ (wPad G u6 (vi_X1 0) (vi_X1 1 0) (vi_X1 2) (vi_X1 3) (vi_X1 4) (vi_X1 5 0) (vi_X1 6 0) (vi_X1 7 0) (vi_X1 8 0) (vi_X1 9 0) ++ ((wHis G u8.1 u8.2 (fun _ => vi_X2) 0) ++ ([(q9, .inl (G.2 3, 2, .inr (.inr (.inr (.inr (va_up (va_up (fun _ => none) 0 (some (u11 0))) 1 (some (u13 0))))))))] ++ (wSch G u11 (vi_X2 0) (vi_X2 1) (vi_X2 2) (vi_X2 3) (vi_X2 4) (vi_X2 5) (vi_X2 6) (vi_X2 7) (vi_X2 8 0) (vi_X2 9 0) ++ (wSch G u13 (vi_X2 0) (vi_X2 1) (vi_X2 2) (vi_X2 3) (vi_X2 4) (vi_X2 5) (vi_X2 6) (vi_X2 7) (vi_X2 8 0) (vi_X2 9 0)))))))) : va_W)) C 46 rfl 94 104 rfl rfl rfl rfl ?_
  refine J_putF (pc := 95) (ws2 := ([(h0, .inr (4, [.ref (u2.1 0), .ref (u2.2 0), .ref (u4.1 0), .ref (u4.2 0), .ref (u6 0), .ref (u8.1 0), .ref q9, .null]))] ++ ((wSeat G u2.1 (u2.2 0) (vi_X3 1) (vi_X3 2) (vi_X3 3) (vi_X3 4 0) (vi_X3 5 0) (vi_X3 6) (vi_X3 7) (vi_X3 8) ++ wSch G u2.2 (vi_X2 0) (vi_X2 1) (vi_X2 2) (vi_X2 3) (vi_X2 4) (vi_X2 5) (vi_X2 6) (vi_X2 7) (vi_X2 8 0) (vi_X2 9 0)) ++ ((wSeat G u4.1 (u4.2 0) (vi_X3 1) (vi_X3 2) (vi_X3 3) (vi_X3 4 0) (vi_X3 5 0) (vi_X3 6) (vi_X3 7) (vi_X3 8) ++ wSch G u4.2 (vi_X2 0) (vi_X2 1) (vi_X2 2) (vi_X2 3) (vi_X2 4) (vi_X2 5) (vi_X2 6) (vi_X2 7) (vi_X2 8 0) (vi_X2 9 0)) ++ (wPad G u6 (vi_X1 0) (vi_X1 1 0) (vi_X1 2) (vi_X1 3) (vi_X1 4) (vi_X1 5 0) (vi_X1 6 0) (vi_X1 7 0) (vi_X1 8 0) (vi_X1 9 0) ++ ((wHis G u8.1 u8.2 (fun _ => vi_X2) 0) ++ ([(q9, .inl (G.2 3, 2, .inr (.inr (.inr (.inr (va_up (va_up (fun _ => none) 0 (some (u11 0))) 1 (some (u13 0))))))))] ++ (wSch G u11 (vi_X2 0) (vi_X2 1) (vi_X2 2) (vi_X2 3) (vi_X2 4) (vi_X2 5) (vi_X2 6) (vi_X2 7) (vi_X2 8 0) (vi_X2 9 0) ++ (wSch G u13 (vi_X2 0) (vi_X2 1) (vi_X2 2) (vi_X2 3) (vi_X2 4) (vi_X2 5) (vi_X2 6) (vi_X2 7) (vi_X2 8 0) (vi_X2 9 0)))))))) : va_W)) C 47 hin rfl TB_l4 tyX4 tyX4_ok nmX4 rfl 0 6 rfl (by decide) k208 rfl rfl rfl rfl rfl rfl (Nat.le_of_ble_eq_true rfl) rfl ?_
  refine J_aload_n (pc := 98) C 48 rfl 0 rfl rfl ?_
  refine J_iconst (pc := 99) (v := (2 : Int32)) C 49 rfl rfl ?_
  refine J_newaZ (pc := 100) (N := 2) C 50 rfl k10 (by decide) rfl (Nat.le_of_ble_eq_true rfl) (Nat.le_of_ble_eq_true rfl) (Nat.le_of_ble_eq_true rfl) (fun q14 => ?_)
  refine J_putF (pc := 102) (ws2 := ([(h0, .inr (4, [.ref (u2.1 0), .ref (u2.2 0), .ref (u4.1 0), .ref (u4.2 0), .ref (u6 0), .ref (u8.1 0), .ref q9, .ref q14]))] ++ ((wSeat G u2.1 (u2.2 0) (vi_X3 1) (vi_X3 2) (vi_X3 3) (vi_X3 4 0) (vi_X3 5 0) (vi_X3 6) (vi_X3 7) (vi_X3 8) ++ wSch G u2.2 (vi_X2 0) (vi_X2 1) (vi_X2 2) (vi_X2 3) (vi_X2 4) (vi_X2 5) (vi_X2 6) (vi_X2 7) (vi_X2 8 0) (vi_X2 9 0)) ++ ((wSeat G u4.1 (u4.2 0) (vi_X3 1) (vi_X3 2) (vi_X3 3) (vi_X3 4 0) (vi_X3 5 0) (vi_X3 6) (vi_X3 7) (vi_X3 8) ++ wSch G u4.2 (vi_X2 0) (vi_X2 1) (vi_X2 2) (vi_X2 3) (vi_X2 4) (vi_X2 5) (vi_X2 6) (vi_X2 7) (vi_X2 8 0) (vi_X2 9 0)) ++ (wPad G u6 (vi_X1 0) (vi_X1 1 0) (vi_X1 2) (vi_X1 3) (vi_X1 4) (vi_X1 5 0) (vi_X1 6 0) (vi_X1 7 0) (vi_X1 8 0) (vi_X1 9 0) ++ ((wHis G u8.1 u8.2 (fun _ => vi_X2) 0) ++ ([(q9, .inl (G.2 3, 2, .inr (.inr (.inr (.inr (va_up (va_up (fun _ => none) 0 (some (u11 0))) 1 (some (u13 0))))))))] ++ (wSch G u11 (vi_X2 0) (vi_X2 1) (vi_X2 2) (vi_X2 3) (vi_X2 4) (vi_X2 5) (vi_X2 6) (vi_X2 7) (vi_X2 8 0) (vi_X2 9 0) ++ (wSch G u13 (vi_X2 0) (vi_X2 1) (vi_X2 2) (vi_X2 3) (vi_X2 4) (vi_X2 5) (vi_X2 6) (vi_X2 7) (vi_X2 8 0) (vi_X2 9 0) ++ ([(q14, .inl (G.2 1, 2, .inl (fun _ => 0)))])))))))) : va_W)) C 51 hin rfl TB_l4 tyX4 tyX4_ok nmX4 rfl 0 7 rfl (by decide) k209 rfl rfl rfl rfl rfl rfl (Nat.le_of_ble_eq_true rfl) rfl ?_
  refine J_aload_n (pc := 105) C 52 rfl 0 rfl rfl ?_
  refine J_get (pc := 106) (v := .ref (u2.1 0)) C 53 rfl TB_l4 rfl 0 0 rfl (by decide) k195 rfl rfl ?_
  refine J_callV (pc := 109) (st2 := []) (st3 := []) (ws2 := ([(h0, .inr (4, [.ref (u2.1 0), .ref (u2.2 0), .ref (u4.1 0), .ref (u4.2 0), .ref (u6 0), .ref (u8.1 0), .ref q9, .ref q14]))] ++ (wSeat G u2.1 (u2.2 0) (vT0 1) (vT0 2) (vT0 3) (vT0 4 0) (vT0 5 0) (vT0 6) (vT0 7) (vT0 8) ++ wSch G u2.2 (vi_X2 0) (vi_X2 1) (vi_X2 2) (vi_X2 3) (vi_X2 4) (vi_X2 5) (vi_X2 6) (vi_X2 7) (vi_X2 8 0) (vi_X2 9 0) ++ ((wSeat G u4.1 (u4.2 0) (vi_X3 1) (vi_X3 2) (vi_X3 3) (vi_X3 4 0) (vi_X3 5 0) (vi_X3 6) (vi_X3 7) (vi_X3 8) ++ wSch G u4.2 (vi_X2 0) (vi_X2 1) (vi_X2 2) (vi_X2 3) (vi_X2 4) (vi_X2 5) (vi_X2 6) (vi_X2 7) (vi_X2 8 0) (vi_X2 9 0)) ++ (wPad G u6 (vi_X1 0) (vi_X1 1 0) (vi_X1 2) (vi_X1 3) (vi_X1 4) (vi_X1 5 0) (vi_X1 6 0) (vi_X1 7 0) (vi_X1 8 0) (vi_X1 9 0) ++ ((wHis G u8.1 u8.2 (fun _ => vi_X2) 0) ++ ([(q9, .inl (G.2 3, 2, .inr (.inr (.inr (.inr (va_up (va_up (fun _ => none) 0 (some (u11 0))) 1 (some (u13 0))))))))] ++ (wSch G u11 (vi_X2 0) (vi_X2 1) (vi_X2 2) (vi_X2 3) (vi_X2 4) (vi_X2 5) (vi_X2 6) (vi_X2 7) (vi_X2 8 0) (vi_X2 9 0) ++ (wSch G u13 (vi_X2 0) (vi_X2 1) (vi_X2 2) (vi_X2 3) (vi_X2 4) (vi_X2 5) (vi_X2 6) (vi_X2 7) (vi_X2 8 0) (vi_X2 9 0) ++ ([(q14, .inl (G.2 1, 2, .inl (fun _ => 0)))])))))))) : va_W)) C 54 rfl (c_X3_seatAll u2.1 u2.2 vi_X3 vi_X2 hv0) V_X3_seatAll k214 i_X3_seatAll s_X3_seatAll rfl rfl ⟨Nat.le_of_ble_eq_true rfl, Nat.le_of_ble_eq_true rfl⟩ (Nat.le_of_ble_eq_true rfl) ⟨Nat.le_refl _, Nat.le_refl _⟩ 1 3 rfl rfl rfl (isC := [1, 2, 3, 4, 5, 6, 7, 8, 9, 10, 11, 12, 13, 14, 15, 16]) (isR := [0, 17, 18, 19, 20, 21, 22, 23, 24, 25, 26, 27, 28, 29, 30, 31, 32, 33, 34, 35, 36, 37, 38, 39, 40, 41, 42, 43, 44, 45, 46, 47, 48, 49, 50, 51, 52, 53, 54, 55, 56, 57, 58, 59, 60, 61, 62, 63, 64, 65, 66, 67, 68, 69, 70, 71, 72, 73, 74, 75, 76, 77, 78, 79, 80, 81, 82, 83, 84, 85, 86, 87, 88, 89, 90, 91, 92, 93, 94, 95, 96, 97, 98, 99, 100, 101, 102, 103, 104, 105, 106, 107, 108, 109, 110, 111, 112, 113]) (N := 114) ⟨rfl, by decide +kernel, rfl, by decide +kernel, rfl, ⟨⟨_, rfl, rfl⟩, ⟨⟨_, rfl, rfl⟩, ⟨⟨_, rfl, rfl⟩, ⟨⟨_, rfl, rfl⟩, ⟨⟨_, rfl, rfl⟩, ⟨⟨_, rfl, rfl⟩, ⟨⟨_, rfl, rfl⟩, ⟨⟨_, rfl, rfl⟩, ⟨⟨_, rfl, rfl⟩, ⟨⟨_, rfl, rfl⟩, ⟨⟨_, rfl, rfl⟩, ⟨⟨_, rfl, rfl⟩, ⟨⟨_, rfl, rfl⟩, ⟨⟨_, rfl, rfl⟩, ⟨⟨_, rfl, rfl⟩, ⟨⟨_, rfl, rfl⟩, ⟨⟨_, rfl, rfl⟩, ⟨⟨_, rfl, rfl⟩, ⟨⟨_, rfl, rfl⟩, ⟨⟨_, rfl, rfl⟩, ⟨⟨_, rfl, rfl⟩, ⟨⟨_, rfl, rfl⟩, ⟨⟨_, rfl, rfl⟩, ⟨⟨_, rfl, rfl⟩, ⟨⟨_, rfl, rfl⟩, ⟨⟨_, rfl, rfl⟩, ⟨⟨_, rfl, rfl⟩, ⟨⟨_, rfl, rfl⟩, ⟨⟨_, rfl, rfl⟩, ⟨⟨_, rfl, rfl⟩, ⟨⟨_, rfl, rfl⟩, ⟨⟨_, rfl, rfl⟩, ⟨⟨_, rfl, rfl⟩, ⟨⟨_, rfl, rfl⟩, ⟨⟨_, rfl, rfl⟩, ⟨⟨_, rfl, rfl⟩, ⟨⟨_, rfl, rfl⟩, ⟨⟨_, rfl, rfl⟩, ⟨⟨_, rfl, rfl⟩, ⟨⟨_, rfl, rfl⟩, ⟨⟨_, rfl, rfl⟩, ⟨⟨_, rfl, rfl⟩, ⟨⟨_, rfl, rfl⟩, ⟨⟨_, rfl, rfl⟩, ⟨⟨_, rfl, rfl⟩, ⟨⟨_, rfl, rfl⟩, ⟨⟨_, rfl, rfl⟩, ⟨⟨_, rfl, rfl⟩, ⟨⟨_, rfl, rfl⟩, ⟨⟨_, rfl, rfl⟩, ⟨⟨_, rfl, rfl⟩, ⟨⟨_, rfl, rfl⟩, ⟨⟨_, rfl, rfl⟩, ⟨⟨_, rfl, rfl⟩, ⟨⟨_, rfl, rfl⟩, ⟨⟨_, rfl, rfl⟩, ⟨⟨_, rfl, rfl⟩, ⟨⟨_, rfl, rfl⟩, ⟨⟨_, rfl, rfl⟩, ⟨⟨_, rfl, rfl⟩, ⟨⟨_, rfl, rfl⟩, ⟨⟨_, rfl, rfl⟩, ⟨⟨_, rfl, rfl⟩, ⟨⟨_, rfl, rfl⟩, ⟨⟨_, rfl, rfl⟩, ⟨⟨_, rfl, rfl⟩, ⟨⟨_, rfl, rfl⟩, ⟨⟨_, rfl, rfl⟩, ⟨⟨_, rfl, rfl⟩, ⟨⟨_, rfl, rfl⟩, ⟨⟨_, rfl, rfl⟩, ⟨⟨_, rfl, rfl⟩, ⟨⟨_, rfl, rfl⟩, ⟨⟨_, rfl, rfl⟩, ⟨⟨_, rfl, rfl⟩, ⟨⟨_, rfl, rfl⟩, ⟨⟨_, rfl, rfl⟩, ⟨⟨_, rfl, rfl⟩, ⟨⟨_, rfl, rfl⟩, ⟨⟨_, rfl, rfl⟩, ⟨⟨_, rfl, rfl⟩, ⟨⟨_, rfl, rfl⟩, ⟨⟨_, rfl, rfl⟩, ⟨⟨_, rfl, rfl⟩, ⟨⟨_, rfl, rfl⟩, ⟨⟨_, rfl, rfl⟩, ⟨⟨_, rfl, rfl⟩, ⟨⟨_, rfl, rfl⟩, ⟨⟨_, rfl, rfl⟩, ⟨⟨_, rfl, rfl⟩, ⟨⟨_, rfl, rfl⟩, ⟨⟨_, rfl, rfl⟩, ⟨⟨_, rfl, rfl⟩, ⟨⟨_, rfl, rfl⟩, ⟨⟨_, rfl, rfl⟩, ⟨⟨_, rfl, rfl⟩, ⟨⟨_, rfl, rfl⟩, ⟨⟨_, rfl, rfl⟩, trivial⟩⟩⟩⟩⟩⟩⟩⟩⟩⟩⟩⟩⟩⟩⟩⟩⟩⟩⟩⟩⟩⟩⟩⟩⟩⟩⟩⟩⟩⟩⟩⟩⟩⟩⟩⟩⟩⟩⟩⟩⟩⟩⟩⟩⟩⟩⟩⟩⟩⟩⟩⟩⟩⟩⟩⟩⟩⟩⟩⟩⟩⟩⟩⟩⟩⟩⟩⟩⟩⟩⟩⟩⟩⟩⟩⟩⟩⟩⟩⟩⟩⟩⟩⟩⟩⟩⟩⟩⟩⟩⟩⟩⟩⟩⟩⟩⟩⟩⟩ rfl ?_
  have h6 : ∀ i : Nat, i < 2 → (va_up (va_up (fun _ => none) 0 (some (u11 0))) 1 (some (u13 0))) i = some ((fun i => [u11, u13].getD i (fun _ => 0)) i 0) := by
    intro i hi
    rcases (show i = 0 ∨ i = 1 by omega) with rfl | rfl <;> rfl
  refine J_aeq (q0 := 94) (ws' := ([(h0, .inr (4, [.ref (u2.1 0), .ref (u2.2 0), .ref (u4.1 0), .ref (u4.2 0), .ref (u6 0), .ref (u8.1 0), .ref q9, .ref q14]))] ++ (wSeat G u2.1 (u2.2 0) (vT0 1) (vT0 2) (vT0 3) (vT0 4 0) (vT0 5 0) (vT0 6) (vT0 7) (vT0 8) ++ wSch G u2.2 (vi_X2 0) (vi_X2 1) (vi_X2 2) (vi_X2 3) (vi_X2 4) (vi_X2 5) (vi_X2 6) (vi_X2 7) (vi_X2 8 0) (vi_X2 9 0) ++ ((wSeat G u4.1 (u4.2 0) (vi_X3 1) (vi_X3 2) (vi_X3 3) (vi_X3 4 0) (vi_X3 5 0) (vi_X3 6) (vi_X3 7) (vi_X3 8) ++ wSch G u4.2 (vi_X2 0) (vi_X2 1) (vi_X2 2) (vi_X2 3) (vi_X2 4) (vi_X2 5) (vi_X2 6) (vi_X2 7) (vi_X2 8 0) (vi_X2 9 0)) ++ (wPad G u6 (vi_X1 0) (vi_X1 1 0) (vi_X1 2) (vi_X1 3) (vi_X1 4) (vi_X1 5 0) (vi_X1 6 0) (vi_X1 7 0) (vi_X1 8 0) (vi_X1 9 0) ++ ((wHis G u8.1 u8.2 (fun _ => vi_X2) 0) ++ ([(q9, .inl (G.2 3, 2, .inr (.inr (.inr (.inr (fun i => some ((fun i => [u11, u13].getD i (fun _ => 0)) i 0)))))))] ++ (wSch G u11 (vi_X2 0) (vi_X2 1) (vi_X2 2) (vi_X2 3) (vi_X2 4) (vi_X2 5) (vi_X2 6) (vi_X2 7) (vi_X2 8 0) (vi_X2 9 0) ++ (wSch G u13 (vi_X2 0) (vi_X2 1) (vi_X2 2) (vi_X2 3) (vi_X2 4) (vi_X2 5) (vi_X2 6) (vi_X2 7) (vi_X2 8 0) (vi_X2 9 0) ++ ([(q14, .inl (G.2 1, 2, .inl (fun _ => 0)))])))))))) : va_W)) rfl h6 rfl ?_
  refine J_perm (ws' := ((fun u : Nat × (Nat → Nat) × (Nat → Nat) × (Nat → Nat) × (Nat → Nat) × (Nat → Nat) × (Nat → Nat) × (Nat → Nat → Nat) × Nat × (Nat → Nat → Nat) × Nat => wEx u.1 (u.2.1 0) (u.2.2.2.1 0) (u.2.2.1 0) (u.2.2.2.2.1 0) (u.2.2.2.2.2.1 0) (u.2.2.2.2.2.2.1 0) u.2.2.2.2.2.2.2.2.1 u.2.2.2.2.2.2.2.2.2.2 ++ (wSeat G u.2.1 (u.2.2.1 0) (vT0 1) (vT0 2) (vT0 3) (vT0 4 0) (vT0 5 0) (vT0 6) (vT0 7) (vT0 8) ++ (wSch G u.2.2.1 (vi_X2 0) (vi_X2 1) (vi_X2 2) (vi_X2 3) (vi_X2 4) (vi_X2 5) (vi_X2 6) (vi_X2 7) (vi_X2 8 0) (vi_X2 9 0) ++ (wSeat G u.2.2.2.1 (u.2.2.2.2.1 0) (vi_X3 1) (vi_X3 2) (vi_X3 3) (vi_X3 4 0) (vi_X3 5 0) (vi_X3 6) (vi_X3 7) (vi_X3 8) ++ (wSch G u.2.2.2.2.1 (vi_X2 0) (vi_X2 1) (vi_X2 2) (vi_X2 3) (vi_X2 4) (vi_X2 5) (vi_X2 6) (vi_X2 7) (vi_X2 8 0) (vi_X2 9 0) ++ (wPad G u.2.2.2.2.2.1 (vi_X1 0) (vi_X1 1 0) (vi_X1 2) (vi_X1 3) (vi_X1 4) (vi_X1 5 0) (vi_X1 6 0) (vi_X1 7 0) (vi_X1 8 0) (vi_X1 9 0) ++ (wHis G u.2.2.2.2.2.2.1 u.2.2.2.2.2.2.2.1 (fun _ => vi_X2) 0 ++ (wSlots G u.2.2.2.2.2.2.2.2.1 u.2.2.2.2.2.2.2.2.2.1 (fun _ => vi_X2) ++ wUsed G u.2.2.2.2.2.2.2.2.2.2 (fun _ => 0))))))))) (h0, u2.1, u2.2, u4.1, u4.2, u6, u8.1, u8.2, q9, (fun i => [u11, u13].getD i (fun _ => 0)), q14))) [0, 1, 2, 3, 4, 5, 6, 7, 8, 9, 10, 11, 12, 13, 14, 15, 16, 17, 18, 19, 20, 21, 22, 23, 24, 25, 26, 27, 28, 29, 30, 31, 32, 33, 34, 35, 36, 37, 38, 39, 40, 41, 42, 43, 44, 45, 46, 47, 48, 49, 50, 51, 52, 53, 54, 55, 56, 57, 58, 59, 60, 61, 62, 63, 64, 65, 66, 67, 68, 69, 70, 71, 72, 73, 74, 75, 76, 77, 78, 79, 80, 81, 82, 83, 84, 85, 86, 87, 88, 89, 90, 91, 92, 93, 94, 95, 96, 97, 98, 99, 100, 101, 102, 103, 104, 105, 106, 107, 108, 109, 110, 111, 112, 113] (by decide +kernel) rfl ?_
  exact J_cret (pc := 112) C 55 (h0, u2.1, u2.2, u4.1, u4.2, u6, u8.1, u8.2, q9, (fun i => [u11, u13].getD i (fun _ => 0)), q14) rfl rfl
end
