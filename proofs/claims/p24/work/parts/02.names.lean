/-! ===== BEGIN words of one list among another's, by their places ===== -/
theorem goodIn_r {big : List Cond} (ws : List Cond) (ps : List Nat) (hp : ws = ps.filterMap (fun i => big[i]?)) (h : ws.all goodWord = true) : GoodIn big ws := by
  intro w hw
  have h1 := List.all_eq_true.mp h w hw
  rw [hp] at hw
  obtain ⟨i, -, hi⟩ := List.mem_filterMap.mp hw
  have hm : w ∈ big := by first | exact List.mem_of_getElem? hi | exact List.getElem?_mem hi
  exact ⟨hm, good_of_word h1⟩
theorem goodIn_app {big a b : List Cond} (ha : GoodIn big a) (hb : GoodIn big b) : GoodIn big (a ++ b) := fun w h => (List.mem_append.mp h).elim (ha w) (hb w)
theorem goodIn_ca {big a b : List Cond} {c : Cond} (ha : GoodIn big (c :: a)) (hb : GoodIn big b) : GoodIn big (c :: (a ++ b)) := fun w h => (List.mem_cons.mp h).elim (fun e => ha w (List.mem_cons.mpr (Or.inl e))) (fun h => (List.mem_append.mp h).elim (fun h => ha w (List.mem_cons.mpr (Or.inr h))) (hb w))
theorem goodIn_sub {big ws : List Cond} (hm : ∀ w ∈ ws, w ∈ big) (h : ws.all goodWord = true) : GoodIn big ws := fun w hw => ⟨hm w hw, good_of_word (List.all_eq_true.mp h w hw)⟩
/-! ===== END ===== -/

/-! ===== BEGIN printed: names, fields, word lists, decode rows ===== -/
def RX0 : String := "SealedGroups$Groups"
def TX0 : u_T := fun k => match k with
  | 0 => ("SealedGroups$Groups", "begins", "[I", true)
  | 1 => ("SealedGroups$Groups", "writes", "[I", true)
  | 2 => ("SealedGroups$Groups", "held", "[I", true)
  | _ => ("SealedGroups$Groups", "open", "I", false)
def tyX0 : Nat → FieldType := fun k => match k with
  | 0 => .array .int
  | 1 => .array .int
  | 2 => .array .int
  | _ => .int
abbrev wsX00 : List Cond := u_ws RX0 TX0 4
theorem nmX0 : ∀ a, a < 4 → ∀ b, b < 4 → a ≠ b → (TX0 a).2.1 ≠ (TX0 b).2.1 := by decide +kernel
theorem tyX0_ok : ∀ k, k < 4 → parseFieldDescriptor (TX0 k).2.2.1 = some (tyX0 k) := by decide +kernel
abbrev cX0_init : ByteArray := prog_2_method_1_code
def yX0_init : MethodName := ⟨RX0, "<init>", "()V"⟩
abbrev cX0_copyFrom : ByteArray := prog_2_method_2_code
def yX0_copyFrom : MethodName := ⟨RX0, "copyFrom", "(LSealedGroups$Groups;)V"⟩
abbrev cX0_isOpen : ByteArray := prog_2_method_3_code
def yX0_isOpen : MethodName := ⟨RX0, "isOpen", "(I)Z"⟩
abbrev cX0_enter : ByteArray := prog_2_method_4_code
def yX0_enter : MethodName := ⟨RX0, "enter", "(II)V"⟩
abbrev cX0_hold : ByteArray := prog_2_method_5_code
def yX0_hold : MethodName := ⟨RX0, "hold", "(II)V"⟩
abbrev cX0_leave : ByteArray := prog_2_method_6_code
def yX0_leave : MethodName := ⟨RX0, "leave", "(I)V"⟩
abbrev cX0_holderOf : ByteArray := prog_2_method_7_code
def yX0_holderOf : MethodName := ⟨RX0, "holderOf", "(I)I"⟩
abbrev cX0_beginOf : ByteArray := prog_2_method_8_code
def yX0_beginOf : MethodName := ⟨RX0, "beginOf", "(I)I"⟩
abbrev cX0_writesOf : ByteArray := prog_2_method_9_code
def yX0_writesOf : MethodName := ⟨RX0, "writesOf", "(I)I"⟩
abbrev cX0_heldBy : ByteArray := prog_2_method_10_code
def yX0_heldBy : MethodName := ⟨RX0, "heldBy", "(I)I"⟩
abbrev cX0_tell : ByteArray := prog_2_method_11_code
def yX0_tell : MethodName := ⟨RX0, "tell", "(II)I"⟩
def RX1 : String := "SealedGroups$History"
def TX1 : u_T := fun k => match k with
  | 0 => ("SealedGroups$History", "rows", "[LSealedGroups$Store;", true)
  | 1 => ("SealedGroups$History", "oldest", "I", false)
  | _ => ("SealedGroups$History", "size", "I", false)
def tyX1 : Nat → FieldType := fun k => match k with
  | 0 => .array (.object "SealedGroups$Store")
  | 1 => .int
  | _ => .int
abbrev wsX10 : List Cond := u_ws RX1 TX1 3
theorem nmX1 : ∀ a, a < 3 → ∀ b, b < 3 → a ≠ b → (TX1 a).2.1 ≠ (TX1 b).2.1 := by decide +kernel
theorem tyX1_ok : ∀ k, k < 3 → parseFieldDescriptor (TX1 k).2.2.1 = some (tyX1 k) := by decide +kernel
abbrev cX1_init : ByteArray := prog_3_method_1_code
def yX1_init : MethodName := ⟨RX1, "<init>", "()V"⟩
abbrev cX1_rowAt : ByteArray := prog_3_method_2_code
def yX1_rowAt : MethodName := ⟨RX1, "rowAt", "(I)LSealedGroups$Store;"⟩
abbrev cX1_prepare : ByteArray := prog_3_method_3_code
def yX1_prepare : MethodName := ⟨RX1, "prepare", "(LSealedGroups$Store;)V"⟩
abbrev cX1_keepUnlessError : ByteArray := prog_3_method_4_code
def yX1_keepUnlessError : MethodName := ⟨RX1, "keepUnlessError", "(I)I"⟩
def RX2 : String := "SealedGroups$Journal"
def TX2 : u_T := fun k => match k with
  | 0 => ("SealedGroups$Journal", "kinds", "[I", true)
  | 1 => ("SealedGroups$Journal", "owners", "[I", true)
  | 2 => ("SealedGroups$Journal", "pageNumbers", "[I", true)
  | 3 => ("SealedGroups$Journal", "olds", "[I", true)
  | 4 => ("SealedGroups$Journal", "news", "[I", true)
  | 5 => ("SealedGroups$Journal", "targets", "[I", true)
  | 6 => ("SealedGroups$Journal", "checkpointStarts", "[I", true)
  | 7 => ("SealedGroups$Journal", "first", "I", false)
  | 8 => ("SealedGroups$Journal", "size", "I", false)
  | 9 => ("SealedGroups$Journal", "forced", "I", false)
  | 10 => ("SealedGroups$Journal", "latestCheckpoint", "I", false)
  | _ => ("SealedGroups$Journal", "dropLimit", "I", false)
def tyX2 : Nat → FieldType := fun k => match k with
  | 0 => .array .int
  | 1 => .array .int
  | 2 => .array .int
  | 3 => .array .int
  | 4 => .array .int
  | 5 => .array .int
  | 6 => .array .int
  | 7 => .int
  | 8 => .int
  | 9 => .int
  | 10 => .int
  | _ => .int
abbrev wsX20 : List Cond := u_ws RX2 TX2 12
theorem nmX2 : ∀ a, a < 12 → ∀ b, b < 12 → a ≠ b → (TX2 a).2.1 ≠ (TX2 b).2.1 := by decide +kernel
theorem tyX2_ok : ∀ k, k < 12 → parseFieldDescriptor (TX2 k).2.2.1 = some (tyX2 k) := by decide +kernel
abbrev cX2_init : ByteArray := prog_4_method_1_code
def yX2_init : MethodName := ⟨RX2, "<init>", "()V"⟩
abbrev cX2_copyFrom : ByteArray := prog_4_method_2_code
def yX2_copyFrom : MethodName := ⟨RX2, "copyFrom", "(LSealedGroups$Journal;)V"⟩
abbrev cX2_isFull : ByteArray := prog_4_method_3_code
def yX2_isFull : MethodName := ⟨RX2, "isFull", "()Z"⟩
abbrev cX2_last : ByteArray := prog_4_method_4_code
def yX2_last : MethodName := ⟨RX2, "last", "()I"⟩
abbrev cX2_has : ByteArray := prog_4_method_5_code
def yX2_has : MethodName := ⟨RX2, "has", "(I)Z"⟩
abbrev cX2_at : ByteArray := prog_4_method_6_code
def yX2_at : MethodName := ⟨RX2, "at", "([II)I"⟩
abbrev cX2_append : ByteArray := prog_4_method_7_code
def yX2_append : MethodName := ⟨RX2, "append", "(IIIIII)I"⟩
abbrev cX2_forceUpTo : ByteArray := prog_4_method_8_code
def yX2_forceUpTo : MethodName := ⟨RX2, "forceUpTo", "(I)I"⟩
abbrev cX2_appendCheckpoint : ByteArray := prog_4_method_9_code
def yX2_appendCheckpoint : MethodName := ⟨RX2, "appendCheckpoint", "(LSealedGroups$Groups;LSealedGroups$Pages;)I"⟩
abbrev cX2_droppable : ByteArray := prog_4_method_10_code
def yX2_droppable : MethodName := ⟨RX2, "droppable", "()I"⟩
abbrev cX2_dropFirst : ByteArray := prog_4_method_11_code
def yX2_dropFirst : MethodName := ⟨RX2, "dropFirst", "()I"⟩
abbrev cX2_loseRecords : ByteArray := prog_4_method_12_code
def yX2_loseRecords : MethodName := ⟨RX2, "loseRecords", "(ZI)I"⟩
abbrev cX2_settledValueOf : ByteArray := prog_4_method_13_code
def yX2_settledValueOf : MethodName := ⟨RX2, "settledValueOf", "(I)I"⟩
abbrev cX2_tell : ByteArray := prog_4_method_14_code
def yX2_tell : MethodName := ⟨RX2, "tell", "(II)I"⟩
abbrev cX2_tellNumber : ByteArray := prog_4_method_15_code
def yX2_tellNumber : MethodName := ⟨RX2, "tellNumber", "(I)I"⟩
def RX3 : String := "SealedGroups$OrderText"
def TX3 : u_T := fun k => match k with
  | 0 => ("SealedGroups$OrderText", "signs", "[C", true)
  | 1 => ("SealedGroups$OrderText", "length", "I", false)
  | 2 => ("SealedGroups$OrderText", "next", "I", false)
  | 3 => ("SealedGroups$OrderText", "letter", "I", false)
  | 4 => ("SealedGroups$OrderText", "number", "I", false)
  | 5 => ("SealedGroups$OrderText", "page", "I", false)
  | 6 => ("SealedGroups$OrderText", "value", "I", false)
  | _ => ("SealedGroups$OrderText", "brokenAt", "I", false)
def tyX3 : Nat → FieldType := fun k => match k with
  | 0 => .array .char
  | 1 => .int
  | 2 => .int
  | 3 => .int
  | 4 => .int
  | 5 => .int
  | 6 => .int
  | _ => .int
abbrev wsX30 : List Cond := u_ws RX3 TX3 8
theorem nmX3 : ∀ a, a < 8 → ∀ b, b < 8 → a ≠ b → (TX3 a).2.1 ≠ (TX3 b).2.1 := by decide +kernel
theorem tyX3_ok : ∀ k, k < 8 → parseFieldDescriptor (TX3 k).2.2.1 = some (tyX3 k) := by decide +kernel
abbrev cX3_init : ByteArray := prog_5_method_1_code
def yX3_init : MethodName := ⟨RX3, "<init>", "()V"⟩
def RX4 : String := "SealedGroups$Pages"
def TX4 : u_T := fun k => match k with
  | 0 => ("SealedGroups$Pages", "diskValues", "[I", true)
  | 1 => ("SealedGroups$Pages", "diskMarks", "[I", true)
  | 2 => ("SealedGroups$Pages", "values", "[I", true)
  | 3 => ("SealedGroups$Pages", "marks", "[I", true)
  | 4 => ("SealedGroups$Pages", "starts", "[I", true)
  | 5 => ("SealedGroups$Pages", "cached", "I", false)
  | _ => ("SealedGroups$Pages", "dirty", "I", false)
def tyX4 : Nat → FieldType := fun k => match k with
  | 0 => .array .int
  | 1 => .array .int
  | 2 => .array .int
  | 3 => .array .int
  | 4 => .array .int
  | 5 => .int
  | _ => .int
abbrev wsX40 : List Cond := u_ws RX4 TX4 7
theorem nmX4 : ∀ a, a < 7 → ∀ b, b < 7 → a ≠ b → (TX4 a).2.1 ≠ (TX4 b).2.1 := by decide +kernel
theorem tyX4_ok : ∀ k, k < 7 → parseFieldDescriptor (TX4 k).2.2.1 = some (tyX4 k) := by decide +kernel
abbrev cX4_init : ByteArray := prog_6_method_1_code
def yX4_init : MethodName := ⟨RX4, "<init>", "()V"⟩
abbrev cX4_copyFrom : ByteArray := prog_6_method_2_code
def yX4_copyFrom : MethodName := ⟨RX4, "copyFrom", "(LSealedGroups$Pages;)V"⟩
abbrev cX4_valueOf : ByteArray := prog_6_method_3_code
def yX4_valueOf : MethodName := ⟨RX4, "valueOf", "(I)I"⟩
abbrev cX4_markOf : ByteArray := prog_6_method_4_code
def yX4_markOf : MethodName := ⟨RX4, "markOf", "(I)I"⟩
abbrev cX4_startOf : ByteArray := prog_6_method_5_code
def yX4_startOf : MethodName := ⟨RX4, "startOf", "(I)I"⟩
abbrev cX4_put : ByteArray := prog_6_method_6_code
def yX4_put : MethodName := ⟨RX4, "put", "(III)V"⟩
abbrev cX4_toDisk : ByteArray := prog_6_method_7_code
def yX4_toDisk : MethodName := ⟨RX4, "toDisk", "(I)V"⟩
abbrev cX4_emptyCache : ByteArray := prog_6_method_8_code
def yX4_emptyCache : MethodName := ⟨RX4, "emptyCache", "()V"⟩
abbrev cX4_highestDiskMark : ByteArray := prog_6_method_9_code
def yX4_highestDiskMark : MethodName := ⟨RX4, "highestDiskMark", "()I"⟩
abbrev cX4_tell : ByteArray := prog_6_method_10_code
def yX4_tell : MethodName := ⟨RX4, "tell", "(II)I"⟩
def RX5 : String := "SealedGroups$Restarter"
def TX5 : u_T := fun k => match k with
  | 0 => ("SealedGroups$Restarter", "starts", "[I", true)
  | 1 => ("SealedGroups$Restarter", "takenBack", "[I", true)
  | 2 => ("SealedGroups$Restarter", "lookedFrom", "I", false)
  | 3 => ("SealedGroups$Restarter", "losers", "I", false)
  | 4 => ("SealedGroups$Restarter", "doneAgain", "I", false)
  | _ => ("SealedGroups$Restarter", "writesTakenBack", "I", false)
def tyX5 : Nat → FieldType := fun k => match k with
  | 0 => .array .int
  | 1 => .array .int
  | 2 => .int
  | 3 => .int
  | 4 => .int
  | _ => .int
abbrev wsX50 : List Cond := u_ws RX5 TX5 6
theorem nmX5 : ∀ a, a < 6 → ∀ b, b < 6 → a ≠ b → (TX5 a).2.1 ≠ (TX5 b).2.1 := by decide +kernel
theorem tyX5_ok : ∀ k, k < 6 → parseFieldDescriptor (TX5 k).2.2.1 = some (tyX5 k) := by decide +kernel
abbrev cX5_init : ByteArray := prog_7_method_1_code
def yX5_init : MethodName := ⟨RX5, "<init>", "()V"⟩
abbrev cX5_run : ByteArray := prog_7_method_2_code
def yX5_run : MethodName := ⟨RX5, "run", "(LSealedGroups$Store;)I"⟩
abbrev cX5_tell : ByteArray := prog_7_method_3_code
def yX5_tell : MethodName := ⟨RX5, "tell", "(I)I"⟩
abbrev cX5_look : ByteArray := prog_7_method_4_code
def yX5_look : MethodName := ⟨RX5, "look", "(LSealedGroups$Journal;)V"⟩
abbrev cX5_lookAt : ByteArray := prog_7_method_5_code
def yX5_lookAt : MethodName := ⟨RX5, "lookAt", "(LSealedGroups$Journal;I)V"⟩
abbrev cX5_doAgain : ByteArray := prog_7_method_6_code
def yX5_doAgain : MethodName := ⟨RX5, "doAgain", "(LSealedGroups$Journal;LSealedGroups$Pages;)V"⟩
abbrev cX5_isAfterStart : ByteArray := prog_7_method_7_code
def yX5_isAfterStart : MethodName := ⟨RX5, "isAfterStart", "(II)Z"⟩
abbrev cX5_leastStart : ByteArray := prog_7_method_8_code
def yX5_leastStart : MethodName := ⟨RX5, "leastStart", "()I"⟩
abbrev cX5_takeLosersBack : ByteArray := prog_7_method_9_code
def yX5_takeLosersBack : MethodName := ⟨RX5, "takeLosersBack", "(LSealedGroups$Store;)V"⟩
abbrev cX5_noteTakenBack : ByteArray := prog_7_method_10_code
def yX5_noteTakenBack : MethodName := ⟨RX5, "noteTakenBack", "(I)V"⟩
abbrev cX5_isTakenBack : ByteArray := prog_7_method_11_code
def yX5_isTakenBack : MethodName := ⟨RX5, "isTakenBack", "(I)Z"⟩
def RX6 : String := "SealedGroups$Store"
def TX6 : u_T := fun k => match k with
  | 0 => ("SealedGroups$Store", "pages", "LSealedGroups$Pages;", true)
  | 1 => ("SealedGroups$Store", "groups", "LSealedGroups$Groups;", true)
  | 2 => ("SealedGroups$Store", "journal", "LSealedGroups$Journal;", true)
  | 3 => ("SealedGroups$Store", "stopped", "Z", false)
  | _ => ("SealedGroups$Store", "doneAgain", "I", false)
def tyX6 : Nat → FieldType := fun k => match k with
  | 0 => .object "SealedGroups$Pages"
  | 1 => .object "SealedGroups$Groups"
  | 2 => .object "SealedGroups$Journal"
  | 3 => .boolean
  | _ => .int
abbrev wsX60 : List Cond := u_ws RX6 TX6 5
theorem nmX6 : ∀ a, a < 5 → ∀ b, b < 5 → a ≠ b → (TX6 a).2.1 ≠ (TX6 b).2.1 := by decide +kernel
theorem tyX6_ok : ∀ k, k < 5 → parseFieldDescriptor (TX6 k).2.2.1 = some (tyX6 k) := by decide +kernel
abbrev cX6_init : ByteArray := prog_8_method_1_code
def yX6_init : MethodName := ⟨RX6, "<init>", "()V"⟩
abbrev cX6_copyFrom : ByteArray := prog_8_method_2_code
def yX6_copyFrom : MethodName := ⟨RX6, "copyFrom", "(LSealedGroups$Store;)V"⟩
abbrev cX6_beginGroup : ByteArray := prog_8_method_3_code
def yX6_beginGroup : MethodName := ⟨RX6, "beginGroup", "(I)I"⟩
abbrev cX6_writePage : ByteArray := prog_8_method_4_code
def yX6_writePage : MethodName := ⟨RX6, "writePage", "(III)I"⟩
abbrev cX6_errorOfEnding : ByteArray := prog_8_method_5_code
def yX6_errorOfEnding : MethodName := ⟨RX6, "errorOfEnding", "(II)I"⟩
abbrev cX6_settleGroup : ByteArray := prog_8_method_6_code
def yX6_settleGroup : MethodName := ⟨RX6, "settleGroup", "(I)I"⟩
abbrev cX6_takeGroupBack : ByteArray := prog_8_method_7_code
def yX6_takeGroupBack : MethodName := ⟨RX6, "takeGroupBack", "(I)I"⟩
abbrev cX6_takeWriteBack : ByteArray := prog_8_method_8_code
def yX6_takeWriteBack : MethodName := ⟨RX6, "takeWriteBack", "(I)V"⟩
abbrev cX6_endGroup : ByteArray := prog_8_method_9_code
def yX6_endGroup : MethodName := ⟨RX6, "endGroup", "(I)V"⟩
abbrev cX6_writePageOut : ByteArray := prog_8_method_10_code
def yX6_writePageOut : MethodName := ⟨RX6, "writePageOut", "(I)I"⟩
abbrev cX6_dropPageOut : ByteArray := prog_8_method_11_code
def yX6_dropPageOut : MethodName := ⟨RX6, "dropPageOut", "(I)I"⟩
abbrev cX6_makeCheckpoint : ByteArray := prog_8_method_12_code
def yX6_makeCheckpoint : MethodName := ⟨RX6, "makeCheckpoint", "()I"⟩
abbrev cX6_dropOldRecords : ByteArray := prog_8_method_13_code
def yX6_dropOldRecords : MethodName := ⟨RX6, "dropOldRecords", "()I"⟩
abbrev cX6_forceAll : ByteArray := prog_8_method_14_code
def yX6_forceAll : MethodName := ⟨RX6, "forceAll", "()I"⟩
abbrev cX6_stopStore : ByteArray := prog_8_method_15_code
def yX6_stopStore : MethodName := ⟨RX6, "stopStore", "(I)I"⟩
def RX7 : String := "SealedGroups"
def TX7 : u_T := fun k => match k with
  | 0 => ("SealedGroups", "now", "LSealedGroups$Store;", true)
  | 1 => ("SealedGroups", "trial", "LSealedGroups$Store;", true)
  | 2 => ("SealedGroups", "restarter", "LSealedGroups$Restarter;", true)
  | 3 => ("SealedGroups", "history", "LSealedGroups$History;", true)
  | 4 => ("SealedGroups", "text", "LSealedGroups$OrderText;", true)
  | 5 => ("SealedGroups", "faultPosition", "I", false)
  | 6 => ("SealedGroups", "faultReason", "I", false)
  | _ => ("SealedGroups", "ordersDone", "I", false)
def tyX7 : Nat → FieldType := fun k => match k with
  | 0 => .object "SealedGroups$Store"
  | 1 => .object "SealedGroups$Store"
  | 2 => .object "SealedGroups$Restarter"
  | 3 => .object "SealedGroups$History"
  | 4 => .object "SealedGroups$OrderText"
  | 5 => .int
  | 6 => .int
  | _ => .int
abbrev wsX70 : List Cond := u_ws RX7 TX7 8
theorem nmX7 : ∀ a, a < 8 → ∀ b, b < 8 → a ≠ b → (TX7 a).2.1 ≠ (TX7 b).2.1 := by decide +kernel
theorem tyX7_ok : ∀ k, k < 8 → parseFieldDescriptor (TX7 k).2.2.1 = some (tyX7 k) := by decide +kernel
abbrev cX7_init : ByteArray := prog_1_method_1_code
def yX7_init : MethodName := ⟨RX7, "<init>", "()V"⟩
abbrev cX7_begin : ByteArray := prog_1_method_2_code
def yX7_begin : MethodName := ⟨RX7, "begin", "(I)I"⟩
abbrev cX7_write : ByteArray := prog_1_method_3_code
def yX7_write : MethodName := ⟨RX7, "write", "(III)I"⟩
abbrev cX7_settle : ByteArray := prog_1_method_4_code
def yX7_settle : MethodName := ⟨RX7, "settle", "(I)I"⟩
abbrev cX7_takeBack : ByteArray := prog_1_method_5_code
def yX7_takeBack : MethodName := ⟨RX7, "takeBack", "(I)I"⟩
abbrev cX7_writeOut : ByteArray := prog_1_method_6_code
def yX7_writeOut : MethodName := ⟨RX7, "writeOut", "(I)I"⟩
abbrev cX7_dropOut : ByteArray := prog_1_method_7_code
def yX7_dropOut : MethodName := ⟨RX7, "dropOut", "(I)I"⟩
abbrev cX7_checkpoint : ByteArray := prog_1_method_8_code
def yX7_checkpoint : MethodName := ⟨RX7, "checkpoint", "()I"⟩
abbrev cX7_dropRecords : ByteArray := prog_1_method_9_code
def yX7_dropRecords : MethodName := ⟨RX7, "dropRecords", "()I"⟩
abbrev cX7_force : ByteArray := prog_1_method_10_code
def yX7_force : MethodName := ⟨RX7, "force", "()I"⟩
abbrev cX7_stop : ByteArray := prog_1_method_11_code
def yX7_stop : MethodName := ⟨RX7, "stop", "(I)I"⟩
abbrev cX7_restart : ByteArray := prog_1_method_12_code
def yX7_restart : MethodName := ⟨RX7, "restart", "()I"⟩
abbrev cX7_pageOf : ByteArray := prog_1_method_13_code
def yX7_pageOf : MethodName := ⟨RX7, "pageOf", "(II)I"⟩
abbrev cX7_recordOf : ByteArray := prog_1_method_14_code
def yX7_recordOf : MethodName := ⟨RX7, "recordOf", "(II)I"⟩
abbrev cX7_groupOf : ByteArray := prog_1_method_15_code
def yX7_groupOf : MethodName := ⟨RX7, "groupOf", "(II)I"⟩
abbrev cX7_would : ByteArray := prog_1_method_16_code
def yX7_would : MethodName := ⟨RX7, "would", "(II)I"⟩
abbrev cX7_count : ByteArray := prog_1_method_17_code
def yX7_count : MethodName := ⟨RX7, "count", "(I)I"⟩
def RX8 : String := "SealedGroupsModel"
def TX8 : u_T := fun k => match k with
  | _ => ("", "", "", false)
def tyX8 : Nat → FieldType := fun k => match k with
  | _ => .int
abbrev wsX80 : List Cond := u_ws RX8 TX8 0
theorem nmX8 : ∀ a, a < 0 → ∀ b, b < 0 → a ≠ b → (TX8 a).2.1 ≠ (TX8 b).2.1 := by decide +kernel
theorem tyX8_ok : ∀ k, k < 0 → parseFieldDescriptor (TX8 k).2.2.1 = some (tyX8 k) := by decide +kernel
def RJ6 : String := "java/lang/Integer"
def TJ6 : u_T := fun k => match k with
  | _ => ("", "", "", false)
def tyJ6 : Nat → FieldType := fun k => match k with
  | _ => .int
abbrev wsJ60 : List Cond := u_ws RJ6 TJ6 0
theorem nmJ6 : ∀ a, a < 0 → ∀ b, b < 0 → a ≠ b → (TJ6 a).2.1 ≠ (TJ6 b).2.1 := by decide +kernel
theorem tyJ6_ok : ∀ k, k < 0 → parseFieldDescriptor (TJ6 k).2.2.1 = some (tyJ6 k) := by decide +kernel
abbrev cJ6_bitCount_0f7a4 : ByteArray := prog_11_method_49_code
def yJ6_bitCount_0f7a4 : MethodName := ⟨RJ6, "bitCount", "(I)I"⟩
def RJ9 : String := "java/lang/Math"
def TJ9 : u_T := fun k => match k with
  | _ => ("", "", "", false)
def tyJ9 : Nat → FieldType := fun k => match k with
  | _ => .int
abbrev wsJ90 : List Cond := u_ws RJ9 TJ9 0
theorem nmJ9 : ∀ a, a < 0 → ∀ b, b < 0 → a ≠ b → (TJ9 a).2.1 ≠ (TJ9 b).2.1 := by decide +kernel
theorem tyJ9_ok : ∀ k, k < 0 → parseFieldDescriptor (TJ9 k).2.2.1 = some (tyJ9 k) := by decide +kernel
abbrev cJ9_floorMod_7cf53 : ByteArray := prog_12_method_50_code
def yJ9_floorMod_7cf53 : MethodName := ⟨RJ9, "floorMod", "(II)I"⟩
abbrev cJ9_max_7cf53 : ByteArray := prog_12_method_65_code
def yJ9_max_7cf53 : MethodName := ⟨RJ9, "max", "(II)I"⟩
abbrev cJ9_min_7cf53 : ByteArray := prog_12_method_69_code
def yJ9_min_7cf53 : MethodName := ⟨RJ9, "min", "(II)I"⟩
def RJ10 : String := "java/lang/System"
def TJ10 : u_T := fun k => match k with
  | _ => ("", "", "", false)
def tyJ10 : Nat → FieldType := fun k => match k with
  | _ => .int
abbrev wsJ100 : List Cond := u_ws RJ10 TJ10 0
theorem nmJ10 : ∀ a, a < 0 → ∀ b, b < 0 → a ≠ b → (TJ10 a).2.1 ≠ (TJ10 b).2.1 := by decide +kernel
theorem tyJ10_ok : ∀ k, k < 0 → parseFieldDescriptor (TJ10 k).2.2.1 = some (tyJ10 k) := by decide +kernel
def RL : String := "SealedGroupsLaw"
abbrev cL_cell : ByteArray := method_2_code
def yL_cell : MethodName := ⟨RL, "cell", "([II)I"⟩
abbrev cL_low : ByteArray := method_3_code
def yL_low : MethodName := ⟨RL, "low", "(II)I"⟩
abbrev cL_of : ByteArray := method_4_code
def yL_of : MethodName := ⟨RL, "of", "([J[III)I"⟩
abbrev cL_last : ByteArray := method_5_code
def yL_last : MethodName := ⟨RL, "last", "([I)I"⟩
abbrev cL_add : ByteArray := method_6_code
def yL_add : MethodName := ⟨RL, "add", "([J[IIIIIII)I"⟩
abbrev cL_value : ByteArray := method_7_code
def yL_value : MethodName := ⟨RL, "value", "([II)I"⟩
abbrev cL_mark : ByteArray := method_8_code
def yL_mark : MethodName := ⟨RL, "mark", "([II)I"⟩
abbrev cL_come : ByteArray := method_9_code
def yL_come : MethodName := ⟨RL, "come", "([IIII)V"⟩
abbrev cL_force : ByteArray := method_10_code
def yL_force : MethodName := ⟨RL, "force", "([II)I"⟩
abbrev cL_holder : ByteArray := method_11_code
def yL_holder : MethodName := ⟨RL, "holder", "([II)I"⟩
abbrev cL_dirty : ByteArray := method_12_code
def yL_dirty : MethodName := ⟨RL, "dirty", "([I)I"⟩
abbrev cL_open : ByteArray := method_13_code
def yL_open : MethodName := ⟨RL, "open", "([I)I"⟩
abbrev cL_back : ByteArray := method_14_code
def yL_back : MethodName := ⟨RL, "back", "([I[I[JI)I"⟩
abbrev cL_latest : ByteArray := method_15_code
def yL_latest : MethodName := ⟨RL, "latest", "([I[J)I"⟩
abbrev cL_drop : ByteArray := method_16_code
def yL_drop : MethodName := ⟨RL, "drop", "([I[J[I)I"⟩
abbrev cL_stop : ByteArray := method_17_code
def yL_stop : MethodName := ⟨RL, "stop", "([I[I[I[JI)I"⟩
abbrev cL_start : ByteArray := method_18_code
def yL_start : MethodName := ⟨RL, "start", "([I[I[J[I[I)I"⟩
abbrev cL_acts : ByteArray := method_19_code
def yL_acts : MethodName := ⟨RL, "acts", "(LSealedGroups;[I[I[I[J[II)Z"⟩
abbrev cL_isRecord : ByteArray := method_20_code
def yL_isRecord : MethodName := ⟨RL, "isRecord", "(LSealedGroups;[I[JI)Z"⟩
abbrev cL_arePages : ByteArray := method_21_code
def yL_arePages : MethodName := ⟨RL, "arePages", "(LSealedGroups;[I[I)Z"⟩
abbrev cL_isSo : ByteArray := method_22_code
def yL_isSo : MethodName := ⟨RL, "isSo", "(LSealedGroups;[I[I[I[J[II)Z"⟩
abbrev cL_law : ByteArray := code
def yL_law : MethodName := ⟨RL, "law", "([I)Z"⟩
abbrev vwCl : List vw_C := [(RX0, TX0, 4), (RX1, TX1, 3), (RX2, TX2, 12), (RX3, TX3, 8), (RX4, TX4, 7), (RX5, TX5, 6), (RX6, TX6, 5), (RX7, TX7, 8)]
def wsL_law : List Cond := lw_tbl.filter goodWord
theorem wsL_law_good : GoodIn lw_tbl wsL_law := fun w h => ⟨(List.mem_filter.mp h).1, good_of_word (List.mem_filter.mp h).2⟩
theorem wsL_law_in : ∀ w ∈ wsL_law, w ∈ lw_tbl := fun w h => (wsL_law_good w h).1
theorem wm {w : Cond} (h : w ∈ lw_tbl) (g : goodWord w = true) : w ∈ wsL_law := List.mem_filter.mpr ⟨h, g⟩
theorem inX0 : ∀ w ∈ wsX00, w ∈ wsL_law := by decide +kernel
theorem inX1 : ∀ w ∈ wsX10, w ∈ wsL_law := by decide +kernel
theorem inX2 : ∀ w ∈ wsX20, w ∈ wsL_law := by decide +kernel
theorem inX3 : ∀ w ∈ wsX30, w ∈ wsL_law := by decide +kernel
theorem inX4 : ∀ w ∈ wsX40, w ∈ wsL_law := by decide +kernel
theorem inX5 : ∀ w ∈ wsX50, w ∈ wsL_law := by decide +kernel
theorem inX6 : ∀ w ∈ wsX60, w ∈ wsL_law := by decide +kernel
theorem inX7 : ∀ w ∈ wsX70, w ∈ wsL_law := by decide +kernel
